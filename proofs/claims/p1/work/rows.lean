section
-- ===== PART A: goes FIRST, ahead of the names: the tables' words, and 'selects' of the private methods out of them =====
/-- a private method of a class that the tables say can be made, by its rows of tables_1 -/
def lw_okq (q : MethodName × Nat) : Prop := (q.1.cls ≠ "java/lang/invoke/MethodHandle" ∧ q.1.cls ≠ "java/lang/invoke/VarHandle") ∧ Cond.instantiable q.1.cls q.2 ∈ tables_1 ∧ Cond.privateMethod q.1 ∈ tables_1 ∧ Cond.instanceMethod q.1 ∈ tables_1
theorem lw_p0 : lw_okq (⟨"DimShelf$Shelf", "sizeOf", "(I)I"⟩, 18) := ⟨⟨by decide +kernel, by decide +kernel⟩, List.mem_of_getElem? (i := 27) (by decide +kernel), List.mem_of_getElem? (i := 43) (by decide +kernel), List.mem_of_getElem? (i := 44) (by decide +kernel)⟩
theorem lw_p1 : lw_okq (⟨"DimShelf$Shelf", "setCell", "(III)V"⟩, 18) := ⟨⟨by decide +kernel, by decide +kernel⟩, List.mem_of_getElem? (i := 27) (by decide +kernel), List.mem_of_getElem? (i := 47) (by decide +kernel), List.mem_of_getElem? (i := 48) (by decide +kernel)⟩
theorem lw_p2 : lw_okq (⟨"DimShelf$Shelf", "hold", "()V"⟩, 18) := ⟨⟨by decide +kernel, by decide +kernel⟩, List.mem_of_getElem? (i := 27) (by decide +kernel), List.mem_of_getElem? (i := 51) (by decide +kernel), List.mem_of_getElem? (i := 52) (by decide +kernel)⟩
theorem lw_p3 : lw_okq (⟨"DimShelf", "put", "(I)V"⟩, 14) := ⟨⟨by decide +kernel, by decide +kernel⟩, List.mem_of_getElem? (i := 19) (by decide +kernel), List.mem_of_getElem? (i := 496) (by decide +kernel), List.mem_of_getElem? (i := 497) (by decide +kernel)⟩
theorem lw_p4 : lw_okq (⟨"DimShelf", "understand", "(ILDimShelf$Shelf;)V"⟩, 14) := ⟨⟨by decide +kernel, by decide +kernel⟩, List.mem_of_getElem? (i := 19) (by decide +kernel), List.mem_of_getElem? (i := 509) (by decide +kernel), List.mem_of_getElem? (i := 510) (by decide +kernel)⟩
theorem lw_p5 : lw_okq (⟨"DimShelf$Tokens", "scanOne", "([CII)I"⟩, 4) := ⟨⟨by decide +kernel, by decide +kernel⟩, List.mem_of_getElem? (i := 128) (by decide +kernel), List.mem_of_getElem? (i := 520) (by decide +kernel), List.mem_of_getElem? (i := 521) (by decide +kernel)⟩
theorem lw_p6 : lw_okq (⟨"DimShelf$Tokens", "scanName", "([CII)I"⟩, 4) := ⟨⟨by decide +kernel, by decide +kernel⟩, List.mem_of_getElem? (i := 128) (by decide +kernel), List.mem_of_getElem? (i := 527) (by decide +kernel), List.mem_of_getElem? (i := 528) (by decide +kernel)⟩
theorem lw_p7 : lw_okq (⟨"DimShelf$Tokens", "add", "(IIJ)V"⟩, 4) := ⟨⟨by decide +kernel, by decide +kernel⟩, List.mem_of_getElem? (i := 128) (by decide +kernel), List.mem_of_getElem? (i := 534) (by decide +kernel), List.mem_of_getElem? (i := 535) (by decide +kernel)⟩
theorem lw_p8 : lw_okq (⟨"DimShelf$Tokens", "scanNumber", "([CII)I"⟩, 4) := ⟨⟨by decide +kernel, by decide +kernel⟩, List.mem_of_getElem? (i := 128) (by decide +kernel), List.mem_of_getElem? (i := 543) (by decide +kernel), List.mem_of_getElem? (i := 544) (by decide +kernel)⟩
theorem lw_p9 : lw_okq (⟨"DimShelf$Parser", "push", "(I)V"⟩, 16) := ⟨⟨by decide +kernel, by decide +kernel⟩, List.mem_of_getElem? (i := 183) (by decide +kernel), List.mem_of_getElem? (i := 559) (by decide +kernel), List.mem_of_getElem? (i := 560) (by decide +kernel)⟩
theorem lw_p10 : lw_okq (⟨"DimShelf$Parser", "note", "(II)V"⟩, 16) := ⟨⟨by decide +kernel, by decide +kernel⟩, List.mem_of_getElem? (i := 183) (by decide +kernel), List.mem_of_getElem? (i := 564) (by decide +kernel), List.mem_of_getElem? (i := 565) (by decide +kernel)⟩
theorem lw_p11 : lw_okq (⟨"DimShelf$Parser", "hasRoom", "(I)Z"⟩, 16) := ⟨⟨by decide +kernel, by decide +kernel⟩, List.mem_of_getElem? (i := 183) (by decide +kernel), List.mem_of_getElem? (i := 568) (by decide +kernel), List.mem_of_getElem? (i := 569) (by decide +kernel)⟩
theorem lw_p12 : lw_okq (⟨"DimShelf$Parser", "hasRoomForTable", "()Z"⟩, 16) := ⟨⟨by decide +kernel, by decide +kernel⟩, List.mem_of_getElem? (i := 183) (by decide +kernel), List.mem_of_getElem? (i := 572) (by decide +kernel), List.mem_of_getElem? (i := 573) (by decide +kernel)⟩
theorem lw_p13 : lw_okq (⟨"DimShelf$Parser", "hasRoomForRow", "()Z"⟩, 16) := ⟨⟨by decide +kernel, by decide +kernel⟩, List.mem_of_getElem? (i := 183) (by decide +kernel), List.mem_of_getElem? (i := 580) (by decide +kernel), List.mem_of_getElem? (i := 581) (by decide +kernel)⟩
theorem lw_p14 : lw_okq (⟨"DimShelf$Parser", "keep", "(II)V"⟩, 16) := ⟨⟨by decide +kernel, by decide +kernel⟩, List.mem_of_getElem? (i := 183) (by decide +kernel), List.mem_of_getElem? (i := 584) (by decide +kernel), List.mem_of_getElem? (i := 585) (by decide +kernel)⟩
theorem lw_p15 : lw_okq (⟨"DimShelf$Parser", "expand", "(I)V"⟩, 16) := ⟨⟨by decide +kernel, by decide +kernel⟩, List.mem_of_getElem? (i := 183) (by decide +kernel), List.mem_of_getElem? (i := 608) (by decide +kernel), List.mem_of_getElem? (i := 609) (by decide +kernel)⟩
def lw_privs_1 : List (MethodName × Nat) := [(⟨"DimShelf$Shelf", "sizeOf", "(I)I"⟩, 18), (⟨"DimShelf$Shelf", "setCell", "(III)V"⟩, 18), (⟨"DimShelf$Shelf", "hold", "()V"⟩, 18), (⟨"DimShelf", "put", "(I)V"⟩, 14), (⟨"DimShelf", "understand", "(ILDimShelf$Shelf;)V"⟩, 14), (⟨"DimShelf$Tokens", "scanOne", "([CII)I"⟩, 4), (⟨"DimShelf$Tokens", "scanName", "([CII)I"⟩, 4), (⟨"DimShelf$Tokens", "add", "(IIJ)V"⟩, 4), (⟨"DimShelf$Tokens", "scanNumber", "([CII)I"⟩, 4), (⟨"DimShelf$Parser", "push", "(I)V"⟩, 16), (⟨"DimShelf$Parser", "note", "(II)V"⟩, 16), (⟨"DimShelf$Parser", "hasRoom", "(I)Z"⟩, 16), (⟨"DimShelf$Parser", "hasRoomForTable", "()Z"⟩, 16), (⟨"DimShelf$Parser", "hasRoomForRow", "()Z"⟩, 16), (⟨"DimShelf$Parser", "keep", "(II)V"⟩, 16), (⟨"DimShelf$Parser", "expand", "(I)V"⟩, 16)]
theorem lw_r1 : ∀ q ∈ lw_privs_1, lw_okq q := List.forall_mem_cons.mpr ⟨lw_p0, List.forall_mem_cons.mpr ⟨lw_p1, List.forall_mem_cons.mpr ⟨lw_p2, List.forall_mem_cons.mpr ⟨lw_p3, List.forall_mem_cons.mpr ⟨lw_p4, List.forall_mem_cons.mpr ⟨lw_p5, List.forall_mem_cons.mpr ⟨lw_p6, List.forall_mem_cons.mpr ⟨lw_p7, List.forall_mem_cons.mpr ⟨lw_p8, List.forall_mem_cons.mpr ⟨lw_p9, List.forall_mem_cons.mpr ⟨lw_p10, List.forall_mem_cons.mpr ⟨lw_p11, List.forall_mem_cons.mpr ⟨lw_p12, List.forall_mem_cons.mpr ⟨lw_p13, List.forall_mem_cons.mpr ⟨lw_p14, List.forall_mem_cons.mpr ⟨lw_p15, fun _ h => absurd h List.not_mem_nil⟩⟩⟩⟩⟩⟩⟩⟩⟩⟩⟩⟩⟩⟩⟩⟩
theorem lw_p16 : lw_okq (⟨"DimShelf$Parser", "take", "(I)V"⟩, 16) := ⟨⟨by decide +kernel, by decide +kernel⟩, List.mem_of_getElem? (i := 183) (by decide +kernel), List.mem_of_getElem? (i := 740) (by decide +kernel), List.mem_of_getElem? (i := 741) (by decide +kernel)⟩
theorem lw_p17 : lw_okq (⟨"DimShelf$Checker", "checkQuery", "(II)V"⟩, 9) := ⟨⟨by decide +kernel, by decide +kernel⟩, List.mem_of_getElem? (i := 238) (by decide +kernel), List.mem_of_getElem? (i := 752) (by decide +kernel), List.mem_of_getElem? (i := 753) (by decide +kernel)⟩
theorem lw_p18 : lw_okq (⟨"DimShelf$Checker", "load", "(I)V"⟩, 9) := ⟨⟨by decide +kernel, by decide +kernel⟩, List.mem_of_getElem? (i := 238) (by decide +kernel), List.mem_of_getElem? (i := 756) (by decide +kernel), List.mem_of_getElem? (i := 757) (by decide +kernel)⟩
theorem lw_p19 : lw_okq (⟨"DimShelf$Checker", "wordNear", "(I)J"⟩, 9) := ⟨⟨by decide +kernel, by decide +kernel⟩, List.mem_of_getElem? (i := 238) (by decide +kernel), List.mem_of_getElem? (i := 760) (by decide +kernel), List.mem_of_getElem? (i := 761) (by decide +kernel)⟩
theorem lw_p20 : lw_okq (⟨"DimShelf$Checker", "failNear", "(II)V"⟩, 9) := ⟨⟨by decide +kernel, by decide +kernel⟩, List.mem_of_getElem? (i := 238) (by decide +kernel), List.mem_of_getElem? (i := 777) (by decide +kernel), List.mem_of_getElem? (i := 778) (by decide +kernel)⟩
theorem lw_p21 : lw_okq (⟨"DimShelf$Checker", "setWidth", "(II)V"⟩, 9) := ⟨⟨by decide +kernel, by decide +kernel⟩, List.mem_of_getElem? (i := 238) (by decide +kernel), List.mem_of_getElem? (i := 784) (by decide +kernel), List.mem_of_getElem? (i := 785) (by decide +kernel)⟩
theorem lw_p22 : lw_okq (⟨"DimShelf$Checker", "addColumn", "(IJ)V"⟩, 9) := ⟨⟨by decide +kernel, by decide +kernel⟩, List.mem_of_getElem? (i := 238) (by decide +kernel), List.mem_of_getElem? (i := 792) (by decide +kernel), List.mem_of_getElem? (i := 793) (by decide +kernel)⟩
theorem lw_p23 : lw_okq (⟨"DimShelf$Checker", "isSameWidth", "(II)Z"⟩, 9) := ⟨⟨by decide +kernel, by decide +kernel⟩, List.mem_of_getElem? (i := 238) (by decide +kernel), List.mem_of_getElem? (i := 796) (by decide +kernel), List.mem_of_getElem? (i := 797) (by decide +kernel)⟩
theorem lw_p24 : lw_okq (⟨"DimShelf$Checker", "widthAt", "(I)I"⟩, 9) := ⟨⟨by decide +kernel, by decide +kernel⟩, List.mem_of_getElem? (i := 238) (by decide +kernel), List.mem_of_getElem? (i := 800) (by decide +kernel), List.mem_of_getElem? (i := 801) (by decide +kernel)⟩
theorem lw_p25 : lw_okq (⟨"DimShelf$Checker", "columnAt", "(II)J"⟩, 9) := ⟨⟨by decide +kernel, by decide +kernel⟩, List.mem_of_getElem? (i := 238) (by decide +kernel), List.mem_of_getElem? (i := 804) (by decide +kernel), List.mem_of_getElem? (i := 805) (by decide +kernel)⟩
theorem lw_p26 : lw_okq (⟨"DimShelf$Checker", "failLead", "(II)V"⟩, 9) := ⟨⟨by decide +kernel, by decide +kernel⟩, List.mem_of_getElem? (i := 238) (by decide +kernel), List.mem_of_getElem? (i := 808) (by decide +kernel), List.mem_of_getElem? (i := 809) (by decide +kernel)⟩
theorem lw_p27 : lw_okq (⟨"DimShelf$Checker", "join", "(I)V"⟩, 9) := ⟨⟨by decide +kernel, by decide +kernel⟩, List.mem_of_getElem? (i := 238) (by decide +kernel), List.mem_of_getElem? (i := 816) (by decide +kernel), List.mem_of_getElem? (i := 817) (by decide +kernel)⟩
theorem lw_p28 : lw_okq (⟨"DimShelf$Checker", "columnNamed", "(IJ)I"⟩, 9) := ⟨⟨by decide +kernel, by decide +kernel⟩, List.mem_of_getElem? (i := 238) (by decide +kernel), List.mem_of_getElem? (i := 820) (by decide +kernel), List.mem_of_getElem? (i := 821) (by decide +kernel)⟩
theorem lw_p29 : lw_okq (⟨"DimShelf$Checker", "pick", "(I)V"⟩, 9) := ⟨⟨by decide +kernel, by decide +kernel⟩, List.mem_of_getElem? (i := 238) (by decide +kernel), List.mem_of_getElem? (i := 824) (by decide +kernel), List.mem_of_getElem? (i := 825) (by decide +kernel)⟩
theorem lw_p30 : lw_okq (⟨"DimShelf$Checker", "isPicked", "(J)Z"⟩, 9) := ⟨⟨by decide +kernel, by decide +kernel⟩, List.mem_of_getElem? (i := 238) (by decide +kernel), List.mem_of_getElem? (i := 828) (by decide +kernel), List.mem_of_getElem? (i := 829) (by decide +kernel)⟩
theorem lw_p31 : lw_okq (⟨"DimShelf$Checker", "usePicks", "()V"⟩, 9) := ⟨⟨by decide +kernel, by decide +kernel⟩, List.mem_of_getElem? (i := 238) (by decide +kernel), List.mem_of_getElem? (i := 832) (by decide +kernel), List.mem_of_getElem? (i := 833) (by decide +kernel)⟩
def lw_privs_2 : List (MethodName × Nat) := [(⟨"DimShelf$Parser", "take", "(I)V"⟩, 16), (⟨"DimShelf$Checker", "checkQuery", "(II)V"⟩, 9), (⟨"DimShelf$Checker", "load", "(I)V"⟩, 9), (⟨"DimShelf$Checker", "wordNear", "(I)J"⟩, 9), (⟨"DimShelf$Checker", "failNear", "(II)V"⟩, 9), (⟨"DimShelf$Checker", "setWidth", "(II)V"⟩, 9), (⟨"DimShelf$Checker", "addColumn", "(IJ)V"⟩, 9), (⟨"DimShelf$Checker", "isSameWidth", "(II)Z"⟩, 9), (⟨"DimShelf$Checker", "widthAt", "(I)I"⟩, 9), (⟨"DimShelf$Checker", "columnAt", "(II)J"⟩, 9), (⟨"DimShelf$Checker", "failLead", "(II)V"⟩, 9), (⟨"DimShelf$Checker", "join", "(I)V"⟩, 9), (⟨"DimShelf$Checker", "columnNamed", "(IJ)I"⟩, 9), (⟨"DimShelf$Checker", "pick", "(I)V"⟩, 9), (⟨"DimShelf$Checker", "isPicked", "(J)Z"⟩, 9), (⟨"DimShelf$Checker", "usePicks", "()V"⟩, 9)]
theorem lw_r2 : ∀ q ∈ lw_privs_2, lw_okq q := List.forall_mem_cons.mpr ⟨lw_p16, List.forall_mem_cons.mpr ⟨lw_p17, List.forall_mem_cons.mpr ⟨lw_p18, List.forall_mem_cons.mpr ⟨lw_p19, List.forall_mem_cons.mpr ⟨lw_p20, List.forall_mem_cons.mpr ⟨lw_p21, List.forall_mem_cons.mpr ⟨lw_p22, List.forall_mem_cons.mpr ⟨lw_p23, List.forall_mem_cons.mpr ⟨lw_p24, List.forall_mem_cons.mpr ⟨lw_p25, List.forall_mem_cons.mpr ⟨lw_p26, List.forall_mem_cons.mpr ⟨lw_p27, List.forall_mem_cons.mpr ⟨lw_p28, List.forall_mem_cons.mpr ⟨lw_p29, List.forall_mem_cons.mpr ⟨lw_p30, List.forall_mem_cons.mpr ⟨lw_p31, fun _ h => absurd h List.not_mem_nil⟩⟩⟩⟩⟩⟩⟩⟩⟩⟩⟩⟩⟩⟩⟩⟩
theorem lw_p32 : lw_okq (⟨"DimShelf$Checker", "keepNamed", "(II)V"⟩, 9) := ⟨⟨by decide +kernel, by decide +kernel⟩, List.mem_of_getElem? (i := 238) (by decide +kernel), List.mem_of_getElem? (i := 836) (by decide +kernel), List.mem_of_getElem? (i := 837) (by decide +kernel)⟩
theorem lw_p33 : lw_okq (⟨"DimShelf$Checker", "setColumn", "(IIJ)V"⟩, 9) := ⟨⟨by decide +kernel, by decide +kernel⟩, List.mem_of_getElem? (i := 238) (by decide +kernel), List.mem_of_getElem? (i := 841) (by decide +kernel), List.mem_of_getElem? (i := 842) (by decide +kernel)⟩
theorem lw_p34 : lw_okq (⟨"DimShelf$Checker", "group", "(I)V"⟩, 9) := ⟨⟨by decide +kernel, by decide +kernel⟩, List.mem_of_getElem? (i := 238) (by decide +kernel), List.mem_of_getElem? (i := 846) (by decide +kernel), List.mem_of_getElem? (i := 847) (by decide +kernel)⟩
theorem lw_p35 : lw_okq (⟨"DimShelf$Checker", "checkTerm", "(II)V"⟩, 9) := ⟨⟨by decide +kernel, by decide +kernel⟩, List.mem_of_getElem? (i := 238) (by decide +kernel), List.mem_of_getElem? (i := 850) (by decide +kernel), List.mem_of_getElem? (i := 851) (by decide +kernel)⟩
theorem lw_p36 : lw_okq (⟨"DimShelf$Checker", "intNear", "(I)I"⟩, 9) := ⟨⟨by decide +kernel, by decide +kernel⟩, List.mem_of_getElem? (i := 238) (by decide +kernel), List.mem_of_getElem? (i := 854) (by decide +kernel), List.mem_of_getElem? (i := 855) (by decide +kernel)⟩
theorem lw_p37 : lw_okq (⟨"DimShelf$Checker", "checkTold", "(II)V"⟩, 9) := ⟨⟨by decide +kernel, by decide +kernel⟩, List.mem_of_getElem? (i := 238) (by decide +kernel), List.mem_of_getElem? (i := 866) (by decide +kernel), List.mem_of_getElem? (i := 867) (by decide +kernel)⟩
theorem lw_p38 : lw_okq (⟨"DimShelf$Checker", "checkLast", "(I)V"⟩, 9) := ⟨⟨by decide +kernel, by decide +kernel⟩, List.mem_of_getElem? (i := 238) (by decide +kernel), List.mem_of_getElem? (i := 878) (by decide +kernel), List.mem_of_getElem? (i := 879) (by decide +kernel)⟩
theorem lw_p39 : lw_okq (⟨"DimShelf$Checker", "isNewTable", "(I)Z"⟩, 9) := ⟨⟨by decide +kernel, by decide +kernel⟩, List.mem_of_getElem? (i := 238) (by decide +kernel), List.mem_of_getElem? (i := 890) (by decide +kernel), List.mem_of_getElem? (i := 891) (by decide +kernel)⟩
theorem lw_p40 : lw_okq (⟨"DimShelf$Checker", "checkRow", "(I)V"⟩, 9) := ⟨⟨by decide +kernel, by decide +kernel⟩, List.mem_of_getElem? (i := 238) (by decide +kernel), List.mem_of_getElem? (i := 905) (by decide +kernel), List.mem_of_getElem? (i := 906) (by decide +kernel)⟩
theorem lw_p41 : lw_okq (⟨"DimShelf$Checker", "endAnswer", "(I)V"⟩, 9) := ⟨⟨by decide +kernel, by decide +kernel⟩, List.mem_of_getElem? (i := 238) (by decide +kernel), List.mem_of_getElem? (i := 913) (by decide +kernel), List.mem_of_getElem? (i := 914) (by decide +kernel)⟩
theorem lw_p42 : lw_okq (⟨"DimShelf$Worker", "workQuery", "(II)V"⟩, 15) := ⟨⟨by decide +kernel, by decide +kernel⟩, List.mem_of_getElem? (i := 272) (by decide +kernel), List.mem_of_getElem? (i := 923) (by decide +kernel), List.mem_of_getElem? (i := 924) (by decide +kernel)⟩
theorem lw_p43 : lw_okq (⟨"DimShelf$Worker", "load", "(LDimShelf$Rows;)V"⟩, 15) := ⟨⟨by decide +kernel, by decide +kernel⟩, List.mem_of_getElem? (i := 272) (by decide +kernel), List.mem_of_getElem? (i := 929) (by decide +kernel), List.mem_of_getElem? (i := 930) (by decide +kernel)⟩
theorem lw_p44 : lw_okq (⟨"DimShelf$Worker", "rowsAt", "(I)LDimShelf$Rows;"⟩, 15) := ⟨⟨by decide +kernel, by decide +kernel⟩, List.mem_of_getElem? (i := 272) (by decide +kernel), List.mem_of_getElem? (i := 933) (by decide +kernel), List.mem_of_getElem? (i := 934) (by decide +kernel)⟩
theorem lw_p45 : lw_okq (⟨"DimShelf$Worker", "plus", "(LDimShelf$Rows;LDimShelf$Rows;I)V"⟩, 15) := ⟨⟨by decide +kernel, by decide +kernel⟩, List.mem_of_getElem? (i := 272) (by decide +kernel), List.mem_of_getElem? (i := 960) (by decide +kernel), List.mem_of_getElem? (i := 961) (by decide +kernel)⟩
theorem lw_p46 : lw_okq (⟨"DimShelf$Worker", "full", "(I)V"⟩, 15) := ⟨⟨by decide +kernel, by decide +kernel⟩, List.mem_of_getElem? (i := 272) (by decide +kernel), List.mem_of_getElem? (i := 964) (by decide +kernel), List.mem_of_getElem? (i := 965) (by decide +kernel)⟩
theorem lw_p47 : lw_okq (⟨"DimShelf$Worker", "minus", "(LDimShelf$Rows;LDimShelf$Rows;)V"⟩, 15) := ⟨⟨by decide +kernel, by decide +kernel⟩, List.mem_of_getElem? (i := 272) (by decide +kernel), List.mem_of_getElem? (i := 984) (by decide +kernel), List.mem_of_getElem? (i := 985) (by decide +kernel)⟩
def lw_privs_3 : List (MethodName × Nat) := [(⟨"DimShelf$Checker", "keepNamed", "(II)V"⟩, 9), (⟨"DimShelf$Checker", "setColumn", "(IIJ)V"⟩, 9), (⟨"DimShelf$Checker", "group", "(I)V"⟩, 9), (⟨"DimShelf$Checker", "checkTerm", "(II)V"⟩, 9), (⟨"DimShelf$Checker", "intNear", "(I)I"⟩, 9), (⟨"DimShelf$Checker", "checkTold", "(II)V"⟩, 9), (⟨"DimShelf$Checker", "checkLast", "(I)V"⟩, 9), (⟨"DimShelf$Checker", "isNewTable", "(I)Z"⟩, 9), (⟨"DimShelf$Checker", "checkRow", "(I)V"⟩, 9), (⟨"DimShelf$Checker", "endAnswer", "(I)V"⟩, 9), (⟨"DimShelf$Worker", "workQuery", "(II)V"⟩, 15), (⟨"DimShelf$Worker", "load", "(LDimShelf$Rows;)V"⟩, 15), (⟨"DimShelf$Worker", "rowsAt", "(I)LDimShelf$Rows;"⟩, 15), (⟨"DimShelf$Worker", "plus", "(LDimShelf$Rows;LDimShelf$Rows;I)V"⟩, 15), (⟨"DimShelf$Worker", "full", "(I)V"⟩, 15), (⟨"DimShelf$Worker", "minus", "(LDimShelf$Rows;LDimShelf$Rows;)V"⟩, 15)]
theorem lw_r3 : ∀ q ∈ lw_privs_3, lw_okq q := List.forall_mem_cons.mpr ⟨lw_p32, List.forall_mem_cons.mpr ⟨lw_p33, List.forall_mem_cons.mpr ⟨lw_p34, List.forall_mem_cons.mpr ⟨lw_p35, List.forall_mem_cons.mpr ⟨lw_p36, List.forall_mem_cons.mpr ⟨lw_p37, List.forall_mem_cons.mpr ⟨lw_p38, List.forall_mem_cons.mpr ⟨lw_p39, List.forall_mem_cons.mpr ⟨lw_p40, List.forall_mem_cons.mpr ⟨lw_p41, List.forall_mem_cons.mpr ⟨lw_p42, List.forall_mem_cons.mpr ⟨lw_p43, List.forall_mem_cons.mpr ⟨lw_p44, List.forall_mem_cons.mpr ⟨lw_p45, List.forall_mem_cons.mpr ⟨lw_p46, List.forall_mem_cons.mpr ⟨lw_p47, fun _ h => absurd h List.not_mem_nil⟩⟩⟩⟩⟩⟩⟩⟩⟩⟩⟩⟩⟩⟩⟩⟩
theorem lw_p48 : lw_okq (⟨"DimShelf$Worker", "join", "(LDimShelf$Rows;LDimShelf$Rows;I)V"⟩, 15) := ⟨⟨by decide +kernel, by decide +kernel⟩, List.mem_of_getElem? (i := 272) (by decide +kernel), List.mem_of_getElem? (i := 1002) (by decide +kernel), List.mem_of_getElem? (i := 1003) (by decide +kernel)⟩
theorem lw_p49 : lw_okq (⟨"DimShelf$Worker", "joinRow", "(LDimShelf$Rows;ILDimShelf$Rows;II)V"⟩, 15) := ⟨⟨by decide +kernel, by decide +kernel⟩, List.mem_of_getElem? (i := 272) (by decide +kernel), List.mem_of_getElem? (i := 1013) (by decide +kernel), List.mem_of_getElem? (i := 1014) (by decide +kernel)⟩
theorem lw_p50 : lw_okq (⟨"DimShelf$Worker", "useScratch", "()V"⟩, 15) := ⟨⟨by decide +kernel, by decide +kernel⟩, List.mem_of_getElem? (i := 272) (by decide +kernel), List.mem_of_getElem? (i := 1024) (by decide +kernel), List.mem_of_getElem? (i := 1025) (by decide +kernel)⟩
theorem lw_p51 : lw_okq (⟨"DimShelf$Worker", "test", "(LDimShelf$Rows;)V"⟩, 15) := ⟨⟨by decide +kernel, by decide +kernel⟩, List.mem_of_getElem? (i := 272) (by decide +kernel), List.mem_of_getElem? (i := 1028) (by decide +kernel), List.mem_of_getElem? (i := 1029) (by decide +kernel)⟩
theorem lw_p52 : lw_okq (⟨"DimShelf$Worker", "compares", "(LDimShelf$Rows;II)Z"⟩, 15) := ⟨⟨by decide +kernel, by decide +kernel⟩, List.mem_of_getElem? (i := 272) (by decide +kernel), List.mem_of_getElem? (i := 1032) (by decide +kernel), List.mem_of_getElem? (i := 1033) (by decide +kernel)⟩
theorem lw_p53 : lw_okq (⟨"DimShelf$Worker", "sideIn", "(IILDimShelf$Rows;II)I"⟩, 15) := ⟨⟨by decide +kernel, by decide +kernel⟩, List.mem_of_getElem? (i := 272) (by decide +kernel), List.mem_of_getElem? (i := 1036) (by decide +kernel), List.mem_of_getElem? (i := 1037) (by decide +kernel)⟩
theorem lw_p54 : lw_okq (⟨"DimShelf$Grouper", "groupIn", "(LDimShelf$Shelf;LDimShelf$Rows;LDimShelf$Rows;I)Z"⟩, 7) := ⟨⟨by decide +kernel, by decide +kernel⟩, List.mem_of_getElem? (i := 278) (by decide +kernel), List.mem_of_getElem? (i := 1064) (by decide +kernel), List.mem_of_getElem? (i := 1065) (by decide +kernel)⟩
theorem lw_p55 : lw_okq (⟨"DimShelf$Grouper", "isFirst", "(LDimShelf$Shelf;LDimShelf$Rows;II)Z"⟩, 7) := ⟨⟨by decide +kernel, by decide +kernel⟩, List.mem_of_getElem? (i := 278) (by decide +kernel), List.mem_of_getElem? (i := 1076) (by decide +kernel), List.mem_of_getElem? (i := 1077) (by decide +kernel)⟩
theorem lw_p56 : lw_okq (⟨"DimShelf$Grouper", "isAlike", "(LDimShelf$Shelf;LDimShelf$Rows;III)Z"⟩, 7) := ⟨⟨by decide +kernel, by decide +kernel⟩, List.mem_of_getElem? (i := 278) (by decide +kernel), List.mem_of_getElem? (i := 1080) (by decide +kernel), List.mem_of_getElem? (i := 1081) (by decide +kernel)⟩
theorem lw_p57 : lw_okq (⟨"DimShelf$Grouper", "tally", "(LDimShelf$Shelf;LDimShelf$Rows;III)I"⟩, 7) := ⟨⟨by decide +kernel, by decide +kernel⟩, List.mem_of_getElem? (i := 278) (by decide +kernel), List.mem_of_getElem? (i := 1085) (by decide +kernel), List.mem_of_getElem? (i := 1086) (by decide +kernel)⟩
theorem lw_p58 : lw_okq (⟨"DimShelf$Grouper", "start", "(I)I"⟩, 7) := ⟨⟨by decide +kernel, by decide +kernel⟩, List.mem_of_getElem? (i := 278) (by decide +kernel), List.mem_of_getElem? (i := 1089) (by decide +kernel), List.mem_of_getElem? (i := 1090) (by decide +kernel)⟩
theorem lw_p59 : lw_okq (⟨"DimShelf$Grouper", "more", "(II)I"⟩, 7) := ⟨⟨by decide +kernel, by decide +kernel⟩, List.mem_of_getElem? (i := 278) (by decide +kernel), List.mem_of_getElem? (i := 1093) (by decide +kernel), List.mem_of_getElem? (i := 1094) (by decide +kernel)⟩
theorem lw_p60 : lw_okq (⟨"DimShelf$Grouper", "find", "(LDimShelf$Rows;)I"⟩, 7) := ⟨⟨by decide +kernel, by decide +kernel⟩, List.mem_of_getElem? (i := 278) (by decide +kernel), List.mem_of_getElem? (i := 1100) (by decide +kernel), List.mem_of_getElem? (i := 1101) (by decide +kernel)⟩
theorem lw_p61 : lw_okq (⟨"DimShelf$Grouper", "isTuple", "(LDimShelf$Rows;I)Z"⟩, 7) := ⟨⟨by decide +kernel, by decide +kernel⟩, List.mem_of_getElem? (i := 278) (by decide +kernel), List.mem_of_getElem? (i := 1104) (by decide +kernel), List.mem_of_getElem? (i := 1105) (by decide +kernel)⟩
theorem lw_p62 : lw_okq (⟨"DimShelf$Worker", "workCond", "(II)V"⟩, 15) := ⟨⟨by decide +kernel, by decide +kernel⟩, List.mem_of_getElem? (i := 272) (by decide +kernel), List.mem_of_getElem? (i := 1117) (by decide +kernel), List.mem_of_getElem? (i := 1118) (by decide +kernel)⟩
theorem lw_p63 : lw_okq (⟨"DimShelf$Worker", "setSide", "(II)V"⟩, 15) := ⟨⟨by decide +kernel, by decide +kernel⟩, List.mem_of_getElem? (i := 272) (by decide +kernel), List.mem_of_getElem? (i := 1121) (by decide +kernel), List.mem_of_getElem? (i := 1122) (by decide +kernel)⟩
def lw_privs_4 : List (MethodName × Nat) := [(⟨"DimShelf$Worker", "join", "(LDimShelf$Rows;LDimShelf$Rows;I)V"⟩, 15), (⟨"DimShelf$Worker", "joinRow", "(LDimShelf$Rows;ILDimShelf$Rows;II)V"⟩, 15), (⟨"DimShelf$Worker", "useScratch", "()V"⟩, 15), (⟨"DimShelf$Worker", "test", "(LDimShelf$Rows;)V"⟩, 15), (⟨"DimShelf$Worker", "compares", "(LDimShelf$Rows;II)Z"⟩, 15), (⟨"DimShelf$Worker", "sideIn", "(IILDimShelf$Rows;II)I"⟩, 15), (⟨"DimShelf$Grouper", "groupIn", "(LDimShelf$Shelf;LDimShelf$Rows;LDimShelf$Rows;I)Z"⟩, 7), (⟨"DimShelf$Grouper", "isFirst", "(LDimShelf$Shelf;LDimShelf$Rows;II)Z"⟩, 7), (⟨"DimShelf$Grouper", "isAlike", "(LDimShelf$Shelf;LDimShelf$Rows;III)Z"⟩, 7), (⟨"DimShelf$Grouper", "tally", "(LDimShelf$Shelf;LDimShelf$Rows;III)I"⟩, 7), (⟨"DimShelf$Grouper", "start", "(I)I"⟩, 7), (⟨"DimShelf$Grouper", "more", "(II)I"⟩, 7), (⟨"DimShelf$Grouper", "find", "(LDimShelf$Rows;)I"⟩, 7), (⟨"DimShelf$Grouper", "isTuple", "(LDimShelf$Rows;I)Z"⟩, 7), (⟨"DimShelf$Worker", "workCond", "(II)V"⟩, 15), (⟨"DimShelf$Worker", "setSide", "(II)V"⟩, 15)]
theorem lw_r4 : ∀ q ∈ lw_privs_4, lw_okq q := List.forall_mem_cons.mpr ⟨lw_p48, List.forall_mem_cons.mpr ⟨lw_p49, List.forall_mem_cons.mpr ⟨lw_p50, List.forall_mem_cons.mpr ⟨lw_p51, List.forall_mem_cons.mpr ⟨lw_p52, List.forall_mem_cons.mpr ⟨lw_p53, List.forall_mem_cons.mpr ⟨lw_p54, List.forall_mem_cons.mpr ⟨lw_p55, List.forall_mem_cons.mpr ⟨lw_p56, List.forall_mem_cons.mpr ⟨lw_p57, List.forall_mem_cons.mpr ⟨lw_p58, List.forall_mem_cons.mpr ⟨lw_p59, List.forall_mem_cons.mpr ⟨lw_p60, List.forall_mem_cons.mpr ⟨lw_p61, List.forall_mem_cons.mpr ⟨lw_p62, List.forall_mem_cons.mpr ⟨lw_p63, fun _ h => absurd h List.not_mem_nil⟩⟩⟩⟩⟩⟩⟩⟩⟩⟩⟩⟩⟩⟩⟩⟩
theorem lw_p64 : lw_okq (⟨"DimShelf$Worker", "judged", "(III)I"⟩, 15) := ⟨⟨by decide +kernel, by decide +kernel⟩, List.mem_of_getElem? (i := 272) (by decide +kernel), List.mem_of_getElem? (i := 1125) (by decide +kernel), List.mem_of_getElem? (i := 1126) (by decide +kernel)⟩
theorem lw_p65 : lw_okq (⟨"DimShelf$Worker", "workTold", "(II)V"⟩, 15) := ⟨⟨by decide +kernel, by decide +kernel⟩, List.mem_of_getElem? (i := 272) (by decide +kernel), List.mem_of_getElem? (i := 1129) (by decide +kernel), List.mem_of_getElem? (i := 1130) (by decide +kernel)⟩
theorem lw_p66 : lw_okq (⟨"DimShelf$Worker", "startRow", "(LDimShelf$Rows;)V"⟩, 15) := ⟨⟨by decide +kernel, by decide +kernel⟩, List.mem_of_getElem? (i := 272) (by decide +kernel), List.mem_of_getElem? (i := 1133) (by decide +kernel), List.mem_of_getElem? (i := 1134) (by decide +kernel)⟩
theorem lw_p67 : lw_okq (⟨"DimShelf$Worker", "addTerm", "(LDimShelf$Rows;)V"⟩, 15) := ⟨⟨by decide +kernel, by decide +kernel⟩, List.mem_of_getElem? (i := 272) (by decide +kernel), List.mem_of_getElem? (i := 1137) (by decide +kernel), List.mem_of_getElem? (i := 1138) (by decide +kernel)⟩
theorem lw_p68 : lw_okq (⟨"DimShelf$Worker", "limitRow", "(LDimShelf$Rows;)V"⟩, 15) := ⟨⟨by decide +kernel, by decide +kernel⟩, List.mem_of_getElem? (i := 272) (by decide +kernel), List.mem_of_getElem? (i := 1141) (by decide +kernel), List.mem_of_getElem? (i := 1142) (by decide +kernel)⟩
theorem lw_p69 : lw_okq (⟨"DimShelf$Worker", "endAnswer", "(LDimShelf$Rows;LDimShelf$Rows;)V"⟩, 15) := ⟨⟨by decide +kernel, by decide +kernel⟩, List.mem_of_getElem? (i := 272) (by decide +kernel), List.mem_of_getElem? (i := 1154) (by decide +kernel), List.mem_of_getElem? (i := 1155) (by decide +kernel)⟩
theorem lw_p70 : lw_okq (⟨"DimShelf", "forget", "()V"⟩, 14) := ⟨⟨by decide +kernel, by decide +kernel⟩, List.mem_of_getElem? (i := 19) (by decide +kernel), List.mem_of_getElem? (i := 1158) (by decide +kernel), List.mem_of_getElem? (i := 1159) (by decide +kernel)⟩
theorem lw_p71 : lw_okq (⟨"DimShelf", "judged", "()Z"⟩, 14) := ⟨⟨by decide +kernel, by decide +kernel⟩, List.mem_of_getElem? (i := 19) (by decide +kernel), List.mem_of_getElem? (i := 1178) (by decide +kernel), List.mem_of_getElem? (i := 1179) (by decide +kernel)⟩
theorem lw_p72 : lw_okq (⟨"DimShelf$Reason", "find", "(LDimShelf$Shelf;)V"⟩, 4) := ⟨⟨by decide +kernel, by decide +kernel⟩, List.mem_of_getElem? (i := 430) (by decide +kernel), List.mem_of_getElem? (i := 1219) (by decide +kernel), List.mem_of_getElem? (i := 1220) (by decide +kernel)⟩
theorem lw_p73 : lw_okq (⟨"DimShelf$Reason", "keep", "(I)V"⟩, 4) := ⟨⟨by decide +kernel, by decide +kernel⟩, List.mem_of_getElem? (i := 430) (by decide +kernel), List.mem_of_getElem? (i := 1231) (by decide +kernel), List.mem_of_getElem? (i := 1232) (by decide +kernel)⟩
theorem lw_p74 : lw_okq (⟨"DimShelf$Reason", "choose", "(II)V"⟩, 4) := ⟨⟨by decide +kernel, by decide +kernel⟩, List.mem_of_getElem? (i := 430) (by decide +kernel), List.mem_of_getElem? (i := 1244) (by decide +kernel), List.mem_of_getElem? (i := 1245) (by decide +kernel)⟩
theorem lw_p75 : lw_okq (⟨"DimShelf$Listing", "collect", "(LDimShelf$Shelf;LDimShelf$Rows;)V"⟩, 11) := ⟨⟨by decide +kernel, by decide +kernel⟩, List.mem_of_getElem? (i := 386) (by decide +kernel), List.mem_of_getElem? (i := 1266) (by decide +kernel), List.mem_of_getElem? (i := 1267) (by decide +kernel)⟩
theorem lw_p76 : lw_okq (⟨"DimShelf$Listing", "makeRoom", "(I)V"⟩, 11) := ⟨⟨by decide +kernel, by decide +kernel⟩, List.mem_of_getElem? (i := 386) (by decide +kernel), List.mem_of_getElem? (i := 1274) (by decide +kernel), List.mem_of_getElem? (i := 1275) (by decide +kernel)⟩
theorem lw_p77 : lw_okq (⟨"DimShelf$Listing", "mergeRuns", "(LDimShelf$Shelf;LDimShelf$Rows;)V"⟩, 11) := ⟨⟨by decide +kernel, by decide +kernel⟩, List.mem_of_getElem? (i := 386) (by decide +kernel), List.mem_of_getElem? (i := 1294) (by decide +kernel), List.mem_of_getElem? (i := 1295) (by decide +kernel)⟩
theorem lw_p78 : lw_okq (⟨"DimShelf$Listing", "mergeTwo", "(LDimShelf$Shelf;LDimShelf$Rows;IIII)I"⟩, 11) := ⟨⟨by decide +kernel, by decide +kernel⟩, List.mem_of_getElem? (i := 386) (by decide +kernel), List.mem_of_getElem? (i := 1298) (by decide +kernel), List.mem_of_getElem? (i := 1299) (by decide +kernel)⟩
theorem lw_p79 : lw_okq (⟨"DimShelf$Listing", "findSure", "(I)V"⟩, 11) := ⟨⟨by decide +kernel, by decide +kernel⟩, List.mem_of_getElem? (i := 386) (by decide +kernel), List.mem_of_getElem? (i := 1316) (by decide +kernel), List.mem_of_getElem? (i := 1317) (by decide +kernel)⟩
def lw_privs_5 : List (MethodName × Nat) := [(⟨"DimShelf$Worker", "judged", "(III)I"⟩, 15), (⟨"DimShelf$Worker", "workTold", "(II)V"⟩, 15), (⟨"DimShelf$Worker", "startRow", "(LDimShelf$Rows;)V"⟩, 15), (⟨"DimShelf$Worker", "addTerm", "(LDimShelf$Rows;)V"⟩, 15), (⟨"DimShelf$Worker", "limitRow", "(LDimShelf$Rows;)V"⟩, 15), (⟨"DimShelf$Worker", "endAnswer", "(LDimShelf$Rows;LDimShelf$Rows;)V"⟩, 15), (⟨"DimShelf", "forget", "()V"⟩, 14), (⟨"DimShelf", "judged", "()Z"⟩, 14), (⟨"DimShelf$Reason", "find", "(LDimShelf$Shelf;)V"⟩, 4), (⟨"DimShelf$Reason", "keep", "(I)V"⟩, 4), (⟨"DimShelf$Reason", "choose", "(II)V"⟩, 4), (⟨"DimShelf$Listing", "collect", "(LDimShelf$Shelf;LDimShelf$Rows;)V"⟩, 11), (⟨"DimShelf$Listing", "makeRoom", "(I)V"⟩, 11), (⟨"DimShelf$Listing", "mergeRuns", "(LDimShelf$Shelf;LDimShelf$Rows;)V"⟩, 11), (⟨"DimShelf$Listing", "mergeTwo", "(LDimShelf$Shelf;LDimShelf$Rows;IIII)I"⟩, 11), (⟨"DimShelf$Listing", "findSure", "(I)V"⟩, 11)]
theorem lw_r5 : ∀ q ∈ lw_privs_5, lw_okq q := List.forall_mem_cons.mpr ⟨lw_p64, List.forall_mem_cons.mpr ⟨lw_p65, List.forall_mem_cons.mpr ⟨lw_p66, List.forall_mem_cons.mpr ⟨lw_p67, List.forall_mem_cons.mpr ⟨lw_p68, List.forall_mem_cons.mpr ⟨lw_p69, List.forall_mem_cons.mpr ⟨lw_p70, List.forall_mem_cons.mpr ⟨lw_p71, List.forall_mem_cons.mpr ⟨lw_p72, List.forall_mem_cons.mpr ⟨lw_p73, List.forall_mem_cons.mpr ⟨lw_p74, List.forall_mem_cons.mpr ⟨lw_p75, List.forall_mem_cons.mpr ⟨lw_p76, List.forall_mem_cons.mpr ⟨lw_p77, List.forall_mem_cons.mpr ⟨lw_p78, List.forall_mem_cons.mpr ⟨lw_p79, fun _ h => absurd h List.not_mem_nil⟩⟩⟩⟩⟩⟩⟩⟩⟩⟩⟩⟩⟩⟩⟩⟩
theorem lw_p80 : lw_okq (⟨"DimShelf", "listedCell", "(LDimShelf$Rows;II)I"⟩, 14) := ⟨⟨by decide +kernel, by decide +kernel⟩, List.mem_of_getElem? (i := 19) (by decide +kernel), List.mem_of_getElem? (i := 1353) (by decide +kernel), List.mem_of_getElem? (i := 1354) (by decide +kernel)⟩
theorem lw_p81 : lw_okq (⟨"DimShelf", "agree", "(LDimShelf$Rows;LDimShelf$Rows;I)Z"⟩, 14) := ⟨⟨by decide +kernel, by decide +kernel⟩, List.mem_of_getElem? (i := 19) (by decide +kernel), List.mem_of_getElem? (i := 1373) (by decide +kernel), List.mem_of_getElem? (i := 1374) (by decide +kernel)⟩
theorem lw_p82 : lw_okq (⟨"DimShelfModel", "byteRow", "(I)V"⟩, 72) := ⟨⟨by decide +kernel, by decide +kernel⟩, List.mem_of_getElem? (i := 1382) (by decide +kernel), List.mem_of_getElem? (i := 1612) (by decide +kernel), List.mem_of_getElem? (i := 1613) (by decide +kernel)⟩
theorem lw_p83 : lw_okq (⟨"DimShelfModel", "text", "()Z"⟩, 72) := ⟨⟨by decide +kernel, by decide +kernel⟩, List.mem_of_getElem? (i := 1382) (by decide +kernel), List.mem_of_getElem? (i := 1624) (by decide +kernel), List.mem_of_getElem? (i := 1625) (by decide +kernel)⟩
theorem lw_p84 : lw_okq (⟨"DimShelfModel", "start", "()V"⟩, 72) := ⟨⟨by decide +kernel, by decide +kernel⟩, List.mem_of_getElem? (i := 1382) (by decide +kernel), List.mem_of_getElem? (i := 1628) (by decide +kernel), List.mem_of_getElem? (i := 1629) (by decide +kernel)⟩
theorem lw_p85 : lw_okq (⟨"DimShelfModel", "next", "()V"⟩, 72) := ⟨⟨by decide +kernel, by decide +kernel⟩, List.mem_of_getElem? (i := 1382) (by decide +kernel), List.mem_of_getElem? (i := 1632) (by decide +kernel), List.mem_of_getElem? (i := 1633) (by decide +kernel)⟩
theorem lw_p86 : lw_okq (⟨"DimShelfModel", "seen", "(I)I"⟩, 72) := ⟨⟨by decide +kernel, by decide +kernel⟩, List.mem_of_getElem? (i := 1382) (by decide +kernel), List.mem_of_getElem? (i := 1636) (by decide +kernel), List.mem_of_getElem? (i := 1637) (by decide +kernel)⟩
theorem lw_p87 : lw_okq (⟨"DimShelfModel", "isLetter", "(I)Z"⟩, 72) := ⟨⟨by decide +kernel, by decide +kernel⟩, List.mem_of_getElem? (i := 1382) (by decide +kernel), List.mem_of_getElem? (i := 1640) (by decide +kernel), List.mem_of_getElem? (i := 1641) (by decide +kernel)⟩
theorem lw_p88 : lw_okq (⟨"DimShelfModel", "isDigit", "(I)Z"⟩, 72) := ⟨⟨by decide +kernel, by decide +kernel⟩, List.mem_of_getElem? (i := 1382) (by decide +kernel), List.mem_of_getElem? (i := 1644) (by decide +kernel), List.mem_of_getElem? (i := 1645) (by decide +kernel)⟩
theorem lw_p89 : lw_okq (⟨"DimShelfModel", "packed", "(II)J"⟩, 72) := ⟨⟨by decide +kernel, by decide +kernel⟩, List.mem_of_getElem? (i := 1382) (by decide +kernel), List.mem_of_getElem? (i := 1648) (by decide +kernel), List.mem_of_getElem? (i := 1649) (by decide +kernel)⟩
theorem lw_p90 : lw_okq (⟨"DimShelfModel", "isWord", "(I)Z"⟩, 72) := ⟨⟨by decide +kernel, by decide +kernel⟩, List.mem_of_getElem? (i := 1382) (by decide +kernel), List.mem_of_getElem? (i := 1665) (by decide +kernel), List.mem_of_getElem? (i := 1666) (by decide +kernel)⟩
theorem lw_p91 : lw_okq (⟨"DimShelfModel", "unknownTold", "()Z"⟩, 72) := ⟨⟨by decide +kernel, by decide +kernel⟩, List.mem_of_getElem? (i := 1382) (by decide +kernel), List.mem_of_getElem? (i := 1669) (by decide +kernel), List.mem_of_getElem? (i := 1670) (by decide +kernel)⟩
theorem lw_p92 : lw_okq (⟨"DimShelfModel", "pass", "()Z"⟩, 72) := ⟨⟨by decide +kernel, by decide +kernel⟩, List.mem_of_getElem? (i := 1382) (by decide +kernel), List.mem_of_getElem? (i := 1673) (by decide +kernel), List.mem_of_getElem? (i := 1674) (by decide +kernel)⟩
theorem lw_p93 : lw_okq (⟨"DimShelfModel", "stop", "(II)Z"⟩, 72) := ⟨⟨by decide +kernel, by decide +kernel⟩, List.mem_of_getElem? (i := 1382) (by decide +kernel), List.mem_of_getElem? (i := 1677) (by decide +kernel), List.mem_of_getElem? (i := 1678) (by decide +kernel)⟩
theorem lw_p94 : lw_okq (⟨"DimShelfModel", "named", "()Z"⟩, 72) := ⟨⟨by decide +kernel, by decide +kernel⟩, List.mem_of_getElem? (i := 1382) (by decide +kernel), List.mem_of_getElem? (i := 1681) (by decide +kernel), List.mem_of_getElem? (i := 1682) (by decide +kernel)⟩
theorem lw_p95 : lw_okq (⟨"DimShelfModel", "unknown", "(IJ)I"⟩, 72) := ⟨⟨by decide +kernel, by decide +kernel⟩, List.mem_of_getElem? (i := 1382) (by decide +kernel), List.mem_of_getElem? (i := 1685) (by decide +kernel), List.mem_of_getElem? (i := 1686) (by decide +kernel)⟩
def lw_privs_6 : List (MethodName × Nat) := [(⟨"DimShelf", "listedCell", "(LDimShelf$Rows;II)I"⟩, 14), (⟨"DimShelf", "agree", "(LDimShelf$Rows;LDimShelf$Rows;I)Z"⟩, 14), (⟨"DimShelfModel", "byteRow", "(I)V"⟩, 72), (⟨"DimShelfModel", "text", "()Z"⟩, 72), (⟨"DimShelfModel", "start", "()V"⟩, 72), (⟨"DimShelfModel", "next", "()V"⟩, 72), (⟨"DimShelfModel", "seen", "(I)I"⟩, 72), (⟨"DimShelfModel", "isLetter", "(I)Z"⟩, 72), (⟨"DimShelfModel", "isDigit", "(I)Z"⟩, 72), (⟨"DimShelfModel", "packed", "(II)J"⟩, 72), (⟨"DimShelfModel", "isWord", "(I)Z"⟩, 72), (⟨"DimShelfModel", "unknownTold", "()Z"⟩, 72), (⟨"DimShelfModel", "pass", "()Z"⟩, 72), (⟨"DimShelfModel", "stop", "(II)Z"⟩, 72), (⟨"DimShelfModel", "named", "()Z"⟩, 72), (⟨"DimShelfModel", "unknown", "(IJ)I"⟩, 72)]
theorem lw_r6 : ∀ q ∈ lw_privs_6, lw_okq q := List.forall_mem_cons.mpr ⟨lw_p80, List.forall_mem_cons.mpr ⟨lw_p81, List.forall_mem_cons.mpr ⟨lw_p82, List.forall_mem_cons.mpr ⟨lw_p83, List.forall_mem_cons.mpr ⟨lw_p84, List.forall_mem_cons.mpr ⟨lw_p85, List.forall_mem_cons.mpr ⟨lw_p86, List.forall_mem_cons.mpr ⟨lw_p87, List.forall_mem_cons.mpr ⟨lw_p88, List.forall_mem_cons.mpr ⟨lw_p89, List.forall_mem_cons.mpr ⟨lw_p90, List.forall_mem_cons.mpr ⟨lw_p91, List.forall_mem_cons.mpr ⟨lw_p92, List.forall_mem_cons.mpr ⟨lw_p93, List.forall_mem_cons.mpr ⟨lw_p94, List.forall_mem_cons.mpr ⟨lw_p95, fun _ h => absurd h List.not_mem_nil⟩⟩⟩⟩⟩⟩⟩⟩⟩⟩⟩⟩⟩⟩⟩⟩
theorem lw_p96 : lw_okq (⟨"DimShelfModel", "tell", "(II)V"⟩, 72) := ⟨⟨by decide +kernel, by decide +kernel⟩, List.mem_of_getElem? (i := 1382) (by decide +kernel), List.mem_of_getElem? (i := 1689) (by decide +kernel), List.mem_of_getElem? (i := 1690) (by decide +kernel)⟩
theorem lw_p97 : lw_okq (⟨"DimShelfModel", "sign", "(I)Z"⟩, 72) := ⟨⟨by decide +kernel, by decide +kernel⟩, List.mem_of_getElem? (i := 1382) (by decide +kernel), List.mem_of_getElem? (i := 1693) (by decide +kernel), List.mem_of_getElem? (i := 1694) (by decide +kernel)⟩
theorem lw_p98 : lw_okq (⟨"DimShelfModel", "isSign", "(I)Z"⟩, 72) := ⟨⟨by decide +kernel, by decide +kernel⟩, List.mem_of_getElem? (i := 1382) (by decide +kernel), List.mem_of_getElem? (i := 1697) (by decide +kernel), List.mem_of_getElem? (i := 1698) (by decide +kernel)⟩
theorem lw_p99 : lw_okq (⟨"DimShelfModel", "whole", "()Z"⟩, 72) := ⟨⟨by decide +kernel, by decide +kernel⟩, List.mem_of_getElem? (i := 1382) (by decide +kernel), List.mem_of_getElem? (i := 1701) (by decide +kernel), List.mem_of_getElem? (i := 1702) (by decide +kernel)⟩
theorem lw_p100 : lw_okq (⟨"DimShelfModel", "span", "(I)Z"⟩, 72) := ⟨⟨by decide +kernel, by decide +kernel⟩, List.mem_of_getElem? (i := 1382) (by decide +kernel), List.mem_of_getElem? (i := 1705) (by decide +kernel), List.mem_of_getElem? (i := 1706) (by decide +kernel)⟩
theorem lw_p101 : lw_okq (⟨"DimShelfModel", "list", "(I)Z"⟩, 72) := ⟨⟨by decide +kernel, by decide +kernel⟩, List.mem_of_getElem? (i := 1382) (by decide +kernel), List.mem_of_getElem? (i := 1709) (by decide +kernel), List.mem_of_getElem? (i := 1710) (by decide +kernel)⟩
theorem lw_p102 : lw_okq (⟨"DimShelfModel", "worldsAnew", "()V"⟩, 72) := ⟨⟨by decide +kernel, by decide +kernel⟩, List.mem_of_getElem? (i := 1382) (by decide +kernel), List.mem_of_getElem? (i := 1713) (by decide +kernel), List.mem_of_getElem? (i := 1714) (by decide +kernel)⟩
theorem lw_p103 : lw_okq (⟨"DimShelfModel", "at", "(II)I"⟩, 72) := ⟨⟨by decide +kernel, by decide +kernel⟩, List.mem_of_getElem? (i := 1382) (by decide +kernel), List.mem_of_getElem? (i := 1717) (by decide +kernel), List.mem_of_getElem? (i := 1718) (by decide +kernel)⟩
theorem lw_p104 : lw_okq (⟨"DimShelfModel", "spread", "([III)V"⟩, 72) := ⟨⟨by decide +kernel, by decide +kernel⟩, List.mem_of_getElem? (i := 1382) (by decide +kernel), List.mem_of_getElem? (i := 1721) (by decide +kernel), List.mem_of_getElem? (i := 1722) (by decide +kernel)⟩
theorem lw_p105 : lw_okq (⟨"DimShelfModel", "tableTold", "()Z"⟩, 72) := ⟨⟨by decide +kernel, by decide +kernel⟩, List.mem_of_getElem? (i := 1382) (by decide +kernel), List.mem_of_getElem? (i := 1731) (by decide +kernel), List.mem_of_getElem? (i := 1732) (by decide +kernel)⟩
theorem lw_p106 : lw_okq (⟨"DimShelfModel", "tableName", "(I)Z"⟩, 72) := ⟨⟨by decide +kernel, by decide +kernel⟩, List.mem_of_getElem? (i := 1382) (by decide +kernel), List.mem_of_getElem? (i := 1735) (by decide +kernel), List.mem_of_getElem? (i := 1736) (by decide +kernel)⟩
theorem lw_p107 : lw_okq (⟨"DimShelfModel", "tableOf", "(IJ)I"⟩, 72) := ⟨⟨by decide +kernel, by decide +kernel⟩, List.mem_of_getElem? (i := 1382) (by decide +kernel), List.mem_of_getElem? (i := 1739) (by decide +kernel), List.mem_of_getElem? (i := 1740) (by decide +kernel)⟩
theorem lw_p108 : lw_okq (⟨"DimShelfModel", "columnTold", "(I)Z"⟩, 72) := ⟨⟨by decide +kernel, by decide +kernel⟩, List.mem_of_getElem? (i := 1382) (by decide +kernel), List.mem_of_getElem? (i := 1743) (by decide +kernel), List.mem_of_getElem? (i := 1744) (by decide +kernel)⟩
theorem lw_p109 : lw_okq (⟨"DimShelfModel", "columnOf", "(IJ)I"⟩, 72) := ⟨⟨by decide +kernel, by decide +kernel⟩, List.mem_of_getElem? (i := 1382) (by decide +kernel), List.mem_of_getElem? (i := 1747) (by decide +kernel), List.mem_of_getElem? (i := 1748) (by decide +kernel)⟩
theorem lw_p110 : lw_okq (⟨"DimShelfModel", "rowTold", "()Z"⟩, 72) := ⟨⟨by decide +kernel, by decide +kernel⟩, List.mem_of_getElem? (i := 1382) (by decide +kernel), List.mem_of_getElem? (i := 1751) (by decide +kernel), List.mem_of_getElem? (i := 1752) (by decide +kernel)⟩
theorem lw_p111 : lw_okq (⟨"DimShelfModel", "termTold", "()Z"⟩, 72) := ⟨⟨by decide +kernel, by decide +kernel⟩, List.mem_of_getElem? (i := 1382) (by decide +kernel), List.mem_of_getElem? (i := 1755) (by decide +kernel), List.mem_of_getElem? (i := 1756) (by decide +kernel)⟩
def lw_privs_7 : List (MethodName × Nat) := [(⟨"DimShelfModel", "tell", "(II)V"⟩, 72), (⟨"DimShelfModel", "sign", "(I)Z"⟩, 72), (⟨"DimShelfModel", "isSign", "(I)Z"⟩, 72), (⟨"DimShelfModel", "whole", "()Z"⟩, 72), (⟨"DimShelfModel", "span", "(I)Z"⟩, 72), (⟨"DimShelfModel", "list", "(I)Z"⟩, 72), (⟨"DimShelfModel", "worldsAnew", "()V"⟩, 72), (⟨"DimShelfModel", "at", "(II)I"⟩, 72), (⟨"DimShelfModel", "spread", "([III)V"⟩, 72), (⟨"DimShelfModel", "tableTold", "()Z"⟩, 72), (⟨"DimShelfModel", "tableName", "(I)Z"⟩, 72), (⟨"DimShelfModel", "tableOf", "(IJ)I"⟩, 72), (⟨"DimShelfModel", "columnTold", "(I)Z"⟩, 72), (⟨"DimShelfModel", "columnOf", "(IJ)I"⟩, 72), (⟨"DimShelfModel", "rowTold", "()Z"⟩, 72), (⟨"DimShelfModel", "termTold", "()Z"⟩, 72)]
theorem lw_r7 : ∀ q ∈ lw_privs_7, lw_okq q := List.forall_mem_cons.mpr ⟨lw_p96, List.forall_mem_cons.mpr ⟨lw_p97, List.forall_mem_cons.mpr ⟨lw_p98, List.forall_mem_cons.mpr ⟨lw_p99, List.forall_mem_cons.mpr ⟨lw_p100, List.forall_mem_cons.mpr ⟨lw_p101, List.forall_mem_cons.mpr ⟨lw_p102, List.forall_mem_cons.mpr ⟨lw_p103, List.forall_mem_cons.mpr ⟨lw_p104, List.forall_mem_cons.mpr ⟨lw_p105, List.forall_mem_cons.mpr ⟨lw_p106, List.forall_mem_cons.mpr ⟨lw_p107, List.forall_mem_cons.mpr ⟨lw_p108, List.forall_mem_cons.mpr ⟨lw_p109, List.forall_mem_cons.mpr ⟨lw_p110, List.forall_mem_cons.mpr ⟨lw_p111, fun _ h => absurd h List.not_mem_nil⟩⟩⟩⟩⟩⟩⟩⟩⟩⟩⟩⟩⟩⟩⟩⟩
theorem lw_p112 : lw_okq (⟨"DimShelfModel", "condition", "()Z"⟩, 72) := ⟨⟨by decide +kernel, by decide +kernel⟩, List.mem_of_getElem? (i := 1382) (by decide +kernel), List.mem_of_getElem? (i := 1762) (by decide +kernel), List.mem_of_getElem? (i := 1763) (by decide +kernel)⟩
theorem lw_p113 : lw_okq (⟨"DimShelfModel", "compares", "()Z"⟩, 72) := ⟨⟨by decide +kernel, by decide +kernel⟩, List.mem_of_getElem? (i := 1382) (by decide +kernel), List.mem_of_getElem? (i := 1766) (by decide +kernel), List.mem_of_getElem? (i := 1767) (by decide +kernel)⟩
theorem lw_p114 : lw_okq (⟨"DimShelfModel", "relation", "()Z"⟩, 72) := ⟨⟨by decide +kernel, by decide +kernel⟩, List.mem_of_getElem? (i := 1382) (by decide +kernel), List.mem_of_getElem? (i := 1770) (by decide +kernel), List.mem_of_getElem? (i := 1771) (by decide +kernel)⟩
theorem lw_p115 : lw_okq (⟨"DimShelfModel", "valued", "(IIII)I"⟩, 72) := ⟨⟨by decide +kernel, by decide +kernel⟩, List.mem_of_getElem? (i := 1382) (by decide +kernel), List.mem_of_getElem? (i := 1774) (by decide +kernel), List.mem_of_getElem? (i := 1775) (by decide +kernel)⟩
theorem lw_p116 : lw_okq (⟨"DimShelfModel", "world", "(III)I"⟩, 72) := ⟨⟨by decide +kernel, by decide +kernel⟩, List.mem_of_getElem? (i := 1382) (by decide +kernel), List.mem_of_getElem? (i := 1778) (by decide +kernel), List.mem_of_getElem? (i := 1779) (by decide +kernel)⟩
theorem lw_p117 : lw_okq (⟨"DimShelfModel", "isWaiting", "(I)Z"⟩, 72) := ⟨⟨by decide +kernel, by decide +kernel⟩, List.mem_of_getElem? (i := 1382) (by decide +kernel), List.mem_of_getElem? (i := 1785) (by decide +kernel), List.mem_of_getElem? (i := 1786) (by decide +kernel)⟩
theorem lw_p118 : lw_okq (⟨"DimShelfModel", "reduce", "()V"⟩, 72) := ⟨⟨by decide +kernel, by decide +kernel⟩, List.mem_of_getElem? (i := 1382) (by decide +kernel), List.mem_of_getElem? (i := 1789) (by decide +kernel), List.mem_of_getElem? (i := 1790) (by decide +kernel)⟩
theorem lw_p119 : lw_okq (⟨"DimShelfModel", "invert", "(I)V"⟩, 72) := ⟨⟨by decide +kernel, by decide +kernel⟩, List.mem_of_getElem? (i := 1382) (by decide +kernel), List.mem_of_getElem? (i := 1793) (by decide +kernel), List.mem_of_getElem? (i := 1794) (by decide +kernel)⟩
theorem lw_p120 : lw_okq (⟨"DimShelfModel", "alwaysTold", "()Z"⟩, 72) := ⟨⟨by decide +kernel, by decide +kernel⟩, List.mem_of_getElem? (i := 1382) (by decide +kernel), List.mem_of_getElem? (i := 1797) (by decide +kernel), List.mem_of_getElem? (i := 1798) (by decide +kernel)⟩
theorem lw_p121 : lw_okq (⟨"DimShelfModel", "isHeld", "(II)Z"⟩, 72) := ⟨⟨by decide +kernel, by decide +kernel⟩, List.mem_of_getElem? (i := 1382) (by decide +kernel), List.mem_of_getElem? (i := 1801) (by decide +kernel), List.mem_of_getElem? (i := 1802) (by decide +kernel)⟩
theorem lw_p122 : lw_okq (⟨"DimShelfModel", "answerTold", "()Z"⟩, 72) := ⟨⟨by decide +kernel, by decide +kernel⟩, List.mem_of_getElem? (i := 1382) (by decide +kernel), List.mem_of_getElem? (i := 1805) (by decide +kernel), List.mem_of_getElem? (i := 1806) (by decide +kernel)⟩
theorem lw_p123 : lw_okq (⟨"DimShelfModel", "question", "()Z"⟩, 72) := ⟨⟨by decide +kernel, by decide +kernel⟩, List.mem_of_getElem? (i := 1382) (by decide +kernel), List.mem_of_getElem? (i := 1809) (by decide +kernel), List.mem_of_getElem? (i := 1810) (by decide +kernel)⟩
theorem lw_p124 : lw_okq (⟨"DimShelfModel", "tabled", "(I)Z"⟩, 72) := ⟨⟨by decide +kernel, by decide +kernel⟩, List.mem_of_getElem? (i := 1382) (by decide +kernel), List.mem_of_getElem? (i := 1813) (by decide +kernel), List.mem_of_getElem? (i := 1814) (by decide +kernel)⟩
theorem lw_p125 : lw_okq (⟨"DimShelfModel", "copy", "(II)V"⟩, 72) := ⟨⟨by decide +kernel, by decide +kernel⟩, List.mem_of_getElem? (i := 1382) (by decide +kernel), List.mem_of_getElem? (i := 1817) (by decide +kernel), List.mem_of_getElem? (i := 1818) (by decide +kernel)⟩
theorem lw_p126 : lw_okq (⟨"DimShelfModel", "copyRow", "(IIII)V"⟩, 72) := ⟨⟨by decide +kernel, by decide +kernel⟩, List.mem_of_getElem? (i := 1382) (by decide +kernel), List.mem_of_getElem? (i := 1821) (by decide +kernel), List.mem_of_getElem? (i := 1822) (by decide +kernel)⟩
theorem lw_p127 : lw_okq (⟨"DimShelfModel", "steps", "(I)Z"⟩, 72) := ⟨⟨by decide +kernel, by decide +kernel⟩, List.mem_of_getElem? (i := 1382) (by decide +kernel), List.mem_of_getElem? (i := 1825) (by decide +kernel), List.mem_of_getElem? (i := 1826) (by decide +kernel)⟩
def lw_privs_8 : List (MethodName × Nat) := [(⟨"DimShelfModel", "condition", "()Z"⟩, 72), (⟨"DimShelfModel", "compares", "()Z"⟩, 72), (⟨"DimShelfModel", "relation", "()Z"⟩, 72), (⟨"DimShelfModel", "valued", "(IIII)I"⟩, 72), (⟨"DimShelfModel", "world", "(III)I"⟩, 72), (⟨"DimShelfModel", "isWaiting", "(I)Z"⟩, 72), (⟨"DimShelfModel", "reduce", "()V"⟩, 72), (⟨"DimShelfModel", "invert", "(I)V"⟩, 72), (⟨"DimShelfModel", "alwaysTold", "()Z"⟩, 72), (⟨"DimShelfModel", "isHeld", "(II)Z"⟩, 72), (⟨"DimShelfModel", "answerTold", "()Z"⟩, 72), (⟨"DimShelfModel", "question", "()Z"⟩, 72), (⟨"DimShelfModel", "tabled", "(I)Z"⟩, 72), (⟨"DimShelfModel", "copy", "(II)V"⟩, 72), (⟨"DimShelfModel", "copyRow", "(IIII)V"⟩, 72), (⟨"DimShelfModel", "steps", "(I)Z"⟩, 72)]
theorem lw_r8 : ∀ q ∈ lw_privs_8, lw_okq q := List.forall_mem_cons.mpr ⟨lw_p112, List.forall_mem_cons.mpr ⟨lw_p113, List.forall_mem_cons.mpr ⟨lw_p114, List.forall_mem_cons.mpr ⟨lw_p115, List.forall_mem_cons.mpr ⟨lw_p116, List.forall_mem_cons.mpr ⟨lw_p117, List.forall_mem_cons.mpr ⟨lw_p118, List.forall_mem_cons.mpr ⟨lw_p119, List.forall_mem_cons.mpr ⟨lw_p120, List.forall_mem_cons.mpr ⟨lw_p121, List.forall_mem_cons.mpr ⟨lw_p122, List.forall_mem_cons.mpr ⟨lw_p123, List.forall_mem_cons.mpr ⟨lw_p124, List.forall_mem_cons.mpr ⟨lw_p125, List.forall_mem_cons.mpr ⟨lw_p126, List.forall_mem_cons.mpr ⟨lw_p127, fun _ h => absurd h List.not_mem_nil⟩⟩⟩⟩⟩⟩⟩⟩⟩⟩⟩⟩⟩⟩⟩⟩
theorem lw_p128 : lw_okq (⟨"DimShelfModel", "tests", "(I)Z"⟩, 72) := ⟨⟨by decide +kernel, by decide +kernel⟩, List.mem_of_getElem? (i := 1382) (by decide +kernel), List.mem_of_getElem? (i := 1829) (by decide +kernel), List.mem_of_getElem? (i := 1830) (by decide +kernel)⟩
theorem lw_p129 : lw_okq (⟨"DimShelfModel", "side", "(I)Z"⟩, 72) := ⟨⟨by decide +kernel, by decide +kernel⟩, List.mem_of_getElem? (i := 1382) (by decide +kernel), List.mem_of_getElem? (i := 1833) (by decide +kernel), List.mem_of_getElem? (i := 1834) (by decide +kernel)⟩
theorem lw_p130 : lw_okq (⟨"DimShelfModel", "told", "(I)I"⟩, 72) := ⟨⟨by decide +kernel, by decide +kernel⟩, List.mem_of_getElem? (i := 1382) (by decide +kernel), List.mem_of_getElem? (i := 1837) (by decide +kernel), List.mem_of_getElem? (i := 1838) (by decide +kernel)⟩
theorem lw_p131 : lw_okq (⟨"DimShelfModel", "sided", "(IIIII)I"⟩, 72) := ⟨⟨by decide +kernel, by decide +kernel⟩, List.mem_of_getElem? (i := 1382) (by decide +kernel), List.mem_of_getElem? (i := 1841) (by decide +kernel), List.mem_of_getElem? (i := 1842) (by decide +kernel)⟩
theorem lw_p132 : lw_okq (⟨"DimShelfModel", "valueAt", "(IIII)I"⟩, 72) := ⟨⟨by decide +kernel, by decide +kernel⟩, List.mem_of_getElem? (i := 1382) (by decide +kernel), List.mem_of_getElem? (i := 1845) (by decide +kernel), List.mem_of_getElem? (i := 1846) (by decide +kernel)⟩
theorem lw_p133 : lw_okq (⟨"DimShelfModel", "slotHalf", "(I)I"⟩, 72) := ⟨⟨by decide +kernel, by decide +kernel⟩, List.mem_of_getElem? (i := 1382) (by decide +kernel), List.mem_of_getElem? (i := 1849) (by decide +kernel), List.mem_of_getElem? (i := 1850) (by decide +kernel)⟩
theorem lw_p134 : lw_okq (⟨"DimShelfModel", "takes", "(I)Z"⟩, 72) := ⟨⟨by decide +kernel, by decide +kernel⟩, List.mem_of_getElem? (i := 1382) (by decide +kernel), List.mem_of_getElem? (i := 1853) (by decide +kernel), List.mem_of_getElem? (i := 1854) (by decide +kernel)⟩
theorem lw_p135 : lw_okq (⟨"DimShelfModel", "columns", "(IZ)Z"⟩, 72) := ⟨⟨by decide +kernel, by decide +kernel⟩, List.mem_of_getElem? (i := 1382) (by decide +kernel), List.mem_of_getElem? (i := 1857) (by decide +kernel), List.mem_of_getElem? (i := 1858) (by decide +kernel)⟩
theorem lw_p136 : lw_okq (⟨"DimShelfModel", "renames", "(I)Z"⟩, 72) := ⟨⟨by decide +kernel, by decide +kernel⟩, List.mem_of_getElem? (i := 1382) (by decide +kernel), List.mem_of_getElem? (i := 1861) (by decide +kernel), List.mem_of_getElem? (i := 1862) (by decide +kernel)⟩
theorem lw_p137 : lw_okq (⟨"DimShelfModel", "groups", "(I)Z"⟩, 72) := ⟨⟨by decide +kernel, by decide +kernel⟩, List.mem_of_getElem? (i := 1382) (by decide +kernel), List.mem_of_getElem? (i := 1865) (by decide +kernel), List.mem_of_getElem? (i := 1866) (by decide +kernel)⟩
theorem lw_p138 : lw_okq (⟨"DimShelfModel", "act", "()Z"⟩, 72) := ⟨⟨by decide +kernel, by decide +kernel⟩, List.mem_of_getElem? (i := 1382) (by decide +kernel), List.mem_of_getElem? (i := 1869) (by decide +kernel), List.mem_of_getElem? (i := 1870) (by decide +kernel)⟩
theorem lw_p139 : lw_okq (⟨"DimShelfModel", "group", "(IIII)Z"⟩, 72) := ⟨⟨by decide +kernel, by decide +kernel⟩, List.mem_of_getElem? (i := 1382) (by decide +kernel), List.mem_of_getElem? (i := 1873) (by decide +kernel), List.mem_of_getElem? (i := 1874) (by decide +kernel)⟩
theorem lw_p140 : lw_okq (⟨"DimShelfModel", "collect", "(II)V"⟩, 72) := ⟨⟨by decide +kernel, by decide +kernel⟩, List.mem_of_getElem? (i := 1382) (by decide +kernel), List.mem_of_getElem? (i := 1877) (by decide +kernel), List.mem_of_getElem? (i := 1878) (by decide +kernel)⟩
theorem lw_p141 : lw_okq (⟨"DimShelfModel", "compareRows", "(IIIII)I"⟩, 72) := ⟨⟨by decide +kernel, by decide +kernel⟩, List.mem_of_getElem? (i := 1382) (by decide +kernel), List.mem_of_getElem? (i := 1881) (by decide +kernel), List.mem_of_getElem? (i := 1882) (by decide +kernel)⟩
theorem lw_p142 : lw_okq (⟨"DimShelfModel", "isFirst", "(III)Z"⟩, 72) := ⟨⟨by decide +kernel, by decide +kernel⟩, List.mem_of_getElem? (i := 1382) (by decide +kernel), List.mem_of_getElem? (i := 1885) (by decide +kernel), List.mem_of_getElem? (i := 1886) (by decide +kernel)⟩
theorem lw_p143 : lw_okq (⟨"DimShelfModel", "isGroup", "(IIII)Z"⟩, 72) := ⟨⟨by decide +kernel, by decide +kernel⟩, List.mem_of_getElem? (i := 1382) (by decide +kernel), List.mem_of_getElem? (i := 1889) (by decide +kernel), List.mem_of_getElem? (i := 1890) (by decide +kernel)⟩
def lw_privs_9 : List (MethodName × Nat) := [(⟨"DimShelfModel", "tests", "(I)Z"⟩, 72), (⟨"DimShelfModel", "side", "(I)Z"⟩, 72), (⟨"DimShelfModel", "told", "(I)I"⟩, 72), (⟨"DimShelfModel", "sided", "(IIIII)I"⟩, 72), (⟨"DimShelfModel", "valueAt", "(IIII)I"⟩, 72), (⟨"DimShelfModel", "slotHalf", "(I)I"⟩, 72), (⟨"DimShelfModel", "takes", "(I)Z"⟩, 72), (⟨"DimShelfModel", "columns", "(IZ)Z"⟩, 72), (⟨"DimShelfModel", "renames", "(I)Z"⟩, 72), (⟨"DimShelfModel", "groups", "(I)Z"⟩, 72), (⟨"DimShelfModel", "act", "()Z"⟩, 72), (⟨"DimShelfModel", "group", "(IIII)Z"⟩, 72), (⟨"DimShelfModel", "collect", "(II)V"⟩, 72), (⟨"DimShelfModel", "compareRows", "(IIIII)I"⟩, 72), (⟨"DimShelfModel", "isFirst", "(III)Z"⟩, 72), (⟨"DimShelfModel", "isGroup", "(IIII)Z"⟩, 72)]
theorem lw_r9 : ∀ q ∈ lw_privs_9, lw_okq q := List.forall_mem_cons.mpr ⟨lw_p128, List.forall_mem_cons.mpr ⟨lw_p129, List.forall_mem_cons.mpr ⟨lw_p130, List.forall_mem_cons.mpr ⟨lw_p131, List.forall_mem_cons.mpr ⟨lw_p132, List.forall_mem_cons.mpr ⟨lw_p133, List.forall_mem_cons.mpr ⟨lw_p134, List.forall_mem_cons.mpr ⟨lw_p135, List.forall_mem_cons.mpr ⟨lw_p136, List.forall_mem_cons.mpr ⟨lw_p137, List.forall_mem_cons.mpr ⟨lw_p138, List.forall_mem_cons.mpr ⟨lw_p139, List.forall_mem_cons.mpr ⟨lw_p140, List.forall_mem_cons.mpr ⟨lw_p141, List.forall_mem_cons.mpr ⟨lw_p142, List.forall_mem_cons.mpr ⟨lw_p143, fun _ h => absurd h List.not_mem_nil⟩⟩⟩⟩⟩⟩⟩⟩⟩⟩⟩⟩⟩⟩⟩⟩
theorem lw_p144 : lw_okq (⟨"DimShelfModel", "reckon", "(IIIII)V"⟩, 72) := ⟨⟨by decide +kernel, by decide +kernel⟩, List.mem_of_getElem? (i := 1382) (by decide +kernel), List.mem_of_getElem? (i := 1893) (by decide +kernel), List.mem_of_getElem? (i := 1894) (by decide +kernel)⟩
theorem lw_p145 : lw_okq (⟨"DimShelfModel", "comes", "(II)Z"⟩, 72) := ⟨⟨by decide +kernel, by decide +kernel⟩, List.mem_of_getElem? (i := 1382) (by decide +kernel), List.mem_of_getElem? (i := 1897) (by decide +kernel), List.mem_of_getElem? (i := 1898) (by decide +kernel)⟩
theorem lw_p146 : lw_okq (⟨"DimShelfModel", "against", "(II)I"⟩, 72) := ⟨⟨by decide +kernel, by decide +kernel⟩, List.mem_of_getElem? (i := 1382) (by decide +kernel), List.mem_of_getElem? (i := 1901) (by decide +kernel), List.mem_of_getElem? (i := 1902) (by decide +kernel)⟩
theorem lw_p147 : lw_okq (⟨"DimShelfModel", "isActing", "(I)Z"⟩, 72) := ⟨⟨by decide +kernel, by decide +kernel⟩, List.mem_of_getElem? (i := 1382) (by decide +kernel), List.mem_of_getElem? (i := 1905) (by decide +kernel), List.mem_of_getElem? (i := 1906) (by decide +kernel)⟩
theorem lw_p148 : lw_okq (⟨"DimShelfModel", "done", "()Z"⟩, 72) := ⟨⟨by decide +kernel, by decide +kernel⟩, List.mem_of_getElem? (i := 1382) (by decide +kernel), List.mem_of_getElem? (i := 1909) (by decide +kernel), List.mem_of_getElem? (i := 1910) (by decide +kernel)⟩
theorem lw_p149 : lw_okq (⟨"DimShelfModel", "joined", "(II)Z"⟩, 72) := ⟨⟨by decide +kernel, by decide +kernel⟩, List.mem_of_getElem? (i := 1382) (by decide +kernel), List.mem_of_getElem? (i := 1913) (by decide +kernel), List.mem_of_getElem? (i := 1914) (by decide +kernel)⟩
theorem lw_p150 : lw_okq (⟨"DimShelfModel", "join", "(II)Z"⟩, 72) := ⟨⟨by decide +kernel, by decide +kernel⟩, List.mem_of_getElem? (i := 1382) (by decide +kernel), List.mem_of_getElem? (i := 1917) (by decide +kernel), List.mem_of_getElem? (i := 1918) (by decide +kernel)⟩
theorem lw_p151 : lw_okq (⟨"DimShelfModel", "isAlike", "(II)Z"⟩, 72) := ⟨⟨by decide +kernel, by decide +kernel⟩, List.mem_of_getElem? (i := 1382) (by decide +kernel), List.mem_of_getElem? (i := 1921) (by decide +kernel), List.mem_of_getElem? (i := 1922) (by decide +kernel)⟩
theorem lw_p152 : lw_okq (⟨"DimShelfModel", "union", "(II)Z"⟩, 72) := ⟨⟨by decide +kernel, by decide +kernel⟩, List.mem_of_getElem? (i := 1382) (by decide +kernel), List.mem_of_getElem? (i := 1925) (by decide +kernel), List.mem_of_getElem? (i := 1926) (by decide +kernel)⟩
theorem lw_p153 : lw_okq (⟨"DimShelfModel", "minus", "(I)Z"⟩, 72) := ⟨⟨by decide +kernel, by decide +kernel⟩, List.mem_of_getElem? (i := 1382) (by decide +kernel), List.mem_of_getElem? (i := 1929) (by decide +kernel), List.mem_of_getElem? (i := 1930) (by decide +kernel)⟩
theorem lw_p154 : lw_okq (⟨"DimShelfModel", "asks", "()Z"⟩, 72) := ⟨⟨by decide +kernel, by decide +kernel⟩, List.mem_of_getElem? (i := 1382) (by decide +kernel), List.mem_of_getElem? (i := 1941) (by decide +kernel), List.mem_of_getElem? (i := 1942) (by decide +kernel)⟩
theorem lw_p155 : lw_okq (⟨"DimShelfModel", "chooses", "(I)Z"⟩, 72) := ⟨⟨by decide +kernel, by decide +kernel⟩, List.mem_of_getElem? (i := 1382) (by decide +kernel), List.mem_of_getElem? (i := 1957) (by decide +kernel), List.mem_of_getElem? (i := 1958) (by decide +kernel)⟩
theorem lw_p156 : lw_okq (⟨"DimShelfModel", "meetsAll", "(I)Z"⟩, 72) := ⟨⟨by decide +kernel, by decide +kernel⟩, List.mem_of_getElem? (i := 1382) (by decide +kernel), List.mem_of_getElem? (i := 1961) (by decide +kernel), List.mem_of_getElem? (i := 1962) (by decide +kernel)⟩
theorem lw_p157 : lw_okq (⟨"DimShelfModel", "worldOf", "(I)I"⟩, 72) := ⟨⟨by decide +kernel, by decide +kernel⟩, List.mem_of_getElem? (i := 1382) (by decide +kernel), List.mem_of_getElem? (i := 1969) (by decide +kernel), List.mem_of_getElem? (i := 1970) (by decide +kernel)⟩
theorem lw_p158 : lw_okq (⟨"DimShelfModel", "isTable", "(I)Z"⟩, 72) := ⟨⟨by decide +kernel, by decide +kernel⟩, List.mem_of_getElem? (i := 1382) (by decide +kernel), List.mem_of_getElem? (i := 1978) (by decide +kernel), List.mem_of_getElem? (i := 1979) (by decide +kernel)⟩
theorem lw_p159 : lw_okq (⟨"DimShelfModel", "sures", "(I)V"⟩, 72) := ⟨⟨by decide +kernel, by decide +kernel⟩, List.mem_of_getElem? (i := 1382) (by decide +kernel), List.mem_of_getElem? (i := 1982) (by decide +kernel), List.mem_of_getElem? (i := 1983) (by decide +kernel)⟩
def lw_privs_10 : List (MethodName × Nat) := [(⟨"DimShelfModel", "reckon", "(IIIII)V"⟩, 72), (⟨"DimShelfModel", "comes", "(II)Z"⟩, 72), (⟨"DimShelfModel", "against", "(II)I"⟩, 72), (⟨"DimShelfModel", "isActing", "(I)Z"⟩, 72), (⟨"DimShelfModel", "done", "()Z"⟩, 72), (⟨"DimShelfModel", "joined", "(II)Z"⟩, 72), (⟨"DimShelfModel", "join", "(II)Z"⟩, 72), (⟨"DimShelfModel", "isAlike", "(II)Z"⟩, 72), (⟨"DimShelfModel", "union", "(II)Z"⟩, 72), (⟨"DimShelfModel", "minus", "(I)Z"⟩, 72), (⟨"DimShelfModel", "asks", "()Z"⟩, 72), (⟨"DimShelfModel", "chooses", "(I)Z"⟩, 72), (⟨"DimShelfModel", "meetsAll", "(I)Z"⟩, 72), (⟨"DimShelfModel", "worldOf", "(I)I"⟩, 72), (⟨"DimShelfModel", "isTable", "(I)Z"⟩, 72), (⟨"DimShelfModel", "sures", "(I)V"⟩, 72)]
theorem lw_r10 : ∀ q ∈ lw_privs_10, lw_okq q := List.forall_mem_cons.mpr ⟨lw_p144, List.forall_mem_cons.mpr ⟨lw_p145, List.forall_mem_cons.mpr ⟨lw_p146, List.forall_mem_cons.mpr ⟨lw_p147, List.forall_mem_cons.mpr ⟨lw_p148, List.forall_mem_cons.mpr ⟨lw_p149, List.forall_mem_cons.mpr ⟨lw_p150, List.forall_mem_cons.mpr ⟨lw_p151, List.forall_mem_cons.mpr ⟨lw_p152, List.forall_mem_cons.mpr ⟨lw_p153, List.forall_mem_cons.mpr ⟨lw_p154, List.forall_mem_cons.mpr ⟨lw_p155, List.forall_mem_cons.mpr ⟨lw_p156, List.forall_mem_cons.mpr ⟨lw_p157, List.forall_mem_cons.mpr ⟨lw_p158, List.forall_mem_cons.mpr ⟨lw_p159, fun _ h => absurd h List.not_mem_nil⟩⟩⟩⟩⟩⟩⟩⟩⟩⟩⟩⟩⟩⟩⟩⟩
theorem lw_p160 : lw_okq (⟨"DimShelfModel", "isIn", "(IIII)Z"⟩, 72) := ⟨⟨by decide +kernel, by decide +kernel⟩, List.mem_of_getElem? (i := 1382) (by decide +kernel), List.mem_of_getElem? (i := 1986) (by decide +kernel), List.mem_of_getElem? (i := 1987) (by decide +kernel)⟩
theorem lw_p161 : lw_okq (⟨"DimShelfModel", "maybes", "(I)V"⟩, 72) := ⟨⟨by decide +kernel, by decide +kernel⟩, List.mem_of_getElem? (i := 1382) (by decide +kernel), List.mem_of_getElem? (i := 1990) (by decide +kernel), List.mem_of_getElem? (i := 1991) (by decide +kernel)⟩
theorem lw_p162 : lw_okq (⟨"DimShelfModel", "sink", "(III)V"⟩, 72) := ⟨⟨by decide +kernel, by decide +kernel⟩, List.mem_of_getElem? (i := 1382) (by decide +kernel), List.mem_of_getElem? (i := 1994) (by decide +kernel), List.mem_of_getElem? (i := 1995) (by decide +kernel)⟩
theorem lw_p163 : lw_okq (⟨"DimShelfModel", "comparePairs", "(III)I"⟩, 72) := ⟨⟨by decide +kernel, by decide +kernel⟩, List.mem_of_getElem? (i := 1382) (by decide +kernel), List.mem_of_getElem? (i := 1998) (by decide +kernel), List.mem_of_getElem? (i := 1999) (by decide +kernel)⟩
theorem lw_p164 : lw_okq (⟨"DimShelfModel", "isRow", "(II)Z"⟩, 72) := ⟨⟨by decide +kernel, by decide +kernel⟩, List.mem_of_getElem? (i := 1382) (by decide +kernel), List.mem_of_getElem? (i := 2006) (by decide +kernel), List.mem_of_getElem? (i := 2007) (by decide +kernel)⟩
theorem lw_p165 : lw_okq (⟨"DimShelfModel", "isSame", "(III)Z"⟩, 72) := ⟨⟨by decide +kernel, by decide +kernel⟩, List.mem_of_getElem? (i := 1382) (by decide +kernel), List.mem_of_getElem? (i := 2042) (by decide +kernel), List.mem_of_getElem? (i := 2043) (by decide +kernel)⟩
theorem lw_p166 : lw_okq (⟨"DimShelfModel", "holding", "()I"⟩, 72) := ⟨⟨by decide +kernel, by decide +kernel⟩, List.mem_of_getElem? (i := 1382) (by decide +kernel), List.mem_of_getElem? (i := 2050) (by decide +kernel), List.mem_of_getElem? (i := 2051) (by decide +kernel)⟩
def lw_privs_11 : List (MethodName × Nat) := [(⟨"DimShelfModel", "isIn", "(IIII)Z"⟩, 72), (⟨"DimShelfModel", "maybes", "(I)V"⟩, 72), (⟨"DimShelfModel", "sink", "(III)V"⟩, 72), (⟨"DimShelfModel", "comparePairs", "(III)I"⟩, 72), (⟨"DimShelfModel", "isRow", "(II)Z"⟩, 72), (⟨"DimShelfModel", "isSame", "(III)Z"⟩, 72), (⟨"DimShelfModel", "holding", "()I"⟩, 72)]
theorem lw_r11 : ∀ q ∈ lw_privs_11, lw_okq q := List.forall_mem_cons.mpr ⟨lw_p160, List.forall_mem_cons.mpr ⟨lw_p161, List.forall_mem_cons.mpr ⟨lw_p162, List.forall_mem_cons.mpr ⟨lw_p163, List.forall_mem_cons.mpr ⟨lw_p164, List.forall_mem_cons.mpr ⟨lw_p165, List.forall_mem_cons.mpr ⟨lw_p166, fun _ h => absurd h List.not_mem_nil⟩⟩⟩⟩⟩⟩⟩
def lw_privs : List (MethodName × Nat) := lw_privs_1 ++ (lw_privs_2 ++ (lw_privs_3 ++ (lw_privs_4 ++ (lw_privs_5 ++ (lw_privs_6 ++ (lw_privs_7 ++ (lw_privs_8 ++ (lw_privs_9 ++ (lw_privs_10 ++ (lw_privs_11))))))))))
def lw_tbl : List Cond := k2_sels lw_privs ++ tables_1
theorem lw_privs_ok : ∀ q ∈ lw_privs, lw_okq q := by
  show ∀ q ∈ lw_privs_1 ++ (lw_privs_2 ++ (lw_privs_3 ++ (lw_privs_4 ++ (lw_privs_5 ++ (lw_privs_6 ++ (lw_privs_7 ++ (lw_privs_8 ++ (lw_privs_9 ++ (lw_privs_10 ++ (lw_privs_11)))))))))), lw_okq q
  exact List.forall_mem_append.mpr ⟨lw_r1, List.forall_mem_append.mpr ⟨lw_r2, List.forall_mem_append.mpr ⟨lw_r3, List.forall_mem_append.mpr ⟨lw_r4, List.forall_mem_append.mpr ⟨lw_r5, List.forall_mem_append.mpr ⟨lw_r6, List.forall_mem_append.mpr ⟨lw_r7, List.forall_mem_append.mpr ⟨lw_r8, List.forall_mem_append.mpr ⟨lw_r9, List.forall_mem_append.mpr ⟨lw_r10, lw_r11⟩⟩⟩⟩⟩⟩⟩⟩⟩⟩
-- ===== end of PART A; then your names; then what follows =====
end
section
/-! THE ABSTRACT MACHINE (aj_): the bytecode run over a plain list of cells; what it does, the machine does (part 02). A reference r below the number of static arrays names that static array; else r less that number is a place of the list. -/
abbrev aj_L : Type := Nat × Nat × Nat × Nat × Int
abbrev aj_M : Type := MethodName × ByteArray × Nat × Option FieldType × Nat × List aj_L × String
abbrev aj_E : Type := (Nat × vp_A) ⊕ (Nat × List Value)
abbrev aj_H : Type := List aj_E
abbrev aj_T : Type := List (Nat × vp_A)
abbrev aj_V : Type := List (Nat × Value)
abbrev aj_Fr : Type := Nat × aj_V × List Value
/-- next (a frame, a heap, what it made), or a call (how, which, arguments, the frame behind it), or an end -/
abbrev aj_Out : Type := (aj_Fr × aj_H × Nat × Nat) ⊕ ((Nat × Nat × List Value × aj_Fr) ⊕ Option Value)
def aj_lv (lv : aj_V) (i : Nat) : Option Value := (lv.find? (fun q => q.1 == i)).map (fun q => q.2)
def aj_set1 (lv : aj_V) (i : Nat) (v : Value) : aj_V := (i, v) :: lv.filter (fun q => !(q.1 == i) && !(q.1 + 1 == i && q.2.category == 2))
def aj_set2 (lv : aj_V) (i : Nat) (v : Value) : aj_V := (i, v) :: lv.filter (fun q => !(q.1 == i) && (!(q.1 == i + 1) && !(q.1 + 1 == i && q.2.category == 2)))
def aj_go (pc : Nat) (lv : aj_V) (st : List Value) (h : aj_H) : Option aj_Out := some (.inl ((pc, lv, st), h, 0, 0))
def aj_jump (pc : Nat) (off : Int) (lv : aj_V) (st : List Value) (h : aj_H) : Option aj_Out := if 0 ≤ (pc : Int) + off then aj_go ((pc : Int) + off).toNat lv st h else none
def aj_link (lk : List aj_L) (i : Nat) : Option (Nat × Nat × Nat × Int) := (lk.find? (fun q => q.1 == i)).map (fun q => q.2)
def aj_load (pc : Nat) (lv : aj_V) (st : List Value) (h : aj_H) (len i kind : Nat) : Option aj_Out := match aj_lv lv i with
  | some (.int x) => if kind = 0 then aj_go (pc + len) lv (.int x :: st) h else none
  | some (.long x) => if kind = 1 then aj_go (pc + len) lv (.long x :: st) h else none
  | some (.ref x) => if kind = 2 then aj_go (pc + len) lv (.ref x :: st) h else none
  | some .null => if kind = 2 then aj_go (pc + len) lv (.null :: st) h else none
  | _ => none
def aj_store (nL pc : Nat) (lv : aj_V) (st : List Value) (h : aj_H) (len i kind : Nat) : Option aj_Out := match st with
  | .int x :: r => if kind = 0 ∧ i < nL then aj_go (pc + len) (aj_set1 lv i (.int x)) r h else none
  | .long x :: r => if kind = 1 ∧ i + 1 < nL then aj_go (pc + len) (aj_set2 lv i (.long x)) r h else none
  | .ref x :: r => if kind = 2 ∧ i < nL then aj_go (pc + len) (aj_set1 lv i (.ref x)) r h else none
  | .null :: r => if kind = 2 ∧ i < nL then aj_go (pc + len) (aj_set1 lv i .null) r h else none
  | _ => none
def aj_ii (f : Int32 → Int32 → Int32) (pc : Nat) (lv : aj_V) (st : List Value) (h : aj_H) : Option aj_Out := match st with
  | .int y :: .int x :: r => aj_go (pc + 1) lv (.int (f x y) :: r) h
  | _ => none
def aj_iz (f : Int32 → Int32 → Int32) (pc : Nat) (lv : aj_V) (st : List Value) (h : aj_H) : Option aj_Out := match st with
  | .int y :: .int x :: r => if y = 0 then none else aj_go (pc + 1) lv (.int (f x y) :: r) h
  | _ => none
def aj_ll (f : Int64 → Int64 → Int64) (pc : Nat) (lv : aj_V) (st : List Value) (h : aj_H) : Option aj_Out := match st with
  | .long y :: .long x :: r => aj_go (pc + 1) lv (.long (f x y) :: r) h
  | _ => none
def aj_test (c : ClassFile.Cond) (x y : Int32) : Bool := match c with
  | .eq => decide (x = y)
  | .ne => !decide (x = y)
  | .lt => decide (x < y)
  | .ge => decide (y ≤ x)
  | .gt => decide (y < x)
  | .le => decide (x ≤ y)
def aj_br (c : ClassFile.Cond) (x y : Int32) (pc : Nat) (off : Int) (lv : aj_V) (st : List Value) (h : aj_H) : Option aj_Out := if 0 ≤ (pc : Int) + off then (if aj_test c x y = true then aj_go ((pc : Int) + off).toNat lv st h else aj_go (pc + 3) lv st h) else none
/-- a class: its name, its fields, how many, their types -/
abbrev aj_C : Type := String × u_T × Nat × (Nat → FieldType)
def aj_in (i : Int32) (n : Nat) : Bool := !decide (i < 0) && decide (i.toNatClampNeg < n)
/-- the kinds of arrays by number: int, long, boolean, char, byte, references -/
def aj_ty (rn : String) : Nat → FieldType
  | 0 => .int
  | 1 => .long
  | 2 => .boolean
  | 3 => .char
  | 4 => .byte
  | _ => .object rn
def aj_arr (tb : aj_T) (h : aj_H) (r : Nat) : Option (Nat × vp_A) := if r < tb.length then tb[r]? else match h[r - tb.length]? with
  | some (.inl a) => some a
  | _ => none
def aj_obj (tb : aj_T) (h : aj_H) (r : Nat) : Option (Nat × List Value) := if r < tb.length then none else match h[r - tb.length]? with
  | some (.inr a) => some a
  | _ => none
/-- int, boolean, char, byte arrays -/
def aj_ald (k : Nat) (tb : aj_T) (pc : Nat) (lv : aj_V) (st : List Value) (h : aj_H) : Option aj_Out := match st with
  | .int i :: .ref r :: rest => match aj_arr tb h r with
    | some (k', n, .inl f) => if k' = k ∧ aj_in i n = true then aj_go (pc + 1) lv (.int (f i.toNatClampNeg) :: rest) h else none
    | _ => none
  | _ => none
def aj_bld (tb : aj_T) (pc : Nat) (lv : aj_V) (st : List Value) (h : aj_H) : Option aj_Out := match st with
  | .int _ :: .ref r :: _ => match aj_arr tb h r with
    | some (2, _) => aj_ald 2 tb pc lv st h
    | _ => aj_ald 4 tb pc lv st h
  | _ => none
def aj_lld (tb : aj_T) (pc : Nat) (lv : aj_V) (st : List Value) (h : aj_H) : Option aj_Out := match st with
  | .int i :: .ref r :: rest => match aj_arr tb h r with
    | some (1, n, .inr (.inl f)) => if aj_in i n = true then aj_go (pc + 1) lv (.long (f i.toNatClampNeg) :: rest) h else none
    | _ => none
  | _ => none
def aj_qld (tb : aj_T) (pc : Nat) (lv : aj_V) (st : List Value) (h : aj_H) : Option aj_Out := match st with
  | .int i :: .ref r :: rest => if r < tb.length then none else match h[r - tb.length]? with
    | some (.inl (5, n, .inr (.inr (.inr (.inr f))))) => if aj_in i n = true then aj_go (pc + 1) lv (va_rf (f i.toNatClampNeg) :: rest) h else none
    | _ => none
  | _ => none
def aj_alen (tb : aj_T) (pc : Nat) (lv : aj_V) (st : List Value) (h : aj_H) : Option aj_Out := match st with
  | .ref r :: rest => match aj_arr tb h r with
    | some (k, n, _) => if k < 6 then aj_go (pc + 1) lv (.int (Int32.ofNat n) :: rest) h else none
    | _ => none
  | _ => none
def aj_nar (k : Nat) (x : Int32) : Int32 := match k with
  | 0 => x
  | 2 => vp_nar .boolean x
  | 3 => vp_nar .char x
  | _ => vp_nar .byte x
def aj_ast (k : Nat) (tb : aj_T) (pc : Nat) (lv : aj_V) (st : List Value) (h : aj_H) : Option aj_Out := match st with
  | .int x :: .int i :: .ref r :: rest => if r < tb.length then none else match h[r - tb.length]? with
    | some (.inl (k', n, .inl f)) => if k' = k ∧ aj_in i n = true then aj_go (pc + 1) lv rest (h.set (r - tb.length) (.inl (k, n, .inl (upd f i.toNatClampNeg (aj_nar k x))))) else none
    | _ => none
  | _ => none
def aj_bst (tb : aj_T) (pc : Nat) (lv : aj_V) (st : List Value) (h : aj_H) : Option aj_Out := match st with
  | .int _ :: .int _ :: .ref r :: _ => match h[r - tb.length]? with
    | some (.inl (2, _)) => aj_ast 2 tb pc lv st h
    | _ => aj_ast 4 tb pc lv st h
  | _ => none
def aj_lst (tb : aj_T) (pc : Nat) (lv : aj_V) (st : List Value) (h : aj_H) : Option aj_Out := match st with
  | .long x :: .int i :: .ref r :: rest => if r < tb.length then none else match h[r - tb.length]? with
    | some (.inl (1, n, .inr (.inl f))) => if aj_in i n = true then aj_go (pc + 1) lv rest (h.set (r - tb.length) (.inl (1, n, .inr (.inl (vp_updL f i.toNatClampNeg x))))) else none
    | _ => none
  | _ => none
/-- a store of a reference: null, or an object of class rc -/
def aj_qst (rc : Nat) (tb : aj_T) (pc : Nat) (lv : aj_V) (st : List Value) (h : aj_H) : Option aj_Out := match st with
  | .ref v :: .int i :: .ref r :: rest => if r < tb.length then none else match h[r - tb.length]? with
    | some (.inl (5, n, .inr (.inr (.inr (.inr f))))) => match aj_obj tb h v with
      | some (ci, _) => if ci = rc ∧ aj_in i n = true then aj_go (pc + 1) lv rest (h.set (r - tb.length) (.inl (5, n, .inr (.inr (.inr (.inr (va_up f i.toNatClampNeg (some v)))))))) else none
      | _ => none
    | _ => none
  | .null :: .int i :: .ref r :: rest => if r < tb.length then none else match h[r - tb.length]? with
    | some (.inl (5, n, .inr (.inr (.inr (.inr f))))) => if aj_in i n = true then aj_go (pc + 1) lv rest (h.set (r - tb.length) (.inl (5, n, .inr (.inr (.inr (.inr (va_up f i.toNatClampNeg none))))))) else none
    | _ => none
  | _ => none
/-- a value that a variable of this type may hold -/
def aj_fit : FieldType → Value → Bool
  | .int, .int _ => true
  | .long, .long _ => true
  | .boolean, .int v => decide (v = 0) || decide (v = 1)
  | .byte, .int v => decide (v.toInt8.toInt32 = v) && (decide (-128 ≤ v) && decide (v ≤ 127))
  | .object _, .null => true
  | .object _, .ref _ => true
  | .array _, .null => true
  | .array _, .ref _ => true
  | _, _ => false
def aj_getf (tb : aj_T) (lk : List aj_L) (pc idx : Nat) (lv : aj_V) (st : List Value) (h : aj_H) : Option aj_Out := match st with
  | .ref r :: rest => match aj_link lk idx, aj_obj tb h r with
    | some (kind, ci, k, _), some (ci', fs) => match fs[k]? with
      | some v => if kind < 2 ∧ ci' = ci then aj_go (pc + 3) lv (v :: rest) h else none
      | none => none
    | _, _ => none
  | _ => none
def aj_putf (cls : List aj_C) (tb : aj_T) (lk : List aj_L) (isI : Bool) (pc idx : Nat) (lv : aj_V) (st : List Value) (h : aj_H) : Option aj_Out := match st with
  | v :: .ref r :: rest => match aj_link lk idx, aj_obj tb h r with
    | some (kind, ci, k, fin), some (ci', fs) => match cls[ci]? with
      | some (_, _, _, ty) => if kind < 2 ∧ ci' = ci ∧ k < fs.length ∧ aj_fit (ty k) v = true ∧ (fin = 0 ∨ (fin = 1 ∧ kind = 0 ∧ isI = true)) then aj_go (pc + 3) lv rest (h.set (r - tb.length) (.inr (ci, fs.set k v))) else none
      | none => none
    | _, _ => none
  | _ => none
def aj_gets (tb : aj_T) (lk : List aj_L) (pc idx : Nat) (lv : aj_V) (st : List Value) (h : aj_H) : Option aj_Out := match aj_link lk idx with
  | some (9, sid, _, _) => if sid < tb.length then aj_go (pc + 3) lv (.ref sid :: st) h else none
  | _ => none
def aj_new (cls : List aj_C) (tb : aj_T) (lk : List aj_L) (pc idx : Nat) (lv : aj_V) (st : List Value) (h : aj_H) : Option aj_Out := match aj_link lk idx with
  | some (12, ci, _, _) => match cls[ci]? with
    | some (_, _, N, ty) => some (.inl ((pc + 3, lv, .ref (tb.length + h.length) :: st), h ++ [.inr (ci, (List.range N).map (fun j => defaultValue (ty j)))], 1, N))
    | none => none
  | _ => none
def aj_blank (k n : Nat) : vp_A := if k = 1 then (n, .inr (.inl (fun _ => 0))) else if k = 5 then (n, .inr (.inr (.inr (.inr (fun _ => none))))) else (n, .inl (fun _ => 0))
def aj_at (a : ArrayType) : Nat := match a with
  | .int => 0
  | .long => 1
  | .boolean => 2
  | .char => 3
  | .byte => 4
  | _ => 6
def aj_newa (tb : aj_T) (k len pc : Nat) (lv : aj_V) (st : List Value) (h : aj_H) : Option aj_Out := match st with
  | .int n :: rest => if k < 6 ∧ ¬ n < 0 ∧ n.toNatClampNeg ≤ 60000000 then some (.inl ((pc + len, lv, .ref (tb.length + h.length) :: rest), h ++ [.inl (k, aj_blank k n.toNatClampNeg)], 1, n.toNatClampNeg)) else none
  | _ => none
def aj_anew (rc : Nat) (tb : aj_T) (lk : List aj_L) (pc idx : Nat) (lv : aj_V) (st : List Value) (h : aj_H) : Option aj_Out := match aj_link lk idx with
  | some (12, ci, _) => if ci = rc then aj_newa tb 5 3 pc lv st h else none
  | _ => none
def aj_ldc (lk : List aj_L) (len pc idx : Nat) (lv : aj_V) (st : List Value) (h : aj_H) : Option aj_Out := match aj_link lk idx with
  | some (10, _, _, v) => aj_go (pc + len) lv (.int (Int32.ofInt v) :: st) h
  | some (11, _, _, v) => if len = 3 then aj_go (pc + len) lv (.long (Int64.ofInt v) :: st) h else none
  | _ => none
def aj_sum (st : List Value) : Nat := (st.map fun v => v.category).sum
def aj_rcv (tb : aj_T) (h : aj_H) (b : Nat) (v : Int) : Bool := match aj_obj tb h b with
  | some (ci, _) => ci == v.toNat
  | none => false
/-- a call: its kind, the method, the arguments -/
def aj_call (lo hi : Nat) (tb : aj_T) (lk : List aj_L) (pc idx : Nat) (lv : aj_V) (st : List Value) (h : aj_H) : Option aj_Out := match aj_link lk idx with
  | some (kind, mi, n, v) => if lo ≤ kind ∧ kind ≤ hi then
      (if kind = 6 then (if n ≤ st.length ∧ aj_sum (st.drop n) ≤ 8 then some (.inr (.inl (kind, mi, (st.take n).reverse, (pc + 3, lv, st.drop n)))) else none)
       else match st.drop n with
        | .ref b :: rest => if (kind = 2 → aj_rcv tb h b v = true) ∧ aj_sum rest ≤ 8 then some (.inr (.inl (kind, mi, .ref b :: (st.take n).reverse, (pc + 3, lv, rest)))) else none
        | _ => none) else none
  | none => none
def aj_ret (ret : Option FieldType) (st : List Value) (k : Nat) : Option aj_Out := match st, ret with
  | [], none => if k = 3 then some (.inr (.inr none)) else none
  | [.int v], some .int => if k = 0 then some (.inr (.inr (some (.int v)))) else none
  | [.int v], some .boolean => if k = 0 ∧ aj_fit .boolean (.int v) = true then some (.inr (.inr (some (.int v)))) else none
  | [.long v], some .long => if k = 1 then some (.inr (.inr (some (.long v)))) else none
  | [.ref v], some (.object _) => if k = 2 then some (.inr (.inr (some (.ref v)))) else none
  | [.null], some (.object _) => if k = 2 then some (.inr (.inr (some .null))) else none
  | [.ref v], some (.array _) => if k = 2 then some (.inr (.inr (some (.ref v)))) else none
  | [.null], some (.array _) => if k = 2 then some (.inr (.inr (some .null))) else none
  | _, _ => none
/-- one instruction -/
def aj_step (rc : Nat) (cls : List aj_C) (tb : aj_T) (lk : List aj_L) (nL : Nat) (ret : Option FieldType) (isI : Bool) (i : Instr) (len pc : Nat) (lv : aj_V) (st : List Value) (h : aj_H) : Option aj_Out := match i with
  | .iconst n => if len = 1 then aj_go (pc + 1) lv (.int (Int32.ofInt n) :: st) h else none
  | .bipush n => if len = 2 then aj_go (pc + 2) lv (.int (Int8.ofInt n).toInt32 :: st) h else none
  | .sipush n => if len = 3 then aj_go (pc + 3) lv (.int (Int16.ofInt n).toInt32 :: st) h else none
  | .lconst n => if len = 1 then aj_go (pc + 1) lv (.long (Int64.ofNat (n : Nat)) :: st) h else none
  | .aconst_null => if len = 1 then aj_go (pc + 1) lv (.null :: st) h else none
  | .iload_n k => if len = 1 then aj_load pc lv st h 1 k 0 else none
  | .iload k => if len = 2 then aj_load pc lv st h 2 k 0 else none
  | .lload_n k => if len = 1 then aj_load pc lv st h 1 k 1 else none
  | .lload k => if len = 2 then aj_load pc lv st h 2 k 1 else none
  | .aload_n k => if len = 1 then aj_load pc lv st h 1 k 2 else none
  | .aload k => if len = 2 then aj_load pc lv st h 2 k 2 else none
  | .istore_n k => if len = 1 then aj_store nL pc lv st h 1 k 0 else none
  | .istore k => if len = 2 then aj_store nL pc lv st h 2 k 0 else none
  | .lstore_n k => if len = 1 then aj_store nL pc lv st h 1 k 1 else none
  | .lstore k => if len = 2 then aj_store nL pc lv st h 2 k 1 else none
  | .astore_n k => if len = 1 then aj_store nL pc lv st h 1 k 2 else none
  | .astore k => if len = 2 then aj_store nL pc lv st h 2 k 2 else none
  | .iinc k n => match aj_lv lv k with
    | some (.int x) => if len = 3 ∧ k < nL then aj_go (pc + 3) (aj_set1 lv k (.int (x + Int32.ofInt n))) st h else none
    | _ => none
  | .iadd => if len = 1 then aj_ii (fun x y => x + y) pc lv st h else none
  | .isub => if len = 1 then aj_ii (fun x y => x - y) pc lv st h else none
  | .imul => if len = 1 then aj_ii (fun x y => x * y) pc lv st h else none
  | .iand => if len = 1 then aj_ii (fun x y => x &&& y) pc lv st h else none
  | .ior => if len = 1 then aj_ii (fun x y => x ||| y) pc lv st h else none
  | .ixor => if len = 1 then aj_ii (fun x y => x ^^^ y) pc lv st h else none
  | .ishl => if len = 1 then aj_ii (fun x y => x <<< (y &&& 31)) pc lv st h else none
  | .ishr => if len = 1 then aj_ii (fun x y => x >>> (y &&& 31)) pc lv st h else none
  | .iushr => if len = 1 then aj_ii (fun x y => (x.toUInt32 >>> (y.toUInt32 &&& Int32.toUInt32 31)).toInt32) pc lv st h else none
  | .idiv => if len = 1 then aj_iz (fun x y => x / y) pc lv st h else none
  | .irem => if len = 1 then aj_iz (fun x y => x - x / y * y) pc lv st h else none
  | .ladd => if len = 1 then aj_ll (fun x y => x + y) pc lv st h else none
  | .lmul => if len = 1 then aj_ll (fun x y => x * y) pc lv st h else none
  | .lor => if len = 1 then aj_ll (fun x y => x ||| y) pc lv st h else none
  | .lshl => match st with
    | .int y :: .long x :: r => if len = 1 then aj_go (pc + 1) lv (.long (x <<< (y.toInt64 &&& 63)) :: r) h else none
    | _ => none
  | .lneg => match st with
    | .long x :: r => if len = 1 then aj_go (pc + 1) lv (.long (-x) :: r) h else none
    | _ => none
  | .lcmp => match st with
    | .long y :: .long x :: r => if len = 1 then aj_go (pc + 1) lv (.int (lg_cmp x y) :: r) h else none
    | _ => none
  | .i2l => match st with
    | .int x :: r => if len = 1 then aj_go (pc + 1) lv (.long x.toInt64 :: r) h else none
    | _ => none
  | .l2i => match st with
    | .long x :: r => if len = 1 then aj_go (pc + 1) lv (.int x.toInt32 :: r) h else none
    | _ => none
  | .i2b => match st with
    | .int x :: r => if len = 1 then aj_go (pc + 1) lv (.int x.toInt8.toInt32 :: r) h else none
    | _ => none
  | .i2c => match st with
    | .int x :: r => if len = 1 then aj_go (pc + 1) lv (.int (x.toUInt32 % 65536).toInt32 :: r) h else none
    | _ => none
  | .dup => match st with
    | v :: r => if len = 1 ∧ v.category = 1 then aj_go (pc + 1) lv (v :: v :: r) h else none
    | _ => none
  | .pop => match st with
    | v :: r => if len = 1 ∧ v.category = 1 then aj_go (pc + 1) lv r h else none
    | _ => none
  | .dup2 => match st with
    | v :: w :: r => if len = 1 ∧ v.category = 1 ∧ w.category = 1 then aj_go (pc + 1) lv (v :: w :: v :: w :: r) h else none
    | _ => none
  | .ifCond c off => match st with
    | .int x :: r => if len = 3 then aj_br c x 0 pc off lv r h else none
    | _ => none
  | .if_icmp c off => match st with
    | .int y :: .int x :: r => if len = 3 then aj_br c x y pc off lv r h else none
    | _ => none
  | .goto off => if len = 3 then aj_jump pc off lv st h else none
  | .ifnull off => match st with
    | .null :: r => if len = 3 then aj_jump pc off lv r h else none
    | .ref _ :: r => if len = 3 then aj_go (pc + 3) lv r h else none
    | _ => none
  | .ifnonnull off => match st with
    | .null :: r => if len = 3 then aj_go (pc + 3) lv r h else none
    | .ref _ :: r => if len = 3 then aj_jump pc off lv r h else none
    | _ => none
  | .tableswitch dflt lo hi offs => match st with
    | .int x :: r => if x.toInt < lo ∨ hi < x.toInt then aj_jump pc dflt lv r h else match offs[(x.toInt - lo).toNat]? with
      | some off => aj_jump pc off lv r h
      | none => none
    | _ => none
  | .lookupswitch dflt ps => match st with
    | .int x :: r => if (ps.toList.zip (ps.toList.drop 1)).all (fun (a, next) => a.1 < next.1) = true then aj_jump pc (Op.lookupswitch.offset ps.toList dflt x.toInt) lv r h else none
    | _ => none
  | .ldc idx => if len = 2 then aj_ldc lk 2 pc idx lv st h else none
  | .ldc_w idx => if len = 3 then (match aj_link lk idx with | some (10, _) => aj_ldc lk 3 pc idx lv st h | _ => none) else none
  | .ldc2_w idx => if len = 3 then (match aj_link lk idx with | some (11, _) => aj_ldc lk 3 pc idx lv st h | _ => none) else none
  | .iaload => if len = 1 then aj_ald 0 tb pc lv st h else none
  | .baload => if len = 1 then aj_bld tb pc lv st h else none
  | .caload => if len = 1 then aj_ald 3 tb pc lv st h else none
  | .laload => if len = 1 then aj_lld tb pc lv st h else none
  | .aaload => if len = 1 then aj_qld tb pc lv st h else none
  | .iastore => if len = 1 then aj_ast 0 tb pc lv st h else none
  | .bastore => if len = 1 then aj_bst tb pc lv st h else none
  | .castore => if len = 1 then aj_ast 3 tb pc lv st h else none
  | .lastore => if len = 1 then aj_lst tb pc lv st h else none
  | .aastore => if len = 1 then aj_qst rc tb pc lv st h else none
  | .arraylength => if len = 1 then aj_alen tb pc lv st h else none
  | .getfield idx => if len = 3 then aj_getf tb lk pc idx lv st h else none
  | .putfield idx => if len = 3 then aj_putf cls tb lk isI pc idx lv st h else none
  | .getstatic idx => if len = 3 then aj_gets tb lk pc idx lv st h else none
  | .new idx => if len = 3 then aj_new cls tb lk pc idx lv st h else none
  | .newarray a => if len = 2 ∧ aj_at a < 5 then aj_newa tb (aj_at a) 2 pc lv st h else none
  | .anewarray idx => if len = 3 then aj_anew rc tb lk pc idx lv st h else none
  | .invokevirtual idx => if len = 3 then aj_call 2 2 tb lk pc idx lv st h else none
  | .invokespecial idx => if len = 3 then aj_call 3 5 tb lk pc idx lv st h else none
  | .invokestatic idx => if len = 3 then aj_call 6 6 tb lk pc idx lv st h else none
  | .ireturn => if len = 1 then aj_ret ret st 0 else none
  | .lreturn => if len = 1 then aj_ret ret st 1 else none
  | .areturn => if len = 1 then aj_ret ret st 2 else none
  | .return_ => if len = 1 then aj_ret ret st 3 else none
  | _ => none
/-- a frame of the method m, its calls answered by 'call', in n steps -/
def aj_frm (rc : Nat) (cls : List aj_C) (tb : aj_T) (m : aj_M) (isI deep : Bool) (call : Nat → List Value → aj_H → Nat → Nat → Option Value → aj_H → Prop) : Nat → Nat → aj_V → List Value → aj_H → Nat → Nat → Nat → Nat → Option Value → aj_H → Prop
  | 0, _, _, _, _, _, _, _, _, _, _ => False
  | n + 1, pc, lv, st, h, kc, ks, mc, ms, r, hF => match decode m.2.1 pc with
    | .ok (i, len) => match aj_step rc cls tb m.2.2.2.2.2.1 m.2.2.1 m.2.2.2.1 isI i len pc lv st h with
      | some (.inl ((pc', lv', st'), h', dc, ds)) => kc + dc ≤ mc ∧ ks + ds ≤ ms ∧ aj_frm rc cls tb m isI deep call n pc' lv' st' h' (kc + dc) (ks + ds) mc ms r hF
      | some (.inr (.inl (kind, mi, as, (pc', lv', st')))) => deep = true ∧ ((kind = 5 ∧ aj_frm rc cls tb m isI deep call n pc' lv' st' h kc ks mc ms r hF) ∨ (kind ≠ 5 ∧ ∃ (mc' ms' : Nat) (r' : Option Value) (h' : aj_H), call mi as h mc' ms' r' h' ∧ h'.length = h.length + mc' ∧ kc + mc' ≤ mc ∧ ks + ms' ≤ ms ∧ aj_frm rc cls tb m isI deep call n pc' lv' (r'.toList ++ st') h' (kc + mc') (ks + ms') mc ms r hF))
      | some (.inr (.inr v)) => r = v ∧ hF = h ∧ kc = mc
      | none => False
    | .error _ => False
def aj_isI (m : aj_M) : Bool := decide (m.1.name = "<init>")
/-- the method of number mi, calls d deep at most: from these arguments and this heap, making mc cells, of ms slots at most, it ends with r and the heap h' -/
def aj_runs (rc : Nat) (cls : List aj_C) (tb : aj_T) (mt : List aj_M) : Nat → Nat → List Value → aj_H → Nat → Nat → Option Value → aj_H → Prop
  | 0, mi, as, h, mc, ms, r, h' => ∃ m : aj_M, mt[mi]? = some m ∧ (lg_sl as).length ≤ m.2.2.1 ∧ ∃ n, aj_frm rc cls tb m (aj_isI m) false (fun _ _ _ _ _ _ _ => False) n 0 (lv_args 0 as) [] h 0 0 mc ms r h'
  | d + 1, mi, as, h, mc, ms, r, h' => ∃ m : aj_M, mt[mi]? = some m ∧ (lg_sl as).length ≤ m.2.2.1 ∧ ∃ n, aj_frm rc cls tb m (aj_isI m) true (aj_runs rc cls tb mt d) n 0 (lv_args 0 as) [] h 0 0 mc ms r h'
end
section
/-! WHAT THE ABSTRACT MACHINE DOES, THE MACHINE DOES -/
def aj_ad (S base : Nat) (stA : Nat → Nat) (r : Nat) : Nat := if r < S then stA r else base + (r - S)
def aj_c (ad : Nat → Nat) : Value → Value
  | .ref r => .ref (ad r)
  | v => v
def aj_cv (ad : Nat → Nat) (lv : aj_V) : aj_V := lv.map fun q => (q.1, aj_c ad q.2)
def aj_ca (ad : Nat → Nat) : vp_A → vp_A
  | (n, .inr (.inr (.inr (.inr f)))) => (n, .inr (.inr (.inr (.inr (fun i => (f i).map ad)))))
  | a => a
def aj_ce (ad : Nat → Nat) (cA : Nat → ClassId) : aj_E → va_E
  | .inl (k, a) => .inl (cA k, aj_ca ad a)
  | .inr (ci, fs) => .inr (ci, fs.map (aj_c ad))
def aj_ws (ad : Nat → Nat) (cA : Nat → ClassId) (base : Nat) (h : aj_H) : va_W := h.mapIdx fun i e => (base + i, aj_ce ad cA e)
theorem aj_c_cat (ad : Nat → Nat) (v : Value) : (aj_c ad v).category = v.category := by cases v <;> rfl
theorem aj_lv_has {ad : Nat → Nat} {ls : Array Slot} {nL : Nat} {lv : aj_V} {i : Nat} {v : Value} (h : lv_has ls nL (aj_cv ad lv)) (hv : aj_lv lv i = some v) : ls[i]? = some (.val (aj_c ad v)) := by
  unfold aj_lv at hv
  obtain ⟨q, hq, rfl⟩ := Option.map_eq_some_iff.mp hv
  have h1 := List.find?_some hq
  have h2 := List.mem_of_find?_eq_some hq
  have h3 : q.1 = i := by simpa using h1
  have h4 := h.2.2 (q.1, aj_c ad q.2) (List.mem_map.mpr ⟨q, h2, rfl⟩)
  rw [← h3]
  exact h4
theorem aj_lv_idx {ad : Nat → Nat} {lv : aj_V} {i : Nat} {v : Value} (hv : aj_lv lv i = some v) : ∃ k : Nat, (aj_cv ad lv)[k]? = some (i, aj_c ad v) := by
  unfold aj_lv at hv
  obtain ⟨q, hq, rfl⟩ := Option.map_eq_some_iff.mp hv
  have h1 := List.find?_some hq
  have h2 := List.mem_of_find?_eq_some hq
  have h3 : q.1 = i := by simpa using h1
  rw [← h3]
  exact List.getElem?_of_mem (List.mem_map.mpr ⟨q, h2, rfl⟩)
theorem aj_cv_set1 (ad : Nat → Nat) (lv : aj_V) (i : Nat) (v : Value) : (i, aj_c ad v) :: (aj_cv ad lv).filter (fun q => !(q.1 == i) && !(q.1 + 1 == i && q.2.category == 2)) = aj_cv ad (aj_set1 lv i v) := by
  simp only [aj_cv, aj_set1, List.map_cons, List.filter_map]
  congr 2
  apply List.filter_congr
  intro q _
  simp [Function.comp, aj_c_cat]
theorem aj_cv_set2 (ad : Nat → Nat) (lv : aj_V) (i : Nat) (v : Value) : (i, aj_c ad v) :: (aj_cv ad lv).filter (fun q => !(q.1 == i) && (!(q.1 == i + 1) && !(q.1 + 1 == i && q.2.category == 2))) = aj_cv ad (aj_set2 lv i v) := by
  simp only [aj_cv, aj_set2, List.map_cons, List.filter_map]
  congr 2
  apply List.filter_congr
  intro q _
  simp [Function.comp, aj_c_cat]
theorem aj_ws_get {ad : Nat → Nat} {cA : Nat → ClassId} {base : Nat} {h : aj_H} {k : Nat} {e : aj_E} (hk : h[k]? = some e) : (aj_ws ad cA base h)[k]? = some (base + k, aj_ce ad cA e) := by
  simp [aj_ws, hk]
theorem aj_ws_set {ad : Nat → Nat} {cA : Nat → ClassId} {base : Nat} {h : aj_H} {k : Nat} {e : aj_E} : (aj_ws ad cA base h).set k (base + k, aj_ce ad cA e) = aj_ws ad cA base (h.set k e) := by
  apply List.ext_getElem?
  intro j
  simp only [aj_ws, List.getElem?_mapIdx, List.getElem?_set, List.length_mapIdx]
  by_cases hj : k = j
  · subst hj
    by_cases hk : k < h.length <;> simp [hk]
  · simp [hj]
theorem aj_ws_app {ad : Nat → Nat} {cA : Nat → ClassId} {base : Nat} {h : aj_H} {e : aj_E} : aj_ws ad cA base (h ++ [e]) = aj_ws ad cA base h ++ [(base + h.length, aj_ce ad cA e)] := by
  simp [aj_ws, List.mapIdx_append]
theorem aj_ws_len {ad : Nat → Nat} {cA : Nat → ClassId} {base : Nat} {h : aj_H} : (aj_ws ad cA base h).length = h.length := by simp [aj_ws]
theorem aj_D {ad : Nat → Nat} {cA : Nat → ClassId} {base : Nat} (h : aj_H) : va_D (fun q => base ≤ q) (aj_ws ad cA base h) := by
  constructor
  · intro i j p q hp hq hpq
    simp only [aj_ws, List.getElem?_mapIdx, Option.map_eq_some_iff] at hp hq
    obtain ⟨a, -, rfl⟩ := hp
    obtain ⟨b, -, rfl⟩ := hq
    dsimp only at hpq
    omega
  · intro k q hq
    simp only [aj_ws, List.getElem?_mapIdx, Option.map_eq_some_iff] at hq
    obtain ⟨a, -, rfl⟩ := hq
    exact Nat.le_add_right _ _
theorem aj_in_ok {i : Int32} {n : Nat} (h : aj_in i n = true) : vp_in i n := by
  simp only [aj_in, Bool.and_eq_true, Bool.not_eq_true', decide_eq_false_iff_not, decide_eq_true_eq] at h
  intro q
  rcases q with q | q
  · exact h.1 q
  · omega
end
section
def aj_K (rn : String) (D : va_G) (cl : List vw_C) (cA : Nat → ClassId) (U : State) : Prop := va_K D cl ((List.range 6).map fun k => (cA k, aj_ty rn k)) U ∧ va_AO rn U
def aj_tv : vp_A → Nat → Value
  | (_, .inl f) => fun j => .int (f j)
  | (_, .inr (.inl f)) => fun j => .long (f j)
  | _ => fun _ => .null
def aj_Z (rn : String) (tb : aj_T) (stA : Nat → Nat) (sf : List (String × String × String)) (A : Nat → Prop) (U : State) (H : Heap) : Prop := (∀ (i : Nat) (q : String × String × String), sf[i]? = some q → va_Z q.1 q.2.1 q.2.2 (.ref (stA i)) A U H) ∧ ∀ (i k : Nat) (x : vp_A), tb[i]? = some (k, x) → va_T (aj_ty rn k) (stA i) x.1 (aj_tv x) A U H
def aj_N (nw : List Cond) (U : State) : Prop := ∀ w ∈ nw, va_Nw w U
def aj_Rw (D : va_G) (cl : List vw_C) (cA : Nat → ClassId) (S base : Nat) (stA : Nat → Nat) (s : State) (cells : Nat) (h : aj_H) (H : Heap) (locs : List Loc) : Prop := s.heap.size + cells = base + h.length ∧ va_P D cl (aj_ws (aj_ad S base stA) cA base h) H ∧ va_S (fun q => base ≤ q) s.heap H locs
def aj_Cx (rn : String) (D : va_G) (cl : List vw_C) (cA : Nat → ClassId) (tb : aj_T) (base : Nat) (stA : Nat → Nat) (sf : List (String × String × String)) (nw Ts : List Cond) (own : String) (cc : ByteArray) (nL : Nat) (p : Program) (s : State) (m : MethodId) (args : Array Value) (c : Code) : Prop :=
  p.tables.exec = Jvm.exec ∧ c.code = cc ∧ c.maxLocals = nL ∧ s.vm.findClass own = some m.cls ∧ (∀ w ∈ Ts, w.before args s = true) ∧ aj_K rn D cl cA s ∧ aj_Z rn tb stA sf (fun q => base ≤ q) s s.heap ∧ aj_N nw s ∧ base ≤ s.heap.size
/-- from this frame and heap on, the machine comes to Q -/
def aj_Nx (D : va_G) (cl : List vw_C) (cA : Nat → ClassId) (S base : Nat) (stA : Nat → Nat) (nL : Nat) (p : Program) (l : Launch) (e : Env) (R : Room) (s : State) (m : MethodId) (args : Array Value) (below : List Frame) (meth : Method) (c : Code) (Q : State → Prop) (cells slots pc : Nat) (lv : aj_V) (st : List Value) (h : aj_H) : Prop :=
  ∀ (ls : Array Slot) (H : Heap) (locs : List Loc), lv_has ls nL (aj_cv (aj_ad S base stA) lv) → aj_Rw D cl cA S base stA s cells h H locs → W p l e R s m args below meth c H locs cells slots Q (F0 m pc ls (st.map (aj_c (aj_ad S base stA))))
section AJSTEP
variable {rn : String} {D : va_G} {cl : List vw_C} {cA : Nat → ClassId} {tb : aj_T} {base : Nat} {stA : Nat → Nat} {sf : List (String × String × String)} {nw Ts : List Cond} {own : String} {cc : ByteArray} {nL S : Nat}
variable {p : Program} {l : Launch} {e : Env} {R : Room} {s : State} {m : MethodId} {args : Array Value} {below : List Frame} {meth : Method} {c : Code} {Q : State → Prop} {cells slots pc pc' dc ds : Nat} {lv lv' : aj_V} {st st' : List Value} {h h' : aj_H}
theorem aj_go_k {pc1 : Nat} {lv1 : aj_V} {st1 : List Value} {h1 : aj_H} (h0 : aj_go pc1 lv1 st1 h1 = some (.inl ((pc', lv', st'), h', dc, ds))) (k : aj_Nx D cl cA S base stA nL p l e R s m args below meth c Q (cells + dc) (slots + ds) pc' lv' st' h') : aj_Nx D cl cA S base stA nL p l e R s m args below meth c Q cells slots pc1 lv1 st1 h1 := by
  unfold aj_go at h0
  cases h0
  exact k
theorem aj_jump_k {off : Int} {lv1 : aj_V} {st1 : List Value} {h1 : aj_H} (h0 : aj_jump pc off lv1 st1 h1 = some (.inl ((pc', lv', st'), h', dc, ds))) (k : aj_Nx D cl cA S base stA nL p l e R s m args below meth c Q (cells + dc) (slots + ds) pc' lv' st' h') : ∃ tgt : Nat, (pc : Int) + off = (tgt : Int) ∧ aj_Nx D cl cA S base stA nL p l e R s m args below meth c Q cells slots tgt lv1 st1 h1 := by
  unfold aj_jump at h0
  split at h0
  · rename_i hp
    exact ⟨((pc : Int) + off).toNat, by omega, aj_go_k h0 k⟩
  · cases h0
theorem aj_load_k {len i kind : Nat} (h0 : aj_load pc lv st h len i kind = some (.inl ((pc', lv', st'), h', dc, ds))) (k : aj_Nx D cl cA S base stA nL p l e R s m args below meth c Q (cells + dc) (slots + ds) pc' lv' st' h')
    (ri : kind = 0 → ∀ (ls : Array Slot) (H : Heap) (locs : List Loc) (x : Int32), ls[i]? = some (.val (.int x)) → W p l e R s m args below meth c H locs cells slots Q (F0 m (pc + len) ls (.int x :: st.map (aj_c (aj_ad S base stA)))) → W p l e R s m args below meth c H locs cells slots Q (F0 m pc ls (st.map (aj_c (aj_ad S base stA)))))
    (rl : kind = 1 → ∀ (ls : Array Slot) (H : Heap) (locs : List Loc) (x : Int64), ls[i]? = some (.val (.long x)) → W p l e R s m args below meth c H locs cells slots Q (F0 m (pc + len) ls (.long x :: st.map (aj_c (aj_ad S base stA)))) → W p l e R s m args below meth c H locs cells slots Q (F0 m pc ls (st.map (aj_c (aj_ad S base stA)))))
    (ra : kind = 2 → ∀ (ls : Array Slot) (H : Heap) (locs : List Loc) (x : Nat), ls[i]? = some (.val (.ref x)) → W p l e R s m args below meth c H locs cells slots Q (F0 m (pc + len) ls (.ref x :: st.map (aj_c (aj_ad S base stA)))) → W p l e R s m args below meth c H locs cells slots Q (F0 m pc ls (st.map (aj_c (aj_ad S base stA)))))
    (rn : kind = 2 → ∀ (ls : Array Slot) (H : Heap) (locs : List Loc), ls[i]? = some (.val .null) → W p l e R s m args below meth c H locs cells slots Q (F0 m (pc + len) ls (.null :: st.map (aj_c (aj_ad S base stA)))) → W p l e R s m args below meth c H locs cells slots Q (F0 m pc ls (st.map (aj_c (aj_ad S base stA))))) :
    aj_Nx D cl cA S base stA nL p l e R s m args below meth c Q cells slots pc lv st h := by
  intro ls H locs hl hR
  unfold aj_load at h0
  split at h0
  · rename_i x hx
    split at h0
    · rename_i hk
      exact ri hk ls H locs x (aj_lv_has hl hx) (aj_go_k h0 k ls H locs hl hR)
    · cases h0
  · rename_i x hx
    split at h0
    · rename_i hk
      exact rl hk ls H locs x (aj_lv_has hl hx) (aj_go_k h0 k ls H locs hl hR)
    · cases h0
  · rename_i x hx
    split at h0
    · rename_i hk
      exact ra hk ls H locs _ (aj_lv_has hl hx) (aj_go_k h0 k ls H locs hl hR)
    · cases h0
  · rename_i hx
    split at h0
    · rename_i hk
      exact rn hk ls H locs (aj_lv_has hl hx) (aj_go_k h0 k ls H locs hl hR)
    · cases h0
  · cases h0
theorem aj_simple (hC : aj_Cx rn D cl cA tb base stA sf nw Ts own cc nL p s m args c) {rc : Nat} {cls : List aj_C} {lk : List aj_L} {ret : Option FieldType} {isI : Bool} {i : Instr} {len : Nat} (hdg : decode cc pc = .ok (i, len))
    (h0 : aj_step rc cls tb lk nL ret isI i len pc lv st h = some (.inl ((pc', lv', st'), h', dc, ds)))
    (hi : match i with | .iconst _ | .bipush _ | .sipush _ | .lconst _ | .aconst_null | .iload_n _ | .iload _ | .lload_n _ | .lload _ | .aload_n _ | .aload _ => True | _ => False)
    (k : aj_Nx D cl cA tb.length base stA nL p l e R s m args below meth c Q (cells + dc) (slots + ds) pc' lv' st' h') : aj_Nx D cl cA tb.length base stA nL p l e R s m args below meth c Q cells slots pc lv st h := by
  obtain ⟨hx, hb, -, hown, -⟩ := hC
  unfold aj_step at h0
  cases i <;> first | exact False.elim hi | skip
  all_goals (dsimp only at h0; split at h0 <;> first | (cases h0; done) | skip)
  all_goals (rename_i hlen; subst hlen)
  all_goals first
    | exact fun ls H locs hl hR => lv_iconst hx hb hdg rfl (aj_go_k h0 k ls H locs hl hR)
    | exact fun ls H locs hl hR => lv_bipush hx hb hdg rfl (aj_go_k h0 k ls H locs hl hR)
    | exact fun ls H locs hl hR => lv_sipush hx hb hdg rfl (aj_go_k h0 k ls H locs hl hR)
    | exact fun ls H locs hl hR => lv_lconst hx hb hdg rfl (aj_go_k h0 k ls H locs hl hR)
    | exact fun ls H locs hl hR => lv_null hx hb hdg (aj_go_k h0 k ls H locs hl hR)
    | exact aj_load_k h0 k (fun _ ls H locs x hv kk => lv_iload_n hx hb hdg rfl hv kk) (fun q => absurd q (by decide)) (fun q => absurd q (by decide)) (fun q => absurd q (by decide))
    | exact aj_load_k h0 k (fun _ ls H locs x hv kk => lv_iload hx hb hdg hv kk) (fun q => absurd q (by decide)) (fun q => absurd q (by decide)) (fun q => absurd q (by decide))
    | exact aj_load_k h0 k (fun q => absurd q (by decide)) (fun _ ls H locs x hv kk => lv_lload_n hx hb hdg rfl hv kk) (fun q => absurd q (by decide)) (fun q => absurd q (by decide))
    | exact aj_load_k h0 k (fun q => absurd q (by decide)) (fun _ ls H locs x hv kk => lv_lload hx hb hdg hv kk) (fun q => absurd q (by decide)) (fun q => absurd q (by decide))
    | exact aj_load_k h0 k (fun q => absurd q (by decide)) (fun q => absurd q (by decide)) (fun _ ls H locs x hv kk => lv_aload_n hx hb hdg rfl hv kk) (fun _ ls H locs hv kk => lv_aload_nN hx hb hdg rfl hv kk)
    | exact aj_load_k h0 k (fun q => absurd q (by decide)) (fun q => absurd q (by decide)) (fun _ ls H locs x hv kk => lv_aload hx hb hdg hv kk) (fun _ ls H locs hv kk => lv_aloadN hx hb hdg hv kk)
theorem aj_store_k {len i kind : Nat} (h0 : aj_store nL pc lv st h len i kind = some (.inl ((pc', lv', st'), h', dc, ds))) (k : aj_Nx D cl cA S base stA nL p l e R s m args below meth c Q (cells + dc) (slots + ds) pc' lv' st' h')
    (ri : kind = 0 → i < nL → ∀ (ls : Array Slot) (H : Heap) (locs : List Loc) (x : Int32) (r : List Value) (lw : aj_V), lv_has ls nL (aj_cv (aj_ad S base stA) lv) → (i, Value.int x) :: (aj_cv (aj_ad S base stA) lv).filter (fun q => !(q.1 == i) && !(q.1 + 1 == i && q.2.category == 2)) = lw → (∀ ls, lv_has ls nL lw → W p l e R s m args below meth c H locs cells slots Q (F0 m (pc + len) ls r)) → W p l e R s m args below meth c H locs cells slots Q (F0 m pc ls (.int x :: r)))
    (rl : kind = 1 → i + 1 < nL → ∀ (ls : Array Slot) (H : Heap) (locs : List Loc) (x : Int64) (r : List Value) (lw : aj_V), lv_has ls nL (aj_cv (aj_ad S base stA) lv) → (i, Value.long x) :: (aj_cv (aj_ad S base stA) lv).filter (fun q => !(q.1 == i) && (!(q.1 == i + 1) && !(q.1 + 1 == i && q.2.category == 2))) = lw → (∀ ls, lv_has ls nL lw → W p l e R s m args below meth c H locs cells slots Q (F0 m (pc + len) ls r)) → W p l e R s m args below meth c H locs cells slots Q (F0 m pc ls (.long x :: r)))
    (ra : kind = 2 → i < nL → ∀ (ls : Array Slot) (H : Heap) (locs : List Loc) (x : Nat) (r : List Value) (lw : aj_V), lv_has ls nL (aj_cv (aj_ad S base stA) lv) → (i, Value.ref x) :: (aj_cv (aj_ad S base stA) lv).filter (fun q => !(q.1 == i) && !(q.1 + 1 == i && q.2.category == 2)) = lw → (∀ ls, lv_has ls nL lw → W p l e R s m args below meth c H locs cells slots Q (F0 m (pc + len) ls r)) → W p l e R s m args below meth c H locs cells slots Q (F0 m pc ls (.ref x :: r)))
    (rn : kind = 2 → i < nL → ∀ (ls : Array Slot) (H : Heap) (locs : List Loc) (r : List Value) (lw : aj_V), lv_has ls nL (aj_cv (aj_ad S base stA) lv) → (i, Value.null) :: (aj_cv (aj_ad S base stA) lv).filter (fun q => !(q.1 == i) && !(q.1 + 1 == i && q.2.category == 2)) = lw → (∀ ls, lv_has ls nL lw → W p l e R s m args below meth c H locs cells slots Q (F0 m (pc + len) ls r)) → W p l e R s m args below meth c H locs cells slots Q (F0 m pc ls (.null :: r))) :
    aj_Nx D cl cA S base stA nL p l e R s m args below meth c Q cells slots pc lv st h := by
  intro ls H locs hl hR
  unfold aj_store at h0
  split at h0
  · split at h0
    · rename_i hk
      exact ri hk.1 hk.2 ls H locs _ _ _ hl (aj_cv_set1 _ lv i (.int _)) (fun ls hl => aj_go_k h0 k ls H locs hl hR)
    · cases h0
  · split at h0
    · rename_i hk
      exact rl hk.1 hk.2 ls H locs _ _ _ hl (aj_cv_set2 _ lv i (.long _)) (fun ls hl => aj_go_k h0 k ls H locs hl hR)
    · cases h0
  · split at h0
    · rename_i hk
      exact ra hk.1 hk.2 ls H locs _ _ _ hl (aj_cv_set1 _ lv i (.ref _)) (fun ls hl => aj_go_k h0 k ls H locs hl hR)
    · cases h0
  · split at h0
    · rename_i hk
      exact rn hk.1 hk.2 ls H locs _ _ hl (aj_cv_set1 _ lv i .null) (fun ls hl => aj_go_k h0 k ls H locs hl hR)
    · cases h0
  · cases h0
theorem aj_stores (hC : aj_Cx rn D cl cA tb base stA sf nw Ts own cc nL p s m args c) {rc : Nat} {cls : List aj_C} {lk : List aj_L} {ret : Option FieldType} {isI : Bool} {i : Instr} {len : Nat} (hdg : decode cc pc = .ok (i, len))
    (h0 : aj_step rc cls tb lk nL ret isI i len pc lv st h = some (.inl ((pc', lv', st'), h', dc, ds)))
    (hi : match i with | .istore_n _ | .istore _ | .lstore_n _ | .lstore _ | .astore_n _ | .astore _ => True | _ => False)
    (k : aj_Nx D cl cA tb.length base stA nL p l e R s m args below meth c Q (cells + dc) (slots + ds) pc' lv' st' h') : aj_Nx D cl cA tb.length base stA nL p l e R s m args below meth c Q cells slots pc lv st h := by
  obtain ⟨hx, hb, -, hown, -⟩ := hC
  unfold aj_step at h0
  cases i <;> first | exact False.elim hi | skip
  all_goals (dsimp only at h0; split at h0 <;> first | (cases h0; done) | skip)
  all_goals (rename_i hlen; subst hlen)
  all_goals first
    | exact aj_store_k h0 k (fun _ hn ls H locs x r lw hl he kk => lv_istore_n hx hb hdg rfl hl hn he kk) (fun q => absurd q (by decide)) (fun q => absurd q (by decide)) (fun q => absurd q (by decide))
    | exact aj_store_k h0 k (fun _ hn ls H locs x r lw hl he kk => lv_istore hx hb hdg hl hn he kk) (fun q => absurd q (by decide)) (fun q => absurd q (by decide)) (fun q => absurd q (by decide))
    | exact aj_store_k h0 k (fun q => absurd q (by decide)) (fun _ hn ls H locs x r lw hl he kk => lv_lstore_n hx hb hdg rfl hl hn he kk) (fun q => absurd q (by decide)) (fun q => absurd q (by decide))
    | exact aj_store_k h0 k (fun q => absurd q (by decide)) (fun _ hn ls H locs x r lw hl he kk => lv_lstore hx hb hdg hl hn he kk) (fun q => absurd q (by decide)) (fun q => absurd q (by decide))
    | exact aj_store_k h0 k (fun q => absurd q (by decide)) (fun q => absurd q (by decide)) (fun _ hn ls H locs x r lw hl he kk => lv_astore_n hx hb hdg rfl hl hn he kk) (fun _ hn ls H locs r lw hl he kk => lv_astore_nN hx hb hdg rfl hl hn he kk)
    | exact aj_store_k h0 k (fun q => absurd q (by decide)) (fun q => absurd q (by decide)) (fun _ hn ls H locs x r lw hl he kk => lv_astore hx hb hdg hl hn he kk) (fun _ hn ls H locs r lw hl he kk => lv_astoreN hx hb hdg hl hn he kk)
theorem aj_iincs (hC : aj_Cx rn D cl cA tb base stA sf nw Ts own cc nL p s m args c) {rc : Nat} {cls : List aj_C} {lk : List aj_L} {ret : Option FieldType} {isI : Bool} {j : Nat} {n : Int} {len : Nat} (hdg : decode cc pc = .ok (.iinc j n, len))
    (h0 : aj_step rc cls tb lk nL ret isI (.iinc j n) len pc lv st h = some (.inl ((pc', lv', st'), h', dc, ds)))
    (k : aj_Nx D cl cA tb.length base stA nL p l e R s m args below meth c Q (cells + dc) (slots + ds) pc' lv' st' h') : aj_Nx D cl cA tb.length base stA nL p l e R s m args below meth c Q cells slots pc lv st h := by
  obtain ⟨hx, hb, -, hown, -⟩ := hC
  intro ls H locs hl hR
  unfold aj_step at h0
  dsimp only at h0
  split at h0
  · rename_i x hx0
    split at h0
    · rename_i hq
      obtain ⟨rfl, hn⟩ := hq
      obtain ⟨k1, hk1⟩ := aj_lv_idx (ad := aj_ad tb.length base stA) hx0
      exact lv_iinc hx hb hdg hl hk1 rfl hn (aj_cv_set1 _ lv j (.int _)) (fun ls hl => aj_go_k h0 k ls H locs hl hR)
    · cases h0
  · cases h0
theorem aj_ii_k {f : Int32 → Int32 → Int32} (h0 : aj_ii f pc lv st h = some (.inl ((pc', lv', st'), h', dc, ds))) (k : aj_Nx D cl cA S base stA nL p l e R s m args below meth c Q (cells + dc) (slots + ds) pc' lv' st' h')
    (r : ∀ (ls : Array Slot) (H : Heap) (locs : List Loc) (x y : Int32) (rest : List Value), W p l e R s m args below meth c H locs cells slots Q (F0 m (pc + 1) ls (.int (f x y) :: rest)) → W p l e R s m args below meth c H locs cells slots Q (F0 m pc ls (.int y :: .int x :: rest))) :
    aj_Nx D cl cA S base stA nL p l e R s m args below meth c Q cells slots pc lv st h := by
  intro ls H locs hl hR
  unfold aj_ii at h0
  split at h0
  · exact r ls H locs _ _ _ (aj_go_k h0 k ls H locs hl hR)
  · cases h0
theorem aj_iz_k {f : Int32 → Int32 → Int32} (h0 : aj_iz f pc lv st h = some (.inl ((pc', lv', st'), h', dc, ds))) (k : aj_Nx D cl cA S base stA nL p l e R s m args below meth c Q (cells + dc) (slots + ds) pc' lv' st' h')
    (r : ∀ (ls : Array Slot) (H : Heap) (locs : List Loc) (x y : Int32) (rest : List Value), ¬ y = 0 → W p l e R s m args below meth c H locs cells slots Q (F0 m (pc + 1) ls (.int (f x y) :: rest)) → W p l e R s m args below meth c H locs cells slots Q (F0 m pc ls (.int y :: .int x :: rest))) :
    aj_Nx D cl cA S base stA nL p l e R s m args below meth c Q cells slots pc lv st h := by
  intro ls H locs hl hR
  unfold aj_iz at h0
  split at h0
  · split at h0
    · cases h0
    · rename_i hz
      exact r ls H locs _ _ _ hz (aj_go_k h0 k ls H locs hl hR)
  · cases h0
theorem aj_ll_k {f : Int64 → Int64 → Int64} (h0 : aj_ll f pc lv st h = some (.inl ((pc', lv', st'), h', dc, ds))) (k : aj_Nx D cl cA S base stA nL p l e R s m args below meth c Q (cells + dc) (slots + ds) pc' lv' st' h')
    (r : ∀ (ls : Array Slot) (H : Heap) (locs : List Loc) (x y : Int64) (rest : List Value), W p l e R s m args below meth c H locs cells slots Q (F0 m (pc + 1) ls (.long (f x y) :: rest)) → W p l e R s m args below meth c H locs cells slots Q (F0 m pc ls (.long y :: .long x :: rest))) :
    aj_Nx D cl cA S base stA nL p l e R s m args below meth c Q cells slots pc lv st h := by
  intro ls H locs hl hR
  unfold aj_ll at h0
  split at h0
  · exact r ls H locs _ _ _ (aj_go_k h0 k ls H locs hl hR)
  · cases h0
theorem aj_arith (hC : aj_Cx rn D cl cA tb base stA sf nw Ts own cc nL p s m args c) {rc : Nat} {cls : List aj_C} {lk : List aj_L} {ret : Option FieldType} {isI : Bool} {i : Instr} {len : Nat} (hdg : decode cc pc = .ok (i, len))
    (h0 : aj_step rc cls tb lk nL ret isI i len pc lv st h = some (.inl ((pc', lv', st'), h', dc, ds)))
    (hi : match i with | .iadd | .isub | .imul | .iand | .ior | .ixor | .ishl | .ishr | .iushr | .idiv | .irem | .ladd | .lmul | .lor => True | _ => False)
    (k : aj_Nx D cl cA tb.length base stA nL p l e R s m args below meth c Q (cells + dc) (slots + ds) pc' lv' st' h') : aj_Nx D cl cA tb.length base stA nL p l e R s m args below meth c Q cells slots pc lv st h := by
  obtain ⟨hx, hb, -, hown, -⟩ := hC
  unfold aj_step at h0
  cases i <;> first | exact False.elim hi | skip
  all_goals (dsimp only at h0; split at h0 <;> first | (cases h0; done) | skip)
  all_goals (rename_i hlen; subst hlen)
  all_goals first
    | exact aj_ii_k h0 k (fun ls H locs x y rest kk => lv_iadd hx hb hdg kk)
    | exact aj_ii_k h0 k (fun ls H locs x y rest kk => lv_isub hx hb hdg kk)
    | exact aj_ii_k h0 k (fun ls H locs x y rest kk => lv_imul hx hb hdg kk)
    | exact aj_ii_k h0 k (fun ls H locs x y rest kk => lv_iand hx hb hdg kk)
    | exact aj_ii_k h0 k (fun ls H locs x y rest kk => lv_ior hx hb hdg kk)
    | exact aj_ii_k h0 k (fun ls H locs x y rest kk => lv_ixor hx hb hdg kk)
    | exact aj_ii_k h0 k (fun ls H locs x y rest kk => lv_ishl hx hb hdg kk)
    | exact aj_ii_k h0 k (fun ls H locs x y rest kk => lv_ishr hx hb hdg kk)
    | exact aj_ii_k h0 k (fun ls H locs x y rest kk => lv_iushr hx hb hdg rfl kk)
    | exact aj_iz_k h0 k (fun ls H locs x y rest hz kk => lv_idiv hx hb hdg hz kk)
    | exact aj_iz_k h0 k (fun ls H locs x y rest hz kk => lv_irem hx hb hdg hz kk)
    | exact aj_ll_k h0 k (fun ls H locs x y rest kk => lv_ladd hx hb hdg kk)
    | exact aj_ll_k h0 k (fun ls H locs x y rest kk => lv_lmul hx hb hdg kk)
    | exact aj_ll_k h0 k (fun ls H locs x y rest kk => lv_lor hx hb hdg kk)
theorem aj_s_lshl (hC : aj_Cx rn D cl cA tb base stA sf nw Ts own cc nL p s m args c) {rc : Nat} {cls : List aj_C} {lk : List aj_L} {ret : Option FieldType} {isI : Bool} {len : Nat} (hdg : decode cc pc = .ok (.lshl, len))
    (h0 : aj_step rc cls tb lk nL ret isI .lshl len pc lv st h = some (.inl ((pc', lv', st'), h', dc, ds)))
    (k : aj_Nx D cl cA tb.length base stA nL p l e R s m args below meth c Q (cells + dc) (slots + ds) pc' lv' st' h') : aj_Nx D cl cA tb.length base stA nL p l e R s m args below meth c Q cells slots pc lv st h := by
  obtain ⟨hx, hb, -, hown, -⟩ := hC
  intro ls H locs hl hR
  unfold aj_step at h0
  dsimp only at h0
  split at h0
  · try dsimp only at h0
    split at h0
    · rename_i hlen
      subst hlen
      exact lv_lshl hx hb hdg rfl (aj_go_k h0 k ls H locs hl hR)
    · cases h0
  · cases h0
theorem aj_s_lneg (hC : aj_Cx rn D cl cA tb base stA sf nw Ts own cc nL p s m args c) {rc : Nat} {cls : List aj_C} {lk : List aj_L} {ret : Option FieldType} {isI : Bool} {len : Nat} (hdg : decode cc pc = .ok (.lneg, len))
    (h0 : aj_step rc cls tb lk nL ret isI .lneg len pc lv st h = some (.inl ((pc', lv', st'), h', dc, ds)))
    (k : aj_Nx D cl cA tb.length base stA nL p l e R s m args below meth c Q (cells + dc) (slots + ds) pc' lv' st' h') : aj_Nx D cl cA tb.length base stA nL p l e R s m args below meth c Q cells slots pc lv st h := by
  obtain ⟨hx, hb, -, hown, -⟩ := hC
  intro ls H locs hl hR
  unfold aj_step at h0
  dsimp only at h0
  split at h0
  · try dsimp only at h0
    split at h0
    · rename_i hlen
      subst hlen
      exact lv_lneg hx hb hdg (aj_go_k h0 k ls H locs hl hR)
    · cases h0
  · cases h0
theorem aj_s_lcmp (hC : aj_Cx rn D cl cA tb base stA sf nw Ts own cc nL p s m args c) {rc : Nat} {cls : List aj_C} {lk : List aj_L} {ret : Option FieldType} {isI : Bool} {len : Nat} (hdg : decode cc pc = .ok (.lcmp, len))
    (h0 : aj_step rc cls tb lk nL ret isI .lcmp len pc lv st h = some (.inl ((pc', lv', st'), h', dc, ds)))
    (k : aj_Nx D cl cA tb.length base stA nL p l e R s m args below meth c Q (cells + dc) (slots + ds) pc' lv' st' h') : aj_Nx D cl cA tb.length base stA nL p l e R s m args below meth c Q cells slots pc lv st h := by
  obtain ⟨hx, hb, -, hown, -⟩ := hC
  intro ls H locs hl hR
  unfold aj_step at h0
  dsimp only at h0
  split at h0
  · try dsimp only at h0
    split at h0
    · rename_i hlen
      subst hlen
      exact W.lcmp hx hb hdg (aj_go_k h0 k ls H locs hl hR)
    · cases h0
  · cases h0
theorem aj_s_i2l (hC : aj_Cx rn D cl cA tb base stA sf nw Ts own cc nL p s m args c) {rc : Nat} {cls : List aj_C} {lk : List aj_L} {ret : Option FieldType} {isI : Bool} {len : Nat} (hdg : decode cc pc = .ok (.i2l, len))
    (h0 : aj_step rc cls tb lk nL ret isI .i2l len pc lv st h = some (.inl ((pc', lv', st'), h', dc, ds)))
    (k : aj_Nx D cl cA tb.length base stA nL p l e R s m args below meth c Q (cells + dc) (slots + ds) pc' lv' st' h') : aj_Nx D cl cA tb.length base stA nL p l e R s m args below meth c Q cells slots pc lv st h := by
  obtain ⟨hx, hb, -, hown, -⟩ := hC
  intro ls H locs hl hR
  unfold aj_step at h0
  dsimp only at h0
  split at h0
  · try dsimp only at h0
    split at h0
    · rename_i hlen
      subst hlen
      exact lv_i2l hx hb hdg rfl (aj_go_k h0 k ls H locs hl hR)
    · cases h0
  · cases h0
theorem aj_s_l2i (hC : aj_Cx rn D cl cA tb base stA sf nw Ts own cc nL p s m args c) {rc : Nat} {cls : List aj_C} {lk : List aj_L} {ret : Option FieldType} {isI : Bool} {len : Nat} (hdg : decode cc pc = .ok (.l2i, len))
    (h0 : aj_step rc cls tb lk nL ret isI .l2i len pc lv st h = some (.inl ((pc', lv', st'), h', dc, ds)))
    (k : aj_Nx D cl cA tb.length base stA nL p l e R s m args below meth c Q (cells + dc) (slots + ds) pc' lv' st' h') : aj_Nx D cl cA tb.length base stA nL p l e R s m args below meth c Q cells slots pc lv st h := by
  obtain ⟨hx, hb, -, hown, -⟩ := hC
  intro ls H locs hl hR
  unfold aj_step at h0
  dsimp only at h0
  split at h0
  · try dsimp only at h0
    split at h0
    · rename_i hlen
      subst hlen
      exact lv_l2i hx hb hdg rfl (aj_go_k h0 k ls H locs hl hR)
    · cases h0
  · cases h0
theorem aj_s_i2b (hC : aj_Cx rn D cl cA tb base stA sf nw Ts own cc nL p s m args c) {rc : Nat} {cls : List aj_C} {lk : List aj_L} {ret : Option FieldType} {isI : Bool} {len : Nat} (hdg : decode cc pc = .ok (.i2b, len))
    (h0 : aj_step rc cls tb lk nL ret isI .i2b len pc lv st h = some (.inl ((pc', lv', st'), h', dc, ds)))
    (k : aj_Nx D cl cA tb.length base stA nL p l e R s m args below meth c Q (cells + dc) (slots + ds) pc' lv' st' h') : aj_Nx D cl cA tb.length base stA nL p l e R s m args below meth c Q cells slots pc lv st h := by
  obtain ⟨hx, hb, -, hown, -⟩ := hC
  intro ls H locs hl hR
  unfold aj_step at h0
  dsimp only at h0
  split at h0
  · try dsimp only at h0
    split at h0
    · rename_i hlen
      subst hlen
      exact lv_i2b hx hb hdg rfl (aj_go_k h0 k ls H locs hl hR)
    · cases h0
  · cases h0
theorem aj_s_i2c (hC : aj_Cx rn D cl cA tb base stA sf nw Ts own cc nL p s m args c) {rc : Nat} {cls : List aj_C} {lk : List aj_L} {ret : Option FieldType} {isI : Bool} {len : Nat} (hdg : decode cc pc = .ok (.i2c, len))
    (h0 : aj_step rc cls tb lk nL ret isI .i2c len pc lv st h = some (.inl ((pc', lv', st'), h', dc, ds)))
    (k : aj_Nx D cl cA tb.length base stA nL p l e R s m args below meth c Q (cells + dc) (slots + ds) pc' lv' st' h') : aj_Nx D cl cA tb.length base stA nL p l e R s m args below meth c Q cells slots pc lv st h := by
  obtain ⟨hx, hb, -, hown, -⟩ := hC
  intro ls H locs hl hR
  unfold aj_step at h0
  dsimp only at h0
  split at h0
  · try dsimp only at h0
    split at h0
    · rename_i hlen
      subst hlen
      exact lv_i2c hx hb hdg rfl (aj_go_k h0 k ls H locs hl hR)
    · cases h0
  · cases h0
theorem aj_dups (hC : aj_Cx rn D cl cA tb base stA sf nw Ts own cc nL p s m args c) {rc : Nat} {cls : List aj_C} {lk : List aj_L} {ret : Option FieldType} {isI : Bool} {i : Instr} {len : Nat} (hdg : decode cc pc = .ok (i, len))
    (h0 : aj_step rc cls tb lk nL ret isI i len pc lv st h = some (.inl ((pc', lv', st'), h', dc, ds)))
    (hi : i = .dup ∨ i = .pop ∨ i = .dup2)
    (k : aj_Nx D cl cA tb.length base stA nL p l e R s m args below meth c Q (cells + dc) (slots + ds) pc' lv' st' h') : aj_Nx D cl cA tb.length base stA nL p l e R s m args below meth c Q cells slots pc lv st h := by
  obtain ⟨hx, hb, -, hown, -⟩ := hC
  intro ls H locs hl hR
  rcases hi with rfl | rfl | rfl
  · rcases st with _ | ⟨v, r⟩
    · cases h0
    · by_cases hq : len = 1 ∧ v.category = 1
      · obtain ⟨rfl, h1⟩ := hq
        have h0 : (if 1 = 1 ∧ v.category = 1 then aj_go (pc + 1) lv (v :: v :: r) h else none) = some (.inl ((pc', lv', st'), h', dc, ds)) := h0
        rw [if_pos ⟨rfl, h1⟩] at h0
        exact lv_dup hx hb hdg ((aj_c_cat _ _).trans h1) (aj_go_k h0 k ls H locs hl hR)
      · have h0 : (if len = 1 ∧ v.category = 1 then aj_go (pc + 1) lv (v :: v :: r) h else none) = some (.inl ((pc', lv', st'), h', dc, ds)) := h0
        rw [if_neg hq] at h0
        cases h0
  · rcases st with _ | ⟨v, r⟩
    · cases h0
    · by_cases hq : len = 1 ∧ v.category = 1
      · obtain ⟨rfl, h1⟩ := hq
        have h0 : (if 1 = 1 ∧ v.category = 1 then aj_go (pc + 1) lv r h else none) = some (.inl ((pc', lv', st'), h', dc, ds)) := h0
        rw [if_pos ⟨rfl, h1⟩] at h0
        exact lv_pop hx hb hdg ((aj_c_cat _ _).trans h1) (aj_go_k h0 k ls H locs hl hR)
      · have h0 : (if len = 1 ∧ v.category = 1 then aj_go (pc + 1) lv r h else none) = some (.inl ((pc', lv', st'), h', dc, ds)) := h0
        rw [if_neg hq] at h0
        cases h0
  · rcases st with _ | ⟨v, _ | ⟨w, r⟩⟩
    · cases h0
    · cases h0
    · by_cases hq : len = 1 ∧ v.category = 1 ∧ w.category = 1
      · obtain ⟨rfl, h1, h2⟩ := hq
        have h0 : (if 1 = 1 ∧ v.category = 1 ∧ w.category = 1 then aj_go (pc + 1) lv (v :: w :: v :: w :: r) h else none) = some (.inl ((pc', lv', st'), h', dc, ds)) := h0
        rw [if_pos ⟨rfl, h1, h2⟩] at h0
        exact lv_dup2_11 hx hb hdg ((aj_c_cat _ _).trans h1) ((aj_c_cat _ _).trans h2) (aj_go_k h0 k ls H locs hl hR)
      · have h0 : (if len = 1 ∧ v.category = 1 ∧ w.category = 1 then aj_go (pc + 1) lv (v :: w :: v :: w :: r) h else none) = some (.inl ((pc', lv', st'), h', dc, ds)) := h0
        rw [if_neg hq] at h0
        cases h0
theorem aj_br_k {cnd : ClassFile.Cond} {x y : Int32} {off : Int} {lv1 : aj_V} {st1 : List Value} {h1 : aj_H} (h0 : aj_br cnd x y pc off lv1 st1 h1 = some (.inl ((pc', lv', st'), h', dc, ds))) (k : aj_Nx D cl cA S base stA nL p l e R s m args below meth c Q (cells + dc) (slots + ds) pc' lv' st' h') :
    ∃ tgt : Nat, (pc : Int) + off = (tgt : Int) ∧ (aj_test cnd x y = true → aj_Nx D cl cA S base stA nL p l e R s m args below meth c Q cells slots tgt lv1 st1 h1) ∧ (¬ aj_test cnd x y = true → aj_Nx D cl cA S base stA nL p l e R s m args below meth c Q cells slots (pc + 3) lv1 st1 h1) := by
  unfold aj_br at h0
  split at h0
  · rename_i hp
    refine ⟨((pc : Int) + off).toNat, by omega, ?_, ?_⟩
    · intro ht
      rw [if_pos ht] at h0
      exact aj_go_k h0 k
    · intro ht
      rw [if_neg ht] at h0
      exact aj_go_k h0 k
  · cases h0
theorem aj_test_t {cnd : ClassFile.Cond} {x y : Int32} : (aj_test cnd x y = true) ↔ (match cnd with | .eq => x = y | .ne => ¬ x = y | .lt => x < y | .ge => y ≤ x | .gt => y < x | .le => x ≤ y) := by
  cases cnd <;> simp [aj_test]
theorem aj_s_if (hC : aj_Cx rn D cl cA tb base stA sf nw Ts own cc nL p s m args c) {rc : Nat} {cls : List aj_C} {lk : List aj_L} {ret : Option FieldType} {isI : Bool} {cnd : ClassFile.Cond} {off : Int} {len : Nat} (hdg : decode cc pc = .ok (.ifCond cnd off, len))
    (h0 : aj_step rc cls tb lk nL ret isI (.ifCond cnd off) len pc lv st h = some (.inl ((pc', lv', st'), h', dc, ds)))
    (k : aj_Nx D cl cA tb.length base stA nL p l e R s m args below meth c Q (cells + dc) (slots + ds) pc' lv' st' h') : aj_Nx D cl cA tb.length base stA nL p l e R s m args below meth c Q cells slots pc lv st h := by
  obtain ⟨hx, hb, -, hown, -⟩ := hC
  intro ls H locs hl hR
  unfold aj_step at h0
  dsimp only at h0
  split at h0
  · try dsimp only at h0
    split at h0
    · rename_i hlen
      subst hlen
      obtain ⟨tgt, ht, k1, k2⟩ := aj_br_k h0 k
      simp only [aj_test_t] at k1 k2
      cases cnd
      · exact lv_if_eq hx hb hdg ht (fun q => k1 q ls H locs hl hR) (fun q => k2 q ls H locs hl hR)
      · exact lv_if_ne hx hb hdg ht (fun q => k1 q ls H locs hl hR) (fun q => k2 (fun z => z q) ls H locs hl hR)
      · exact lv_if_lt hx hb hdg ht (fun q => k1 q ls H locs hl hR) (fun q => k2 q ls H locs hl hR)
      · exact lv_if_ge hx hb hdg ht (fun q => k1 q ls H locs hl hR) (fun q => k2 q ls H locs hl hR)
      · exact lv_if_gt hx hb hdg ht (fun q => k1 q ls H locs hl hR) (fun q => k2 q ls H locs hl hR)
      · exact lv_if_le hx hb hdg ht (fun q => k1 q ls H locs hl hR) (fun q => k2 q ls H locs hl hR)
    · cases h0
  · cases h0
theorem aj_s_icmp (hC : aj_Cx rn D cl cA tb base stA sf nw Ts own cc nL p s m args c) {rc : Nat} {cls : List aj_C} {lk : List aj_L} {ret : Option FieldType} {isI : Bool} {cnd : ClassFile.Cond} {off : Int} {len : Nat} (hdg : decode cc pc = .ok (.if_icmp cnd off, len))
    (h0 : aj_step rc cls tb lk nL ret isI (.if_icmp cnd off) len pc lv st h = some (.inl ((pc', lv', st'), h', dc, ds)))
    (k : aj_Nx D cl cA tb.length base stA nL p l e R s m args below meth c Q (cells + dc) (slots + ds) pc' lv' st' h') : aj_Nx D cl cA tb.length base stA nL p l e R s m args below meth c Q cells slots pc lv st h := by
  obtain ⟨hx, hb, -, hown, -⟩ := hC
  intro ls H locs hl hR
  unfold aj_step at h0
  dsimp only at h0
  split at h0
  · try dsimp only at h0
    split at h0
    · rename_i hlen
      subst hlen
      obtain ⟨tgt, ht, k1, k2⟩ := aj_br_k h0 k
      simp only [aj_test_t] at k1 k2
      cases cnd
      · exact lv_icmp_eq hx hb hdg ht (fun q => k1 q ls H locs hl hR) (fun q => k2 q ls H locs hl hR)
      · exact lv_icmp_ne hx hb hdg ht (fun q => k1 q ls H locs hl hR) (fun q => k2 (fun z => z q) ls H locs hl hR)
      · exact lv_icmp_lt hx hb hdg ht (fun q => k1 q ls H locs hl hR) (fun q => k2 q ls H locs hl hR)
      · exact lv_icmp_ge hx hb hdg ht (fun q => k1 q ls H locs hl hR) (fun q => k2 q ls H locs hl hR)
      · exact lv_icmp_gt hx hb hdg ht (fun q => k1 q ls H locs hl hR) (fun q => k2 q ls H locs hl hR)
      · exact lv_icmp_le hx hb hdg ht (fun q => k1 q ls H locs hl hR) (fun q => k2 q ls H locs hl hR)
    · cases h0
  · cases h0
theorem aj_s_goto (hC : aj_Cx rn D cl cA tb base stA sf nw Ts own cc nL p s m args c) {rc : Nat} {cls : List aj_C} {lk : List aj_L} {ret : Option FieldType} {isI : Bool} {off : Int} {len : Nat} (hdg : decode cc pc = .ok (.goto off, len))
    (h0 : aj_step rc cls tb lk nL ret isI (.goto off) len pc lv st h = some (.inl ((pc', lv', st'), h', dc, ds)))
    (k : aj_Nx D cl cA tb.length base stA nL p l e R s m args below meth c Q (cells + dc) (slots + ds) pc' lv' st' h') : aj_Nx D cl cA tb.length base stA nL p l e R s m args below meth c Q cells slots pc lv st h := by
  obtain ⟨hx, hb, -, hown, -⟩ := hC
  intro ls H locs hl hR
  unfold aj_step at h0
  dsimp only at h0
  split at h0
  · rename_i hlen
    subst hlen
    obtain ⟨tgt, ht, kk⟩ := aj_jump_k h0 k
    exact lv_goto hx hb hdg ht (kk ls H locs hl hR)
  · cases h0
theorem aj_s_ifnull (hC : aj_Cx rn D cl cA tb base stA sf nw Ts own cc nL p s m args c) {rc : Nat} {cls : List aj_C} {lk : List aj_L} {ret : Option FieldType} {isI : Bool} {off : Int} {len : Nat} (hdg : decode cc pc = .ok (.ifnull off, len))
    (h0 : aj_step rc cls tb lk nL ret isI (.ifnull off) len pc lv st h = some (.inl ((pc', lv', st'), h', dc, ds)))
    (k : aj_Nx D cl cA tb.length base stA nL p l e R s m args below meth c Q (cells + dc) (slots + ds) pc' lv' st' h') : aj_Nx D cl cA tb.length base stA nL p l e R s m args below meth c Q cells slots pc lv st h := by
  obtain ⟨hx, hb, -, hown, -⟩ := hC
  intro ls H locs hl hR
  unfold aj_step at h0
  dsimp only at h0
  split at h0
  · try dsimp only at h0
    split at h0
    · rename_i hlen
      subst hlen
      obtain ⟨tgt, ht, kk⟩ := aj_jump_k h0 k
      exact lv_ifnullN hx hb hdg ht (kk ls H locs hl hR)
    · cases h0
  · try dsimp only at h0
    split at h0
    · rename_i hlen
      subst hlen
      exact lv_ifnull hx hb hdg (aj_go_k h0 k ls H locs hl hR)
    · cases h0
  · cases h0
theorem aj_s_ifnonnull (hC : aj_Cx rn D cl cA tb base stA sf nw Ts own cc nL p s m args c) {rc : Nat} {cls : List aj_C} {lk : List aj_L} {ret : Option FieldType} {isI : Bool} {off : Int} {len : Nat} (hdg : decode cc pc = .ok (.ifnonnull off, len))
    (h0 : aj_step rc cls tb lk nL ret isI (.ifnonnull off) len pc lv st h = some (.inl ((pc', lv', st'), h', dc, ds)))
    (k : aj_Nx D cl cA tb.length base stA nL p l e R s m args below meth c Q (cells + dc) (slots + ds) pc' lv' st' h') : aj_Nx D cl cA tb.length base stA nL p l e R s m args below meth c Q cells slots pc lv st h := by
  obtain ⟨hx, hb, -, hown, -⟩ := hC
  intro ls H locs hl hR
  unfold aj_step at h0
  dsimp only at h0
  split at h0
  · try dsimp only at h0
    split at h0
    · rename_i hlen
      subst hlen
      exact lv_ifnonnullN hx hb hdg (aj_go_k h0 k ls H locs hl hR)
    · cases h0
  · try dsimp only at h0
    split at h0
    · rename_i hlen
      subst hlen
      obtain ⟨tgt, ht, kk⟩ := aj_jump_k h0 k
      exact lv_ifnonnull hx hb hdg ht (kk ls H locs hl hR)
    · cases h0
  · cases h0
theorem aj_s_table (hC : aj_Cx rn D cl cA tb base stA sf nw Ts own cc nL p s m args c) {rc : Nat} {cls : List aj_C} {lk : List aj_L} {ret : Option FieldType} {isI : Bool} {dflt lo hi : Int} {offs : Array Int} {len : Nat} (hdg : decode cc pc = .ok (.tableswitch dflt lo hi offs, len))
    (h0 : aj_step rc cls tb lk nL ret isI (.tableswitch dflt lo hi offs) len pc lv st h = some (.inl ((pc', lv', st'), h', dc, ds)))
    (k : aj_Nx D cl cA tb.length base stA nL p l e R s m args below meth c Q (cells + dc) (slots + ds) pc' lv' st' h') : aj_Nx D cl cA tb.length base stA nL p l e R s m args below meth c Q cells slots pc lv st h := by
  obtain ⟨hx, hb, -, hown, -⟩ := hC
  intro ls H locs hl hR
  unfold aj_step at h0
  dsimp only at h0
  split at h0
  · try dsimp only at h0
    split at h0
    · rename_i hq
      obtain ⟨tgt, ht, kk⟩ := aj_jump_k h0 k
      exact lv_tableOut hx hb hdg hq ht (kk ls H locs hl hR)
    · rename_i hq
      split at h0
      · rename_i off ho
        obtain ⟨tgt, ht, kk⟩ := aj_jump_k h0 k
        exact lv_tableIn hx hb hdg (fun z => hq (Or.inl z)) (fun z => hq (Or.inr z)) ho ht (kk ls H locs hl hR)
      · cases h0
  · cases h0
theorem aj_s_lookup (hC : aj_Cx rn D cl cA tb base stA sf nw Ts own cc nL p s m args c) {rc : Nat} {cls : List aj_C} {lk : List aj_L} {ret : Option FieldType} {isI : Bool} {dflt : Int} {ps : Array (Int × Int)} {len : Nat} (hdg : decode cc pc = .ok (.lookupswitch dflt ps, len))
    (h0 : aj_step rc cls tb lk nL ret isI (.lookupswitch dflt ps) len pc lv st h = some (.inl ((pc', lv', st'), h', dc, ds)))
    (k : aj_Nx D cl cA tb.length base stA nL p l e R s m args below meth c Q (cells + dc) (slots + ds) pc' lv' st' h') : aj_Nx D cl cA tb.length base stA nL p l e R s m args below meth c Q cells slots pc lv st h := by
  obtain ⟨hx, hb, -, hown, -⟩ := hC
  intro ls H locs hl hR
  unfold aj_step at h0
  dsimp only at h0
  split at h0
  · try dsimp only at h0
    split at h0
    · rename_i hq
      obtain ⟨tgt, ht, kk⟩ := aj_jump_k h0 k
      exact lv_lookup hx hb hdg hq rfl ht (kk ls H locs hl hR)
    · cases h0
  · cases h0
end AJSTEP
end
section
section AJHEAP
variable {rn : String} {D : va_G} {cl : List vw_C} {cA : Nat → ClassId} {tb : aj_T} {base : Nat} {stA : Nat → Nat} {sf : List (String × String × String)} {nw Ts : List Cond} {own : String} {cc : ByteArray} {nL S : Nat}
variable {p : Program} {l : Launch} {e : Env} {R : Room} {s : State} {m : MethodId} {args : Array Value} {below : List Frame} {meth : Method} {c : Code} {Q : State → Prop} {cells slots pc pc' dc ds : Nat} {lv lv' : aj_V} {st st' : List Value} {h h' : aj_H}
theorem aj_c_dyn {r : Nat} (hr : ¬ r < S) : aj_c (aj_ad S base stA) (.ref r) = .ref (base + (r - S)) := by simp [aj_c, aj_ad, hr]
theorem aj_c_sta {r : Nat} (hr : r < S) : aj_c (aj_ad S base stA) (.ref r) = .ref (stA r) := by simp [aj_c, aj_ad, hr]
theorem aj_arr_k {r k : Nat} {x : vp_A} (h0 : aj_arr tb h r = some (k, x)) : (r < tb.length ∧ tb[r]? = some (k, x)) ∨ (¬ r < tb.length ∧ h[r - tb.length]? = some (.inl (k, x))) := by
  unfold aj_arr at h0
  split at h0
  · rename_i hr
    exact Or.inl ⟨hr, h0⟩
  · rename_i hr
    refine Or.inr ⟨hr, ?_⟩
    split at h0
    · rename_i a ha
      cases h0
      exact ha
    · cases h0
theorem aj_obj_k {r ci : Nat} {fs : List Value} (h0 : aj_obj tb h r = some (ci, fs)) : ¬ r < tb.length ∧ h[r - tb.length]? = some (.inr (ci, fs)) := by
  unfold aj_obj at h0
  split at h0
  · cases h0
  · rename_i hr
    refine ⟨hr, ?_⟩
    split at h0
    · rename_i a ha
      cases h0
      exact ha
    · cases h0
theorem aj_ald_k {k : Nat} (hC : aj_Cx rn D cl cA tb base stA sf nw Ts own cc nL p s m args c) (h0 : aj_ald k tb pc lv st h = some (.inl ((pc', lv', st'), h', dc, ds)))
    (kk : aj_Nx D cl cA tb.length base stA nL p l e R s m args below meth c Q (cells + dc) (slots + ds) pc' lv' st' h')
    (rs : ∀ (ls : Array Slot) (H : Heap) (locs : List Loc) (rest : List Value) (t n : Nat) (f : Nat → Int32) (i : Int32), va_T (aj_ty rn k) t n (fun j => .int (f j)) (fun q => base ≤ q) s s.heap → va_S (fun q => base ≤ q) s.heap H locs → vp_in i n → W p l e R s m args below meth c H locs cells slots Q (F0 m (pc + 1) ls (.int (f i.toNatClampNeg) :: rest)) → W p l e R s m args below meth c H locs cells slots Q (F0 m pc ls (.int i :: .ref t :: rest)))
    (rd : ∀ (ls : Array Slot) (H : Heap) (locs : List Loc) (rest : List Value) (q0 a n : Nat) (f : Nat → Int32) (i : Int32), va_P D cl (aj_ws (aj_ad tb.length base stA) cA base h) H → (aj_ws (aj_ad tb.length base stA) cA base h)[q0]? = some (a, .inl (cA k, n, .inl f)) → vp_in i n → W p l e R s m args below meth c H locs cells slots Q (F0 m (pc + 1) ls (.int (f i.toNatClampNeg) :: rest)) → W p l e R s m args below meth c H locs cells slots Q (F0 m pc ls (.int i :: .ref a :: rest))) :
    aj_Nx D cl cA tb.length base stA nL p l e R s m args below meth c Q cells slots pc lv st h := by
  obtain ⟨hx, hb, -, hown, -, hK, hZ, -⟩ := hC
  intro ls H locs hl hR
  unfold aj_ald at h0
  split at h0
  · rename_i i r rest
    split at h0
    · rename_i k' n f harr
      split at h0
      · rename_i hq
        obtain ⟨rfl, hin⟩ := hq
        have go := aj_go_k h0 kk ls H locs hl hR
        show W p l e R s m args below meth c H locs cells slots Q (F0 m pc ls (.int i :: aj_c (aj_ad tb.length base stA) (.ref r) :: rest.map (aj_c (aj_ad tb.length base stA))))
        rcases aj_arr_k harr with ⟨hr, h1⟩ | ⟨hr, h1⟩
        · rw [aj_c_sta hr]
          exact rs ls H locs _ _ n f i (hZ.2 r _ _ h1) hR.2.2 (aj_in_ok hin) go
        · rw [aj_c_dyn hr]
          exact rd ls H locs _ _ _ n f i hR.2.1 (aj_ws_get h1) (aj_in_ok hin) go
      · cases h0
    · cases h0
  · cases h0
theorem aj_s_iaload (hC : aj_Cx rn D cl cA tb base stA sf nw Ts own cc nL p s m args c) {rc : Nat} {cls : List aj_C} {lk : List aj_L} {ret : Option FieldType} {isI : Bool} {len : Nat} (hdg : decode cc pc = .ok (.iaload, len))
    (h0 : aj_step rc cls tb lk nL ret isI .iaload len pc lv st h = some (.inl ((pc', lv', st'), h', dc, ds)))
    (k : aj_Nx D cl cA tb.length base stA nL p l e R s m args below meth c Q (cells + dc) (slots + ds) pc' lv' st' h') : aj_Nx D cl cA tb.length base stA nL p l e R s m args below meth c Q cells slots pc lv st h := by
  unfold aj_step at h0
  dsimp only at h0
  split at h0
  · rename_i hlen
    subst hlen
    exact aj_ald_k hC h0 k (fun ls H locs rest t n f i hT hS hin kk => va_ti hC.1 hC.2.1 hT hS hin rfl hdg kk) (fun ls H locs rest q0 a n f i hP ha hin kk => va_iald hC.1 hC.2.1 hC.2.2.2.2.2.1.1 hP q0 0 ha rfl hin hdg kk)
  · cases h0
theorem aj_s_caload (hC : aj_Cx rn D cl cA tb base stA sf nw Ts own cc nL p s m args c) {rc : Nat} {cls : List aj_C} {lk : List aj_L} {ret : Option FieldType} {isI : Bool} {len : Nat} (hdg : decode cc pc = .ok (.caload, len))
    (h0 : aj_step rc cls tb lk nL ret isI .caload len pc lv st h = some (.inl ((pc', lv', st'), h', dc, ds)))
    (k : aj_Nx D cl cA tb.length base stA nL p l e R s m args below meth c Q (cells + dc) (slots + ds) pc' lv' st' h') : aj_Nx D cl cA tb.length base stA nL p l e R s m args below meth c Q cells slots pc lv st h := by
  unfold aj_step at h0
  dsimp only at h0
  split at h0
  · rename_i hlen
    subst hlen
    exact aj_ald_k hC h0 k (fun ls H locs rest t n f i hT hS hin kk => va_tc hC.1 hC.2.1 hT hS hin rfl hdg kk) (fun ls H locs rest q0 a n f i hP ha hin kk => va_cald hC.1 hC.2.1 hC.2.2.2.2.2.1.1 hP q0 3 ha rfl hin hdg kk)
  · cases h0
theorem aj_s_baload (hC : aj_Cx rn D cl cA tb base stA sf nw Ts own cc nL p s m args c) {rc : Nat} {cls : List aj_C} {lk : List aj_L} {ret : Option FieldType} {isI : Bool} {len : Nat} (hdg : decode cc pc = .ok (.baload, len))
    (h0 : aj_step rc cls tb lk nL ret isI .baload len pc lv st h = some (.inl ((pc', lv', st'), h', dc, ds)))
    (k : aj_Nx D cl cA tb.length base stA nL p l e R s m args below meth c Q (cells + dc) (slots + ds) pc' lv' st' h') : aj_Nx D cl cA tb.length base stA nL p l e R s m args below meth c Q cells slots pc lv st h := by
  unfold aj_step at h0
  dsimp only at h0
  split at h0
  · rename_i hlen
    subst hlen
    unfold aj_bld at h0
    split at h0
    · split at h0
      · exact aj_ald_k hC h0 k (fun ls H locs rest t n f i hT hS hin kk => va_tz hC.1 hC.2.1 hT hS hin rfl hdg kk) (fun ls H locs rest q0 a n f i hP ha hin kk => va_zald hC.1 hC.2.1 hC.2.2.2.2.2.1.1 hP q0 2 ha rfl hin hdg kk)
      · exact aj_ald_k hC h0 k (fun ls H locs rest t n f i hT hS hin kk => va_tb hC.1 hC.2.1 hT hS hin rfl hdg kk) (fun ls H locs rest q0 a n f i hP ha hin kk => va_bald hC.1 hC.2.1 hC.2.2.2.2.2.1.1 hP q0 4 ha rfl hin hdg kk)
    · cases h0
  · cases h0
theorem aj_s_laload (hC : aj_Cx rn D cl cA tb base stA sf nw Ts own cc nL p s m args c) {rc : Nat} {cls : List aj_C} {lk : List aj_L} {ret : Option FieldType} {isI : Bool} {len : Nat} (hdg : decode cc pc = .ok (.laload, len))
    (h0 : aj_step rc cls tb lk nL ret isI .laload len pc lv st h = some (.inl ((pc', lv', st'), h', dc, ds)))
    (k : aj_Nx D cl cA tb.length base stA nL p l e R s m args below meth c Q (cells + dc) (slots + ds) pc' lv' st' h') : aj_Nx D cl cA tb.length base stA nL p l e R s m args below meth c Q cells slots pc lv st h := by
  obtain ⟨hx, hb, -, hown, -, hK, hZ, -⟩ := hC
  intro ls H locs hl hR
  unfold aj_step at h0
  dsimp only at h0
  split at h0
  · rename_i hlen
    subst hlen
    unfold aj_lld at h0
    split at h0
    · rename_i i r rest
      split at h0
      · rename_i n f harr
        split at h0
        · rename_i hin
          have go := aj_go_k h0 k ls H locs hl hR
          show W p l e R s m args below meth c H locs cells slots Q (F0 m pc ls (.int i :: aj_c (aj_ad tb.length base stA) (.ref r) :: rest.map (aj_c (aj_ad tb.length base stA))))
          rcases aj_arr_k harr with ⟨hr, h1⟩ | ⟨hr, h1⟩
          · rw [aj_c_sta hr]
            exact va_tl hx hb (hZ.2 r _ _ h1) hR.2.2 (aj_in_ok hin) rfl hdg go
          · rw [aj_c_dyn hr]
            exact va_lald hx hb hK.1 hR.2.1 _ 1 (aj_ws_get h1) rfl (aj_in_ok hin) hdg go
        · cases h0
      · cases h0
    · cases h0
  · cases h0
theorem aj_rf_c (ad : Nat → Nat) (o : Option Nat) : va_rf (o.map ad) = aj_c ad (va_rf o) := by cases o <;> rfl
theorem aj_s_aaload (hC : aj_Cx rn D cl cA tb base stA sf nw Ts own cc nL p s m args c) {rc : Nat} {cls : List aj_C} {lk : List aj_L} {ret : Option FieldType} {isI : Bool} {len : Nat} (hdg : decode cc pc = .ok (.aaload, len))
    (h0 : aj_step rc cls tb lk nL ret isI .aaload len pc lv st h = some (.inl ((pc', lv', st'), h', dc, ds)))
    (k : aj_Nx D cl cA tb.length base stA nL p l e R s m args below meth c Q (cells + dc) (slots + ds) pc' lv' st' h') : aj_Nx D cl cA tb.length base stA nL p l e R s m args below meth c Q cells slots pc lv st h := by
  obtain ⟨hx, hb, -, hown, -, hK, hZ, -⟩ := hC
  intro ls H locs hl hR
  unfold aj_step at h0
  dsimp only at h0
  split at h0
  · rename_i hlen
    subst hlen
    unfold aj_qld at h0
    split at h0
    · rename_i i r rest
      split at h0
      · cases h0
      · rename_i hr
        split at h0
        · rename_i n f harr
          split at h0
          · rename_i hin
            have go := aj_go_k h0 k ls H locs hl hR
            show W p l e R s m args below meth c H locs cells slots Q (F0 m pc ls (.int i :: aj_c (aj_ad tb.length base stA) (.ref r) :: rest.map (aj_c (aj_ad tb.length base stA))))
            rw [aj_c_dyn hr]
            refine va_aldq (C := rn) hx hb hK.1 hR.2.1 _ 5 (aj_ws_get harr) rfl (aj_in_ok hin) hdg ?_
            rw [aj_rf_c]
            exact go
          · cases h0
        · cases h0
    · cases h0
  · cases h0
theorem aj_s_arraylength (hC : aj_Cx rn D cl cA tb base stA sf nw Ts own cc nL p s m args c) {rc : Nat} {cls : List aj_C} {lk : List aj_L} {ret : Option FieldType} {isI : Bool} {len : Nat} (hdg : decode cc pc = .ok (.arraylength, len))
    (h0 : aj_step rc cls tb lk nL ret isI .arraylength len pc lv st h = some (.inl ((pc', lv', st'), h', dc, ds)))
    (k : aj_Nx D cl cA tb.length base stA nL p l e R s m args below meth c Q (cells + dc) (slots + ds) pc' lv' st' h') : aj_Nx D cl cA tb.length base stA nL p l e R s m args below meth c Q cells slots pc lv st h := by
  obtain ⟨hx, hb, -, hown, -, hK, hZ, -⟩ := hC
  intro ls H locs hl hR
  unfold aj_step at h0
  dsimp only at h0
  split at h0
  · rename_i hlen
    subst hlen
    unfold aj_alen at h0
    split at h0
    · rename_i r rest
      split at h0
      · rename_i k0 n x0 harr
        split at h0
        · rename_i hk
          have go := aj_go_k h0 k ls H locs hl hR
          show W p l e R s m args below meth c H locs cells slots Q (F0 m pc ls (aj_c (aj_ad tb.length base stA) (.ref r) :: rest.map (aj_c (aj_ad tb.length base stA))))
          rcases aj_arr_k harr with ⟨hr, h1⟩ | ⟨hr, h1⟩
          · rw [aj_c_sta hr]
            exact va_tlen hx hb (hZ.2 r _ _ h1) hR.2.2 rfl hdg go
          · rw [aj_c_dyn hr]
            have ht : ((List.range 6).map fun k => (cA k, aj_ty rn k))[k0]? = some (cA k0, aj_ty rn k0) := by simp [hk]
            refine va_alen hx hb hK.1 hR.2.1 _ k0 (aj_ws_get h1) ht ?_ hdg go
            obtain _ | _ | _ | _ | f := x0 <;> rfl
        · cases h0
      · cases h0
    · cases h0
  · cases h0
end AJHEAP
end
section
section AJSTORE
variable {rn : String} {D : va_G} {cl : List vw_C} {cA : Nat → ClassId} {tb : aj_T} {base : Nat} {stA : Nat → Nat} {sf : List (String × String × String)} {nw Ts : List Cond} {own : String} {cc : ByteArray} {nL S : Nat}
variable {p : Program} {l : Launch} {e : Env} {R : Room} {s : State} {m : MethodId} {args : Array Value} {below : List Frame} {meth : Method} {c : Code} {Q : State → Prop} {cells slots pc pc' dc ds : Nat} {lv lv' : aj_V} {st st' : List Value} {h h' : aj_H}
/-- a cell of the list is written: what the rows give is the written list's picture -/
theorem aj_Rw_set {H : Heap} {locs : List Loc} {H1 : Heap} {locs1 : List Loc} {k : Nat} {en : aj_E} (hR : aj_Rw D cl cA S base stA s cells h H locs)
    (hP : va_P D cl ((aj_ws (aj_ad S base stA) cA base h).set k (base + k, aj_ce (aj_ad S base stA) cA en)) H1) (hS : va_S (fun q => base ≤ q) s.heap H1 locs1) : aj_Rw D cl cA S base stA s cells (h.set k en) H1 locs1 := by
  refine ⟨by rw [List.length_set]; exact hR.1, ?_, hS⟩
  rw [← aj_ws_set]
  exact hP
theorem aj_ast_k {k : Nat} (h0 : aj_ast k tb pc lv st h = some (.inl ((pc', lv', st'), h', dc, ds)))
    (kk : aj_Nx D cl cA tb.length base stA nL p l e R s m args below meth c Q (cells + dc) (slots + ds) pc' lv' st' h')
    (rd : ∀ (ls : Array Slot) (H : Heap) (locs : List Loc) (rest : List Value) (q0 a n : Nat) (f : Nat → Int32) (i x : Int32), va_P D cl (aj_ws (aj_ad tb.length base stA) cA base h) H → va_S (fun q => base ≤ q) s.heap H locs → (aj_ws (aj_ad tb.length base stA) cA base h)[q0]? = some (a, .inl (cA k, n, .inl f)) → vp_in i n → (∀ (H1 : Heap) (locs1 : List Loc), va_P D cl ((aj_ws (aj_ad tb.length base stA) cA base h).set q0 (a, .inl (cA k, n, .inl (upd f i.toNatClampNeg (aj_nar k x))))) H1 → va_S (fun q => base ≤ q) s.heap H1 locs1 → W p l e R s m args below meth c H1 locs1 cells slots Q (F0 m (pc + 1) ls rest)) → W p l e R s m args below meth c H locs cells slots Q (F0 m pc ls (.int x :: .int i :: .ref a :: rest))) :
    aj_Nx D cl cA tb.length base stA nL p l e R s m args below meth c Q cells slots pc lv st h := by
  intro ls H locs hl hR
  unfold aj_ast at h0
  split at h0
  · rename_i x i r rest
    split at h0
    · cases h0
    · rename_i hr
      split at h0
      · rename_i k' n f harr
        split at h0
        · rename_i hq
          obtain ⟨rfl, hin⟩ := hq
          have go := aj_go_k h0 kk
          show W p l e R s m args below meth c H locs cells slots Q (F0 m pc ls (.int x :: .int i :: aj_c (aj_ad tb.length base stA) (.ref r) :: rest.map (aj_c (aj_ad tb.length base stA))))
          rw [aj_c_dyn hr]
          exact rd ls H locs _ _ _ n f i x hR.2.1 hR.2.2 (aj_ws_get harr) (aj_in_ok hin) (fun H1 locs1 hP hS => go ls H1 locs1 hl (aj_Rw_set hR hP hS))
        · cases h0
      · cases h0
  · cases h0
theorem aj_s_iastore (hC : aj_Cx rn D cl cA tb base stA sf nw Ts own cc nL p s m args c) {rc : Nat} {cls : List aj_C} {lk : List aj_L} {ret : Option FieldType} {isI : Bool} {len : Nat} (hdg : decode cc pc = .ok (.iastore, len))
    (h0 : aj_step rc cls tb lk nL ret isI .iastore len pc lv st h = some (.inl ((pc', lv', st'), h', dc, ds)))
    (k : aj_Nx D cl cA tb.length base stA nL p l e R s m args below meth c Q (cells + dc) (slots + ds) pc' lv' st' h') : aj_Nx D cl cA tb.length base stA nL p l e R s m args below meth c Q cells slots pc lv st h := by
  unfold aj_step at h0
  dsimp only at h0
  split at h0
  · rename_i hlen
    subst hlen
    exact aj_ast_k h0 k (fun ls H locs rest q0 a n f i x hP hS ha hin kk => va_iast hC.1 hC.2.1 hC.2.2.2.2.2.1.1 hP (aj_D h) hS q0 0 ha rfl hin hdg (fun H1 locs1 g1 _ g3 => kk H1 locs1 g1 g3))
  · cases h0
theorem aj_s_castore (hC : aj_Cx rn D cl cA tb base stA sf nw Ts own cc nL p s m args c) {rc : Nat} {cls : List aj_C} {lk : List aj_L} {ret : Option FieldType} {isI : Bool} {len : Nat} (hdg : decode cc pc = .ok (.castore, len))
    (h0 : aj_step rc cls tb lk nL ret isI .castore len pc lv st h = some (.inl ((pc', lv', st'), h', dc, ds)))
    (k : aj_Nx D cl cA tb.length base stA nL p l e R s m args below meth c Q (cells + dc) (slots + ds) pc' lv' st' h') : aj_Nx D cl cA tb.length base stA nL p l e R s m args below meth c Q cells slots pc lv st h := by
  unfold aj_step at h0
  dsimp only at h0
  split at h0
  · rename_i hlen
    subst hlen
    exact aj_ast_k h0 k (fun ls H locs rest q0 a n f i x hP hS ha hin kk => va_cast hC.1 hC.2.1 hC.2.2.2.2.2.1.1 hP (aj_D h) hS q0 3 ha rfl hin hdg (fun H1 locs1 g1 _ g3 => kk H1 locs1 g1 g3))
  · cases h0
theorem aj_s_bastore (hC : aj_Cx rn D cl cA tb base stA sf nw Ts own cc nL p s m args c) {rc : Nat} {cls : List aj_C} {lk : List aj_L} {ret : Option FieldType} {isI : Bool} {len : Nat} (hdg : decode cc pc = .ok (.bastore, len))
    (h0 : aj_step rc cls tb lk nL ret isI .bastore len pc lv st h = some (.inl ((pc', lv', st'), h', dc, ds)))
    (k : aj_Nx D cl cA tb.length base stA nL p l e R s m args below meth c Q (cells + dc) (slots + ds) pc' lv' st' h') : aj_Nx D cl cA tb.length base stA nL p l e R s m args below meth c Q cells slots pc lv st h := by
  unfold aj_step at h0
  dsimp only at h0
  split at h0
  · rename_i hlen
    subst hlen
    unfold aj_bst at h0
    split at h0
    · split at h0
      · exact aj_ast_k h0 k (fun ls H locs rest q0 a n f i x hP hS ha hin kk => va_zast hC.1 hC.2.1 hC.2.2.2.2.2.1.1 hP (aj_D h) hS q0 2 ha rfl hin hdg (fun H1 locs1 g1 _ g3 => kk H1 locs1 g1 g3))
      · exact aj_ast_k h0 k (fun ls H locs rest q0 a n f i x hP hS ha hin kk => va_bast hC.1 hC.2.1 hC.2.2.2.2.2.1.1 hP (aj_D h) hS q0 4 ha rfl hin hdg (fun H1 locs1 g1 _ g3 => kk H1 locs1 g1 g3))
    · cases h0
  · cases h0
theorem aj_s_lastore (hC : aj_Cx rn D cl cA tb base stA sf nw Ts own cc nL p s m args c) {rc : Nat} {cls : List aj_C} {lk : List aj_L} {ret : Option FieldType} {isI : Bool} {len : Nat} (hdg : decode cc pc = .ok (.lastore, len))
    (h0 : aj_step rc cls tb lk nL ret isI .lastore len pc lv st h = some (.inl ((pc', lv', st'), h', dc, ds)))
    (k : aj_Nx D cl cA tb.length base stA nL p l e R s m args below meth c Q (cells + dc) (slots + ds) pc' lv' st' h') : aj_Nx D cl cA tb.length base stA nL p l e R s m args below meth c Q cells slots pc lv st h := by
  intro ls H locs hl hR
  unfold aj_step at h0
  dsimp only at h0
  split at h0
  · rename_i hlen
    subst hlen
    unfold aj_lst at h0
    split at h0
    · rename_i x i r rest
      split at h0
      · cases h0
      · rename_i hr
        split at h0
        · rename_i n f harr
          split at h0
          · rename_i hin
            have go := aj_go_k h0 k
            show W p l e R s m args below meth c H locs cells slots Q (F0 m pc ls (.long x :: .int i :: aj_c (aj_ad tb.length base stA) (.ref r) :: rest.map (aj_c (aj_ad tb.length base stA))))
            rw [aj_c_dyn hr]
            exact va_last hC.1 hC.2.1 hC.2.2.2.2.2.1.1 hR.2.1 (aj_D h) hR.2.2 _ 1 (aj_ws_get harr) rfl (aj_in_ok hin) hdg (fun H1 locs1 g1 _ g3 => go ls H1 locs1 hl (aj_Rw_set hR g1 g3))
          · cases h0
        · cases h0
    · cases h0
  · cases h0
theorem aj_up_c (ad : Nat → Nat) (f : Nat → Option Nat) (k : Nat) (o : Option Nat) : (fun i => (va_up f k o i).map ad) = va_up (fun i => (f i).map ad) k (o.map ad) := by
  funext i
  by_cases hi : i = k <;> simp [va_up, hi]
theorem aj_s_aastore (hC : aj_Cx rn D cl cA tb base stA sf nw Ts own cc nL p s m args c) {rc : Nat} {rcl : vw_C} (hrc : cl[rc]? = some rcl) (hrn : rcl.1 = rn) {cls : List aj_C} {lk : List aj_L} {ret : Option FieldType} {isI : Bool} {len : Nat} (hdg : decode cc pc = .ok (.aastore, len))
    (h0 : aj_step rc cls tb lk nL ret isI .aastore len pc lv st h = some (.inl ((pc', lv', st'), h', dc, ds)))
    (k : aj_Nx D cl cA tb.length base stA nL p l e R s m args below meth c Q (cells + dc) (slots + ds) pc' lv' st' h') : aj_Nx D cl cA tb.length base stA nL p l e R s m args below meth c Q cells slots pc lv st h := by
  intro ls H locs hl hR
  unfold aj_step at h0
  dsimp only at h0
  split at h0
  · rename_i hlen
    subst hlen
    unfold aj_qst at h0
    split at h0
    · rename_i v i r rest
      split at h0
      · cases h0
      · rename_i hr
        split at h0
        · rename_i n f harr
          split at h0
          · rename_i ci fs hobj
            split at h0
            · rename_i hq
              obtain ⟨rfl, hin⟩ := hq
              have go := aj_go_k h0 k
              obtain ⟨hv, hobj⟩ := aj_obj_k hobj
              show W p l e R s m args below meth c H locs cells slots Q (F0 m pc ls (aj_c (aj_ad tb.length base stA) (.ref v) :: .int i :: aj_c (aj_ad tb.length base stA) (.ref r) :: rest.map (aj_c (aj_ad tb.length base stA))))
              rw [aj_c_dyn hr, aj_c_dyn hv]
              refine va_astq (r := rcl) hC.1 hC.2.1 hC.2.2.2.2.2.1.1 hR.2.1 (aj_D h) hR.2.2 _ 5 _ ci (aj_ws_get harr) (by rw [hrn]; rfl) (aj_ws_get hobj) hrc (aj_in_ok hin) hdg (fun H1 locs1 g1 _ g3 => go ls H1 locs1 hl (aj_Rw_set hR ?_ g3))
              have e1 : aj_ad tb.length base stA v = base + (v - tb.length) := by simp [aj_ad, hv]
              simp only [aj_ce, aj_ca, aj_up_c, Option.map_some, e1]
              exact g1
            · cases h0
          · cases h0
        · cases h0
    · rename_i i r rest
      split at h0
      · cases h0
      · rename_i hr
        split at h0
        · rename_i n f harr
          split at h0
          · rename_i hin
            have go := aj_go_k h0 k
            show W p l e R s m args below meth c H locs cells slots Q (F0 m pc ls (.null :: .int i :: aj_c (aj_ad tb.length base stA) (.ref r) :: rest.map (aj_c (aj_ad tb.length base stA))))
            rw [aj_c_dyn hr]
            refine va_astqN (C := rn) hC.1 hC.2.1 hC.2.2.2.2.2.1.1 hR.2.1 (aj_D h) hR.2.2 _ 5 (aj_ws_get harr) rfl (aj_in_ok hin) hdg (fun H1 locs1 g1 _ g3 => go ls H1 locs1 hl (aj_Rw_set hR ?_ g3))
            simp only [aj_ce, aj_ca, aj_up_c, Option.map_none]
            exact g1
          · cases h0
        · cases h0
    · cases h0
  · cases h0
end AJSTORE
end
section
/-- the tables: each class's rows, each link's words -/
def aj_clsOK (Ts : List Cond) (cl : List vw_C) (cls : List aj_C) : Prop := ∀ (ci : Nat) (q : aj_C), cls[ci]? = some q → cl[ci]? = some (q.1, q.2.1, q.2.2.1) ∧ (∀ w ∈ u_ws q.1 q.2.1 q.2.2.1, w ∈ Ts) ∧ (∀ k, k < q.2.2.1 → parseFieldDescriptor (q.2.1 k).2.2.1 = some (q.2.2.2 k)) ∧ (∀ a, a < q.2.2.1 → ∀ b, b < q.2.2.1 → a ≠ b → (q.2.1 a).2.1 ≠ (q.2.1 b).2.1)
/-- what stands behind a link of the class own -/
def aj_lkOK (Ts nw : List Cond) (cls : List aj_C) (mt : List aj_M) (sf : List (String × String × String)) (own : String) (i kind a b : Nat) (v : Int) : Prop :=
  (kind = 0 → ∃ q : aj_C, cls[a]? = some q ∧ b < q.2.2.1 ∧ Cond.fieldLink own i (q.2.1 b).1 (q.2.1 b).2.1 (q.2.1 b).2.2.1 ∈ Ts ∧ (v = 0 → (q.2.1 b).2.2.2 = false) ∧ (v = 1 → (q.2.1 b).2.2.2 = true ∧ (q.2.1 b).1 = own)) ∧
  (kind = 1 → ∃ q : aj_C, cls[a]? = some q ∧ b < q.2.2.1 ∧ (∃ host : String, Cond.fieldLinkNest own i (q.2.1 b).1 (q.2.1 b).2.1 (q.2.1 b).2.2.1 host ∈ nw) ∧ (v = 0 → (q.2.1 b).2.2.2 = false)) ∧
  (kind = 2 → ∃ m : aj_M, mt[a]? = some m ∧ (∃ q : aj_C, cls[v.toNat]? = some q ∧ q.1 = m.1.cls) ∧ b = m.2.2.2.2.1 ∧ Cond.methodLink own i m.1 ∈ Ts ∧ Cond.instanceMethod m.1 ∈ Ts ∧ Cond.selects m.1.cls m.1 m.1 ∈ Ts ∧ Cond.initialized m.1.cls ∈ Ts) ∧
  (kind = 3 → ∃ m : aj_M, mt[a]? = some m ∧ b = m.2.2.2.2.1 ∧ m.1.name = "<init>" ∧ m.2.2.2.1 = none ∧ Cond.methodLink own i m.1 ∈ Ts ∧ Cond.instanceMethod m.1 ∈ Ts ∧ Cond.initialized m.1.cls ∈ Ts) ∧
  (kind = 4 → ∃ m : aj_M, mt[a]? = some m ∧ b = m.2.2.2.2.1 ∧ m.1.name = "<init>" ∧ m.2.2.2.1 = none ∧ (∃ host : String, Cond.methodLinkNest own i m.1 host ∈ nw) ∧ Cond.instanceMethod m.1 ∈ Ts ∧ Cond.initialized m.1.cls ∈ Ts) ∧
  (kind = 5 → b = 0 ∧ Cond.methodLink own i Lib.objectInit ∈ Ts ∧ Cond.instanceMethod Lib.objectInit ∈ Ts ∧ Cond.code Lib.objectInit ⟨#[0xb1]⟩ 1 none ∈ Ts) ∧
  (kind = 6 → ∃ m : aj_M, mt[a]? = some m ∧ b = m.2.2.2.2.1 ∧ Cond.methodLink own i m.1 ∈ Ts ∧ Cond.static m.1 ∈ Ts ∧ Cond.initialized m.1.cls ∈ Ts) ∧
  (kind = 9 → ∃ q : String × String × String, sf[a]? = some q ∧ Cond.fieldLink own i q.1 q.2.1 q.2.2 ∈ Ts) ∧
  (kind = 10 → Cond.constant own i (Int32.ofInt v) ∈ Ts) ∧
  (kind = 11 → Cond.constantLong own i (Int64.ofInt v) ∈ Ts) ∧
  (kind = 12 → ∃ q : aj_C, cls[a]? = some q ∧ Cond.classLink own i q.1 ∈ Ts ∧ Cond.instantiable q.1 q.2.2.1 ∈ Ts ∧ Cond.initialized q.1 ∈ Ts)
def aj_lksOK (Ts nw : List Cond) (cls : List aj_C) (mt : List aj_M) (sf : List (String × String × String)) (own : String) (lk : List aj_L) : Prop := ∀ (i kind a b : Nat) (v : Int), aj_link lk i = some (kind, a, b, v) → aj_lkOK Ts nw cls mt sf own i kind a b v
theorem aj_fit_ok {ty : FieldType} {v : Value} (h : aj_fit ty v = true) (ad : Nat → Nat) : narrow ty (aj_c ad v) = aj_c ad v ∧ fits ty (aj_c ad v) = true := by
  cases ty <;> cases v <;> first
    | exact ⟨rfl, rfl⟩
    | exact absurd h Bool.false_ne_true
    | skip
  · simp only [aj_fit, Bool.and_eq_true, decide_eq_true_eq] at h
    refine ⟨?_, ?_⟩
    · show Value.int _ = Value.int _
      rw [h.1]
    · show (decide _ && decide _) = true
      simp [h.2.1, h.2.2]
  · simp only [aj_fit, Bool.or_eq_true, decide_eq_true_eq] at h
    rcases h with rfl | rfl <;> exact ⟨rfl, rfl⟩
section AJFIELD
variable {rn : String} {D : va_G} {cl : List vw_C} {cA : Nat → ClassId} {tb : aj_T} {base : Nat} {stA : Nat → Nat} {sf : List (String × String × String)} {nw Ts : List Cond} {own : String} {cc : ByteArray} {nL S : Nat} {mt : List aj_M}
variable {p : Program} {l : Launch} {e : Env} {R : Room} {s : State} {m : MethodId} {args : Array Value} {below : List Frame} {meth : Method} {c : Code} {Q : State → Prop} {cells slots pc pc' dc ds : Nat} {lv lv' : aj_V} {st st' : List Value} {h h' : aj_H}
theorem aj_s_getfield (hC : aj_Cx rn D cl cA tb base stA sf nw Ts own cc nL p s m args c) {rc : Nat} {cls : List aj_C} (hcls : aj_clsOK Ts cl cls) {lk : List aj_L} (hlk : aj_lksOK Ts nw cls mt sf own lk) {ret : Option FieldType} {isI : Bool} {idx len : Nat} (hdg : decode cc pc = .ok (.getfield idx, len))
    (h0 : aj_step rc cls tb lk nL ret isI (.getfield idx) len pc lv st h = some (.inl ((pc', lv', st'), h', dc, ds)))
    (k : aj_Nx D cl cA tb.length base stA nL p l e R s m args below meth c Q (cells + dc) (slots + ds) pc' lv' st' h') : aj_Nx D cl cA tb.length base stA nL p l e R s m args below meth c Q cells slots pc lv st h := by
  obtain ⟨hx, hb, -, hown, hts, hK, hZ, hN, -⟩ := hC
  intro ls H locs hl hR
  unfold aj_step at h0
  dsimp only at h0
  split at h0
  · rename_i hlen
    subst hlen
    unfold aj_getf at h0
    split at h0
    · rename_i r rest
      split at h0
      · rename_i kind ci k1 v1 ci' fs hlink hobj
        split at h0
        · rename_i v hv
          split at h0
          · rename_i hq
            obtain ⟨hkind, rfl⟩ := hq
            have go := aj_go_k h0 k ls H locs hl hR
            obtain ⟨hr, hobj⟩ := aj_obj_k hobj
            have hok := hlk _ _ _ _ _ hlink
            show W p l e R s m args below meth c H locs cells slots Q (F0 m pc ls (aj_c (aj_ad tb.length base stA) (.ref r) :: rest.map (aj_c (aj_ad tb.length base stA))))
            rw [aj_c_dyn hr]
            have hfv : (fs.map (aj_c (aj_ad tb.length base stA)))[k1]? = some (aj_c (aj_ad tb.length base stA) v) := by rw [List.getElem?_map, hv]; rfl
            rcases (by omega : kind = 0 ∨ kind = 1) with rfl | rfl
            · obtain ⟨q, hq, hk, hw, -⟩ := hok.1 rfl
              obtain ⟨g1, g2, -⟩ := hcls _ _ hq
              exact va_get hx hb hts g2 hown hK.1 hR.2.1 _ (aj_ws_get hobj) g1 k1 hk (hts _ hw) (fun _ z => z) hfv hdg go
            · obtain ⟨q, hq, hk, ⟨host, hw⟩, -⟩ := hok.2.1 rfl
              obtain ⟨g1, g2, -⟩ := hcls _ _ hq
              exact va_getN hx hb hts g2 hown hK.1 hR.2.1 _ (aj_ws_get hobj) g1 k1 hk (va_Nw.use rfl (hN _ hw)) (fun _ z => z) hfv hdg go
          · cases h0
        · cases h0
      · cases h0
    · cases h0
  · cases h0
theorem aj_s_putfield (hC : aj_Cx rn D cl cA tb base stA sf nw Ts own cc nL p s m args c) {rc : Nat} {cls : List aj_C} (hcls : aj_clsOK Ts cl cls) {lk : List aj_L} (hlk : aj_lksOK Ts nw cls mt sf own lk) {ret : Option FieldType} {isI : Bool} (hI : isI = true → meth.name = "<init>") {idx len : Nat} (hdg : decode cc pc = .ok (.putfield idx, len))
    (h0 : aj_step rc cls tb lk nL ret isI (.putfield idx) len pc lv st h = some (.inl ((pc', lv', st'), h', dc, ds)))
    (k : aj_Nx D cl cA tb.length base stA nL p l e R s m args below meth c Q (cells + dc) (slots + ds) pc' lv' st' h') : aj_Nx D cl cA tb.length base stA nL p l e R s m args below meth c Q cells slots pc lv st h := by
  obtain ⟨hx, hb, -, hown, hts, hK, hZ, hN, -⟩ := hC
  intro ls H locs hl hR
  unfold aj_step at h0
  dsimp only at h0
  split at h0
  · rename_i hlen
    subst hlen
    unfold aj_putf at h0
    split at h0
    · rename_i v r rest
      split at h0
      · rename_i kind ci k1 fin ci' fs hlink hobj
        split at h0
        · rename_i C0 T0 N0 ty0 hc0
          split at h0
          · rename_i hq
            obtain ⟨hkind, rfl, hlen2, hfit, hfin⟩ := hq
            have go := aj_go_k h0 k
            obtain ⟨hr, hobj⟩ := aj_obj_k hobj
            have hok := hlk _ _ _ _ _ hlink
            show W p l e R s m args below meth c H locs cells slots Q (F0 m pc ls (aj_c (aj_ad tb.length base stA) v :: aj_c (aj_ad tb.length base stA) (.ref r) :: rest.map (aj_c (aj_ad tb.length base stA))))
            rw [aj_c_dyn hr]
            obtain ⟨hn, hft⟩ := aj_fit_ok hfit (aj_ad tb.length base stA)
            have hset : aj_ce (aj_ad tb.length base stA) cA (.inr (ci', fs.set k1 v)) = .inr (ci', (fs.map (aj_c (aj_ad tb.length base stA))).set k1 (aj_c (aj_ad tb.length base stA) v)) := by simp [aj_ce, List.map_set]
            have hll : k1 < (fs.map (aj_c (aj_ad tb.length base stA))).length := by simpa using hlen2
            rcases (by omega : kind = 0 ∨ kind = 1) with rfl | rfl
            · obtain ⟨q, hq, hk, hw, hf0, hf1⟩ := hok.1 rfl
              rw [hc0] at hq
              cases hq
              obtain ⟨g1, g2, g3, g4⟩ := hcls _ _ hc0
              rcases hfin with rfl | ⟨rfl, -, hi⟩
              · exact va_put hx hb hts g2 ty0 g3 g4 hown hK.1 hR.2.1 (aj_D h) hR.2.2 _ (aj_ws_get hobj) g1 k1 hk (hts _ hw) (fun _ z => z) (hf0 rfl) (g3 k1 hk) hn hft hll hdg (fun H1 locs1 z1 _ z3 => go ls H1 locs1 hl (aj_Rw_set hR (by rw [hset]; exact z1) z3))
              · obtain ⟨w1, w2⟩ := hf1 rfl
                exact va_putF hx hb hts g2 ty0 g3 g4 hown hK.1 hR.2.1 (aj_D h) hR.2.2 _ (aj_ws_get hobj) g1 k1 hk (hts _ hw) (fun _ z => z) w1 (hI hi) w2 (g3 k1 hk) hn hft hll hdg (fun H1 locs1 z1 _ z3 => go ls H1 locs1 hl (aj_Rw_set hR (by rw [hset]; exact z1) z3))
            · obtain ⟨q, hq, hk, ⟨host, hw⟩, hf0⟩ := hok.2.1 rfl
              rw [hc0] at hq
              cases hq
              obtain ⟨g1, g2, g3, g4⟩ := hcls _ _ hc0
              rcases hfin with rfl | ⟨rfl, z, hi⟩
              · exact va_putN hx hb hts g2 ty0 g3 g4 hown hK.1 hR.2.1 (aj_D h) hR.2.2 _ (aj_ws_get hobj) g1 k1 hk (va_Nw.use rfl (hN _ hw)) (fun _ z => z) (hf0 rfl) (g3 k1 hk) hn hft hll hdg (fun H1 locs1 z1 _ z3 => go ls H1 locs1 hl (aj_Rw_set hR (by rw [hset]; exact z1) z3))
              · exact absurd z (by decide)
          · cases h0
        · cases h0
      · cases h0
    · cases h0
  · cases h0
end AJFIELD
end
section
section AJMAKE
variable {rn : String} {D : va_G} {cl : List vw_C} {cA : Nat → ClassId} {tb : aj_T} {base : Nat} {stA : Nat → Nat} {sf : List (String × String × String)} {nw Ts : List Cond} {own : String} {cc : ByteArray} {nL S : Nat} {mt : List aj_M}
variable {p : Program} {l : Launch} {e : Env} {R : Room} {s : State} {m : MethodId} {args : Array Value} {below : List Frame} {meth : Method} {c : Code} {Q : State → Prop} {cells slots pc pc' dc ds : Nat} {lv lv' : aj_V} {st st' : List Value} {h h' : aj_H}
/-- a new cell's place: there is but one -/
theorem aj_fresh {ad : Nat → Nat} {q : Nat} {x : va_E} {H1 : Heap} (hP : va_P D cl (aj_ws ad cA base h ++ [(q, x)]) H1) (hD : va_D (fun q => base ≤ q) (aj_ws ad cA base h ++ [(q, x)])) (hs : H1.size ≤ base + h.length + 1) : q = base + h.length := by
  have e1 : (aj_ws ad cA base h ++ [(q, x)])[h.length]? = some (q, x) := by
    rw [List.getElem?_append_right (by rw [aj_ws_len]; exact Nat.le_refl _), aj_ws_len, Nat.sub_self]
    rfl
  have h1 : q < H1.size := (hP _ _ e1).lt
  have h2 : base ≤ q := hD.2 _ _ e1
  rcases Nat.lt_or_ge q (base + h.length) with h3 | h3
  · exfalso
    have hi : q - base < h.length := by omega
    have e2 : (aj_ws ad cA base h ++ [(q, x)])[q - base]? = some (base + (q - base), aj_ce ad cA h[q - base]) := by
      rw [List.getElem?_append_left (by rw [aj_ws_len]; exact hi)]
      exact aj_ws_get (List.getElem?_eq_getElem hi)
    have := hD.1 _ _ _ _ e1 e2 (by show q = base + (q - base); omega)
    omega
  · omega
theorem aj_W_new {ls : Array Slot} {H1 : Heap} {locs : List Loc} {q : Nat} {x : va_E} {rest : List Value} {en : aj_E} (hR : s.heap.size + cells = base + h.length) (hx : aj_ce (aj_ad S base stA) cA en = x) (hl : lv_has ls nL (aj_cv (aj_ad S base stA) lv)) (hP : va_P D cl (aj_ws (aj_ad S base stA) cA base h ++ [(q, x)]) H1) (hD : va_D (fun q => base ≤ q) (aj_ws (aj_ad S base stA) cA base h ++ [(q, x)])) (hS : va_S (fun q => base ≤ q) s.heap H1 locs)
    (k : aj_Nx D cl cA S base stA nL p l e R s m args below meth c Q (cells + 1) slots pc' lv (.ref (S + h.length) :: rest) (h ++ [en])) : W p l e R s m args below meth c H1 locs (cells + 1) slots Q (F0 m pc' ls (.ref q :: rest.map (aj_c (aj_ad S base stA)))) := by
  intro T hT X
  have hsz := X.heapSize
  rw [hT] at hsz
  have hq := aj_fresh hP hD (by omega)
  subst hq
  have e1 : aj_c (aj_ad S base stA) (.ref (S + h.length)) = .ref (base + h.length) := by rw [aj_c_dyn (by omega), Nat.add_sub_cancel_left]
  have kk := k ls H1 locs hl ⟨by rw [List.length_append]; show s.heap.size + (cells + 1) = base + (h.length + 1); omega, by rw [aj_ws_app, hx]; exact hP, hS⟩
  rw [List.map_cons, e1] at kk
  exact kk T hT X
theorem aj_s_new (hC : aj_Cx rn D cl cA tb base stA sf nw Ts own cc nL p s m args c) {rc : Nat} {cls : List aj_C} (hcls : aj_clsOK Ts cl cls) {lk : List aj_L} (hlk : aj_lksOK Ts nw cls mt sf own lk) {ret : Option FieldType} {isI : Bool} {idx len : Nat} (hdg : decode cc pc = .ok (.new idx, len))
    (h0 : aj_step rc cls tb lk nL ret isI (.new idx) len pc lv st h = some (.inl ((pc', lv', st'), h', dc, ds))) (hc1 : cells + dc ≤ R.cells) (hs1 : slots + ds ≤ R.slots)
    (k : aj_Nx D cl cA tb.length base stA nL p l e R s m args below meth c Q (cells + dc) (slots + ds) pc' lv' st' h') : aj_Nx D cl cA tb.length base stA nL p l e R s m args below meth c Q cells slots pc lv st h := by
  obtain ⟨hx, hb, -, hown, hts, hK, hZ, hN, hbs⟩ := hC
  intro ls H locs hl hR
  unfold aj_step at h0
  dsimp only at h0
  split at h0
  · rename_i hlen
    subst hlen
    unfold aj_new at h0
    split at h0
    · rename_i ci b0 v0 hlink
      split at h0
      · rename_i C0 T0 N0 ty0 hc0
        cases h0
        obtain ⟨q, hq, w1, w2, w3⟩ := (hlk _ _ _ _ _ hlink).2.2.2.2.2.2.2.2.2.2 rfl
        rw [hc0] at hq
        cases hq
        obtain ⟨g1, g2, g3, g4⟩ := hcls _ _ hc0
        refine va_new (own := own) (C := C0) (T := T0) (N := ds) (ci := ci) (fs := ((List.range ds).map (fun j => defaultValue (ty0 j))).map (aj_c (aj_ad tb.length base stA))) hx hb hts g2 ty0 g3 hown (hts _ w1) (hts _ w2) (hts _ w3) hK.1 hR.2.1 (aj_D h) hR.2.2 (fun q hq => Nat.le_trans hbs hq) g1 ?_ hc1 hs1 hdg (fun q H1 z1 z2 z3 => aj_W_new hR.1 rfl hl z1 z2 z3 k)
        intro j hj
        have : aj_c (aj_ad tb.length base stA) (defaultValue (ty0 j)) = defaultValue (ty0 j) := by cases ty0 j <;> rfl
        simp [vp_V, List.getD, hj, this]
      · cases h0
    · cases h0
  · cases h0
theorem aj_s_newarray (hC : aj_Cx rn D cl cA tb base stA sf nw Ts own cc nL p s m args c) (hA : ∀ k, k < 5 → Cond.arrayClass (aj_ty rn k) ∈ Ts) {rc : Nat} {cls : List aj_C} {lk : List aj_L} {ret : Option FieldType} {isI : Bool} {aty : ArrayType} {len : Nat} (hdg : decode cc pc = .ok (.newarray aty, len))
    (h0 : aj_step rc cls tb lk nL ret isI (.newarray aty) len pc lv st h = some (.inl ((pc', lv', st'), h', dc, ds))) (hc1 : cells + dc ≤ R.cells) (hs1 : slots + ds ≤ R.slots)
    (k : aj_Nx D cl cA tb.length base stA nL p l e R s m args below meth c Q (cells + dc) (slots + ds) pc' lv' st' h') : aj_Nx D cl cA tb.length base stA nL p l e R s m args below meth c Q cells slots pc lv st h := by
  obtain ⟨hx, hb, -, hown, hts, hK, hZ, hN, hbs⟩ := hC
  intro ls H locs hl hR
  unfold aj_step at h0
  dsimp only at h0
  split at h0
  · rename_i hlen
    obtain ⟨rfl, hat⟩ := hlen
    unfold aj_newa at h0
    split at h0
    · rename_i n rest
      split at h0
      · rename_i hq
        obtain ⟨-, hn, hbn⟩ := hq
        cases h0
        have hty : newarray.typeOf aty = aj_ty rn (aj_at aty) := by
          cases aty <;> first | rfl | exact absurd hat (by decide)
        have hcb : componentBytes (aj_ty rn (aj_at aty)) ≤ 8 := by
          cases aty <;> first | exact Nat.le_of_ble_eq_true rfl | (exfalso; revert hat; decide)
        have ha : ∀ cA : ClassId, vp_cell cA (aj_blank (aj_at aty) n.toNatClampNeg) = arrV cA n.toNatClampNeg (fun _ => defaultValue (aj_ty rn (aj_at aty))) := by
          intro cA
          cases aty <;> first | rfl | exact absurd hat (by decide)
        have hcb2 : n.toNatClampNeg * componentBytes (aj_ty rn (aj_at aty)) ≤ 536870912 := by
          have := Nat.mul_le_mul hbn hcb
          omega
        refine va_newa (ty := aj_ty rn (aj_at aty)) (N' := n.toNatClampNeg) (a0 := aj_blank (aj_at aty) n.toNatClampNeg) hx hb (by rw [hty]; exact hts _ (hA _ hat)) hty hK.1 hR.2.1 (aj_D h) hR.2.2 (fun q hq => Nat.le_trans hbs hq) ha hn rfl hcb2 hc1 hs1 hdg (fun q cA1 H1 z0 z1 z2 z3 => aj_W_new (en := .inl (aj_at aty, aj_blank (aj_at aty) n.toNatClampNeg)) hR.1 ?_ hl z1 z2 z3 k)
        have e1 := (z0.2 6 (cA1, aj_ty rn (aj_at aty)) (by rw [List.getElem?_append_right (by simp)]; simp)).2
        have hlt : aj_at aty < 6 := by omega
        have e2 := (hK.1.2 (aj_at aty) (cA (aj_at aty), aj_ty rn (aj_at aty)) (by simp [hlt])).2
        have e3 : cA (aj_at aty) = cA1 := by
          cases aty <;> first | exact absurd hat (by decide) | exact Option.some.inj (e2.symm.trans e1)
        show Sum.inl (cA (aj_at aty), aj_ca _ (aj_blank (aj_at aty) n.toNatClampNeg)) = Sum.inl (cA1, aj_blank (aj_at aty) n.toNatClampNeg)
        rw [e3]
        cases aty <;> first | rfl | exact absurd hat (by decide)
      · cases h0
    · cases h0
  · cases h0
theorem aj_s_anewarray (hC : aj_Cx rn D cl cA tb base stA sf nw Ts own cc nL p s m args c) {rc : Nat} {rcl : vw_C} (hrc : cl[rc]? = some rcl) (hrn : rcl.1 = rn) {cls : List aj_C} (hcls : aj_clsOK Ts cl cls) {lk : List aj_L} (hlk : aj_lksOK Ts nw cls mt sf own lk) {ret : Option FieldType} {isI : Bool} {idx len : Nat} (hdg : decode cc pc = .ok (.anewarray idx, len))
    (h0 : aj_step rc cls tb lk nL ret isI (.anewarray idx) len pc lv st h = some (.inl ((pc', lv', st'), h', dc, ds))) (hc1 : cells + dc ≤ R.cells) (hs1 : slots + ds ≤ R.slots)
    (k : aj_Nx D cl cA tb.length base stA nL p l e R s m args below meth c Q (cells + dc) (slots + ds) pc' lv' st' h') : aj_Nx D cl cA tb.length base stA nL p l e R s m args below meth c Q cells slots pc lv st h := by
  obtain ⟨hx, hb, -, hown, hts, hK, hZ, hN, hbs⟩ := hC
  intro ls H locs hl hR
  unfold aj_step at h0
  dsimp only at h0
  split at h0
  · rename_i hlen
    subst hlen
    unfold aj_anew at h0
    split at h0
    · rename_i ci q0 hlink
      split at h0 <;> first | (cases h0; done) | skip
      rename_i hci
      subst hci
      unfold aj_newa at h0
      split at h0
      · rename_i n rest
        split at h0
        · rename_i hq
          obtain ⟨-, hn, hbn⟩ := hq
          cases h0
          obtain ⟨qq, hqq, hw, -, -⟩ := (hlk _ _ _ _ _ hlink).2.2.2.2.2.2.2.2.2.2 rfl
          have hqn : qq.1 = rn := by
            have z := (hcls _ _ hqq).1
            rw [hrc] at z
            cases z
            exact hrn
          rw [hqn] at hw
          refine va_newq (C := rn) (N' := n.toNatClampNeg) hx hb hown (hts _ hw) hK.2 hK.1 hR.2.1 (aj_D h) hR.2.2 (fun q hq => Nat.le_trans hbs hq) hn rfl (by omega) hc1 hs1 hdg (fun q cA1 H1 z0 z1 z2 z3 => aj_W_new (en := .inl (5, aj_blank 5 n.toNatClampNeg)) hR.1 ?_ hl z1 z2 z3 k)
          obtain ⟨_, _, _, _, _, e1⟩ := (z0.2 6 (cA1, .object rn) (by rw [List.getElem?_append_right (by simp)]; simp)).2
          obtain ⟨_, _, _, _, _, e2⟩ := (hK.1.2 5 (cA 5, .object rn) (by rfl)).2
          have e3 : cA 5 = cA1 := Option.some.inj (e2.symm.trans e1)
          show Sum.inl (cA 5, aj_ca _ (aj_blank 5 n.toNatClampNeg)) = Sum.inl (cA1, _)
          rw [e3]
          rfl
        · cases h0
      · cases h0
    · cases h0
  · cases h0
theorem aj_s_getstatic (hC : aj_Cx rn D cl cA tb base stA sf nw Ts own cc nL p s m args c) {rc : Nat} {cls : List aj_C} {lk : List aj_L} (hlk : aj_lksOK Ts nw cls mt sf own lk) {ret : Option FieldType} {isI : Bool} {idx len : Nat} (hdg : decode cc pc = .ok (.getstatic idx, len))
    (h0 : aj_step rc cls tb lk nL ret isI (.getstatic idx) len pc lv st h = some (.inl ((pc', lv', st'), h', dc, ds)))
    (k : aj_Nx D cl cA tb.length base stA nL p l e R s m args below meth c Q (cells + dc) (slots + ds) pc' lv' st' h') : aj_Nx D cl cA tb.length base stA nL p l e R s m args below meth c Q cells slots pc lv st h := by
  obtain ⟨hx, hb, -, hown, hts, hK, hZ, hN, hbs⟩ := hC
  intro ls H locs hl hR
  unfold aj_step at h0
  dsimp only at h0
  split at h0
  · rename_i hlen
    subst hlen
    unfold aj_gets at h0
    split at h0
    · rename_i sid b0 v0 hlink
      split at h0
      · rename_i hsid
        have go := aj_go_k h0 k ls H locs hl hR
        obtain ⟨q, hq, hw⟩ := (hlk _ _ _ _ _ hlink).2.2.2.2.2.2.2.1 rfl
        rw [List.map_cons, aj_c_sta hsid] at go
        exact va_gets hx hb (hZ.1 sid q hq) hR.2.2 hown (hts _ hw) (fun _ z => z) hdg go
      · cases h0
    · cases h0
  · cases h0
theorem aj_s_ldc (hC : aj_Cx rn D cl cA tb base stA sf nw Ts own cc nL p s m args c) {rc : Nat} {cls : List aj_C} {lk : List aj_L} (hlk : aj_lksOK Ts nw cls mt sf own lk) {ret : Option FieldType} {isI : Bool} {idx len : Nat} {i : Instr} (hi : i = .ldc idx ∨ i = .ldc_w idx ∨ i = .ldc2_w idx) (hdg : decode cc pc = .ok (i, len))
    (h0 : aj_step rc cls tb lk nL ret isI i len pc lv st h = some (.inl ((pc', lv', st'), h', dc, ds)))
    (k : aj_Nx D cl cA tb.length base stA nL p l e R s m args below meth c Q (cells + dc) (slots + ds) pc' lv' st' h') : aj_Nx D cl cA tb.length base stA nL p l e R s m args below meth c Q cells slots pc lv st h := by
  obtain ⟨hx, hb, -, hown, hts, hK, hZ, hN, hbs⟩ := hC
  intro ls H locs hl hR
  rcases hi with rfl | rfl | rfl
  · unfold aj_step at h0
    dsimp only at h0
    split at h0
    · rename_i hlen
      subst hlen
      unfold aj_ldc at h0
      split at h0
      · rename_i a0 b0 v0 hlink
        exact lv_ldc hx hb hown (hts _ ((hlk _ _ _ _ _ hlink).2.2.2.2.2.2.2.2.1 rfl)) hdg (aj_go_k h0 k ls H locs hl hR)
      · rename_i hlink
        rw [if_neg (by decide)] at h0
        cases h0
      · cases h0
    · cases h0
  · unfold aj_step at h0
    dsimp only at h0
    split at h0
    · rename_i hlen
      subst hlen
      split at h0
      · rename_i q0 hlink
        unfold aj_ldc at h0
        rw [hlink] at h0
        exact lv_ldcw hx hb hown (hts _ ((hlk _ _ _ _ _ hlink).2.2.2.2.2.2.2.2.1 rfl)) hdg (aj_go_k h0 k ls H locs hl hR)
      · cases h0
    · cases h0
  · unfold aj_step at h0
    dsimp only at h0
    split at h0
    · rename_i hlen
      subst hlen
      split at h0
      · rename_i q0 hlink
        unfold aj_ldc at h0
        rw [hlink] at h0
        exact lv_ldc2 hx hb hown (hts _ ((hlk _ _ _ _ _ hlink).2.2.2.2.2.2.2.2.2.1 rfl)) hdg (aj_go_k h0 k ls H locs hl hR)
      · cases h0
    · cases h0
end AJMAKE
end
section
/-! which instructions call, which end -/
def aj_nx (o : Option aj_Out) : Prop := ∀ x, o ≠ some (.inr x)
theorem aj_nx_none : aj_nx none := fun _ h => by cases h
theorem aj_nx_inl (y : aj_Fr × aj_H × Nat × Nat) : aj_nx (some (.inl y)) := fun _ h => by cases h
theorem aj_nx_go (pc : Nat) (lv : aj_V) (st : List Value) (h : aj_H) : aj_nx (aj_go pc lv st h) := aj_nx_inl _
theorem aj_nx_ite {c : Prop} [Decidable c] {a b : Option aj_Out} (ha : aj_nx a) (hb : aj_nx b) : aj_nx (if c then a else b) := by
  by_cases hc : c
  · rw [if_pos hc]; exact ha
  · rw [if_neg hc]; exact hb
theorem aj_jump_nx (pc : Nat) (off : Int) (lv : aj_V) (st : List Value) (h : aj_H) : aj_nx (aj_jump pc off lv st h) := by
  unfold aj_jump
  repeat' (first | exact aj_nx_none | exact aj_nx_inl _ | exact aj_nx_go _ _ _ _ | split)
theorem aj_load_nx (pc : Nat) (lv : aj_V) (st : List Value) (h : aj_H) (len i kind : Nat) : aj_nx (aj_load pc lv st h len i kind) := by
  unfold aj_load
  repeat' (first | exact aj_nx_none | exact aj_nx_inl _ | exact aj_nx_go _ _ _ _ | split)
theorem aj_store_nx (nL pc : Nat) (lv : aj_V) (st : List Value) (h : aj_H) (len i kind : Nat) : aj_nx (aj_store nL pc lv st h len i kind) := by
  unfold aj_store
  repeat' (first | exact aj_nx_none | exact aj_nx_inl _ | exact aj_nx_go _ _ _ _ | split)
theorem aj_ii_nx (f : Int32 → Int32 → Int32) (pc : Nat) (lv : aj_V) (st : List Value) (h : aj_H) : aj_nx (aj_ii f pc lv st h) := by
  unfold aj_ii
  repeat' (first | exact aj_nx_none | exact aj_nx_inl _ | exact aj_nx_go _ _ _ _ | split)
theorem aj_iz_nx (f : Int32 → Int32 → Int32) (pc : Nat) (lv : aj_V) (st : List Value) (h : aj_H) : aj_nx (aj_iz f pc lv st h) := by
  unfold aj_iz
  repeat' (first | exact aj_nx_none | exact aj_nx_inl _ | exact aj_nx_go _ _ _ _ | split)
theorem aj_ll_nx (f : Int64 → Int64 → Int64) (pc : Nat) (lv : aj_V) (st : List Value) (h : aj_H) : aj_nx (aj_ll f pc lv st h) := by
  unfold aj_ll
  repeat' (first | exact aj_nx_none | exact aj_nx_inl _ | exact aj_nx_go _ _ _ _ | split)
theorem aj_br_nx (cd : ClassFile.Cond) (a b : Int32) (pc : Nat) (off : Int) (lv : aj_V) (st : List Value) (h : aj_H) : aj_nx (aj_br cd a b pc off lv st h) := by
  unfold aj_br
  repeat' (first | exact aj_nx_none | exact aj_nx_inl _ | exact aj_nx_go _ _ _ _ | split)
theorem aj_ald_nx (k : Nat) (tb : aj_T) (pc : Nat) (lv : aj_V) (st : List Value) (h : aj_H) : aj_nx (aj_ald k tb pc lv st h) := by
  unfold aj_ald
  repeat' (first | exact aj_nx_none | exact aj_nx_inl _ | exact aj_nx_go _ _ _ _ | split)
theorem aj_bld_nx (tb : aj_T) (pc : Nat) (lv : aj_V) (st : List Value) (h : aj_H) : aj_nx (aj_bld tb pc lv st h) := by
  unfold aj_bld
  repeat' (first | exact aj_nx_none | exact aj_nx_inl _ | exact aj_nx_go _ _ _ _ | exact aj_ald_nx _ _ _ _ _ _ | split)
theorem aj_lld_nx (tb : aj_T) (pc : Nat) (lv : aj_V) (st : List Value) (h : aj_H) : aj_nx (aj_lld tb pc lv st h) := by
  unfold aj_lld
  repeat' (first | exact aj_nx_none | exact aj_nx_inl _ | exact aj_nx_go _ _ _ _ | split)
theorem aj_qld_nx (tb : aj_T) (pc : Nat) (lv : aj_V) (st : List Value) (h : aj_H) : aj_nx (aj_qld tb pc lv st h) := by
  unfold aj_qld
  repeat' (first | exact aj_nx_none | exact aj_nx_inl _ | exact aj_nx_go _ _ _ _ | split)
theorem aj_alen_nx (tb : aj_T) (pc : Nat) (lv : aj_V) (st : List Value) (h : aj_H) : aj_nx (aj_alen tb pc lv st h) := by
  unfold aj_alen
  repeat' (first | exact aj_nx_none | exact aj_nx_inl _ | exact aj_nx_go _ _ _ _ | split)
theorem aj_ast_nx (k : Nat) (tb : aj_T) (pc : Nat) (lv : aj_V) (st : List Value) (h : aj_H) : aj_nx (aj_ast k tb pc lv st h) := by
  unfold aj_ast
  repeat' (first | exact aj_nx_none | exact aj_nx_inl _ | exact aj_nx_go _ _ _ _ | split)
theorem aj_bst_nx (tb : aj_T) (pc : Nat) (lv : aj_V) (st : List Value) (h : aj_H) : aj_nx (aj_bst tb pc lv st h) := by
  unfold aj_bst
  repeat' (first | exact aj_nx_none | exact aj_nx_inl _ | exact aj_nx_go _ _ _ _ | exact aj_ast_nx _ _ _ _ _ _ | split)
theorem aj_lst_nx (tb : aj_T) (pc : Nat) (lv : aj_V) (st : List Value) (h : aj_H) : aj_nx (aj_lst tb pc lv st h) := by
  unfold aj_lst
  repeat' (first | exact aj_nx_none | exact aj_nx_inl _ | exact aj_nx_go _ _ _ _ | split)
theorem aj_qst_nx (rc : Nat) (tb : aj_T) (pc : Nat) (lv : aj_V) (st : List Value) (h : aj_H) : aj_nx (aj_qst rc tb pc lv st h) := by
  unfold aj_qst
  repeat' (first | exact aj_nx_none | exact aj_nx_inl _ | exact aj_nx_go _ _ _ _ | split)
theorem aj_getf_nx (tb : aj_T) (lk : List aj_L) (pc idx : Nat) (lv : aj_V) (st : List Value) (h : aj_H) : aj_nx (aj_getf tb lk pc idx lv st h) := by
  unfold aj_getf
  repeat' (first | exact aj_nx_none | exact aj_nx_inl _ | exact aj_nx_go _ _ _ _ | split)
theorem aj_putf_nx (cls : List aj_C) (tb : aj_T) (lk : List aj_L) (isI : Bool) (pc idx : Nat) (lv : aj_V) (st : List Value) (h : aj_H) : aj_nx (aj_putf cls tb lk isI pc idx lv st h) := by
  unfold aj_putf
  repeat' (first | exact aj_nx_none | exact aj_nx_inl _ | exact aj_nx_go _ _ _ _ | split)
theorem aj_gets_nx (tb : aj_T) (lk : List aj_L) (pc idx : Nat) (lv : aj_V) (st : List Value) (h : aj_H) : aj_nx (aj_gets tb lk pc idx lv st h) := by
  unfold aj_gets
  repeat' (first | exact aj_nx_none | exact aj_nx_inl _ | exact aj_nx_go _ _ _ _ | split)
theorem aj_new_nx (cls : List aj_C) (tb : aj_T) (lk : List aj_L) (pc idx : Nat) (lv : aj_V) (st : List Value) (h : aj_H) : aj_nx (aj_new cls tb lk pc idx lv st h) := by
  unfold aj_new
  repeat' (first | exact aj_nx_none | exact aj_nx_inl _ | exact aj_nx_go _ _ _ _ | split)
theorem aj_newa_nx (tb : aj_T) (k len pc : Nat) (lv : aj_V) (st : List Value) (h : aj_H) : aj_nx (aj_newa tb k len pc lv st h) := by
  unfold aj_newa
  repeat' (first | exact aj_nx_none | exact aj_nx_inl _ | exact aj_nx_go _ _ _ _ | split)
theorem aj_anew_nx (rc : Nat) (tb : aj_T) (lk : List aj_L) (pc idx : Nat) (lv : aj_V) (st : List Value) (h : aj_H) : aj_nx (aj_anew rc tb lk pc idx lv st h) := by
  unfold aj_anew
  repeat' (first | exact aj_nx_none | exact aj_nx_inl _ | exact aj_nx_go _ _ _ _ | exact aj_newa_nx _ _ _ _ _ _ _ | split)
theorem aj_ldc_nx (lk : List aj_L) (len pc idx : Nat) (lv : aj_V) (st : List Value) (h : aj_H) : aj_nx (aj_ldc lk len pc idx lv st h) := by
  unfold aj_ldc
  repeat' (first | exact aj_nx_none | exact aj_nx_inl _ | exact aj_nx_go _ _ _ _ | split)
theorem aj_step_nx (rc : Nat) (cls : List aj_C) (tb : aj_T) (lk : List aj_L) (nL : Nat) (ret : Option FieldType) (isI : Bool) (i : Instr) (len pc : Nat) (lv : aj_V) (st : List Value) (h : aj_H)
    (hi : match i with | .invokevirtual _ | .invokespecial _ | .invokestatic _ | .ireturn | .lreturn | .areturn | .return_ => False | _ => True) : aj_nx (aj_step rc cls tb lk nL ret isI i len pc lv st h) := by
  unfold aj_step
  cases i <;> first | exact False.elim hi | exact aj_nx_none | skip
  all_goals dsimp only
  all_goals repeat' (first | exact aj_nx_none | exact aj_nx_go _ _ _ _ | exact aj_jump_nx _ _ _ _ _ | exact aj_load_nx _ _ _ _ _ _ _ | exact aj_store_nx _ _ _ _ _ _ _ _ | exact aj_ii_nx _ _ _ _ _ | exact aj_iz_nx _ _ _ _ _ | exact aj_ll_nx _ _ _ _ _ | exact aj_br_nx _ _ _ _ _ _ _ _ | exact aj_ald_nx _ _ _ _ _ _ | exact aj_bld_nx _ _ _ _ _ | exact aj_lld_nx _ _ _ _ _ | exact aj_qld_nx _ _ _ _ _ | exact aj_alen_nx _ _ _ _ _ | exact aj_ast_nx _ _ _ _ _ _ | exact aj_bst_nx _ _ _ _ _ | exact aj_lst_nx _ _ _ _ _ | exact aj_qst_nx _ _ _ _ _ _ | exact aj_getf_nx _ _ _ _ _ _ _ | exact aj_putf_nx _ _ _ _ _ _ _ _ _ | exact aj_gets_nx _ _ _ _ _ _ _ | exact aj_new_nx _ _ _ _ _ _ _ _ | exact aj_newa_nx _ _ _ _ _ _ _ | exact aj_anew_nx _ _ _ _ _ _ _ _ | exact aj_ldc_nx _ _ _ _ _ _ _ | split)
theorem aj_ret_nc (ret : Option FieldType) (st : List Value) (k : Nat) (x : Nat × Nat × List Value × aj_Fr) : aj_ret ret st k ≠ some (.inr (.inl x)) := by
  intro h
  unfold aj_ret at h
  repeat' (first | (cases h; done) | split at h)
theorem aj_call_nr (lo hi : Nat) (tb : aj_T) (lk : List aj_L) (pc idx : Nat) (lv : aj_V) (st : List Value) (h : aj_H) (x : Option Value) : aj_call lo hi tb lk pc idx lv st h ≠ some (.inr (.inr x)) := by
  intro h
  unfold aj_call at h
  repeat' (first | (cases h; done) | split at h)
theorem aj_call_nl (lo hi : Nat) (tb : aj_T) (lk : List aj_L) (pc idx : Nat) (lv : aj_V) (st : List Value) (h : aj_H) (x : aj_Fr × aj_H × Nat × Nat) : aj_call lo hi tb lk pc idx lv st h ≠ some (.inl x) := by
  intro h
  unfold aj_call at h
  repeat' (first | (cases h; done) | split at h)
theorem aj_ret_nl (ret : Option FieldType) (st : List Value) (k : Nat) (x : aj_Fr × aj_H × Nat × Nat) : aj_ret ret st k ≠ some (.inl x) := by
  intro h
  unfold aj_ret at h
  repeat' (first | (cases h; done) | split at h)
theorem aj_is_call {rc : Nat} {cls : List aj_C} {tb : aj_T} {lk : List aj_L} {nL : Nat} {ret : Option FieldType} {isI : Bool} {i : Instr} {len pc : Nat} {lv : aj_V} {st : List Value} {h : aj_H} {x : Nat × Nat × List Value × aj_Fr}
    (h0 : aj_step rc cls tb lk nL ret isI i len pc lv st h = some (.inr (.inl x))) : ∃ (idx lo hi : Nat), len = 3 ∧ (i = .invokevirtual idx ∧ lo = 2 ∧ hi = 2 ∨ i = .invokespecial idx ∧ lo = 3 ∧ hi = 5 ∨ i = .invokestatic idx ∧ lo = 6 ∧ hi = 6) ∧ aj_call lo hi tb lk pc idx lv st h = some (.inr (.inl x)) := by
  cases i <;> first | exact absurd h0 (aj_step_nx _ _ _ _ _ _ _ _ _ _ _ _ _ trivial _) | skip
  all_goals unfold aj_step at h0
  all_goals dsimp only at h0
  all_goals (split at h0 <;> first | (cases h0; done) | skip)
  all_goals first
    | exact absurd h0 (aj_ret_nc _ _ _ _)
    | (rename_i idx hlen; subst hlen; exact ⟨idx, 2, 2, rfl, Or.inl ⟨rfl, rfl, rfl⟩, h0⟩)
    | (rename_i idx hlen; subst hlen; exact ⟨idx, 3, 5, rfl, Or.inr (Or.inl ⟨rfl, rfl, rfl⟩), h0⟩)
    | (rename_i idx hlen; subst hlen; exact ⟨idx, 6, 6, rfl, Or.inr (Or.inr ⟨rfl, rfl, rfl⟩), h0⟩)
theorem aj_is_ret {rc : Nat} {cls : List aj_C} {tb : aj_T} {lk : List aj_L} {nL : Nat} {ret : Option FieldType} {isI : Bool} {i : Instr} {len pc : Nat} {lv : aj_V} {st : List Value} {h : aj_H} {x : Option Value}
    (h0 : aj_step rc cls tb lk nL ret isI i len pc lv st h = some (.inr (.inr x))) : ∃ k, len = 1 ∧ (i = .ireturn ∧ k = 0 ∨ i = .lreturn ∧ k = 1 ∨ i = .areturn ∧ k = 2 ∨ i = .return_ ∧ k = 3) ∧ aj_ret ret st k = some (.inr (.inr x)) := by
  cases i <;> first | exact absurd h0 (aj_step_nx _ _ _ _ _ _ _ _ _ _ _ _ _ trivial _) | skip
  all_goals unfold aj_step at h0
  all_goals dsimp only at h0
  all_goals (split at h0 <;> first | (cases h0; done) | skip)
  all_goals first
    | exact absurd h0 (aj_call_nr _ _ _ _ _ _ _ _ _ _)
    | (rename_i hlen; subst hlen; exact ⟨0, rfl, Or.inl ⟨rfl, rfl⟩, h0⟩)
    | (rename_i hlen; subst hlen; exact ⟨1, rfl, Or.inr (Or.inl ⟨rfl, rfl⟩), h0⟩)
    | (rename_i hlen; subst hlen; exact ⟨2, rfl, Or.inr (Or.inr (Or.inl ⟨rfl, rfl⟩)), h0⟩)
    | (rename_i hlen; subst hlen; exact ⟨3, rfl, Or.inr (Or.inr (Or.inr ⟨rfl, rfl⟩)), h0⟩)
end
section
def aj_Rep (rn : String) (D : va_G) (cl : List vw_C) (cA : Nat → ClassId) (tb : aj_T) (base : Nat) (stA : Nat → Nat) (sf : List (String × String × String)) (nw : List Cond) (U : State) (h : aj_H) : Prop := U.heap.size = base + h.length ∧ va_P D cl (aj_ws (aj_ad tb.length base stA) cA base h) U.heap ∧ aj_K rn D cl cA U ∧ aj_Z rn tb stA sf (fun q => base ≤ q) U U.heap ∧ aj_N nw U
def aj_Pc (rn : String) (D : va_G) (cl : List vw_C) (cA : Nat → ClassId) (tb : aj_T) (base : Nat) (stA : Nat → Nat) (sf : List (String × String × String)) (nw : List Cond) (as : List Value) (h : aj_H) : Array Value → State → Prop := fun v U => v = (as.map (aj_c (aj_ad tb.length base stA))).toArray ∧ aj_Rep rn D cl cA tb base stA sf nw U h
def aj_Qc (rn : String) (D : va_G) (cl : List vw_C) (cA : Nat → ClassId) (tb : aj_T) (base : Nat) (stA : Nat → Nat) (sf : List (String × String × String)) (nw : List Cond) (r : Option Value) (h : aj_H) : Array Value → State → Outcome → State → Prop := fun _ st o t => o = .returned (r.map (aj_c (aj_ad tb.length base stA))) ∧ aj_Rep rn D cl cA tb base stA sf nw t h ∧ va_F (fun q => base ≤ q) st t
def aj_rm (d mc ms : Nat) : Room := { frames := d, cells := mc, slots := ms, locals := 40 * d }
def aj_Met (rn : String) (D : va_G) (cl : List vw_C) (cA : Nat → ClassId) (tb : aj_T) (base : Nat) (stA : Nat → Nat) (sf : List (String × String × String)) (nw Ts : List Cond) (mt : List aj_M) (l : Launch) (d mi : Nat) (as : List Value) (h : aj_H) (mc ms : Nat) (r : Option Value) (h' : aj_H) : Prop :=
  ∀ mm : aj_M, mt[mi]? = some mm → Met l mm.1 (Cond.code mm.1 mm.2.1 mm.2.2.1 mm.2.2.2.1 :: Ts) (aj_rm d mc ms) (aj_Pc rn D cl cA tb base stA sf nw as h) (aj_Qc rn D cl cA tb base stA sf nw r h') mc ms (fun q => base ≤ q)
def aj_nwOK (nw : List Cond) : Prop := ∀ w ∈ nw, (∃ (a : String) (i : Nat) (b n d h : String), w = .fieldLinkNest a i b n d h) ∨ (∃ (a : String) (i : Nat) (x : MethodName) (h : String), w = .methodLinkNest a i x h)
def aj_mtOK (Ts nw : List Cond) (cls : List aj_C) (mt : List aj_M) (sf : List (String × String × String)) : Prop := ∀ (mi : Nat) (mm : aj_M), mt[mi]? = some mm → plainName mm.1.cls = true ∧ mm.2.2.1 ≤ 21 ∧ Cond.code mm.1 mm.2.1 mm.2.2.1 mm.2.2.2.1 ∈ Ts ∧ (mm.1.cls ≠ "java/lang/invoke/MethodHandle" ∧ mm.1.cls ≠ "java/lang/invoke/VarHandle") ∧ (parseMethodDescriptor mm.1.desc).map (fun d => d.parameters.length) = some mm.2.2.2.2.1 ∧ aj_lksOK Ts nw cls mt sf mm.1.cls mm.2.2.2.2.2.1
def aj_TsOK (Ts : List Cond) : Prop := ∀ w ∈ Ts, (w.onTables && w.keeps) = true ∨ ∃ ty, w = .arrayClass ty
section AJCALL
variable {rn : String} {D : va_G} {cl : List vw_C} {cA : Nat → ClassId} {tb : aj_T} {base : Nat} {stA : Nat → Nat} {sf : List (String × String × String)} {nw Ts : List Cond} {own : String} {cc : ByteArray} {nL S : Nat} {mt : List aj_M}
variable {p : Program} {l : Launch} {e : Env} {R : Room} {s : State} {m : MethodId} {args : Array Value} {below : List Frame} {meth : Method} {c : Code} {Q : State → Prop} {cells slots pc pc' dc ds : Nat} {lv lv' : aj_V} {st st' : List Value} {h h' : aj_H}
theorem aj_K_moved {u U : State} (hvm : u.vm.Alike U.vm) (hK : aj_K rn D cl cA u) : aj_K rn D cl cA U := ⟨hK.1.moved hvm, hK.2.moved hvm⟩
theorem aj_Z_moved {A : Nat → Prop} {u U : State} {H : Heap} (hvm : u.vm.Alike U.vm) (hZ : aj_Z rn tb stA sf A u H) : aj_Z rn tb stA sf A U H := ⟨fun i q hq => (hZ.1 i q hq).moved hvm, fun i k x hx => (hZ.2 i k x hx).moved hvm⟩
theorem aj_Z_kept {A : Nat → Prop} {U : State} {H H1 : Heap} (hZ : aj_Z rn tb stA sf A U H) (hq : ∀ a : Nat, a < H.size → ¬ A a → H1[a]? = H[a]?) : aj_Z rn tb stA sf A U H1 := ⟨fun i q h => (hZ.1 i q h).kept hq, fun i k x hx => (hZ.2 i k x hx).kept hq⟩
theorem aj_N_warm (hnw : aj_nwOK nw) {s U : State} (hW : s.WarmedH U.vm) (hN : aj_N nw s) : aj_N nw U := by
  intro w hw
  rcases hnw w hw with ⟨a, i, b, n, d, h, rfl⟩ | ⟨a, i, x, h, rfl⟩
  · exact va_Nw.warmF hW (hN _ hw)
  · exact va_Nw.warmM hW (hN _ hw)
theorem aj_size (hR : s.heap.size + cells = base + h.length) {H : Heap} {locs : List Loc} (hP : va_P D cl (aj_ws (aj_ad S base stA) cA base h) H) (hS : va_S (fun q => base ≤ q) s.heap H locs) (hbs : base ≤ s.heap.size) {T : State} (hT : T.heap = H) (X : Stand p l e R s m args below meth c T locs cells slots) : H.size = base + h.length := by
  have h1 := X.heapSize
  rw [hT] at h1
  have h2 := hS.1
  rcases Nat.eq_zero_or_pos h.length with h3 | h3
  · omega
  · have h4 : h[h.length - 1]? = some h[h.length - 1] := List.getElem?_eq_getElem (by omega)
    have h5 := (hP _ _ (aj_ws_get h4)).lt
    dsimp only at h5
    omega
theorem aj_Rep_of (hC : aj_Cx rn D cl cA tb base stA sf nw Ts own cc nL p s m args c) (hnw : aj_nwOK nw) {H : Heap} {locs : List Loc} (hsz : H.size = base + h.length) (hR : aj_Rw D cl cA tb.length base stA s cells h H locs) {U : State} (hU : U.heap = H) (hW : s.WarmedH U.vm) : aj_Rep rn D cl cA tb base stA sf nw U h := by
  obtain ⟨hx, hb, -, hown, hts, hK, hZ, hN, hbs⟩ := hC
  refine ⟨by rw [hU]; exact hsz, by rw [hU]; exact hR.2.1, aj_K_moved hW.alike hK, ?_, aj_N_warm hnw hW hN⟩
  rw [hU]
  exact aj_Z_kept (aj_Z_moved hW.alike hZ) hR.2.2.2.1
theorem aj_onT (hnw : aj_nwOK nw) {w : Cond} (hw : w ∈ nw) : w.onTables = true := by
  rcases hnw w hw with ⟨a, i, b, n, d, h, rfl⟩ | ⟨a, i, x, h, rfl⟩ <;> rfl
theorem aj_blind (hnw : aj_nwOK nw) (as : List Value) (h : aj_H) : FrameBlind (aj_Pc rn D cl cA tb base stA sf nw as h) := by
  intro a U g mk ⟨h1, h2, h3, h4, h5, h6⟩
  exact ⟨h1, h2, h3, aj_K_moved (u := U) (U := U.calling g mk a) (Vm.Alike.refl U.vm) h4, aj_Z_moved (u := U) (U := U.calling g mk a) (Vm.Alike.refl U.vm) h5, fun w hw => va_Nw.same (u := U) (U := U.calling g mk a) (aj_onT hnw hw) rfl (h6 w hw)⟩
theorem aj_sum_c (ad : Nat → Nat) (st : List Value) : ((st.map (aj_c ad)).map fun v => v.category).sum = aj_sum st := by
  unfold aj_sum
  rw [List.map_map]
  congr 1
  apply List.map_congr_left
  intro v _
  exact aj_c_cat ad v
/-- behind a call -/
theorem aj_after {H : Heap} {locs : List Loc} {ls : Array Slot} {st0 rest : List Value} {mc' ms' : Nat} {r' : Option Value} {h1 : aj_H} {a : Array Value} (hl : lv_has ls nL (aj_cv (aj_ad tb.length base stA) lv)) (hR : aj_Rw D cl cA tb.length base stA s cells h H locs) (hlen : h1.length = h.length + mc')
    (hr : va_Run p l e R s m args below meth c H locs cells slots mc' ms' (F0 m pc ls st0) (rest.map (aj_c (aj_ad tb.length base stA))) (aj_Qc rn D cl cA tb base stA sf nw r' h1 a) (fun q => base ≤ q))
    (k : aj_Nx D cl cA tb.length base stA nL p l e R s m args below meth c Q (cells + mc') (slots + ms') (pc + 3) lv (r'.toList ++ rest) h1) : W p l e R s m args below meth c H locs cells slots Q (F0 m pc ls st0) := by
  intro T hT X
  obtain ⟨v, st₀, t, T', L, h0, X', hL, e1, e2, ⟨ho, hRep, hF⟩, st⟩ := hr T hT X
  have hv : v = r'.map (aj_c (aj_ad tb.length base stA)) := Outcome.returned.inj ho
  subst hv
  obtain ⟨hsz, hP, hK1, hZ1, hN1⟩ := hRep
  obtain ⟨f1, f2⟩ := hF
  rw [h0] at f1 f2
  have hS : va_S (fun q => base ≤ q) s.heap T'.heap (locs ++ L) := by
    refine ⟨Nat.le_trans hR.2.2.1 (by rw [e1]; exact f1), fun q h1 h2 => ?_, fun q hq => ?_⟩
    · rw [e1, f2 q (Nat.lt_of_lt_of_le h1 hR.2.2.1) h2]
      exact hR.2.2.2.1 q h1 h2
    · rcases List.mem_append.mp hq with z | z
      · exact hR.2.2.2.2 q z
      · exact hL q z
  obtain ⟨t2, a1, b1⟩ := k ls T'.heap (locs ++ L) hl ⟨by have := hR.1; omega, by rw [e1]; exact hP, hS⟩ T' rfl X'
  refine ⟨t2, st t2 ?_, b1⟩
  have e3 : (r'.map (aj_c (aj_ad tb.length base stA))).toList ++ rest.map (aj_c (aj_ad tb.length base stA)) = (r'.toList ++ rest).map (aj_c (aj_ad tb.length base stA)) := by cases r' <;> rfl
  rw [e3]
  exact a1
/-- the calls -/
theorem aj_s_call (hC : aj_Cx rn D cl cA tb base stA sf nw Ts own cc nL p s m args c) {rc : Nat} {cls : List aj_C} (hcls : aj_clsOK Ts cl cls) (hmt : aj_mtOK Ts nw cls mt sf) (hnw : aj_nwOK nw) (hTs : aj_TsOK Ts) {lk : List aj_L} (hlk : aj_lksOK Ts nw cls mt sf own lk) {ret : Option FieldType} {isI : Bool} {i : Instr} {len : Nat} {kind mi : Nat} {as : List Value} (hdg : decode cc pc = .ok (i, len)) {d : Nat} (hRd : d + 1 ≤ R.frames ∧ 40 * d + 40 ≤ R.locals)
    (h0 : aj_step rc cls tb lk nL ret isI i len pc lv st h = some (.inr (.inl (kind, mi, as, (pc', lv', st')))))
    (k5 : kind = 5 → aj_Nx D cl cA tb.length base stA nL p l e R s m args below meth c Q cells slots pc' lv' st' h)
    (k : kind ≠ 5 → ∃ (mc' ms' : Nat) (r' : Option Value) (h1 : aj_H), aj_Met rn D cl cA tb base stA sf nw Ts mt l d mi as h mc' ms' r' h1 ∧ h1.length = h.length + mc' ∧ cells + mc' ≤ R.cells ∧ slots + ms' ≤ R.slots ∧ aj_Nx D cl cA tb.length base stA nL p l e R s m args below meth c Q (cells + mc') (slots + ms') pc' lv' (r'.toList ++ st') h1) :
    aj_Nx D cl cA tb.length base stA nL p l e R s m args below meth c Q cells slots pc lv st h := by
  have hC0 := hC
  obtain ⟨hx, hb, hml, hown, hts, hK, hZ, hN, hbs⟩ := hC
  have hGood : ∀ mm : aj_M, Cond.code mm.1 mm.2.1 mm.2.2.1 mm.2.2.2.1 ∈ Ts → GoodIn Ts (Cond.code mm.1 mm.2.1 mm.2.2.1 mm.2.2.2.1 :: Ts) := fun mm hmm w hw => by
    rcases List.mem_cons.mp hw with rfl | hw
    · exact ⟨hmm, hTs _ hmm⟩
    · exact ⟨hw, hTs _ hw⟩
  intro ls H locs hl hR
  obtain ⟨idx, lo, hi, rfl, hi0, hcl⟩ := aj_is_call h0
  unfold aj_call at hcl
  split at hcl
  · rename_i kind0 mi0 n v hlink
    have hok := hlk _ _ _ _ _ hlink
    split at hcl
    · rename_i hlohi
      split at hcl
      · rename_i hk6
        subst hk6
        split at hcl
        · rename_i hn
          cases hcl
          have hi6 : i = .invokestatic idx := by
            rcases hi0 with ⟨-, rfl, rfl⟩ | ⟨-, rfl, rfl⟩ | ⟨h1, -, -⟩
            · exact absurd hlohi (by omega)
            · exact absurd hlohi (by omega)
            · exact h1
          subst hi6
          obtain ⟨mm, hmm, hb0, w1, w2, w3⟩ := hok.2.2.2.2.2.2.1 rfl
          obtain ⟨mc', ms', r', h1, hM, hlen, hc1, hs1, kk⟩ := k (by decide)
          obtain ⟨g1, g2, g3, g4, g5, g6⟩ := hmt _ _ hmm
          intro T hT X
          have hsz := aj_size hR.1 hR.2.1 hR.2.2 hbs hT X
          have hst : st.map (aj_c (aj_ad tb.length base stA)) = (((st.take n).reverse).map (aj_c (aj_ad tb.length base stA))).reverse ++ (st.drop n).map (aj_c (aj_ad tb.length base stA)) := by
            rw [List.map_reverse, List.reverse_reverse, ← List.map_append, List.take_append_drop]
          refine aj_after hl hR hlen (va_runS (As := ((st.take n).reverse).map (aj_c (aj_ad tb.length base stA))) (rest := (st.drop n).map (aj_c (aj_ad tb.length base stA))) (Ts := Ts) ⟨hx, hb, hml, hown, hts⟩ (hM mm hmm) ⟨callB_of n hts (hGood mm g3) rfl rfl rfl (hts _ w3) (hts _ w1) ⟨g4.1, g4.2, by rw [g5, hb0]⟩ ⟨hRd.1, by have := hRd.2; show 8 + (mm.2.2.1 + 11) + 40 * d ≤ R.locals; omega⟩, hts _ w2⟩ ⟨aj_blind hnw _ _, fun U hU hW => ⟨rfl, aj_Rep_of hC0 hnw hsz hR hU hW⟩⟩ rfl ?_ hl.1 hst ?_ hdg ⟨hc1, hs1⟩) kk T hT X
          · rw [List.length_map, List.length_reverse, List.length_take]
            omega
          · exact lv_room (by rw [aj_sum_c]; exact hn.2)
        · cases hcl
      · rename_i hk6
        split at hcl
        · rename_i b rest hdrop
          split at hcl
          · rename_i hq
            cases hcl
            have hnl : n < st.length := by
              have z := congrArg List.length hdrop
              simp only [List.length_drop, List.length_cons] at z
              omega
            have hAs : (((st.take n).reverse).map (aj_c (aj_ad tb.length base stA))).length = n := by
              rw [List.length_map, List.length_reverse, List.length_take]
              omega
            have hst : st.map (aj_c (aj_ad tb.length base stA)) = (((st.take n).reverse).map (aj_c (aj_ad tb.length base stA))).reverse ++ .ref (aj_ad tb.length base stA b) :: st'.map (aj_c (aj_ad tb.length base stA)) := by
              have z : (.ref (aj_ad tb.length base stA b) :: st'.map (aj_c (aj_ad tb.length base stA)) : List Value) = (st.drop n).map (aj_c (aj_ad tb.length base stA)) := by rw [hdrop]; rfl
              rw [z, List.map_reverse, List.reverse_reverse, ← List.map_append, List.take_append_drop]
            rcases hi0 with ⟨rfl, rfl, rfl⟩ | ⟨rfl, rfl, rfl⟩ | ⟨rfl, rfl, rfl⟩
            · have hk2 : kind = 2 := by omega
              subst hk2
              obtain ⟨mm, hmm, ⟨cq, hcq, hcn⟩, hb0, w1, w2, w3, w4⟩ := hok.2.2.1 rfl
              obtain ⟨mc', ms', r', h1, hM, hlen, hc1, hs1, kk⟩ := k (by decide)
              obtain ⟨g1, g2, g3, g4, g5, g6⟩ := hmt _ _ hmm
              intro T hT X
              have hsz := aj_size hR.1 hR.2.1 hR.2.2 hbs hT X
              have hrcv := hq.1 rfl
              unfold aj_rcv at hrcv
              split at hrcv
              · rename_i ci fs hobj
                obtain ⟨hb1, hobj⟩ := aj_obj_k hobj
                have hci : ci = v.toNat := by simpa using hrcv
                subst hci
                have hcl1 := (hcls _ _ hcq).1
                have hrv := va_recv hK.1 hR.2.1 hcl1 (aj_ws_get hobj)
                have had : aj_ad tb.length base stA b = base + (b - tb.length) := by simp [aj_ad, hb1]
                rw [← had] at hrv
                rw [hcn] at hrv
                exact aj_after hl hR hlen (va_runV (C := mm.1.cls) (As := ((st.take n).reverse).map (aj_c (aj_ad tb.length base stA))) (rest := st'.map (aj_c (aj_ad tb.length base stA))) (Ts := Ts) ⟨hx, hb, hml, hown, hts⟩ (hM mm hmm) ⟨callB_of n hts (hGood mm g3) rfl rfl rfl (hts _ w4) (hts _ w1) ⟨g4.1, g4.2, by rw [g5, hb0]⟩ ⟨hRd.1, by have := hRd.2; show 8 + (mm.2.2.1 + 11) + 40 * d ≤ R.locals; omega⟩, hts _ w2, hts _ w3⟩ ⟨aj_blind hnw _ _, hrv, fun U hU hW => ⟨rfl, aj_Rep_of hC0 hnw hsz hR hU hW⟩⟩ rfl hAs hl.1 hst (lv_room (by rw [aj_sum_c]; exact hq.2)) hdg ⟨hc1, hs1⟩) kk T hT X
              · cases hrcv
            · rcases (by omega : kind = 3 ∨ kind = 4 ∨ kind = 5) with rfl | rfl | rfl
              · obtain ⟨mm, hmm, hb0, w0, wr, w1, w2, w3⟩ := hok.2.2.2.1 rfl
                obtain ⟨mc', ms', r', h1, hM, hlen, hc1, hs1, kk⟩ := k (by decide)
                obtain ⟨g1, g2, g3, g4, g5, g6⟩ := hmt _ _ hmm
                have hM := hM mm hmm
                rw [wr] at hM g3
                intro T hT X
                have hsz := aj_size hR.1 hR.2.1 hR.2.2 hbs hT X
                exact aj_after hl hR hlen (va_runI (As := ((st.take n).reverse).map (aj_c (aj_ad tb.length base stA))) (rest := st'.map (aj_c (aj_ad tb.length base stA))) (Ts := Ts) ⟨hx, hb, hml, hown, hts⟩ hM ⟨callB_of n hts (by have := hGood mm (by rw [wr]; exact g3); rw [wr] at this; exact this) rfl rfl rfl (hts _ w3) (hts _ w1) ⟨g4.1, g4.2, by rw [g5, hb0]⟩ ⟨hRd.1, by have := hRd.2; show 8 + (mm.2.2.1 + 11) + 40 * d ≤ R.locals; omega⟩, w0, hts _ w2⟩ ⟨aj_blind hnw _ _, fun U hU hW => ⟨rfl, aj_Rep_of hC0 hnw hsz hR hU hW⟩⟩ rfl hAs hl.1 hst (lv_room (by rw [aj_sum_c]; exact hq.2)) hdg ⟨hc1, hs1⟩) kk T hT X
              · obtain ⟨mm, hmm, hb0, w0, wr, ⟨host, w1⟩, w2, w3⟩ := hok.2.2.2.2.1 rfl
                obtain ⟨mc', ms', r', h1, hM, hlen, hc1, hs1, kk⟩ := k (by decide)
                obtain ⟨g1, g2, g3, g4, g5, g6⟩ := hmt _ _ hmm
                have hM := hM mm hmm
                rw [wr] at hM g3
                intro T hT X
                have hsz := aj_size hR.1 hR.2.1 hR.2.2 hbs hT X
                exact aj_after hl hR hlen (va_runIN (host := host) (As := ((st.take n).reverse).map (aj_c (aj_ad tb.length base stA))) (rest := st'.map (aj_c (aj_ad tb.length base stA))) (Ts := Ts) ⟨hx, hb, hml, hown, hts⟩ hM ⟨va_cnB n hts (by have := hGood mm (by rw [wr]; exact g3); rw [wr] at this; exact this) rfl rfl rfl (hN _ w1) (hts _ w3) ⟨g4.1, g4.2, by rw [g5, hb0]⟩ ⟨hRd.1, by have := hRd.2; show 8 + (mm.2.2.1 + 11) + 40 * d ≤ R.locals; omega⟩, w0, hts _ w2⟩ ⟨aj_blind hnw _ _, fun U hU hW => ⟨rfl, aj_Rep_of hC0 hnw hsz hR hU hW⟩⟩ rfl hAs hl.1 hst (lv_room (by rw [aj_sum_c]; exact hq.2)) hdg ⟨hc1, hs1⟩) kk T hT X
              · obtain ⟨hb0, w1, w2, w3⟩ := hok.2.2.2.2.2.1 rfl
                subst hb0
                have hst0 : st.map (aj_c (aj_ad tb.length base stA)) = .ref (aj_ad tb.length base stA b) :: st'.map (aj_c (aj_ad tb.length base stA)) := by
                  rw [hst]
                  rfl
                have hroom : 2 * (F0 m pc ls (st.map (aj_c (aj_ad tb.length base stA)))).monitorRoom + ((st'.map (aj_c (aj_ad tb.length base stA))).map fun v => v.category).sum ≤ 8 := lv_room (by rw [aj_sum_c]; exact hq.2)
                refine W.objInit hx hb hown (hts _ w1) (hts _ w2) (hts _ w3) rfl (by rw [hml]; exact hl.1) hst0 hdg (by have := hRd.1; omega) (by have := hRd.2; omega) ?_
                exact W.eq (g2 := F0 m (pc + 3) ls (st'.map (aj_c (aj_ad tb.length base stA)))) rfl (k5 rfl ls H locs hl hR)
            · exact absurd (by omega : kind = 6) hk6
          · cases hcl
        · cases hcl
    · cases hcl
  · cases hcl
end AJCALL
end
section
section AJRUN
variable {rn : String} {D : va_G} {cl : List vw_C} {cA : Nat → ClassId} {tb : aj_T} {base : Nat} {stA : Nat → Nat} {sf : List (String × String × String)} {nw Ts : List Cond} {own : String} {cc : ByteArray} {nL S : Nat} {mt : List aj_M}
variable {p : Program} {l : Launch} {e : Env} {R : Room} {s : State} {m : MethodId} {args : Array Value} {below : List Frame} {meth : Method} {c : Code} {Q : State → Prop} {cells slots pc pc' dc ds : Nat} {lv lv' : aj_V} {st st' : List Value} {h h' : aj_H}
theorem aj_one (hC : aj_Cx rn D cl cA tb base stA sf nw Ts own cc nL p s m args c) {rc : Nat} {rcl : vw_C} (hrc : cl[rc]? = some rcl) (hrn : rcl.1 = rn) {cls : List aj_C} (hcls : aj_clsOK Ts cl cls) (hA : ∀ k, k < 5 → Cond.arrayClass (aj_ty rn k) ∈ Ts) {lk : List aj_L} (hlk : aj_lksOK Ts nw cls mt sf own lk) {ret : Option FieldType} {isI : Bool} (hI : isI = true → meth.name = "<init>") {i : Instr} {len : Nat} (hdg : decode cc pc = .ok (i, len))
    (h0 : aj_step rc cls tb lk nL ret isI i len pc lv st h = some (.inl ((pc', lv', st'), h', dc, ds))) (hc1 : cells + dc ≤ R.cells) (hs1 : slots + ds ≤ R.slots)
    (k : aj_Nx D cl cA tb.length base stA nL p l e R s m args below meth c Q (cells + dc) (slots + ds) pc' lv' st' h') : aj_Nx D cl cA tb.length base stA nL p l e R s m args below meth c Q cells slots pc lv st h := by
  cases i
  case aaload => exact aj_s_aaload hC hdg h0 k
  case aastore => exact aj_s_aastore hC hrc hrn hdg h0 k
  case aconst_null => exact aj_simple hC hdg h0 trivial k
  case aload => exact aj_simple hC hdg h0 trivial k
  case aload_n => exact aj_simple hC hdg h0 trivial k
  case anewarray => exact aj_s_anewarray hC hrc hrn hcls hlk hdg h0 hc1 hs1 k
  case arraylength => exact aj_s_arraylength hC hdg h0 k
  case astore => exact aj_stores hC hdg h0 trivial k
  case astore_n => exact aj_stores hC hdg h0 trivial k
  case baload => exact aj_s_baload hC hdg h0 k
  case bastore => exact aj_s_bastore hC hdg h0 k
  case bipush => exact aj_simple hC hdg h0 trivial k
  case caload => exact aj_s_caload hC hdg h0 k
  case castore => exact aj_s_castore hC hdg h0 k
  case dup => exact aj_dups hC hdg h0 (Or.inl rfl) k
  case dup2 => exact aj_dups hC hdg h0 (Or.inr (Or.inr rfl)) k
  case getfield => exact aj_s_getfield hC hcls hlk hdg h0 k
  case getstatic => exact aj_s_getstatic hC hlk hdg h0 k
  case goto => exact aj_s_goto hC hdg h0 k
  case i2b => exact aj_s_i2b hC hdg h0 k
  case i2c => exact aj_s_i2c hC hdg h0 k
  case i2l => exact aj_s_i2l hC hdg h0 k
  case iadd => exact aj_arith hC hdg h0 trivial k
  case iaload => exact aj_s_iaload hC hdg h0 k
  case iand => exact aj_arith hC hdg h0 trivial k
  case iastore => exact aj_s_iastore hC hdg h0 k
  case iconst => exact aj_simple hC hdg h0 trivial k
  case idiv => exact aj_arith hC hdg h0 trivial k
  case if_icmp => exact aj_s_icmp hC hdg h0 k
  case ifCond => exact aj_s_if hC hdg h0 k
  case ifnonnull => exact aj_s_ifnonnull hC hdg h0 k
  case ifnull => exact aj_s_ifnull hC hdg h0 k
  case iinc => exact aj_iincs hC hdg h0 k
  case iload => exact aj_simple hC hdg h0 trivial k
  case iload_n => exact aj_simple hC hdg h0 trivial k
  case imul => exact aj_arith hC hdg h0 trivial k
  case ior => exact aj_arith hC hdg h0 trivial k
  case irem => exact aj_arith hC hdg h0 trivial k
  case ishl => exact aj_arith hC hdg h0 trivial k
  case ishr => exact aj_arith hC hdg h0 trivial k
  case istore => exact aj_stores hC hdg h0 trivial k
  case istore_n => exact aj_stores hC hdg h0 trivial k
  case isub => exact aj_arith hC hdg h0 trivial k
  case iushr => exact aj_arith hC hdg h0 trivial k
  case ixor => exact aj_arith hC hdg h0 trivial k
  case l2i => exact aj_s_l2i hC hdg h0 k
  case ladd => exact aj_arith hC hdg h0 trivial k
  case laload => exact aj_s_laload hC hdg h0 k
  case lastore => exact aj_s_lastore hC hdg h0 k
  case lcmp => exact aj_s_lcmp hC hdg h0 k
  case lconst => exact aj_simple hC hdg h0 trivial k
  case ldc => exact aj_s_ldc hC hlk (Or.inl rfl) hdg h0 k
  case ldc_w => exact aj_s_ldc hC hlk (Or.inr (Or.inl rfl)) hdg h0 k
  case ldc2_w => exact aj_s_ldc hC hlk (Or.inr (Or.inr rfl)) hdg h0 k
  case lload => exact aj_simple hC hdg h0 trivial k
  case lload_n => exact aj_simple hC hdg h0 trivial k
  case lmul => exact aj_arith hC hdg h0 trivial k
  case lneg => exact aj_s_lneg hC hdg h0 k
  case lookupswitch => exact aj_s_lookup hC hdg h0 k
  case lor => exact aj_arith hC hdg h0 trivial k
  case lshl => exact aj_s_lshl hC hdg h0 k
  case lstore => exact aj_stores hC hdg h0 trivial k
  case lstore_n => exact aj_stores hC hdg h0 trivial k
  case new => exact aj_s_new hC hcls hlk hdg h0 hc1 hs1 k
  case newarray => exact aj_s_newarray hC hA hdg h0 hc1 hs1 k
  case pop => exact aj_dups hC hdg h0 (Or.inr (Or.inl rfl)) k
  case putfield => exact aj_s_putfield hC hcls hlk hI hdg h0 k
  case sipush => exact aj_simple hC hdg h0 trivial k
  case tableswitch => exact aj_s_table hC hdg h0 k
  all_goals first
    | (cases h0; done)
    | (exfalso
       unfold aj_step at h0
       dsimp only at h0
       split at h0
       · first | exact aj_call_nl _ _ _ _ _ _ _ _ _ _ h0 | exact aj_ret_nl _ _ _ _ h0
       · cases h0)
theorem aj_frm_ok (hC : aj_Cx rn D cl cA tb base stA sf nw Ts own cc nL p s m args c) {rc : Nat} {rcl : vw_C} (hrc : cl[rc]? = some rcl) (hrn : rcl.1 = rn) {cls : List aj_C} (hcls : aj_clsOK Ts cl cls) (hmt : aj_mtOK Ts nw cls mt sf) (hnw : aj_nwOK nw) (hTs : aj_TsOK Ts) (hA : ∀ k, k < 5 → Cond.arrayClass (aj_ty rn k) ∈ Ts) {mm : aj_M} (hcc : cc = mm.2.1) (hnl : nL = mm.2.2.1) (hlk : aj_lksOK Ts nw cls mt sf own mm.2.2.2.2.2.1) {isI : Bool} (hI : isI = true → meth.name = "<init>")
    {d mc ms : Nat} {deep : Bool} {call : Nat → List Value → aj_H → Nat → Nat → Option Value → aj_H → Prop} (hcall : ∀ mi as h mc ms r h', call mi as h mc ms r h' → aj_Met rn D cl cA tb base stA sf nw Ts mt l d mi as h mc ms r h') (hRd : deep = true → d + 1 ≤ R.frames ∧ 40 * d + 40 ≤ R.locals) (hRc : mc ≤ R.cells) (hRs : ms ≤ R.slots) {r : Option Value} {hF : aj_H}
    (hend : ∀ (i : Instr) (pc : Nat) (lv : aj_V) (st : List Value) (slots k : Nat), decode cc pc = .ok (i, 1) → (i = .ireturn ∧ k = 0 ∨ i = .lreturn ∧ k = 1 ∨ i = .areturn ∧ k = 2 ∨ i = .return_ ∧ k = 3) → aj_ret mm.2.2.2.1 st k = some (.inr (.inr r)) → slots ≤ ms → aj_Nx D cl cA tb.length base stA nL p l e R s m args below meth c Q mc slots pc lv st hF) :
    ∀ (n pc : Nat) (lv : aj_V) (st : List Value) (h : aj_H) (kc ks : Nat), kc ≤ mc → ks ≤ ms → aj_frm rc cls tb mm isI deep call n pc lv st h kc ks mc ms r hF → aj_Nx D cl cA tb.length base stA nL p l e R s m args below meth c Q kc ks pc lv st h := by
  intro n
  induction n with
  | zero => intro pc lv st h kc ks _ _ hf; exact hf.elim
  | succ n ih =>
    intro pc lv st h kc ks hkc hks hf
    unfold aj_frm at hf
    split at hf
    · rename_i i len hd
      rw [← hcc] at hd
      split at hf
      · rename_i pc' lv' st' h' dc ds h0
        obtain ⟨h1, h2, h3⟩ := hf
        rw [← hnl] at h0
        exact aj_one hC hrc hrn hcls hA hlk hI hd h0 (Nat.le_trans h1 hRc) (Nat.le_trans h2 hRs) (ih _ _ _ _ _ _ h1 h2 h3)
      · rename_i kind mi as pc' lv' st' h0
        obtain ⟨hdeep, hf⟩ := hf
        rw [← hnl] at h0
        refine aj_s_call hC hcls hmt hnw hTs hlk hd (hRd hdeep) h0 (fun h5 => ?_) (fun h5 => ?_)
        · rcases hf with ⟨-, hf⟩ | ⟨q, -⟩
          · exact ih _ _ _ _ _ _ hkc hks hf
          · exact absurd h5 q
        · rcases hf with ⟨q, -⟩ | ⟨-, mc', ms', r', h', g1, g2, g3, g4, g5⟩
          · exact absurd q h5
          · exact ⟨mc', ms', r', h', hcall _ _ _ _ _ _ _ g1, g2, Nat.le_trans g3 hRc, Nat.le_trans g4 hRs, ih _ _ _ _ _ _ g3 g4 g5⟩
      · rename_i v h0
        obtain ⟨rfl, rfl, rfl⟩ := hf
        obtain ⟨k, rfl, hk, hr⟩ := aj_is_ret h0
        exact hend i pc lv st ks k hd hk hr hks
      · exact hf.elim
    · exact hf.elim
theorem aj_args_c (ad : Nat → Nat) : ∀ (as : List Value) (i : Nat), lv_args i (as.map (aj_c ad)) = aj_cv ad (lv_args i as) := by
  intro as
  induction as with
  | nil => intro i; rfl
  | cons v vs ih =>
    intro i
    simp only [List.map_cons, lv_args, aj_c_cat, ih, aj_cv]
theorem aj_sl_c (ad : Nat → Nat) (as : List Value) : (lg_sl (as.map (aj_c ad))).length = (lg_sl as).length := by
  unfold lg_sl
  induction as with
  | nil => rfl
  | cons v vs ih =>
    simp only [List.map_cons, List.flatMap_cons, List.length_append, ih, aj_c_cat]
    congr 1
    split <;> rfl
/-- a frame's end, as a contract has it -/
theorem aj_hend (hC : aj_Cx rn D cl cA tb base stA sf nw Ts own cc nL p s m args c) (hnw : aj_nwOK nw) {ret : Option FieldType} (hret : meth.sig.returnType = ret) (hlocks : meth.locks = false) {mc ms : Nat} {r : Option Value} {hF : aj_H} {i : Instr} {k : Nat} (hd : decode cc pc = .ok (i, 1)) (hk : i = .ireturn ∧ k = 0 ∨ i = .lreturn ∧ k = 1 ∨ i = .areturn ∧ k = 2 ∨ i = .return_ ∧ k = 3) (hr : aj_ret ret st k = some (.inr (.inr r))) (hsl : slots ≤ ms) :
    aj_Nx D cl cA tb.length base stA nL p l e R s m args below meth c (MQ below (aj_Qc rn D cl cA tb base stA sf nw r hF) args s mc ms (fun q => base ≤ q)) mc slots pc lv st hF := by
  have hC0 := hC
  obtain ⟨hx, hb, hml, hown, hts, hK, hZ, hN, hbs⟩ := hC
  intro ls H locs hl hR T hT X
  have hsz := aj_size hR.1 hR.2.1 hR.2.2 hbs hT X
  refine W.widen (k := mc) (n := ms) (Nat.le_refl _) hsl ?_ T hT X
  have hq : ∀ t : State, t.heap = H → s.WarmedH t.vm → aj_Qc rn D cl cA tb base stA sf nw r hF args s (.returned (r.map (aj_c (aj_ad tb.length base stA)))) t := fun t ht hW => ⟨rfl, aj_Rep_of hC0 hnw hsz hR ht hW, hR.2.2.F ht⟩
  unfold aj_ret at hr
  split at hr
  · split at hr
    · rename_i hk3
      subst hk3
      cases hr
      have hi : i = .return_ := by rcases hk with ⟨-, z⟩ | ⟨-, z⟩ | ⟨-, z⟩ | ⟨z, -⟩ <;> first | exact z | exact absurd z (by decide)
      subst hi
      exact W.vret hx hb hret hq hR.2.2.2.2 hd hlocks
    · cases hr
  · split at hr
    · rename_i hk3
      subst hk3
      cases hr
      have hi : i = .ireturn := by rcases hk with ⟨z, -⟩ | ⟨-, z⟩ | ⟨-, z⟩ | ⟨-, z⟩ <;> first | exact z | exact absurd z (by decide)
      subst hi
      exact W.iret hx hb hret hq hR.2.2.2.2 hd hlocks
    · cases hr
  · split at hr
    · rename_i v hk3
      obtain ⟨rfl, hfit⟩ := hk3
      cases hr
      have hi : i = .ireturn := by rcases hk with ⟨z, -⟩ | ⟨-, z⟩ | ⟨-, z⟩ | ⟨-, z⟩ <;> first | exact z | exact absurd z (by decide)
      subst hi
      exact W.zret (v := v) hx hb hret (aj_fit_ok hfit (fun n => n)).1 hq hR.2.2.2.2 hd hlocks
    · cases hr
  · split at hr
    · rename_i hk3
      subst hk3
      cases hr
      have hi : i = .lreturn := by rcases hk with ⟨-, z⟩ | ⟨z, -⟩ | ⟨-, z⟩ | ⟨-, z⟩ <;> first | exact z | exact absurd z (by decide)
      subst hi
      exact W.lret hx hb hret hq hR.2.2.2.2 hd hlocks
    · cases hr
  all_goals first
    | (cases hr; done)
    | (split at hr
       · rename_i hk3
         subst hk3
         cases hr
         have hi : i = .areturn := by rcases hk with ⟨-, z⟩ | ⟨-, z⟩ | ⟨z, -⟩ | ⟨-, z⟩ <;> first | exact z | exact absurd z (by decide)
         subst hi
         first
           | exact W.aret hx hb hret (Or.inl ⟨_, rfl⟩) (Or.inr ⟨_, rfl⟩) hq hR.2.2.2.2 hd hlocks
           | exact W.aret hx hb hret (Or.inl ⟨_, rfl⟩) (Or.inl rfl) hq hR.2.2.2.2 hd hlocks
           | exact W.aret hx hb hret (Or.inr ⟨_, rfl⟩) (Or.inr ⟨_, rfl⟩) hq hR.2.2.2.2 hd hlocks
           | exact W.aret hx hb hret (Or.inr ⟨_, rfl⟩) (Or.inl rfl) hq hR.2.2.2.2 hd hlocks
       · cases hr)
/-- what a run does, the method does -/
theorem aj_runs_ok {rc : Nat} {rcl : vw_C} (hrc : cl[rc]? = some rcl) (hrn : rcl.1 = rn) {cls : List aj_C} (hcls : aj_clsOK Ts cl cls) (hmt : aj_mtOK Ts nw cls mt sf) (hnw : aj_nwOK nw) (hTs : aj_TsOK Ts) (hA : ∀ k, k < 5 → Cond.arrayClass (aj_ty rn k) ∈ Ts) (l : Launch) :
    ∀ (d mi : Nat) (as : List Value) (h : aj_H) (mc ms : Nat) (r : Option Value) (h' : aj_H), aj_runs rc cls tb mt d mi as h mc ms r h' → aj_Met rn D cl cA tb base stA sf nw Ts mt l d mi as h mc ms r h' := by
  have key : ∀ (d mi : Nat) (as : List Value) (h : aj_H) (mc ms : Nat) (r : Option Value) (h' : aj_H) (mm : aj_M) (deep : Bool) (call : Nat → List Value → aj_H → Nat → Nat → Option Value → aj_H → Prop), mt[mi]? = some mm → (lg_sl as).length ≤ mm.2.2.1 → (∀ mi as h mc ms r h', call mi as h mc ms r h' → ∃ d', d' + 1 = d ∧ aj_Met rn D cl cA tb base stA sf nw Ts mt l d' mi as h mc ms r h') → (deep = true → ∃ d', d' + 1 = d) → (∃ n, aj_frm rc cls tb mm (aj_isI mm) deep call n 0 (lv_args 0 as) [] h 0 0 mc ms r h') → Met l mm.1 (Cond.code mm.1 mm.2.1 mm.2.2.1 mm.2.2.2.1 :: Ts) (aj_rm d mc ms) (aj_Pc rn D cl cA tb base stA sf nw as h) (aj_Qc rn D cl cA tb base stA sf nw r h') mc ms (fun q => base ≤ q) := by
    intro d mi as h mc ms r h' mm deep call hmm hal hcall hdeep ⟨n, hf⟩
    obtain ⟨g1, g2, g3, g4, g5, g6⟩ := hmt _ _ hmm
    refine Met.ofW (cc := mm.2.1) (maxL := mm.2.2.1) (ret := mm.2.2.2.1) g1 rfl ?_
    intro p e s m args below meth c s₁ B hml hv
    obtain ⟨rfl, hsz, hP, hK, hZ, hN⟩ := hv
    have hts0 := atoms_spec (ws := Cond.code mm.1 mm.2.1 mm.2.2.1 mm.2.2.2.1 :: Ts) B.pre
    have hown : s.vm.findClass mm.1.cls = some m.cls := findClass_of_methodNamed B.named
    have hC : aj_Cx rn D cl cA tb base stA sf nw Ts mm.1.cls mm.2.1 mm.2.2.1 p s m _ c := ⟨B.exec, B.bytes, hml, hown, fun w hw => hts0 w (List.mem_cons_of_mem _ hw), hK, hZ, hN, by omega⟩
    have hl := lv_entry (as.map (aj_c (aj_ad tb.length base stA))) (n := mm.2.2.1) (by rw [aj_sl_c]; exact hal)
    rw [lg_entry_eq]
    rw [aj_args_c] at hl
    cases d with
    | zero =>
      have hd : deep = false := by
        cases deep
        · rfl
        · obtain ⟨d', hd'⟩ := hdeep rfl
          omega
      subst hd
      refine aj_frm_ok (d := 0) hC hrc hrn hcls hmt hnw hTs hA rfl rfl g6 (fun hi => ?_) (fun mi as h mc ms r h' hc => ?_) (fun z => by cases z) (Nat.le_refl _) (Nat.le_refl _) (fun i pc lv st slots k hd hk hr hs => aj_hend hC hnw B.returns B.notSynchronized hd hk hr hs) n 0 (lv_args 0 as) [] h 0 0 (Nat.zero_le _) (Nat.zero_le _) hf _ s.heap [] hl ⟨by omega, hP, va_S.rf⟩
      · rw [(name_of_methodNamed B.named B.method).1]
        exact of_decide_eq_true hi
      · obtain ⟨d', hd', -⟩ := hcall _ _ _ _ _ _ _ hc
        omega
    | succ d =>
      refine aj_frm_ok (d := d) hC hrc hrn hcls hmt hnw hTs hA rfl rfl g6 (fun hi => ?_) (fun mi as h mc ms r h' hc => ?_) (fun z => ⟨Nat.le_refl _, by show 40 * d + 40 ≤ 40 * (d + 1); omega⟩) (Nat.le_refl _) (Nat.le_refl _) (fun i pc lv st slots k hd hk hr hs => aj_hend hC hnw B.returns B.notSynchronized hd hk hr hs) n 0 (lv_args 0 as) [] h 0 0 (Nat.zero_le _) (Nat.zero_le _) hf _ s.heap [] hl ⟨by omega, hP, va_S.rf⟩
      · rw [(name_of_methodNamed B.named B.method).1]
        exact of_decide_eq_true hi
      · obtain ⟨d', hd', z⟩ := hcall _ _ _ _ _ _ _ hc
        have : d' = d := by omega
        subst this
        exact z
  intro d
  induction d with
  | zero =>
    intro mi as h mc ms r h' ⟨mm, hmm, hal, hf⟩ mm' hmm'
    rw [hmm] at hmm'
    cases hmm'
    exact key 0 mi as h mc ms r h' mm false _ hmm hal (fun _ _ _ _ _ _ _ z => z.elim) (fun z => by cases z) hf
  | succ d ih =>
    intro mi as h mc ms r h' ⟨mm, hmm, hal, hf⟩ mm' hmm'
    rw [hmm] at hmm'
    cases hmm'
    exact key (d + 1) mi as h mc ms r h' mm true _ hmm hal (fun mi as h mc ms r h' z => ⟨d, rfl, ih mi as h mc ms r h' z⟩) (fun _ => ⟨d, rfl⟩) hf
end AJRUN
end
section
/-! THE TABLES OF THIS CLAIM FOR THE ABSTRACT MACHINE (printed by wip/p1/gen_tables.py): classes, methods, links, static arrays; each row held against lw_tbl by its place -/
def aj_T0 : u_T := fun k => match k with
  | 0 => ("DimShelf$Checker", "tokens", "LDimShelf$Tokens;", true)
  | 1 => ("DimShelf$Checker", "plan", "LDimShelf$Plan;", true)
  | 2 => ("DimShelf$Checker", "shelf", "LDimShelf$Shelf;", false)
  | 3 => ("DimShelf$Checker", "columns", "[J", true)
  | 4 => ("DimShelf$Checker", "widths", "[I", true)
  | 5 => ("DimShelf$Checker", "depth", "I", false)
  | 6 => ("DimShelf$Checker", "picks", "[J", true)
  | 7 => ("DimShelf$Checker", "picked", "I", false)
  | _ => ("DimShelf$Checker", "fresh", "J", false)
def aj_F0 : Nat → FieldType := fun k => match k with
  | 0 => .object "DimShelf$Tokens"
  | 1 => .object "DimShelf$Plan"
  | 2 => .object "DimShelf$Shelf"
  | 3 => .array .long
  | 4 => .array .int
  | 5 => .int
  | 6 => .array .long
  | 7 => .int
  | _ => .long
def aj_T1 : u_T := fun k => match k with
  | 0 => ("DimShelf$Grouper", "picks", "[I", true)
  | 1 => ("DimShelf$Grouper", "picked", "I", false)
  | 2 => ("DimShelf$Grouper", "fold", "I", false)
  | 3 => ("DimShelf$Grouper", "folded", "I", false)
  | 4 => ("DimShelf$Grouper", "line", "[I", true)
  | 5 => ("DimShelf$Grouper", "tuple", "[I", true)
  | _ => ("DimShelf$Grouper", "sorts", "[Z", true)
def aj_F1 : Nat → FieldType := fun k => match k with
  | 0 => .array .int
  | 1 => .int
  | 2 => .int
  | 3 => .int
  | 4 => .array .int
  | 5 => .array .int
  | _ => .array .boolean
def aj_T2 : u_T := fun k => match k with
  | 0 => ("DimShelf$Listing", "told", "I", false)
  | 1 => ("DimShelf$Listing", "fewest", "I", false)
  | 2 => ("DimShelf$Listing", "most", "I", false)
  | 3 => ("DimShelf$Listing", "length", "I", false)
  | 4 => ("DimShelf$Listing", "sures", "I", false)
  | 5 => ("DimShelf$Listing", "refs", "[I", false)
  | 6 => ("DimShelf$Listing", "merged", "[I", false)
  | 7 => ("DimShelf$Listing", "ends", "[I", true)
  | 8 => ("DimShelf$Listing", "runs", "I", false)
  | 9 => ("DimShelf$Listing", "sureAt", "[I", true)
  | _ => ("DimShelf$Listing", "line", "[I", true)
def aj_F2 : Nat → FieldType := fun k => match k with
  | 0 => .int
  | 1 => .int
  | 2 => .int
  | 3 => .int
  | 4 => .int
  | 5 => .array .int
  | 6 => .array .int
  | 7 => .array .int
  | 8 => .int
  | 9 => .array .int
  | _ => .array .int
def aj_T3 : u_T := fun k => match k with
  | 0 => ("DimShelf$Parser", "tokens", "LDimShelf$Tokens;", true)
  | 1 => ("DimShelf$Parser", "plan", "LDimShelf$Plan;", true)
  | 2 => ("DimShelf$Parser", "stack", "[I", true)
  | 3 => ("DimShelf$Parser", "names", "[J", true)
  | 4 => ("DimShelf$Parser", "rows", "[I", true)
  | 5 => ("DimShelf$Parser", "depth", "I", false)
  | 6 => ("DimShelf$Parser", "next", "I", false)
  | 7 => ("DimShelf$Parser", "near", "I", false)
  | 8 => ("DimShelf$Parser", "unknowns", "I", false)
  | 9 => ("DimShelf$Parser", "tables", "I", false)
  | 10 => ("DimShelf$Parser", "columns", "I", false)
  | 11 => ("DimShelf$Parser", "always", "I", false)
  | 12 => ("DimShelf$Parser", "signs", "I", false)
  | 13 => ("DimShelf$Parser", "listed", "I", false)
  | 14 => ("DimShelf$Parser", "open", "I", false)
  | _ => ("DimShelf$Parser", "rowNote", "I", false)
def aj_F3 : Nat → FieldType := fun k => match k with
  | 0 => .object "DimShelf$Tokens"
  | 1 => .object "DimShelf$Plan"
  | 2 => .array .int
  | 3 => .array .long
  | 4 => .array .int
  | 5 => .int
  | 6 => .int
  | 7 => .int
  | 8 => .int
  | 9 => .int
  | 10 => .int
  | 11 => .int
  | 12 => .int
  | 13 => .int
  | 14 => .int
  | _ => .int
def aj_T4 : u_T := fun k => match k with
  | 0 => ("DimShelf$Plan", "notes", "[I", true)
  | 1 => ("DimShelf$Plan", "nears", "[I", true)
  | 2 => ("DimShelf$Plan", "leads", "[I", true)
  | 3 => ("DimShelf$Plan", "args", "[I", true)
  | 4 => ("DimShelf$Plan", "length", "I", false)
  | 5 => ("DimShelf$Plan", "fault", "I", false)
  | _ => ("DimShelf$Plan", "place", "I", false)
def aj_F4 : Nat → FieldType := fun k => match k with
  | 0 => .array .int
  | 1 => .array .int
  | 2 => .array .int
  | 3 => .array .int
  | 4 => .int
  | 5 => .int
  | _ => .int
def aj_T5 : u_T := fun k => match k with
  | 0 => ("DimShelf$Reason", "known", "Z", false)
  | 1 => ("DimShelf$Reason", "chosen", "I", false)
  | 2 => ("DimShelf$Reason", "masks", "[I", true)
  | _ => ("DimShelf$Reason", "length", "I", false)
def aj_F5 : Nat → FieldType := fun k => match k with
  | 0 => .boolean
  | 1 => .int
  | 2 => .array .int
  | _ => .int
def aj_T6 : u_T := fun k => match k with
  | 0 => ("DimShelf$Rows", "terms", "[I", true)
  | 1 => ("DimShelf$Rows", "open", "[Z", true)
  | 2 => ("DimShelf$Rows", "there", "[I", true)
  | 3 => ("DimShelf$Rows", "width", "I", false)
  | _ => ("DimShelf$Rows", "height", "I", false)
def aj_F6 : Nat → FieldType := fun k => match k with
  | 0 => .array .int
  | 1 => .array .boolean
  | 2 => .array .int
  | 3 => .int
  | _ => .int
def aj_T7 : u_T := fun k => match k with
  | 0 => ("DimShelf$Shelf", "names", "[J", true)
  | 1 => ("DimShelf$Shelf", "sizes", "[I", true)
  | 2 => ("DimShelf$Shelf", "values", "[I", true)
  | 3 => ("DimShelf$Shelf", "cells", "[I", true)
  | 4 => ("DimShelf$Shelf", "broken", "[I", true)
  | 5 => ("DimShelf$Shelf", "held", "[I", true)
  | 6 => ("DimShelf$Shelf", "asked", "[Z", true)
  | 7 => ("DimShelf$Shelf", "rows", "[LDimShelf$Rows;", true)
  | 8 => ("DimShelf$Shelf", "tableNames", "[J", true)
  | 9 => ("DimShelf$Shelf", "columnNames", "[J", true)
  | 10 => ("DimShelf$Shelf", "answers", "[Z", true)
  | 11 => ("DimShelf$Shelf", "unknowns", "I", false)
  | 12 => ("DimShelf$Shelf", "tables", "I", false)
  | 13 => ("DimShelf$Shelf", "all", "I", false)
  | 14 => ("DimShelf$Shelf", "holding", "I", false)
  | 15 => ("DimShelf$Shelf", "parts", "I", false)
  | 16 => ("DimShelf$Shelf", "learned", "I", false)
  | _ => ("DimShelf$Shelf", "wasAsked", "Z", false)
def aj_F7 : Nat → FieldType := fun k => match k with
  | 0 => .array .long
  | 1 => .array .int
  | 2 => .array .int
  | 3 => .array .int
  | 4 => .array .int
  | 5 => .array .int
  | 6 => .array .boolean
  | 7 => .array (.object "DimShelf$Rows")
  | 8 => .array .long
  | 9 => .array .long
  | 10 => .array .boolean
  | 11 => .int
  | 12 => .int
  | 13 => .int
  | 14 => .int
  | 15 => .int
  | 16 => .int
  | _ => .boolean
def aj_T8 : u_T := fun k => match k with
  | 0 => ("DimShelf$Tokens", "kinds", "[I", true)
  | 1 => ("DimShelf$Tokens", "starts", "[I", true)
  | 2 => ("DimShelf$Tokens", "words", "[J", true)
  | _ => ("DimShelf$Tokens", "length", "I", false)
def aj_F8 : Nat → FieldType := fun k => match k with
  | 0 => .array .int
  | 1 => .array .int
  | 2 => .array .long
  | _ => .int
def aj_T9 : u_T := fun k => match k with
  | 0 => ("DimShelf$Worker", "tokens", "LDimShelf$Tokens;", true)
  | 1 => ("DimShelf$Worker", "plan", "LDimShelf$Plan;", true)
  | 2 => ("DimShelf$Worker", "grouper", "LDimShelf$Grouper;", true)
  | 3 => ("DimShelf$Worker", "stack", "[LDimShelf$Rows;", true)
  | 4 => ("DimShelf$Worker", "depth", "I", false)
  | 5 => ("DimShelf$Worker", "scratch", "LDimShelf$Rows;", false)
  | 6 => ("DimShelf$Worker", "truths", "[I", true)
  | 7 => ("DimShelf$Worker", "shelf", "LDimShelf$Shelf;", false)
  | 8 => ("DimShelf$Worker", "leftSort", "I", false)
  | 9 => ("DimShelf$Worker", "leftNumber", "I", false)
  | 10 => ("DimShelf$Worker", "rightSort", "I", false)
  | 11 => ("DimShelf$Worker", "rightNumber", "I", false)
  | 12 => ("DimShelf$Worker", "relation", "I", false)
  | 13 => ("DimShelf$Worker", "rowTable", "I", false)
  | _ => ("DimShelf$Worker", "rowTerms", "I", false)
def aj_F9 : Nat → FieldType := fun k => match k with
  | 0 => .object "DimShelf$Tokens"
  | 1 => .object "DimShelf$Plan"
  | 2 => .object "DimShelf$Grouper"
  | 3 => .array (.object "DimShelf$Rows")
  | 4 => .int
  | 5 => .object "DimShelf$Rows"
  | 6 => .array .int
  | 7 => .object "DimShelf$Shelf"
  | 8 => .int
  | 9 => .int
  | 10 => .int
  | 11 => .int
  | 12 => .int
  | 13 => .int
  | _ => .int
def aj_T10 : u_T := fun k => match k with
  | 0 => ("DimShelf", "tape", "[C", true)
  | 1 => ("DimShelf", "bytes", "I", false)
  | 2 => ("DimShelf", "faultPlace", "I", false)
  | 3 => ("DimShelf", "shelf", "LDimShelf$Shelf;", false)
  | 4 => ("DimShelf", "spare", "LDimShelf$Shelf;", false)
  | 5 => ("DimShelf", "tokens", "LDimShelf$Tokens;", true)
  | 6 => ("DimShelf", "plan", "LDimShelf$Plan;", true)
  | 7 => ("DimShelf", "parser", "LDimShelf$Parser;", true)
  | 8 => ("DimShelf", "checker", "LDimShelf$Checker;", true)
  | 9 => ("DimShelf", "worker", "LDimShelf$Worker;", true)
  | 10 => ("DimShelf", "listing", "LDimShelf$Listing;", true)
  | 11 => ("DimShelf", "reason", "LDimShelf$Reason;", true)
  | 12 => ("DimShelf", "line", "[I", true)
  | _ => ("DimShelf", "otherLine", "[I", true)
def aj_F10 : Nat → FieldType := fun k => match k with
  | 0 => .array .char
  | 1 => .int
  | 2 => .int
  | 3 => .object "DimShelf$Shelf"
  | 4 => .object "DimShelf$Shelf"
  | 5 => .object "DimShelf$Tokens"
  | 6 => .object "DimShelf$Plan"
  | 7 => .object "DimShelf$Parser"
  | 8 => .object "DimShelf$Checker"
  | 9 => .object "DimShelf$Worker"
  | 10 => .object "DimShelf$Listing"
  | 11 => .object "DimShelf$Reason"
  | 12 => .array .int
  | _ => .array .int
def aj_T11 : u_T := fun k => match k with
  | 0 => ("DimShelfModel", "half", "I", false)
  | 1 => ("DimShelfModel", "unknowns", "[I", true)
  | 2 => ("DimShelfModel", "unknownName", "[J", true)
  | 3 => ("DimShelfModel", "valueMany", "[I", true)
  | 4 => ("DimShelfModel", "values", "[I", true)
  | 5 => ("DimShelfModel", "worlds", "[I", true)
  | 6 => ("DimShelfModel", "valueIn", "[I", true)
  | 7 => ("DimShelfModel", "tables", "[I", true)
  | 8 => ("DimShelfModel", "tableName", "[J", true)
  | 9 => ("DimShelfModel", "isAnswer", "[Z", true)
  | 10 => ("DimShelfModel", "parts", "[I", true)
  | 11 => ("DimShelfModel", "learned", "[I", true)
  | 12 => ("DimShelfModel", "part", "[I", true)
  | 13 => ("DimShelfModel", "isAsked", "Z", false)
  | 14 => ("DimShelfModel", "asked", "[I", true)
  | 15 => ("DimShelfModel", "rows", "[I", true)
  | 16 => ("DimShelfModel", "cols", "[I", true)
  | 17 => ("DimShelfModel", "column", "[J", true)
  | 18 => ("DimShelfModel", "kindOf", "[B", true)
  | 19 => ("DimShelfModel", "valueOf", "[I", true)
  | 20 => ("DimShelfModel", "bits", "[I", true)
  | 21 => ("DimShelfModel", "cond", "[I", true)
  | 22 => ("DimShelfModel", "tape", "[B", true)
  | 23 => ("DimShelfModel", "taped", "I", false)
  | 24 => ("DimShelfModel", "faultKind", "I", false)
  | 25 => ("DimShelfModel", "faultPlace", "I", false)
  | 26 => ("DimShelfModel", "kind", "I", false)
  | 27 => ("DimShelfModel", "begin", "I", false)
  | 28 => ("DimShelfModel", "end", "I", false)
  | 29 => ("DimShelfModel", "mark", "I", false)
  | 30 => ("DimShelfModel", "tokens", "I", false)
  | 31 => ("DimShelfModel", "stopped", "Z", false)
  | 32 => ("DimShelfModel", "isWork", "Z", false)
  | 33 => ("DimShelfModel", "name", "J", false)
  | 34 => ("DimShelfModel", "namePlace", "I", false)
  | 35 => ("DimShelfModel", "number", "I", false)
  | 36 => ("DimShelfModel", "numberPlace", "I", false)
  | 37 => ("DimShelfModel", "in", "I", false)
  | 38 => ("DimShelfModel", "termKind", "I", false)
  | 39 => ("DimShelfModel", "termValue", "I", false)
  | 40 => ("DimShelfModel", "rel", "I", false)
  | 41 => ("DimShelfModel", "conds", "I", false)
  | 42 => ("DimShelfModel", "waiting", "[I", true)
  | 43 => ("DimShelfModel", "waits", "I", false)
  | 44 => ("DimShelfModel", "held", "I", false)
  | 45 => ("DimShelfModel", "alwayses", "I", false)
  | 46 => ("DimShelfModel", "brackets", "I", false)
  | 47 => ("DimShelfModel", "acts", "I", false)
  | 48 => ("DimShelfModel", "acting", "[I", true)
  | 49 => ("DimShelfModel", "actPlace", "[I", true)
  | 50 => ("DimShelfModel", "actings", "I", false)
  | 51 => ("DimShelfModel", "top", "I", false)
  | 52 => ("DimShelfModel", "sideKind", "I", false)
  | 53 => ("DimShelfModel", "sideValue", "I", false)
  | 54 => ("DimShelfModel", "sideBad", "Z", false)
  | 55 => ("DimShelfModel", "taken", "[I", true)
  | 56 => ("DimShelfModel", "takens", "I", false)
  | 57 => ("DimShelfModel", "row", "[I", true)
  | 58 => ("DimShelfModel", "found", "I", false)
  | 59 => ("DimShelfModel", "made", "[I", true)
  | 60 => ("DimShelfModel", "broken", "[I", true)
  | 61 => ("DimShelfModel", "brokens", "I", false)
  | 62 => ("DimShelfModel", "chosen", "[I", true)
  | 63 => ("DimShelfModel", "sureRow", "[I", true)
  | 64 => ("DimShelfModel", "sureWorld", "I", false)
  | 65 => ("DimShelfModel", "certain", "I", false)
  | 66 => ("DimShelfModel", "pair", "[I", true)
  | 67 => ("DimShelfModel", "possible", "I", false)
  | 68 => ("DimShelfModel", "version", "J", false)
  | 69 => ("DimShelfModel", "pairVersion", "J", false)
  | 70 => ("DimShelfModel", "pairTable", "I", false)
  | _ => ("DimShelfModel", "other", "[I", true)
def aj_F11 : Nat → FieldType := fun k => match k with
  | 0 => .int
  | 1 => .array .int
  | 2 => .array .long
  | 3 => .array .int
  | 4 => .array .int
  | 5 => .array .int
  | 6 => .array .int
  | 7 => .array .int
  | 8 => .array .long
  | 9 => .array .boolean
  | 10 => .array .int
  | 11 => .array .int
  | 12 => .array .int
  | 13 => .boolean
  | 14 => .array .int
  | 15 => .array .int
  | 16 => .array .int
  | 17 => .array .long
  | 18 => .array .byte
  | 19 => .array .int
  | 20 => .array .int
  | 21 => .array .int
  | 22 => .array .byte
  | 23 => .int
  | 24 => .int
  | 25 => .int
  | 26 => .int
  | 27 => .int
  | 28 => .int
  | 29 => .int
  | 30 => .int
  | 31 => .boolean
  | 32 => .boolean
  | 33 => .long
  | 34 => .int
  | 35 => .int
  | 36 => .int
  | 37 => .int
  | 38 => .int
  | 39 => .int
  | 40 => .int
  | 41 => .int
  | 42 => .array .int
  | 43 => .int
  | 44 => .int
  | 45 => .int
  | 46 => .int
  | 47 => .int
  | 48 => .array .int
  | 49 => .array .int
  | 50 => .int
  | 51 => .int
  | 52 => .int
  | 53 => .int
  | 54 => .boolean
  | 55 => .array .int
  | 56 => .int
  | 57 => .array .int
  | 58 => .int
  | 59 => .array .int
  | 60 => .array .int
  | 61 => .int
  | 62 => .array .int
  | 63 => .array .int
  | 64 => .int
  | 65 => .int
  | 66 => .array .int
  | 67 => .int
  | 68 => .long
  | 69 => .long
  | 70 => .int
  | _ => .array .int
def aj_cls : List aj_C := [("DimShelf$Checker", aj_T0, 9, aj_F0), ("DimShelf$Grouper", aj_T1, 7, aj_F1), ("DimShelf$Listing", aj_T2, 11, aj_F2), ("DimShelf$Parser", aj_T3, 16, aj_F3), ("DimShelf$Plan", aj_T4, 7, aj_F4), ("DimShelf$Reason", aj_T5, 4, aj_F5), ("DimShelf$Rows", aj_T6, 5, aj_F6), ("DimShelf$Shelf", aj_T7, 18, aj_F7), ("DimShelf$Tokens", aj_T8, 4, aj_F8), ("DimShelf$Worker", aj_T9, 15, aj_F9), ("DimShelf", aj_T10, 14, aj_F10), ("DimShelfModel", aj_T11, 72, aj_F11)]
def aj_cl : List vw_C := aj_cls.map fun q => (q.1, q.2.1, q.2.2.1)
def aj_sf : List (String × String × String) := [("DimShelf$Tokens", "WORDS", "[J"), ("DimShelf$Grammar", "TELL_UNKNOWN", "[I"), ("DimShelf$Grammar", "TELL_TABLE", "[I"), ("DimShelf$Grammar", "TELL_ROW", "[I"), ("DimShelf$Grammar", "TELL_ALWAYS", "[I"), ("DimShelf$Grammar", "TELL_ANSWER", "[I"), ("DimShelf$Grammar", "EMPTY", "[I"), ("DimShelf$Grammar", "LISTED_BELOW", "[I"), ("DimShelf$Grammar", "LISTED_PLAIN", "[I"), ("DimShelf$Grammar", "LAST_BELOW", "[I"), ("DimShelf$Grammar", "LAST_PLAIN", "[I"), ("DimShelf$Grammar", "UP_TO", "[I"), ("DimShelf$Grammar", "ONE_MORE_LISTED", "[I"), ("DimShelf$Grammar", "ONE_MORE_COLUMN", "[I"), ("DimShelf$Grammar", "ONE_MORE_TERM", "[I"), ("DimShelf$Grammar", "IF_COND", "[I"), ("DimShelf$Grammar", "ANY_OF", "[I"), ("DimShelf$Grammar", "ONE_MORE_OR", "[I"), ("DimShelf$Grammar", "ALL_OF", "[I"), ("DimShelf$Grammar", "ONE_MORE_AND", "[I"), ("DimShelf$Grammar", "NOT_LITERAL", "[I"), ("DimShelf$Grammar", "COND_IN_BRACKETS", "[I"), ("DimShelf$Grammar", "COMPARED", "[I"), ("DimShelf$Grammar", "EQUAL_SIGN", "[I"), ("DimShelf$Grammar", "UNLIKE_SIGN", "[I"), ("DimShelf$Grammar", "BELOW_SIGN", "[I"), ("DimShelf$Grammar", "AT_MOST_SIGN", "[I"), ("DimShelf$Grammar", "UNKNOWN_TERM", "[I"), ("DimShelf$Grammar", "BELOW_TERM", "[I"), ("DimShelf$Grammar", "PLAIN_TERM", "[I"), ("DimShelf$Grammar", "SUMMED", "[I"), ("DimShelf$Grammar", "ONE_MORE_PLUS", "[I"), ("DimShelf$Grammar", "ONE_MORE_MINUS", "[I"), ("DimShelf$Grammar", "MULTIPLIED", "[I"), ("DimShelf$Grammar", "ONE_MORE_JOIN", "[I"), ("DimShelf$Grammar", "QUERY_IN_BRACKETS", "[I"), ("DimShelf$Grammar", "TABLE_NAMED", "[I"), ("DimShelf$Grammar", "STEP_TESTS", "[I"), ("DimShelf$Grammar", "STEP_PICKS", "[I"), ("DimShelf$Grammar", "STEP_RENAME", "[I"), ("DimShelf$Grammar", "STEP_GROUP", "[I"), ("DimShelf$Grammar", "ONE_TEST", "[I"), ("DimShelf$Grammar", "ONE_MORE_TEST", "[I"), ("DimShelf$Grammar", "COLUMN_SIDE", "[I"), ("DimShelf$Grammar", "TERM_SIDE", "[I"), ("DimShelf$Grammar", "ONE_MORE_PICK", "[I"), ("DimShelf$Grammar", "FIRST_PICK", "[I"), ("DimShelf$Grammar", "FOLD_COUNT", "[I"), ("DimShelf$Grammar", "FOLD_LEAST", "[I"), ("DimShelf$Grammar", "FOLD_MOST", "[I"), ("DimShelf$Grammar", "FOLD_SUM", "[I")]
def aj_tbS : aj_T := [(1, 10, .inr (.inl (fun j => ([33053979968501614, 499850046565, 7499639, 26982, 107118487239027, 107127011501426, 427071729268, 465557353332, 1836020596, 7566701] : List Int64).getD j 0))), (0, 9, .inl (fun j => ([10, 3, 180, 58, 131, 132, 59, 183, 130] : List Int32).getD j 0)), (0, 10, .inl (fun j => ([11, 3, 184, 40, 3, 185, 135, 41, 59, 130] : List Int32).getD j 0)), (0, 11, .inl (fun j => ([12, 3, 186, 40, 144, 187, 136, 41, 137, 59, 130] : List Int32).getD j 0)), (0, 6, .inl (fun j => ([14, 189, 138, 59, 190, 130] : List Int32).getD j 0)), (0, 8, .inl (fun j => ([15, 3, 191, 61, 145, 59, 192, 130] : List Int32).getD j 0)), (0, 0, .inl (fun j => ([] : List Int32).getD j 0)), (0, 3, .inl (fun j => ([45, 181, 4] : List Int32).getD j 0)), (0, 2, .inl (fun j => ([4, 181] : List Int32).getD j 0)), (0, 3, .inl (fun j => ([45, 182, 4] : List Int32).getD j 0)), (0, 2, .inl (fun j => ([4, 182] : List Int32).getD j 0)), (0, 2, .inl (fun j => ([5, 134] : List Int32).getD j 0)), (0, 3, .inl (fun j => ([44, 131, 133] : List Int32).getD j 0)), (0, 4, .inl (fun j => ([44, 3, 185, 135] : List Int32).getD j 0)), (0, 4, .inl (fun j => ([44, 144, 187, 136] : List Int32).getD j 0)), (0, 3, .inl (fun j => ([13, 138, 188] : List Int32).getD j 0)), (0, 2, .inl (fun j => ([140, 139] : List Int32).getD j 0)), (0, 4, .inl (fun j => ([124, 140, 207, 139] : List Int32).getD j 0)), (0, 2, .inl (fun j => ([142, 141] : List Int32).getD j 0)), (0, 4, .inl (fun j => ([38, 142, 206, 141] : List Int32).getD j 0)), (0, 5, .inl (fun j => ([33, 170, 142, 171, 205] : List Int32).getD j 0)), (0, 5, .inl (fun j => ([40, 170, 138, 41, 171] : List Int32).getD j 0)), (0, 4, .inl (fun j => ([144, 143, 144, 204] : List Int32).getD j 0)), (0, 2, .inl (fun j => ([61, 203] : List Int32).getD j 0)), (0, 2, .inl (fun j => ([6, 203] : List Int32).getD j 0)), (0, 2, .inl (fun j => ([60, 203] : List Int32).getD j 0)), (0, 2, .inl (fun j => ([7, 203] : List Int32).getD j 0)), (0, 3, .inl (fun j => ([63, 3, 201] : List Int32).getD j 0)), (0, 3, .inl (fun j => ([45, 200, 4] : List Int32).getD j 0)), (0, 2, .inl (fun j => ([4, 200] : List Int32).getD j 0)), (0, 2, .inl (fun j => ([147, 146] : List Int32).getD j 0)), (0, 5, .inl (fun j => ([43, 172, 147, 211, 146] : List Int32).getD j 0)), (0, 5, .inl (fun j => ([45, 172, 147, 212, 146] : List Int32).getD j 0)), (0, 2, .inl (fun j => ([149, 148] : List Int32).getD j 0)), (0, 5, .inl (fun j => ([42, 172, 149, 213, 148] : List Int32).getD j 0)), (0, 6, .inl (fun j => ([40, 170, 145, 41, 171, 150] : List Int32).getD j 0)), (0, 3, .inl (fun j => ([3, 210, 150] : List Int32).getD j 0)), (0, 5, .inl (fun j => ([91, 151, 152, 93, 150] : List Int32).getD j 0)), (0, 9, .inl (fun j => ([58, 40, 215, 3, 216, 154, 41, 217, 150] : List Int32).getD j 0)), (0, 8, .inl (fun j => ([123, 3, 218, 61, 3, 219, 125, 150] : List Int32).getD j 0)), (0, 11, .inl (fun j => ([35, 172, 40, 215, 155, 41, 220, 156, 3, 223, 150] : List Int32).getD j 0)), (0, 4, .inl (fun j => ([153, 143, 153, 214] : List Int32).getD j 0)), (0, 3, .inl (fun j => ([44, 151, 152] : List Int32).getD j 0)), (0, 2, .inl (fun j => ([3, 202] : List Int32).getD j 0)), (0, 1, .inl (fun j => ([144] : List Int32).getD j 0)), (0, 4, .inl (fun j => ([44, 3, 216, 154] : List Int32).getD j 0)), (0, 3, .inl (fun j => ([3, 216, 154] : List Int32).getD j 0)), (0, 2, .inl (fun j => ([16, 221] : List Int32).getD j 0)), (0, 4, .inl (fun j => ([17, 221, 3, 222] : List Int32).getD j 0)), (0, 4, .inl (fun j => ([18, 221, 3, 222] : List Int32).getD j 0)), (0, 4, .inl (fun j => ([19, 221, 3, 222] : List Int32).getD j 0))]
def aj_nw : List Cond := [.fieldLinkNest "DimShelf$Rows" 22 "DimShelf$Shelf" "cells" "[I" "DimShelf", .fieldLinkNest "DimShelf" 149 "DimShelf$Shelf" "unknowns" "I" "DimShelf", .fieldLinkNest "DimShelf" 225 "DimShelf$Shelf" "tables" "I" "DimShelf", .fieldLinkNest "DimShelf$Grouper" 60 "DimShelf$Shelf" "all" "I" "DimShelf", .fieldLinkNest "DimShelf$Reason" 35 "DimShelf$Shelf" "all" "I" "DimShelf", .fieldLinkNest "DimShelf$Worker" 127 "DimShelf$Shelf" "all" "I" "DimShelf", .fieldLinkNest "DimShelf" 222 "DimShelf$Shelf" "all" "I" "DimShelf", .fieldLinkNest "DimShelf$Worker" 103 "DimShelf$Shelf" "holding" "I" "DimShelf", .fieldLinkNest "DimShelf" 131 "DimShelf$Shelf" "holding" "I" "DimShelf", .fieldLinkNest "DimShelf$Listing" 59 "DimShelf$Shelf" "holding" "I" "DimShelf", .fieldLinkNest "DimShelf$Reason" 50 "DimShelf$Shelf" "parts" "I" "DimShelf", .fieldLinkNest "DimShelf" 228 "DimShelf$Shelf" "parts" "I" "DimShelf", .fieldLinkNest "DimShelf" 124 "DimShelf$Shelf" "learned" "I" "DimShelf", .fieldLinkNest "DimShelf$Reason" 32 "DimShelf$Shelf" "wasAsked" "Z" "DimShelf", .fieldLinkNest "DimShelf$Checker" 45 "DimShelf$Plan" "length" "I" "DimShelf", .fieldLinkNest "DimShelf$Worker" 45 "DimShelf$Plan" "length" "I" "DimShelf", .fieldLinkNest "DimShelf$Parser" 124 "DimShelf$Plan" "length" "I" "DimShelf", .fieldLinkNest "DimShelf$Checker" 54 "DimShelf$Plan" "fault" "I" "DimShelf", .fieldLinkNest "DimShelf$Parser" 73 "DimShelf$Plan" "fault" "I" "DimShelf", .fieldLinkNest "DimShelf" 103 "DimShelf$Plan" "fault" "I" "DimShelf", .fieldLinkNest "DimShelf$Worker" 68 "DimShelf$Plan" "fault" "I" "DimShelf", .fieldLinkNest "DimShelf" 110 "DimShelf$Plan" "place" "I" "DimShelf", .fieldLinkNest "DimShelf$Worker" 201 "DimShelf$Grouper" "picked" "I" "DimShelf", .fieldLinkNest "DimShelf$Worker" 211 "DimShelf$Grouper" "fold" "I" "DimShelf", .fieldLinkNest "DimShelf$Worker" 214 "DimShelf$Grouper" "folded" "I" "DimShelf", .fieldLinkNest "DimShelf$Grouper" 48 "DimShelf$Rows" "width" "I" "DimShelf", .fieldLinkNest "DimShelf$Checker" 150 "DimShelf$Rows" "width" "I" "DimShelf", .fieldLinkNest "DimShelf$Shelf" 81 "DimShelf$Rows" "width" "I" "DimShelf", .fieldLinkNest "DimShelf" 164 "DimShelf$Rows" "width" "I" "DimShelf", .fieldLinkNest "DimShelf$Worker" 244 "DimShelf$Rows" "width" "I" "DimShelf", .fieldLinkNest "DimShelf$Grouper" 33 "DimShelf$Rows" "height" "I" "DimShelf", .fieldLinkNest "DimShelf$Worker" 124 "DimShelf$Rows" "height" "I" "DimShelf", .fieldLinkNest "DimShelf$Shelf" 84 "DimShelf$Rows" "height" "I" "DimShelf", .fieldLinkNest "DimShelf" 161 "DimShelf$Rows" "height" "I" "DimShelf", .fieldLinkNest "DimShelf" 175 "DimShelf$Listing" "fewest" "I" "DimShelf", .fieldLinkNest "DimShelf" 178 "DimShelf$Listing" "most" "I" "DimShelf", .fieldLinkNest "DimShelf" 184 "DimShelf$Listing" "length" "I" "DimShelf", .fieldLinkNest "DimShelf" 181 "DimShelf$Listing" "sures" "I" "DimShelf", .methodLinkNest "DimShelf" 32 ⟨"DimShelf$Tokens", "<init>", "()V"⟩ "DimShelf", .methodLinkNest "DimShelf" 39 ⟨"DimShelf$Plan", "<init>", "()V"⟩ "DimShelf", .methodLinkNest "DimShelf$Worker" 9 ⟨"DimShelf$Grouper", "<init>", "()V"⟩ "DimShelf", .methodLinkNest "DimShelf$Worker" 22 ⟨"DimShelf$Rows", "<init>", "()V"⟩ "DimShelf", .methodLinkNest "DimShelf" 69 ⟨"DimShelf$Listing", "<init>", "()V"⟩ "DimShelf", .methodLinkNest "DimShelf" 76 ⟨"DimShelf$Reason", "<init>", "()V"⟩ "DimShelf", .methodLinkNest "DimShelf$Shelf" 80 ⟨"DimShelf$Rows", "<init>", "()V"⟩ "DimShelf"]
def aj_nwP : List Nat := [225, 234, 236, 238, 239, 240, 241, 242, 243, 244, 247, 248, 250, 252, 324, 325, 326, 328, 329, 330, 331, 333, 452, 454, 456, 484, 486, 487, 488, 489, 490, 491, 493, 494, 560, 562, 564, 566, 296, 315, 446, 477, 554, 598, 1064]
def aj_lk0 : List aj_L := [(9, 0, 10, 0, 1), (13, 0, 10, 1, 0), (17, 0, 10, 2, 0), (23, 0, 10, 3, 0), (27, 0, 10, 4, 0), (33, 0, 10, 5, 1), (40, 0, 10, 6, 1), (49, 0, 10, 7, 1), (56, 0, 10, 8, 1), (63, 0, 10, 9, 1), (70, 0, 10, 10, 1), (77, 0, 10, 11, 1), (83, 0, 10, 12, 1), (87, 0, 10, 13, 1), (149, 1, 7, 11, 0), (225, 1, 7, 12, 0), (222, 1, 7, 13, 0), (131, 1, 7, 14, 0), (228, 1, 7, 15, 0), (124, 1, 7, 16, 0), (103, 1, 4, 5, 0), (110, 1, 4, 6, 0), (164, 1, 6, 3, 0), (161, 1, 6, 4, 0), (175, 1, 2, 1, 0), (178, 1, 2, 2, 0), (184, 1, 2, 3, 0), (181, 1, 2, 4, 0), (1, 5, 0, 0, 0), (22, 3, 1, 0, 0), (46, 3, 9, 2, 0), (55, 3, 10, 2, 0), (62, 3, 11, 2, 0), (90, 2, 17, 1, 10), (94, 2, 2, 0, 7), (99, 2, 20, 2, 10), (231, 2, 21, 2, 8), (235, 2, 31, 0, 4), (236, 2, 32, 1, 3), (239, 2, 56, 1, 0), (106, 2, 97, 1, 9), (113, 2, 150, 0, 10), (245, 2, 151, 0, 2), (140, 2, 152, 0, 5), (116, 2, 155, 0, 10), (242, 2, 156, 1, 9), (120, 2, 157, 1, 7), (127, 2, 148, 1, 7), (134, 2, 160, 0, 7), (137, 2, 162, 1, 7), (141, 2, 164, 2, 5), (145, 2, 158, 1, 7), (153, 2, 124, 2, 7), (157, 2, 63, 1, 7), (167, 2, 95, 1, 7), (171, 2, 174, 2, 2), (187, 2, 103, 2, 6), (191, 2, 104, 2, 6), (194, 2, 108, 2, 6), (197, 2, 129, 3, 6), (201, 2, 114, 4, 6), (205, 2, 192, 1, 2), (208, 2, 193, 3, 10), (246, 6, 182, 1, 0), (249, 6, 183, 1, 0), (212, 2, 181, 1, 2), (215, 6, 184, 1, 0), (218, 2, 197, 3, 10), (252, 2, 130, 6, 6), (32, 4, 7, 0, 0), (39, 4, 8, 0, 0), (69, 4, 14, 0, 0), (76, 4, 15, 0, 0), (20, 12, 7, 0, 0), (30, 12, 8, 0, 0), (37, 12, 4, 0, 0), (44, 12, 3, 0, 0), (53, 12, 0, 0, 0), (60, 12, 9, 0, 0), (67, 12, 2, 0, 0), (74, 12, 5, 0, 0), (152, 10, 0, 0, -100000)]
def aj_lp0 : List (List Nat) := [[615], [616], [617], [618], [619], [620], [621], [622], [623], [624], [625], [626], [627], [628], [1], [2], [6], [8], [11], [12], [19], [21], [28], [33], [34], [35], [36], [37], [190, 191, 192], [195, 196, 169], [351, 352, 172], [406, 407, 173], [440, 441, 174], [662, 664, 3, 168], [674, 202, 203, 169], [675, 677, 4, 168], [679, 680, 681, 170], [717, 718, 719, 171], [721, 722, 723, 172], [910, 911, 912, 173], [1083, 1084, 1085, 174], [1324, 1326, 70, 168], [1328, 1329, 1330, 177], [1332, 1333, 1334, 178], [1344, 1346, 71, 168], [1348, 1349, 1350, 174], [1352, 1353, 1354, 169], [1360, 1316, 1317, 169], [1365, 1366, 1367, 169], [1373, 1374, 1375, 169], [1381, 1382, 1383, 178], [1418, 1357, 1358, 169], [1420, 1207, 1208, 169], [1425, 940, 941, 169], [1426, 1076, 1077, 169], [1427, 1428, 1429, 177], [1490, 1112, 1113, 176], [1491, 1116, 1117, 176], [1496, 1139, 1140, 176], [1505, 1235, 1236, 176], [1510, 1165, 1166, 176], [1515, 1516, 1517, 177], [1519, 1521, 80, 168], [1523, 1473, 177], [1524, 1476, 177], [1529, 1469, 1470, 177], [1534, 1480, 177], [1539, 1541, 81, 168], [1543, 1239, 1240, 176], [38, 297, 170], [39, 316, 171], [42, 555, 177], [43, 599, 178], [193, 194, 169], [294, 295, 170], [313, 314, 171], [349, 350, 172], [404, 405, 173], [438, 439, 174], [552, 553, 177], [596, 597, 178], [1419]]
def aj_lk1 : List aj_L := [(11, 0, 7, 0, 1), (15, 0, 7, 1, 1), (19, 0, 7, 2, 1), (22, 0, 7, 3, 1), (25, 0, 7, 4, 1), (28, 0, 7, 5, 1), (31, 0, 7, 6, 1), (37, 0, 7, 7, 1), (41, 0, 7, 8, 1), (44, 0, 7, 9, 1), (47, 0, 7, 10, 1), (56, 0, 7, 11, 0), (60, 0, 7, 12, 0), (63, 0, 7, 13, 0), (102, 0, 7, 14, 0), (66, 0, 7, 15, 0), (69, 0, 7, 16, 0), (72, 0, 7, 17, 0), (81, 1, 6, 3, 0), (84, 1, 6, 4, 0), (3, 5, 0, 0, 0), (50, 2, 2, 0, 7), (53, 2, 3, 0, 7), (76, 2, 4, 1, 7), (95, 2, 5, 3, 7), (99, 2, 6, 0, 7), (87, 2, 63, 1, 7), (91, 2, 66, 2, 7), (108, 2, 147, 1, 9), (105, 2, 158, 1, 7), (80, 4, 13, 0, 0), (35, 12, 6, 0, 0)]
def aj_lp1 : List (List Nat) := [[221], [222], [223], [224], [226], [227], [228], [229], [230], [231], [232], [233], [235], [237], [245], [246], [249], [251], [27], [32], [198, 191, 192], [201, 202, 203, 169], [205, 206, 207, 169], [209, 211, 0, 169], [213, 215, 1, 169], [217, 219, 2, 169], [1069, 940, 941, 169], [1070, 955, 956, 169], [1319, 1312, 1313, 174], [1356, 1357, 1358, 169], [44, 478, 176], [199, 476, 176]]
def aj_lk2 : List aj_L := [(9, 0, 8, 0, 1), (13, 0, 8, 1, 1), (16, 0, 8, 2, 1), (22, 0, 8, 3, 0), (60, 9, 0, 0, 0), (1, 5, 0, 0, 0), (26, 6, 22, 1, 0), (30, 2, 23, 3, 8), (38, 6, 24, 1, 0), (41, 2, 25, 3, 8), (44, 6, 26, 1, 0), (34, 2, 27, 3, 8), (54, 6, 28, 1, 0), (47, 2, 29, 3, 8), (50, 6, 30, 1, 0), (58, 11, 0, 0, 10)]
def aj_lp2 : List (List Nat) := [[300], [301], [302], [303], [707], [299, 191, 192], [683, 684, 170], [686, 688, 5, 170], [690, 691, 170], [693, 695, 6, 170], [697, 698, 170], [700, 702, 7, 170], [704, 705, 170], [709, 711, 8, 170], [714, 715, 170], [713]]
def aj_lk3 : List aj_L := [(9, 0, 4, 0, 1), (13, 0, 4, 1, 1), (16, 0, 4, 2, 1), (19, 0, 4, 3, 1), (22, 0, 4, 4, 0), (26, 0, 4, 5, 0), (29, 0, 4, 6, 0), (1, 5, 0, 0, 0)]
def aj_lp3 : List (List Nat) := [[319], [320], [321], [322], [323], [327], [332], [318, 191, 192]]
def aj_lk4 : List aj_L := [(24, 0, 3, 0, 1), (28, 0, 3, 1, 1), (11, 0, 3, 2, 1), (17, 0, 3, 3, 1), (21, 0, 3, 4, 1), (63, 0, 3, 5, 0), (32, 0, 3, 6, 0), (36, 0, 3, 7, 0), (39, 0, 3, 8, 0), (42, 0, 3, 9, 0), (45, 0, 3, 10, 0), (48, 0, 3, 11, 0), (51, 0, 3, 12, 0), (54, 0, 3, 13, 0), (57, 0, 3, 14, 0), (60, 0, 3, 15, 0), (124, 1, 4, 4, 0), (73, 1, 4, 5, 0), (3, 5, 0, 0, 0), (68, 2, 33, 1, 3), (78, 2, 34, 2, 3), (104, 2, 35, 1, 3), (111, 2, 36, 0, 3), (118, 2, 37, 1, 8), (115, 2, 38, 0, 3), (108, 2, 39, 2, 3), (127, 2, 40, 1, 4), (130, 2, 41, 2, 4), (133, 2, 42, 4, 4), (98, 2, 43, 1, 8), (101, 2, 44, 2, 4), (82, 2, 45, 1, 3), (88, 2, 46, 1, 8), (94, 6, 47, 2, 0), (85, 2, 55, 1, 3), (72, 10, 0, 0, 1000000)]
def aj_lp4 : List (List Nat) := [[355], [356], [357], [358], [359], [360], [361], [362], [363], [364], [365], [366], [367], [368], [369], [370], [16], [18], [354, 191, 192], [725, 727, 9, 172], [730, 732, 10, 172], [734, 736, 11, 172], [738, 740, 12, 172], [742, 743, 744, 170], [746, 748, 13, 172], [750, 752, 14, 172], [754, 755, 756, 171], [758, 759, 760, 171], [762, 763, 764, 171], [766, 767, 768, 170], [770, 771, 772, 171], [774, 776, 15, 172], [778, 779, 780, 170], [782, 783, 180], [906, 908, 16, 172], [729]]
def aj_lk5 : List aj_L := [(26, 0, 0, 0, 1), (30, 0, 0, 1, 1), (34, 0, 0, 2, 0), (13, 0, 0, 3, 1), (19, 0, 0, 4, 1), (38, 0, 0, 5, 0), (23, 0, 0, 6, 1), (42, 0, 0, 7, 0), (197, 0, 0, 8, 0), (45, 1, 4, 4, 0), (54, 1, 4, 5, 0), (150, 1, 6, 3, 0), (3, 5, 0, 0, 0), (50, 2, 57, 1, 4), (59, 2, 58, 2, 0), (178, 2, 59, 1, 0), (90, 2, 60, 1, 0), (69, 2, 61, 1, 4), (83, 2, 37, 1, 8), (140, 2, 62, 1, 7), (143, 2, 63, 1, 7), (97, 2, 64, 2, 0), (72, 2, 43, 1, 8), (77, 2, 44, 2, 4), (158, 2, 41, 2, 4), (208, 2, 65, 2, 0), (211, 2, 66, 2, 7), (214, 2, 67, 2, 0), (181, 2, 68, 2, 0), (161, 2, 69, 1, 0), (164, 2, 70, 2, 0), (185, 2, 71, 2, 0), (80, 2, 72, 1, 4), (188, 2, 73, 1, 0), (171, 2, 74, 2, 0), (191, 2, 75, 1, 0), (217, 2, 76, 1, 0), (194, 2, 77, 0, 0), (168, 2, 78, 2, 0), (155, 2, 40, 1, 4), (201, 2, 79, 3, 0), (175, 2, 46, 1, 8), (205, 2, 80, 1, 0), (63, 2, 81, 2, 0), (104, 2, 82, 1, 0), (87, 2, 83, 1, 8), (93, 2, 84, 1, 7), (66, 2, 85, 2, 0), (100, 2, 86, 1, 7), (107, 2, 87, 1, 7), (111, 2, 88, 1, 0), (136, 2, 89, 0, 7), (115, 2, 90, 0, 7), (119, 2, 91, 1, 0), (122, 2, 92, 2, 7), (126, 2, 93, 1, 7), (130, 2, 94, 1, 0), (147, 2, 95, 1, 7), (133, 2, 96, 1, 0)]
def aj_lp5 : List (List Nat) := [[410], [411], [412], [413], [414], [415], [416], [417], [418], [14], [17], [26], [409, 191, 192], [914, 915, 916, 171], [918, 920, 17, 173], [922, 924, 18, 173], [926, 928, 19, 173], [930, 931, 932, 171], [934, 743, 744, 170], [935, 936, 937, 169], [939, 940, 941, 169], [943, 945, 20, 173], [947, 767, 768, 170], [948, 771, 772, 171], [949, 759, 760, 171], [950, 952, 21, 173], [954, 955, 956, 169], [958, 960, 22, 173], [962, 964, 23, 173], [966, 968, 24, 173], [970, 972, 25, 173], [974, 976, 26, 173], [978, 979, 980, 171], [982, 984, 27, 173], [986, 988, 28, 173], [990, 992, 29, 173], [994, 996, 30, 173], [998, 1000, 31, 173], [1002, 1004, 32, 173], [1006, 755, 756, 171], [1007, 1009, 33, 173], [1011, 779, 780, 170], [1012, 1014, 34, 173], [1016, 1018, 35, 173], [1020, 1022, 36, 173], [1024, 1025, 1026, 170], [1028, 1029, 1030, 169], [1032, 1034, 37, 173], [1036, 1037, 1038, 169], [1040, 1041, 1042, 169], [1044, 1046, 38, 173], [1048, 1049, 1050, 169], [1052, 1053, 1054, 169], [1056, 1058, 39, 173], [1060, 1061, 1062, 169], [1065, 1066, 1067, 169], [1071, 1073, 40, 173], [1075, 1076, 1077, 169], [1079, 1081, 41, 173]]
def aj_lk6 : List aj_L := [(33, 0, 9, 0, 1), (37, 0, 9, 1, 1), (10, 0, 9, 2, 1), (18, 0, 9, 3, 1), (65, 0, 9, 4, 0), (23, 0, 9, 5, 0), (29, 0, 9, 6, 1), (41, 0, 9, 7, 0), (163, 0, 9, 8, 0), (166, 0, 9, 9, 0), (133, 0, 9, 10, 0), (136, 0, 9, 11, 0), (156, 0, 9, 12, 0), (79, 0, 9, 13, 0), (82, 0, 9, 14, 0), (127, 1, 7, 13, 0), (103, 1, 7, 14, 0), (45, 1, 4, 4, 0), (68, 1, 4, 5, 0), (201, 1, 1, 1, 0), (211, 1, 1, 2, 0), (214, 1, 1, 3, 0), (244, 1, 6, 3, 0), (124, 1, 6, 4, 0), (1, 5, 0, 0, 0), (62, 2, 3, 0, 7), (51, 2, 57, 1, 4), (73, 2, 98, 2, 9), (55, 2, 40, 1, 4), (85, 2, 63, 1, 7), (185, 2, 99, 1, 9), (117, 2, 100, 1, 9), (150, 2, 101, 1, 6), (188, 2, 106, 3, 9), (221, 2, 107, 1, 9), (106, 2, 72, 1, 4), (109, 2, 43, 1, 8), (114, 2, 44, 2, 4), (231, 2, 102, 2, 6), (227, 2, 108, 2, 6), (130, 2, 109, 2, 6), (147, 2, 110, 2, 6), (192, 2, 111, 2, 9), (236, 2, 112, 4, 6), (240, 2, 113, 6, 6), (195, 2, 115, 3, 9), (247, 2, 116, 1, 6), (250, 2, 118, 5, 9), (257, 2, 103, 2, 6), (260, 2, 104, 2, 6), (139, 2, 105, 4, 6), (254, 2, 119, 2, 6), (224, 2, 120, 0, 9), (198, 2, 121, 1, 9), (169, 2, 122, 3, 9), (173, 2, 123, 5, 9), (177, 2, 124, 2, 7), (181, 2, 114, 4, 6), (204, 2, 125, 1, 1), (208, 2, 126, 1, 1), (217, 2, 127, 3, 1), (58, 2, 140, 2, 9), (153, 2, 141, 2, 9), (159, 2, 142, 3, 9), (76, 2, 143, 2, 9), (89, 2, 144, 1, 9), (93, 2, 145, 1, 9), (96, 2, 146, 1, 9), (143, 2, 147, 1, 9), (99, 2, 148, 1, 7), (120, 2, 149, 2, 9), (9, 4, 12, 0, 0), (22, 4, 13, 0, 0), (7, 12, 1, 0, 0), (16, 12, 6, 0, 0), (235, 10, 0, 0, 181896)]
def aj_lp6 : List (List Nat) := [[506], [507], [508], [509], [510], [511], [512], [513], [514], [515], [516], [517], [518], [519], [520], [5], [7], [15], [20], [22], [23], [24], [29], [31], [443, 191, 192], [1087, 206, 207, 169], [1088, 915, 916, 171], [1089, 1091, 42, 174], [1093, 755, 756, 171], [1094, 940, 941, 169], [1095, 1097, 43, 174], [1099, 1101, 44, 174], [1103, 1104, 1105, 176], [1126, 1128, 45, 174], [1130, 1132, 46, 174], [1134, 979, 980, 171], [1135, 767, 768, 170], [1136, 771, 772, 171], [1137, 1108, 1109, 176], [1138, 1139, 1140, 176], [1142, 1143, 1144, 176], [1146, 1147, 1148, 176], [1150, 1152, 47, 174], [1155, 1156, 1157, 176], [1159, 1160, 1161, 176], [1168, 1170, 48, 174], [1172, 1173, 1174, 176], [1179, 1181, 49, 174], [1183, 1112, 1113, 176], [1184, 1116, 1117, 176], [1185, 1120, 1121, 176], [1186, 1187, 1188, 176], [1190, 1192, 50, 174], [1194, 1196, 51, 174], [1198, 1200, 52, 174], [1202, 1204, 53, 174], [1206, 1207, 1208, 169], [1210, 1165, 1166, 176], [1211, 1212, 1213, 175], [1215, 1216, 1217, 175], [1222, 1223, 1224, 175], [1283, 1285, 62, 174], [1287, 1289, 63, 174], [1291, 1293, 64, 174], [1295, 1297, 65, 174], [1299, 1301, 66, 174], [1303, 1305, 67, 174], [1307, 1309, 68, 174], [1311, 1312, 1313, 174], [1315, 1316, 1317, 169], [1320, 1322, 69, 174], [40, 447, 175], [41, 478, 176], [444, 445, 175], [475, 476, 176], [1154]]
def aj_lk7 : List aj_L := [(11, 0, 1, 0, 1), (29, 0, 1, 1, 0), (109, 0, 1, 2, 0), (99, 0, 1, 3, 0), (19, 0, 1, 4, 1), (22, 0, 1, 5, 1), (25, 0, 1, 6, 1), (60, 1, 7, 13, 0), (48, 1, 6, 3, 0), (33, 1, 6, 4, 0), (3, 5, 0, 0, 0), (36, 2, 104, 2, 6), (40, 2, 103, 2, 6), (44, 2, 105, 4, 6), (56, 2, 116, 1, 6), (63, 2, 128, 4, 1), (71, 2, 129, 3, 6), (75, 2, 131, 4, 1), (95, 2, 132, 5, 1), (79, 2, 114, 4, 6), (83, 2, 133, 5, 1), (102, 2, 134, 1, 1), (106, 2, 135, 2, 1), (87, 2, 136, 1, 1), (117, 2, 137, 2, 1), (91, 2, 109, 2, 6), (67, 6, 138, 2, 0), (121, 2, 130, 6, 6), (125, 2, 139, 3, 6)]
def aj_lp7 : List (List Nat) := [[450], [451], [453], [455], [457], [458], [459], [3], [25], [30], [449, 191, 192], [1219, 1116, 1117, 176], [1220, 1112, 1113, 176], [1221, 1120, 1121, 176], [1229, 1173, 1174, 176], [1230, 1232, 54, 175], [1234, 1235, 1236, 176], [1242, 1244, 55, 175], [1246, 1248, 56, 175], [1250, 1165, 1166, 176], [1251, 1253, 57, 175], [1255, 1257, 58, 175], [1259, 1261, 59, 175], [1266, 1268, 60, 175], [1270, 1272, 61, 175], [1274, 1143, 1144, 176], [1275, 1276, 175], [1278, 1239, 1240, 176], [1279, 1280, 1281, 176]]
def aj_lk8 : List aj_L := [(11, 0, 6, 0, 1), (15, 0, 6, 1, 1), (19, 0, 6, 2, 1), (25, 0, 6, 3, 0), (29, 0, 6, 4, 0), (22, 1, 7, 3, 2), (3, 5, 0, 0, 0), (38, 2, 102, 2, 6), (48, 2, 103, 2, 6), (52, 2, 104, 2, 6), (56, 2, 105, 4, 6), (64, 2, 108, 2, 6), (60, 2, 114, 4, 6), (32, 6, 117, 2, 0), (67, 2, 130, 6, 6)]
def aj_lp8 : List (List Nat) := [[481], [482], [483], [485], [492], [0], [480, 191, 192], [1107, 1108, 1109, 176], [1111, 1112, 1113, 176], [1115, 1116, 1117, 176], [1119, 1120, 1121, 176], [1163, 1139, 1140, 176], [1164, 1165, 1166, 176], [1176, 1177, 182], [1238, 1239, 1240, 176]]
def aj_lk9 : List aj_L := [(9, 0, 2, 0, 0), (66, 0, 2, 1, 0), (69, 0, 2, 2, 0), (35, 0, 2, 3, 0), (38, 0, 2, 4, 0), (15, 0, 2, 5, 0), (19, 0, 2, 6, 0), (24, 0, 2, 7, 1), (53, 0, 2, 8, 0), (29, 0, 2, 9, 1), (32, 0, 2, 10, 1), (59, 1, 7, 14, 0), (3, 5, 0, 0, 0), (45, 2, 63, 1, 7), (49, 2, 175, 2, 2), (72, 2, 158, 1, 7), (75, 2, 129, 3, 6), (88, 2, 176, 1, 2), (96, 6, 177, 2, 0), (92, 6, 178, 3, 0), (56, 2, 179, 2, 2), (102, 2, 180, 6, 2), (41, 2, 181, 1, 2), (106, 6, 182, 1, 0), (109, 6, 183, 1, 0), (112, 2, 130, 6, 6), (116, 6, 184, 1, 0), (62, 2, 185, 1, 2), (91, 10, 0, 0, 32768)]
def aj_lp9 : List (List Nat) := [[558], [559], [561], [563], [565], [567], [568], [569], [570], [571], [572], [9], [557, 191, 192], [1431, 940, 941, 169], [1432, 1434, 75, 177], [1436, 1357, 1358, 169], [1437, 1235, 1236, 176], [1440, 1442, 76, 177], [1444, 1445, 182], [1457, 1458, 177], [1460, 1462, 77, 177], [1464, 1466, 78, 177], [1468, 1469, 1470, 177], [1472, 1473, 177], [1475, 1476, 177], [1478, 1239, 1240, 176], [1479, 1480, 177], [1482, 1484, 79, 177], [1456]]
def aj_lk10 : List aj_L := [(17, 0, 5, 0, 0), (25, 0, 5, 1, 0), (11, 0, 5, 2, 1), (29, 0, 5, 3, 0), (35, 1, 7, 13, 0), (50, 1, 7, 15, 0), (32, 1, 7, 17, 0), (3, 5, 0, 0, 0), (21, 2, 165, 1, 5), (38, 2, 166, 1, 7), (42, 2, 167, 1, 7), (46, 2, 168, 1, 5), (53, 6, 169, 6, 0), (61, 6, 170, 1, 0), (57, 2, 171, 2, 5)]
def aj_lp10 : List (List Nat) := [[602], [603], [604], [605], [4], [10], [13], [601, 191, 192], [1385, 1387, 72, 178], [1389, 1390, 1391, 169], [1393, 1394, 1395, 169], [1397, 1399, 73, 178], [1401, 1402, 178], [1404, 1405, 184], [1410, 1412, 74, 178]]
def aj_lk11 : List aj_L := [(23, 9, 1, 0, 0), (27, 9, 2, 0, 0), (30, 9, 3, 0, 0), (33, 9, 4, 0, 0), (36, 9, 5, 0, 0), (39, 9, 6, 0, 0), (42, 9, 7, 0, 0), (45, 9, 8, 0, 0), (48, 9, 9, 0, 0), (51, 9, 10, 0, 0), (54, 9, 11, 0, 0), (57, 9, 12, 0, 0), (60, 9, 13, 0, 0), (63, 9, 14, 0, 0), (66, 9, 15, 0, 0), (69, 9, 16, 0, 0), (72, 9, 17, 0, 0), (75, 9, 18, 0, 0), (78, 9, 19, 0, 0), (81, 9, 20, 0, 0), (84, 9, 21, 0, 0), (87, 9, 22, 0, 0), (102, 9, 23, 0, 0), (105, 9, 24, 0, 0), (108, 9, 25, 0, 0), (111, 9, 26, 0, 0), (93, 9, 27, 0, 0), (96, 9, 28, 0, 0), (99, 9, 29, 0, 0), (114, 9, 30, 0, 0), (117, 9, 31, 0, 0), (120, 9, 32, 0, 0), (123, 9, 33, 0, 0), (126, 9, 34, 0, 0), (129, 9, 35, 0, 0), (132, 9, 36, 0, 0), (159, 9, 37, 0, 0), (162, 9, 38, 0, 0), (165, 9, 39, 0, 0), (168, 9, 40, 0, 0), (138, 9, 41, 0, 0), (141, 9, 42, 0, 0), (144, 9, 43, 0, 0), (147, 9, 44, 0, 0), (150, 9, 45, 0, 0), (153, 9, 46, 0, 0), (171, 9, 47, 0, 0), (174, 9, 48, 0, 0), (177, 9, 49, 0, 0), (180, 9, 50, 0, 0), (9, 6, 48, 1, 0), (13, 6, 49, 2, 0), (17, 6, 50, 2, 0), (90, 6, 51, 1, 0), (20, 6, 52, 2, 0), (135, 6, 53, 1, 0), (156, 6, 54, 1, 0)]
def aj_lp11 : List (List Nat) := [[788], [790], [792], [794], [796], [798], [803], [805], [807], [809], [811], [813], [815], [817], [819], [824], [826], [828], [830], [832], [834], [836], [841], [843], [845], [847], [849], [851], [853], [858], [860], [862], [864], [866], [868], [870], [875], [877], [879], [881], [883], [885], [887], [889], [891], [893], [898], [900], [902], [904], [785, 786, 180], [800, 801, 180], [821, 822, 180], [838, 839, 180], [855, 856, 180], [872, 873, 180], [895, 896, 180]]
def aj_lk12 : List aj_L := []
def aj_lp12 : List (List Nat) := []
def aj_lk13 : List aj_L := [(265, 10, 0, 0, 1431655765), (266, 10, 0, 0, 858993459), (267, 10, 0, 0, 252645135)]
def aj_lp13 : List (List Nat) := [[1407], [1408], [1409]]
def aj_lk14 : List aj_L := [(302, 0, 11, 0, 0), (7, 0, 11, 1, 1), (13, 0, 11, 2, 1), (17, 0, 11, 3, 1), (20, 0, 11, 4, 1), (23, 0, 11, 5, 1), (26, 0, 11, 6, 1), (29, 0, 11, 7, 1), (32, 0, 11, 8, 1), (35, 0, 11, 9, 1), (39, 0, 11, 10, 1), (42, 0, 11, 11, 1), (45, 0, 11, 12, 1), (308, 0, 11, 13, 0), (48, 0, 11, 14, 1), (51, 0, 11, 15, 1), (54, 0, 11, 16, 1), (57, 0, 11, 17, 1), (60, 0, 11, 18, 1), (64, 0, 11, 19, 1), (68, 0, 11, 20, 1), (71, 0, 11, 21, 1), (74, 0, 11, 22, 1), (123, 0, 11, 23, 0), (203, 0, 11, 24, 0), (77, 0, 11, 25, 0), (163, 0, 11, 26, 0), (157, 0, 11, 27, 0), (154, 0, 11, 28, 0), (160, 0, 11, 29, 0), (181, 0, 11, 30, 0), (184, 0, 11, 31, 0), (210, 0, 11, 32, 0), (220, 0, 11, 33, 0), (223, 0, 11, 34, 0), (229, 0, 11, 35, 0), (226, 0, 11, 36, 0), (244, 0, 11, 37, 0), (232, 0, 11, 38, 0), (238, 0, 11, 39, 0), (259, 0, 11, 40, 0), (188, 0, 11, 41, 0), (81, 0, 11, 42, 1), (270, 0, 11, 43, 0), (273, 0, 11, 44, 0), (197, 0, 11, 45, 0), (191, 0, 11, 46, 0), (194, 0, 11, 47, 0), (84, 0, 11, 48, 1), (87, 0, 11, 49, 1), (385, 0, 11, 50, 0), (388, 0, 11, 51, 0), (439, 0, 11, 52, 0), (445, 0, 11, 53, 0), (448, 0, 11, 54, 0), (90, 0, 11, 55, 1), (458, 0, 11, 56, 0), (93, 0, 11, 57, 1), (469, 0, 11, 58, 0), (96, 0, 11, 59, 1), (99, 0, 11, 60, 1), (497, 0, 11, 61, 0), (102, 0, 11, 62, 1), (105, 0, 11, 63, 1), (528, 0, 11, 64, 0), (516, 0, 11, 65, 0), (108, 0, 11, 66, 1), (522, 0, 11, 67, 0), (311, 0, 11, 68, 0), (113, 0, 11, 69, 0), (117, 0, 11, 70, 0), (120, 0, 11, 71, 1), (1, 5, 0, 0, 0), (126, 2, 201, 1, 11), (305, 2, 204, 0, 11), (314, 2, 205, 0, 11), (200, 2, 206, 0, 11), (130, 2, 207, 1, 11), (166, 2, 208, 1, 11), (170, 2, 209, 1, 11), (173, 2, 210, 2, 11), (177, 6, 211, 1, 0), (317, 2, 212, 1, 11), (320, 2, 213, 0, 11), (216, 2, 214, 0, 11), (206, 2, 215, 2, 11), (241, 2, 216, 0, 11), (247, 2, 217, 2, 11), (251, 2, 218, 2, 11), (335, 2, 219, 1, 11), (213, 2, 220, 1, 11), (235, 2, 221, 0, 11), (338, 2, 222, 1, 11), (341, 2, 223, 1, 11), (344, 2, 224, 0, 11), (347, 2, 225, 2, 11), (351, 2, 226, 3, 11), (262, 6, 227, 3, 0), (266, 6, 228, 4, 0), (323, 2, 229, 0, 11), (358, 2, 230, 1, 11), (355, 2, 231, 2, 11), (360, 2, 232, 1, 11), (363, 2, 233, 2, 11), (326, 2, 234, 0, 11), (288, 2, 235, 0, 11), (366, 6, 236, 3, 0), (369, 2, 237, 0, 11), (279, 2, 238, 0, 11), (291, 2, 239, 0, 11), (294, 2, 240, 4, 11), (255, 2, 241, 3, 11), (298, 6, 242, 3, 0), (282, 2, 243, 1, 11), (285, 2, 244, 0, 11), (276, 2, 245, 1, 11), (329, 2, 246, 0, 11), (372, 2, 247, 2, 11), (332, 2, 248, 0, 11), (375, 2, 249, 0, 11), (403, 2, 250, 1, 11), (378, 2, 251, 2, 11), (381, 2, 252, 4, 11), (406, 2, 253, 1, 11), (418, 2, 254, 1, 11), (451, 2, 255, 1, 11), (442, 2, 256, 1, 11), (454, 2, 257, 5, 11), (433, 2, 258, 4, 11), (430, 2, 259, 1, 11), (421, 2, 260, 1, 11), (461, 2, 261, 2, 11), (424, 2, 262, 1, 11), (427, 2, 263, 1, 11), (415, 2, 264, 0, 11), (465, 2, 265, 4, 11), (475, 2, 266, 2, 11), (472, 2, 267, 5, 11), (478, 2, 268, 3, 11), (488, 2, 269, 4, 11), (481, 2, 270, 5, 11), (485, 2, 271, 2, 11), (491, 2, 272, 2, 11), (409, 2, 273, 1, 11), (412, 2, 274, 0, 11), (391, 2, 275, 2, 11), (436, 2, 276, 2, 11), (394, 2, 277, 2, 11), (397, 2, 278, 2, 11), (400, 2, 279, 1, 11), (494, 2, 282, 0, 11), (500, 2, 286, 1, 11), (503, 2, 287, 1, 11), (506, 2, 289, 1, 11), (510, 2, 291, 1, 11), (513, 2, 292, 1, 11), (531, 2, 293, 4, 11), (519, 2, 294, 1, 11), (537, 2, 295, 3, 11), (534, 2, 296, 3, 11), (525, 2, 298, 2, 11), (541, 2, 307, 3, 11), (544, 2, 309, 0, 11), (67, 10, 0, 0, 48000), (509, 10, 0, 0, -100000), (111, 11, 0, 0, -1), (134, 11, 0, 0, 33053979968501614), (136, 11, 0, 0, 499850046565), (138, 11, 0, 0, 7499639), (140, 11, 0, 0, 26982), (142, 11, 0, 0, 107118487239027), (144, 11, 0, 0, 107127011501426), (146, 11, 0, 0, 427071729268), (148, 11, 0, 0, 465557353332), (150, 11, 0, 0, 1836020596), (152, 11, 0, 0, 7566701)]
def aj_lp14 : List (List Nat) := [[1556], [1557], [1558], [1559], [1560], [1561], [1562], [1563], [1564], [1565], [1566], [1567], [1568], [1569], [1570], [1571], [1572], [1573], [1574], [1575], [1576], [1577], [1578], [1579], [1580], [1581], [1582], [1583], [1584], [1585], [1586], [1587], [1588], [1589], [1590], [1591], [1592], [1593], [1594], [1595], [1596], [1597], [1598], [1599], [1600], [1601], [1602], [1603], [1604], [1605], [1606], [1607], [1608], [1609], [1610], [1611], [1612], [1613], [1614], [1615], [1616], [1617], [1618], [1619], [1620], [1621], [1622], [1623], [1624], [1625], [1626], [1627], [1553, 191, 192], [1778, 1780, 82, 179], [1790, 1792, 83, 179], [1794, 1796, 84, 179], [1798, 1800, 85, 179], [1802, 1804, 86, 179], [1806, 1808, 87, 179], [1810, 1812, 88, 179], [1814, 1816, 89, 179], [1818, 1819, 179], [1831, 1833, 90, 179], [1835, 1837, 91, 179], [1839, 1841, 92, 179], [1843, 1845, 93, 179], [1847, 1849, 94, 179], [1851, 1853, 95, 179], [1855, 1857, 96, 179], [1859, 1861, 97, 179], [1863, 1865, 98, 179], [1867, 1869, 99, 179], [1871, 1873, 100, 179], [1875, 1877, 101, 179], [1879, 1881, 102, 179], [1883, 1885, 103, 179], [1887, 1889, 104, 179], [1891, 1892, 179], [1894, 1895, 179], [1897, 1899, 105, 179], [1901, 1903, 106, 179], [1905, 1907, 107, 179], [1909, 1911, 108, 179], [1913, 1915, 109, 179], [1917, 1919, 110, 179], [1921, 1923, 111, 179], [1925, 1926, 179], [1928, 1930, 112, 179], [1932, 1934, 113, 179], [1936, 1938, 114, 179], [1940, 1942, 115, 179], [1944, 1946, 116, 179], [1948, 1949, 179], [1951, 1953, 117, 179], [1955, 1957, 118, 179], [1959, 1961, 119, 179], [1963, 1965, 120, 179], [1967, 1969, 121, 179], [1971, 1973, 122, 179], [1975, 1977, 123, 179], [1979, 1981, 124, 179], [1983, 1985, 125, 179], [1987, 1989, 126, 179], [1991, 1993, 127, 179], [1995, 1997, 128, 179], [1999, 2001, 129, 179], [2003, 2005, 130, 179], [2007, 2009, 131, 179], [2011, 2013, 132, 179], [2015, 2017, 133, 179], [2019, 2021, 134, 179], [2023, 2025, 135, 179], [2027, 2029, 136, 179], [2031, 2033, 137, 179], [2035, 2037, 138, 179], [2039, 2041, 139, 179], [2043, 2045, 140, 179], [2047, 2049, 141, 179], [2051, 2053, 142, 179], [2055, 2057, 143, 179], [2059, 2061, 144, 179], [2063, 2065, 145, 179], [2067, 2069, 146, 179], [2071, 2073, 147, 179], [2075, 2077, 148, 179], [2079, 2081, 149, 179], [2083, 2085, 150, 179], [2087, 2089, 151, 179], [2091, 2093, 152, 179], [2095, 2097, 153, 179], [2107, 2109, 154, 179], [2123, 2125, 155, 179], [2127, 2129, 156, 179], [2135, 2137, 157, 179], [2144, 2146, 158, 179], [2148, 2150, 159, 179], [2152, 2154, 160, 179], [2156, 2158, 161, 179], [2160, 2162, 162, 179], [2164, 2166, 163, 179], [2172, 2174, 164, 179], [2208, 2210, 165, 179], [2216, 2218, 166, 179], [1554], [2139], [1555], [1821], [1822], [1823], [1824], [1825], [1826], [1827], [1828], [1829], [1830]]
def aj_lk15 : List aj_L := [(9, 3, 0, 0, 0), (13, 2, 16, 5, 10), (18, 2, 18, 1, 10), (23, 2, 19, 0, 10), (28, 2, 153, 0, 10), (32, 2, 154, 0, 10), (36, 2, 159, 0, 10), (41, 2, 161, 0, 10), (45, 2, 163, 1, 10), (49, 2, 172, 2, 10), (54, 2, 173, 2, 10), (58, 2, 186, 4, 10), (63, 2, 187, 2, 10), (67, 2, 188, 3, 10), (72, 2, 189, 2, 10), (76, 2, 190, 4, 10), (80, 2, 191, 3, 10), (85, 2, 194, 3, 10), (89, 2, 195, 2, 10), (93, 2, 196, 2, 10), (97, 2, 198, 1, 10), (12, 3, 199, 0, 0), (17, 2, 200, 5, 11), (22, 2, 202, 1, 11), (27, 2, 203, 0, 11), (31, 2, 280, 0, 11), (35, 2, 281, 0, 11), (40, 2, 283, 0, 11), (44, 2, 284, 0, 11), (48, 2, 285, 1, 11), (53, 2, 288, 2, 11), (57, 2, 290, 2, 11), (62, 2, 297, 4, 11), (66, 2, 299, 2, 11), (71, 2, 300, 3, 11), (75, 2, 301, 2, 11), (79, 2, 302, 4, 11), (84, 2, 303, 3, 11), (88, 2, 304, 3, 11), (92, 2, 305, 2, 11), (96, 2, 306, 2, 11), (100, 2, 308, 1, 11), (7, 12, 10, 0, 0), (10, 12, 11, 0, 0)]
def aj_lp15 : List (List Nat) := [[187, 188, 168], [658, 659, 660, 168], [666, 667, 668, 168], [670, 671, 672, 168], [1336, 1337, 1338, 168], [1340, 1341, 1342, 168], [1361, 1362, 1363, 168], [1369, 1370, 1371, 168], [1377, 1378, 1379, 168], [1414, 1415, 1416, 168], [1421, 1422, 1423, 168], [1486, 1487, 1488, 168], [1492, 1493, 1494, 168], [1497, 1498, 1499, 168], [1501, 1502, 1503, 168], [1506, 1507, 1508, 168], [1511, 1512, 1513, 168], [1525, 1526, 1527, 168], [1530, 1531, 1532, 168], [1535, 1536, 1537, 168], [1544, 1545, 1546, 168], [1550, 1551, 179], [1774, 1775, 1776, 179], [1782, 1783, 1784, 179], [1786, 1787, 1788, 179], [2099, 2100, 2101, 179], [2103, 2104, 2105, 179], [2111, 2112, 2113, 179], [2115, 2116, 2117, 179], [2119, 2120, 2121, 179], [2131, 2132, 2133, 179], [2140, 2141, 2142, 179], [2168, 2169, 2170, 179], [2176, 2177, 2178, 179], [2180, 2181, 2182, 179], [2184, 2185, 2186, 179], [2188, 2189, 2190, 179], [2192, 2193, 2194, 179], [2196, 2197, 2198, 179], [2200, 2201, 2202, 179], [2204, 2205, 2206, 179], [2212, 2213, 2214, 179], [185, 186, 168], [1548, 1549, 179]]
def aj_owns : List String := ["DimShelf", "DimShelf$Shelf", "DimShelf$Tokens", "DimShelf$Plan", "DimShelf$Parser", "DimShelf$Checker", "DimShelf$Worker", "DimShelf$Grouper", "DimShelf$Rows", "DimShelf$Listing", "DimShelf$Reason", "DimShelf$Grammar", "java/util/Arrays", "java/lang/Integer", "DimShelfModel", "DimShelfLaw"]
/-- the bytes of the code that stands at the place i of the tables -/
def aj_bc (i : Nat) : ByteArray := match lw_tbl[i]? with
  | some (.code _ b _ _) => b
  | _ => ⟨#[]⟩
def aj_rt0 : List (MethodName × Nat × Nat × Option FieldType × Nat × List aj_L × String) := [(⟨"DimShelf", "<init>", "()V"⟩, 189, 1, none, 0, aj_lk0, "DimShelf"),
  (⟨"DimShelf$Shelf", "<init>", "()V"⟩, 197, 1, none, 0, aj_lk1, "DimShelf$Shelf"),
  (⟨"DimShelf$Shelf", "empty", "()V"⟩, 204, 1, none, 0, aj_lk1, "DimShelf$Shelf"),
  (⟨"DimShelf$Shelf", "settle", "()V"⟩, 208, 5, none, 0, aj_lk1, "DimShelf$Shelf"),
  (⟨"DimShelf$Shelf", "sizeOf", "(I)I"⟩, 212, 2, (some (FieldType.int)), 1, aj_lk1, "DimShelf$Shelf"),
  (⟨"DimShelf$Shelf", "setCell", "(III)V"⟩, 216, 5, none, 3, aj_lk1, "DimShelf$Shelf"),
  (⟨"DimShelf$Shelf", "hold", "()V"⟩, 220, 2, none, 0, aj_lk1, "DimShelf$Shelf"),
  (⟨"DimShelf$Tokens", "<init>", "()V"⟩, 298, 1, none, 0, aj_lk2, "DimShelf$Tokens"),
  (⟨"DimShelf$Plan", "<init>", "()V"⟩, 317, 1, none, 0, aj_lk3, "DimShelf$Plan"),
  (⟨"DimShelf$Parser", "<init>", "(LDimShelf$Tokens;LDimShelf$Plan;)V"⟩, 353, 3, none, 2, aj_lk4, "DimShelf$Parser"),
  (⟨"DimShelf$Checker", "<init>", "(LDimShelf$Tokens;LDimShelf$Plan;)V"⟩, 408, 3, none, 2, aj_lk5, "DimShelf$Checker"),
  (⟨"DimShelf$Worker", "<init>", "(LDimShelf$Tokens;LDimShelf$Plan;)V"⟩, 442, 3, none, 2, aj_lk6, "DimShelf$Worker"),
  (⟨"DimShelf$Grouper", "<init>", "()V"⟩, 448, 1, none, 0, aj_lk7, "DimShelf$Grouper"),
  (⟨"DimShelf$Rows", "<init>", "()V"⟩, 479, 1, none, 0, aj_lk8, "DimShelf$Rows"),
  (⟨"DimShelf$Listing", "<init>", "()V"⟩, 556, 1, none, 0, aj_lk9, "DimShelf$Listing"),
  (⟨"DimShelf$Reason", "<init>", "()V"⟩, 600, 1, none, 0, aj_lk10, "DimShelf$Reason"),
  (⟨"DimShelf", "feed", "(IIIII)I"⟩, 661, 6, (some (FieldType.int)), 5, aj_lk0, "DimShelf"),
  (⟨"DimShelf", "put", "(I)V"⟩, 665, 3, none, 1, aj_lk0, "DimShelf"),
  (⟨"DimShelf", "back", "(I)I"⟩, 669, 2, (some (FieldType.int)), 1, aj_lk0, "DimShelf"),
  (⟨"DimShelf", "read", "()I"⟩, 673, 2, (some (FieldType.int)), 0, aj_lk0, "DimShelf"),
  (⟨"DimShelf", "understand", "(ILDimShelf$Shelf;)V"⟩, 678, 3, none, 2, aj_lk0, "DimShelf"),
  (⟨"DimShelf$Tokens", "scan", "([CI)V"⟩, 682, 7, none, 2, aj_lk2, "DimShelf$Tokens"),
  (⟨"DimShelf$Tokens", "isBlank", "(C)Z"⟩, 685, 1, (some (FieldType.boolean)), 1, aj_lk2, "DimShelf$Tokens"),
  (⟨"DimShelf$Tokens", "scanOne", "([CII)I"⟩, 689, 6, (some (FieldType.int)), 3, aj_lk2, "DimShelf$Tokens"),
  (⟨"DimShelf$Tokens", "isLetter", "(C)Z"⟩, 692, 1, (some (FieldType.boolean)), 1, aj_lk2, "DimShelf$Tokens"),
  (⟨"DimShelf$Tokens", "scanName", "([CII)I"⟩, 696, 7, (some (FieldType.int)), 3, aj_lk2, "DimShelf$Tokens"),
  (⟨"DimShelf$Tokens", "isDigit", "(C)Z"⟩, 699, 1, (some (FieldType.boolean)), 1, aj_lk2, "DimShelf$Tokens"),
  (⟨"DimShelf$Tokens", "add", "(IIJ)V"⟩, 703, 5, none, 3, aj_lk2, "DimShelf$Tokens"),
  (⟨"DimShelf$Tokens", "kindOf", "(J)I"⟩, 706, 3, (some (FieldType.int)), 1, aj_lk2, "DimShelf$Tokens"),
  (⟨"DimShelf$Tokens", "scanNumber", "([CII)I"⟩, 712, 7, (some (FieldType.int)), 3, aj_lk2, "DimShelf$Tokens"),
  (⟨"DimShelf$Tokens", "isSign", "(I)Z"⟩, 716, 1, (some (FieldType.boolean)), 1, aj_lk2, "DimShelf$Tokens"),
  (⟨"DimShelf$Plan", "empty", "()V"⟩, 720, 1, none, 0, aj_lk3, "DimShelf$Plan"),
  (⟨"DimShelf$Parser", "parse", "(I)V"⟩, 724, 5, none, 1, aj_lk4, "DimShelf$Parser"),
  (⟨"DimShelf$Parser", "push", "(I)V"⟩, 728, 2, none, 1, aj_lk4, "DimShelf$Parser"),
  (⟨"DimShelf$Parser", "note", "(II)V"⟩, 733, 3, none, 2, aj_lk4, "DimShelf$Parser"),
  (⟨"DimShelf$Parser", "hasRoom", "(I)Z"⟩, 737, 2, (some (FieldType.boolean)), 1, aj_lk4, "DimShelf$Parser"),
  (⟨"DimShelf$Parser", "hasRoomForTable", "()Z"⟩, 741, 1, (some (FieldType.boolean)), 0, aj_lk4, "DimShelf$Parser"),
  (⟨"DimShelf$Tokens", "wordAt", "(I)J"⟩, 745, 2, (some (FieldType.long)), 1, aj_lk2, "DimShelf$Tokens"),
  (⟨"DimShelf$Parser", "hasRoomForRow", "()Z"⟩, 749, 4, (some (FieldType.boolean)), 0, aj_lk4, "DimShelf$Parser"),
  (⟨"DimShelf$Parser", "keep", "(II)V"⟩, 753, 3, none, 2, aj_lk4, "DimShelf$Parser"),
  (⟨"DimShelf$Plan", "argAt", "(I)I"⟩, 757, 2, (some (FieldType.int)), 1, aj_lk3, "DimShelf$Plan"),
  (⟨"DimShelf$Plan", "setArg", "(II)V"⟩, 761, 3, none, 2, aj_lk3, "DimShelf$Plan"),
  (⟨"DimShelf$Plan", "add", "(IIII)V"⟩, 765, 5, none, 4, aj_lk3, "DimShelf$Plan"),
  (⟨"DimShelf$Tokens", "startAt", "(I)I"⟩, 769, 2, (some (FieldType.int)), 1, aj_lk2, "DimShelf$Tokens"),
  (⟨"DimShelf$Plan", "fail", "(II)V"⟩, 773, 3, none, 2, aj_lk3, "DimShelf$Plan"),
  (⟨"DimShelf$Parser", "expand", "(I)V"⟩, 777, 4, none, 1, aj_lk4, "DimShelf$Parser"),
  (⟨"DimShelf$Tokens", "kindAt", "(I)I"⟩, 781, 2, (some (FieldType.int)), 1, aj_lk2, "DimShelf$Tokens"),
  (⟨"DimShelf$Grammar", "rule", "(II)[I"⟩, 784, 2, (some (FieldType.array FieldType.int)), 2, aj_lk11, "DimShelf$Grammar"),
  (⟨"DimShelf$Grammar", "textRule", "(I)[I"⟩, 787, 1, (some (FieldType.array FieldType.int)), 1, aj_lk11, "DimShelf$Grammar"),
  (⟨"DimShelf$Grammar", "tellRule", "(II)[I"⟩, 802, 2, (some (FieldType.array FieldType.int)), 2, aj_lk11, "DimShelf$Grammar"),
  (⟨"DimShelf$Grammar", "condRule", "(II)[I"⟩, 823, 2, (some (FieldType.array FieldType.int)), 2, aj_lk11, "DimShelf$Grammar"),
  (⟨"DimShelf$Grammar", "relationRule", "(I)[I"⟩, 840, 1, (some (FieldType.array FieldType.int)), 1, aj_lk11, "DimShelf$Grammar"),
  (⟨"DimShelf$Grammar", "queryRule", "(II)[I"⟩, 857, 2, (some (FieldType.array FieldType.int)), 2, aj_lk11, "DimShelf$Grammar"),
  (⟨"DimShelf$Grammar", "stepRule", "(I)[I"⟩, 874, 1, (some (FieldType.array FieldType.int)), 1, aj_lk11, "DimShelf$Grammar"),
  (⟨"DimShelf$Grammar", "foldRule", "(I)[I"⟩, 897, 1, (some (FieldType.array FieldType.int)), 1, aj_lk11, "DimShelf$Grammar"),
  (⟨"DimShelf$Parser", "take", "(I)V"⟩, 909, 2, none, 1, aj_lk4, "DimShelf$Parser"),
  (⟨"DimShelf$Checker", "check", "(LDimShelf$Shelf;)V"⟩, 913, 4, none, 1, aj_lk5, "DimShelf$Checker"),
  (⟨"DimShelf$Plan", "noteAt", "(I)I"⟩, 917, 2, (some (FieldType.int)), 1, aj_lk3, "DimShelf$Plan"),
  (⟨"DimShelf$Checker", "checkQuery", "(II)V"⟩, 921, 3, none, 2, aj_lk5, "DimShelf$Checker"),
  (⟨"DimShelf$Checker", "load", "(I)V"⟩, 925, 5, none, 1, aj_lk5, "DimShelf$Checker")]
def aj_rt1 : List (MethodName × Nat × Nat × Option FieldType × Nat × List aj_L × String) := [(⟨"DimShelf$Checker", "wordNear", "(I)J"⟩, 929, 2, (some (FieldType.long)), 1, aj_lk5, "DimShelf$Checker"),
  (⟨"DimShelf$Plan", "nearAt", "(I)I"⟩, 933, 2, (some (FieldType.int)), 1, aj_lk3, "DimShelf$Plan"),
  (⟨"DimShelf$Shelf", "tableNamed", "(J)I"⟩, 938, 4, (some (FieldType.int)), 1, aj_lk1, "DimShelf$Shelf"),
  (⟨"DimShelf$Shelf", "rowsOf", "(I)LDimShelf$Rows;"⟩, 942, 2, (some (FieldType.object "DimShelf$Rows")), 1, aj_lk1, "DimShelf$Shelf"),
  (⟨"DimShelf$Checker", "failNear", "(II)V"⟩, 946, 3, none, 2, aj_lk5, "DimShelf$Checker"),
  (⟨"DimShelf$Checker", "setWidth", "(II)V"⟩, 953, 3, none, 2, aj_lk5, "DimShelf$Checker"),
  (⟨"DimShelf$Shelf", "columnName", "(II)J"⟩, 957, 4, (some (FieldType.long)), 2, aj_lk1, "DimShelf$Shelf"),
  (⟨"DimShelf$Checker", "addColumn", "(IJ)V"⟩, 961, 5, none, 2, aj_lk5, "DimShelf$Checker"),
  (⟨"DimShelf$Checker", "isSameWidth", "(II)Z"⟩, 965, 4, (some (FieldType.boolean)), 2, aj_lk5, "DimShelf$Checker"),
  (⟨"DimShelf$Checker", "widthAt", "(I)I"⟩, 969, 2, (some (FieldType.int)), 1, aj_lk5, "DimShelf$Checker"),
  (⟨"DimShelf$Checker", "columnAt", "(II)J"⟩, 973, 4, (some (FieldType.long)), 2, aj_lk5, "DimShelf$Checker"),
  (⟨"DimShelf$Checker", "failLead", "(II)V"⟩, 977, 3, none, 2, aj_lk5, "DimShelf$Checker"),
  (⟨"DimShelf$Plan", "leadAt", "(I)I"⟩, 981, 2, (some (FieldType.int)), 1, aj_lk3, "DimShelf$Plan"),
  (⟨"DimShelf$Checker", "join", "(I)V"⟩, 985, 8, none, 1, aj_lk5, "DimShelf$Checker"),
  (⟨"DimShelf$Checker", "columnNamed", "(IJ)I"⟩, 989, 5, (some (FieldType.int)), 2, aj_lk5, "DimShelf$Checker"),
  (⟨"DimShelf$Checker", "pick", "(I)V"⟩, 993, 5, none, 1, aj_lk5, "DimShelf$Checker"),
  (⟨"DimShelf$Checker", "isPicked", "(J)Z"⟩, 997, 4, (some (FieldType.boolean)), 1, aj_lk5, "DimShelf$Checker"),
  (⟨"DimShelf$Checker", "usePicks", "()V"⟩, 1001, 2, none, 0, aj_lk5, "DimShelf$Checker"),
  (⟨"DimShelf$Checker", "keepNamed", "(II)V"⟩, 1005, 3, none, 2, aj_lk5, "DimShelf$Checker"),
  (⟨"DimShelf$Checker", "setColumn", "(IIJ)V"⟩, 1010, 6, none, 3, aj_lk5, "DimShelf$Checker"),
  (⟨"DimShelf$Checker", "group", "(I)V"⟩, 1015, 2, none, 1, aj_lk5, "DimShelf$Checker"),
  (⟨"DimShelf$Checker", "checkTerm", "(II)V"⟩, 1019, 3, none, 2, aj_lk5, "DimShelf$Checker"),
  (⟨"DimShelf$Checker", "intNear", "(I)I"⟩, 1023, 2, (some (FieldType.int)), 1, aj_lk5, "DimShelf$Checker"),
  (⟨"DimShelf$Tokens", "intAt", "(I)I"⟩, 1027, 2, (some (FieldType.int)), 1, aj_lk2, "DimShelf$Tokens"),
  (⟨"DimShelf$Shelf", "unknownNamed", "(J)I"⟩, 1031, 4, (some (FieldType.int)), 1, aj_lk1, "DimShelf$Shelf"),
  (⟨"DimShelf$Checker", "checkTold", "(II)V"⟩, 1035, 3, none, 2, aj_lk5, "DimShelf$Checker"),
  (⟨"DimShelf$Shelf", "startUnknown", "(J)V"⟩, 1039, 3, none, 1, aj_lk1, "DimShelf$Shelf"),
  (⟨"DimShelf$Shelf", "list", "(I)Z"⟩, 1043, 5, (some (FieldType.boolean)), 1, aj_lk1, "DimShelf$Shelf"),
  (⟨"DimShelf$Checker", "checkLast", "(I)V"⟩, 1047, 5, none, 1, aj_lk5, "DimShelf$Checker"),
  (⟨"DimShelf$Shelf", "firstListed", "()I"⟩, 1051, 2, (some (FieldType.int)), 0, aj_lk1, "DimShelf$Shelf"),
  (⟨"DimShelf$Shelf", "endUnknown", "()Z"⟩, 1055, 2, (some (FieldType.boolean)), 0, aj_lk1, "DimShelf$Shelf"),
  (⟨"DimShelf$Checker", "isNewTable", "(I)Z"⟩, 1059, 2, (some (FieldType.boolean)), 1, aj_lk5, "DimShelf$Checker"),
  (⟨"DimShelf$Shelf", "addTable", "(JZ)I"⟩, 1063, 5, (some (FieldType.int)), 2, aj_lk1, "DimShelf$Shelf"),
  (⟨"DimShelf$Shelf", "addColumn", "(J)Z"⟩, 1068, 6, (some (FieldType.boolean)), 1, aj_lk1, "DimShelf$Shelf"),
  (⟨"DimShelf$Checker", "checkRow", "(I)V"⟩, 1074, 4, none, 1, aj_lk5, "DimShelf$Checker"),
  (⟨"DimShelf$Shelf", "isAnswer", "(I)Z"⟩, 1078, 2, (some (FieldType.boolean)), 1, aj_lk1, "DimShelf$Shelf"),
  (⟨"DimShelf$Checker", "endAnswer", "(I)V"⟩, 1082, 3, none, 1, aj_lk5, "DimShelf$Checker"),
  (⟨"DimShelf$Worker", "work", "(LDimShelf$Shelf;)V"⟩, 1086, 4, none, 1, aj_lk6, "DimShelf$Worker"),
  (⟨"DimShelf$Worker", "workQuery", "(II)V"⟩, 1092, 3, none, 2, aj_lk6, "DimShelf$Worker"),
  (⟨"DimShelf$Worker", "load", "(LDimShelf$Rows;)V"⟩, 1098, 2, none, 1, aj_lk6, "DimShelf$Worker"),
  (⟨"DimShelf$Worker", "rowsAt", "(I)LDimShelf$Rows;"⟩, 1102, 2, (some (FieldType.object "DimShelf$Rows")), 1, aj_lk6, "DimShelf$Worker"),
  (⟨"DimShelf$Rows", "copyFrom", "(LDimShelf$Rows;)V"⟩, 1106, 3, none, 1, aj_lk8, "DimShelf$Rows"),
  (⟨"DimShelf$Rows", "addFrom", "(LDimShelf$Rows;I)I"⟩, 1110, 5, (some (FieldType.int)), 2, aj_lk8, "DimShelf$Rows"),
  (⟨"DimShelf$Rows", "isOpen", "(II)Z"⟩, 1114, 4, (some (FieldType.boolean)), 2, aj_lk8, "DimShelf$Rows"),
  (⟨"DimShelf$Rows", "termAt", "(II)I"⟩, 1118, 4, (some (FieldType.int)), 2, aj_lk8, "DimShelf$Rows"),
  (⟨"DimShelf$Rows", "setTerm", "(IIZI)V"⟩, 1122, 6, none, 4, aj_lk8, "DimShelf$Rows"),
  (⟨"DimShelf$Worker", "plus", "(LDimShelf$Rows;LDimShelf$Rows;I)V"⟩, 1129, 7, none, 3, aj_lk6, "DimShelf$Worker"),
  (⟨"DimShelf$Worker", "full", "(I)V"⟩, 1133, 2, none, 1, aj_lk6, "DimShelf$Worker"),
  (⟨"DimShelf$Rows", "has", "(II)Z"⟩, 1141, 3, (some (FieldType.boolean)), 2, aj_lk8, "DimShelf$Rows"),
  (⟨"DimShelf$Rows", "put", "(II)V"⟩, 1145, 3, none, 2, aj_lk8, "DimShelf$Rows"),
  (⟨"DimShelf$Rows", "drop", "(II)V"⟩, 1149, 3, none, 2, aj_lk8, "DimShelf$Rows"),
  (⟨"DimShelf$Worker", "minus", "(LDimShelf$Rows;LDimShelf$Rows;)V"⟩, 1153, 6, none, 2, aj_lk6, "DimShelf$Worker"),
  (⟨"DimShelf$Rows", "neverMeets", "(ILDimShelf$Rows;II)Z"⟩, 1158, 7, (some (FieldType.boolean)), 4, aj_lk8, "DimShelf$Rows"),
  (⟨"DimShelf$Rows", "meets", "(LDimShelf$Shelf;ILDimShelf$Rows;III)Z"⟩, 1162, 9, (some (FieldType.boolean)), 6, aj_lk8, "DimShelf$Rows"),
  (⟨"DimShelf$Rows", "cellIn", "(LDimShelf$Shelf;III)I"⟩, 1167, 8, (some (FieldType.int)), 4, aj_lk8, "DimShelf$Rows"),
  (⟨"DimShelf$Worker", "join", "(LDimShelf$Rows;LDimShelf$Rows;I)V"⟩, 1171, 7, none, 3, aj_lk6, "DimShelf$Worker"),
  (⟨"DimShelf$Rows", "clear", "(I)V"⟩, 1175, 2, none, 1, aj_lk8, "DimShelf$Rows"),
  (⟨"java/util/Arrays", "fill", "([II)V"⟩, 1178, 4, none, 2, aj_lk12, "java/util/Arrays"),
  (⟨"DimShelf$Worker", "joinRow", "(LDimShelf$Rows;ILDimShelf$Rows;II)V"⟩, 1182, 9, none, 5, aj_lk6, "DimShelf$Worker"),
  (⟨"DimShelf$Rows", "newColumns", "(II)I"⟩, 1189, 5, (some (FieldType.int)), 2, aj_lk8, "DimShelf$Rows")]
def aj_rt2 : List (MethodName × Nat × Nat × Option FieldType × Nat × List aj_L × String) := [(⟨"DimShelf$Worker", "useScratch", "()V"⟩, 1193, 3, none, 0, aj_lk6, "DimShelf$Worker"),
  (⟨"DimShelf$Worker", "test", "(LDimShelf$Rows;)V"⟩, 1197, 4, none, 1, aj_lk6, "DimShelf$Worker"),
  (⟨"DimShelf$Worker", "compares", "(LDimShelf$Rows;II)Z"⟩, 1201, 6, (some (FieldType.boolean)), 3, aj_lk6, "DimShelf$Worker"),
  (⟨"DimShelf$Worker", "sideIn", "(IILDimShelf$Rows;II)I"⟩, 1205, 6, (some (FieldType.int)), 5, aj_lk6, "DimShelf$Worker"),
  (⟨"DimShelf$Shelf", "valueIn", "(II)I"⟩, 1209, 4, (some (FieldType.int)), 2, aj_lk1, "DimShelf$Shelf"),
  (⟨"DimShelf$Grouper", "pick", "(I)V"⟩, 1214, 2, none, 1, aj_lk7, "DimShelf$Grouper"),
  (⟨"DimShelf$Grouper", "project", "(LDimShelf$Rows;)V"⟩, 1218, 4, none, 1, aj_lk7, "DimShelf$Grouper"),
  (⟨"DimShelf$Grouper", "group", "(LDimShelf$Shelf;LDimShelf$Rows;LDimShelf$Rows;)Z"⟩, 1225, 5, (some (FieldType.boolean)), 3, aj_lk7, "DimShelf$Grouper"),
  (⟨"DimShelf$Grouper", "groupIn", "(LDimShelf$Shelf;LDimShelf$Rows;LDimShelf$Rows;I)Z"⟩, 1233, 9, (some (FieldType.boolean)), 4, aj_lk7, "DimShelf$Grouper"),
  (⟨"DimShelf$Rows", "lineUp", "(LDimShelf$Shelf;I[I)I"⟩, 1237, 9, (some (FieldType.int)), 3, aj_lk8, "DimShelf$Rows"),
  (⟨"DimShelf$Rows", "against", "(LDimShelf$Shelf;IILDimShelf$Rows;II)I"⟩, 1241, 10, (some (FieldType.int)), 6, aj_lk8, "DimShelf$Rows"),
  (⟨"DimShelf$Grouper", "isFirst", "(LDimShelf$Shelf;LDimShelf$Rows;II)Z"⟩, 1245, 6, (some (FieldType.boolean)), 4, aj_lk7, "DimShelf$Grouper"),
  (⟨"DimShelf$Grouper", "isAlike", "(LDimShelf$Shelf;LDimShelf$Rows;III)Z"⟩, 1249, 7, (some (FieldType.boolean)), 5, aj_lk7, "DimShelf$Grouper"),
  (⟨"DimShelf$Grouper", "tally", "(LDimShelf$Shelf;LDimShelf$Rows;III)I"⟩, 1254, 9, (some (FieldType.int)), 5, aj_lk7, "DimShelf$Grouper"),
  (⟨"DimShelf$Grouper", "start", "(I)I"⟩, 1258, 2, (some (FieldType.int)), 1, aj_lk7, "DimShelf$Grouper"),
  (⟨"DimShelf$Grouper", "more", "(II)I"⟩, 1262, 3, (some (FieldType.int)), 2, aj_lk7, "DimShelf$Grouper"),
  (⟨"DimShelf$Grouper", "find", "(LDimShelf$Rows;)I"⟩, 1269, 3, (some (FieldType.int)), 1, aj_lk7, "DimShelf$Grouper"),
  (⟨"DimShelf$Grouper", "isTuple", "(LDimShelf$Rows;I)Z"⟩, 1273, 4, (some (FieldType.boolean)), 2, aj_lk7, "DimShelf$Grouper"),
  (⟨"DimShelf$Grouper", "sort", "(LDimShelf$Shelf;LDimShelf$Rows;)V"⟩, 1277, 5, none, 2, aj_lk7, "DimShelf$Grouper"),
  (⟨"DimShelf$Rows", "change", "(III)V"⟩, 1282, 7, none, 3, aj_lk8, "DimShelf$Rows"),
  (⟨"DimShelf$Worker", "workCond", "(II)V"⟩, 1286, 4, none, 2, aj_lk6, "DimShelf$Worker"),
  (⟨"DimShelf$Worker", "setSide", "(II)V"⟩, 1290, 3, none, 2, aj_lk6, "DimShelf$Worker"),
  (⟨"DimShelf$Worker", "judged", "(III)I"⟩, 1294, 4, (some (FieldType.int)), 3, aj_lk6, "DimShelf$Worker"),
  (⟨"DimShelf$Worker", "workTold", "(II)V"⟩, 1298, 3, none, 2, aj_lk6, "DimShelf$Worker"),
  (⟨"DimShelf$Worker", "startRow", "(LDimShelf$Rows;)V"⟩, 1302, 3, none, 1, aj_lk6, "DimShelf$Worker"),
  (⟨"DimShelf$Worker", "addTerm", "(LDimShelf$Rows;)V"⟩, 1306, 2, none, 1, aj_lk6, "DimShelf$Worker"),
  (⟨"DimShelf$Worker", "limitRow", "(LDimShelf$Rows;)V"⟩, 1310, 3, none, 1, aj_lk6, "DimShelf$Worker"),
  (⟨"DimShelf$Worker", "judgedTrue", "(I)Z"⟩, 1314, 2, (some (FieldType.boolean)), 1, aj_lk6, "DimShelf$Worker"),
  (⟨"DimShelf$Shelf", "addPart", "(LDimShelf$Worker;)V"⟩, 1318, 3, none, 1, aj_lk1, "DimShelf$Shelf"),
  (⟨"DimShelf$Worker", "endAnswer", "(LDimShelf$Rows;LDimShelf$Rows;)V"⟩, 1323, 3, none, 2, aj_lk6, "DimShelf$Worker"),
  (⟨"DimShelf", "forget", "()V"⟩, 1327, 1, none, 0, aj_lk0, "DimShelf"),
  (⟨"DimShelf$Listing", "forget", "()V"⟩, 1331, 1, none, 0, aj_lk9, "DimShelf$Listing"),
  (⟨"DimShelf$Reason", "forget", "()V"⟩, 1335, 1, none, 0, aj_lk10, "DimShelf$Reason"),
  (⟨"DimShelf", "place", "()I"⟩, 1339, 1, (some (FieldType.int)), 0, aj_lk0, "DimShelf"),
  (⟨"DimShelf", "learn", "()I"⟩, 1343, 1, (some (FieldType.int)), 0, aj_lk0, "DimShelf"),
  (⟨"DimShelf", "judged", "()Z"⟩, 1347, 1, (some (FieldType.boolean)), 0, aj_lk0, "DimShelf"),
  (⟨"DimShelf$Worker", "judge", "(LDimShelf$Shelf;)V"⟩, 1351, 3, none, 1, aj_lk6, "DimShelf$Worker"),
  (⟨"DimShelf$Shelf", "heldWith", "(LDimShelf$Worker;)I"⟩, 1355, 4, (some (FieldType.int)), 1, aj_lk1, "DimShelf$Shelf"),
  (⟨"DimShelf$Shelf", "heldWorld", "(I)I"⟩, 1359, 2, (some (FieldType.int)), 1, aj_lk1, "DimShelf$Shelf"),
  (⟨"DimShelf", "undo", "()Z"⟩, 1364, 1, (some (FieldType.boolean)), 0, aj_lk0, "DimShelf"),
  (⟨"DimShelf$Shelf", "dropPart", "()V"⟩, 1368, 2, none, 0, aj_lk1, "DimShelf$Shelf"),
  (⟨"DimShelf", "ask", "()I"⟩, 1372, 1, (some (FieldType.int)), 0, aj_lk0, "DimShelf"),
  (⟨"DimShelf$Shelf", "keepAsked", "(LDimShelf$Worker;)V"⟩, 1376, 3, none, 1, aj_lk1, "DimShelf$Shelf"),
  (⟨"DimShelf", "why", "(I)I"⟩, 1380, 2, (some (FieldType.int)), 1, aj_lk0, "DimShelf"),
  (⟨"DimShelf$Reason", "part", "(LDimShelf$Shelf;I)I"⟩, 1384, 5, (some (FieldType.int)), 2, aj_lk10, "DimShelf$Reason"),
  (⟨"DimShelf$Reason", "find", "(LDimShelf$Shelf;)V"⟩, 1388, 4, none, 1, aj_lk10, "DimShelf$Reason"),
  (⟨"DimShelf$Shelf", "isAsked", "(I)Z"⟩, 1392, 2, (some (FieldType.boolean)), 1, aj_lk1, "DimShelf$Shelf"),
  (⟨"DimShelf$Shelf", "brokenIn", "(I)I"⟩, 1396, 2, (some (FieldType.int)), 1, aj_lk1, "DimShelf$Shelf"),
  (⟨"DimShelf$Reason", "keep", "(I)V"⟩, 1400, 4, none, 1, aj_lk10, "DimShelf$Reason"),
  (⟨"DimShelf$Reason", "hits", "([IIIIII)Z"⟩, 1403, 12, (some (FieldType.boolean)), 6, aj_lk10, "DimShelf$Reason"),
  (⟨"java/lang/Integer", "bitCount", "(I)I"⟩, 1406, 1, (some (FieldType.int)), 1, aj_lk13, "java/lang/Integer"),
  (⟨"DimShelf$Reason", "choose", "(II)V"⟩, 1413, 7, none, 2, aj_lk10, "DimShelf$Reason"),
  (⟨"DimShelf", "value", "(II)I"⟩, 1417, 4, (some (FieldType.int)), 2, aj_lk0, "DimShelf"),
  (⟨"DimShelf", "table", "(II)I"⟩, 1424, 4, (some (FieldType.int)), 2, aj_lk0, "DimShelf"),
  (⟨"DimShelf$Listing", "gather", "(LDimShelf$Shelf;I)V"⟩, 1430, 5, none, 2, aj_lk9, "DimShelf$Listing"),
  (⟨"DimShelf$Listing", "collect", "(LDimShelf$Shelf;LDimShelf$Rows;)V"⟩, 1435, 7, none, 2, aj_lk9, "DimShelf$Listing"),
  (⟨"DimShelf$Listing", "makeRoom", "(I)V"⟩, 1443, 4, none, 1, aj_lk9, "DimShelf$Listing"),
  (⟨"java/util/Arrays", "copyOf", "([II)[I"⟩, 1446, 3, (some (FieldType.array FieldType.int)), 2, aj_lk12, "java/util/Arrays"),
  (⟨"DimShelf$Listing", "put", "([III)V"⟩, 1459, 3, none, 3, aj_lk9, "DimShelf$Listing"),
  (⟨"DimShelf$Listing", "mergeRuns", "(LDimShelf$Shelf;LDimShelf$Rows;)V"⟩, 1463, 9, none, 2, aj_lk9, "DimShelf$Listing")]
def aj_rt3 : List (MethodName × Nat × Nat × Option FieldType × Nat × List aj_L × String) := [(⟨"DimShelf$Listing", "mergeTwo", "(LDimShelf$Shelf;LDimShelf$Rows;IIII)I"⟩, 1467, 14, (some (FieldType.int)), 6, aj_lk9, "DimShelf$Listing"),
  (⟨"DimShelf$Listing", "ref", "(I)I"⟩, 1471, 2, (some (FieldType.int)), 1, aj_lk9, "DimShelf$Listing"),
  (⟨"DimShelf$Listing", "rowOf", "(I)I"⟩, 1474, 1, (some (FieldType.int)), 1, aj_lk9, "DimShelf$Listing"),
  (⟨"DimShelf$Listing", "worldOf", "(I)I"⟩, 1477, 1, (some (FieldType.int)), 1, aj_lk9, "DimShelf$Listing"),
  (⟨"DimShelf$Listing", "worldsOf", "(I)I"⟩, 1481, 1, (some (FieldType.int)), 1, aj_lk9, "DimShelf$Listing"),
  (⟨"DimShelf$Listing", "findSure", "(I)V"⟩, 1485, 3, none, 1, aj_lk9, "DimShelf$Listing"),
  (⟨"DimShelf", "term", "(IIII)I"⟩, 1489, 6, (some (FieldType.int)), 4, aj_lk0, "DimShelf"),
  (⟨"DimShelf", "many", "(II)I"⟩, 1495, 6, (some (FieldType.int)), 2, aj_lk0, "DimShelf"),
  (⟨"DimShelf", "holds", "(III)Z"⟩, 1500, 6, (some (FieldType.boolean)), 3, aj_lk0, "DimShelf"),
  (⟨"DimShelf", "size", "(II)I"⟩, 1504, 5, (some (FieldType.int)), 2, aj_lk0, "DimShelf"),
  (⟨"DimShelf", "cell", "(IIII)I"⟩, 1509, 8, (some (FieldType.int)), 4, aj_lk0, "DimShelf"),
  (⟨"DimShelf", "sure", "(III)I"⟩, 1514, 4, (some (FieldType.int)), 3, aj_lk0, "DimShelf"),
  (⟨"DimShelf$Listing", "sureRef", "(I)I"⟩, 1518, 2, (some (FieldType.int)), 1, aj_lk9, "DimShelf$Listing"),
  (⟨"DimShelf", "listedCell", "(LDimShelf$Rows;II)I"⟩, 1522, 4, (some (FieldType.int)), 3, aj_lk0, "DimShelf"),
  (⟨"DimShelf", "maybe", "(III)I"⟩, 1528, 4, (some (FieldType.int)), 3, aj_lk0, "DimShelf"),
  (⟨"DimShelf", "often", "(II)I"⟩, 1533, 4, (some (FieldType.int)), 2, aj_lk0, "DimShelf"),
  (⟨"DimShelf", "same", "(II)I"⟩, 1538, 6, (some (FieldType.int)), 2, aj_lk0, "DimShelf"),
  (⟨"DimShelf", "agree", "(LDimShelf$Rows;LDimShelf$Rows;I)Z"⟩, 1542, 6, (some (FieldType.boolean)), 3, aj_lk0, "DimShelf"),
  (⟨"DimShelf", "count", "(I)I"⟩, 1547, 2, (some (FieldType.int)), 1, aj_lk0, "DimShelf"),
  (⟨"DimShelfModel", "<init>", "()V"⟩, 1552, 1, none, 0, aj_lk14, "DimShelfModel"),
  (⟨"DimShelfModel", "feed", "(IIIII)I"⟩, 1777, 6, (some (FieldType.int)), 5, aj_lk14, "DimShelfModel"),
  (⟨"DimShelfModel", "byteRow", "(I)V"⟩, 1781, 3, none, 1, aj_lk14, "DimShelfModel"),
  (⟨"DimShelfModel", "back", "(I)I"⟩, 1785, 2, (some (FieldType.int)), 1, aj_lk14, "DimShelfModel"),
  (⟨"DimShelfModel", "read", "()I"⟩, 1789, 2, (some (FieldType.int)), 0, aj_lk14, "DimShelfModel"),
  (⟨"DimShelfModel", "text", "()Z"⟩, 1793, 2, (some (FieldType.boolean)), 0, aj_lk14, "DimShelfModel"),
  (⟨"DimShelfModel", "start", "()V"⟩, 1797, 1, none, 0, aj_lk14, "DimShelfModel"),
  (⟨"DimShelfModel", "next", "()V"⟩, 1801, 6, none, 0, aj_lk14, "DimShelfModel"),
  (⟨"DimShelfModel", "seen", "(I)I"⟩, 1805, 2, (some (FieldType.int)), 1, aj_lk14, "DimShelfModel"),
  (⟨"DimShelfModel", "isLetter", "(I)Z"⟩, 1809, 2, (some (FieldType.boolean)), 1, aj_lk14, "DimShelfModel"),
  (⟨"DimShelfModel", "isDigit", "(I)Z"⟩, 1813, 2, (some (FieldType.boolean)), 1, aj_lk14, "DimShelfModel"),
  (⟨"DimShelfModel", "packed", "(II)J"⟩, 1817, 6, (some (FieldType.long)), 2, aj_lk14, "DimShelfModel"),
  (⟨"DimShelfModel", "word", "(J)I"⟩, 1820, 2, (some (FieldType.int)), 1, aj_lk14, "DimShelfModel"),
  (⟨"DimShelfModel", "isWord", "(I)Z"⟩, 1834, 2, (some (FieldType.boolean)), 1, aj_lk14, "DimShelfModel"),
  (⟨"DimShelfModel", "unknownTold", "()Z"⟩, 1838, 6, (some (FieldType.boolean)), 0, aj_lk14, "DimShelfModel"),
  (⟨"DimShelfModel", "pass", "()Z"⟩, 1842, 1, (some (FieldType.boolean)), 0, aj_lk14, "DimShelfModel"),
  (⟨"DimShelfModel", "stop", "(II)Z"⟩, 1846, 3, (some (FieldType.boolean)), 2, aj_lk14, "DimShelfModel"),
  (⟨"DimShelfModel", "named", "()Z"⟩, 1850, 1, (some (FieldType.boolean)), 0, aj_lk14, "DimShelfModel"),
  (⟨"DimShelfModel", "unknown", "(IJ)I"⟩, 1854, 5, (some (FieldType.int)), 2, aj_lk14, "DimShelfModel"),
  (⟨"DimShelfModel", "tell", "(II)V"⟩, 1858, 3, none, 2, aj_lk14, "DimShelfModel"),
  (⟨"DimShelfModel", "sign", "(I)Z"⟩, 1862, 2, (some (FieldType.boolean)), 1, aj_lk14, "DimShelfModel"),
  (⟨"DimShelfModel", "isSign", "(I)Z"⟩, 1866, 2, (some (FieldType.boolean)), 1, aj_lk14, "DimShelfModel"),
  (⟨"DimShelfModel", "whole", "()Z"⟩, 1870, 4, (some (FieldType.boolean)), 0, aj_lk14, "DimShelfModel"),
  (⟨"DimShelfModel", "span", "(I)Z"⟩, 1874, 4, (some (FieldType.boolean)), 1, aj_lk14, "DimShelfModel"),
  (⟨"DimShelfModel", "list", "(I)Z"⟩, 1878, 3, (some (FieldType.boolean)), 1, aj_lk14, "DimShelfModel"),
  (⟨"DimShelfModel", "worldsAnew", "()V"⟩, 1882, 7, none, 0, aj_lk14, "DimShelfModel"),
  (⟨"DimShelfModel", "at", "(II)I"⟩, 1886, 3, (some (FieldType.int)), 2, aj_lk14, "DimShelfModel"),
  (⟨"DimShelfModel", "spread", "([III)V"⟩, 1890, 5, none, 3, aj_lk14, "DimShelfModel"),
  (⟨"DimShelfModel", "bit", "([III)Z"⟩, 1893, 3, (some (FieldType.boolean)), 3, aj_lk14, "DimShelfModel"),
  (⟨"DimShelfModel", "put", "([IIIZ)V"⟩, 1896, 6, none, 4, aj_lk14, "DimShelfModel"),
  (⟨"DimShelfModel", "tableTold", "()Z"⟩, 1900, 2, (some (FieldType.boolean)), 0, aj_lk14, "DimShelfModel"),
  (⟨"DimShelfModel", "tableName", "(I)Z"⟩, 1904, 2, (some (FieldType.boolean)), 1, aj_lk14, "DimShelfModel"),
  (⟨"DimShelfModel", "tableOf", "(IJ)I"⟩, 1908, 5, (some (FieldType.int)), 2, aj_lk14, "DimShelfModel"),
  (⟨"DimShelfModel", "columnTold", "(I)Z"⟩, 1912, 2, (some (FieldType.boolean)), 1, aj_lk14, "DimShelfModel"),
  (⟨"DimShelfModel", "columnOf", "(IJ)I"⟩, 1916, 5, (some (FieldType.int)), 2, aj_lk14, "DimShelfModel"),
  (⟨"DimShelfModel", "rowTold", "()Z"⟩, 1920, 8, (some (FieldType.boolean)), 0, aj_lk14, "DimShelfModel"),
  (⟨"DimShelfModel", "termTold", "()Z"⟩, 1924, 1, (some (FieldType.boolean)), 0, aj_lk14, "DimShelfModel"),
  (⟨"DimShelfModel", "cellAt", "(III)I"⟩, 1927, 3, (some (FieldType.int)), 3, aj_lk14, "DimShelfModel"),
  (⟨"DimShelfModel", "condition", "()Z"⟩, 1931, 3, (some (FieldType.boolean)), 0, aj_lk14, "DimShelfModel"),
  (⟨"DimShelfModel", "compares", "()Z"⟩, 1935, 5, (some (FieldType.boolean)), 0, aj_lk14, "DimShelfModel"),
  (⟨"DimShelfModel", "relation", "()Z"⟩, 1939, 1, (some (FieldType.boolean)), 0, aj_lk14, "DimShelfModel")]
def aj_rt4 : List (MethodName × Nat × Nat × Option FieldType × Nat × List aj_L × String) := [(⟨"DimShelfModel", "valued", "(IIII)I"⟩, 1943, 5, (some (FieldType.int)), 4, aj_lk14, "DimShelfModel"),
  (⟨"DimShelfModel", "world", "(III)I"⟩, 1947, 4, (some (FieldType.int)), 3, aj_lk14, "DimShelfModel"),
  (⟨"DimShelfModel", "related", "(III)Z"⟩, 1950, 3, (some (FieldType.boolean)), 3, aj_lk14, "DimShelfModel"),
  (⟨"DimShelfModel", "isWaiting", "(I)Z"⟩, 1954, 2, (some (FieldType.boolean)), 1, aj_lk14, "DimShelfModel"),
  (⟨"DimShelfModel", "reduce", "()V"⟩, 1958, 7, none, 0, aj_lk14, "DimShelfModel"),
  (⟨"DimShelfModel", "invert", "(I)V"⟩, 1962, 3, none, 1, aj_lk14, "DimShelfModel"),
  (⟨"DimShelfModel", "alwaysTold", "()Z"⟩, 1966, 5, (some (FieldType.boolean)), 0, aj_lk14, "DimShelfModel"),
  (⟨"DimShelfModel", "isHeld", "(II)Z"⟩, 1970, 4, (some (FieldType.boolean)), 2, aj_lk14, "DimShelfModel"),
  (⟨"DimShelfModel", "answerTold", "()Z"⟩, 1974, 4, (some (FieldType.boolean)), 0, aj_lk14, "DimShelfModel"),
  (⟨"DimShelfModel", "question", "()Z"⟩, 1978, 2, (some (FieldType.boolean)), 0, aj_lk14, "DimShelfModel"),
  (⟨"DimShelfModel", "tabled", "(I)Z"⟩, 1982, 3, (some (FieldType.boolean)), 1, aj_lk14, "DimShelfModel"),
  (⟨"DimShelfModel", "copy", "(II)V"⟩, 1986, 4, none, 2, aj_lk14, "DimShelfModel"),
  (⟨"DimShelfModel", "copyRow", "(IIII)V"⟩, 1990, 6, none, 4, aj_lk14, "DimShelfModel"),
  (⟨"DimShelfModel", "steps", "(I)Z"⟩, 1994, 3, (some (FieldType.boolean)), 1, aj_lk14, "DimShelfModel"),
  (⟨"DimShelfModel", "tests", "(I)Z"⟩, 1998, 8, (some (FieldType.boolean)), 1, aj_lk14, "DimShelfModel"),
  (⟨"DimShelfModel", "side", "(I)Z"⟩, 2002, 2, (some (FieldType.boolean)), 1, aj_lk14, "DimShelfModel"),
  (⟨"DimShelfModel", "told", "(I)I"⟩, 2006, 3, (some (FieldType.int)), 1, aj_lk14, "DimShelfModel"),
  (⟨"DimShelfModel", "sided", "(IIIII)I"⟩, 2010, 6, (some (FieldType.int)), 5, aj_lk14, "DimShelfModel"),
  (⟨"DimShelfModel", "valueAt", "(IIII)I"⟩, 2014, 6, (some (FieldType.int)), 4, aj_lk14, "DimShelfModel"),
  (⟨"DimShelfModel", "slotHalf", "(I)I"⟩, 2018, 2, (some (FieldType.int)), 1, aj_lk14, "DimShelfModel"),
  (⟨"DimShelfModel", "takes", "(I)Z"⟩, 2022, 4, (some (FieldType.boolean)), 1, aj_lk14, "DimShelfModel"),
  (⟨"DimShelfModel", "columns", "(IZ)Z"⟩, 2026, 7, (some (FieldType.boolean)), 2, aj_lk14, "DimShelfModel"),
  (⟨"DimShelfModel", "renames", "(I)Z"⟩, 2030, 6, (some (FieldType.boolean)), 1, aj_lk14, "DimShelfModel"),
  (⟨"DimShelfModel", "groups", "(I)Z"⟩, 2034, 8, (some (FieldType.boolean)), 1, aj_lk14, "DimShelfModel"),
  (⟨"DimShelfModel", "act", "()Z"⟩, 2038, 1, (some (FieldType.boolean)), 0, aj_lk14, "DimShelfModel"),
  (⟨"DimShelfModel", "group", "(IIII)Z"⟩, 2042, 8, (some (FieldType.boolean)), 4, aj_lk14, "DimShelfModel"),
  (⟨"DimShelfModel", "collect", "(II)V"⟩, 2046, 6, none, 2, aj_lk14, "DimShelfModel"),
  (⟨"DimShelfModel", "compareRows", "(IIIII)I"⟩, 2050, 9, (some (FieldType.int)), 5, aj_lk14, "DimShelfModel"),
  (⟨"DimShelfModel", "isFirst", "(III)Z"⟩, 2054, 5, (some (FieldType.boolean)), 3, aj_lk14, "DimShelfModel"),
  (⟨"DimShelfModel", "isGroup", "(IIII)Z"⟩, 2058, 6, (some (FieldType.boolean)), 4, aj_lk14, "DimShelfModel"),
  (⟨"DimShelfModel", "reckon", "(IIIII)V"⟩, 2062, 9, none, 5, aj_lk14, "DimShelfModel"),
  (⟨"DimShelfModel", "comes", "(II)Z"⟩, 2066, 6, (some (FieldType.boolean)), 2, aj_lk14, "DimShelfModel"),
  (⟨"DimShelfModel", "against", "(II)I"⟩, 2070, 5, (some (FieldType.int)), 2, aj_lk14, "DimShelfModel"),
  (⟨"DimShelfModel", "isActing", "(I)Z"⟩, 2074, 2, (some (FieldType.boolean)), 1, aj_lk14, "DimShelfModel"),
  (⟨"DimShelfModel", "done", "()Z"⟩, 2078, 5, (some (FieldType.boolean)), 0, aj_lk14, "DimShelfModel"),
  (⟨"DimShelfModel", "joined", "(II)Z"⟩, 2082, 5, (some (FieldType.boolean)), 2, aj_lk14, "DimShelfModel"),
  (⟨"DimShelfModel", "join", "(II)Z"⟩, 2086, 10, (some (FieldType.boolean)), 2, aj_lk14, "DimShelfModel"),
  (⟨"DimShelfModel", "isAlike", "(II)Z"⟩, 2090, 4, (some (FieldType.boolean)), 2, aj_lk14, "DimShelfModel"),
  (⟨"DimShelfModel", "union", "(II)Z"⟩, 2094, 4, (some (FieldType.boolean)), 2, aj_lk14, "DimShelfModel"),
  (⟨"DimShelfModel", "minus", "(I)Z"⟩, 2098, 7, (some (FieldType.boolean)), 1, aj_lk14, "DimShelfModel"),
  (⟨"DimShelfModel", "place", "()I"⟩, 2102, 1, (some (FieldType.int)), 0, aj_lk14, "DimShelfModel"),
  (⟨"DimShelfModel", "learn", "()I"⟩, 2106, 4, (some (FieldType.int)), 0, aj_lk14, "DimShelfModel"),
  (⟨"DimShelfModel", "asks", "()Z"⟩, 2110, 2, (some (FieldType.boolean)), 0, aj_lk14, "DimShelfModel"),
  (⟨"DimShelfModel", "undo", "()Z"⟩, 2114, 1, (some (FieldType.boolean)), 0, aj_lk14, "DimShelfModel"),
  (⟨"DimShelfModel", "ask", "()I"⟩, 2118, 3, (some (FieldType.int)), 0, aj_lk14, "DimShelfModel"),
  (⟨"DimShelfModel", "why", "(I)I"⟩, 2122, 5, (some (FieldType.int)), 1, aj_lk14, "DimShelfModel"),
  (⟨"DimShelfModel", "chooses", "(I)Z"⟩, 2126, 6, (some (FieldType.boolean)), 1, aj_lk14, "DimShelfModel"),
  (⟨"DimShelfModel", "meetsAll", "(I)Z"⟩, 2130, 4, (some (FieldType.boolean)), 1, aj_lk14, "DimShelfModel"),
  (⟨"DimShelfModel", "value", "(II)I"⟩, 2134, 4, (some (FieldType.int)), 2, aj_lk14, "DimShelfModel"),
  (⟨"DimShelfModel", "worldOf", "(I)I"⟩, 2138, 4, (some (FieldType.int)), 1, aj_lk14, "DimShelfModel"),
  (⟨"DimShelfModel", "table", "(II)I"⟩, 2143, 6, (some (FieldType.int)), 2, aj_lk14, "DimShelfModel"),
  (⟨"DimShelfModel", "isTable", "(I)Z"⟩, 2147, 2, (some (FieldType.boolean)), 1, aj_lk14, "DimShelfModel"),
  (⟨"DimShelfModel", "sures", "(I)V"⟩, 2151, 6, none, 1, aj_lk14, "DimShelfModel"),
  (⟨"DimShelfModel", "isIn", "(IIII)Z"⟩, 2155, 6, (some (FieldType.boolean)), 4, aj_lk14, "DimShelfModel"),
  (⟨"DimShelfModel", "maybes", "(I)V"⟩, 2159, 6, none, 1, aj_lk14, "DimShelfModel"),
  (⟨"DimShelfModel", "sink", "(III)V"⟩, 2163, 7, none, 3, aj_lk14, "DimShelfModel"),
  (⟨"DimShelfModel", "comparePairs", "(III)I"⟩, 2167, 4, (some (FieldType.int)), 3, aj_lk14, "DimShelfModel"),
  (⟨"DimShelfModel", "term", "(IIII)I"⟩, 2171, 6, (some (FieldType.int)), 4, aj_lk14, "DimShelfModel"),
  (⟨"DimShelfModel", "isRow", "(II)Z"⟩, 2175, 3, (some (FieldType.boolean)), 2, aj_lk14, "DimShelfModel"),
  (⟨"DimShelfModel", "many", "(II)I"⟩, 2179, 5, (some (FieldType.int)), 2, aj_lk14, "DimShelfModel")]
def aj_rt5 : List (MethodName × Nat × Nat × Option FieldType × Nat × List aj_L × String) := [(⟨"DimShelfModel", "holds", "(III)Z"⟩, 2183, 5, (some (FieldType.boolean)), 3, aj_lk14, "DimShelfModel"),
  (⟨"DimShelfModel", "size", "(II)I"⟩, 2187, 4, (some (FieldType.int)), 2, aj_lk14, "DimShelfModel"),
  (⟨"DimShelfModel", "cell", "(IIII)I"⟩, 2191, 6, (some (FieldType.int)), 4, aj_lk14, "DimShelfModel"),
  (⟨"DimShelfModel", "sure", "(III)I"⟩, 2195, 4, (some (FieldType.int)), 3, aj_lk14, "DimShelfModel"),
  (⟨"DimShelfModel", "maybe", "(III)I"⟩, 2199, 4, (some (FieldType.int)), 3, aj_lk14, "DimShelfModel"),
  (⟨"DimShelfModel", "often", "(II)I"⟩, 2203, 6, (some (FieldType.int)), 2, aj_lk14, "DimShelfModel"),
  (⟨"DimShelfModel", "same", "(II)I"⟩, 2207, 7, (some (FieldType.int)), 2, aj_lk14, "DimShelfModel"),
  (⟨"DimShelfModel", "isSame", "(III)Z"⟩, 2211, 7, (some (FieldType.boolean)), 3, aj_lk14, "DimShelfModel"),
  (⟨"DimShelfModel", "count", "(I)I"⟩, 2215, 2, (some (FieldType.int)), 1, aj_lk14, "DimShelfModel"),
  (⟨"DimShelfModel", "holding", "()I"⟩, 2219, 3, (some (FieldType.int)), 0, aj_lk14, "DimShelfModel")]
def aj_rt : List (MethodName × Nat × Nat × Option FieldType × Nat × List aj_L × String) := aj_rt0 ++ (aj_rt1 ++ (aj_rt2 ++ (aj_rt3 ++ (aj_rt4 ++ (aj_rt5)))))
def aj_mk (q : MethodName × Nat × Nat × Option FieldType × Nat × List aj_L × String) : aj_M := (q.1, aj_bc q.2.1, q.2.2)
def aj_mt : List aj_M := aj_rt.map aj_mk
def aj_cp : List (List Nat) := [[419, 421, 423, 425, 427, 429, 431, 433, 435], [460, 462, 464, 466, 468, 470, 472], [573, 575, 577, 579, 581, 583, 585, 587, 589, 591, 593], [371, 373, 375, 377, 379, 381, 383, 385, 387, 389, 391, 393, 395, 397, 399, 401], [334, 336, 338, 340, 342, 344, 346], [606, 608, 610, 612], [495, 497, 499, 501, 503], [253, 255, 257, 259, 261, 263, 265, 267, 269, 271, 273, 275, 277, 279, 281, 283, 285, 287], [304, 306, 308, 310], [521, 523, 525, 527, 529, 531, 533, 535, 537, 539, 541, 543, 545, 547, 549], [629, 631, 633, 635, 637, 639, 641, 643, 645, 647, 649, 651, 653, 655], [1628, 1630, 1632, 1634, 1636, 1638, 1640, 1642, 1644, 1646, 1648, 1650, 1652, 1654, 1656, 1658, 1660, 1662, 1664, 1666, 1668, 1670, 1672, 1674, 1676, 1678, 1680, 1682, 1684, 1686, 1688, 1690, 1692, 1694, 1696, 1698, 1700, 1702, 1704, 1706, 1708, 1710, 1712, 1714, 1716, 1718, 1720, 1722, 1724, 1726, 1728, 1730, 1732, 1734, 1736, 1738, 1740, 1742, 1744, 1746, 1748, 1750, 1752, 1754, 1756, 1758, 1760, 1762, 1764, 1766, 1768, 1770]]
def aj_ap : List Nat := [292, 291, 293, 290, 1773]
def aj_rc : Nat := 6
def aj_AOp : Nat := 200
end
section
def aj_Tg : List Cond := lw_tbl.filter goodWord
/-- the word w stands at the place i of the tables -/
def aj_wd (i : Nat) (w : Cond) : Bool := goodWord w && decide (lw_tbl[i]? = some w)
theorem aj_wd_in {i : Nat} {w : Cond} (h : aj_wd i w = true) : w ∈ aj_Tg := by
  simp only [aj_wd, Bool.and_eq_true, decide_eq_true_eq] at h
  exact List.mem_filter.mpr ⟨List.mem_of_getElem? h.2, h.1⟩
def aj_wn (i : Nat) (w : Cond) : Bool := decide (aj_nw[i]? = some w)
theorem aj_wn_in {i : Nat} {w : Cond} (h : aj_wn i w = true) : w ∈ aj_nw := List.mem_of_getElem? (of_decide_eq_true h)
theorem aj_TsOK1 : aj_TsOK aj_Tg := fun w hw => good_of_word (List.mem_filter.mp hw).2
def aj_isN : Cond → Bool
  | .fieldLinkNest _ _ _ _ _ _ => true
  | .methodLinkNest _ _ _ _ => true
  | _ => false
theorem aj_nwOK1 : aj_nwOK aj_nw := by
  intro w hw
  have h : aj_nw.all aj_isN = true := by decide +kernel
  have h1 := List.all_eq_true.mp h w hw
  unfold aj_isN at h1
  split at h1
  · exact Or.inl ⟨_, _, _, _, _, _, rfl⟩
  · exact Or.inr ⟨_, _, _, _, rfl⟩
  · cases h1
theorem aj_nw_tbl : ∀ w ∈ aj_nw, w ∈ lw_tbl := by
  have h : (aj_nw.zip aj_nwP).all (fun q => decide (lw_tbl[q.2]? = some q.1)) = true := by decide +kernel
  have hl : aj_nw.length = aj_nwP.length := by decide +kernel
  intro w hw
  obtain ⟨i, hi⟩ := List.getElem?_of_mem hw
  have hi1 := (List.getElem?_eq_some_iff.mp hi).1
  have h2 : (aj_nw.zip aj_nwP)[i]? = some (w, aj_nwP[i]'(by omega)) := by
    rw [List.getElem?_zip_eq_some]
    exact ⟨hi, List.getElem?_eq_getElem _⟩
  exact List.mem_of_getElem? (of_decide_eq_true (List.all_eq_true.mp h _ (List.mem_of_getElem? h2)))
theorem aj_arrOK : ∀ k, k < 5 → Cond.arrayClass (aj_ty "DimShelf$Rows" k) ∈ aj_Tg := by
  have h : (List.range 5).all (fun k => aj_wd (aj_ap.getD k 0) (.arrayClass (aj_ty "DimShelf$Rows" k))) = true := by decide +kernel
  intro k hk
  exact aj_wd_in (List.all_eq_true.mp h k (List.mem_range.mpr hk))
def aj_ckC (q : aj_C) (ps : List Nat) : Bool := (List.range q.2.2.1).all fun k => aj_wd (ps.getD k 0) (u_lay q.1 q.2.1 k) && decide (parseFieldDescriptor (q.2.1 k).2.2.1 = some (q.2.2.2 k)) && (List.range q.2.2.1).all fun j => j == k || decide ((q.2.1 k).2.1 ≠ (q.2.1 j).2.1)
theorem aj_clsOK1 : aj_clsOK aj_Tg aj_cl aj_cls := by
  have h : (aj_cls.zip aj_cp).all (fun q => aj_ckC q.1 q.2) = true := by decide +kernel
  have hl : aj_cls.length = aj_cp.length := by decide +kernel
  intro i q hi
  have hi1 := (List.getElem?_eq_some_iff.mp hi).1
  have h2 : (aj_cls.zip aj_cp)[i]? = some (q, aj_cp[i]'(by omega)) := by
    rw [List.getElem?_zip_eq_some]
    exact ⟨hi, List.getElem?_eq_getElem _⟩
  have h3 := List.all_eq_true.mp h _ (List.mem_of_getElem? h2)
  unfold aj_ckC at h3
  have h4 : ∀ k, k < q.2.2.1 → _ := fun k hk => List.all_eq_true.mp h3 k (List.mem_range.mpr hk)
  simp only [Bool.and_eq_true, decide_eq_true_eq] at h4
  refine ⟨by simp [aj_cl, hi], fun w hw => ?_, fun k hk => (h4 k hk).1.2, fun a ha b hb hab => ?_⟩
  · obtain ⟨k, hk, rfl⟩ := List.mem_map.mp hw
    exact aj_wd_in (h4 k (List.mem_range.mp hk)).1.1
  · have h5 := List.all_eq_true.mp (h4 a ha).2 b (List.mem_range.mpr hb)
    simp only [Bool.or_eq_true, beq_iff_eq, decide_eq_true_eq] at h5
    rcases h5 with h5 | h5
    · exact absurd h5.symm hab
    · exact h5
/-- a link of the class own, its words by their places -/
def aj_ckL (own : String) (q : aj_L) (ps : List Nat) : Bool := match q with
  | (i, kind, a, b, v) =>
    if kind = 0 then (match aj_cls[a]? with
      | some q => decide (b < q.2.2.1) && aj_wd (ps.getD 0 0) (.fieldLink own i (q.2.1 b).1 (q.2.1 b).2.1 (q.2.1 b).2.2.1) && (decide (v ≠ 0) || !(q.2.1 b).2.2.2) && (decide (v ≠ 1) || ((q.2.1 b).2.2.2 && decide ((q.2.1 b).1 = own)))
      | none => false)
    else if kind = 1 then (match aj_cls[a]? with
      | some q => decide (b < q.2.2.1) && aj_wn (ps.getD 0 0) (.fieldLinkNest own i (q.2.1 b).1 (q.2.1 b).2.1 (q.2.1 b).2.2.1 "DimShelf") && (decide (v ≠ 0) || !(q.2.1 b).2.2.2)
      | none => false)
    else if kind = 2 then (match aj_mt[a]?, aj_cls[v.toNat]? with
      | some m, some q => decide (q.1 = m.1.cls) && decide (b = m.2.2.2.2.1) && aj_wd (ps.getD 0 0) (.methodLink own i m.1) && aj_wd (ps.getD 1 0) (.instanceMethod m.1) && aj_wd (ps.getD 2 0) (.selects m.1.cls m.1 m.1) && aj_wd (ps.getD 3 0) (.initialized m.1.cls)
      | _, _ => false)
    else if kind = 3 then (match aj_mt[a]? with
      | some m => decide (b = m.2.2.2.2.1) && decide (m.1.name = "<init>") && decide (m.2.2.2.1 = none) && aj_wd (ps.getD 0 0) (.methodLink own i m.1) && aj_wd (ps.getD 1 0) (.instanceMethod m.1) && aj_wd (ps.getD 2 0) (.initialized m.1.cls)
      | none => false)
    else if kind = 4 then (match aj_mt[a]? with
      | some m => decide (b = m.2.2.2.2.1) && decide (m.1.name = "<init>") && decide (m.2.2.2.1 = none) && aj_wn (ps.getD 0 0) (.methodLinkNest own i m.1 "DimShelf") && aj_wd (ps.getD 1 0) (.instanceMethod m.1) && aj_wd (ps.getD 2 0) (.initialized m.1.cls)
      | none => false)
    else if kind = 5 then decide (b = 0) && aj_wd (ps.getD 0 0) (.methodLink own i Lib.objectInit) && aj_wd (ps.getD 1 0) (.instanceMethod Lib.objectInit) && aj_wd (ps.getD 2 0) (.code Lib.objectInit ⟨#[0xb1]⟩ 1 none)
    else if kind = 6 then (match aj_mt[a]? with
      | some m => decide (b = m.2.2.2.2.1) && aj_wd (ps.getD 0 0) (.methodLink own i m.1) && aj_wd (ps.getD 1 0) (.static m.1) && aj_wd (ps.getD 2 0) (.initialized m.1.cls)
      | none => false)
    else if kind = 9 then (match aj_sf[a]? with
      | some q => aj_wd (ps.getD 0 0) (.fieldLink own i q.1 q.2.1 q.2.2)
      | none => false)
    else if kind = 10 then aj_wd (ps.getD 0 0) (.constant own i (Int32.ofInt v))
    else if kind = 11 then aj_wd (ps.getD 0 0) (.constantLong own i (Int64.ofInt v))
    else if kind = 12 then (match aj_cls[a]? with
      | some q => aj_wd (ps.getD 0 0) (.classLink own i q.1) && aj_wd (ps.getD 1 0) (.instantiable q.1 q.2.2.1) && aj_wd (ps.getD 2 0) (.initialized q.1)
      | none => false)
    else false
theorem aj_ckL_ok {own : String} {i kind a b : Nat} {v : Int} {ps : List Nat} (h : aj_ckL own (i, kind, a, b, v) ps = true) : aj_lkOK aj_Tg aj_nw aj_cls aj_mt aj_sf own i kind a b v := by
  unfold aj_ckL at h
  refine ⟨?_, ?_, ?_, ?_, ?_, ?_, ?_, ?_, ?_, ?_, ?_⟩
  all_goals (rintro rfl; simp only [Nat.reduceEqDiff, if_true, if_false] at h)
  · split at h
    · rename_i q hq
      simp only [Bool.and_eq_true, Bool.or_eq_true, Bool.not_eq_true', decide_eq_true_eq] at h
      exact ⟨q, hq, h.1.1.1, aj_wd_in h.1.1.2, fun z => h.1.2.resolve_left (fun y => y z), fun z => h.2.resolve_left (fun y => y z)⟩
    · cases h
  · split at h
    · rename_i q hq
      simp only [Bool.and_eq_true, Bool.or_eq_true, Bool.not_eq_true', decide_eq_true_eq] at h
      exact ⟨q, hq, h.1.1, ⟨_, aj_wn_in h.1.2⟩, fun z => h.2.resolve_left (fun y => y z)⟩
    · cases h
  · split at h
    · rename_i m q hm hq
      simp only [Bool.and_eq_true, decide_eq_true_eq] at h
      exact ⟨m, hm, ⟨q, hq, h.1.1.1.1.1⟩, h.1.1.1.1.2, aj_wd_in h.1.1.1.2, aj_wd_in h.1.1.2, aj_wd_in h.1.2, aj_wd_in h.2⟩
    · cases h
  · split at h
    · rename_i m hm
      simp only [Bool.and_eq_true, decide_eq_true_eq] at h
      exact ⟨m, hm, h.1.1.1.1.1, h.1.1.1.1.2, h.1.1.1.2, aj_wd_in h.1.1.2, aj_wd_in h.1.2, aj_wd_in h.2⟩
    · cases h
  · split at h
    · rename_i m hm
      simp only [Bool.and_eq_true, decide_eq_true_eq] at h
      exact ⟨m, hm, h.1.1.1.1.1, h.1.1.1.1.2, h.1.1.1.2, ⟨_, aj_wn_in h.1.1.2⟩, aj_wd_in h.1.2, aj_wd_in h.2⟩
    · cases h
  · simp only [Bool.and_eq_true, decide_eq_true_eq] at h
    exact ⟨h.1.1.1, aj_wd_in h.1.1.2, aj_wd_in h.1.2, aj_wd_in h.2⟩
  · split at h
    · rename_i m hm
      simp only [Bool.and_eq_true, decide_eq_true_eq] at h
      exact ⟨m, hm, h.1.1.1, aj_wd_in h.1.1.2, aj_wd_in h.1.2, aj_wd_in h.2⟩
    · cases h
  · split at h
    · rename_i q hq
      exact ⟨q, hq, aj_wd_in h⟩
    · cases h
  · exact aj_wd_in h
  · exact aj_wd_in h
  · split at h
    · rename_i q hq
      simp only [Bool.and_eq_true] at h
      exact ⟨q, hq, aj_wd_in h.1.1, aj_wd_in h.1.2, aj_wd_in h.2⟩
    · cases h
theorem aj_cks_ok {own : String} {lk : List aj_L} {lp : List (List Nat)} (hl : lk.length = lp.length) (h : (lk.zip lp).all (fun q => aj_ckL own q.1 q.2) = true) : aj_lksOK aj_Tg aj_nw aj_cls aj_mt aj_sf own lk := by
  intro i kind a b v hq
  unfold aj_link at hq
  obtain ⟨q, hq, he⟩ := Option.map_eq_some_iff.mp hq
  have h1 := List.find?_some hq
  have h2 := List.mem_of_find?_eq_some hq
  obtain ⟨qi, qk⟩ := q
  dsimp only at he h1
  subst he
  have h3 : qi = i := by simpa using h1
  subst h3
  obtain ⟨j, hj⟩ := List.getElem?_of_mem h2
  have hj1 := (List.getElem?_eq_some_iff.mp hj).1
  have h4 : (lk.zip lp)[j]? = some ((qi, kind, a, b, v), lp[j]'(by omega)) := by
    rw [List.getElem?_zip_eq_some]
    exact ⟨hj, List.getElem?_eq_getElem _⟩
  exact aj_ckL_ok (List.all_eq_true.mp h _ (List.mem_of_getElem? h4))
end
section
set_option maxRecDepth 100000 in
theorem aj_lks_0 : aj_lksOK aj_Tg aj_nw aj_cls aj_mt aj_sf "DimShelf" aj_lk0 := aj_cks_ok (lp := aj_lp0) (by decide +kernel) (by decide +kernel)
set_option maxRecDepth 100000 in
theorem aj_lks_1 : aj_lksOK aj_Tg aj_nw aj_cls aj_mt aj_sf "DimShelf$Shelf" aj_lk1 := aj_cks_ok (lp := aj_lp1) (by decide +kernel) (by decide +kernel)
set_option maxRecDepth 100000 in
theorem aj_lks_2 : aj_lksOK aj_Tg aj_nw aj_cls aj_mt aj_sf "DimShelf$Tokens" aj_lk2 := aj_cks_ok (lp := aj_lp2) (by decide +kernel) (by decide +kernel)
set_option maxRecDepth 100000 in
theorem aj_lks_3 : aj_lksOK aj_Tg aj_nw aj_cls aj_mt aj_sf "DimShelf$Plan" aj_lk3 := aj_cks_ok (lp := aj_lp3) (by decide +kernel) (by decide +kernel)
set_option maxRecDepth 100000 in
theorem aj_lks_4 : aj_lksOK aj_Tg aj_nw aj_cls aj_mt aj_sf "DimShelf$Parser" aj_lk4 := aj_cks_ok (lp := aj_lp4) (by decide +kernel) (by decide +kernel)
set_option maxRecDepth 100000 in
theorem aj_lks_5 : aj_lksOK aj_Tg aj_nw aj_cls aj_mt aj_sf "DimShelf$Checker" aj_lk5 := aj_cks_ok (lp := aj_lp5) (by decide +kernel) (by decide +kernel)
set_option maxRecDepth 100000 in
theorem aj_lks_6 : aj_lksOK aj_Tg aj_nw aj_cls aj_mt aj_sf "DimShelf$Worker" aj_lk6 := aj_cks_ok (lp := aj_lp6) (by decide +kernel) (by decide +kernel)
set_option maxRecDepth 100000 in
theorem aj_lks_7 : aj_lksOK aj_Tg aj_nw aj_cls aj_mt aj_sf "DimShelf$Grouper" aj_lk7 := aj_cks_ok (lp := aj_lp7) (by decide +kernel) (by decide +kernel)
set_option maxRecDepth 100000 in
theorem aj_lks_8 : aj_lksOK aj_Tg aj_nw aj_cls aj_mt aj_sf "DimShelf$Rows" aj_lk8 := aj_cks_ok (lp := aj_lp8) (by decide +kernel) (by decide +kernel)
set_option maxRecDepth 100000 in
theorem aj_lks_9 : aj_lksOK aj_Tg aj_nw aj_cls aj_mt aj_sf "DimShelf$Listing" aj_lk9 := aj_cks_ok (lp := aj_lp9) (by decide +kernel) (by decide +kernel)
set_option maxRecDepth 100000 in
theorem aj_lks_10 : aj_lksOK aj_Tg aj_nw aj_cls aj_mt aj_sf "DimShelf$Reason" aj_lk10 := aj_cks_ok (lp := aj_lp10) (by decide +kernel) (by decide +kernel)
set_option maxRecDepth 100000 in
theorem aj_lks_11 : aj_lksOK aj_Tg aj_nw aj_cls aj_mt aj_sf "DimShelf$Grammar" aj_lk11 := aj_cks_ok (lp := aj_lp11) (by decide +kernel) (by decide +kernel)
set_option maxRecDepth 100000 in
theorem aj_lks_12 : aj_lksOK aj_Tg aj_nw aj_cls aj_mt aj_sf "java/util/Arrays" aj_lk12 := aj_cks_ok (lp := aj_lp12) (by decide +kernel) (by decide +kernel)
set_option maxRecDepth 100000 in
theorem aj_lks_13 : aj_lksOK aj_Tg aj_nw aj_cls aj_mt aj_sf "java/lang/Integer" aj_lk13 := aj_cks_ok (lp := aj_lp13) (by decide +kernel) (by decide +kernel)
set_option maxRecDepth 100000 in
theorem aj_lks_14 : aj_lksOK aj_Tg aj_nw aj_cls aj_mt aj_sf "DimShelfModel" aj_lk14 := aj_cks_ok (lp := aj_lp14) (by decide +kernel) (by decide +kernel)
set_option maxRecDepth 100000 in
theorem aj_lks_15 : aj_lksOK aj_Tg aj_nw aj_cls aj_mt aj_sf "DimShelfLaw" aj_lk15 := aj_cks_ok (lp := aj_lp15) (by decide +kernel) (by decide +kernel)
end
section
def aj_ol : List (String × List aj_L) := [("DimShelf", aj_lk0), ("DimShelf$Shelf", aj_lk1), ("DimShelf$Tokens", aj_lk2), ("DimShelf$Plan", aj_lk3), ("DimShelf$Parser", aj_lk4), ("DimShelf$Checker", aj_lk5), ("DimShelf$Worker", aj_lk6), ("DimShelf$Grouper", aj_lk7), ("DimShelf$Rows", aj_lk8), ("DimShelf$Listing", aj_lk9), ("DimShelf$Reason", aj_lk10), ("DimShelf$Grammar", aj_lk11), ("java/util/Arrays", aj_lk12), ("java/lang/Integer", aj_lk13), ("DimShelfModel", aj_lk14), ("DimShelfLaw", aj_lk15)]
theorem aj_ol_ok : ∀ q ∈ aj_ol, aj_lksOK aj_Tg aj_nw aj_cls aj_mt aj_sf q.1 q.2 := List.forall_mem_cons.mpr ⟨aj_lks_0, List.forall_mem_cons.mpr ⟨aj_lks_1, List.forall_mem_cons.mpr ⟨aj_lks_2, List.forall_mem_cons.mpr ⟨aj_lks_3, List.forall_mem_cons.mpr ⟨aj_lks_4, List.forall_mem_cons.mpr ⟨aj_lks_5, List.forall_mem_cons.mpr ⟨aj_lks_6, List.forall_mem_cons.mpr ⟨aj_lks_7, List.forall_mem_cons.mpr ⟨aj_lks_8, List.forall_mem_cons.mpr ⟨aj_lks_9, List.forall_mem_cons.mpr ⟨aj_lks_10, List.forall_mem_cons.mpr ⟨aj_lks_11, List.forall_mem_cons.mpr ⟨aj_lks_12, List.forall_mem_cons.mpr ⟨aj_lks_13, List.forall_mem_cons.mpr ⟨aj_lks_14, List.forall_mem_cons.mpr ⟨aj_lks_15, fun _ h => absurd h List.not_mem_nil⟩⟩⟩⟩⟩⟩⟩⟩⟩⟩⟩⟩⟩⟩⟩⟩
def aj_ckM (q : MethodName × Nat × Nat × Option FieldType × Nat × List aj_L × String) : Bool := plainName q.1.cls && decide (q.2.2.1 ≤ 21) && decide (q.1.cls ≠ "java/lang/invoke/MethodHandle") && decide (q.1.cls ≠ "java/lang/invoke/VarHandle") && decide ((parseMethodDescriptor q.1.desc).map (fun d => d.parameters.length) = some q.2.2.2.2.1) && aj_ol.any (fun z => decide (z.1 = q.1.cls) && decide (z.2 = q.2.2.2.2.2.1)) && (match lw_tbl[q.2.1]? with
  | some (.code y _ ml r) => decide (y = q.1) && decide (ml = q.2.2.1) && decide (r = q.2.2.2.1)
  | _ => false)
theorem aj_ckM_ok {q : MethodName × Nat × Nat × Option FieldType × Nat × List aj_L × String} (h : aj_ckM q = true) : plainName (aj_mk q).1.cls = true ∧ (aj_mk q).2.2.1 ≤ 21 ∧ Cond.code (aj_mk q).1 (aj_mk q).2.1 (aj_mk q).2.2.1 (aj_mk q).2.2.2.1 ∈ aj_Tg ∧ ((aj_mk q).1.cls ≠ "java/lang/invoke/MethodHandle" ∧ (aj_mk q).1.cls ≠ "java/lang/invoke/VarHandle") ∧ (parseMethodDescriptor (aj_mk q).1.desc).map (fun d => d.parameters.length) = some (aj_mk q).2.2.2.2.1 ∧ aj_lksOK aj_Tg aj_nw aj_cls aj_mt aj_sf (aj_mk q).1.cls (aj_mk q).2.2.2.2.2.1 := by
  unfold aj_ckM at h
  simp only [Bool.and_eq_true, decide_eq_true_eq, List.any_eq_true] at h
  obtain ⟨⟨⟨⟨⟨⟨h1, h2⟩, h4⟩, h5⟩, h6⟩, z, hz, h7, h8⟩, h9⟩ := h
  refine ⟨h1, h2, ?_, ⟨h4, h5⟩, h6, ?_⟩
  · split at h9
    · rename_i y b ml r hy
      simp only [Bool.and_eq_true, decide_eq_true_eq] at h9
      obtain ⟨⟨e1, e2⟩, e3⟩ := h9
      have hb : (aj_mk q).2.1 = b := by simp [aj_mk, aj_bc, hy]
      rw [hb]
      show Cond.code q.1 b q.2.2.1 q.2.2.2.1 ∈ aj_Tg
      rw [← e1, ← e2, ← e3]
      exact List.mem_filter.mpr ⟨List.mem_of_getElem? hy, rfl⟩
    · cases h9
  · show aj_lksOK aj_Tg aj_nw aj_cls aj_mt aj_sf q.1.cls q.2.2.2.2.2.1
    rw [← h7, ← h8]
    exact aj_ol_ok z hz
set_option maxRecDepth 100000 in
theorem aj_mk_0 : aj_rt0.all aj_ckM = true := by decide +kernel
set_option maxRecDepth 100000 in
theorem aj_mk_1 : aj_rt1.all aj_ckM = true := by decide +kernel
set_option maxRecDepth 100000 in
theorem aj_mk_2 : aj_rt2.all aj_ckM = true := by decide +kernel
set_option maxRecDepth 100000 in
theorem aj_mk_3 : aj_rt3.all aj_ckM = true := by decide +kernel
set_option maxRecDepth 100000 in
theorem aj_mk_4 : aj_rt4.all aj_ckM = true := by decide +kernel
set_option maxRecDepth 100000 in
theorem aj_mk_5 : aj_rt5.all aj_ckM = true := by decide +kernel
theorem aj_mtOK1 : aj_mtOK aj_Tg aj_nw aj_cls aj_mt aj_sf := by
  intro mi mm hm
  have hm := List.mem_of_getElem? hm
  obtain ⟨q, hq, rfl⟩ := List.mem_map.mp hm
  have : aj_ckM q = true := by
    unfold aj_rt at hq
    simp only [List.mem_append] at hq
    rcases hq with hq | hq | hq | hq | hq | hq
    · exact List.all_eq_true.mp aj_mk_0 q hq
    · exact List.all_eq_true.mp aj_mk_1 q hq
    · exact List.all_eq_true.mp aj_mk_2 q hq
    · exact List.all_eq_true.mp aj_mk_3 q hq
    · exact List.all_eq_true.mp aj_mk_4 q hq
    · exact List.all_eq_true.mp aj_mk_5 q hq
  exact aj_ckM_ok this
end
section
/-! EACH METHOD AS A LIST: place, instruction, length (printed by wip/p1/gen_code.py out of the rows that decode each) -/
def aj_c0 : List (Nat × Instr × Nat) := [(0, .aload_n 0, 1), (1, .invokespecial 1, 3), (4, .aload_n 0, 1), (5, .sipush 4000, 3), (8, .newarray .char, 2), (10, .putfield 9, 3), (13, .aload_n 0, 1), (14, .iconst 0, 1), (15, .putfield 13, 3), (18, .aload_n 0, 1), (19, .iconst (-1), 1), (20, .putfield 17, 3), (23, .aload_n 0, 1), (24, .new 20, 3), (27, .dup, 1), (28, .invokespecial 22, 3), (31, .putfield 23, 3), (34, .aload_n 0, 1), (35, .new 20, 3), (38, .dup, 1), (39, .invokespecial 22, 3), (42, .putfield 27, 3), (45, .aload_n 0, 1), (46, .new 30, 3), (49, .dup, 1), (50, .invokespecial 32, 3), (53, .putfield 33, 3), (56, .aload_n 0, 1), (57, .new 37, 3), (60, .dup, 1), (61, .invokespecial 39, 3), (64, .putfield 40, 3), (67, .aload_n 0, 1), (68, .new 44, 3), (71, .dup, 1), (72, .aload_n 0, 1), (73, .getfield 33, 3), (76, .aload_n 0, 1), (77, .getfield 40, 3), (80, .invokespecial 46, 3), (83, .putfield 49, 3), (86, .aload_n 0, 1), (87, .new 53, 3), (90, .dup, 1), (91, .aload_n 0, 1), (92, .getfield 33, 3), (95, .aload_n 0, 1), (96, .getfield 40, 3), (99, .invokespecial 55, 3), (102, .putfield 56, 3), (105, .aload_n 0, 1), (106, .new 60, 3), (109, .dup, 1), (110, .aload_n 0, 1), (111, .getfield 33, 3), (114, .aload_n 0, 1), (115, .getfield 40, 3), (118, .invokespecial 62, 3), (121, .putfield 63, 3), (124, .aload_n 0, 1), (125, .new 67, 3), (128, .dup, 1), (129, .invokespecial 69, 3), (132, .putfield 70, 3), (135, .aload_n 0, 1), (136, .new 74, 3), (139, .dup, 1), (140, .invokespecial 76, 3), (143, .putfield 77, 3), (146, .aload_n 0, 1), (147, .bipush 30, 2), (149, .newarray .int, 2), (151, .putfield 83, 3), (154, .aload_n 0, 1), (155, .bipush 30, 2), (157, .newarray .int, 2), (159, .putfield 87, 3), (162, .return_, 1)]
def aj_c1 : List (Nat × Instr × Nat) := [(0, .aload_n 0, 1), (1, .invokespecial 3, 3), (4, .aload_n 0, 1), (5, .bipush 8, 2), (7, .newarray .long, 2), (9, .putfield 11, 3), (12, .aload_n 0, 1), (13, .bipush 8, 2), (15, .newarray .int, 2), (17, .putfield 15, 3), (20, .aload_n 0, 1), (21, .sipush 512, 3), (24, .newarray .int, 2), (26, .putfield 19, 3), (29, .aload_n 0, 1), (30, .sipush 8192, 3), (33, .newarray .int, 2), (35, .putfield 22, 3), (38, .aload_n 0, 1), (39, .sipush 1024, 3), (42, .newarray .int, 2), (44, .putfield 25, 3), (47, .aload_n 0, 1), (48, .sipush 1024, 3), (51, .newarray .int, 2), (53, .putfield 28, 3), (56, .aload_n 0, 1), (57, .sipush 1024, 3), (60, .newarray .boolean, 2), (62, .putfield 31, 3), (65, .aload_n 0, 1), (66, .bipush 10, 2), (68, .anewarray 35, 3), (71, .putfield 37, 3), (74, .aload_n 0, 1), (75, .bipush 10, 2), (77, .newarray .long, 2), (79, .putfield 41, 3), (82, .aload_n 0, 1), (83, .bipush 60, 2), (85, .newarray .long, 2), (87, .putfield 44, 3), (90, .aload_n 0, 1), (91, .bipush 10, 2), (93, .newarray .boolean, 2), (95, .putfield 47, 3), (98, .aload_n 0, 1), (99, .invokevirtual 50, 3), (102, .aload_n 0, 1), (103, .invokevirtual 53, 3), (106, .return_, 1)]
def aj_c2 : List (Nat × Instr × Nat) := [(0, .aload_n 0, 1), (1, .iconst 0, 1), (2, .putfield 56, 3), (5, .aload_n 0, 1), (6, .iconst 0, 1), (7, .putfield 60, 3), (10, .aload_n 0, 1), (11, .iconst 1, 1), (12, .putfield 63, 3), (15, .aload_n 0, 1), (16, .iconst 0, 1), (17, .putfield 66, 3), (20, .aload_n 0, 1), (21, .iconst 0, 1), (22, .putfield 69, 3), (25, .aload_n 0, 1), (26, .iconst 0, 1), (27, .putfield 72, 3), (30, .return_, 1)]
def aj_c3 : List (Nat × Instr × Nat) := [(0, .iconst 0, 1), (1, .istore_n 1, 1), (2, .iload_n 1, 1), (3, .aload_n 0, 1), (4, .getfield 63, 3), (7, .if_icmp .ge 76, 3), (10, .iload_n 1, 1), (11, .aload_n 0, 1), (12, .getfield 25, 3), (15, .arraylength, 1), (16, .if_icmp .ge 67, 3), (19, .aload_n 0, 1), (20, .getfield 25, 3), (23, .iload_n 1, 1), (24, .iconst 0, 1), (25, .iastore, 1), (26, .iload_n 1, 1), (27, .istore_n 2, 1), (28, .aload_n 0, 1), (29, .getfield 56, 3), (32, .iconst 1, 1), (33, .isub, 1), (34, .istore_n 3, 1), (35, .iload_n 3, 1), (36, .ifCond .lt 41, 3), (39, .aload_n 0, 1), (40, .iload_n 3, 1), (41, .invokevirtual 76, 3), (44, .istore 4, 2), (46, .iload 4, 2), (48, .ifCond .le 23, 3), (51, .aload_n 0, 1), (52, .iload_n 1, 1), (53, .iload_n 3, 1), (54, .iload_n 3, 1), (55, .bipush 64, 2), (57, .imul, 1), (58, .iload_n 2, 1), (59, .iload 4, 2), (61, .irem, 1), (62, .iadd, 1), (63, .invokevirtual 95, 3), (66, .iload_n 2, 1), (67, .iload 4, 2), (69, .idiv, 1), (70, .istore_n 2, 1), (71, .iinc 3 (-1), 3), (74, .goto (-39), 3), (77, .iinc 1 1, 3), (80, .goto (-78), 3), (83, .aload_n 0, 1), (84, .invokevirtual 99, 3), (87, .return_, 1)]
def aj_c4 : List (Nat × Instr × Nat) := [(0, .iload_n 1, 1), (1, .ifCond .lt 21, 3), (4, .iload_n 1, 1), (5, .aload_n 0, 1), (6, .getfield 15, 3), (9, .arraylength, 1), (10, .if_icmp .ge 12, 3), (13, .aload_n 0, 1), (14, .getfield 15, 3), (17, .iload_n 1, 1), (18, .iaload, 1), (19, .goto 4, 3), (22, .iconst 0, 1), (23, .ireturn, 1)]
def aj_c5 : List (Nat × Instr × Nat) := [(0, .iload_n 1, 1), (1, .bipush 8, 2), (3, .imul, 1), (4, .iload_n 2, 1), (5, .iadd, 1), (6, .istore 4, 2), (8, .iload 4, 2), (10, .ifCond .lt 39, 3), (13, .iload 4, 2), (15, .aload_n 0, 1), (16, .getfield 22, 3), (19, .arraylength, 1), (20, .if_icmp .ge 29, 3), (23, .iload_n 3, 1), (24, .ifCond .lt 25, 3), (27, .iload_n 3, 1), (28, .aload_n 0, 1), (29, .getfield 19, 3), (32, .arraylength, 1), (33, .if_icmp .ge 16, 3), (36, .aload_n 0, 1), (37, .getfield 22, 3), (40, .iload 4, 2), (42, .aload_n 0, 1), (43, .getfield 19, 3), (46, .iload_n 3, 1), (47, .iaload, 1), (48, .iastore, 1), (49, .return_, 1)]
def aj_c6 : List (Nat × Instr × Nat) := [(0, .aload_n 0, 1), (1, .iconst 0, 1), (2, .putfield 102, 3), (5, .iconst 0, 1), (6, .istore_n 1, 1), (7, .iload_n 1, 1), (8, .aload_n 0, 1), (9, .getfield 63, 3), (12, .if_icmp .ge 59, 3), (15, .iload_n 1, 1), (16, .aload_n 0, 1), (17, .getfield 25, 3), (20, .arraylength, 1), (21, .if_icmp .ge 50, 3), (24, .aload_n 0, 1), (25, .getfield 25, 3), (28, .iload_n 1, 1), (29, .iaload, 1), (30, .ifCond .ne 35, 3), (33, .aload_n 0, 1), (34, .getfield 102, 3), (37, .aload_n 0, 1), (38, .getfield 28, 3), (41, .arraylength, 1), (42, .if_icmp .ge 23, 3), (45, .aload_n 0, 1), (46, .getfield 28, 3), (49, .aload_n 0, 1), (50, .getfield 102, 3), (53, .iload_n 1, 1), (54, .iastore, 1), (55, .aload_n 0, 1), (56, .dup, 1), (57, .getfield 102, 3), (60, .iconst 1, 1), (61, .iadd, 1), (62, .putfield 102, 3), (65, .iinc 1 1, 3), (68, .goto (-61), 3), (71, .return_, 1)]
def aj_c7 : List (Nat × Instr × Nat) := [(0, .aload_n 0, 1), (1, .invokespecial 1, 3), (4, .aload_n 0, 1), (5, .sipush 1002, 3), (8, .newarray .int, 2), (10, .putfield 9, 3), (13, .aload_n 0, 1), (14, .sipush 1002, 3), (17, .newarray .int, 2), (19, .putfield 13, 3), (22, .aload_n 0, 1), (23, .sipush 1002, 3), (26, .newarray .long, 2), (28, .putfield 16, 3), (31, .return_, 1)]
def aj_c8 : List (Nat × Instr × Nat) := [(0, .aload_n 0, 1), (1, .invokespecial 1, 3), (4, .aload_n 0, 1), (5, .sipush 2500, 3), (8, .newarray .int, 2), (10, .putfield 9, 3), (13, .aload_n 0, 1), (14, .sipush 2500, 3), (17, .newarray .int, 2), (19, .putfield 13, 3), (22, .aload_n 0, 1), (23, .sipush 2500, 3), (26, .newarray .int, 2), (28, .putfield 16, 3), (31, .aload_n 0, 1), (32, .sipush 2500, 3), (35, .newarray .int, 2), (37, .putfield 19, 3), (40, .return_, 1)]
def aj_c9 : List (Nat × Instr × Nat) := [(0, .aload_n 0, 1), (1, .invokespecial 3, 3), (4, .aload_n 0, 1), (5, .sipush 512, 3), (8, .newarray .int, 2), (10, .putfield 11, 3), (13, .aload_n 0, 1), (14, .bipush 10, 2), (16, .newarray .long, 2), (18, .putfield 17, 3), (21, .aload_n 0, 1), (22, .bipush 10, 2), (24, .newarray .int, 2), (26, .putfield 21, 3), (29, .aload_n 0, 1), (30, .aload_n 1, 1), (31, .putfield 24, 3), (34, .aload_n 0, 1), (35, .aload_n 2, 1), (36, .putfield 28, 3), (39, .return_, 1)]
def aj_c10 : List (Nat × Instr × Nat) := [(0, .aload_n 0, 1), (1, .invokespecial 3, 3), (4, .aload_n 0, 1), (5, .bipush 120, 2), (7, .newarray .long, 2), (9, .putfield 13, 3), (12, .aload_n 0, 1), (13, .bipush 20, 2), (15, .newarray .int, 2), (17, .putfield 19, 3), (20, .aload_n 0, 1), (21, .bipush 6, 2), (23, .newarray .long, 2), (25, .putfield 23, 3), (28, .aload_n 0, 1), (29, .aload_n 1, 1), (30, .putfield 26, 3), (33, .aload_n 0, 1), (34, .aload_n 2, 1), (35, .putfield 30, 3), (38, .return_, 1)]
def aj_c11 : List (Nat × Instr × Nat) := [(0, .aload_n 0, 1), (1, .invokespecial 1, 3), (4, .aload_n 0, 1), (5, .new 7, 3), (8, .dup, 1), (9, .invokespecial 9, 3), (12, .putfield 10, 3), (15, .aload_n 0, 1), (16, .bipush 20, 2), (18, .anewarray 16, 3), (21, .putfield 18, 3), (24, .aload_n 0, 1), (25, .new 16, 3), (28, .dup, 1), (29, .invokespecial 22, 3), (32, .putfield 23, 3), (35, .aload_n 0, 1), (36, .sipush 1024, 3), (39, .newarray .int, 2), (41, .putfield 29, 3), (44, .aload_n 0, 1), (45, .aload_n 1, 1), (46, .putfield 33, 3), (49, .aload_n 0, 1), (50, .aload_n 2, 1), (51, .putfield 37, 3), (54, .return_, 1)]
def aj_c12 : List (Nat × Instr × Nat) := [(0, .aload_n 0, 1), (1, .invokespecial 3, 3), (4, .aload_n 0, 1), (5, .bipush 6, 2), (7, .newarray .int, 2), (9, .putfield 11, 3), (12, .aload_n 0, 1), (13, .bipush 30, 2), (15, .newarray .int, 2), (17, .putfield 19, 3), (20, .aload_n 0, 1), (21, .bipush 6, 2), (23, .newarray .int, 2), (25, .putfield 22, 3), (28, .aload_n 0, 1), (29, .bipush 6, 2), (31, .newarray .boolean, 2), (33, .putfield 25, 3), (36, .return_, 1)]
def aj_c13 : List (Nat × Instr × Nat) := [(0, .aload_n 0, 1), (1, .invokespecial 3, 3), (4, .aload_n 0, 1), (5, .sipush 180, 3), (8, .newarray .int, 2), (10, .putfield 11, 3), (13, .aload_n 0, 1), (14, .sipush 180, 3), (17, .newarray .boolean, 2), (19, .putfield 15, 3), (22, .aload_n 0, 1), (23, .sipush 1024, 3), (26, .newarray .int, 2), (28, .putfield 19, 3), (31, .return_, 1)]
def aj_c14 : List (Nat × Instr × Nat) := [(0, .aload_n 0, 1), (1, .invokespecial 3, 3), (4, .aload_n 0, 1), (5, .iconst (-1), 1), (6, .putfield 9, 3), (9, .aload_n 0, 1), (10, .bipush 64, 2), (12, .newarray .int, 2), (14, .putfield 15, 3), (17, .aload_n 0, 1), (18, .bipush 64, 2), (20, .newarray .int, 2), (22, .putfield 19, 3), (25, .aload_n 0, 1), (26, .sipush 1024, 3), (29, .newarray .int, 2), (31, .putfield 24, 3), (34, .aload_n 0, 1), (35, .bipush 30, 2), (37, .newarray .int, 2), (39, .putfield 29, 3), (42, .aload_n 0, 1), (43, .bipush 30, 2), (45, .newarray .int, 2), (47, .putfield 32, 3), (50, .return_, 1)]
def aj_c15 : List (Nat × Instr × Nat) := [(0, .aload_n 0, 1), (1, .invokespecial 3, 3), (4, .aload_n 0, 1), (5, .sipush 1024, 3), (8, .newarray .int, 2), (10, .putfield 11, 3), (13, .return_, 1)]
def aj_c16 : List (Nat × Instr × Nat) := [(0, .aload_n 0, 1), (1, .getfield 13, 3), (4, .sipush 3980, 3), (7, .if_icmp .le 5, 3), (10, .iconst (-1), 1), (11, .ireturn, 1), (12, .aload_n 0, 1), (13, .iload_n 1, 1), (14, .invokevirtual 90, 3), (17, .aload_n 0, 1), (18, .iload_n 2, 1), (19, .invokevirtual 90, 3), (22, .aload_n 0, 1), (23, .iload_n 3, 1), (24, .invokevirtual 90, 3), (27, .aload_n 0, 1), (28, .iload 4, 2), (30, .invokevirtual 90, 3), (33, .aload_n 0, 1), (34, .iload 5, 2), (36, .invokevirtual 90, 3), (39, .aload_n 0, 1), (40, .getfield 13, 3), (43, .ireturn, 1)]
def aj_c17 : List (Nat × Instr × Nat) := [(0, .bipush 24, 2), (2, .istore_n 2, 1), (3, .iload_n 2, 1), (4, .ifCond .lt 48, 3), (7, .aload_n 0, 1), (8, .getfield 13, 3), (11, .aload_n 0, 1), (12, .getfield 9, 3), (15, .arraylength, 1), (16, .if_icmp .ge 30, 3), (19, .aload_n 0, 1), (20, .getfield 9, 3), (23, .aload_n 0, 1), (24, .getfield 13, 3), (27, .iload_n 1, 1), (28, .iload_n 2, 1), (29, .ishr, 1), (30, .sipush 255, 3), (33, .iand, 1), (34, .i2c, 1), (35, .castore, 1), (36, .aload_n 0, 1), (37, .dup, 1), (38, .getfield 13, 3), (41, .iconst 1, 1), (42, .iadd, 1), (43, .putfield 13, 3), (46, .iinc 2 (-8), 3), (49, .goto (-46), 3), (52, .return_, 1)]
def aj_c18 : List (Nat × Instr × Nat) := [(0, .iload_n 1, 1), (1, .ifCond .lt 11, 3), (4, .iload_n 1, 1), (5, .aload_n 0, 1), (6, .getfield 13, 3), (9, .if_icmp .le 5, 3), (12, .iconst (-1), 1), (13, .ireturn, 1), (14, .aload_n 0, 1), (15, .dup, 1), (16, .getfield 13, 3), (19, .iload_n 1, 1), (20, .isub, 1), (21, .putfield 13, 3), (24, .aload_n 0, 1), (25, .getfield 13, 3), (28, .ireturn, 1)]
def aj_c19 : List (Nat × Instr × Nat) := [(0, .aload_n 0, 1), (1, .getfield 27, 3), (4, .invokevirtual 94, 3), (7, .aload_n 0, 1), (8, .sipush 130, 3), (11, .aload_n 0, 1), (12, .getfield 27, 3), (15, .invokevirtual 99, 3), (18, .aload_n 0, 1), (19, .getfield 40, 3), (22, .getfield 103, 3), (25, .ifCond .ne 14, 3), (28, .aload_n 0, 1), (29, .getfield 63, 3), (32, .aload_n 0, 1), (33, .getfield 27, 3), (36, .invokevirtual 106, 3), (39, .aload_n 0, 1), (40, .aload_n 0, 1), (41, .getfield 40, 3), (44, .getfield 103, 3), (47, .ifCond .ne 7, 3), (50, .iconst (-1), 1), (51, .goto 10, 3), (54, .aload_n 0, 1), (55, .getfield 40, 3), (58, .getfield 110, 3), (61, .putfield 17, 3), (64, .aload_n 0, 1), (65, .getfield 40, 3), (68, .getfield 103, 3), (71, .ifCond .ne 25, 3), (74, .aload_n 0, 1), (75, .getfield 23, 3), (78, .astore_n 1, 1), (79, .aload_n 0, 1), (80, .aload_n 0, 1), (81, .getfield 27, 3), (84, .putfield 23, 3), (87, .aload_n 0, 1), (88, .aload_n 1, 1), (89, .putfield 27, 3), (92, .aload_n 0, 1), (93, .invokevirtual 113, 3), (96, .aload_n 0, 1), (97, .getfield 40, 3), (100, .getfield 103, 3), (103, .ireturn, 1)]
def aj_c20 : List (Nat × Instr × Nat) := [(0, .aload_n 0, 1), (1, .getfield 33, 3), (4, .aload_n 0, 1), (5, .getfield 9, 3), (8, .aload_n 0, 1), (9, .getfield 13, 3), (12, .invokevirtual 231, 3), (15, .aload_n 0, 1), (16, .iconst 0, 1), (17, .putfield 13, 3), (20, .aload_n 0, 1), (21, .getfield 40, 3), (24, .invokevirtual 235, 3), (27, .aload_n 0, 1), (28, .getfield 49, 3), (31, .iload_n 1, 1), (32, .invokevirtual 236, 3), (35, .aload_n 0, 1), (36, .getfield 40, 3), (39, .getfield 103, 3), (42, .ifCond .ne 11, 3), (45, .aload_n 0, 1), (46, .getfield 56, 3), (49, .aload_n 2, 1), (50, .invokevirtual 239, 3), (53, .return_, 1)]
def aj_c21 : List (Nat × Instr × Nat) := [(0, .aload_n 0, 1), (1, .iconst 0, 1), (2, .putfield 22, 3), (5, .iconst 1, 1), (6, .istore_n 3, 1), (7, .iconst 0, 1), (8, .istore 4, 2), (10, .iload_n 3, 1), (11, .ifCond .eq 76, 3), (14, .iload 4, 2), (16, .iload_n 2, 1), (17, .if_icmp .ge 70, 3), (20, .iload 4, 2), (22, .aload_n 1, 1), (23, .arraylength, 1), (24, .if_icmp .ge 63, 3), (27, .aload_n 1, 1), (28, .iload 4, 2), (30, .caload, 1), (31, .istore 5, 2), (33, .iload 5, 2), (35, .invokestatic 26, 3), (38, .ifCond .eq 9, 3), (41, .iinc 4 1, 3), (44, .goto 40, 3), (47, .aload_n 0, 1), (48, .aload_n 1, 1), (49, .iload_n 2, 1), (50, .iload 4, 2), (52, .invokevirtual 30, 3), (55, .istore 6, 2), (57, .iload 6, 2), (59, .iload 4, 2), (61, .if_icmp .le 17, 3), (64, .aload_n 0, 1), (65, .getfield 22, 3), (68, .sipush 1000, 3), (71, .if_icmp .gt 7, 3), (74, .iconst 1, 1), (75, .goto 4, 3), (78, .iconst 0, 1), (79, .istore_n 3, 1), (80, .iload 6, 2), (82, .istore 4, 2), (84, .goto (-74), 3), (87, .aload_n 0, 1), (88, .iconst 1, 1), (89, .iload_n 2, 1), (90, .lconst 0, 1), (91, .invokevirtual 34, 3), (94, .return_, 1)]
def aj_c22 : List (Nat × Instr × Nat) := [(0, .iload_n 0, 1), (1, .bipush 9, 2), (3, .if_icmp .eq 21, 3), (6, .iload_n 0, 1), (7, .bipush 10, 2), (9, .if_icmp .eq 15, 3), (12, .iload_n 0, 1), (13, .bipush 13, 2), (15, .if_icmp .eq 9, 3), (18, .iload_n 0, 1), (19, .bipush 32, 2), (21, .if_icmp .ne 7, 3), (24, .iconst 1, 1), (25, .goto 4, 3), (28, .iconst 0, 1), (29, .ireturn, 1)]
def aj_c23 : List (Nat × Instr × Nat) := [(0, .iload_n 3, 1), (1, .aload_n 1, 1), (2, .arraylength, 1), (3, .if_icmp .ge 9, 3), (6, .aload_n 1, 1), (7, .iload_n 3, 1), (8, .caload, 1), (9, .goto 4, 3), (12, .iconst 0, 1), (13, .istore 4, 2), (15, .iload 4, 2), (17, .invokestatic 38, 3), (20, .ifCond .eq 11, 3), (23, .aload_n 0, 1), (24, .aload_n 1, 1), (25, .iload_n 2, 1), (26, .iload_n 3, 1), (27, .invokevirtual 41, 3), (30, .ireturn, 1), (31, .iload 4, 2), (33, .invokestatic 44, 3), (36, .ifCond .eq 11, 3), (39, .aload_n 0, 1), (40, .aload_n 1, 1), (41, .iload_n 2, 1), (42, .iload_n 3, 1), (43, .invokevirtual 47, 3), (46, .ireturn, 1), (47, .iload_n 3, 1), (48, .iconst 1, 1), (49, .iadd, 1), (50, .iload_n 2, 1), (51, .if_icmp .ge 19, 3), (54, .iload_n 3, 1), (55, .iconst 1, 1), (56, .iadd, 1), (57, .aload_n 1, 1), (58, .arraylength, 1), (59, .if_icmp .ge 11, 3), (62, .aload_n 1, 1), (63, .iload_n 3, 1), (64, .iconst 1, 1), (65, .iadd, 1), (66, .caload, 1), (67, .goto 4, 3), (70, .iconst 0, 1), (71, .istore 5, 2), (73, .iload 4, 2), (75, .bipush 46, 2), (77, .if_icmp .ne 21, 3), (80, .iload 5, 2), (82, .bipush 46, 2), (84, .if_icmp .ne 14, 3), (87, .aload_n 0, 1), (88, .iconst 5, 1), (89, .iload_n 3, 1), (90, .lconst 0, 1), (91, .invokevirtual 34, 3), (94, .iload_n 3, 1), (95, .iconst 2, 1), (96, .iadd, 1), (97, .ireturn, 1), (98, .iload 5, 2), (100, .bipush 61, 2), (102, .if_icmp .ne 41, 3), (105, .iload 4, 2), (107, .bipush 33, 2), (109, .if_icmp .eq 10, 3), (112, .iload 4, 2), (114, .bipush 60, 2), (116, .if_icmp .ne 27, 3), (119, .aload_n 0, 1), (120, .iload 4, 2), (122, .bipush 33, 2), (124, .if_icmp .ne 8, 3), (127, .bipush 6, 2), (129, .goto 5, 3), (132, .bipush 7, 2), (134, .iload_n 3, 1), (135, .lconst 0, 1), (136, .invokevirtual 34, 3), (139, .iload_n 3, 1), (140, .iconst 2, 1), (141, .iadd, 1), (142, .ireturn, 1), (143, .iload 4, 2), (145, .invokestatic 50, 3), (148, .ifCond .ne 12, 3), (151, .aload_n 0, 1), (152, .iconst 2, 1), (153, .iload_n 3, 1), (154, .lconst 0, 1), (155, .invokevirtual 34, 3), (158, .iload_n 3, 1), (159, .ireturn, 1), (160, .aload_n 0, 1), (161, .iload 4, 2), (163, .iload_n 3, 1), (164, .lconst 0, 1), (165, .invokevirtual 34, 3), (168, .iload_n 3, 1), (169, .iconst 1, 1), (170, .iadd, 1), (171, .ireturn, 1)]
def aj_c24 : List (Nat × Instr × Nat) := [(0, .iload_n 0, 1), (1, .bipush 97, 2), (3, .if_icmp .lt 13, 3), (6, .iload_n 0, 1), (7, .bipush 122, 2), (9, .if_icmp .gt 7, 3), (12, .iconst 1, 1), (13, .goto 4, 3), (16, .iconst 0, 1), (17, .ireturn, 1)]
def aj_c25 : List (Nat × Instr × Nat) := [(0, .iload_n 3, 1), (1, .istore 4, 2), (3, .lconst 0, 1), (4, .lstore 5, 2), (6, .iload 4, 2), (8, .iload_n 2, 1), (9, .if_icmp .ge 49, 3), (12, .iload 4, 2), (14, .aload_n 1, 1), (15, .arraylength, 1), (16, .if_icmp .ge 42, 3), (19, .aload_n 1, 1), (20, .iload 4, 2), (22, .caload, 1), (23, .invokestatic 38, 3), (26, .ifCond .ne 13, 3), (29, .aload_n 1, 1), (30, .iload 4, 2), (32, .caload, 1), (33, .invokestatic 44, 3), (36, .ifCond .eq 22, 3), (39, .lload 5, 2), (41, .bipush 8, 2), (43, .lshl, 1), (44, .aload_n 1, 1), (45, .iload 4, 2), (47, .caload, 1), (48, .i2l, 1), (49, .lor, 1), (50, .lstore 5, 2), (52, .iinc 4 1, 3), (55, .goto (-49), 3), (58, .iload 4, 2), (60, .iload_n 3, 1), (61, .isub, 1), (62, .bipush 8, 2), (64, .if_icmp .le 12, 3), (67, .aload_n 0, 1), (68, .iconst 2, 1), (69, .iload_n 3, 1), (70, .lconst 0, 1), (71, .invokevirtual 34, 3), (74, .iload_n 3, 1), (75, .ireturn, 1), (76, .aload_n 0, 1), (77, .lload 5, 2), (79, .invokestatic 54, 3), (82, .iload_n 3, 1), (83, .lload 5, 2), (85, .invokevirtual 34, 3), (88, .iload 4, 2), (90, .ireturn, 1)]
def aj_c26 : List (Nat × Instr × Nat) := [(0, .iload_n 0, 1), (1, .bipush 48, 2), (3, .if_icmp .lt 13, 3), (6, .iload_n 0, 1), (7, .bipush 57, 2), (9, .if_icmp .gt 7, 3), (12, .iconst 1, 1), (13, .goto 4, 3), (16, .iconst 0, 1), (17, .ireturn, 1)]
def aj_c27 : List (Nat × Instr × Nat) := [(0, .aload_n 0, 1), (1, .getfield 22, 3), (4, .aload_n 0, 1), (5, .getfield 9, 3), (8, .arraylength, 1), (9, .if_icmp .ge 67, 3), (12, .aload_n 0, 1), (13, .getfield 22, 3), (16, .aload_n 0, 1), (17, .getfield 13, 3), (20, .arraylength, 1), (21, .if_icmp .ge 55, 3), (24, .aload_n 0, 1), (25, .getfield 22, 3), (28, .aload_n 0, 1), (29, .getfield 16, 3), (32, .arraylength, 1), (33, .if_icmp .ge 43, 3), (36, .aload_n 0, 1), (37, .getfield 9, 3), (40, .aload_n 0, 1), (41, .getfield 22, 3), (44, .iload_n 1, 1), (45, .iastore, 1), (46, .aload_n 0, 1), (47, .getfield 13, 3), (50, .aload_n 0, 1), (51, .getfield 22, 3), (54, .iload_n 2, 1), (55, .iastore, 1), (56, .aload_n 0, 1), (57, .getfield 16, 3), (60, .aload_n 0, 1), (61, .getfield 22, 3), (64, .lload_n 3, 1), (65, .lastore, 1), (66, .aload_n 0, 1), (67, .dup, 1), (68, .getfield 22, 3), (71, .iconst 1, 1), (72, .iadd, 1), (73, .putfield 22, 3), (76, .return_, 1)]
def aj_c28 : List (Nat × Instr × Nat) := [(0, .iconst 0, 1), (1, .istore_n 2, 1), (2, .iload_n 2, 1), (3, .getstatic 60, 3), (6, .arraylength, 1), (7, .if_icmp .ge 24, 3), (10, .getstatic 60, 3), (13, .iload_n 2, 1), (14, .laload, 1), (15, .lload_n 0, 1), (16, .lcmp, 1), (17, .ifCond .ne 8, 3), (20, .bipush 10, 2), (22, .iload_n 2, 1), (23, .iadd, 1), (24, .ireturn, 1), (25, .iinc 2 1, 3), (28, .goto (-26), 3), (31, .iconst 3, 1), (32, .ireturn, 1)]
def aj_c29 : List (Nat × Instr × Nat) := [(0, .iload_n 3, 1), (1, .istore 4, 2), (3, .lconst 0, 1), (4, .lstore 5, 2), (6, .iload 4, 2), (8, .iload_n 2, 1), (9, .if_icmp .ge 43, 3), (12, .iload 4, 2), (14, .aload_n 1, 1), (15, .arraylength, 1), (16, .if_icmp .ge 36, 3), (19, .aload_n 1, 1), (20, .iload 4, 2), (22, .caload, 1), (23, .invokestatic 44, 3), (26, .ifCond .eq 26, 3), (29, .lload 5, 2), (31, .ldc2_w 58, 3), (34, .lmul, 1), (35, .aload_n 1, 1), (36, .iload 4, 2), (38, .caload, 1), (39, .bipush 48, 2), (41, .isub, 1), (42, .i2l, 1), (43, .ladd, 1), (44, .lstore 5, 2), (46, .iinc 4 1, 3), (49, .goto (-43), 3), (52, .iload 4, 2), (54, .iload_n 3, 1), (55, .isub, 1), (56, .iconst 4, 1), (57, .if_icmp .le 12, 3), (60, .aload_n 0, 1), (61, .iconst 2, 1), (62, .iload_n 3, 1), (63, .lconst 0, 1), (64, .invokevirtual 34, 3), (67, .iload_n 3, 1), (68, .ireturn, 1), (69, .aload_n 0, 1), (70, .iconst 4, 1), (71, .iload_n 3, 1), (72, .lload 5, 2), (74, .invokevirtual 34, 3), (77, .iload 4, 2), (79, .ireturn, 1)]
def aj_c30 : List (Nat × Instr × Nat) := [(0, .iload_n 0, 1), (1, .lookupswitch 165 #[(33, 163), (35, 163), (38, 163), (40, 163), (41, 163), (42, 163), (43, 163), (44, 163), (45, 163), (58, 163), (59, 163), (60, 163), (61, 163), (63, 163), (91, 163), (93, 163), (123, 163), (124, 163), (125, 163)], 163), (164, .iconst 1, 1), (165, .ireturn, 1), (166, .iconst 0, 1), (167, .ireturn, 1)]
def aj_c31 : List (Nat × Instr × Nat) := [(0, .aload_n 0, 1), (1, .iconst 0, 1), (2, .putfield 22, 3), (5, .aload_n 0, 1), (6, .iconst 0, 1), (7, .putfield 26, 3), (10, .aload_n 0, 1), (11, .iconst 0, 1), (12, .putfield 29, 3), (15, .return_, 1)]
def aj_c32 : List (Nat × Instr × Nat) := [(0, .aload_n 0, 1), (1, .iconst 0, 1), (2, .putfield 32, 3), (5, .aload_n 0, 1), (6, .iconst 0, 1), (7, .putfield 36, 3), (10, .aload_n 0, 1), (11, .iconst 0, 1), (12, .putfield 39, 3), (15, .aload_n 0, 1), (16, .iconst 0, 1), (17, .putfield 42, 3), (20, .aload_n 0, 1), (21, .iconst 0, 1), (22, .putfield 45, 3), (25, .aload_n 0, 1), (26, .iconst 0, 1), (27, .putfield 48, 3), (30, .aload_n 0, 1), (31, .iconst 0, 1), (32, .putfield 51, 3), (35, .aload_n 0, 1), (36, .iconst 0, 1), (37, .putfield 54, 3), (40, .aload_n 0, 1), (41, .iconst 0, 1), (42, .putfield 57, 3), (45, .aload_n 0, 1), (46, .iconst (-1), 1), (47, .putfield 60, 3), (50, .aload_n 0, 1), (51, .iconst 0, 1), (52, .putfield 63, 3), (55, .aload_n 0, 1), (56, .iconst 1, 1), (57, .invokevirtual 68, 3), (60, .aload_n 0, 1), (61, .iload_n 1, 1), (62, .invokevirtual 68, 3), (65, .iconst 0, 1), (66, .istore_n 2, 1), (67, .iload_n 2, 1), (68, .ldc 72, 2), (70, .if_icmp .ge 113, 3), (73, .aload_n 0, 1), (74, .getfield 63, 3), (77, .ifCond .le 106, 3), (80, .aload_n 0, 1), (81, .getfield 28, 3), (84, .getfield 73, 3), (87, .ifCond .ne 96, 3), (90, .aload_n 0, 1), (91, .dup, 1), (92, .getfield 63, 3), (95, .iconst 1, 1), (96, .isub, 1), (97, .putfield 63, 3), (100, .aload_n 0, 1), (101, .getfield 63, 3), (104, .aload_n 0, 1), (105, .getfield 11, 3), (108, .arraylength, 1), (109, .if_icmp .ge 15, 3), (112, .aload_n 0, 1), (113, .getfield 11, 3), (116, .aload_n 0, 1), (117, .getfield 63, 3), (120, .iaload, 1), (121, .goto 4, 3), (124, .iconst 0, 1), (125, .istore_n 3, 1), (126, .iload_n 3, 1), (127, .sipush 255, 3), (130, .iand, 1), (131, .istore 4, 2), (133, .iload 4, 2), (135, .sipush 170, 3), (138, .if_icmp .lt 16, 3), (141, .aload_n 0, 1), (142, .iload 4, 2), (144, .iload_n 3, 1), (145, .bipush 8, 2), (147, .ishr, 1), (148, .invokevirtual 78, 3), (151, .goto 26, 3), (154, .iload 4, 2), (156, .sipush 130, 3), (159, .if_icmp .lt 12, 3), (162, .aload_n 0, 1), (163, .iload 4, 2), (165, .invokevirtual 82, 3), (168, .goto 9, 3), (171, .aload_n 0, 1), (172, .iload 4, 2), (174, .invokevirtual 85, 3), (177, .iinc 2 1, 3), (180, .goto (-113), 3), (183, .return_, 1)]
def aj_c33 : List (Nat × Instr × Nat) := [(0, .aload_n 0, 1), (1, .getfield 63, 3), (4, .ifCond .lt 43, 3), (7, .aload_n 0, 1), (8, .getfield 63, 3), (11, .aload_n 0, 1), (12, .getfield 11, 3), (15, .arraylength, 1), (16, .if_icmp .ge 31, 3), (19, .aload_n 0, 1), (20, .getfield 11, 3), (23, .aload_n 0, 1), (24, .getfield 63, 3), (27, .aload_n 0, 1), (28, .getfield 32, 3), (31, .bipush 8, 2), (33, .ishl, 1), (34, .iload_n 1, 1), (35, .ior, 1), (36, .iastore, 1), (37, .aload_n 0, 1), (38, .dup, 1), (39, .getfield 63, 3), (42, .iconst 1, 1), (43, .iadd, 1), (44, .putfield 63, 3), (47, .return_, 1)]
def aj_c34 : List (Nat × Instr × Nat) := [(0, .aload_n 0, 1), (1, .iload_n 1, 1), (2, .invokevirtual 104, 3), (5, .ifCond .eq 12, 3), (8, .aload_n 0, 1), (9, .iload_n 1, 1), (10, .iload_n 2, 1), (11, .invokevirtual 108, 3), (14, .goto 22, 3), (17, .aload_n 0, 1), (18, .getfield 28, 3), (21, .iconst 2, 1), (22, .aload_n 0, 1), (23, .getfield 24, 3), (26, .aload_n 0, 1), (27, .getfield 36, 3), (30, .invokevirtual 98, 3), (33, .invokevirtual 101, 3), (36, .return_, 1)]
def aj_c35 : List (Nat × Instr × Nat) := [(0, .iload_n 1, 1), (1, .tableswitch 284 170 191 #[247, 272, 197, 284, 284, 284, 284, 284, 284, 284, 103, 222, 284, 284, 133, 143, 167, 284, 284, 172, 284, 133], 103), (104, .aload_n 0, 1), (105, .iconst 0, 1), (106, .putfield 54, 3), (109, .aload_n 0, 1), (110, .dup, 1), (111, .getfield 39, 3), (114, .iconst 1, 1), (115, .iadd, 1), (116, .putfield 39, 3), (119, .aload_n 0, 1), (120, .getfield 39, 3), (123, .bipush 8, 2), (125, .if_icmp .gt 7, 3), (128, .iconst 1, 1), (129, .goto 4, 3), (132, .iconst 0, 1), (133, .ireturn, 1), (134, .aload_n 0, 1), (135, .iconst 0, 1), (136, .putfield 45, 3), (139, .aload_n 0, 1), (140, .invokevirtual 111, 3), (143, .ireturn, 1), (144, .aload_n 0, 1), (145, .dup, 1), (146, .getfield 45, 3), (149, .iconst 1, 1), (150, .iadd, 1), (151, .putfield 45, 3), (154, .aload_n 0, 1), (155, .getfield 45, 3), (158, .iconst 4, 1), (159, .if_icmp .gt 7, 3), (162, .iconst 1, 1), (163, .goto 4, 3), (166, .iconst 0, 1), (167, .ireturn, 1), (168, .aload_n 0, 1), (169, .invokevirtual 115, 3), (172, .ireturn, 1), (173, .aload_n 0, 1), (174, .dup, 1), (175, .getfield 48, 3), (178, .iconst 1, 1), (179, .iadd, 1), (180, .putfield 48, 3), (183, .aload_n 0, 1), (184, .getfield 48, 3), (187, .bipush 12, 2), (189, .if_icmp .gt 7, 3), (192, .iconst 1, 1), (193, .goto 4, 3), (196, .iconst 0, 1), (197, .ireturn, 1), (198, .aload_n 0, 1), (199, .dup, 1), (200, .getfield 51, 3), (203, .iconst 1, 1), (204, .iadd, 1), (205, .putfield 51, 3), (208, .aload_n 0, 1), (209, .getfield 51, 3), (212, .bipush 40, 2), (214, .if_icmp .gt 7, 3), (217, .iconst 1, 1), (218, .goto 4, 3), (221, .iconst 0, 1), (222, .ireturn, 1), (223, .aload_n 0, 1), (224, .dup, 1), (225, .getfield 54, 3), (228, .iconst 1, 1), (229, .iadd, 1), (230, .putfield 54, 3), (233, .aload_n 0, 1), (234, .getfield 54, 3), (237, .bipush 16, 2), (239, .if_icmp .gt 7, 3), (242, .iconst 1, 1), (243, .goto 4, 3), (246, .iconst 0, 1), (247, .ireturn, 1), (248, .aload_n 0, 1), (249, .dup, 1), (250, .getfield 57, 3), (253, .iconst 1, 1), (254, .iadd, 1), (255, .putfield 57, 3), (258, .aload_n 0, 1), (259, .getfield 57, 3), (262, .bipush 8, 2), (264, .if_icmp .gt 7, 3), (267, .iconst 1, 1), (268, .goto 4, 3), (271, .iconst 0, 1), (272, .ireturn, 1), (273, .aload_n 0, 1), (274, .dup, 1), (275, .getfield 57, 3), (278, .iconst 1, 1), (279, .isub, 1), (280, .putfield 57, 3), (283, .iconst 1, 1), (284, .ireturn, 1), (285, .iconst 1, 1), (286, .ireturn, 1)]
def aj_c36 : List (Nat × Instr × Nat) := [(0, .aload_n 0, 1), (1, .getfield 42, 3), (4, .ifCond .lt 27, 3), (7, .aload_n 0, 1), (8, .getfield 42, 3), (11, .aload_n 0, 1), (12, .getfield 17, 3), (15, .arraylength, 1), (16, .if_icmp .ge 15, 3), (19, .aload_n 0, 1), (20, .getfield 42, 3), (23, .aload_n 0, 1), (24, .getfield 21, 3), (27, .arraylength, 1), (28, .if_icmp .lt 5, 3), (31, .iconst 0, 1), (32, .ireturn, 1), (33, .aload_n 0, 1), (34, .getfield 17, 3), (37, .aload_n 0, 1), (38, .getfield 42, 3), (41, .aload_n 0, 1), (42, .getfield 24, 3), (45, .aload_n 0, 1), (46, .getfield 36, 3), (49, .invokevirtual 118, 3), (52, .lastore, 1), (53, .aload_n 0, 1), (54, .getfield 21, 3), (57, .aload_n 0, 1), (58, .getfield 42, 3), (61, .iconst 0, 1), (62, .iastore, 1), (63, .aload_n 0, 1), (64, .dup, 1), (65, .getfield 42, 3), (68, .iconst 1, 1), (69, .iadd, 1), (70, .putfield 42, 3), (73, .iconst 1, 1), (74, .ireturn, 1)]
def aj_c37 : List (Nat × Instr × Nat) := [(0, .iload_n 1, 1), (1, .ifCond .lt 21, 3), (4, .iload_n 1, 1), (5, .aload_n 0, 1), (6, .getfield 16, 3), (9, .arraylength, 1), (10, .if_icmp .ge 12, 3), (13, .aload_n 0, 1), (14, .getfield 16, 3), (17, .iload_n 1, 1), (18, .laload, 1), (19, .goto 4, 3), (22, .lconst 0, 1), (23, .lreturn, 1)]
def aj_c38 : List (Nat × Instr × Nat) := [(0, .aload_n 0, 1), (1, .getfield 24, 3), (4, .aload_n 0, 1), (5, .getfield 36, 3), (8, .invokevirtual 118, 3), (11, .lstore_n 1, 1), (12, .iconst 0, 1), (13, .istore_n 3, 1), (14, .iload_n 3, 1), (15, .aload_n 0, 1), (16, .getfield 42, 3), (19, .if_icmp .ge 65, 3), (22, .iload_n 3, 1), (23, .aload_n 0, 1), (24, .getfield 17, 3), (27, .arraylength, 1), (28, .if_icmp .ge 56, 3), (31, .iload_n 3, 1), (32, .aload_n 0, 1), (33, .getfield 21, 3), (36, .arraylength, 1), (37, .if_icmp .ge 47, 3), (40, .aload_n 0, 1), (41, .getfield 17, 3), (44, .iload_n 3, 1), (45, .laload, 1), (46, .lload_n 1, 1), (47, .lcmp, 1), (48, .ifCond .ne 30, 3), (51, .aload_n 0, 1), (52, .getfield 21, 3), (55, .iload_n 3, 1), (56, .dup2, 1), (57, .iaload, 1), (58, .iconst 1, 1), (59, .iadd, 1), (60, .iastore, 1), (61, .aload_n 0, 1), (62, .getfield 21, 3), (65, .iload_n 3, 1), (66, .iaload, 1), (67, .bipush 30, 2), (69, .if_icmp .gt 7, 3), (72, .iconst 1, 1), (73, .goto 4, 3), (76, .iconst 0, 1), (77, .ireturn, 1), (78, .iinc 3 1, 3), (81, .goto (-67), 3), (84, .iconst 1, 1), (85, .ireturn, 1)]
def aj_c39 : List (Nat × Instr × Nat) := [(0, .iload_n 1, 1), (1, .lookupswitch 93 #[(170, 51), (171, 51), (172, 51), (186, 52), (187, 66)], 51), (52, .return_, 1), (53, .aload_n 0, 1), (54, .aload_n 0, 1), (55, .getfield 28, 3), (58, .getfield 124, 3), (61, .putfield 60, 3), (64, .goto 30, 3), (67, .aload_n 0, 1), (68, .getfield 28, 3), (71, .aload_n 0, 1), (72, .getfield 60, 3), (75, .aload_n 0, 1), (76, .getfield 28, 3), (79, .aload_n 0, 1), (80, .getfield 60, 3), (83, .invokevirtual 127, 3), (86, .iconst 1, 1), (87, .iadd, 1), (88, .invokevirtual 130, 3), (91, .goto 3, 3), (94, .aload_n 0, 1), (95, .getfield 28, 3), (98, .iload_n 1, 1), (99, .aload_n 0, 1), (100, .getfield 36, 3), (103, .iload_n 2, 1), (104, .iconst 0, 1), (105, .invokevirtual 133, 3), (108, .return_, 1)]
def aj_c40 : List (Nat × Instr × Nat) := [(0, .iload_n 1, 1), (1, .ifCond .lt 21, 3), (4, .iload_n 1, 1), (5, .aload_n 0, 1), (6, .getfield 19, 3), (9, .arraylength, 1), (10, .if_icmp .ge 12, 3), (13, .aload_n 0, 1), (14, .getfield 19, 3), (17, .iload_n 1, 1), (18, .iaload, 1), (19, .goto 4, 3), (22, .iconst 0, 1), (23, .ireturn, 1)]
def aj_c41 : List (Nat × Instr × Nat) := [(0, .iload_n 1, 1), (1, .ifCond .lt 19, 3), (4, .iload_n 1, 1), (5, .aload_n 0, 1), (6, .getfield 19, 3), (9, .arraylength, 1), (10, .if_icmp .ge 10, 3), (13, .aload_n 0, 1), (14, .getfield 19, 3), (17, .iload_n 1, 1), (18, .iload_n 2, 1), (19, .iastore, 1), (20, .return_, 1)]
def aj_c42 : List (Nat × Instr × Nat) := [(0, .aload_n 0, 1), (1, .getfield 22, 3), (4, .sipush 2500, 3), (7, .if_icmp .ge 54, 3), (10, .aload_n 0, 1), (11, .getfield 9, 3), (14, .aload_n 0, 1), (15, .getfield 22, 3), (18, .iload_n 1, 1), (19, .iastore, 1), (20, .aload_n 0, 1), (21, .getfield 13, 3), (24, .aload_n 0, 1), (25, .getfield 22, 3), (28, .iload_n 2, 1), (29, .iastore, 1), (30, .aload_n 0, 1), (31, .getfield 16, 3), (34, .aload_n 0, 1), (35, .getfield 22, 3), (38, .iload_n 3, 1), (39, .iastore, 1), (40, .aload_n 0, 1), (41, .getfield 19, 3), (44, .aload_n 0, 1), (45, .getfield 22, 3), (48, .iload 4, 2), (50, .iastore, 1), (51, .aload_n 0, 1), (52, .dup, 1), (53, .getfield 22, 3), (56, .iconst 1, 1), (57, .iadd, 1), (58, .putfield 22, 3), (61, .return_, 1)]
def aj_c43 : List (Nat × Instr × Nat) := [(0, .iload_n 1, 1), (1, .ifCond .lt 21, 3), (4, .iload_n 1, 1), (5, .aload_n 0, 1), (6, .getfield 13, 3), (9, .arraylength, 1), (10, .if_icmp .ge 12, 3), (13, .aload_n 0, 1), (14, .getfield 13, 3), (17, .iload_n 1, 1), (18, .iaload, 1), (19, .goto 4, 3), (22, .iconst 0, 1), (23, .ireturn, 1)]
def aj_c44 : List (Nat × Instr × Nat) := [(0, .aload_n 0, 1), (1, .getfield 26, 3), (4, .ifCond .eq 27, 3), (7, .iload_n 2, 1), (8, .aload_n 0, 1), (9, .getfield 29, 3), (12, .if_icmp .lt 19, 3), (15, .iload_n 2, 1), (16, .aload_n 0, 1), (17, .getfield 29, 3), (20, .if_icmp .ne 21, 3), (23, .iload_n 1, 1), (24, .aload_n 0, 1), (25, .getfield 26, 3), (28, .if_icmp .ge 13, 3), (31, .aload_n 0, 1), (32, .iload_n 1, 1), (33, .putfield 26, 3), (36, .aload_n 0, 1), (37, .iload_n 2, 1), (38, .putfield 29, 3), (41, .return_, 1)]
def aj_c45 : List (Nat × Instr × Nat) := [(0, .iload_n 1, 1), (1, .aload_n 0, 1), (2, .getfield 24, 3), (5, .aload_n 0, 1), (6, .getfield 32, 3), (9, .invokevirtual 88, 3), (12, .invokestatic 94, 3), (15, .astore_n 2, 1), (16, .aload_n 2, 1), (17, .ifnonnull 23, 3), (20, .aload_n 0, 1), (21, .getfield 28, 3), (24, .iconst 1, 1), (25, .aload_n 0, 1), (26, .getfield 24, 3), (29, .aload_n 0, 1), (30, .getfield 32, 3), (33, .invokevirtual 98, 3), (36, .invokevirtual 101, 3), (39, .return_, 1), (40, .aload_n 2, 1), (41, .arraylength, 1), (42, .iconst 1, 1), (43, .isub, 1), (44, .istore_n 3, 1), (45, .iload_n 3, 1), (46, .ifCond .lt 16, 3), (49, .aload_n 0, 1), (50, .aload_n 2, 1), (51, .iload_n 3, 1), (52, .iaload, 1), (53, .invokevirtual 68, 3), (56, .iinc 3 (-1), 3), (59, .goto (-14), 3), (62, .return_, 1)]
def aj_c46 : List (Nat × Instr × Nat) := [(0, .iload_n 1, 1), (1, .ifCond .lt 21, 3), (4, .iload_n 1, 1), (5, .aload_n 0, 1), (6, .getfield 9, 3), (9, .arraylength, 1), (10, .if_icmp .ge 12, 3), (13, .aload_n 0, 1), (14, .getfield 9, 3), (17, .iload_n 1, 1), (18, .iaload, 1), (19, .goto 4, 3), (22, .iconst 2, 1), (23, .ireturn, 1)]
def aj_c47 : List (Nat × Instr × Nat) := [(0, .iload_n 0, 1), (1, .sipush 138, 3), (4, .if_icmp .ge 23, 3), (7, .iload_n 0, 1), (8, .sipush 130, 3), (11, .if_icmp .ne 10, 3), (14, .iload_n 1, 1), (15, .invokestatic 9, 3), (18, .goto 8, 3), (21, .iload_n 0, 1), (22, .iload_n 1, 1), (23, .invokestatic 13, 3), (26, .areturn, 1), (27, .iload_n 0, 1), (28, .sipush 145, 3), (31, .if_icmp .ge 11, 3), (34, .iload_n 0, 1), (35, .iload_n 1, 1), (36, .invokestatic 17, 3), (39, .goto 8, 3), (42, .iload_n 0, 1), (43, .iload_n 1, 1), (44, .invokestatic 20, 3), (47, .areturn, 1)]
def aj_c48 : List (Nat × Instr × Nat) := [(0, .iload_n 0, 1), (1, .tableswitch 99 1 15 #[95, 99, 99, 99, 99, 99, 99, 99, 99, 75, 79, 83, 99, 87, 91], 75), (76, .getstatic 23, 3), (79, .areturn, 1), (80, .getstatic 27, 3), (83, .areturn, 1), (84, .getstatic 30, 3), (87, .areturn, 1), (88, .getstatic 33, 3), (91, .areturn, 1), (92, .getstatic 36, 3), (95, .areturn, 1), (96, .getstatic 39, 3), (99, .areturn, 1), (100, .aconst_null, 1), (101, .areturn, 1)]
def aj_c49 : List (Nat × Instr × Nat) := [(0, .iload_n 0, 1), (1, .tableswitch 184 131 137 #[43, 93, 120, 68, 136, 152, 168], 43), (44, .iload_n 1, 1), (45, .bipush 45, 2), (47, .if_icmp .ne 9, 3), (50, .getstatic 42, 3), (53, .goto 15, 3), (56, .iload_n 1, 1), (57, .iconst 4, 1), (58, .if_icmp .ne 9, 3), (61, .getstatic 45, 3), (64, .goto 4, 3), (67, .aconst_null, 1), (68, .areturn, 1), (69, .iload_n 1, 1), (70, .bipush 45, 2), (72, .if_icmp .ne 9, 3), (75, .getstatic 48, 3), (78, .goto 15, 3), (81, .iload_n 1, 1), (82, .iconst 4, 1), (83, .if_icmp .ne 9, 3), (86, .getstatic 51, 3), (89, .goto 4, 3), (92, .aconst_null, 1), (93, .areturn, 1), (94, .iload_n 1, 1), (95, .iconst 5, 1), (96, .if_icmp .ne 9, 3), (99, .getstatic 54, 3), (102, .goto 18, 3), (105, .iload_n 1, 1), (106, .bipush 44, 2), (108, .if_icmp .ne 9, 3), (111, .getstatic 57, 3), (114, .goto 6, 3), (117, .getstatic 39, 3), (120, .areturn, 1), (121, .iload_n 1, 1), (122, .bipush 44, 2), (124, .if_icmp .ne 9, 3), (127, .getstatic 57, 3), (130, .goto 6, 3), (133, .getstatic 39, 3), (136, .areturn, 1), (137, .iload_n 1, 1), (138, .bipush 44, 2), (140, .if_icmp .ne 9, 3), (143, .getstatic 60, 3), (146, .goto 6, 3), (149, .getstatic 39, 3), (152, .areturn, 1), (153, .iload_n 1, 1), (154, .bipush 44, 2), (156, .if_icmp .ne 9, 3), (159, .getstatic 63, 3), (162, .goto 6, 3), (165, .getstatic 39, 3), (168, .areturn, 1), (169, .iload_n 1, 1), (170, .bipush 13, 2), (172, .if_icmp .ne 9, 3), (175, .getstatic 66, 3), (178, .goto 6, 3), (181, .getstatic 39, 3), (184, .areturn, 1), (185, .aconst_null, 1), (186, .areturn, 1)]
def aj_c50 : List (Nat × Instr × Nat) := [(0, .iload_n 0, 1), (1, .tableswitch 153 138 144 #[43, 47, 63, 67, 83, 111, 116], 43), (44, .getstatic 69, 3), (47, .areturn, 1), (48, .iload_n 1, 1), (49, .bipush 124, 2), (51, .if_icmp .ne 9, 3), (54, .getstatic 72, 3), (57, .goto 6, 3), (60, .getstatic 39, 3), (63, .areturn, 1), (64, .getstatic 75, 3), (67, .areturn, 1), (68, .iload_n 1, 1), (69, .bipush 38, 2), (71, .if_icmp .ne 9, 3), (74, .getstatic 78, 3), (77, .goto 6, 3), (80, .getstatic 39, 3), (83, .areturn, 1), (84, .iload_n 1, 1), (85, .bipush 33, 2), (87, .if_icmp .ne 9, 3), (90, .getstatic 81, 3), (93, .goto 18, 3), (96, .iload_n 1, 1), (97, .bipush 40, 2), (99, .if_icmp .ne 9, 3), (102, .getstatic 84, 3), (105, .goto 6, 3), (108, .getstatic 87, 3), (111, .areturn, 1), (112, .iload_n 1, 1), (113, .invokestatic 90, 3), (116, .areturn, 1), (117, .iload_n 1, 1), (118, .bipush 63, 2), (120, .if_icmp .ne 9, 3), (123, .getstatic 93, 3), (126, .goto 27, 3), (129, .iload_n 1, 1), (130, .bipush 45, 2), (132, .if_icmp .ne 9, 3), (135, .getstatic 96, 3), (138, .goto 15, 3), (141, .iload_n 1, 1), (142, .iconst 4, 1), (143, .if_icmp .ne 9, 3), (146, .getstatic 99, 3), (149, .goto 4, 3), (152, .aconst_null, 1), (153, .areturn, 1), (154, .aconst_null, 1), (155, .areturn, 1)]
def aj_c51 : List (Nat × Instr × Nat) := [(0, .iload_n 0, 1), (1, .lookupswitch 59 #[(6, 47), (7, 55), (60, 51), (61, 43)], 43), (44, .getstatic 102, 3), (47, .areturn, 1), (48, .getstatic 105, 3), (51, .areturn, 1), (52, .getstatic 108, 3), (55, .areturn, 1), (56, .getstatic 111, 3), (59, .areturn, 1), (60, .aconst_null, 1), (61, .areturn, 1)]
def aj_c52 : List (Nat × Instr × Nat) := [(0, .iload_n 0, 1), (1, .tableswitch 216 145 156 #[63, 67, 95, 99, 115, 140, 145, 149, 165, 180, 196, 211], 63), (64, .getstatic 114, 3), (67, .areturn, 1), (68, .iload_n 1, 1), (69, .bipush 43, 2), (71, .if_icmp .ne 9, 3), (74, .getstatic 117, 3), (77, .goto 18, 3), (80, .iload_n 1, 1), (81, .bipush 45, 2), (83, .if_icmp .ne 9, 3), (86, .getstatic 120, 3), (89, .goto 6, 3), (92, .getstatic 39, 3), (95, .areturn, 1), (96, .getstatic 123, 3), (99, .areturn, 1), (100, .iload_n 1, 1), (101, .bipush 42, 2), (103, .if_icmp .ne 9, 3), (106, .getstatic 126, 3), (109, .goto 6, 3), (112, .getstatic 39, 3), (115, .areturn, 1), (116, .iload_n 1, 1), (117, .bipush 40, 2), (119, .if_icmp .ne 9, 3), (122, .getstatic 129, 3), (125, .goto 15, 3), (128, .iload_n 1, 1), (129, .iconst 3, 1), (130, .if_icmp .ne 9, 3), (133, .getstatic 132, 3), (136, .goto 4, 3), (139, .aconst_null, 1), (140, .areturn, 1), (141, .iload_n 1, 1), (142, .invokestatic 135, 3), (145, .areturn, 1), (146, .getstatic 138, 3), (149, .areturn, 1), (150, .iload_n 1, 1), (151, .bipush 44, 2), (153, .if_icmp .ne 9, 3), (156, .getstatic 141, 3), (159, .goto 6, 3), (162, .getstatic 39, 3), (165, .areturn, 1), (166, .iload_n 1, 1), (167, .iconst 3, 1), (168, .if_icmp .ne 9, 3), (171, .getstatic 144, 3), (174, .goto 6, 3), (177, .getstatic 147, 3), (180, .areturn, 1), (181, .iload_n 1, 1), (182, .bipush 44, 2), (184, .if_icmp .ne 9, 3), (187, .getstatic 150, 3), (190, .goto 6, 3), (193, .getstatic 39, 3), (196, .areturn, 1), (197, .iload_n 1, 1), (198, .iconst 3, 1), (199, .if_icmp .ne 9, 3), (202, .getstatic 153, 3), (205, .goto 6, 3), (208, .getstatic 39, 3), (211, .areturn, 1), (212, .iload_n 1, 1), (213, .invokestatic 156, 3), (216, .areturn, 1), (217, .aconst_null, 1), (218, .areturn, 1)]
def aj_c53 : List (Nat × Instr × Nat) := [(0, .iload_n 0, 1), (1, .lookupswitch 59 #[(35, 55), (58, 47), (91, 43), (123, 51)], 43), (44, .getstatic 159, 3), (47, .areturn, 1), (48, .getstatic 162, 3), (51, .areturn, 1), (52, .getstatic 165, 3), (55, .areturn, 1), (56, .getstatic 168, 3), (59, .areturn, 1), (60, .getstatic 39, 3), (63, .areturn, 1)]
def aj_c54 : List (Nat × Instr × Nat) := [(0, .iload_n 0, 1), (1, .tableswitch 47 16 19 #[31, 35, 39, 43], 31), (32, .getstatic 171, 3), (35, .areturn, 1), (36, .getstatic 174, 3), (39, .areturn, 1), (40, .getstatic 177, 3), (43, .areturn, 1), (44, .getstatic 180, 3), (47, .areturn, 1), (48, .aconst_null, 1), (49, .areturn, 1)]
def aj_c55 : List (Nat × Instr × Nat) := [(0, .aload_n 0, 1), (1, .getfield 24, 3), (4, .aload_n 0, 1), (5, .getfield 32, 3), (8, .invokevirtual 88, 3), (11, .iload_n 1, 1), (12, .if_icmp .eq 23, 3), (15, .aload_n 0, 1), (16, .getfield 28, 3), (19, .iconst 1, 1), (20, .aload_n 0, 1), (21, .getfield 24, 3), (24, .aload_n 0, 1), (25, .getfield 32, 3), (28, .invokevirtual 98, 3), (31, .invokevirtual 101, 3), (34, .return_, 1), (35, .aload_n 0, 1), (36, .getfield 32, 3), (39, .sipush 1000, 3), (42, .if_icmp .lt 27, 3), (45, .iload_n 1, 1), (46, .iconst 1, 1), (47, .if_icmp .eq 22, 3), (50, .aload_n 0, 1), (51, .getfield 28, 3), (54, .iconst 2, 1), (55, .aload_n 0, 1), (56, .getfield 24, 3), (59, .aload_n 0, 1), (60, .getfield 32, 3), (63, .invokevirtual 98, 3), (66, .invokevirtual 101, 3), (69, .aload_n 0, 1), (70, .aload_n 0, 1), (71, .getfield 32, 3), (74, .putfield 36, 3), (77, .aload_n 0, 1), (78, .dup, 1), (79, .getfield 32, 3), (82, .iconst 1, 1), (83, .iadd, 1), (84, .putfield 32, 3), (87, .return_, 1)]
def aj_c56 : List (Nat × Instr × Nat) := [(0, .aload_n 0, 1), (1, .aload_n 1, 1), (2, .putfield 34, 3), (5, .aload_n 0, 1), (6, .iconst 0, 1), (7, .putfield 38, 3), (10, .aload_n 0, 1), (11, .iconst 0, 1), (12, .putfield 42, 3), (15, .iconst 0, 1), (16, .istore_n 2, 1), (17, .iload_n 2, 1), (18, .aload_n 0, 1), (19, .getfield 30, 3), (22, .getfield 45, 3), (25, .if_icmp .ge 81, 3), (28, .aload_n 0, 1), (29, .getfield 30, 3), (32, .iload_n 2, 1), (33, .invokevirtual 50, 3), (36, .istore_n 3, 1), (37, .aload_n 0, 1), (38, .getfield 30, 3), (41, .getfield 54, 3), (44, .ifCond .eq 18, 3), (47, .iload_n 3, 1), (48, .sipush 216, 3), (51, .if_icmp .eq 11, 3), (54, .iload_n 3, 1), (55, .sipush 220, 3), (58, .if_icmp .eq 4, 3), (61, .return_, 1), (62, .iload_n 3, 1), (63, .sipush 210, 3), (66, .if_icmp .lt 12, 3), (69, .aload_n 0, 1), (70, .iload_n 3, 1), (71, .iload_n 2, 1), (72, .invokevirtual 59, 3), (75, .goto 25, 3), (78, .iload_n 3, 1), (79, .sipush 200, 3), (82, .if_icmp .lt 12, 3), (85, .aload_n 0, 1), (86, .iload_n 3, 1), (87, .iload_n 2, 1), (88, .invokevirtual 63, 3), (91, .goto 9, 3), (94, .aload_n 0, 1), (95, .iload_n 3, 1), (96, .iload_n 2, 1), (97, .invokevirtual 66, 3), (100, .iinc 2 1, 3), (103, .goto (-86), 3), (106, .return_, 1)]
def aj_c57 : List (Nat × Instr × Nat) := [(0, .iload_n 1, 1), (1, .ifCond .lt 21, 3), (4, .iload_n 1, 1), (5, .aload_n 0, 1), (6, .getfield 9, 3), (9, .arraylength, 1), (10, .if_icmp .ge 12, 3), (13, .aload_n 0, 1), (14, .getfield 9, 3), (17, .iload_n 1, 1), (18, .iaload, 1), (19, .goto 4, 3), (22, .iconst 0, 1), (23, .ireturn, 1)]
def aj_c58 : List (Nat × Instr × Nat) := [(0, .iload_n 1, 1), (1, .tableswitch 311 210 223 #[71, 79, 79, 115, 311, 133, 141, 149, 156, 191, 236, 254, 280, 303], 71), (72, .aload_n 0, 1), (73, .iload_n 2, 1), (74, .invokevirtual 178, 3), (77, .goto 235, 3), (80, .aload_n 0, 1), (81, .dup, 1), (82, .getfield 38, 3), (85, .iconst 1, 1), (86, .isub, 1), (87, .putfield 38, 3), (90, .aload_n 0, 1), (91, .aload_n 0, 1), (92, .getfield 38, 3), (95, .iconst 1, 1), (96, .isub, 1), (97, .aload_n 0, 1), (98, .getfield 38, 3), (101, .invokevirtual 181, 3), (104, .ifCond .ne 208, 3), (107, .aload_n 0, 1), (108, .iconst 5, 1), (109, .iload_n 2, 1), (110, .invokevirtual 185, 3), (113, .goto 199, 3), (116, .aload_n 0, 1), (117, .dup, 1), (118, .getfield 38, 3), (121, .iconst 1, 1), (122, .isub, 1), (123, .putfield 38, 3), (126, .aload_n 0, 1), (127, .iload_n 2, 1), (128, .invokevirtual 188, 3), (131, .goto 181, 3), (134, .aload_n 0, 1), (135, .iconst 0, 1), (136, .putfield 42, 3), (139, .goto 173, 3), (142, .aload_n 0, 1), (143, .iload_n 2, 1), (144, .invokevirtual 191, 3), (147, .goto 165, 3), (150, .aload_n 0, 1), (151, .invokevirtual 194, 3), (154, .goto 158, 3), (157, .aload_n 0, 1), (158, .aload_n 0, 1), (159, .iload_n 2, 1), (160, .invokevirtual 90, 3), (163, .putfield 197, 3), (166, .aload_n 0, 1), (167, .aload_n 0, 1), (168, .getfield 38, 3), (171, .iconst 1, 1), (172, .isub, 1), (173, .aload_n 0, 1), (174, .getfield 197, 3), (177, .invokevirtual 171, 3), (180, .ifCond .lt 132, 3), (183, .aload_n 0, 1), (184, .iconst 3, 1), (185, .iload_n 2, 1), (186, .invokevirtual 97, 3), (189, .goto 123, 3), (192, .aload_n 0, 1), (193, .iload_n 2, 1), (194, .aload_n 0, 1), (195, .aload_n 0, 1), (196, .getfield 38, 3), (199, .iconst 1, 1), (200, .isub, 1), (201, .aload_n 0, 1), (202, .iload_n 2, 1), (203, .invokevirtual 90, 3), (206, .invokevirtual 171, 3), (209, .invokevirtual 168, 3), (212, .aload_n 0, 1), (213, .aload_n 0, 1), (214, .getfield 38, 3), (217, .iconst 1, 1), (218, .isub, 1), (219, .aload_n 0, 1), (220, .getfield 30, 3), (223, .iload_n 2, 1), (224, .invokevirtual 155, 3), (227, .aload_n 0, 1), (228, .getfield 197, 3), (231, .invokevirtual 201, 3), (234, .goto 78, 3), (237, .aload_n 0, 1), (238, .getfield 42, 3), (241, .bipush 6, 2), (243, .if_icmp .lt 69, 3), (246, .aload_n 0, 1), (247, .iconst 5, 1), (248, .iload_n 2, 1), (249, .invokevirtual 185, 3), (252, .goto 60, 3), (255, .aload_n 0, 1), (256, .getfield 30, 3), (259, .iload_n 2, 1), (260, .aload_n 0, 1), (261, .getfield 26, 3), (264, .aload_n 0, 1), (265, .getfield 30, 3), (268, .iload_n 2, 1), (269, .invokevirtual 69, 3), (272, .invokevirtual 175, 3), (275, .invokevirtual 158, 3), (278, .goto 34, 3), (281, .aload_n 0, 1), (282, .iload_n 2, 1), (283, .aload_n 0, 1), (284, .aload_n 0, 1), (285, .getfield 38, 3), (288, .iconst 1, 1), (289, .isub, 1), (290, .aload_n 0, 1), (291, .iload_n 2, 1), (292, .invokevirtual 90, 3), (295, .invokevirtual 171, 3), (298, .invokevirtual 168, 3), (301, .goto 11, 3), (304, .aload_n 0, 1), (305, .iload_n 2, 1), (306, .invokevirtual 205, 3), (309, .goto 3, 3), (312, .return_, 1)]
def aj_c59 : List (Nat × Instr × Nat) := [(0, .aload_n 0, 1), (1, .getfield 34, 3), (4, .aload_n 0, 1), (5, .iload_n 1, 1), (6, .invokevirtual 90, 3), (9, .invokevirtual 140, 3), (12, .istore_n 2, 1), (13, .aload_n 0, 1), (14, .getfield 34, 3), (17, .iload_n 2, 1), (18, .invokevirtual 143, 3), (21, .astore_n 3, 1), (22, .aload_n 3, 1), (23, .ifnonnull 10, 3), (26, .aload_n 0, 1), (27, .iconst 4, 1), (28, .iload_n 1, 1), (29, .invokevirtual 97, 3), (32, .return_, 1), (33, .aload_n 0, 1), (34, .getfield 30, 3), (37, .iload_n 1, 1), (38, .iload_n 2, 1), (39, .invokevirtual 158, 3), (42, .aload_n 0, 1), (43, .aload_n 0, 1), (44, .getfield 38, 3), (47, .iconst 0, 1), (48, .invokevirtual 208, 3), (51, .iconst 0, 1), (52, .istore 4, 2), (54, .iload 4, 2), (56, .aload_n 3, 1), (57, .getfield 150, 3), (60, .if_icmp .ge 27, 3), (63, .aload_n 0, 1), (64, .aload_n 0, 1), (65, .getfield 38, 3), (68, .aload_n 0, 1), (69, .getfield 34, 3), (72, .iload_n 2, 1), (73, .iload 4, 2), (75, .invokevirtual 211, 3), (78, .invokevirtual 214, 3), (81, .iinc 4 1, 3), (84, .goto (-30), 3), (87, .aload_n 0, 1), (88, .dup, 1), (89, .getfield 38, 3), (92, .iconst 1, 1), (93, .iadd, 1), (94, .putfield 38, 3), (97, .return_, 1)]
def aj_c60 : List (Nat × Instr × Nat) := [(0, .aload_n 0, 1), (1, .getfield 26, 3), (4, .aload_n 0, 1), (5, .getfield 30, 3), (8, .iload_n 1, 1), (9, .invokevirtual 69, 3), (12, .invokevirtual 83, 3), (15, .lreturn, 1)]
def aj_c61 : List (Nat × Instr × Nat) := [(0, .iload_n 1, 1), (1, .ifCond .lt 21, 3), (4, .iload_n 1, 1), (5, .aload_n 0, 1), (6, .getfield 13, 3), (9, .arraylength, 1), (10, .if_icmp .ge 12, 3), (13, .aload_n 0, 1), (14, .getfield 13, 3), (17, .iload_n 1, 1), (18, .iaload, 1), (19, .goto 4, 3), (22, .iconst 0, 1), (23, .ireturn, 1)]
def aj_c62 : List (Nat × Instr × Nat) := [(0, .iconst 0, 1), (1, .istore_n 3, 1), (2, .iload_n 3, 1), (3, .aload_n 0, 1), (4, .getfield 60, 3), (7, .if_icmp .ge 31, 3), (10, .iload_n 3, 1), (11, .aload_n 0, 1), (12, .getfield 41, 3), (15, .arraylength, 1), (16, .if_icmp .ge 22, 3), (19, .aload_n 0, 1), (20, .getfield 41, 3), (23, .iload_n 3, 1), (24, .laload, 1), (25, .lload_n 1, 1), (26, .lcmp, 1), (27, .ifCond .ne 5, 3), (30, .iload_n 3, 1), (31, .ireturn, 1), (32, .iinc 3 1, 3), (35, .goto (-33), 3), (38, .iconst (-1), 1), (39, .ireturn, 1)]
def aj_c63 : List (Nat × Instr × Nat) := [(0, .iload_n 1, 1), (1, .ifCond .lt 29, 3), (4, .iload_n 1, 1), (5, .aload_n 0, 1), (6, .getfield 60, 3), (9, .if_icmp .ge 21, 3), (12, .iload_n 1, 1), (13, .aload_n 0, 1), (14, .getfield 37, 3), (17, .arraylength, 1), (18, .if_icmp .ge 12, 3), (21, .aload_n 0, 1), (22, .getfield 37, 3), (25, .iload_n 1, 1), (26, .aaload, 1), (27, .goto 4, 3), (30, .aconst_null, 1), (31, .areturn, 1)]
def aj_c64 : List (Nat × Instr × Nat) := [(0, .aload_n 0, 1), (1, .getfield 30, 3), (4, .iload_n 1, 1), (5, .aload_n 0, 1), (6, .getfield 26, 3), (9, .aload_n 0, 1), (10, .getfield 30, 3), (13, .iload_n 2, 1), (14, .invokevirtual 69, 3), (17, .invokevirtual 72, 3), (20, .invokevirtual 77, 3), (23, .return_, 1)]
def aj_c65 : List (Nat × Instr × Nat) := [(0, .iload_n 1, 1), (1, .ifCond .lt 19, 3), (4, .iload_n 1, 1), (5, .aload_n 0, 1), (6, .getfield 19, 3), (9, .arraylength, 1), (10, .if_icmp .ge 10, 3), (13, .aload_n 0, 1), (14, .getfield 19, 3), (17, .iload_n 1, 1), (18, .iload_n 2, 1), (19, .iastore, 1), (20, .return_, 1)]
def aj_c66 : List (Nat × Instr × Nat) := [(0, .iload_n 1, 1), (1, .bipush 6, 2), (3, .imul, 1), (4, .iload_n 2, 1), (5, .iadd, 1), (6, .istore_n 3, 1), (7, .iload_n 1, 1), (8, .ifCond .lt 37, 3), (11, .iload_n 1, 1), (12, .bipush 10, 2), (14, .if_icmp .ge 31, 3), (17, .iload_n 2, 1), (18, .ifCond .lt 27, 3), (21, .iload_n 2, 1), (22, .bipush 6, 2), (24, .if_icmp .ge 21, 3), (27, .iload_n 3, 1), (28, .aload_n 0, 1), (29, .getfield 44, 3), (32, .arraylength, 1), (33, .if_icmp .ge 12, 3), (36, .aload_n 0, 1), (37, .getfield 44, 3), (40, .iload_n 3, 1), (41, .laload, 1), (42, .goto 4, 3), (45, .lconst 0, 1), (46, .lreturn, 1)]
def aj_c67 : List (Nat × Instr × Nat) := [(0, .iload_n 1, 1), (1, .ifCond .lt 23, 3), (4, .iload_n 1, 1), (5, .aload_n 0, 1), (6, .getfield 19, 3), (9, .arraylength, 1), (10, .if_icmp .ge 14, 3), (13, .aload_n 0, 1), (14, .getfield 19, 3), (17, .iload_n 1, 1), (18, .iaload, 1), (19, .bipush 6, 2), (21, .if_icmp .lt 4, 3), (24, .return_, 1), (25, .iload_n 1, 1), (26, .bipush 6, 2), (28, .imul, 1), (29, .aload_n 0, 1), (30, .getfield 19, 3), (33, .iload_n 1, 1), (34, .iaload, 1), (35, .iadd, 1), (36, .istore 4, 2), (38, .iload 4, 2), (40, .aload_n 0, 1), (41, .getfield 13, 3), (44, .arraylength, 1), (45, .if_icmp .ge 21, 3), (48, .aload_n 0, 1), (49, .getfield 13, 3), (52, .iload 4, 2), (54, .lload_n 2, 1), (55, .lastore, 1), (56, .aload_n 0, 1), (57, .getfield 19, 3), (60, .iload_n 1, 1), (61, .dup2, 1), (62, .iaload, 1), (63, .iconst 1, 1), (64, .iadd, 1), (65, .iastore, 1), (66, .return_, 1)]
def aj_c68 : List (Nat × Instr × Nat) := [(0, .aload_n 0, 1), (1, .iload_n 1, 1), (2, .invokevirtual 161, 3), (5, .aload_n 0, 1), (6, .iload_n 2, 1), (7, .invokevirtual 161, 3), (10, .if_icmp .eq 5, 3), (13, .iconst 0, 1), (14, .ireturn, 1), (15, .iconst 0, 1), (16, .istore_n 3, 1), (17, .iload_n 3, 1), (18, .aload_n 0, 1), (19, .iload_n 1, 1), (20, .invokevirtual 161, 3), (23, .if_icmp .ge 27, 3), (26, .aload_n 0, 1), (27, .iload_n 1, 1), (28, .iload_n 3, 1), (29, .invokevirtual 164, 3), (32, .aload_n 0, 1), (33, .iload_n 2, 1), (34, .iload_n 3, 1), (35, .invokevirtual 164, 3), (38, .lcmp, 1), (39, .ifCond .eq 5, 3), (42, .iconst 0, 1), (43, .ireturn, 1), (44, .iinc 3 1, 3), (47, .goto (-30), 3), (50, .iconst 1, 1), (51, .ireturn, 1)]
def aj_c69 : List (Nat × Instr × Nat) := [(0, .iload_n 1, 1), (1, .ifCond .lt 21, 3), (4, .iload_n 1, 1), (5, .aload_n 0, 1), (6, .getfield 19, 3), (9, .arraylength, 1), (10, .if_icmp .ge 12, 3), (13, .aload_n 0, 1), (14, .getfield 19, 3), (17, .iload_n 1, 1), (18, .iaload, 1), (19, .goto 4, 3), (22, .iconst 0, 1), (23, .ireturn, 1)]
def aj_c70 : List (Nat × Instr × Nat) := [(0, .iload_n 1, 1), (1, .bipush 6, 2), (3, .imul, 1), (4, .iload_n 2, 1), (5, .iadd, 1), (6, .istore_n 3, 1), (7, .iload_n 1, 1), (8, .ifCond .lt 31, 3), (11, .iload_n 2, 1), (12, .ifCond .lt 27, 3), (15, .iload_n 2, 1), (16, .bipush 6, 2), (18, .if_icmp .ge 21, 3), (21, .iload_n 3, 1), (22, .aload_n 0, 1), (23, .getfield 13, 3), (26, .arraylength, 1), (27, .if_icmp .ge 12, 3), (30, .aload_n 0, 1), (31, .getfield 13, 3), (34, .iload_n 3, 1), (35, .laload, 1), (36, .goto 4, 3), (39, .lconst 0, 1), (40, .lreturn, 1)]
def aj_c71 : List (Nat × Instr × Nat) := [(0, .aload_n 0, 1), (1, .getfield 30, 3), (4, .iload_n 1, 1), (5, .aload_n 0, 1), (6, .getfield 26, 3), (9, .aload_n 0, 1), (10, .getfield 30, 3), (13, .iload_n 2, 1), (14, .invokevirtual 80, 3), (17, .invokevirtual 72, 3), (20, .invokevirtual 77, 3), (23, .return_, 1)]
def aj_c72 : List (Nat × Instr × Nat) := [(0, .iload_n 1, 1), (1, .ifCond .lt 21, 3), (4, .iload_n 1, 1), (5, .aload_n 0, 1), (6, .getfield 16, 3), (9, .arraylength, 1), (10, .if_icmp .ge 12, 3), (13, .aload_n 0, 1), (14, .getfield 16, 3), (17, .iload_n 1, 1), (18, .iaload, 1), (19, .goto 4, 3), (22, .iconst 0, 1), (23, .ireturn, 1)]
def aj_c73 : List (Nat × Instr × Nat) := [(0, .aload_n 0, 1), (1, .getfield 38, 3), (4, .iconst 1, 1), (5, .isub, 1), (6, .istore_n 2, 1), (7, .aload_n 0, 1), (8, .getfield 38, 3), (11, .istore_n 3, 1), (12, .aload_n 0, 1), (13, .iload_n 2, 1), (14, .invokevirtual 161, 3), (17, .istore 4, 2), (19, .iconst 0, 1), (20, .istore 5, 2), (22, .iconst 0, 1), (23, .istore 6, 2), (25, .iload 6, 2), (27, .aload_n 0, 1), (28, .iload_n 3, 1), (29, .invokevirtual 161, 3), (32, .if_icmp .ge 60, 3), (35, .aload_n 0, 1), (36, .iload_n 2, 1), (37, .aload_n 0, 1), (38, .iload_n 3, 1), (39, .iload 6, 2), (41, .invokevirtual 164, 3), (44, .invokevirtual 171, 3), (47, .istore 7, 2), (49, .iload 5, 2), (51, .iload 7, 2), (53, .ifCond .ge 8, 3), (56, .bipush 7, 2), (58, .goto 5, 3), (61, .iload 7, 2), (63, .iconst 3, 1), (64, .iload 6, 2), (66, .imul, 1), (67, .ishl, 1), (68, .ior, 1), (69, .istore 5, 2), (71, .iload 4, 2), (73, .iload 7, 2), (75, .ifCond .ge 7, 3), (78, .iconst 1, 1), (79, .goto 4, 3), (82, .iconst 0, 1), (83, .iadd, 1), (84, .istore 4, 2), (86, .iinc 6 1, 3), (89, .goto (-64), 3), (92, .iload 4, 2), (94, .bipush 6, 2), (96, .if_icmp .le 10, 3), (99, .aload_n 0, 1), (100, .iconst 5, 1), (101, .iload_n 1, 1), (102, .invokevirtual 185, 3), (105, .return_, 1), (106, .iconst 0, 1), (107, .istore 6, 2), (109, .iload 6, 2), (111, .aload_n 0, 1), (112, .iload_n 3, 1), (113, .invokevirtual 161, 3), (116, .if_icmp .ge 36, 3), (119, .iload 5, 2), (121, .iconst 3, 1), (122, .iload 6, 2), (124, .imul, 1), (125, .ishr, 1), (126, .bipush 7, 2), (128, .iand, 1), (129, .bipush 7, 2), (131, .if_icmp .ne 15, 3), (134, .aload_n 0, 1), (135, .iload_n 2, 1), (136, .aload_n 0, 1), (137, .iload_n 3, 1), (138, .iload 6, 2), (140, .invokevirtual 164, 3), (143, .invokevirtual 214, 3), (146, .iinc 6 1, 3), (149, .goto (-40), 3), (152, .aload_n 0, 1), (153, .getfield 30, 3), (156, .iload_n 1, 1), (157, .iload 5, 2), (159, .invokevirtual 158, 3), (162, .return_, 1)]
def aj_c74 : List (Nat × Instr × Nat) := [(0, .iconst 0, 1), (1, .istore 4, 2), (3, .iload 4, 2), (5, .aload_n 0, 1), (6, .iload_n 1, 1), (7, .invokevirtual 161, 3), (10, .if_icmp .ge 24, 3), (13, .aload_n 0, 1), (14, .iload_n 1, 1), (15, .iload 4, 2), (17, .invokevirtual 164, 3), (20, .lload_n 2, 1), (21, .lcmp, 1), (22, .ifCond .ne 6, 3), (25, .iload 4, 2), (27, .ireturn, 1), (28, .iinc 4 1, 3), (31, .goto (-28), 3), (34, .iconst (-1), 1), (35, .ireturn, 1)]
def aj_c75 : List (Nat × Instr × Nat) := [(0, .aload_n 0, 1), (1, .iload_n 1, 1), (2, .invokevirtual 90, 3), (5, .lstore_n 2, 1), (6, .aload_n 0, 1), (7, .aload_n 0, 1), (8, .getfield 38, 3), (11, .iconst 1, 1), (12, .isub, 1), (13, .lload_n 2, 1), (14, .invokevirtual 171, 3), (17, .istore 4, 2), (19, .iload 4, 2), (21, .ifCond .ge 12, 3), (24, .aload_n 0, 1), (25, .iconst 4, 1), (26, .iload_n 1, 1), (27, .invokevirtual 97, 3), (30, .goto 52, 3), (33, .aload_n 0, 1), (34, .lload_n 2, 1), (35, .invokevirtual 217, 3), (38, .ifCond .eq 12, 3), (41, .aload_n 0, 1), (42, .iconst 3, 1), (43, .iload_n 1, 1), (44, .invokevirtual 97, 3), (47, .goto 35, 3), (50, .aload_n 0, 1), (51, .getfield 42, 3), (54, .aload_n 0, 1), (55, .getfield 23, 3), (58, .arraylength, 1), (59, .if_icmp .ge 23, 3), (62, .aload_n 0, 1), (63, .getfield 23, 3), (66, .aload_n 0, 1), (67, .getfield 42, 3), (70, .lload_n 2, 1), (71, .lastore, 1), (72, .aload_n 0, 1), (73, .dup, 1), (74, .getfield 42, 3), (77, .iconst 1, 1), (78, .iadd, 1), (79, .putfield 42, 3), (82, .aload_n 0, 1), (83, .getfield 30, 3), (86, .iload_n 1, 1), (87, .iload 4, 2), (89, .invokevirtual 158, 3), (92, .return_, 1)]
def aj_c76 : List (Nat × Instr × Nat) := [(0, .iconst 0, 1), (1, .istore_n 3, 1), (2, .iload_n 3, 1), (3, .aload_n 0, 1), (4, .getfield 42, 3), (7, .if_icmp .ge 31, 3), (10, .iload_n 3, 1), (11, .aload_n 0, 1), (12, .getfield 23, 3), (15, .arraylength, 1), (16, .if_icmp .ge 22, 3), (19, .aload_n 0, 1), (20, .getfield 23, 3), (23, .iload_n 3, 1), (24, .laload, 1), (25, .lload_n 1, 1), (26, .lcmp, 1), (27, .ifCond .ne 5, 3), (30, .iconst 1, 1), (31, .ireturn, 1), (32, .iinc 3 1, 3), (35, .goto (-33), 3), (38, .iconst 0, 1), (39, .ireturn, 1)]
def aj_c77 : List (Nat × Instr × Nat) := [(0, .aload_n 0, 1), (1, .aload_n 0, 1), (2, .getfield 38, 3), (5, .iconst 1, 1), (6, .isub, 1), (7, .iconst 0, 1), (8, .invokevirtual 208, 3), (11, .iconst 0, 1), (12, .istore_n 1, 1), (13, .iload_n 1, 1), (14, .aload_n 0, 1), (15, .getfield 42, 3), (18, .if_icmp .ge 34, 3), (21, .iload_n 1, 1), (22, .aload_n 0, 1), (23, .getfield 23, 3), (26, .arraylength, 1), (27, .if_icmp .ge 25, 3), (30, .aload_n 0, 1), (31, .aload_n 0, 1), (32, .getfield 38, 3), (35, .iconst 1, 1), (36, .isub, 1), (37, .aload_n 0, 1), (38, .getfield 23, 3), (41, .iload_n 1, 1), (42, .laload, 1), (43, .invokevirtual 214, 3), (46, .iinc 1 1, 3), (49, .goto (-36), 3), (52, .return_, 1)]
def aj_c78 : List (Nat × Instr × Nat) := [(0, .iload_n 2, 1), (1, .ifCond .ge 9, 3), (4, .aload_n 0, 1), (5, .iconst 4, 1), (6, .iload_n 1, 1), (7, .invokevirtual 97, 3), (10, .aload_n 0, 1), (11, .getfield 30, 3), (14, .iload_n 1, 1), (15, .iload_n 2, 1), (16, .invokevirtual 158, 3), (19, .return_, 1)]
def aj_c79 : List (Nat × Instr × Nat) := [(0, .iload_n 1, 1), (1, .bipush 6, 2), (3, .imul, 1), (4, .iload_n 2, 1), (5, .iadd, 1), (6, .istore 5, 2), (8, .iload_n 1, 1), (9, .ifCond .lt 31, 3), (12, .iload_n 2, 1), (13, .ifCond .lt 27, 3), (16, .iload_n 2, 1), (17, .bipush 6, 2), (19, .if_icmp .ge 21, 3), (22, .iload 5, 2), (24, .aload_n 0, 1), (25, .getfield 13, 3), (28, .arraylength, 1), (29, .if_icmp .ge 11, 3), (32, .aload_n 0, 1), (33, .getfield 13, 3), (36, .iload 5, 2), (38, .lload_n 3, 1), (39, .lastore, 1), (40, .return_, 1)]
def aj_c80 : List (Nat × Instr × Nat) := [(0, .aload_n 0, 1), (1, .aload_n 0, 1), (2, .iload_n 1, 1), (3, .invokevirtual 90, 3), (6, .invokevirtual 217, 3), (9, .ifCond .eq 10, 3), (12, .aload_n 0, 1), (13, .iconst 3, 1), (14, .iload_n 1, 1), (15, .invokevirtual 97, 3), (18, .return_, 1), (19, .aload_n 0, 1), (20, .invokevirtual 194, 3), (23, .aload_n 0, 1), (24, .aload_n 0, 1), (25, .getfield 38, 3), (28, .iconst 1, 1), (29, .isub, 1), (30, .aload_n 0, 1), (31, .iload_n 1, 1), (32, .invokevirtual 90, 3), (35, .invokevirtual 214, 3), (38, .return_, 1)]
def aj_c81 : List (Nat × Instr × Nat) := [(0, .iload_n 1, 1), (1, .tableswitch 116 200 203 #[31, 47, 67, 90], 31), (32, .aload_n 0, 1), (33, .getfield 30, 3), (36, .iload_n 2, 1), (37, .aload_n 0, 1), (38, .iload_n 2, 1), (39, .invokevirtual 104, 3), (42, .invokevirtual 158, 3), (45, .goto 72, 3), (48, .aload_n 0, 1), (49, .iload_n 2, 1), (50, .aload_n 0, 1), (51, .getfield 34, 3), (54, .aload_n 0, 1), (55, .iload_n 2, 1), (56, .invokevirtual 90, 3), (59, .invokevirtual 93, 3), (62, .invokevirtual 168, 3), (65, .goto 52, 3), (68, .aload_n 0, 1), (69, .iload_n 2, 1), (70, .aload_n 0, 1), (71, .aload_n 0, 1), (72, .getfield 38, 3), (75, .iconst 1, 1), (76, .isub, 1), (77, .aload_n 0, 1), (78, .iload_n 2, 1), (79, .invokevirtual 90, 3), (82, .invokevirtual 171, 3), (85, .invokevirtual 168, 3), (88, .goto 29, 3), (91, .aload_n 0, 1), (92, .getfield 30, 3), (95, .iload_n 2, 1), (96, .aload_n 0, 1), (97, .getfield 26, 3), (100, .aload_n 0, 1), (101, .getfield 30, 3), (104, .iload_n 2, 1), (105, .invokevirtual 69, 3), (108, .invokevirtual 175, 3), (111, .invokevirtual 158, 3), (114, .goto 3, 3), (117, .return_, 1)]
def aj_c82 : List (Nat × Instr × Nat) := [(0, .aload_n 0, 1), (1, .getfield 26, 3), (4, .aload_n 0, 1), (5, .getfield 30, 3), (8, .iload_n 1, 1), (9, .invokevirtual 69, 3), (12, .invokevirtual 87, 3), (15, .ireturn, 1)]
def aj_c83 : List (Nat × Instr × Nat) := [(0, .iload_n 1, 1), (1, .ifCond .lt 25, 3), (4, .iload_n 1, 1), (5, .iconst 1, 1), (6, .iadd, 1), (7, .aload_n 0, 1), (8, .getfield 9, 3), (11, .arraylength, 1), (12, .if_icmp .ge 14, 3), (15, .iload_n 1, 1), (16, .iconst 1, 1), (17, .iadd, 1), (18, .aload_n 0, 1), (19, .getfield 16, 3), (22, .arraylength, 1), (23, .if_icmp .lt 5, 3), (26, .iconst 0, 1), (27, .ireturn, 1), (28, .aload_n 0, 1), (29, .getfield 9, 3), (32, .iload_n 1, 1), (33, .iaload, 1), (34, .bipush 45, 2), (36, .if_icmp .ne 16, 3), (39, .aload_n 0, 1), (40, .getfield 16, 3), (43, .iload_n 1, 1), (44, .iconst 1, 1), (45, .iadd, 1), (46, .laload, 1), (47, .lneg, 1), (48, .l2i, 1), (49, .goto 10, 3), (52, .aload_n 0, 1), (53, .getfield 16, 3), (56, .iload_n 1, 1), (57, .laload, 1), (58, .l2i, 1), (59, .ireturn, 1)]
def aj_c84 : List (Nat × Instr × Nat) := [(0, .iconst 0, 1), (1, .istore_n 3, 1), (2, .iload_n 3, 1), (3, .aload_n 0, 1), (4, .getfield 56, 3), (7, .if_icmp .ge 31, 3), (10, .iload_n 3, 1), (11, .aload_n 0, 1), (12, .getfield 11, 3), (15, .arraylength, 1), (16, .if_icmp .ge 22, 3), (19, .aload_n 0, 1), (20, .getfield 11, 3), (23, .iload_n 3, 1), (24, .laload, 1), (25, .lload_n 1, 1), (26, .lcmp, 1), (27, .ifCond .ne 5, 3), (30, .iload_n 3, 1), (31, .ireturn, 1), (32, .iinc 3 1, 3), (35, .goto (-33), 3), (38, .iconst (-1), 1), (39, .ireturn, 1)]
def aj_c85 : List (Nat × Instr × Nat) := [(0, .iload_n 1, 1), (1, .tableswitch 231 180 192 #[67, 106, 130, 138, 157, 182, 206, 231, 231, 231, 231, 214, 223], 67), (68, .aload_n 0, 1), (69, .getfield 34, 3), (72, .aload_n 0, 1), (73, .iload_n 2, 1), (74, .invokevirtual 90, 3), (77, .invokevirtual 93, 3), (80, .ifCond .lt 12, 3), (83, .aload_n 0, 1), (84, .iconst 3, 1), (85, .iload_n 2, 1), (86, .invokevirtual 97, 3), (89, .goto 143, 3), (92, .aload_n 0, 1), (93, .getfield 34, 3), (96, .aload_n 0, 1), (97, .iload_n 2, 1), (98, .invokevirtual 90, 3), (101, .invokevirtual 100, 3), (104, .goto 128, 3), (107, .aload_n 0, 1), (108, .getfield 34, 3), (111, .aload_n 0, 1), (112, .iload_n 2, 1), (113, .invokevirtual 104, 3), (116, .invokevirtual 107, 3), (119, .ifCond .ne 113, 3), (122, .aload_n 0, 1), (123, .iconst 5, 1), (124, .iload_n 2, 1), (125, .invokevirtual 97, 3), (128, .goto 104, 3), (131, .aload_n 0, 1), (132, .iload_n 2, 1), (133, .invokevirtual 111, 3), (136, .goto 96, 3), (139, .aload_n 0, 1), (140, .getfield 34, 3), (143, .invokevirtual 115, 3), (146, .ifCond .ne 86, 3), (149, .aload_n 0, 1), (150, .iconst 5, 1), (151, .iload_n 2, 1), (152, .invokevirtual 97, 3), (155, .goto 77, 3), (158, .aload_n 0, 1), (159, .iload_n 2, 1), (160, .invokevirtual 119, 3), (163, .ifCond .eq 69, 3), (166, .aload_n 0, 1), (167, .getfield 34, 3), (170, .aload_n 0, 1), (171, .iload_n 2, 1), (172, .invokevirtual 90, 3), (175, .iconst 0, 1), (176, .invokevirtual 122, 3), (179, .pop, 1), (180, .goto 52, 3), (183, .aload_n 0, 1), (184, .getfield 34, 3), (187, .aload_n 0, 1), (188, .iload_n 2, 1), (189, .invokevirtual 90, 3), (192, .invokevirtual 126, 3), (195, .ifCond .ne 37, 3), (198, .aload_n 0, 1), (199, .iconst 3, 1), (200, .iload_n 2, 1), (201, .invokevirtual 97, 3), (204, .goto 28, 3), (207, .aload_n 0, 1), (208, .iload_n 2, 1), (209, .invokevirtual 130, 3), (212, .goto 20, 3), (215, .aload_n 0, 1), (216, .iload_n 2, 1), (217, .invokevirtual 119, 3), (220, .pop, 1), (221, .goto 11, 3), (224, .aload_n 0, 1), (225, .iload_n 2, 1), (226, .invokevirtual 133, 3), (229, .goto 3, 3), (232, .return_, 1)]
def aj_c86 : List (Nat × Instr × Nat) := [(0, .aload_n 0, 1), (1, .getfield 56, 3), (4, .aload_n 0, 1), (5, .getfield 11, 3), (8, .arraylength, 1), (9, .if_icmp .ge 35, 3), (12, .aload_n 0, 1), (13, .getfield 56, 3), (16, .aload_n 0, 1), (17, .getfield 15, 3), (20, .arraylength, 1), (21, .if_icmp .ge 23, 3), (24, .aload_n 0, 1), (25, .getfield 11, 3), (28, .aload_n 0, 1), (29, .getfield 56, 3), (32, .lload_n 1, 1), (33, .lastore, 1), (34, .aload_n 0, 1), (35, .getfield 15, 3), (38, .aload_n 0, 1), (39, .getfield 56, 3), (42, .iconst 0, 1), (43, .iastore, 1), (44, .return_, 1)]
def aj_c87 : List (Nat × Instr × Nat) := [(0, .aload_n 0, 1), (1, .aload_n 0, 1), (2, .getfield 56, 3), (5, .invokevirtual 76, 3), (8, .istore_n 2, 1), (9, .aload_n 0, 1), (10, .getfield 56, 3), (13, .bipush 64, 2), (15, .imul, 1), (16, .istore_n 3, 1), (17, .aload_n 0, 1), (18, .getfield 56, 3), (21, .aload_n 0, 1), (22, .getfield 15, 3), (25, .arraylength, 1), (26, .if_icmp .ge 9, 3), (29, .iload_n 2, 1), (30, .bipush 64, 2), (32, .if_icmp .lt 5, 3), (35, .iconst 0, 1), (36, .ireturn, 1), (37, .iload_n 3, 1), (38, .istore 4, 2), (40, .iload 4, 2), (42, .iload_n 3, 1), (43, .iload_n 2, 1), (44, .iadd, 1), (45, .if_icmp .ge 32, 3), (48, .iload 4, 2), (50, .aload_n 0, 1), (51, .getfield 19, 3), (54, .arraylength, 1), (55, .if_icmp .ge 22, 3), (58, .aload_n 0, 1), (59, .getfield 19, 3), (62, .iload 4, 2), (64, .iaload, 1), (65, .iload_n 1, 1), (66, .if_icmp .ne 5, 3), (69, .iconst 0, 1), (70, .ireturn, 1), (71, .iinc 4 1, 3), (74, .goto (-34), 3), (77, .iload_n 3, 1), (78, .iload_n 2, 1), (79, .iadd, 1), (80, .aload_n 0, 1), (81, .getfield 19, 3), (84, .arraylength, 1), (85, .if_icmp .ge 24, 3), (88, .aload_n 0, 1), (89, .getfield 19, 3), (92, .iload_n 3, 1), (93, .iload_n 2, 1), (94, .iadd, 1), (95, .iload_n 1, 1), (96, .iastore, 1), (97, .aload_n 0, 1), (98, .getfield 15, 3), (101, .aload_n 0, 1), (102, .getfield 56, 3), (105, .iload_n 2, 1), (106, .iconst 1, 1), (107, .iadd, 1), (108, .iastore, 1), (109, .iconst 1, 1), (110, .ireturn, 1)]
def aj_c88 : List (Nat × Instr × Nat) := [(0, .aload_n 0, 1), (1, .iload_n 1, 1), (2, .invokevirtual 104, 3), (5, .istore_n 2, 1), (6, .aload_n 0, 1), (7, .getfield 34, 3), (10, .invokevirtual 136, 3), (13, .istore_n 3, 1), (14, .iload_n 2, 1), (15, .iload_n 3, 1), (16, .if_icmp .lt 11, 3), (19, .iload_n 2, 1), (20, .iload_n 3, 1), (21, .bipush 63, 2), (23, .iadd, 1), (24, .if_icmp .le 10, 3), (27, .aload_n 0, 1), (28, .iconst 5, 1), (29, .iload_n 1, 1), (30, .invokevirtual 97, 3), (33, .return_, 1), (34, .iload_n 3, 1), (35, .iconst 1, 1), (36, .iadd, 1), (37, .istore 4, 2), (39, .iload 4, 2), (41, .iload_n 2, 1), (42, .if_icmp .gt 19, 3), (45, .aload_n 0, 1), (46, .getfield 34, 3), (49, .iload 4, 2), (51, .invokevirtual 107, 3), (54, .pop, 1), (55, .iinc 4 1, 3), (58, .goto (-19), 3), (61, .return_, 1)]
def aj_c89 : List (Nat × Instr × Nat) := [(0, .aload_n 0, 1), (1, .getfield 56, 3), (4, .bipush 64, 2), (6, .imul, 1), (7, .istore_n 1, 1), (8, .iload_n 1, 1), (9, .aload_n 0, 1), (10, .getfield 19, 3), (13, .arraylength, 1), (14, .if_icmp .ge 12, 3), (17, .aload_n 0, 1), (18, .getfield 19, 3), (21, .iload_n 1, 1), (22, .iaload, 1), (23, .goto 4, 3), (26, .iconst 0, 1), (27, .ireturn, 1)]
def aj_c90 : List (Nat × Instr × Nat) := [(0, .aload_n 0, 1), (1, .getfield 63, 3), (4, .aload_n 0, 1), (5, .aload_n 0, 1), (6, .getfield 56, 3), (9, .invokevirtual 76, 3), (12, .imul, 1), (13, .istore_n 1, 1), (14, .iload_n 1, 1), (15, .sipush 1024, 3), (18, .if_icmp .gt 12, 3), (21, .aload_n 0, 1), (22, .getfield 56, 3), (25, .bipush 8, 2), (27, .if_icmp .lt 5, 3), (30, .iconst 0, 1), (31, .ireturn, 1), (32, .aload_n 0, 1), (33, .iload_n 1, 1), (34, .putfield 63, 3), (37, .aload_n 0, 1), (38, .dup, 1), (39, .getfield 56, 3), (42, .iconst 1, 1), (43, .iadd, 1), (44, .putfield 56, 3), (47, .iconst 1, 1), (48, .ireturn, 1)]
def aj_c91 : List (Nat × Instr × Nat) := [(0, .aload_n 0, 1), (1, .getfield 34, 3), (4, .aload_n 0, 1), (5, .iload_n 1, 1), (6, .invokevirtual 90, 3), (9, .invokevirtual 140, 3), (12, .ifCond .lt 11, 3), (15, .aload_n 0, 1), (16, .iconst 3, 1), (17, .iload_n 1, 1), (18, .invokevirtual 97, 3), (21, .iconst 0, 1), (22, .ireturn, 1), (23, .iconst 1, 1), (24, .ireturn, 1)]
def aj_c92 : List (Nat × Instr × Nat) := [(0, .aload_n 0, 1), (1, .getfield 60, 3), (4, .istore 4, 2), (6, .iload 4, 2), (8, .aload_n 0, 1), (9, .getfield 37, 3), (12, .arraylength, 1), (13, .if_icmp .ge 23, 3), (16, .iload 4, 2), (18, .aload_n 0, 1), (19, .getfield 41, 3), (22, .arraylength, 1), (23, .if_icmp .ge 13, 3), (26, .iload 4, 2), (28, .aload_n 0, 1), (29, .getfield 47, 3), (32, .arraylength, 1), (33, .if_icmp .lt 5, 3), (36, .iconst (-1), 1), (37, .ireturn, 1), (38, .aload_n 0, 1), (39, .getfield 41, 3), (42, .iload 4, 2), (44, .lload_n 1, 1), (45, .lastore, 1), (46, .aload_n 0, 1), (47, .getfield 47, 3), (50, .iload 4, 2), (52, .iload_n 3, 1), (53, .bastore, 1), (54, .aload_n 0, 1), (55, .getfield 37, 3), (58, .iload 4, 2), (60, .aaload, 1), (61, .ifnonnull 17, 3), (64, .aload_n 0, 1), (65, .getfield 37, 3), (68, .iload 4, 2), (70, .new 35, 3), (73, .dup, 1), (74, .invokespecial 80, 3), (77, .aastore, 1), (78, .aload_n 0, 1), (79, .getfield 37, 3), (82, .iload 4, 2), (84, .aaload, 1), (85, .iconst 0, 1), (86, .putfield 81, 3), (89, .aload_n 0, 1), (90, .getfield 37, 3), (93, .iload 4, 2), (95, .aaload, 1), (96, .iconst 0, 1), (97, .putfield 84, 3), (100, .aload_n 0, 1), (101, .dup, 1), (102, .getfield 60, 3), (105, .iconst 1, 1), (106, .iadd, 1), (107, .putfield 60, 3), (110, .iload 4, 2), (112, .ireturn, 1)]
def aj_c93 : List (Nat × Instr × Nat) := [(0, .aload_n 0, 1), (1, .getfield 60, 3), (4, .iconst 1, 1), (5, .isub, 1), (6, .istore_n 3, 1), (7, .aload_n 0, 1), (8, .iload_n 3, 1), (9, .invokevirtual 87, 3), (12, .astore 4, 2), (14, .aload 4, 2), (16, .ifnull 13, 3), (19, .aload 4, 2), (21, .getfield 81, 3), (24, .bipush 6, 2), (26, .if_icmp .lt 5, 3), (29, .iconst 0, 1), (30, .ireturn, 1), (31, .iconst 0, 1), (32, .istore 5, 2), (34, .iload 5, 2), (36, .aload 4, 2), (38, .getfield 81, 3), (41, .if_icmp .ge 23, 3), (44, .aload_n 0, 1), (45, .iload_n 3, 1), (46, .iload 5, 2), (48, .invokevirtual 91, 3), (51, .lload_n 1, 1), (52, .lcmp, 1), (53, .ifCond .ne 5, 3), (56, .iconst 0, 1), (57, .ireturn, 1), (58, .iinc 5 1, 3), (61, .goto (-27), 3), (64, .iload_n 3, 1), (65, .bipush 6, 2), (67, .imul, 1), (68, .aload 4, 2), (70, .getfield 81, 3), (73, .iadd, 1), (74, .istore 5, 2), (76, .iload 5, 2), (78, .aload_n 0, 1), (79, .getfield 44, 3), (82, .arraylength, 1), (83, .if_icmp .ge 22, 3), (86, .aload_n 0, 1), (87, .getfield 44, 3), (90, .iload 5, 2), (92, .lload_n 1, 1), (93, .lastore, 1), (94, .aload 4, 2), (96, .dup, 1), (97, .getfield 81, 3), (100, .iconst 1, 1), (101, .iadd, 1), (102, .putfield 81, 3), (105, .iconst 1, 1), (106, .ireturn, 1)]
def aj_c94 : List (Nat × Instr × Nat) := [(0, .aload_n 0, 1), (1, .getfield 34, 3), (4, .aload_n 0, 1), (5, .iload_n 1, 1), (6, .invokevirtual 90, 3), (9, .invokevirtual 140, 3), (12, .istore_n 2, 1), (13, .aload_n 0, 1), (14, .getfield 34, 3), (17, .iload_n 2, 1), (18, .invokevirtual 143, 3), (21, .astore_n 3, 1), (22, .aload_n 3, 1), (23, .ifnonnull 10, 3), (26, .aload_n 0, 1), (27, .iconst 4, 1), (28, .iload_n 1, 1), (29, .invokevirtual 97, 3), (32, .return_, 1), (33, .aload_n 0, 1), (34, .getfield 34, 3), (37, .iload_n 2, 1), (38, .invokevirtual 147, 3), (41, .ifCond .ne 18, 3), (44, .aload_n 3, 1), (45, .getfield 150, 3), (48, .aload_n 0, 1), (49, .getfield 30, 3), (52, .iload_n 1, 1), (53, .invokevirtual 155, 3), (56, .if_icmp .eq 9, 3), (59, .aload_n 0, 1), (60, .iconst 5, 1), (61, .iload_n 1, 1), (62, .invokevirtual 97, 3), (65, .aload_n 0, 1), (66, .getfield 30, 3), (69, .iload_n 1, 1), (70, .iload_n 2, 1), (71, .invokevirtual 158, 3), (74, .return_, 1)]
def aj_c95 : List (Nat × Instr × Nat) := [(0, .iload_n 1, 1), (1, .ifCond .lt 33, 3), (4, .iload_n 1, 1), (5, .aload_n 0, 1), (6, .getfield 60, 3), (9, .if_icmp .ge 25, 3), (12, .iload_n 1, 1), (13, .aload_n 0, 1), (14, .getfield 47, 3), (17, .arraylength, 1), (18, .if_icmp .ge 16, 3), (21, .aload_n 0, 1), (22, .getfield 47, 3), (25, .iload_n 1, 1), (26, .baload, 1), (27, .ifCond .eq 7, 3), (30, .iconst 1, 1), (31, .goto 4, 3), (34, .iconst 0, 1), (35, .ireturn, 1)]
def aj_c96 : List (Nat × Instr × Nat) := [(0, .aload_n 0, 1), (1, .getfield 30, 3), (4, .iload_n 1, 1), (5, .aload_n 0, 1), (6, .getfield 34, 3), (9, .aload_n 0, 1), (10, .getfield 26, 3), (13, .aload_n 0, 1), (14, .getfield 30, 3), (17, .iload_n 1, 1), (18, .invokevirtual 80, 3), (21, .iconst 1, 1), (22, .iadd, 1), (23, .invokevirtual 83, 3), (26, .iconst 1, 1), (27, .invokevirtual 122, 3), (30, .invokevirtual 158, 3), (33, .aload_n 0, 1), (34, .dup, 1), (35, .getfield 38, 3), (38, .iconst 1, 1), (39, .isub, 1), (40, .putfield 38, 3), (43, .iconst 0, 1), (44, .istore_n 2, 1), (45, .iload_n 2, 1), (46, .aload_n 0, 1), (47, .aload_n 0, 1), (48, .getfield 38, 3), (51, .invokevirtual 161, 3), (54, .if_icmp .ge 26, 3), (57, .aload_n 0, 1), (58, .getfield 34, 3), (61, .aload_n 0, 1), (62, .aload_n 0, 1), (63, .getfield 38, 3), (66, .iload_n 2, 1), (67, .invokevirtual 164, 3), (70, .invokevirtual 126, 3), (73, .pop, 1), (74, .iinc 2 1, 3), (77, .goto (-32), 3), (80, .return_, 1)]
def aj_c97 : List (Nat × Instr × Nat) := [(0, .aload_n 0, 1), (1, .aload_n 1, 1), (2, .putfield 41, 3), (5, .aload_n 0, 1), (6, .getfield 41, 3), (9, .invokevirtual 62, 3), (12, .aload_n 0, 1), (13, .iconst 0, 1), (14, .putfield 65, 3), (17, .iconst 0, 1), (18, .istore_n 2, 1), (19, .iload_n 2, 1), (20, .aload_n 0, 1), (21, .getfield 37, 3), (24, .getfield 45, 3), (27, .if_icmp .ge 73, 3), (30, .aload_n 0, 1), (31, .getfield 37, 3), (34, .getfield 68, 3), (37, .ifCond .ne 63, 3), (40, .aload_n 0, 1), (41, .getfield 37, 3), (44, .iload_n 2, 1), (45, .invokevirtual 51, 3), (48, .istore_n 3, 1), (49, .iload_n 3, 1), (50, .sipush 210, 3), (53, .if_icmp .lt 12, 3), (56, .aload_n 0, 1), (57, .iload_n 3, 1), (58, .iload_n 2, 1), (59, .invokevirtual 73, 3), (62, .goto 32, 3), (65, .iload_n 3, 1), (66, .sipush 200, 3), (69, .if_icmp .lt 19, 3), (72, .aload_n 0, 1), (73, .iload_n 3, 1), (74, .aload_n 0, 1), (75, .getfield 37, 3), (78, .iload_n 2, 1), (79, .invokevirtual 55, 3), (82, .invokevirtual 58, 3), (85, .goto 9, 3), (88, .aload_n 0, 1), (89, .iload_n 3, 1), (90, .iload_n 2, 1), (91, .invokevirtual 76, 3), (94, .iinc 2 1, 3), (97, .goto (-78), 3), (100, .return_, 1)]
def aj_c98 : List (Nat × Instr × Nat) := [(0, .iload_n 1, 1), (1, .tableswitch 342 210 223 #[71, 93, 129, 164, 200, 217, 228, 246, 342, 342, 342, 266, 284, 302], 71), (72, .aload_n 0, 1), (73, .aload_n 0, 1), (74, .getfield 41, 3), (77, .aload_n 0, 1), (78, .getfield 37, 3), (81, .iload_n 2, 1), (82, .invokevirtual 55, 3), (85, .invokevirtual 85, 3), (88, .invokevirtual 185, 3), (91, .goto 252, 3), (94, .aload_n 0, 1), (95, .dup, 1), (96, .getfield 65, 3), (99, .iconst 1, 1), (100, .isub, 1), (101, .putfield 65, 3), (104, .aload_n 0, 1), (105, .aload_n 0, 1), (106, .aload_n 0, 1), (107, .getfield 65, 3), (110, .iconst 1, 1), (111, .isub, 1), (112, .invokevirtual 117, 3), (115, .aload_n 0, 1), (116, .aload_n 0, 1), (117, .getfield 65, 3), (120, .invokevirtual 117, 3), (123, .iload_n 2, 1), (124, .invokevirtual 188, 3), (127, .goto 216, 3), (130, .aload_n 0, 1), (131, .dup, 1), (132, .getfield 65, 3), (135, .iconst 1, 1), (136, .isub, 1), (137, .putfield 65, 3), (140, .aload_n 0, 1), (141, .aload_n 0, 1), (142, .aload_n 0, 1), (143, .getfield 65, 3), (146, .iconst 1, 1), (147, .isub, 1), (148, .invokevirtual 117, 3), (151, .aload_n 0, 1), (152, .aload_n 0, 1), (153, .getfield 65, 3), (156, .invokevirtual 117, 3), (159, .invokevirtual 192, 3), (162, .goto 181, 3), (165, .aload_n 0, 1), (166, .dup, 1), (167, .getfield 65, 3), (170, .iconst 1, 1), (171, .isub, 1), (172, .putfield 65, 3), (175, .aload_n 0, 1), (176, .aload_n 0, 1), (177, .aload_n 0, 1), (178, .getfield 65, 3), (181, .iconst 1, 1), (182, .isub, 1), (183, .invokevirtual 117, 3), (186, .aload_n 0, 1), (187, .aload_n 0, 1), (188, .getfield 65, 3), (191, .invokevirtual 117, 3), (194, .iload_n 2, 1), (195, .invokevirtual 195, 3), (198, .goto 145, 3), (201, .aload_n 0, 1), (202, .aload_n 0, 1), (203, .aload_n 0, 1), (204, .getfield 65, 3), (207, .iconst 1, 1), (208, .isub, 1), (209, .invokevirtual 117, 3), (212, .invokevirtual 198, 3), (215, .goto 128, 3), (218, .aload_n 0, 1), (219, .getfield 10, 3), (222, .iconst 0, 1), (223, .putfield 201, 3), (226, .goto 117, 3), (229, .aload_n 0, 1), (230, .getfield 10, 3), (233, .aload_n 0, 1), (234, .getfield 37, 3), (237, .iload_n 2, 1), (238, .invokevirtual 55, 3), (241, .invokevirtual 204, 3), (244, .goto 99, 3), (247, .aload_n 0, 1), (248, .getfield 10, 3), (251, .aload_n 0, 1), (252, .aload_n 0, 1), (253, .getfield 65, 3), (256, .iconst 1, 1), (257, .isub, 1), (258, .invokevirtual 117, 3), (261, .invokevirtual 208, 3), (264, .goto 79, 3), (267, .aload_n 0, 1), (268, .getfield 10, 3), (271, .aload_n 0, 1), (272, .getfield 37, 3), (275, .iload_n 2, 1), (276, .invokevirtual 55, 3), (279, .putfield 211, 3), (282, .goto 61, 3), (285, .aload_n 0, 1), (286, .getfield 10, 3), (289, .aload_n 0, 1), (290, .getfield 37, 3), (293, .iload_n 2, 1), (294, .invokevirtual 55, 3), (297, .putfield 214, 3), (300, .goto 43, 3), (303, .aload_n 0, 1), (304, .getfield 10, 3), (307, .aload_n 0, 1), (308, .getfield 41, 3), (311, .aload_n 0, 1), (312, .aload_n 0, 1), (313, .getfield 65, 3), (316, .iconst 1, 1), (317, .isub, 1), (318, .invokevirtual 117, 3), (321, .aload_n 0, 1), (322, .getfield 23, 3), (325, .invokevirtual 217, 3), (328, .ifCond .ne 8, 3), (331, .aload_n 0, 1), (332, .iload_n 2, 1), (333, .invokevirtual 221, 3), (336, .aload_n 0, 1), (337, .invokevirtual 224, 3), (340, .goto 3, 3), (343, .return_, 1)]
def aj_c99 : List (Nat × Instr × Nat) := [(0, .aload_n 1, 1), (1, .ifnull 25, 3), (4, .aload_n 0, 1), (5, .aload_n 0, 1), (6, .getfield 65, 3), (9, .invokevirtual 117, 3), (12, .aload_n 1, 1), (13, .invokevirtual 150, 3), (16, .aload_n 0, 1), (17, .dup, 1), (18, .getfield 65, 3), (21, .iconst 1, 1), (22, .iadd, 1), (23, .putfield 65, 3), (26, .return_, 1)]
def aj_c100 : List (Nat × Instr × Nat) := [(0, .iload_n 1, 1), (1, .ifCond .lt 12, 3), (4, .iload_n 1, 1), (5, .aload_n 0, 1), (6, .getfield 18, 3), (9, .arraylength, 1), (10, .if_icmp .lt 8, 3), (13, .aload_n 0, 1), (14, .getfield 23, 3), (17, .areturn, 1), (18, .aload_n 0, 1), (19, .getfield 18, 3), (22, .iload_n 1, 1), (23, .aaload, 1), (24, .ifnonnull 16, 3), (27, .aload_n 0, 1), (28, .getfield 18, 3), (31, .iload_n 1, 1), (32, .new 16, 3), (35, .dup, 1), (36, .invokespecial 22, 3), (39, .aastore, 1), (40, .aload_n 0, 1), (41, .getfield 18, 3), (44, .iload_n 1, 1), (45, .aaload, 1), (46, .areturn, 1)]
def aj_c101 : List (Nat × Instr × Nat) := [(0, .aload_n 0, 1), (1, .aload_n 1, 1), (2, .getfield 25, 3), (5, .putfield 25, 3), (8, .aload_n 0, 1), (9, .iconst 0, 1), (10, .putfield 29, 3), (13, .iconst 0, 1), (14, .istore_n 2, 1), (15, .iload_n 2, 1), (16, .aload_n 1, 1), (17, .getfield 29, 3), (20, .if_icmp .ge 16, 3), (23, .aload_n 0, 1), (24, .aload_n 1, 1), (25, .iload_n 2, 1), (26, .invokevirtual 38, 3), (29, .pop, 1), (30, .iinc 2 1, 3), (33, .goto (-18), 3), (36, .aload_n 1, 1), (37, .getfield 19, 3), (40, .iconst 0, 1), (41, .aload_n 0, 1), (42, .getfield 19, 3), (45, .iconst 0, 1), (46, .aload_n 0, 1), (47, .getfield 19, 3), (50, .arraylength, 1), (51, .invokestatic 42, 3), (54, .return_, 1)]
def aj_c102 : List (Nat × Instr × Nat) := [(0, .aload_n 0, 1), (1, .getfield 29, 3), (4, .istore_n 3, 1), (5, .iconst 0, 1), (6, .istore 4, 2), (8, .iload 4, 2), (10, .aload_n 1, 1), (11, .getfield 25, 3), (14, .if_icmp .ge 30, 3), (17, .aload_n 0, 1), (18, .iload_n 3, 1), (19, .iload 4, 2), (21, .aload_n 1, 1), (22, .iload_n 2, 1), (23, .iload 4, 2), (25, .invokevirtual 48, 3), (28, .aload_n 1, 1), (29, .iload_n 2, 1), (30, .iload 4, 2), (32, .invokevirtual 52, 3), (35, .invokevirtual 56, 3), (38, .iinc 4 1, 3), (41, .goto (-33), 3), (44, .aload_n 0, 1), (45, .dup, 1), (46, .getfield 29, 3), (49, .iconst 1, 1), (50, .iadd, 1), (51, .putfield 29, 3), (54, .iload_n 3, 1), (55, .ireturn, 1)]
def aj_c103 : List (Nat × Instr × Nat) := [(0, .iload_n 1, 1), (1, .bipush 6, 2), (3, .imul, 1), (4, .iload_n 2, 1), (5, .iadd, 1), (6, .istore_n 3, 1), (7, .iload_n 1, 1), (8, .ifCond .lt 35, 3), (11, .iload_n 2, 1), (12, .ifCond .lt 31, 3), (15, .iload_n 2, 1), (16, .bipush 6, 2), (18, .if_icmp .ge 25, 3), (21, .iload_n 3, 1), (22, .aload_n 0, 1), (23, .getfield 15, 3), (26, .arraylength, 1), (27, .if_icmp .ge 16, 3), (30, .aload_n 0, 1), (31, .getfield 15, 3), (34, .iload_n 3, 1), (35, .baload, 1), (36, .ifCond .eq 7, 3), (39, .iconst 1, 1), (40, .goto 4, 3), (43, .iconst 0, 1), (44, .ireturn, 1)]
def aj_c104 : List (Nat × Instr × Nat) := [(0, .iload_n 1, 1), (1, .bipush 6, 2), (3, .imul, 1), (4, .iload_n 2, 1), (5, .iadd, 1), (6, .istore_n 3, 1), (7, .iload_n 1, 1), (8, .ifCond .lt 37, 3), (11, .iload_n 1, 1), (12, .bipush 30, 2), (14, .if_icmp .ge 31, 3), (17, .iload_n 2, 1), (18, .ifCond .lt 27, 3), (21, .iload_n 2, 1), (22, .bipush 6, 2), (24, .if_icmp .ge 21, 3), (27, .iload_n 3, 1), (28, .aload_n 0, 1), (29, .getfield 11, 3), (32, .arraylength, 1), (33, .if_icmp .ge 12, 3), (36, .aload_n 0, 1), (37, .getfield 11, 3), (40, .iload_n 3, 1), (41, .iaload, 1), (42, .goto 4, 3), (45, .iconst 0, 1), (46, .ireturn, 1)]
def aj_c105 : List (Nat × Instr × Nat) := [(0, .iload_n 1, 1), (1, .bipush 6, 2), (3, .imul, 1), (4, .iload_n 2, 1), (5, .iadd, 1), (6, .istore 5, 2), (8, .iload_n 1, 1), (9, .ifCond .lt 56, 3), (12, .iload_n 1, 1), (13, .bipush 30, 2), (15, .if_icmp .ge 50, 3), (18, .iload_n 2, 1), (19, .ifCond .lt 46, 3), (22, .iload_n 2, 1), (23, .bipush 6, 2), (25, .if_icmp .ge 40, 3), (28, .iload 5, 2), (30, .aload_n 0, 1), (31, .getfield 11, 3), (34, .arraylength, 1), (35, .if_icmp .ge 30, 3), (38, .iload 5, 2), (40, .aload_n 0, 1), (41, .getfield 15, 3), (44, .arraylength, 1), (45, .if_icmp .ge 20, 3), (48, .aload_n 0, 1), (49, .getfield 11, 3), (52, .iload 5, 2), (54, .iload 4, 2), (56, .iastore, 1), (57, .aload_n 0, 1), (58, .getfield 15, 3), (61, .iload 5, 2), (63, .iload_n 3, 1), (64, .bastore, 1), (65, .return_, 1)]
def aj_c106 : List (Nat × Instr × Nat) := [(0, .aload_n 1, 1), (1, .getfield 124, 3), (4, .aload_n 2, 1), (5, .getfield 124, 3), (8, .iadd, 1), (9, .bipush 30, 2), (11, .if_icmp .le 9, 3), (14, .aload_n 0, 1), (15, .iload_n 3, 1), (16, .invokevirtual 221, 3), (19, .return_, 1), (20, .iconst 0, 1), (21, .istore 4, 2), (23, .iload 4, 2), (25, .aload_n 2, 1), (26, .getfield 124, 3), (29, .if_icmp .ge 69, 3), (32, .aload_n 1, 1), (33, .aload_n 2, 1), (34, .iload 4, 2), (36, .invokevirtual 231, 3), (39, .istore 5, 2), (41, .iconst 0, 1), (42, .istore 6, 2), (44, .iload 6, 2), (46, .aload_n 0, 1), (47, .getfield 41, 3), (50, .getfield 127, 3), (53, .if_icmp .ge 39, 3), (56, .aload_n 2, 1), (57, .iload 4, 2), (59, .iload 6, 2), (61, .invokevirtual 227, 3), (64, .ifCond .eq 14, 3), (67, .aload_n 1, 1), (68, .iload 5, 2), (70, .iload 6, 2), (72, .invokevirtual 130, 3), (75, .goto 11, 3), (78, .aload_n 1, 1), (79, .iload 5, 2), (81, .iload 6, 2), (83, .invokevirtual 147, 3), (86, .iinc 6 1, 3), (89, .goto (-45), 3), (92, .iinc 4 1, 3), (95, .goto (-72), 3), (98, .return_, 1)]
def aj_c107 : List (Nat × Instr × Nat) := [(0, .aload_n 0, 1), (1, .getfield 37, 3), (4, .bipush 6, 2), (6, .aload_n 0, 1), (7, .getfield 33, 3), (10, .aload_n 0, 1), (11, .getfield 37, 3), (14, .iload_n 1, 1), (15, .invokevirtual 106, 3), (18, .invokevirtual 109, 3), (21, .invokevirtual 114, 3), (24, .return_, 1)]
def aj_c108 : List (Nat × Instr × Nat) := [(0, .iload_n 2, 1), (1, .ifCond .lt 29, 3), (4, .iload_n 2, 1), (5, .aload_n 0, 1), (6, .getfield 19, 3), (9, .arraylength, 1), (10, .if_icmp .ge 20, 3), (13, .aload_n 0, 1), (14, .getfield 19, 3), (17, .iload_n 2, 1), (18, .iaload, 1), (19, .iload_n 1, 1), (20, .ishr, 1), (21, .iconst 1, 1), (22, .iand, 1), (23, .ifCond .eq 7, 3), (26, .iconst 1, 1), (27, .goto 4, 3), (30, .iconst 0, 1), (31, .ireturn, 1)]
def aj_c109 : List (Nat × Instr × Nat) := [(0, .iload_n 2, 1), (1, .ifCond .lt 24, 3), (4, .iload_n 2, 1), (5, .aload_n 0, 1), (6, .getfield 19, 3), (9, .arraylength, 1), (10, .if_icmp .ge 15, 3), (13, .aload_n 0, 1), (14, .getfield 19, 3), (17, .iload_n 2, 1), (18, .dup2, 1), (19, .iaload, 1), (20, .iconst 1, 1), (21, .iload_n 1, 1), (22, .ishl, 1), (23, .ior, 1), (24, .iastore, 1), (25, .return_, 1)]
def aj_c110 : List (Nat × Instr × Nat) := [(0, .iload_n 2, 1), (1, .ifCond .lt 26, 3), (4, .iload_n 2, 1), (5, .aload_n 0, 1), (6, .getfield 19, 3), (9, .arraylength, 1), (10, .if_icmp .ge 17, 3), (13, .aload_n 0, 1), (14, .getfield 19, 3), (17, .iload_n 2, 1), (18, .dup2, 1), (19, .iaload, 1), (20, .iconst 1, 1), (21, .iload_n 1, 1), (22, .ishl, 1), (23, .iconst (-1), 1), (24, .ixor, 1), (25, .iand, 1), (26, .iastore, 1), (27, .return_, 1)]
def aj_c111 : List (Nat × Instr × Nat) := [(0, .iconst 0, 1), (1, .istore_n 3, 1), (2, .iload_n 3, 1), (3, .aload_n 1, 1), (4, .getfield 124, 3), (7, .if_icmp .ge 90, 3), (10, .iconst 0, 1), (11, .istore 4, 2), (13, .iload 4, 2), (15, .aload_n 2, 1), (16, .getfield 124, 3), (19, .if_icmp .ge 72, 3), (22, .aload_n 1, 1), (23, .iload_n 3, 1), (24, .aload_n 2, 1), (25, .iload 4, 2), (27, .ldc 235, 2), (29, .invokevirtual 236, 3), (32, .ifCond .eq 6, 3), (35, .goto 50, 3), (38, .iconst 0, 1), (39, .istore 5, 2), (41, .iload 5, 2), (43, .aload_n 0, 1), (44, .getfield 41, 3), (47, .getfield 127, 3), (50, .if_icmp .ge 35, 3), (53, .aload_n 1, 1), (54, .aload_n 0, 1), (55, .getfield 41, 3), (58, .iload_n 3, 1), (59, .aload_n 2, 1), (60, .iload 4, 2), (62, .ldc 235, 2), (64, .iload 5, 2), (66, .invokevirtual 240, 3), (69, .ifCond .eq 10, 3), (72, .aload_n 1, 1), (73, .iload_n 3, 1), (74, .iload 5, 2), (76, .invokevirtual 147, 3), (79, .iinc 5 1, 3), (82, .goto (-41), 3), (85, .iinc 4 1, 3), (88, .goto (-75), 3), (91, .iinc 3 1, 3), (94, .goto (-92), 3), (97, .return_, 1)]
def aj_c112 : List (Nat × Instr × Nat) := [(0, .iconst 0, 1), (1, .istore 5, 2), (3, .iload 5, 2), (5, .aload_n 2, 1), (6, .getfield 25, 3), (9, .if_icmp .ge 69, 3), (12, .iload 4, 2), (14, .iconst 3, 1), (15, .iload 5, 2), (17, .imul, 1), (18, .ishr, 1), (19, .bipush 7, 2), (21, .iand, 1), (22, .istore 6, 2), (24, .iload 6, 2), (26, .aload_n 0, 1), (27, .getfield 25, 3), (30, .if_icmp .ge 42, 3), (33, .aload_n 0, 1), (34, .iload_n 1, 1), (35, .iload 6, 2), (37, .invokevirtual 48, 3), (40, .ifCond .ne 32, 3), (43, .aload_n 2, 1), (44, .iload_n 3, 1), (45, .iload 5, 2), (47, .invokevirtual 48, 3), (50, .ifCond .ne 22, 3), (53, .aload_n 0, 1), (54, .iload_n 1, 1), (55, .iload 6, 2), (57, .invokevirtual 52, 3), (60, .aload_n 2, 1), (61, .iload_n 3, 1), (62, .iload 5, 2), (64, .invokevirtual 52, 3), (67, .if_icmp .eq 5, 3), (70, .iconst 1, 1), (71, .ireturn, 1), (72, .iinc 5 1, 3), (75, .goto (-72), 3), (78, .iconst 0, 1), (79, .ireturn, 1)]
def aj_c113 : List (Nat × Instr × Nat) := [(0, .aload_n 0, 1), (1, .iload_n 2, 1), (2, .iload 6, 2), (4, .invokevirtual 64, 3), (7, .ifCond .eq 14, 3), (10, .aload_n 3, 1), (11, .iload 4, 2), (13, .iload 6, 2), (15, .invokevirtual 64, 3), (18, .ifCond .ne 5, 3), (21, .iconst 0, 1), (22, .ireturn, 1), (23, .iconst 0, 1), (24, .istore 7, 2), (26, .iload 7, 2), (28, .aload_n 3, 1), (29, .getfield 25, 3), (32, .if_icmp .ge 56, 3), (35, .iload 5, 2), (37, .iconst 3, 1), (38, .iload 7, 2), (40, .imul, 1), (41, .ishr, 1), (42, .bipush 7, 2), (44, .iand, 1), (45, .istore 8, 2), (47, .iload 8, 2), (49, .aload_n 0, 1), (50, .getfield 25, 3), (53, .if_icmp .ge 29, 3), (56, .aload_n 0, 1), (57, .aload_n 1, 1), (58, .iload_n 2, 1), (59, .iload 8, 2), (61, .iload 6, 2), (63, .invokevirtual 60, 3), (66, .aload_n 3, 1), (67, .aload_n 1, 1), (68, .iload 4, 2), (70, .iload 7, 2), (72, .iload 6, 2), (74, .invokevirtual 60, 3), (77, .if_icmp .eq 5, 3), (80, .iconst 0, 1), (81, .ireturn, 1), (82, .iinc 7 1, 3), (85, .goto (-59), 3), (88, .iconst 1, 1), (89, .ireturn, 1)]
def aj_c114 : List (Nat × Instr × Nat) := [(0, .iload_n 2, 1), (1, .bipush 6, 2), (3, .imul, 1), (4, .iload_n 3, 1), (5, .iadd, 1), (6, .istore 5, 2), (8, .iload_n 2, 1), (9, .ifCond .lt 39, 3), (12, .iload_n 2, 1), (13, .bipush 30, 2), (15, .if_icmp .ge 33, 3), (18, .iload_n 3, 1), (19, .ifCond .lt 29, 3), (22, .iload_n 3, 1), (23, .bipush 6, 2), (25, .if_icmp .ge 23, 3), (28, .iload 5, 2), (30, .aload_n 0, 1), (31, .getfield 11, 3), (34, .arraylength, 1), (35, .if_icmp .ge 13, 3), (38, .iload 5, 2), (40, .aload_n 0, 1), (41, .getfield 15, 3), (44, .arraylength, 1), (45, .if_icmp .lt 5, 3), (48, .iconst 0, 1), (49, .ireturn, 1), (50, .aload_n 0, 1), (51, .getfield 11, 3), (54, .iload 5, 2), (56, .iaload, 1), (57, .istore 6, 2), (59, .aload_n 0, 1), (60, .getfield 15, 3), (63, .iload 5, 2), (65, .baload, 1), (66, .ifCond .ne 6, 3), (69, .iload 6, 2), (71, .ireturn, 1), (72, .iload 4, 2), (74, .bipush 8, 2), (76, .imul, 1), (77, .iload 6, 2), (79, .iadd, 1), (80, .istore 7, 2), (82, .iload 4, 2), (84, .ifCond .lt 43, 3), (87, .iload 4, 2), (89, .sipush 1024, 3), (92, .if_icmp .ge 35, 3), (95, .iload 6, 2), (97, .ifCond .lt 30, 3), (100, .iload 6, 2), (102, .bipush 8, 2), (104, .if_icmp .ge 23, 3), (107, .iload 7, 2), (109, .aload_n 1, 1), (110, .getfield 22, 3), (113, .arraylength, 1), (114, .if_icmp .ge 13, 3), (117, .aload_n 1, 1), (118, .getfield 22, 3), (121, .iload 7, 2), (123, .iaload, 1), (124, .goto 4, 3), (127, .iconst 0, 1), (128, .ireturn, 1)]
def aj_c115 : List (Nat × Instr × Nat) := [(0, .aload_n 1, 1), (1, .getfield 124, 3), (4, .aload_n 2, 1), (5, .getfield 124, 3), (8, .imul, 1), (9, .bipush 30, 2), (11, .if_icmp .le 9, 3), (14, .aload_n 0, 1), (15, .iload_n 3, 1), (16, .invokevirtual 221, 3), (19, .return_, 1), (20, .aload_n 0, 1), (21, .getfield 37, 3), (24, .iload_n 3, 1), (25, .invokevirtual 55, 3), (28, .istore 4, 2), (30, .aload_n 0, 1), (31, .getfield 23, 3), (34, .aload_n 1, 1), (35, .getfield 244, 3), (38, .invokevirtual 247, 3), (41, .iconst 0, 1), (42, .istore 5, 2), (44, .iload 5, 2), (46, .aload_n 1, 1), (47, .getfield 124, 3), (50, .if_icmp .ge 39, 3), (53, .iconst 0, 1), (54, .istore 6, 2), (56, .iload 6, 2), (58, .aload_n 2, 1), (59, .getfield 124, 3), (62, .if_icmp .ge 21, 3), (65, .aload_n 0, 1), (66, .aload_n 1, 1), (67, .iload 5, 2), (69, .aload_n 2, 1), (70, .iload 6, 2), (72, .iload 4, 2), (74, .invokevirtual 250, 3), (77, .iinc 6 1, 3), (80, .goto (-24), 3), (83, .iinc 5 1, 3), (86, .goto (-42), 3), (89, .aload_n 0, 1), (90, .getfield 23, 3), (93, .aload_n 1, 1), (94, .getfield 244, 3), (97, .aload_n 2, 1), (98, .aload_n 1, 1), (99, .getfield 244, 3), (102, .iload 4, 2), (104, .invokevirtual 254, 3), (107, .iadd, 1), (108, .putfield 244, 3), (111, .aload_n 0, 1), (112, .invokevirtual 224, 3), (115, .return_, 1)]
def aj_c116 : List (Nat × Instr × Nat) := [(0, .aload_n 0, 1), (1, .iload_n 1, 1), (2, .putfield 25, 3), (5, .aload_n 0, 1), (6, .iconst 0, 1), (7, .putfield 29, 3), (10, .aload_n 0, 1), (11, .getfield 19, 3), (14, .iconst 0, 1), (15, .invokestatic 32, 3), (18, .return_, 1)]
def aj_c117 : List (Nat × Instr × Nat) := [(0, .iconst 0, 1), (1, .istore_n 2, 1), (2, .aload_n 0, 1), (3, .arraylength, 1), (4, .istore_n 3, 1), (5, .iload_n 2, 1), (6, .iload_n 3, 1), (7, .if_icmp .ge 13, 3), (10, .aload_n 0, 1), (11, .iload_n 2, 1), (12, .iload_n 1, 1), (13, .iastore, 1), (14, .iinc 2 1, 3), (17, .goto (-12), 3), (20, .return_, 1)]
def aj_c118 : List (Nat × Instr × Nat) := [(0, .aload_n 0, 1), (1, .getfield 23, 3), (4, .aload_n 1, 1), (5, .iload_n 2, 1), (6, .invokevirtual 231, 3), (9, .istore 6, 2), (11, .aload_n 1, 1), (12, .getfield 244, 3), (15, .istore 7, 2), (17, .iconst 0, 1), (18, .istore 8, 2), (20, .iload 8, 2), (22, .aload_n 3, 1), (23, .getfield 244, 3), (26, .if_icmp .ge 56, 3), (29, .iload 5, 2), (31, .iconst 3, 1), (32, .iload 8, 2), (34, .imul, 1), (35, .ishr, 1), (36, .bipush 7, 2), (38, .iand, 1), (39, .aload_n 1, 1), (40, .getfield 244, 3), (43, .if_icmp .lt 33, 3), (46, .aload_n 0, 1), (47, .getfield 23, 3), (50, .iload 6, 2), (52, .iload 7, 2), (54, .aload_n 3, 1), (55, .iload 4, 2), (57, .iload 8, 2), (59, .invokevirtual 257, 3), (62, .aload_n 3, 1), (63, .iload 4, 2), (65, .iload 8, 2), (67, .invokevirtual 260, 3), (70, .invokevirtual 139, 3), (73, .iinc 7 1, 3), (76, .iinc 8 1, 3), (79, .goto (-59), 3), (82, .aload_n 1, 1), (83, .iload_n 2, 1), (84, .aload_n 3, 1), (85, .iload 4, 2), (87, .iload 5, 2), (89, .invokevirtual 236, 3), (92, .ifCond .eq 4, 3), (95, .return_, 1), (96, .iconst 0, 1), (97, .istore 8, 2), (99, .iload 8, 2), (101, .aload_n 0, 1), (102, .getfield 41, 3), (105, .getfield 127, 3), (108, .if_icmp .ge 39, 3), (111, .aload_n 1, 1), (112, .aload_n 0, 1), (113, .getfield 41, 3), (116, .iload_n 2, 1), (117, .aload_n 3, 1), (118, .iload 4, 2), (120, .iload 5, 2), (122, .iload 8, 2), (124, .invokevirtual 240, 3), (127, .ifCond .eq 14, 3), (130, .aload_n 0, 1), (131, .getfield 23, 3), (134, .iload 6, 2), (136, .iload 8, 2), (138, .invokevirtual 130, 3), (141, .iinc 8 1, 3), (144, .goto (-45), 3), (147, .return_, 1)]
def aj_c119 : List (Nat × Instr × Nat) := [(0, .iconst 0, 1), (1, .istore_n 3, 1), (2, .iconst 0, 1), (3, .istore 4, 2), (5, .iload 4, 2), (7, .aload_n 0, 1), (8, .getfield 25, 3), (11, .if_icmp .ge 30, 3), (14, .iload_n 3, 1), (15, .iload_n 2, 1), (16, .iconst 3, 1), (17, .iload 4, 2), (19, .imul, 1), (20, .ishr, 1), (21, .bipush 7, 2), (23, .iand, 1), (24, .iload_n 1, 1), (25, .if_icmp .lt 7, 3), (28, .iconst 1, 1), (29, .goto 4, 3), (32, .iconst 0, 1), (33, .iadd, 1), (34, .istore_n 3, 1), (35, .iinc 4 1, 3), (38, .goto (-33), 3), (41, .iload_n 3, 1), (42, .ireturn, 1)]
def aj_c120 : List (Nat × Instr × Nat) := [(0, .aload_n 0, 1), (1, .getfield 65, 3), (4, .iconst 1, 1), (5, .isub, 1), (6, .istore_n 1, 1), (7, .iload_n 1, 1), (8, .ifCond .lt 33, 3), (11, .iload_n 1, 1), (12, .aload_n 0, 1), (13, .getfield 18, 3), (16, .arraylength, 1), (17, .if_icmp .ge 24, 3), (20, .aload_n 0, 1), (21, .iload_n 1, 1), (22, .invokevirtual 117, 3), (25, .astore_n 2, 1), (26, .aload_n 0, 1), (27, .getfield 18, 3), (30, .iload_n 1, 1), (31, .aload_n 0, 1), (32, .getfield 23, 3), (35, .aastore, 1), (36, .aload_n 0, 1), (37, .aload_n 2, 1), (38, .putfield 23, 3), (41, .return_, 1)]
def aj_c121 : List (Nat × Instr × Nat) := [(0, .iconst 0, 1), (1, .istore_n 2, 1), (2, .iload_n 2, 1), (3, .aload_n 1, 1), (4, .getfield 124, 3), (7, .if_icmp .ge 53, 3), (10, .iconst 0, 1), (11, .istore_n 3, 1), (12, .iload_n 3, 1), (13, .aload_n 0, 1), (14, .getfield 41, 3), (17, .getfield 127, 3), (20, .if_icmp .ge 34, 3), (23, .aload_n 1, 1), (24, .iload_n 2, 1), (25, .iload_n 3, 1), (26, .invokevirtual 227, 3), (29, .ifCond .eq 19, 3), (32, .aload_n 0, 1), (33, .aload_n 1, 1), (34, .iload_n 2, 1), (35, .iload_n 3, 1), (36, .invokevirtual 169, 3), (39, .ifCond .ne 9, 3), (42, .aload_n 1, 1), (43, .iload_n 2, 1), (44, .iload_n 3, 1), (45, .invokevirtual 147, 3), (48, .iinc 3 1, 3), (51, .goto (-39), 3), (54, .iinc 2 1, 3), (57, .goto (-55), 3), (60, .return_, 1)]
def aj_c122 : List (Nat × Instr × Nat) := [(0, .aload_n 0, 1), (1, .aload_n 0, 1), (2, .getfield 163, 3), (5, .aload_n 0, 1), (6, .getfield 166, 3), (9, .aload_n 1, 1), (10, .iload_n 2, 1), (11, .iload_n 3, 1), (12, .invokevirtual 173, 3), (15, .istore 4, 2), (17, .aload_n 0, 1), (18, .aload_n 0, 1), (19, .getfield 133, 3), (22, .aload_n 0, 1), (23, .getfield 136, 3), (26, .aload_n 1, 1), (27, .iload_n 2, 1), (28, .iload_n 3, 1), (29, .invokevirtual 173, 3), (32, .istore 5, 2), (34, .aload_n 0, 1), (35, .getfield 156, 3), (38, .lookupswitch 73 #[(6, 47), (60, 60), (61, 34)], 34), (72, .iload 4, 2), (74, .iload 5, 2), (76, .if_icmp .ne 7, 3), (79, .iconst 1, 1), (80, .goto 4, 3), (83, .iconst 0, 1), (84, .ireturn, 1), (85, .iload 4, 2), (87, .iload 5, 2), (89, .if_icmp .eq 7, 3), (92, .iconst 1, 1), (93, .goto 4, 3), (96, .iconst 0, 1), (97, .ireturn, 1), (98, .iload 4, 2), (100, .iload 5, 2), (102, .if_icmp .ge 7, 3), (105, .iconst 1, 1), (106, .goto 4, 3), (109, .iconst 0, 1), (110, .ireturn, 1), (111, .iload 4, 2), (113, .iload 5, 2), (115, .if_icmp .gt 7, 3), (118, .iconst 1, 1), (119, .goto 4, 3), (122, .iconst 0, 1), (123, .ireturn, 1)]
def aj_c123 : List (Nat × Instr × Nat) := [(0, .iload_n 1, 1), (1, .ifCond .ne 7, 3), (4, .iload_n 2, 1), (5, .goto 34, 3), (8, .iload_n 1, 1), (9, .iconst 1, 1), (10, .if_icmp .ne 16, 3), (13, .aload_n 0, 1), (14, .getfield 41, 3), (17, .iload 5, 2), (19, .iload_n 2, 1), (20, .invokevirtual 177, 3), (23, .goto 16, 3), (26, .aload_n 3, 1), (27, .aload_n 0, 1), (28, .getfield 41, 3), (31, .iload 4, 2), (33, .iload_n 2, 1), (34, .iload 5, 2), (36, .invokevirtual 181, 3), (39, .ireturn, 1)]
def aj_c124 : List (Nat × Instr × Nat) := [(0, .iload_n 1, 1), (1, .bipush 8, 2), (3, .imul, 1), (4, .iload_n 2, 1), (5, .iadd, 1), (6, .istore_n 3, 1), (7, .iload_n 1, 1), (8, .ifCond .lt 38, 3), (11, .iload_n 1, 1), (12, .sipush 1024, 3), (15, .if_icmp .ge 31, 3), (18, .iload_n 2, 1), (19, .ifCond .lt 27, 3), (22, .iload_n 2, 1), (23, .bipush 8, 2), (25, .if_icmp .ge 21, 3), (28, .iload_n 3, 1), (29, .aload_n 0, 1), (30, .getfield 22, 3), (33, .arraylength, 1), (34, .if_icmp .ge 12, 3), (37, .aload_n 0, 1), (38, .getfield 22, 3), (41, .iload_n 3, 1), (42, .iaload, 1), (43, .goto 4, 3), (46, .iconst 0, 1), (47, .ireturn, 1)]
def aj_c125 : List (Nat × Instr × Nat) := [(0, .aload_n 0, 1), (1, .getfield 29, 3), (4, .aload_n 0, 1), (5, .getfield 11, 3), (8, .arraylength, 1), (9, .if_icmp .ge 23, 3), (12, .aload_n 0, 1), (13, .getfield 11, 3), (16, .aload_n 0, 1), (17, .getfield 29, 3), (20, .iload_n 1, 1), (21, .iastore, 1), (22, .aload_n 0, 1), (23, .dup, 1), (24, .getfield 29, 3), (27, .iconst 1, 1), (28, .iadd, 1), (29, .putfield 29, 3), (32, .return_, 1)]
def aj_c126 : List (Nat × Instr × Nat) := [(0, .iconst 0, 1), (1, .istore_n 2, 1), (2, .iload_n 2, 1), (3, .aload_n 1, 1), (4, .getfield 33, 3), (7, .if_icmp .ge 111, 3), (10, .iconst 0, 1), (11, .istore_n 3, 1), (12, .iload_n 3, 1), (13, .aload_n 0, 1), (14, .getfield 29, 3), (17, .if_icmp .ge 52, 3), (20, .iload_n 3, 1), (21, .aload_n 0, 1), (22, .getfield 11, 3), (25, .arraylength, 1), (26, .if_icmp .ge 43, 3), (29, .aload_n 0, 1), (30, .getfield 22, 3), (33, .iload_n 3, 1), (34, .aload_n 1, 1), (35, .iload_n 2, 1), (36, .aload_n 0, 1), (37, .getfield 11, 3), (40, .iload_n 3, 1), (41, .iaload, 1), (42, .invokevirtual 36, 3), (45, .iastore, 1), (46, .aload_n 0, 1), (47, .getfield 25, 3), (50, .iload_n 3, 1), (51, .aload_n 1, 1), (52, .iload_n 2, 1), (53, .aload_n 0, 1), (54, .getfield 11, 3), (57, .iload_n 3, 1), (58, .iaload, 1), (59, .invokevirtual 40, 3), (62, .bastore, 1), (63, .iinc 3 1, 3), (66, .goto (-54), 3), (69, .iconst 0, 1), (70, .istore_n 3, 1), (71, .iload_n 3, 1), (72, .aload_n 0, 1), (73, .getfield 29, 3), (76, .if_icmp .ge 36, 3), (79, .iload_n 3, 1), (80, .aload_n 0, 1), (81, .getfield 11, 3), (84, .arraylength, 1), (85, .if_icmp .ge 27, 3), (88, .aload_n 1, 1), (89, .iload_n 2, 1), (90, .iload_n 3, 1), (91, .aload_n 0, 1), (92, .getfield 25, 3), (95, .iload_n 3, 1), (96, .baload, 1), (97, .aload_n 0, 1), (98, .getfield 22, 3), (101, .iload_n 3, 1), (102, .iaload, 1), (103, .invokevirtual 44, 3), (106, .iinc 3 1, 3), (109, .goto (-38), 3), (112, .iinc 2 1, 3), (115, .goto (-113), 3), (118, .aload_n 1, 1), (119, .aload_n 0, 1), (120, .getfield 29, 3), (123, .putfield 48, 3), (126, .return_, 1)]
def aj_c127 : List (Nat × Instr × Nat) := [(0, .aload_n 3, 1), (1, .aload_n 0, 1), (2, .getfield 29, 3), (5, .iconst 1, 1), (6, .iadd, 1), (7, .bipush 6, 2), (9, .invokestatic 51, 3), (12, .invokevirtual 56, 3), (15, .iconst 0, 1), (16, .istore 4, 2), (18, .iload 4, 2), (20, .aload_n 1, 1), (21, .getfield 60, 3), (24, .if_icmp .ge 23, 3), (27, .aload_n 0, 1), (28, .aload_n 1, 1), (29, .aload_n 2, 1), (30, .aload_n 3, 1), (31, .iload 4, 2), (33, .invokevirtual 63, 3), (36, .ifCond .ne 5, 3), (39, .iconst 0, 1), (40, .ireturn, 1), (41, .iinc 4 1, 3), (44, .goto (-26), 3), (47, .aload_n 1, 1), (48, .aload_n 3, 1), (49, .invokestatic 67, 3), (52, .iconst 1, 1), (53, .ireturn, 1)]
def aj_c128 : List (Nat × Instr × Nat) := [(0, .aload_n 2, 1), (1, .aload_n 1, 1), (2, .iload 4, 2), (4, .aload_n 0, 1), (5, .getfield 19, 3), (8, .invokevirtual 71, 3), (11, .istore 5, 2), (13, .iconst 0, 1), (14, .istore 6, 2), (16, .iload 6, 2), (18, .iload 5, 2), (20, .if_icmp .ge 136, 3), (23, .iload 6, 2), (25, .aload_n 0, 1), (26, .getfield 19, 3), (29, .arraylength, 1), (30, .if_icmp .ge 126, 3), (33, .aload_n 0, 1), (34, .aload_n 1, 1), (35, .aload_n 2, 1), (36, .iload 6, 2), (38, .iload 4, 2), (40, .invokevirtual 75, 3), (43, .ifCond .ne 6, 3), (46, .goto 104, 3), (49, .aload_n 0, 1), (50, .getfield 29, 3), (53, .aload_n 0, 1), (54, .getfield 11, 3), (57, .arraylength, 1), (58, .iconst 1, 1), (59, .isub, 1), (60, .invokestatic 51, 3), (63, .istore 7, 2), (65, .iconst 0, 1), (66, .istore 8, 2), (68, .iload 8, 2), (70, .iload 7, 2), (72, .if_icmp .ge 37, 3), (75, .aload_n 0, 1), (76, .getfield 22, 3), (79, .iload 8, 2), (81, .aload_n 2, 1), (82, .aload_n 1, 1), (83, .aload_n 0, 1), (84, .getfield 19, 3), (87, .iload 6, 2), (89, .iaload, 1), (90, .aload_n 0, 1), (91, .getfield 11, 3), (94, .iload 8, 2), (96, .iaload, 1), (97, .iload 4, 2), (99, .invokevirtual 79, 3), (102, .iastore, 1), (103, .iinc 8 1, 3), (106, .goto (-38), 3), (109, .aload_n 0, 1), (110, .getfield 22, 3), (113, .iload 7, 2), (115, .aload_n 0, 1), (116, .aload_n 1, 1), (117, .aload_n 2, 1), (118, .iload 6, 2), (120, .iload 5, 2), (122, .iload 4, 2), (124, .invokevirtual 83, 3), (127, .iastore, 1), (128, .aload_n 0, 1), (129, .aload_n 3, 1), (130, .invokevirtual 87, 3), (133, .istore 8, 2), (135, .iload 8, 2), (137, .ifCond .ge 5, 3), (140, .iconst 0, 1), (141, .ireturn, 1), (142, .aload_n 3, 1), (143, .iload 8, 2), (145, .iload 4, 2), (147, .invokevirtual 91, 3), (150, .iinc 6 1, 3), (153, .goto (-137), 3), (156, .iconst 1, 1), (157, .ireturn, 1)]
def aj_c129 : List (Nat × Instr × Nat) := [(0, .iconst 0, 1), (1, .istore 4, 2), (3, .iconst 0, 1), (4, .istore 5, 2), (6, .iload 5, 2), (8, .aload_n 0, 1), (9, .getfield 29, 3), (12, .if_icmp .ge 122, 3), (15, .aload_n 0, 1), (16, .iload 5, 2), (18, .iload_n 2, 1), (19, .invokevirtual 64, 3), (22, .ifCond .eq 106, 3), (25, .iload 4, 2), (27, .aload_n 3, 1), (28, .arraylength, 1), (29, .if_icmp .lt 6, 3), (32, .goto 96, 3), (35, .iload 4, 2), (37, .istore 6, 2), (39, .iconst 1, 1), (40, .istore 7, 2), (42, .iload 6, 2), (44, .ifCond .le 35, 3), (47, .aload_n 0, 1), (48, .aload_n 1, 1), (49, .iload 5, 2), (51, .iload_n 2, 1), (52, .aload_n 0, 1), (53, .aload_n 3, 1), (54, .iload 6, 2), (56, .iconst 1, 1), (57, .isub, 1), (58, .iaload, 1), (59, .iload_n 2, 1), (60, .invokevirtual 67, 3), (63, .istore 7, 2), (65, .iload 7, 2), (67, .ifCond .lt 6, 3), (70, .goto 9, 3), (73, .iinc 6 (-1), 3), (76, .goto (-34), 3), (79, .iload 6, 2), (81, .ifCond .le 11, 3), (84, .iload 7, 2), (86, .ifCond .ne 6, 3), (89, .goto 39, 3), (92, .iload 4, 2), (94, .istore 8, 2), (96, .iload 8, 2), (98, .iload 6, 2), (100, .if_icmp .le 19, 3), (103, .aload_n 3, 1), (104, .iload 8, 2), (106, .aload_n 3, 1), (107, .iload 8, 2), (109, .iconst 1, 1), (110, .isub, 1), (111, .iaload, 1), (112, .iastore, 1), (113, .iinc 8 (-1), 3), (116, .goto (-20), 3), (119, .aload_n 3, 1), (120, .iload 6, 2), (122, .iload 5, 2), (124, .iastore, 1), (125, .iinc 4 1, 3), (128, .iinc 5 1, 3), (131, .goto (-125), 3), (134, .iload 4, 2), (136, .ireturn, 1)]
def aj_c130 : List (Nat × Instr × Nat) := [(0, .iconst 0, 1), (1, .istore 7, 2), (3, .iload 7, 2), (5, .aload_n 0, 1), (6, .getfield 25, 3), (9, .if_icmp .ge 54, 3), (12, .aload_n 0, 1), (13, .aload_n 1, 1), (14, .iload_n 2, 1), (15, .iload 7, 2), (17, .iload_n 3, 1), (18, .invokevirtual 60, 3), (21, .istore 8, 2), (23, .aload 4, 2), (25, .aload_n 1, 1), (26, .iload 5, 2), (28, .iload 7, 2), (30, .iload 6, 2), (32, .invokevirtual 60, 3), (35, .istore 9, 2), (37, .iload 8, 2), (39, .iload 9, 2), (41, .if_icmp .eq 16, 3), (44, .iload 8, 2), (46, .iload 9, 2), (48, .if_icmp .ge 7, 3), (51, .iconst (-1), 1), (52, .goto 4, 3), (55, .iconst 1, 1), (56, .ireturn, 1), (57, .iinc 7 1, 3), (60, .goto (-57), 3), (63, .iconst 0, 1), (64, .ireturn, 1)]
def aj_c131 : List (Nat × Instr × Nat) := [(0, .iconst 0, 1), (1, .istore 5, 2), (3, .iload 5, 2), (5, .iload_n 3, 1), (6, .if_icmp .ge 35, 3), (9, .iload 5, 2), (11, .aload_n 0, 1), (12, .getfield 19, 3), (15, .arraylength, 1), (16, .if_icmp .ge 25, 3), (19, .aload_n 0, 1), (20, .aload_n 1, 1), (21, .aload_n 2, 1), (22, .iload 5, 2), (24, .iload_n 3, 1), (25, .iload 4, 2), (27, .invokevirtual 95, 3), (30, .ifCond .eq 5, 3), (33, .iconst 0, 1), (34, .ireturn, 1), (35, .iinc 5 1, 3), (38, .goto (-35), 3), (41, .iconst 1, 1), (42, .ireturn, 1)]
def aj_c132 : List (Nat × Instr × Nat) := [(0, .iload_n 3, 1), (1, .ifCond .lt 27, 3), (4, .iload_n 3, 1), (5, .aload_n 0, 1), (6, .getfield 19, 3), (9, .arraylength, 1), (10, .if_icmp .ge 18, 3), (13, .iload 4, 2), (15, .ifCond .lt 13, 3), (18, .iload 4, 2), (20, .aload_n 0, 1), (21, .getfield 19, 3), (24, .arraylength, 1), (25, .if_icmp .lt 5, 3), (28, .iconst 0, 1), (29, .ireturn, 1), (30, .iconst 0, 1), (31, .istore 6, 2), (33, .iload 6, 2), (35, .aload_n 0, 1), (36, .getfield 29, 3), (39, .if_icmp .ge 65, 3), (42, .iload 6, 2), (44, .aload_n 0, 1), (45, .getfield 11, 3), (48, .arraylength, 1), (49, .if_icmp .ge 55, 3), (52, .aload_n 2, 1), (53, .aload_n 1, 1), (54, .aload_n 0, 1), (55, .getfield 19, 3), (58, .iload_n 3, 1), (59, .iaload, 1), (60, .aload_n 0, 1), (61, .getfield 11, 3), (64, .iload 6, 2), (66, .iaload, 1), (67, .iload 5, 2), (69, .invokevirtual 79, 3), (72, .aload_n 2, 1), (73, .aload_n 1, 1), (74, .aload_n 0, 1), (75, .getfield 19, 3), (78, .iload 4, 2), (80, .iaload, 1), (81, .aload_n 0, 1), (82, .getfield 11, 3), (85, .iload 6, 2), (87, .iaload, 1), (88, .iload 5, 2), (90, .invokevirtual 79, 3), (93, .if_icmp .eq 5, 3), (96, .iconst 0, 1), (97, .ireturn, 1), (98, .iinc 6 1, 3), (101, .goto (-68), 3), (104, .iconst 1, 1), (105, .ireturn, 1)]
def aj_c133 : List (Nat × Instr × Nat) := [(0, .iconst 0, 1), (1, .istore 6, 2), (3, .iload_n 3, 1), (4, .istore 7, 2), (6, .iload 7, 2), (8, .iload 4, 2), (10, .if_icmp .ge 78, 3), (13, .iload 7, 2), (15, .aload_n 0, 1), (16, .getfield 19, 3), (19, .arraylength, 1), (20, .if_icmp .ge 68, 3), (23, .aload_n 0, 1), (24, .aload_n 1, 1), (25, .aload_n 2, 1), (26, .iload_n 3, 1), (27, .iload 7, 2), (29, .iload 5, 2), (31, .invokevirtual 95, 3), (34, .ifCond .eq 48, 3), (37, .aload_n 2, 1), (38, .aload_n 1, 1), (39, .aload_n 0, 1), (40, .getfield 19, 3), (43, .iload 7, 2), (45, .iaload, 1), (46, .aload_n 0, 1), (47, .getfield 99, 3), (50, .iload 5, 2), (52, .invokevirtual 79, 3), (55, .istore 8, 2), (57, .iload 7, 2), (59, .iload_n 3, 1), (60, .if_icmp .ne 12, 3), (63, .aload_n 0, 1), (64, .iload 8, 2), (66, .invokevirtual 102, 3), (69, .goto 11, 3), (72, .aload_n 0, 1), (73, .iload 6, 2), (75, .iload 8, 2), (77, .invokevirtual 106, 3), (80, .istore 6, 2), (82, .iinc 7 1, 3), (85, .goto (-79), 3), (88, .iload 6, 2), (90, .ireturn, 1)]
def aj_c134 : List (Nat × Instr × Nat) := [(0, .aload_n 0, 1), (1, .getfield 109, 3), (4, .bipush 16, 2), (6, .if_icmp .ne 7, 3), (9, .iconst 1, 1), (10, .goto 4, 3), (13, .iload_n 1, 1), (14, .ireturn, 1)]
def aj_c135 : List (Nat × Instr × Nat) := [(0, .aload_n 0, 1), (1, .getfield 109, 3), (4, .tableswitch 44 16 18 #[28, 32, 38], 28), (32, .iload_n 1, 1), (33, .iconst 1, 1), (34, .iadd, 1), (35, .ireturn, 1), (36, .iload_n 1, 1), (37, .iload_n 2, 1), (38, .invokestatic 51, 3), (41, .ireturn, 1), (42, .iload_n 1, 1), (43, .iload_n 2, 1), (44, .invokestatic 114, 3), (47, .ireturn, 1), (48, .iload_n 1, 1), (49, .iload_n 2, 1), (50, .iadd, 1), (51, .ireturn, 1)]
def aj_c136 : List (Nat × Instr × Nat) := [(0, .iconst 0, 1), (1, .istore_n 2, 1), (2, .iload_n 2, 1), (3, .aload_n 1, 1), (4, .getfield 33, 3), (7, .if_icmp .ge 20, 3), (10, .aload_n 0, 1), (11, .aload_n 1, 1), (12, .iload_n 2, 1), (13, .invokevirtual 117, 3), (16, .ifCond .eq 5, 3), (19, .iload_n 2, 1), (20, .ireturn, 1), (21, .iinc 2 1, 3), (24, .goto (-22), 3), (27, .aload_n 1, 1), (28, .getfield 33, 3), (31, .bipush 30, 2), (33, .if_icmp .lt 5, 3), (36, .iconst (-1), 1), (37, .ireturn, 1), (38, .iconst 0, 1), (39, .istore_n 2, 1), (40, .iload_n 2, 1), (41, .aload_n 1, 1), (42, .getfield 48, 3), (45, .if_icmp .ge 34, 3), (48, .iload_n 2, 1), (49, .aload_n 0, 1), (50, .getfield 22, 3), (53, .arraylength, 1), (54, .if_icmp .ge 25, 3), (57, .aload_n 1, 1), (58, .aload_n 1, 1), (59, .getfield 33, 3), (62, .iload_n 2, 1), (63, .iconst 0, 1), (64, .aload_n 0, 1), (65, .getfield 22, 3), (68, .iload_n 2, 1), (69, .iaload, 1), (70, .invokevirtual 44, 3), (73, .iinc 2 1, 3), (76, .goto (-36), 3), (79, .aload_n 1, 1), (80, .dup, 1), (81, .getfield 33, 3), (84, .iconst 1, 1), (85, .iadd, 1), (86, .putfield 33, 3), (89, .aload_n 1, 1), (90, .getfield 33, 3), (93, .iconst 1, 1), (94, .isub, 1), (95, .ireturn, 1)]
def aj_c137 : List (Nat × Instr × Nat) := [(0, .iconst 0, 1), (1, .istore_n 3, 1), (2, .iload_n 3, 1), (3, .aload_n 1, 1), (4, .getfield 48, 3), (7, .if_icmp .ge 35, 3), (10, .iload_n 3, 1), (11, .aload_n 0, 1), (12, .getfield 22, 3), (15, .arraylength, 1), (16, .if_icmp .ge 26, 3), (19, .aload_n 1, 1), (20, .iload_n 2, 1), (21, .iload_n 3, 1), (22, .invokevirtual 36, 3), (25, .aload_n 0, 1), (26, .getfield 22, 3), (29, .iload_n 3, 1), (30, .iaload, 1), (31, .if_icmp .eq 5, 3), (34, .iconst 0, 1), (35, .ireturn, 1), (36, .iinc 3 1, 3), (39, .goto (-37), 3), (42, .iconst 1, 1), (43, .ireturn, 1)]
def aj_c138 : List (Nat × Instr × Nat) := [(0, .iconst 0, 1), (1, .istore_n 2, 1), (2, .iload_n 2, 1), (3, .aload_n 1, 1), (4, .getfield 33, 3), (7, .if_icmp .ge 63, 3), (10, .iload_n 2, 1), (11, .istore_n 3, 1), (12, .iload_n 2, 1), (13, .iconst 1, 1), (14, .iadd, 1), (15, .istore 4, 2), (17, .iload 4, 2), (19, .aload_n 1, 1), (20, .getfield 33, 3), (23, .if_icmp .ge 26, 3), (26, .aload_n 1, 1), (27, .aload_n 0, 1), (28, .iload 4, 2), (30, .iconst 0, 1), (31, .aload_n 1, 1), (32, .iload_n 3, 1), (33, .iconst 0, 1), (34, .invokevirtual 121, 3), (37, .ifCond .ge 6, 3), (40, .iload 4, 2), (42, .istore_n 3, 1), (43, .iinc 4 1, 3), (46, .goto (-29), 3), (49, .iload_n 3, 1), (50, .iload_n 2, 1), (51, .if_icmp .eq 13, 3), (54, .aload_n 1, 1), (55, .iload_n 2, 1), (56, .iload_n 3, 1), (57, .aload_n 0, 1), (58, .getfield 60, 3), (61, .invokevirtual 125, 3), (64, .iinc 2 1, 3), (67, .goto (-65), 3), (70, .return_, 1)]
def aj_c139 : List (Nat × Instr × Nat) := [(0, .iconst 0, 1), (1, .istore 4, 2), (3, .iload 4, 2), (5, .aload_n 0, 1), (6, .getfield 25, 3), (9, .if_icmp .ge 59, 3), (12, .aload_n 0, 1), (13, .iload_n 1, 1), (14, .iload 4, 2), (16, .invokevirtual 52, 3), (19, .istore 5, 2), (21, .aload_n 0, 1), (22, .iload_n 1, 1), (23, .iload 4, 2), (25, .invokevirtual 48, 3), (28, .istore 6, 2), (30, .aload_n 0, 1), (31, .iload_n 1, 1), (32, .iload 4, 2), (34, .aload_n 0, 1), (35, .iload_n 2, 1), (36, .iload 4, 2), (38, .invokevirtual 48, 3), (41, .aload_n 0, 1), (42, .iload_n 2, 1), (43, .iload 4, 2), (45, .invokevirtual 52, 3), (48, .invokevirtual 56, 3), (51, .aload_n 0, 1), (52, .iload_n 2, 1), (53, .iload 4, 2), (55, .iload 6, 2), (57, .iload 5, 2), (59, .invokevirtual 56, 3), (62, .iinc 4 1, 3), (65, .goto (-62), 3), (68, .iconst 0, 1), (69, .istore 4, 2), (71, .iload 4, 2), (73, .iload_n 3, 1), (74, .if_icmp .ge 61, 3), (77, .iload 4, 2), (79, .aload_n 0, 1), (80, .getfield 19, 3), (83, .arraylength, 1), (84, .if_icmp .ge 51, 3), (87, .aload_n 0, 1), (88, .getfield 19, 3), (91, .iload 4, 2), (93, .iaload, 1), (94, .iload_n 1, 1), (95, .ishr, 1), (96, .aload_n 0, 1), (97, .getfield 19, 3), (100, .iload 4, 2), (102, .iaload, 1), (103, .iload_n 2, 1), (104, .ishr, 1), (105, .ixor, 1), (106, .iconst 1, 1), (107, .iand, 1), (108, .istore 5, 2), (110, .aload_n 0, 1), (111, .getfield 19, 3), (114, .iload 4, 2), (116, .dup2, 1), (117, .iaload, 1), (118, .iload 5, 2), (120, .iload_n 1, 1), (121, .ishl, 1), (122, .iload 5, 2), (124, .iload_n 2, 1), (125, .ishl, 1), (126, .ior, 1), (127, .ixor, 1), (128, .iastore, 1), (129, .iinc 4 1, 3), (132, .goto (-61), 3), (135, .return_, 1)]
def aj_c140 : List (Nat × Instr × Nat) := [(0, .iload_n 1, 1), (1, .tableswitch 131 200 207 #[47, 56, 65, 74, 82, 82, 82, 82], 47), (48, .aload_n 0, 1), (49, .iconst 0, 1), (50, .iload_n 2, 1), (51, .invokevirtual 153, 3), (54, .goto 78, 3), (57, .aload_n 0, 1), (58, .iconst 1, 1), (59, .iload_n 2, 1), (60, .invokevirtual 153, 3), (63, .goto 69, 3), (66, .aload_n 0, 1), (67, .iconst 2, 1), (68, .iload_n 2, 1), (69, .invokevirtual 153, 3), (72, .goto 60, 3), (75, .aload_n 0, 1), (76, .iload_n 2, 1), (77, .putfield 156, 3), (80, .goto 52, 3), (83, .iconst 0, 1), (84, .istore_n 3, 1), (85, .iload_n 3, 1), (86, .aload_n 0, 1), (87, .getfield 41, 3), (90, .getfield 127, 3), (93, .if_icmp .ge 36, 3), (96, .iload_n 3, 1), (97, .aload_n 0, 1), (98, .getfield 29, 3), (101, .arraylength, 1), (102, .if_icmp .ge 27, 3), (105, .aload_n 0, 1), (106, .getfield 29, 3), (109, .iload_n 3, 1), (110, .aload_n 0, 1), (111, .iload_n 1, 1), (112, .aload_n 0, 1), (113, .getfield 29, 3), (116, .iload_n 3, 1), (117, .iaload, 1), (118, .iload_n 3, 1), (119, .invokevirtual 159, 3), (122, .iastore, 1), (123, .iinc 3 1, 3), (126, .goto (-41), 3), (129, .goto 3, 3), (132, .return_, 1)]
def aj_c141 : List (Nat × Instr × Nat) := [(0, .aload_n 0, 1), (1, .aload_n 0, 1), (2, .getfield 133, 3), (5, .putfield 163, 3), (8, .aload_n 0, 1), (9, .aload_n 0, 1), (10, .getfield 136, 3), (13, .putfield 166, 3), (16, .aload_n 0, 1), (17, .iload_n 1, 1), (18, .putfield 133, 3), (21, .aload_n 0, 1), (22, .iload_n 2, 1), (23, .putfield 136, 3), (26, .return_, 1)]
def aj_c142 : List (Nat × Instr × Nat) := [(0, .iload_n 1, 1), (1, .tableswitch 48 205 207 #[27, 31, 40], 27), (28, .iload_n 2, 1), (29, .iconst 1, 1), (30, .ixor, 1), (31, .ireturn, 1), (32, .iload_n 2, 1), (33, .iconst 1, 1), (34, .ishr, 1), (35, .iload_n 2, 1), (36, .bipush (-2), 2), (38, .ior, 1), (39, .iand, 1), (40, .ireturn, 1), (41, .iload_n 2, 1), (42, .iconst 1, 1), (43, .ishr, 1), (44, .iload_n 2, 1), (45, .iconst 1, 1), (46, .iand, 1), (47, .ior, 1), (48, .ireturn, 1), (49, .iload_n 2, 1), (50, .iconst 1, 1), (51, .ishl, 1), (52, .aload_n 0, 1), (53, .aload_n 0, 1), (54, .getfield 23, 3), (57, .iconst 0, 1), (58, .iload_n 3, 1), (59, .invokevirtual 169, 3), (62, .ifCond .eq 7, 3), (65, .iconst 1, 1), (66, .goto 4, 3), (69, .iconst 0, 1), (70, .ior, 1), (71, .ireturn, 1)]
def aj_c143 : List (Nat × Instr × Nat) := [(0, .iload_n 1, 1), (1, .tableswitch 199 186 192 #[43, 78, 96, 199, 114, 199, 159], 43), (44, .aload_n 0, 1), (45, .aload_n 0, 1), (46, .getfield 37, 3), (49, .iload_n 2, 1), (50, .invokevirtual 55, 3), (53, .putfield 79, 3), (56, .aload_n 0, 1), (57, .iconst 0, 1), (58, .putfield 82, 3), (61, .aload_n 0, 1), (62, .aload_n 0, 1), (63, .getfield 41, 3), (66, .aload_n 0, 1), (67, .getfield 79, 3), (70, .invokevirtual 85, 3), (73, .invokevirtual 89, 3), (76, .goto 124, 3), (79, .aload_n 0, 1), (80, .aload_n 0, 1), (81, .getfield 41, 3), (84, .aload_n 0, 1), (85, .getfield 79, 3), (88, .invokevirtual 85, 3), (91, .invokevirtual 93, 3), (94, .goto 106, 3), (97, .aload_n 0, 1), (98, .aload_n 0, 1), (99, .getfield 41, 3), (102, .aload_n 0, 1), (103, .getfield 79, 3), (106, .invokevirtual 85, 3), (109, .invokevirtual 96, 3), (112, .goto 88, 3), (115, .aload_n 0, 1), (116, .getfield 41, 3), (119, .aload_n 0, 1), (120, .invokevirtual 99, 3), (123, .aload_n 0, 1), (124, .getfield 41, 3), (127, .getfield 103, 3), (130, .ifCond .ne 70, 3), (133, .aload_n 0, 1), (134, .getfield 37, 3), (137, .bipush 7, 2), (139, .aload_n 0, 1), (140, .getfield 33, 3), (143, .aload_n 0, 1), (144, .getfield 37, 3), (147, .iload_n 2, 1), (148, .invokevirtual 106, 3), (151, .invokevirtual 109, 3), (154, .invokevirtual 114, 3), (157, .goto 43, 3), (160, .aload_n 0, 1), (161, .dup, 1), (162, .getfield 65, 3), (165, .iconst 1, 1), (166, .isub, 1), (167, .putfield 65, 3), (170, .aload_n 0, 1), (171, .aload_n 0, 1), (172, .getfield 41, 3), (175, .aload_n 0, 1), (176, .getfield 37, 3), (179, .iload_n 2, 1), (180, .invokevirtual 55, 3), (183, .invokevirtual 85, 3), (186, .aload_n 0, 1), (187, .aload_n 0, 1), (188, .getfield 65, 3), (191, .invokevirtual 117, 3), (194, .invokevirtual 120, 3), (197, .goto 3, 3), (200, .return_, 1)]
def aj_c144 : List (Nat × Instr × Nat) := [(0, .aload_n 1, 1), (1, .ifnonnull 4, 3), (4, .return_, 1), (5, .aload_n 1, 1), (6, .dup, 1), (7, .getfield 124, 3), (10, .iconst 1, 1), (11, .iadd, 1), (12, .putfield 124, 3), (15, .iconst 0, 1), (16, .istore_n 2, 1), (17, .iload_n 2, 1), (18, .aload_n 0, 1), (19, .getfield 41, 3), (22, .getfield 127, 3), (25, .if_icmp .ge 20, 3), (28, .aload_n 1, 1), (29, .aload_n 1, 1), (30, .getfield 124, 3), (33, .iconst 1, 1), (34, .isub, 1), (35, .iload_n 2, 1), (36, .invokevirtual 130, 3), (39, .iinc 2 1, 3), (42, .goto (-25), 3), (45, .return_, 1)]
def aj_c145 : List (Nat × Instr × Nat) := [(0, .aload_n 1, 1), (1, .ifnull 44, 3), (4, .aload_n 1, 1), (5, .aload_n 1, 1), (6, .getfield 124, 3), (9, .iconst 1, 1), (10, .isub, 1), (11, .aload_n 0, 1), (12, .getfield 82, 3), (15, .aload_n 0, 1), (16, .getfield 133, 3), (19, .iconst 1, 1), (20, .if_icmp .ne 7, 3), (23, .iconst 1, 1), (24, .goto 4, 3), (27, .iconst 0, 1), (28, .aload_n 0, 1), (29, .getfield 136, 3), (32, .invokevirtual 139, 3), (35, .aload_n 0, 1), (36, .dup, 1), (37, .getfield 82, 3), (40, .iconst 1, 1), (41, .iadd, 1), (42, .putfield 82, 3), (45, .return_, 1)]
def aj_c146 : List (Nat × Instr × Nat) := [(0, .aload_n 1, 1), (1, .ifnonnull 4, 3), (4, .return_, 1), (5, .iconst 0, 1), (6, .istore_n 2, 1), (7, .iload_n 2, 1), (8, .aload_n 0, 1), (9, .getfield 41, 3), (12, .getfield 127, 3), (15, .if_icmp .ge 28, 3), (18, .aload_n 0, 1), (19, .iload_n 2, 1), (20, .invokevirtual 143, 3), (23, .ifCond .ne 14, 3), (26, .aload_n 1, 1), (27, .aload_n 1, 1), (28, .getfield 124, 3), (31, .iconst 1, 1), (32, .isub, 1), (33, .iload_n 2, 1), (34, .invokevirtual 147, 3), (37, .iinc 2 1, 3), (40, .goto (-33), 3), (43, .return_, 1)]
def aj_c147 : List (Nat × Instr × Nat) := [(0, .iload_n 1, 1), (1, .ifCond .lt 27, 3), (4, .iload_n 1, 1), (5, .aload_n 0, 1), (6, .getfield 29, 3), (9, .arraylength, 1), (10, .if_icmp .ge 18, 3), (13, .aload_n 0, 1), (14, .getfield 29, 3), (17, .iload_n 1, 1), (18, .iaload, 1), (19, .iconst 1, 1), (20, .iand, 1), (21, .ifCond .eq 7, 3), (24, .iconst 1, 1), (25, .goto 4, 3), (28, .iconst 0, 1), (29, .ireturn, 1)]
def aj_c148 : List (Nat × Instr × Nat) := [(0, .aload_n 0, 1), (1, .getfield 66, 3), (4, .bipush 20, 2), (6, .if_icmp .lt 4, 3), (9, .return_, 1), (10, .iconst 0, 1), (11, .istore_n 2, 1), (12, .iload_n 2, 1), (13, .aload_n 0, 1), (14, .getfield 63, 3), (17, .if_icmp .ge 41, 3), (20, .iload_n 2, 1), (21, .aload_n 0, 1), (22, .getfield 25, 3), (25, .arraylength, 1), (26, .if_icmp .ge 32, 3), (29, .aload_n 1, 1), (30, .iload_n 2, 1), (31, .invokevirtual 108, 3), (34, .ifCond .ne 18, 3), (37, .aload_n 0, 1), (38, .getfield 25, 3), (41, .iload_n 2, 1), (42, .dup2, 1), (43, .iaload, 1), (44, .iconst 1, 1), (45, .aload_n 0, 1), (46, .getfield 66, 3), (49, .ishl, 1), (50, .ior, 1), (51, .iastore, 1), (52, .iinc 2 1, 3), (55, .goto (-43), 3), (58, .aload_n 0, 1), (59, .dup, 1), (60, .getfield 66, 3), (63, .iconst 1, 1), (64, .iadd, 1), (65, .putfield 66, 3), (68, .aload_n 0, 1), (69, .invokevirtual 99, 3), (72, .return_, 1)]
def aj_c149 : List (Nat × Instr × Nat) := [(0, .aload_n 1, 1), (1, .ifnull 8, 3), (4, .aload_n 1, 1), (5, .aload_n 2, 1), (6, .invokevirtual 150, 3), (9, .return_, 1)]
def aj_c150 : List (Nat × Instr × Nat) := [(0, .aload_n 0, 1), (1, .getfield 70, 3), (4, .invokevirtual 245, 3), (7, .aload_n 0, 1), (8, .getfield 77, 3), (11, .invokevirtual 140, 3), (14, .return_, 1)]
def aj_c151 : List (Nat × Instr × Nat) := [(0, .aload_n 0, 1), (1, .iconst (-1), 1), (2, .putfield 9, 3), (5, .return_, 1)]
def aj_c152 : List (Nat × Instr × Nat) := [(0, .aload_n 0, 1), (1, .iconst 0, 1), (2, .putfield 17, 3), (5, .return_, 1)]
def aj_c153 : List (Nat × Instr × Nat) := [(0, .aload_n 0, 1), (1, .getfield 17, 3), (4, .ireturn, 1)]
def aj_c154 : List (Nat × Instr × Nat) := [(0, .aload_n 0, 1), (1, .sipush 138, 3), (4, .aload_n 0, 1), (5, .getfield 23, 3), (8, .invokevirtual 99, 3), (11, .aload_n 0, 1), (12, .invokevirtual 116, 3), (15, .ifCond .ne 5, 3), (18, .iconst (-1), 1), (19, .ireturn, 1), (20, .aload_n 0, 1), (21, .getfield 23, 3), (24, .aload_n 0, 1), (25, .getfield 63, 3), (28, .invokevirtual 120, 3), (31, .ifCond .ne 6, 3), (34, .bipush (-2), 2), (36, .ireturn, 1), (37, .aload_n 0, 1), (38, .getfield 23, 3), (41, .getfield 124, 3), (44, .bipush 8, 2), (46, .if_icmp .lt 6, 3), (49, .bipush (-3), 2), (51, .ireturn, 1), (52, .aload_n 0, 1), (53, .getfield 23, 3), (56, .aload_n 0, 1), (57, .getfield 63, 3), (60, .invokevirtual 127, 3), (63, .aload_n 0, 1), (64, .getfield 23, 3), (67, .dup, 1), (68, .getfield 124, 3), (71, .iconst 1, 1), (72, .iadd, 1), (73, .putfield 124, 3), (76, .aload_n 0, 1), (77, .invokevirtual 113, 3), (80, .aload_n 0, 1), (81, .getfield 23, 3), (84, .getfield 131, 3), (87, .ireturn, 1)]
def aj_c155 : List (Nat × Instr × Nat) := [(0, .aload_n 0, 1), (1, .aload_n 0, 1), (2, .getfield 40, 3), (5, .getfield 103, 3), (8, .ifCond .ne 7, 3), (11, .iconst (-1), 1), (12, .goto 10, 3), (15, .aload_n 0, 1), (16, .getfield 40, 3), (19, .getfield 110, 3), (22, .putfield 17, 3), (25, .aload_n 0, 1), (26, .getfield 40, 3), (29, .getfield 103, 3), (32, .ifCond .eq 5, 3), (35, .iconst 0, 1), (36, .ireturn, 1), (37, .aload_n 0, 1), (38, .getfield 63, 3), (41, .aload_n 0, 1), (42, .getfield 23, 3), (45, .invokevirtual 242, 3), (48, .iconst 1, 1), (49, .ireturn, 1)]
def aj_c156 : List (Nat × Instr × Nat) := [(0, .aload_n 0, 1), (1, .aload_n 1, 1), (2, .putfield 41, 3), (5, .iconst 0, 1), (6, .istore_n 2, 1), (7, .iload_n 2, 1), (8, .aload_n 0, 1), (9, .getfield 37, 3), (12, .getfield 45, 3), (15, .if_icmp .ge 29, 3), (18, .aload_n 0, 1), (19, .aload_n 0, 1), (20, .getfield 37, 3), (23, .iload_n 2, 1), (24, .invokevirtual 51, 3), (27, .aload_n 0, 1), (28, .getfield 37, 3), (31, .iload_n 2, 1), (32, .invokevirtual 55, 3), (35, .invokevirtual 58, 3), (38, .iinc 2 1, 3), (41, .goto (-34), 3), (44, .return_, 1)]
def aj_c157 : List (Nat × Instr × Nat) := [(0, .iconst 0, 1), (1, .istore_n 2, 1), (2, .iconst 0, 1), (3, .istore_n 3, 1), (4, .iload_n 3, 1), (5, .aload_n 0, 1), (6, .getfield 102, 3), (9, .if_icmp .ge 24, 3), (12, .aload_n 1, 1), (13, .aload_n 0, 1), (14, .iload_n 3, 1), (15, .invokevirtual 105, 3), (18, .invokevirtual 108, 3), (21, .ifCond .eq 6, 3), (24, .iinc 2 1, 3), (27, .iinc 3 1, 3), (30, .goto (-26), 3), (33, .iload_n 2, 1), (34, .ireturn, 1)]
def aj_c158 : List (Nat × Instr × Nat) := [(0, .iload_n 1, 1), (1, .ifCond .lt 29, 3), (4, .iload_n 1, 1), (5, .aload_n 0, 1), (6, .getfield 102, 3), (9, .if_icmp .ge 21, 3), (12, .iload_n 1, 1), (13, .aload_n 0, 1), (14, .getfield 28, 3), (17, .arraylength, 1), (18, .if_icmp .ge 12, 3), (21, .aload_n 0, 1), (22, .getfield 28, 3), (25, .iload_n 1, 1), (26, .iaload, 1), (27, .goto 4, 3), (30, .iconst (-1), 1), (31, .ireturn, 1)]
def aj_c159 : List (Nat × Instr × Nat) := [(0, .aload_n 0, 1), (1, .getfield 23, 3), (4, .getfield 124, 3), (7, .ifCond .gt 5, 3), (10, .iconst 0, 1), (11, .ireturn, 1), (12, .aload_n 0, 1), (13, .getfield 23, 3), (16, .dup, 1), (17, .getfield 124, 3), (20, .iconst 1, 1), (21, .isub, 1), (22, .putfield 124, 3), (25, .aload_n 0, 1), (26, .getfield 23, 3), (29, .invokevirtual 134, 3), (32, .aload_n 0, 1), (33, .invokevirtual 113, 3), (36, .iconst 1, 1), (37, .ireturn, 1)]
def aj_c160 : List (Nat × Instr × Nat) := [(0, .aload_n 0, 1), (1, .getfield 66, 3), (4, .ifCond .gt 4, 3), (7, .return_, 1), (8, .aload_n 0, 1), (9, .dup, 1), (10, .getfield 66, 3), (13, .iconst 1, 1), (14, .isub, 1), (15, .putfield 66, 3), (18, .iconst 0, 1), (19, .istore_n 1, 1), (20, .iload_n 1, 1), (21, .aload_n 0, 1), (22, .getfield 63, 3), (25, .if_icmp .ge 35, 3), (28, .iload_n 1, 1), (29, .aload_n 0, 1), (30, .getfield 25, 3), (33, .arraylength, 1), (34, .if_icmp .ge 26, 3), (37, .aload_n 0, 1), (38, .getfield 25, 3), (41, .iload_n 1, 1), (42, .dup2, 1), (43, .iaload, 1), (44, .iconst 1, 1), (45, .aload_n 0, 1), (46, .getfield 66, 3), (49, .ishl, 1), (50, .iconst (-1), 1), (51, .ixor, 1), (52, .iand, 1), (53, .iastore, 1), (54, .iinc 1 1, 3), (57, .goto (-37), 3), (60, .aload_n 0, 1), (61, .invokevirtual 99, 3), (64, .return_, 1)]
def aj_c161 : List (Nat × Instr × Nat) := [(0, .aload_n 0, 1), (1, .sipush 138, 3), (4, .aload_n 0, 1), (5, .getfield 23, 3), (8, .invokevirtual 99, 3), (11, .aload_n 0, 1), (12, .invokevirtual 116, 3), (15, .ifCond .ne 5, 3), (18, .iconst (-1), 1), (19, .ireturn, 1), (20, .aload_n 0, 1), (21, .getfield 23, 3), (24, .aload_n 0, 1), (25, .getfield 63, 3), (28, .invokevirtual 137, 3), (31, .aload_n 0, 1), (32, .getfield 77, 3), (35, .invokevirtual 140, 3), (38, .aload_n 0, 1), (39, .getfield 23, 3), (42, .aload_n 0, 1), (43, .getfield 63, 3), (46, .invokevirtual 120, 3), (49, .ireturn, 1)]
def aj_c162 : List (Nat × Instr × Nat) := [(0, .iconst 0, 1), (1, .istore_n 2, 1), (2, .iload_n 2, 1), (3, .aload_n 0, 1), (4, .getfield 63, 3), (7, .if_icmp .ge 29, 3), (10, .iload_n 2, 1), (11, .aload_n 0, 1), (12, .getfield 31, 3), (15, .arraylength, 1), (16, .if_icmp .ge 20, 3), (19, .aload_n 0, 1), (20, .getfield 31, 3), (23, .iload_n 2, 1), (24, .aload_n 1, 1), (25, .iload_n 2, 1), (26, .invokevirtual 108, 3), (29, .bastore, 1), (30, .iinc 2 1, 3), (33, .goto (-31), 3), (36, .aload_n 0, 1), (37, .iconst 1, 1), (38, .putfield 72, 3), (41, .return_, 1)]
def aj_c163 : List (Nat × Instr × Nat) := [(0, .aload_n 0, 1), (1, .getfield 77, 3), (4, .aload_n 0, 1), (5, .getfield 23, 3), (8, .iload_n 1, 1), (9, .invokevirtual 141, 3), (12, .ireturn, 1)]
def aj_c164 : List (Nat × Instr × Nat) := [(0, .aload_n 0, 1), (1, .getfield 17, 3), (4, .ifCond .ne 13, 3), (7, .aload_n 0, 1), (8, .iconst 1, 1), (9, .putfield 17, 3), (12, .aload_n 0, 1), (13, .aload_n 1, 1), (14, .invokevirtual 21, 3), (17, .iconst 0, 1), (18, .istore_n 3, 1), (19, .iconst 0, 1), (20, .istore 4, 2), (22, .iload 4, 2), (24, .bipush 20, 2), (26, .if_icmp .ge 32, 3), (29, .aload_n 0, 1), (30, .getfield 25, 3), (33, .iload 4, 2), (35, .ishr, 1), (36, .iconst 1, 1), (37, .iand, 1), (38, .ifCond .eq 14, 3), (41, .iload_n 3, 1), (42, .iload_n 2, 1), (43, .if_icmp .ne 6, 3), (46, .iload 4, 2), (48, .ireturn, 1), (49, .iinc 3 1, 3), (52, .iinc 4 1, 3), (55, .goto (-33), 3), (58, .iconst (-1), 1), (59, .ireturn, 1)]
def aj_c165 : List (Nat × Instr × Nat) := [(0, .aload_n 0, 1), (1, .iconst 0, 1), (2, .putfield 25, 3), (5, .aload_n 0, 1), (6, .iconst 0, 1), (7, .putfield 29, 3), (10, .aload_n 1, 1), (11, .getfield 32, 3), (14, .ifCond .ne 4, 3), (17, .return_, 1), (18, .iconst 0, 1), (19, .istore_n 2, 1), (20, .iload_n 2, 1), (21, .aload_n 1, 1), (22, .getfield 35, 3), (25, .if_icmp .ge 35, 3), (28, .aload_n 1, 1), (29, .iload_n 2, 1), (30, .invokevirtual 38, 3), (33, .ifCond .eq 21, 3), (36, .aload_n 1, 1), (37, .iload_n 2, 1), (38, .invokevirtual 42, 3), (41, .ifCond .ne 4, 3), (44, .return_, 1), (45, .aload_n 0, 1), (46, .aload_n 1, 1), (47, .iload_n 2, 1), (48, .invokevirtual 42, 3), (51, .invokevirtual 46, 3), (54, .iinc 2 1, 3), (57, .goto (-37), 3), (60, .iconst 1, 1), (61, .aload_n 1, 1), (62, .getfield 50, 3), (65, .ishl, 1), (66, .iconst 1, 1), (67, .isub, 1), (68, .istore_n 2, 1), (69, .iconst 0, 1), (70, .istore_n 3, 1), (71, .iload_n 3, 1), (72, .bipush 20, 2), (74, .if_icmp .ge 27, 3), (77, .aload_n 0, 1), (78, .getfield 11, 3), (81, .aload_n 0, 1), (82, .getfield 29, 3), (85, .iconst 0, 1), (86, .iload_n 2, 1), (87, .iload_n 3, 1), (88, .iconst 0, 1), (89, .invokestatic 53, 3), (92, .ifCond .ne 9, 3), (95, .iinc 3 1, 3), (98, .goto (-27), 3), (101, .aload_n 0, 1), (102, .iload_n 2, 1), (103, .iload_n 3, 1), (104, .invokevirtual 57, 3), (107, .return_, 1)]
def aj_c166 : List (Nat × Instr × Nat) := [(0, .iload_n 1, 1), (1, .ifCond .lt 25, 3), (4, .iload_n 1, 1), (5, .aload_n 0, 1), (6, .getfield 31, 3), (9, .arraylength, 1), (10, .if_icmp .ge 16, 3), (13, .aload_n 0, 1), (14, .getfield 31, 3), (17, .iload_n 1, 1), (18, .baload, 1), (19, .ifCond .eq 7, 3), (22, .iconst 1, 1), (23, .goto 4, 3), (26, .iconst 0, 1), (27, .ireturn, 1)]
def aj_c167 : List (Nat × Instr × Nat) := [(0, .iload_n 1, 1), (1, .ifCond .lt 21, 3), (4, .iload_n 1, 1), (5, .aload_n 0, 1), (6, .getfield 25, 3), (9, .arraylength, 1), (10, .if_icmp .ge 12, 3), (13, .aload_n 0, 1), (14, .getfield 25, 3), (17, .iload_n 1, 1), (18, .iaload, 1), (19, .goto 4, 3), (22, .iconst 0, 1), (23, .ireturn, 1)]
def aj_c168 : List (Nat × Instr × Nat) := [(0, .iconst 0, 1), (1, .istore_n 2, 1), (2, .iconst 0, 1), (3, .istore_n 3, 1), (4, .iload_n 3, 1), (5, .aload_n 0, 1), (6, .getfield 29, 3), (9, .if_icmp .ge 36, 3), (12, .iload_n 3, 1), (13, .aload_n 0, 1), (14, .getfield 11, 3), (17, .arraylength, 1), (18, .if_icmp .ge 27, 3), (21, .aload_n 0, 1), (22, .getfield 11, 3), (25, .iload_n 3, 1), (26, .iaload, 1), (27, .iload_n 1, 1), (28, .iand, 1), (29, .aload_n 0, 1), (30, .getfield 11, 3), (33, .iload_n 3, 1), (34, .iaload, 1), (35, .if_icmp .ne 4, 3), (38, .return_, 1), (39, .iinc 3 1, 3), (42, .goto (-38), 3), (45, .iconst 0, 1), (46, .istore_n 3, 1), (47, .iload_n 3, 1), (48, .aload_n 0, 1), (49, .getfield 29, 3), (52, .if_icmp .ge 45, 3), (55, .iload_n 3, 1), (56, .aload_n 0, 1), (57, .getfield 11, 3), (60, .arraylength, 1), (61, .if_icmp .ge 36, 3), (64, .aload_n 0, 1), (65, .getfield 11, 3), (68, .iload_n 3, 1), (69, .iaload, 1), (70, .iload_n 1, 1), (71, .iand, 1), (72, .iload_n 1, 1), (73, .if_icmp .eq 18, 3), (76, .aload_n 0, 1), (77, .getfield 11, 3), (80, .iload_n 2, 1), (81, .aload_n 0, 1), (82, .getfield 11, 3), (85, .iload_n 3, 1), (86, .iaload, 1), (87, .iastore, 1), (88, .iinc 2 1, 3), (91, .iinc 3 1, 3), (94, .goto (-47), 3), (97, .iload_n 2, 1), (98, .aload_n 0, 1), (99, .getfield 11, 3), (102, .arraylength, 1), (103, .if_icmp .ge 17, 3), (106, .aload_n 0, 1), (107, .getfield 11, 3), (110, .iload_n 2, 1), (111, .iload_n 1, 1), (112, .iastore, 1), (113, .aload_n 0, 1), (114, .iload_n 2, 1), (115, .iconst 1, 1), (116, .iadd, 1), (117, .putfield 29, 3), (120, .return_, 1)]
def aj_c169 : List (Nat × Instr × Nat) := [(0, .iconst 0, 1), (1, .istore 6, 2), (3, .iconst 0, 1), (4, .istore 7, 2), (6, .iconst (-1), 1), (7, .istore 8, 2), (9, .iconst 0, 1), (10, .istore 9, 2), (12, .iload 9, 2), (14, .iload_n 1, 1), (15, .if_icmp .ge 79, 3), (18, .iload 9, 2), (20, .aload_n 0, 1), (21, .arraylength, 1), (22, .if_icmp .ge 72, 3), (25, .aload_n 0, 1), (26, .iload 9, 2), (28, .iaload, 1), (29, .iload_n 3, 1), (30, .iand, 1), (31, .istore 10, 2), (33, .aload_n 0, 1), (34, .iload 9, 2), (36, .iaload, 1), (37, .iload_n 2, 1), (38, .iand, 1), (39, .ifCond .ne 49, 3), (42, .iload 10, 2), (44, .iload 7, 2), (46, .iand, 1), (47, .ifCond .ne 13, 3), (50, .iload 7, 2), (52, .iload 10, 2), (54, .ior, 1), (55, .istore 7, 2), (57, .iinc 6 1, 3), (60, .iload 8, 2), (62, .iconst (-1), 1), (63, .if_icmp .eq 16, 3), (66, .iload 10, 2), (68, .invokestatic 61, 3), (71, .iload 8, 2), (73, .invokestatic 61, 3), (76, .if_icmp .ge 8, 3), (79, .iload 10, 2), (81, .goto 5, 3), (84, .iload 8, 2), (86, .istore 8, 2), (88, .iinc 9 1, 3), (91, .goto (-79), 3), (94, .iload 8, 2), (96, .iconst (-1), 1), (97, .if_icmp .eq 17, 3), (100, .iload 6, 2), (102, .iload 4, 2), (104, .if_icmp .gt 10, 3), (107, .iload 5, 2), (109, .bipush 20, 2), (111, .if_icmp .le 15, 3), (114, .iload 8, 2), (116, .iconst (-1), 1), (117, .if_icmp .ne 7, 3), (120, .iconst 1, 1), (121, .goto 4, 3), (124, .iconst 0, 1), (125, .ireturn, 1), (126, .iload_n 3, 1), (127, .istore 9, 2), (129, .iconst 0, 1), (130, .istore 10, 2), (132, .iload 10, 2), (134, .bipush 20, 2), (136, .if_icmp .ge 56, 3), (139, .iconst 1, 1), (140, .iload 10, 2), (142, .ishl, 1), (143, .istore 11, 2), (145, .iload 8, 2), (147, .iload 11, 2), (149, .iand, 1), (150, .ifCond .eq 36, 3), (153, .iload 9, 2), (155, .iload 11, 2), (157, .iconst (-1), 1), (158, .ixor, 1), (159, .iand, 1), (160, .istore 9, 2), (162, .aload_n 0, 1), (163, .iload_n 1, 1), (164, .iload_n 2, 1), (165, .iload 11, 2), (167, .ior, 1), (168, .iload 9, 2), (170, .iload 4, 2), (172, .iconst 1, 1), (173, .isub, 1), (174, .iload 5, 2), (176, .iconst 1, 1), (177, .iadd, 1), (178, .invokestatic 53, 3), (181, .ifCond .eq 5, 3), (184, .iconst 1, 1), (185, .ireturn, 1), (186, .iinc 10 1, 3), (189, .goto (-57), 3), (192, .iconst 0, 1), (193, .ireturn, 1)]
def aj_c170 : List (Nat × Instr × Nat) := [(0, .iload_n 0, 1), (1, .iload_n 0, 1), (2, .iconst 1, 1), (3, .iushr, 1), (4, .ldc_w 265, 3), (7, .iand, 1), (8, .isub, 1), (9, .istore_n 0, 1), (10, .iload_n 0, 1), (11, .ldc_w 266, 3), (14, .iand, 1), (15, .iload_n 0, 1), (16, .iconst 2, 1), (17, .iushr, 1), (18, .ldc_w 266, 3), (21, .iand, 1), (22, .iadd, 1), (23, .istore_n 0, 1), (24, .iload_n 0, 1), (25, .iload_n 0, 1), (26, .iconst 4, 1), (27, .iushr, 1), (28, .iadd, 1), (29, .ldc_w 267, 3), (32, .iand, 1), (33, .istore_n 0, 1), (34, .iload_n 0, 1), (35, .iload_n 0, 1), (36, .bipush 8, 2), (38, .iushr, 1), (39, .iadd, 1), (40, .istore_n 0, 1), (41, .iload_n 0, 1), (42, .iload_n 0, 1), (43, .bipush 16, 2), (45, .iushr, 1), (46, .iadd, 1), (47, .istore_n 0, 1), (48, .iload_n 0, 1), (49, .bipush 63, 2), (51, .iand, 1), (52, .ireturn, 1)]
def aj_c171 : List (Nat × Instr × Nat) := [(0, .iload_n 2, 1), (1, .istore_n 3, 1), (2, .iconst 0, 1), (3, .istore 4, 2), (5, .iload 4, 2), (7, .bipush 20, 2), (9, .if_icmp .ge 80, 3), (12, .iload_n 3, 1), (13, .ifCond .le 76, 3), (16, .iconst 1, 1), (17, .iload 4, 2), (19, .ishl, 1), (20, .istore 5, 2), (22, .iload_n 1, 1), (23, .iload 5, 2), (25, .iload 5, 2), (27, .iconst 1, 1), (28, .isub, 1), (29, .ior, 1), (30, .iconst (-1), 1), (31, .ixor, 1), (32, .iand, 1), (33, .istore 6, 2), (35, .iload_n 1, 1), (36, .iload 5, 2), (38, .iand, 1), (39, .ifCond .eq 44, 3), (42, .aload_n 0, 1), (43, .getfield 11, 3), (46, .aload_n 0, 1), (47, .getfield 29, 3), (50, .aload_n 0, 1), (51, .getfield 25, 3), (54, .iload 5, 2), (56, .ior, 1), (57, .iload 6, 2), (59, .iload_n 3, 1), (60, .iconst 1, 1), (61, .isub, 1), (62, .iconst 0, 1), (63, .invokestatic 53, 3), (66, .ifCond .eq 17, 3), (69, .aload_n 0, 1), (70, .dup, 1), (71, .getfield 25, 3), (74, .iload 5, 2), (76, .ior, 1), (77, .putfield 25, 3), (80, .iinc 3 (-1), 3), (83, .iinc 4 1, 3), (86, .goto (-81), 3), (89, .return_, 1)]
def aj_c172 : List (Nat × Instr × Nat) := [(0, .aload_n 0, 1), (1, .getfield 23, 3), (4, .iload_n 1, 1), (5, .invokevirtual 145, 3), (8, .istore_n 3, 1), (9, .iload_n 3, 1), (10, .ifCond .lt 18, 3), (13, .iload_n 2, 1), (14, .ifCond .lt 14, 3), (17, .iload_n 2, 1), (18, .aload_n 0, 1), (19, .getfield 23, 3), (22, .getfield 149, 3), (25, .if_icmp .lt 6, 3), (28, .ldc 152, 2), (30, .ireturn, 1), (31, .aload_n 0, 1), (32, .getfield 23, 3), (35, .iload_n 3, 1), (36, .iload_n 2, 1), (37, .invokevirtual 153, 3), (40, .ireturn, 1)]
def aj_c173 : List (Nat × Instr × Nat) := [(0, .aload_n 0, 1), (1, .getfield 23, 3), (4, .iload_n 1, 1), (5, .invokevirtual 157, 3), (8, .astore_n 3, 1), (9, .aload_n 3, 1), (10, .ifnonnull 5, 3), (13, .iconst (-1), 1), (14, .ireturn, 1), (15, .iload_n 2, 1), (16, .tableswitch 136 0 6 #[44, 49, 54, 71, 71, 71, 71], 44), (60, .aload_n 3, 1), (61, .getfield 161, 3), (64, .ireturn, 1), (65, .aload_n 3, 1), (66, .getfield 164, 3), (69, .ireturn, 1), (70, .aload_n 0, 1), (71, .getfield 23, 3), (74, .iload_n 1, 1), (75, .invokevirtual 167, 3), (78, .ifCond .eq 7, 3), (81, .iconst 1, 1), (82, .goto 4, 3), (85, .iconst 0, 1), (86, .ireturn, 1), (87, .aload_n 0, 1), (88, .getfield 70, 3), (91, .aload_n 0, 1), (92, .getfield 23, 3), (95, .iload_n 1, 1), (96, .invokevirtual 171, 3), (99, .iload_n 2, 1), (100, .iconst 3, 1), (101, .if_icmp .ne 13, 3), (104, .aload_n 0, 1), (105, .getfield 70, 3), (108, .getfield 175, 3), (111, .goto 40, 3), (114, .iload_n 2, 1), (115, .iconst 4, 1), (116, .if_icmp .ne 13, 3), (119, .aload_n 0, 1), (120, .getfield 70, 3), (123, .getfield 178, 3), (126, .goto 25, 3), (129, .iload_n 2, 1), (130, .iconst 5, 1), (131, .if_icmp .ne 13, 3), (134, .aload_n 0, 1), (135, .getfield 70, 3), (138, .getfield 181, 3), (141, .goto 10, 3), (144, .aload_n 0, 1), (145, .getfield 70, 3), (148, .getfield 184, 3), (151, .ireturn, 1), (152, .iconst (-1), 1), (153, .ireturn, 1)]
def aj_c174 : List (Nat × Instr × Nat) := [(0, .aload_n 1, 1), (1, .iload_n 2, 1), (2, .invokevirtual 45, 3), (5, .astore_n 3, 1), (6, .iload_n 2, 1), (7, .aload_n 0, 1), (8, .getfield 9, 3), (11, .if_icmp .eq 7, 3), (14, .aload_n 3, 1), (15, .ifnonnull 4, 3), (18, .return_, 1), (19, .aload_n 0, 1), (20, .iload_n 2, 1), (21, .putfield 9, 3), (24, .aload_n 0, 1), (25, .aload_n 1, 1), (26, .aload_n 3, 1), (27, .invokevirtual 49, 3), (30, .iconst 0, 1), (31, .istore 4, 2), (33, .iload 4, 2), (35, .sipush 1024, 3), (38, .if_icmp .ge 23, 3), (41, .aload_n 0, 1), (42, .getfield 53, 3), (45, .iconst 1, 1), (46, .if_icmp .le 15, 3), (49, .aload_n 0, 1), (50, .aload_n 1, 1), (51, .aload_n 3, 1), (52, .invokevirtual 56, 3), (55, .iinc 4 1, 3), (58, .goto (-25), 3), (61, .aload_n 0, 1), (62, .aload_n 1, 1), (63, .getfield 59, 3), (66, .invokevirtual 62, 3), (69, .return_, 1)]
def aj_c175 : List (Nat × Instr × Nat) := [(0, .aload_n 0, 1), (1, .iconst 0, 1), (2, .putfield 35, 3), (5, .aload_n 0, 1), (6, .iconst 0, 1), (7, .putfield 53, 3), (10, .aload_n 0, 1), (11, .bipush 30, 2), (13, .putfield 66, 3), (16, .aload_n 0, 1), (17, .iconst 0, 1), (18, .putfield 69, 3), (21, .iconst 0, 1), (22, .istore_n 3, 1), (23, .iload_n 3, 1), (24, .aload_n 1, 1), (25, .getfield 59, 3), (28, .if_icmp .ge 164, 3), (31, .aload_n 1, 1), (32, .iload_n 3, 1), (33, .invokevirtual 72, 3), (36, .istore 4, 2), (38, .aload_n 2, 1), (39, .aload_n 1, 1), (40, .iload 4, 2), (42, .aload_n 0, 1), (43, .getfield 32, 3), (46, .invokevirtual 75, 3), (49, .istore 5, 2), (51, .aload_n 0, 1), (52, .aload_n 0, 1), (53, .getfield 66, 3), (56, .iload 5, 2), (58, .invokestatic 79, 3), (61, .putfield 66, 3), (64, .aload_n 0, 1), (65, .aload_n 0, 1), (66, .getfield 69, 3), (69, .iload 5, 2), (71, .invokestatic 85, 3), (74, .putfield 69, 3), (77, .aload_n 0, 1), (78, .aload_n 0, 1), (79, .getfield 35, 3), (82, .iload 5, 2), (84, .iadd, 1), (85, .invokevirtual 88, 3), (88, .iconst 0, 1), (89, .istore 6, 2), (91, .iload 6, 2), (93, .iload 5, 2), (95, .if_icmp .ge 56, 3), (98, .iload 6, 2), (100, .aload_n 0, 1), (101, .getfield 32, 3), (104, .arraylength, 1), (105, .if_icmp .ge 46, 3), (108, .aload_n 0, 1), (109, .getfield 15, 3), (112, .aload_n 0, 1), (113, .getfield 35, 3), (116, .ldc 91, 2), (118, .aload_n 0, 1), (119, .getfield 32, 3), (122, .iload 6, 2), (124, .iaload, 1), (125, .bipush 10, 2), (127, .ishl, 1), (128, .ior, 1), (129, .iload 4, 2), (131, .ior, 1), (132, .invokestatic 92, 3), (135, .aload_n 0, 1), (136, .dup, 1), (137, .getfield 35, 3), (140, .iconst 1, 1), (141, .iadd, 1), (142, .putfield 35, 3), (145, .iinc 6 1, 3), (148, .goto (-57), 3), (151, .aload_n 0, 1), (152, .getfield 53, 3), (155, .aload_n 0, 1), (156, .getfield 24, 3), (159, .arraylength, 1), (160, .if_icmp .ge 26, 3), (163, .aload_n 0, 1), (164, .getfield 24, 3), (167, .aload_n 0, 1), (168, .getfield 53, 3), (171, .aload_n 0, 1), (172, .getfield 35, 3), (175, .iastore, 1), (176, .aload_n 0, 1), (177, .dup, 1), (178, .getfield 53, 3), (181, .iconst 1, 1), (182, .iadd, 1), (183, .putfield 53, 3), (186, .iinc 3 1, 3), (189, .goto (-166), 3), (192, .return_, 1)]
def aj_c176 : List (Nat × Instr × Nat) := [(0, .aload_n 0, 1), (1, .getfield 15, 3), (4, .arraylength, 1), (5, .istore_n 2, 1), (6, .iconst 0, 1), (7, .istore_n 3, 1), (8, .iload_n 3, 1), (9, .bipush 16, 2), (11, .if_icmp .ge 18, 3), (14, .iload_n 2, 1), (15, .iload_n 1, 1), (16, .if_icmp .ge 13, 3), (19, .iload_n 2, 1), (20, .iconst 2, 1), (21, .imul, 1), (22, .istore_n 2, 1), (23, .iinc 3 1, 3), (26, .goto (-18), 3), (29, .iload_n 2, 1), (30, .aload_n 0, 1), (31, .getfield 15, 3), (34, .arraylength, 1), (35, .if_icmp .le 22, 3), (38, .aload_n 0, 1), (39, .aload_n 0, 1), (40, .getfield 15, 3), (43, .iload_n 2, 1), (44, .invokestatic 96, 3), (47, .putfield 15, 3), (50, .aload_n 0, 1), (51, .iload_n 2, 1), (52, .newarray .int, 2), (54, .putfield 19, 3), (57, .return_, 1)]
def aj_c177 : List (Nat × Instr × Nat) := [(0, .iload_n 1, 1), (1, .aload_n 0, 1), (2, .arraylength, 1), (3, .if_icmp .ne 11, 3), (6, .aload_n 0, 1), (7, .invokevirtual 316, 3), (10, .checkcast 317, 3), (13, .areturn, 1), (14, .iload_n 1, 1), (15, .newarray .int, 2), (17, .astore_n 2, 1), (18, .aload_n 0, 1), (19, .iconst 0, 1), (20, .aload_n 2, 1), (21, .iconst 0, 1), (22, .aload_n 0, 1), (23, .arraylength, 1), (24, .iload_n 1, 1), (25, .invokestatic 304, 3), (28, .invokestatic 150, 3), (31, .aload_n 2, 1), (32, .areturn, 1)]
def aj_c178 : List (Nat × Instr × Nat) := [(0, .iload_n 1, 1), (1, .ifCond .lt 13, 3), (4, .iload_n 1, 1), (5, .aload_n 0, 1), (6, .arraylength, 1), (7, .if_icmp .ge 7, 3), (10, .aload_n 0, 1), (11, .iload_n 1, 1), (12, .iload_n 2, 1), (13, .iastore, 1), (14, .return_, 1)]
def aj_c179 : List (Nat × Instr × Nat) := [(0, .iconst 0, 1), (1, .istore_n 3, 1), (2, .iconst 0, 1), (3, .istore 4, 2), (5, .iconst 0, 1), (6, .istore 5, 2), (8, .iconst 0, 1), (9, .istore 6, 2), (11, .iload 6, 2), (13, .aload_n 0, 1), (14, .getfield 53, 3), (17, .if_icmp .ge 97, 3), (20, .iload 6, 2), (22, .aload_n 0, 1), (23, .getfield 24, 3), (26, .arraylength, 1), (27, .if_icmp .ge 87, 3), (30, .aload_n 0, 1), (31, .getfield 24, 3), (34, .iload 6, 2), (36, .iaload, 1), (37, .istore 7, 2), (39, .iload 6, 2), (41, .iconst 1, 1), (42, .iadd, 1), (43, .aload_n 0, 1), (44, .getfield 53, 3), (47, .if_icmp .ge 27, 3), (50, .iload 6, 2), (52, .iconst 1, 1), (53, .iadd, 1), (54, .aload_n 0, 1), (55, .getfield 24, 3), (58, .arraylength, 1), (59, .if_icmp .ge 15, 3), (62, .aload_n 0, 1), (63, .getfield 24, 3), (66, .iload 6, 2), (68, .iconst 1, 1), (69, .iadd, 1), (70, .iaload, 1), (71, .goto 5, 3), (74, .iload 7, 2), (76, .istore 8, 2), (78, .aload_n 0, 1), (79, .aload_n 1, 1), (80, .aload_n 2, 1), (81, .iload_n 3, 1), (82, .iload 7, 2), (84, .iload 8, 2), (86, .iload 4, 2), (88, .invokevirtual 102, 3), (91, .istore 4, 2), (93, .iload 8, 2), (95, .istore_n 3, 1), (96, .aload_n 0, 1), (97, .getfield 24, 3), (100, .iload 5, 2), (102, .iload 4, 2), (104, .iastore, 1), (105, .iinc 5 1, 3), (108, .iinc 6 2, 3), (111, .goto (-100), 3), (114, .aload_n 0, 1), (115, .iload 5, 2), (117, .putfield 53, 3), (120, .aload_n 0, 1), (121, .iload 4, 2), (123, .putfield 35, 3), (126, .aload_n 0, 1), (127, .getfield 15, 3), (130, .astore 6, 2), (132, .aload_n 0, 1), (133, .aload_n 0, 1), (134, .getfield 19, 3), (137, .putfield 15, 3), (140, .aload_n 0, 1), (141, .aload 6, 2), (143, .putfield 19, 3), (146, .return_, 1)]
def aj_c180 : List (Nat × Instr × Nat) := [(0, .iload_n 3, 1), (1, .istore 7, 2), (3, .iload 4, 2), (5, .istore 8, 2), (7, .iload 6, 2), (9, .istore 9, 2), (11, .iload 7, 2), (13, .iload 4, 2), (15, .if_icmp .lt 10, 3), (18, .iload 8, 2), (20, .iload 5, 2), (22, .if_icmp .ge 149, 3), (25, .aload_n 0, 1), (26, .iload 7, 2), (28, .invokevirtual 41, 3), (31, .istore 10, 2), (33, .aload_n 0, 1), (34, .iload 8, 2), (36, .invokevirtual 41, 3), (39, .istore 11, 2), (41, .iload 7, 2), (43, .iload 4, 2), (45, .if_icmp .lt 7, 3), (48, .iconst 1, 1), (49, .goto 40, 3), (52, .iload 8, 2), (54, .iload 5, 2), (56, .if_icmp .lt 7, 3), (59, .iconst (-1), 1), (60, .goto 29, 3), (63, .aload_n 2, 1), (64, .aload_n 1, 1), (65, .iload 10, 2), (67, .invokestatic 106, 3), (70, .iload 10, 2), (72, .invokestatic 109, 3), (75, .aload_n 2, 1), (76, .iload 11, 2), (78, .invokestatic 106, 3), (81, .iload 11, 2), (83, .invokestatic 109, 3), (86, .invokevirtual 112, 3), (89, .istore 12, 2), (91, .iload 12, 2), (93, .ifCond .ge 8, 3), (96, .iload 10, 2), (98, .goto 24, 3), (101, .iload 12, 2), (103, .ifCond .le 8, 3), (106, .iload 11, 2), (108, .goto 14, 3), (111, .iload 10, 2), (113, .iload 11, 2), (115, .invokestatic 116, 3), (118, .ldc 91, 2), (120, .imul, 1), (121, .iadd, 1), (122, .istore 13, 2), (124, .aload_n 0, 1), (125, .getfield 19, 3), (128, .iload 9, 2), (130, .iload 13, 2), (132, .invokestatic 92, 3), (135, .iinc 9 1, 3), (138, .iload 7, 2), (140, .iload 12, 2), (142, .ifCond .gt 7, 3), (145, .iconst 1, 1), (146, .goto 4, 3), (149, .iconst 0, 1), (150, .iadd, 1), (151, .istore 7, 2), (153, .iload 8, 2), (155, .iload 12, 2), (157, .ifCond .lt 7, 3), (160, .iconst 1, 1), (161, .goto 4, 3), (164, .iconst 0, 1), (165, .iadd, 1), (166, .istore 8, 2), (168, .goto (-157), 3), (171, .iload 9, 2), (173, .ireturn, 1)]
def aj_c181 : List (Nat × Instr × Nat) := [(0, .iload_n 1, 1), (1, .ifCond .lt 29, 3), (4, .iload_n 1, 1), (5, .aload_n 0, 1), (6, .getfield 35, 3), (9, .if_icmp .ge 21, 3), (12, .iload_n 1, 1), (13, .aload_n 0, 1), (14, .getfield 15, 3), (17, .arraylength, 1), (18, .if_icmp .ge 12, 3), (21, .aload_n 0, 1), (22, .getfield 15, 3), (25, .iload_n 1, 1), (26, .iaload, 1), (27, .goto 4, 3), (30, .iconst (-1), 1), (31, .ireturn, 1)]
def aj_c182 : List (Nat × Instr × Nat) := [(0, .iload_n 0, 1), (1, .bipush 10, 2), (3, .ishr, 1), (4, .bipush 31, 2), (6, .iand, 1), (7, .ireturn, 1)]
def aj_c183 : List (Nat × Instr × Nat) := [(0, .iload_n 0, 1), (1, .sipush 1023, 3), (4, .iand, 1), (5, .ireturn, 1)]
def aj_c184 : List (Nat × Instr × Nat) := [(0, .iload_n 0, 1), (1, .bipush 15, 2), (3, .ishr, 1), (4, .ireturn, 1)]
def aj_c185 : List (Nat × Instr × Nat) := [(0, .aload_n 0, 1), (1, .iconst 0, 1), (2, .putfield 38, 3), (5, .iconst 0, 1), (6, .istore_n 2, 1), (7, .iload_n 2, 1), (8, .aload_n 0, 1), (9, .getfield 35, 3), (12, .if_icmp .ge 53, 3), (15, .aload_n 0, 1), (16, .iload_n 2, 1), (17, .invokevirtual 41, 3), (20, .invokestatic 116, 3), (23, .iload_n 1, 1), (24, .if_icmp .ne 35, 3), (27, .aload_n 0, 1), (28, .getfield 38, 3), (31, .aload_n 0, 1), (32, .getfield 29, 3), (35, .arraylength, 1), (36, .if_icmp .ge 23, 3), (39, .aload_n 0, 1), (40, .getfield 29, 3), (43, .aload_n 0, 1), (44, .getfield 38, 3), (47, .iload_n 2, 1), (48, .iastore, 1), (49, .aload_n 0, 1), (50, .dup, 1), (51, .getfield 38, 3), (54, .iconst 1, 1), (55, .iadd, 1), (56, .putfield 38, 3), (59, .iinc 2 1, 3), (62, .goto (-55), 3), (65, .return_, 1)]
def aj_c186 : List (Nat × Instr × Nat) := [(0, .aload_n 0, 1), (1, .getfield 23, 3), (4, .iload_n 1, 1), (5, .invokevirtual 157, 3), (8, .astore 5, 2), (10, .aload 5, 2), (12, .ifnull 29, 3), (15, .iload_n 2, 1), (16, .ifCond .lt 25, 3), (19, .iload_n 2, 1), (20, .aload 5, 2), (22, .getfield 161, 3), (25, .if_icmp .ge 16, 3), (28, .iload_n 3, 1), (29, .ifCond .lt 12, 3), (32, .iload_n 3, 1), (33, .aload 5, 2), (35, .getfield 164, 3), (38, .if_icmp .lt 6, 3), (41, .ldc 152, 2), (43, .ireturn, 1), (44, .iload 4, 2), (46, .lookupswitch 50 #[(0, 26), (1, 42)], 26), (72, .aload 5, 2), (74, .iload_n 2, 1), (75, .iload_n 3, 1), (76, .invokevirtual 187, 3), (79, .ifCond .eq 7, 3), (82, .iconst 1, 1), (83, .goto 4, 3), (86, .iconst 0, 1), (87, .ireturn, 1), (88, .aload 5, 2), (90, .iload_n 2, 1), (91, .iload_n 3, 1), (92, .invokevirtual 191, 3), (95, .ireturn, 1), (96, .ldc 152, 2), (98, .ireturn, 1)]
def aj_c187 : List (Nat × Instr × Nat) := [(0, .aload_n 0, 1), (1, .getfield 23, 3), (4, .iload_n 1, 1), (5, .invokevirtual 157, 3), (8, .astore_n 3, 1), (9, .aload_n 3, 1), (10, .ifnull 15, 3), (13, .iload_n 2, 1), (14, .ifCond .lt 11, 3), (17, .iload_n 2, 1), (18, .aload_n 3, 1), (19, .getfield 161, 3), (22, .if_icmp .lt 5, 3), (25, .iconst (-1), 1), (26, .ireturn, 1), (27, .iconst 0, 1), (28, .istore 4, 2), (30, .iconst 0, 1), (31, .istore 5, 2), (33, .iload 5, 2), (35, .aload_n 0, 1), (36, .getfield 23, 3), (39, .getfield 131, 3), (42, .if_icmp .ge 29, 3), (45, .aload_n 3, 1), (46, .iload_n 2, 1), (47, .aload_n 0, 1), (48, .getfield 23, 3), (51, .iload 5, 2), (53, .invokevirtual 145, 3), (56, .invokevirtual 194, 3), (59, .ifCond .eq 6, 3), (62, .iinc 4 1, 3), (65, .iinc 5 1, 3), (68, .goto (-35), 3), (71, .iload 4, 2), (73, .ireturn, 1)]
def aj_c188 : List (Nat × Instr × Nat) := [(0, .aload_n 0, 1), (1, .getfield 23, 3), (4, .iload_n 1, 1), (5, .invokevirtual 157, 3), (8, .astore 4, 2), (10, .aload_n 0, 1), (11, .getfield 23, 3), (14, .iload_n 3, 1), (15, .invokevirtual 145, 3), (18, .istore 5, 2), (20, .aload 4, 2), (22, .ifnull 36, 3), (25, .iload 5, 2), (27, .ifCond .lt 31, 3), (30, .iload_n 2, 1), (31, .ifCond .lt 27, 3), (34, .iload_n 2, 1), (35, .aload 4, 2), (37, .getfield 161, 3), (40, .if_icmp .ge 18, 3), (43, .aload 4, 2), (45, .iload_n 2, 1), (46, .iload 5, 2), (48, .invokevirtual 194, 3), (51, .ifCond .eq 7, 3), (54, .iconst 1, 1), (55, .goto 4, 3), (58, .iconst 0, 1), (59, .ireturn, 1)]
def aj_c189 : List (Nat × Instr × Nat) := [(0, .aload_n 0, 1), (1, .getfield 23, 3), (4, .iload_n 1, 1), (5, .invokevirtual 157, 3), (8, .astore_n 3, 1), (9, .aload_n 0, 1), (10, .getfield 23, 3), (13, .iload_n 2, 1), (14, .invokevirtual 145, 3), (17, .istore 4, 2), (19, .aload_n 3, 1), (20, .ifnull 8, 3), (23, .iload 4, 2), (25, .ifCond .ge 5, 3), (28, .iconst (-1), 1), (29, .ireturn, 1), (30, .aload_n 3, 1), (31, .aload_n 0, 1), (32, .getfield 23, 3), (35, .iload 4, 2), (37, .aload_n 0, 1), (38, .getfield 83, 3), (41, .invokevirtual 197, 3), (44, .ireturn, 1)]
def aj_c190 : List (Nat × Instr × Nat) := [(0, .aload_n 0, 1), (1, .getfield 23, 3), (4, .iload_n 1, 1), (5, .invokevirtual 157, 3), (8, .astore 5, 2), (10, .aload_n 0, 1), (11, .getfield 23, 3), (14, .iload_n 2, 1), (15, .invokevirtual 145, 3), (18, .istore 6, 2), (20, .aload 5, 2), (22, .ifnull 23, 3), (25, .iload 6, 2), (27, .ifCond .lt 18, 3), (30, .iload 4, 2), (32, .ifCond .lt 13, 3), (35, .iload 4, 2), (37, .aload 5, 2), (39, .getfield 164, 3), (42, .if_icmp .lt 6, 3), (45, .ldc 152, 2), (47, .ireturn, 1), (48, .aload 5, 2), (50, .aload_n 0, 1), (51, .getfield 23, 3), (54, .iload 6, 2), (56, .aload_n 0, 1), (57, .getfield 83, 3), (60, .invokevirtual 197, 3), (63, .istore 7, 2), (65, .iload_n 3, 1), (66, .ifCond .lt 18, 3), (69, .iload_n 3, 1), (70, .iload 7, 2), (72, .if_icmp .ge 12, 3), (75, .iload_n 3, 1), (76, .aload_n 0, 1), (77, .getfield 83, 3), (80, .arraylength, 1), (81, .if_icmp .lt 6, 3), (84, .ldc 152, 2), (86, .ireturn, 1), (87, .aload 5, 2), (89, .aload_n 0, 1), (90, .getfield 23, 3), (93, .aload_n 0, 1), (94, .getfield 83, 3), (97, .iload_n 3, 1), (98, .iaload, 1), (99, .iload 4, 2), (101, .iload 6, 2), (103, .invokevirtual 201, 3), (106, .ireturn, 1)]
def aj_c191 : List (Nat × Instr × Nat) := [(0, .aload_n 0, 1), (1, .getfield 23, 3), (4, .iload_n 1, 1), (5, .invokevirtual 157, 3), (8, .ifnonnull 6, 3), (11, .ldc 152, 2), (13, .ireturn, 1), (14, .aload_n 0, 1), (15, .getfield 70, 3), (18, .aload_n 0, 1), (19, .getfield 23, 3), (22, .iload_n 1, 1), (23, .invokevirtual 171, 3), (26, .aload_n 0, 1), (27, .aload_n 0, 1), (28, .getfield 23, 3), (31, .iload_n 1, 1), (32, .invokevirtual 157, 3), (35, .aload_n 0, 1), (36, .getfield 70, 3), (39, .iload_n 2, 1), (40, .invokevirtual 205, 3), (43, .iload_n 3, 1), (44, .invokevirtual 208, 3), (47, .ireturn, 1)]
def aj_c192 : List (Nat × Instr × Nat) := [(0, .iload_n 1, 1), (1, .ifCond .lt 33, 3), (4, .iload_n 1, 1), (5, .aload_n 0, 1), (6, .getfield 38, 3), (9, .if_icmp .ge 25, 3), (12, .iload_n 1, 1), (13, .aload_n 0, 1), (14, .getfield 29, 3), (17, .arraylength, 1), (18, .if_icmp .ge 16, 3), (21, .aload_n 0, 1), (22, .aload_n 0, 1), (23, .getfield 29, 3), (26, .iload_n 1, 1), (27, .iaload, 1), (28, .invokevirtual 41, 3), (31, .goto 4, 3), (34, .iconst (-1), 1), (35, .ireturn, 1)]
def aj_c193 : List (Nat × Instr × Nat) := [(0, .aload_n 1, 1), (1, .ifnull 19, 3), (4, .iload_n 2, 1), (5, .ifCond .lt 15, 3), (8, .iload_n 3, 1), (9, .ifCond .lt 11, 3), (12, .iload_n 3, 1), (13, .aload_n 1, 1), (14, .getfield 164, 3), (17, .if_icmp .lt 6, 3), (20, .ldc 152, 2), (22, .ireturn, 1), (23, .aload_n 1, 1), (24, .aload_n 0, 1), (25, .getfield 23, 3), (28, .iload_n 2, 1), (29, .invokestatic 246, 3), (32, .iload_n 3, 1), (33, .iload_n 2, 1), (34, .invokestatic 249, 3), (37, .invokevirtual 201, 3), (40, .ireturn, 1)]
def aj_c194 : List (Nat × Instr × Nat) := [(0, .aload_n 0, 1), (1, .getfield 23, 3), (4, .iload_n 1, 1), (5, .invokevirtual 157, 3), (8, .ifnonnull 6, 3), (11, .ldc 152, 2), (13, .ireturn, 1), (14, .aload_n 0, 1), (15, .getfield 70, 3), (18, .aload_n 0, 1), (19, .getfield 23, 3), (22, .iload_n 1, 1), (23, .invokevirtual 171, 3), (26, .aload_n 0, 1), (27, .aload_n 0, 1), (28, .getfield 23, 3), (31, .iload_n 1, 1), (32, .invokevirtual 157, 3), (35, .aload_n 0, 1), (36, .getfield 70, 3), (39, .iload_n 2, 1), (40, .invokevirtual 212, 3), (43, .iload_n 3, 1), (44, .invokevirtual 208, 3), (47, .ireturn, 1)]
def aj_c195 : List (Nat × Instr × Nat) := [(0, .aload_n 0, 1), (1, .getfield 23, 3), (4, .iload_n 1, 1), (5, .invokevirtual 157, 3), (8, .ifnonnull 5, 3), (11, .iconst (-1), 1), (12, .ireturn, 1), (13, .aload_n 0, 1), (14, .getfield 70, 3), (17, .aload_n 0, 1), (18, .getfield 23, 3), (21, .iload_n 1, 1), (22, .invokevirtual 171, 3), (25, .aload_n 0, 1), (26, .getfield 70, 3), (29, .iload_n 2, 1), (30, .invokevirtual 212, 3), (33, .istore_n 3, 1), (34, .iload_n 3, 1), (35, .ifCond .ge 7, 3), (38, .iconst (-1), 1), (39, .goto 7, 3), (42, .iload_n 3, 1), (43, .invokestatic 215, 3), (46, .ireturn, 1)]
def aj_c196 : List (Nat × Instr × Nat) := [(0, .aload_n 0, 1), (1, .getfield 23, 3), (4, .iload_n 1, 1), (5, .invokevirtual 157, 3), (8, .astore_n 3, 1), (9, .aload_n 0, 1), (10, .getfield 23, 3), (13, .iload_n 2, 1), (14, .invokevirtual 157, 3), (17, .astore 4, 2), (19, .aload_n 3, 1), (20, .ifnull 20, 3), (23, .aload 4, 2), (25, .ifnull 15, 3), (28, .aload_n 3, 1), (29, .getfield 164, 3), (32, .aload 4, 2), (34, .getfield 164, 3), (37, .if_icmp .eq 6, 3), (40, .bipush (-2), 2), (42, .ireturn, 1), (43, .iconst 0, 1), (44, .istore 5, 2), (46, .iload 5, 2), (48, .aload_n 0, 1), (49, .getfield 23, 3), (52, .getfield 131, 3), (55, .if_icmp .ge 31, 3), (58, .aload_n 0, 1), (59, .aload_n 3, 1), (60, .aload 4, 2), (62, .aload_n 0, 1), (63, .getfield 23, 3), (66, .iload 5, 2), (68, .invokevirtual 145, 3), (71, .invokevirtual 218, 3), (74, .ifCond .ne 6, 3), (77, .iload 5, 2), (79, .ireturn, 1), (80, .iinc 5 1, 3), (83, .goto (-37), 3), (86, .iconst (-1), 1), (87, .ireturn, 1)]
def aj_c197 : List (Nat × Instr × Nat) := [(0, .aload_n 1, 1), (1, .aload_n 0, 1), (2, .getfield 23, 3), (5, .iload_n 3, 1), (6, .aload_n 0, 1), (7, .getfield 83, 3), (10, .invokevirtual 197, 3), (13, .istore 4, 2), (15, .aload_n 2, 1), (16, .aload_n 0, 1), (17, .getfield 23, 3), (20, .iload_n 3, 1), (21, .aload_n 0, 1), (22, .getfield 87, 3), (25, .invokevirtual 197, 3), (28, .iload 4, 2), (30, .if_icmp .eq 5, 3), (33, .iconst 0, 1), (34, .ireturn, 1), (35, .iconst 0, 1), (36, .istore 5, 2), (38, .iload 5, 2), (40, .iload 4, 2), (42, .if_icmp .ge 59, 3), (45, .iload 5, 2), (47, .aload_n 0, 1), (48, .getfield 83, 3), (51, .arraylength, 1), (52, .if_icmp .ge 49, 3), (55, .iload 5, 2), (57, .aload_n 0, 1), (58, .getfield 87, 3), (61, .arraylength, 1), (62, .if_icmp .ge 39, 3), (65, .aload_n 1, 1), (66, .aload_n 0, 1), (67, .getfield 23, 3), (70, .aload_n 0, 1), (71, .getfield 83, 3), (74, .iload 5, 2), (76, .iaload, 1), (77, .iload_n 3, 1), (78, .aload_n 2, 1), (79, .aload_n 0, 1), (80, .getfield 87, 3), (83, .iload 5, 2), (85, .iaload, 1), (86, .iload_n 3, 1), (87, .invokevirtual 252, 3), (90, .ifCond .eq 5, 3), (93, .iconst 0, 1), (94, .ireturn, 1), (95, .iinc 5 1, 3), (98, .goto (-60), 3), (101, .iconst 1, 1), (102, .ireturn, 1)]
def aj_c198 : List (Nat × Instr × Nat) := [(0, .iload_n 1, 1), (1, .tableswitch 96 0 6 #[43, 51, 59, 67, 75, 83, 91], 43), (44, .aload_n 0, 1), (45, .getfield 23, 3), (48, .getfield 131, 3), (51, .ireturn, 1), (52, .aload_n 0, 1), (53, .getfield 23, 3), (56, .getfield 222, 3), (59, .ireturn, 1), (60, .aload_n 0, 1), (61, .getfield 23, 3), (64, .getfield 149, 3), (67, .ireturn, 1), (68, .aload_n 0, 1), (69, .getfield 23, 3), (72, .getfield 225, 3), (75, .ireturn, 1), (76, .aload_n 0, 1), (77, .getfield 23, 3), (80, .getfield 228, 3), (83, .ireturn, 1), (84, .aload_n 0, 1), (85, .getfield 23, 3), (88, .getfield 124, 3), (91, .ireturn, 1), (92, .aload_n 0, 1), (93, .getfield 13, 3), (96, .ireturn, 1), (97, .iconst (-1), 1), (98, .ireturn, 1)]
def aj_c199 : List (Nat × Instr × Nat) := [(0, .aload_n 0, 1), (1, .invokespecial 1, 3), (4, .aload_n 0, 1), (5, .iconst 2, 1), (6, .newarray .int, 2), (8, .putfield 7, 3), (11, .aload_n 0, 1), (12, .bipush 16, 2), (14, .newarray .long, 2), (16, .putfield 13, 3), (19, .aload_n 0, 1), (20, .bipush 16, 2), (22, .newarray .int, 2), (24, .putfield 17, 3), (27, .aload_n 0, 1), (28, .sipush 1024, 3), (31, .newarray .int, 2), (33, .putfield 20, 3), (36, .aload_n 0, 1), (37, .iconst 2, 1), (38, .newarray .int, 2), (40, .putfield 23, 3), (43, .aload_n 0, 1), (44, .sipush 16384, 3), (47, .newarray .int, 2), (49, .putfield 26, 3), (52, .aload_n 0, 1), (53, .iconst 2, 1), (54, .newarray .int, 2), (56, .putfield 29, 3), (59, .aload_n 0, 1), (60, .bipush 20, 2), (62, .newarray .long, 2), (64, .putfield 32, 3), (67, .aload_n 0, 1), (68, .bipush 20, 2), (70, .newarray .boolean, 2), (72, .putfield 35, 3), (75, .aload_n 0, 1), (76, .iconst 2, 1), (77, .newarray .int, 2), (79, .putfield 39, 3), (82, .aload_n 0, 1), (83, .iconst 2, 1), (84, .newarray .int, 2), (86, .putfield 42, 3), (89, .aload_n 0, 1), (90, .sipush 1280, 3), (93, .newarray .int, 2), (95, .putfield 45, 3), (98, .aload_n 0, 1), (99, .bipush 32, 2), (101, .newarray .int, 2), (103, .putfield 48, 3), (106, .aload_n 0, 1), (107, .bipush 50, 2), (109, .newarray .int, 2), (111, .putfield 51, 3), (114, .aload_n 0, 1), (115, .bipush 50, 2), (117, .newarray .int, 2), (119, .putfield 54, 3), (122, .aload_n 0, 1), (123, .sipush 400, 3), (126, .newarray .long, 2), (128, .putfield 57, 3), (131, .aload_n 0, 1), (132, .sipush 12000, 3), (135, .newarray .byte, 2), (137, .putfield 60, 3), (140, .aload_n 0, 1), (141, .sipush 12000, 3), (144, .newarray .int, 2), (146, .putfield 64, 3), (149, .aload_n 0, 1), (150, .ldc 67, 2), (152, .newarray .int, 2), (154, .putfield 68, 3), (157, .aload_n 0, 1), (158, .sipush 1024, 3), (161, .newarray .int, 2), (163, .putfield 71, 3), (166, .aload_n 0, 1), (167, .sipush 4000, 3), (170, .newarray .byte, 2), (172, .putfield 74, 3), (175, .aload_n 0, 1), (176, .iconst (-1), 1), (177, .putfield 77, 3), (180, .aload_n 0, 1), (181, .bipush 40, 2), (183, .newarray .int, 2), (185, .putfield 81, 3), (188, .aload_n 0, 1), (189, .bipush 64, 2), (191, .newarray .int, 2), (193, .putfield 84, 3), (196, .aload_n 0, 1), (197, .bipush 64, 2), (199, .newarray .int, 2), (201, .putfield 87, 3), (204, .aload_n 0, 1), (205, .bipush 16, 2), (207, .newarray .int, 2), (209, .putfield 90, 3), (212, .aload_n 0, 1), (213, .bipush 30, 2), (215, .newarray .int, 2), (217, .putfield 93, 3), (220, .aload_n 0, 1), (221, .bipush 8, 2), (223, .newarray .int, 2), (225, .putfield 96, 3), (228, .aload_n 0, 1), (229, .sipush 1024, 3), (232, .newarray .int, 2), (234, .putfield 99, 3), (237, .aload_n 0, 1), (238, .bipush 20, 2), (240, .newarray .int, 2), (242, .putfield 102, 3), (245, .aload_n 0, 1), (246, .bipush 30, 2), (248, .newarray .int, 2), (250, .putfield 105, 3), (253, .aload_n 0, 1), (254, .sipush 30720, 3), (257, .newarray .int, 2), (259, .putfield 108, 3), (262, .aload_n 0, 1), (263, .ldc2_w 111, 3), (266, .putfield 113, 3), (269, .aload_n 0, 1), (270, .iconst (-1), 1), (271, .putfield 117, 3), (274, .aload_n 0, 1), (275, .bipush 30, 2), (277, .newarray .int, 2), (279, .putfield 120, 3), (282, .aload_n 0, 1), (283, .getfield 23, 3), (286, .iconst 0, 1), (287, .iconst 1, 1), (288, .iastore, 1), (289, .aload_n 0, 1), (290, .getfield 23, 3), (293, .iconst 1, 1), (294, .iconst 1, 1), (295, .iastore, 1), (296, .return_, 1)]
def aj_c200 : List (Nat × Instr × Nat) := [(0, .aload_n 0, 1), (1, .getfield 123, 3), (4, .bipush 20, 2), (6, .iadd, 1), (7, .sipush 4000, 3), (10, .if_icmp .le 5, 3), (13, .iconst (-1), 1), (14, .ireturn, 1), (15, .aload_n 0, 1), (16, .iload_n 1, 1), (17, .invokevirtual 126, 3), (20, .aload_n 0, 1), (21, .iload_n 2, 1), (22, .invokevirtual 126, 3), (25, .aload_n 0, 1), (26, .iload_n 3, 1), (27, .invokevirtual 126, 3), (30, .aload_n 0, 1), (31, .iload 4, 2), (33, .invokevirtual 126, 3), (36, .aload_n 0, 1), (37, .iload 5, 2), (39, .invokevirtual 126, 3), (42, .aload_n 0, 1), (43, .getfield 123, 3), (46, .ireturn, 1)]
def aj_c201 : List (Nat × Instr × Nat) := [(0, .iconst 3, 1), (1, .istore_n 2, 1), (2, .iload_n 2, 1), (3, .ifCond .lt 35, 3), (6, .aload_n 0, 1), (7, .getfield 74, 3), (10, .aload_n 0, 1), (11, .getfield 123, 3), (14, .iload_n 1, 1), (15, .bipush 8, 2), (17, .iload_n 2, 1), (18, .imul, 1), (19, .iushr, 1), (20, .i2b, 1), (21, .bastore, 1), (22, .aload_n 0, 1), (23, .dup, 1), (24, .getfield 123, 3), (27, .iconst 1, 1), (28, .iadd, 1), (29, .putfield 123, 3), (32, .iinc 2 (-1), 3), (35, .goto (-33), 3), (38, .return_, 1)]
def aj_c202 : List (Nat × Instr × Nat) := [(0, .iload_n 1, 1), (1, .ifCond .lt 11, 3), (4, .iload_n 1, 1), (5, .aload_n 0, 1), (6, .getfield 123, 3), (9, .if_icmp .le 5, 3), (12, .iconst (-1), 1), (13, .ireturn, 1), (14, .aload_n 0, 1), (15, .dup, 1), (16, .getfield 123, 3), (19, .iload_n 1, 1), (20, .isub, 1), (21, .putfield 123, 3), (24, .aload_n 0, 1), (25, .getfield 123, 3), (28, .ireturn, 1)]
def aj_c203 : List (Nat × Instr × Nat) := [(0, .aload_n 0, 1), (1, .iconst 0, 1), (2, .putfield 203, 3), (5, .aload_n 0, 1), (6, .iconst (-1), 1), (7, .putfield 77, 3), (10, .aload_n 0, 1), (11, .iconst 1, 1), (12, .aload_n 0, 1), (13, .getfield 302, 3), (16, .isub, 1), (17, .putfield 244, 3), (20, .aload_n 0, 1), (21, .iconst 0, 1), (22, .putfield 210, 3), (25, .aload_n 0, 1), (26, .invokevirtual 305, 3), (29, .ifCond .eq 14, 3), (32, .aload_n 0, 1), (33, .getfield 203, 3), (36, .ifCond .ne 7, 3), (39, .iconst 1, 1), (40, .goto 4, 3), (43, .iconst 0, 1), (44, .istore_n 1, 1), (45, .iload_n 1, 1), (46, .ifCond .eq 13, 3), (49, .aload_n 0, 1), (50, .iconst 1, 1), (51, .putfield 210, 3), (54, .aload_n 0, 1), (55, .invokevirtual 305, 3), (58, .istore_n 1, 1), (59, .aload_n 0, 1), (60, .iconst 0, 1), (61, .putfield 123, 3), (64, .iload_n 1, 1), (65, .ifCond .ne 8, 3), (68, .aload_n 0, 1), (69, .getfield 203, 3), (72, .ireturn, 1), (73, .aload_n 0, 1), (74, .aload_n 0, 1), (75, .getfield 244, 3), (78, .putfield 302, 3), (81, .aload_n 0, 1), (82, .iconst 0, 1), (83, .putfield 308, 3), (86, .aload_n 0, 1), (87, .dup, 1), (88, .getfield 311, 3), (91, .lconst 1, 1), (92, .ladd, 1), (93, .putfield 311, 3), (96, .iconst 0, 1), (97, .ireturn, 1)]
def aj_c204 : List (Nat × Instr × Nat) := [(0, .aload_n 0, 1), (1, .getfield 7, 3), (4, .aload_n 0, 1), (5, .getfield 244, 3), (8, .iconst 0, 1), (9, .iastore, 1), (10, .aload_n 0, 1), (11, .getfield 29, 3), (14, .aload_n 0, 1), (15, .getfield 244, 3), (18, .iconst 0, 1), (19, .iastore, 1), (20, .aload_n 0, 1), (21, .getfield 39, 3), (24, .aload_n 0, 1), (25, .getfield 244, 3), (28, .iconst 0, 1), (29, .iastore, 1), (30, .aload_n 0, 1), (31, .getfield 42, 3), (34, .aload_n 0, 1), (35, .getfield 244, 3), (38, .iconst 0, 1), (39, .iastore, 1), (40, .aload_n 0, 1), (41, .getfield 23, 3), (44, .aload_n 0, 1), (45, .getfield 244, 3), (48, .iconst 1, 1), (49, .iastore, 1), (50, .aload_n 0, 1), (51, .invokevirtual 314, 3), (54, .aload_n 0, 1), (55, .getfield 184, 3), (58, .ifCond .ne 104, 3), (61, .aload_n 0, 1), (62, .getfield 163, 3), (65, .ifCond .eq 97, 3), (68, .aload_n 0, 1), (69, .iconst 0, 1), (70, .invokevirtual 317, 3), (73, .ifCond .eq 10, 3), (76, .aload_n 0, 1), (77, .invokevirtual 320, 3), (80, .goto 72, 3), (83, .aload_n 0, 1), (84, .iconst 1, 1), (85, .invokevirtual 317, 3), (88, .ifCond .eq 10, 3), (91, .aload_n 0, 1), (92, .invokevirtual 323, 3), (95, .goto 57, 3), (98, .aload_n 0, 1), (99, .iconst 2, 1), (100, .invokevirtual 317, 3), (103, .ifCond .eq 10, 3), (106, .aload_n 0, 1), (107, .invokevirtual 326, 3), (110, .goto 42, 3), (113, .aload_n 0, 1), (114, .iconst 4, 1), (115, .invokevirtual 317, 3), (118, .ifCond .eq 10, 3), (121, .aload_n 0, 1), (122, .invokevirtual 329, 3), (125, .goto 27, 3), (128, .aload_n 0, 1), (129, .iconst 5, 1), (130, .invokevirtual 317, 3), (133, .ifCond .eq 10, 3), (136, .aload_n 0, 1), (137, .invokevirtual 332, 3), (140, .goto 12, 3), (143, .aload_n 0, 1), (144, .iconst 1, 1), (145, .aload_n 0, 1), (146, .getfield 157, 3), (149, .invokevirtual 206, 3), (152, .istore_n 1, 1), (153, .iload_n 1, 1), (154, .ifCond .ne 5, 3), (157, .iconst 0, 1), (158, .ireturn, 1), (159, .goto (-105), 3), (162, .aload_n 0, 1), (163, .getfield 184, 3), (166, .ifCond .ne 7, 3), (169, .iconst 1, 1), (170, .goto 4, 3), (173, .iconst 0, 1), (174, .ireturn, 1)]
def aj_c205 : List (Nat × Instr × Nat) := [(0, .aload_n 0, 1), (1, .iconst 0, 1), (2, .putfield 154, 3), (5, .aload_n 0, 1), (6, .iconst 1, 1), (7, .putfield 181, 3), (10, .aload_n 0, 1), (11, .iconst 0, 1), (12, .putfield 184, 3), (15, .aload_n 0, 1), (16, .iconst 0, 1), (17, .putfield 188, 3), (20, .aload_n 0, 1), (21, .iconst 0, 1), (22, .putfield 191, 3), (25, .aload_n 0, 1), (26, .iconst 0, 1), (27, .putfield 194, 3), (30, .aload_n 0, 1), (31, .iconst 0, 1), (32, .putfield 197, 3), (35, .aload_n 0, 1), (36, .invokevirtual 200, 3), (39, .return_, 1)]
def aj_c206 : List (Nat × Instr × Nat) := [(0, .aload_n 0, 1), (1, .getfield 154, 3), (4, .istore_n 1, 1), (5, .iload_n 1, 1), (6, .aload_n 0, 1), (7, .getfield 123, 3), (10, .if_icmp .ge 53, 3), (13, .aload_n 0, 1), (14, .getfield 74, 3), (17, .iload_n 1, 1), (18, .baload, 1), (19, .bipush 9, 2), (21, .if_icmp .eq 36, 3), (24, .aload_n 0, 1), (25, .getfield 74, 3), (28, .iload_n 1, 1), (29, .baload, 1), (30, .bipush 10, 2), (32, .if_icmp .eq 25, 3), (35, .aload_n 0, 1), (36, .getfield 74, 3), (39, .iload_n 1, 1), (40, .baload, 1), (41, .bipush 13, 2), (43, .if_icmp .eq 14, 3), (46, .aload_n 0, 1), (47, .getfield 74, 3), (50, .iload_n 1, 1), (51, .baload, 1), (52, .bipush 32, 2), (54, .if_icmp .ne 9, 3), (57, .iinc 1 1, 3), (60, .goto (-55), 3), (63, .aload_n 0, 1), (64, .iload_n 1, 1), (65, .putfield 157, 3), (68, .iload_n 1, 1), (69, .iconst 1, 1), (70, .iadd, 1), (71, .istore_n 2, 1), (72, .aload_n 0, 1), (73, .iload_n 1, 1), (74, .invokevirtual 130, 3), (77, .istore_n 3, 1), (78, .aload_n 0, 1), (79, .iload_n 3, 1), (80, .putfield 160, 3), (83, .iload_n 1, 1), (84, .aload_n 0, 1), (85, .getfield 123, 3), (88, .if_icmp .lt 13, 3), (91, .aload_n 0, 1), (92, .iconst 0, 1), (93, .putfield 163, 3), (96, .iload_n 1, 1), (97, .istore_n 2, 1), (98, .goto 353, 3), (101, .aload_n 0, 1), (102, .iload_n 1, 1), (103, .invokevirtual 166, 3), (106, .ifCond .eq 81, 3), (109, .aload_n 0, 1), (110, .iload_n 2, 1), (111, .invokevirtual 166, 3), (114, .ifCond .ne 11, 3), (117, .aload_n 0, 1), (118, .iload_n 2, 1), (119, .invokevirtual 170, 3), (122, .ifCond .eq 9, 3), (125, .iinc 2 1, 3), (128, .goto (-19), 3), (131, .aload_n 0, 1), (132, .iload_n 2, 1), (133, .iload_n 1, 1), (134, .isub, 1), (135, .bipush 8, 2), (137, .if_icmp .le 7, 3), (140, .iconst (-1), 1), (141, .goto 12, 3), (144, .aload_n 0, 1), (145, .iload_n 1, 1), (146, .iload_n 2, 1), (147, .invokevirtual 173, 3), (150, .invokestatic 177, 3), (153, .putfield 160, 3), (156, .aload_n 0, 1), (157, .iload_n 2, 1), (158, .iload_n 1, 1), (159, .isub, 1), (160, .bipush 8, 2), (162, .if_icmp .le 7, 3), (165, .iconst 5, 1), (166, .goto 15, 3), (169, .aload_n 0, 1), (170, .getfield 160, 3), (173, .ifCond .lt 7, 3), (176, .iconst 4, 1), (177, .goto 4, 3), (180, .iconst 1, 1), (181, .putfield 163, 3), (184, .goto 267, 3), (187, .aload_n 0, 1), (188, .iload_n 1, 1), (189, .invokevirtual 170, 3), (192, .ifCond .eq 36, 3), (195, .aload_n 0, 1), (196, .iload_n 2, 1), (197, .invokevirtual 170, 3), (200, .ifCond .eq 9, 3), (203, .iinc 2 1, 3), (206, .goto (-11), 3), (209, .aload_n 0, 1), (210, .iload_n 2, 1), (211, .iload_n 1, 1), (212, .isub, 1), (213, .iconst 4, 1), (214, .if_icmp .le 7, 3), (217, .iconst 5, 1), (218, .goto 4, 3), (221, .iconst 2, 1), (222, .putfield 163, 3), (225, .goto 226, 3), (228, .aload_n 0, 1), (229, .iload_n 2, 1), (230, .invokevirtual 130, 3), (233, .istore 4, 2), (235, .iload_n 3, 1), (236, .bipush 46, 2), (238, .if_icmp .ne 23, 3), (241, .iload 4, 2), (243, .bipush 46, 2), (245, .if_icmp .ne 16, 3), (248, .aload_n 0, 1), (249, .sipush 256, 3), (252, .putfield 160, 3), (255, .iinc 2 1, 3), (258, .goto 52, 3), (261, .iload_n 3, 1), (262, .bipush 33, 2), (264, .if_icmp .ne 23, 3), (267, .iload 4, 2), (269, .bipush 61, 2), (271, .if_icmp .ne 16, 3), (274, .aload_n 0, 1), (275, .sipush 257, 3), (278, .putfield 160, 3), (281, .iinc 2 1, 3), (284, .goto 26, 3), (287, .iload_n 3, 1), (288, .bipush 60, 2), (290, .if_icmp .ne 20, 3), (293, .iload 4, 2), (295, .bipush 61, 2), (297, .if_icmp .ne 13, 3), (300, .aload_n 0, 1), (301, .sipush 258, 3), (304, .putfield 160, 3), (307, .iinc 2 1, 3), (310, .iload_n 3, 1), (311, .bipush 40, 2), (313, .if_icmp .eq 117, 3), (316, .iload_n 3, 1), (317, .bipush 41, 2), (319, .if_icmp .eq 111, 3), (322, .iload_n 3, 1), (323, .bipush 91, 2), (325, .if_icmp .eq 105, 3), (328, .iload_n 3, 1), (329, .bipush 93, 2), (331, .if_icmp .eq 99, 3), (334, .iload_n 3, 1), (335, .bipush 123, 2), (337, .if_icmp .eq 93, 3), (340, .iload_n 3, 1), (341, .bipush 125, 2), (343, .if_icmp .eq 87, 3), (346, .iload_n 3, 1), (347, .bipush 44, 2), (349, .if_icmp .eq 81, 3), (352, .iload_n 3, 1), (353, .bipush 59, 2), (355, .if_icmp .eq 75, 3), (358, .iload_n 3, 1), (359, .bipush 58, 2), (361, .if_icmp .eq 69, 3), (364, .iload_n 3, 1), (365, .bipush 46, 2), (367, .if_icmp .eq 63, 3), (370, .iload_n 3, 1), (371, .bipush 63, 2), (373, .if_icmp .eq 57, 3), (376, .iload_n 3, 1), (377, .bipush 35, 2), (379, .if_icmp .eq 51, 3), (382, .iload_n 3, 1), (383, .bipush 43, 2), (385, .if_icmp .eq 45, 3), (388, .iload_n 3, 1), (389, .bipush 45, 2), (391, .if_icmp .eq 39, 3), (394, .iload_n 3, 1), (395, .bipush 42, 2), (397, .if_icmp .eq 33, 3), (400, .iload_n 3, 1), (401, .bipush 61, 2), (403, .if_icmp .eq 27, 3), (406, .iload_n 3, 1), (407, .bipush 33, 2), (409, .if_icmp .eq 21, 3), (412, .iload_n 3, 1), (413, .bipush 60, 2), (415, .if_icmp .eq 15, 3), (418, .iload_n 3, 1), (419, .bipush 38, 2), (421, .if_icmp .eq 9, 3), (424, .iload_n 3, 1), (425, .bipush 124, 2), (427, .if_icmp .ne 7, 3), (430, .iconst 1, 1), (431, .goto 4, 3), (434, .iconst 0, 1), (435, .istore 5, 2), (437, .aload_n 0, 1), (438, .iload 5, 2), (440, .ifCond .eq 7, 3), (443, .iconst 3, 1), (444, .goto 4, 3), (447, .iconst 5, 1), (448, .putfield 163, 3), (451, .aload_n 0, 1), (452, .iload_n 2, 1), (453, .putfield 154, 3), (456, .return_, 1)]
def aj_c207 : List (Nat × Instr × Nat) := [(0, .iload_n 1, 1), (1, .aload_n 0, 1), (2, .getfield 123, 3), (5, .if_icmp .ge 12, 3), (8, .aload_n 0, 1), (9, .getfield 74, 3), (12, .iload_n 1, 1), (13, .baload, 1), (14, .goto 4, 3), (17, .iconst 0, 1), (18, .ireturn, 1)]
def aj_c208 : List (Nat × Instr × Nat) := [(0, .aload_n 0, 1), (1, .iload_n 1, 1), (2, .invokevirtual 130, 3), (5, .bipush 97, 2), (7, .if_icmp .lt 17, 3), (10, .aload_n 0, 1), (11, .iload_n 1, 1), (12, .invokevirtual 130, 3), (15, .bipush 122, 2), (17, .if_icmp .gt 7, 3), (20, .iconst 1, 1), (21, .goto 4, 3), (24, .iconst 0, 1), (25, .ireturn, 1)]
def aj_c209 : List (Nat × Instr × Nat) := [(0, .aload_n 0, 1), (1, .iload_n 1, 1), (2, .invokevirtual 130, 3), (5, .bipush 48, 2), (7, .if_icmp .lt 17, 3), (10, .aload_n 0, 1), (11, .iload_n 1, 1), (12, .invokevirtual 130, 3), (15, .bipush 57, 2), (17, .if_icmp .gt 7, 3), (20, .iconst 1, 1), (21, .goto 4, 3), (24, .iconst 0, 1), (25, .ireturn, 1)]
def aj_c210 : List (Nat × Instr × Nat) := [(0, .lconst 0, 1), (1, .lstore_n 3, 1), (2, .iload_n 1, 1), (3, .istore 5, 2), (5, .iload 5, 2), (7, .iload_n 2, 1), (8, .if_icmp .ge 23, 3), (11, .lload_n 3, 1), (12, .bipush 8, 2), (14, .lshl, 1), (15, .aload_n 0, 1), (16, .getfield 74, 3), (19, .iload 5, 2), (21, .baload, 1), (22, .i2l, 1), (23, .lor, 1), (24, .lstore_n 3, 1), (25, .iinc 5 1, 3), (28, .goto (-23), 3), (31, .lload_n 3, 1), (32, .lreturn, 1)]
def aj_c211 : List (Nat × Instr × Nat) := [(0, .lload_n 0, 1), (1, .ldc2_w 134, 3), (4, .lcmp, 1), (5, .ifCond .ne 5, 3), (8, .iconst 0, 1), (9, .ireturn, 1), (10, .lload_n 0, 1), (11, .ldc2_w 136, 3), (14, .lcmp, 1), (15, .ifCond .ne 5, 3), (18, .iconst 1, 1), (19, .ireturn, 1), (20, .lload_n 0, 1), (21, .ldc2_w 138, 3), (24, .lcmp, 1), (25, .ifCond .ne 5, 3), (28, .iconst 2, 1), (29, .ireturn, 1), (30, .lload_n 0, 1), (31, .ldc2_w 140, 3), (34, .lcmp, 1), (35, .ifCond .ne 5, 3), (38, .iconst 3, 1), (39, .ireturn, 1), (40, .lload_n 0, 1), (41, .ldc2_w 142, 3), (44, .lcmp, 1), (45, .ifCond .ne 5, 3), (48, .iconst 4, 1), (49, .ireturn, 1), (50, .lload_n 0, 1), (51, .ldc2_w 144, 3), (54, .lcmp, 1), (55, .ifCond .ne 5, 3), (58, .iconst 5, 1), (59, .ireturn, 1), (60, .lload_n 0, 1), (61, .ldc2_w 146, 3), (64, .lcmp, 1), (65, .ifCond .ne 6, 3), (68, .bipush 6, 2), (70, .ireturn, 1), (71, .lload_n 0, 1), (72, .ldc2_w 148, 3), (75, .lcmp, 1), (76, .ifCond .ne 6, 3), (79, .bipush 7, 2), (81, .ireturn, 1), (82, .lload_n 0, 1), (83, .ldc2_w 150, 3), (86, .lcmp, 1), (87, .ifCond .ne 6, 3), (90, .bipush 8, 2), (92, .ireturn, 1), (93, .lload_n 0, 1), (94, .ldc2_w 152, 3), (97, .lcmp, 1), (98, .ifCond .ne 8, 3), (101, .bipush 9, 2), (103, .goto 4, 3), (106, .iconst (-1), 1), (107, .ireturn, 1)]
def aj_c212 : List (Nat × Instr × Nat) := [(0, .aload_n 0, 1), (1, .getfield 163, 3), (4, .iconst 4, 1), (5, .if_icmp .ne 15, 3), (8, .aload_n 0, 1), (9, .getfield 160, 3), (12, .iload_n 1, 1), (13, .if_icmp .ne 7, 3), (16, .iconst 1, 1), (17, .goto 4, 3), (20, .iconst 0, 1), (21, .ireturn, 1)]
def aj_c213 : List (Nat × Instr × Nat) := [(0, .aload_n 0, 1), (1, .invokevirtual 216, 3), (4, .ifCond .ne 5, 3), (7, .iconst 0, 1), (8, .ireturn, 1), (9, .aload_n 0, 1), (10, .getfield 163, 3), (13, .iconst 1, 1), (14, .if_icmp .ne 27, 3), (17, .aload_n 0, 1), (18, .getfield 7, 3), (21, .aload_n 0, 1), (22, .getfield 244, 3), (25, .iaload, 1), (26, .bipush 8, 2), (28, .if_icmp .ne 13, 3), (31, .aload_n 0, 1), (32, .iconst 2, 1), (33, .aload_n 0, 1), (34, .getfield 157, 3), (37, .invokevirtual 206, 3), (40, .ireturn, 1), (41, .aload_n 0, 1), (42, .invokevirtual 241, 3), (45, .ifCond .ne 5, 3), (48, .iconst 0, 1), (49, .ireturn, 1), (50, .aload_n 0, 1), (51, .getfield 244, 3), (54, .bipush 8, 2), (56, .imul, 1), (57, .aload_n 0, 1), (58, .getfield 7, 3), (61, .aload_n 0, 1), (62, .getfield 244, 3), (65, .iaload, 1), (66, .iadd, 1), (67, .istore_n 1, 1), (68, .aload_n 0, 1), (69, .getfield 220, 3), (72, .lstore_n 2, 1), (73, .aload_n 0, 1), (74, .aload_n 0, 1), (75, .getfield 244, 3), (78, .lload_n 2, 1), (79, .invokevirtual 247, 3), (82, .ifCond .lt 12, 3), (85, .aload_n 0, 1), (86, .iconst 3, 1), (87, .aload_n 0, 1), (88, .getfield 223, 3), (91, .invokevirtual 251, 3), (94, .aload_n 0, 1), (95, .bipush 58, 2), (97, .invokevirtual 335, 3), (100, .ifCond .eq 10, 3), (103, .aload_n 0, 1), (104, .invokevirtual 235, 3), (107, .ifCond .ne 5, 3), (110, .iconst 0, 1), (111, .ireturn, 1), (112, .aload_n 0, 1), (113, .getfield 20, 3), (116, .iload_n 1, 1), (117, .bipush 64, 2), (119, .imul, 1), (120, .aload_n 0, 1), (121, .getfield 229, 3), (124, .iastore, 1), (125, .aload_n 0, 1), (126, .getfield 17, 3), (129, .iload_n 1, 1), (130, .iconst 1, 1), (131, .iastore, 1), (132, .aload_n 0, 1), (133, .sipush 256, 3), (136, .invokevirtual 213, 3), (139, .ifCond .eq 11, 3), (142, .aload_n 0, 1), (143, .iload_n 1, 1), (144, .invokevirtual 338, 3), (147, .goto 8, 3), (150, .aload_n 0, 1), (151, .iload_n 1, 1), (152, .invokevirtual 341, 3), (155, .istore 4, 2), (157, .iload 4, 2), (159, .ifCond .ne 5, 3), (162, .iconst 0, 1), (163, .ireturn, 1), (164, .aload_n 0, 1), (165, .getfield 23, 3), (168, .aload_n 0, 1), (169, .getfield 244, 3), (172, .iaload, 1), (173, .aload_n 0, 1), (174, .getfield 17, 3), (177, .iload_n 1, 1), (178, .iaload, 1), (179, .imul, 1), (180, .istore 5, 2), (182, .aload_n 0, 1), (183, .bipush 59, 2), (185, .invokevirtual 213, 3), (188, .ifCond .eq 20, 3), (191, .iload 5, 2), (193, .sipush 1024, 3), (196, .if_icmp .le 12, 3), (199, .aload_n 0, 1), (200, .iconst 5, 1), (201, .aload_n 0, 1), (202, .getfield 157, 3), (205, .invokevirtual 251, 3), (208, .aload_n 0, 1), (209, .bipush 59, 2), (211, .invokevirtual 335, 3), (214, .ifCond .ne 5, 3), (217, .iconst 0, 1), (218, .ireturn, 1), (219, .aload_n 0, 1), (220, .getfield 13, 3), (223, .iload_n 1, 1), (224, .lload_n 2, 1), (225, .lastore, 1), (226, .aload_n 0, 1), (227, .getfield 7, 3), (230, .aload_n 0, 1), (231, .getfield 244, 3), (234, .dup2, 1), (235, .iaload, 1), (236, .iconst 1, 1), (237, .iadd, 1), (238, .iastore, 1), (239, .aload_n 0, 1), (240, .getfield 23, 3), (243, .aload_n 0, 1), (244, .getfield 244, 3), (247, .iload 5, 2), (249, .sipush 1024, 3), (252, .if_icmp .le 9, 3), (255, .sipush 1024, 3), (258, .goto 5, 3), (261, .iload 5, 2), (263, .iastore, 1), (264, .aload_n 0, 1), (265, .getfield 210, 3), (268, .ifCond .eq 7, 3), (271, .aload_n 0, 1), (272, .invokevirtual 344, 3), (275, .iconst 1, 1), (276, .ireturn, 1)]
def aj_c214 : List (Nat × Instr × Nat) := [(0, .aload_n 0, 1), (1, .getfield 181, 3), (4, .sipush 1000, 3), (7, .if_icmp .le 13, 3), (10, .aload_n 0, 1), (11, .iconst 2, 1), (12, .aload_n 0, 1), (13, .getfield 157, 3), (16, .invokevirtual 206, 3), (19, .ireturn, 1), (20, .aload_n 0, 1), (21, .dup, 1), (22, .getfield 181, 3), (25, .iconst 1, 1), (26, .iadd, 1), (27, .putfield 181, 3), (30, .aload_n 0, 1), (31, .invokevirtual 200, 3), (34, .iconst 1, 1), (35, .ireturn, 1)]
def aj_c215 : List (Nat × Instr × Nat) := [(0, .aload_n 0, 1), (1, .iload_n 1, 1), (2, .putfield 203, 3), (5, .aload_n 0, 1), (6, .iload_n 2, 1), (7, .putfield 77, 3), (10, .aload_n 0, 1), (11, .iconst 1, 1), (12, .putfield 184, 3), (15, .iconst 0, 1), (16, .ireturn, 1)]
def aj_c216 : List (Nat × Instr × Nat) := [(0, .aload_n 0, 1), (1, .getfield 163, 3), (4, .iconst 1, 1), (5, .if_icmp .eq 13, 3), (8, .aload_n 0, 1), (9, .iconst 1, 1), (10, .aload_n 0, 1), (11, .getfield 157, 3), (14, .invokevirtual 206, 3), (17, .ireturn, 1), (18, .aload_n 0, 1), (19, .aload_n 0, 1), (20, .aload_n 0, 1), (21, .getfield 157, 3), (24, .aload_n 0, 1), (25, .getfield 154, 3), (28, .invokevirtual 173, 3), (31, .putfield 220, 3), (34, .aload_n 0, 1), (35, .aload_n 0, 1), (36, .getfield 157, 3), (39, .putfield 223, 3), (42, .aload_n 0, 1), (43, .invokevirtual 216, 3), (46, .ireturn, 1)]
def aj_c217 : List (Nat × Instr × Nat) := [(0, .iconst 0, 1), (1, .istore 4, 2), (3, .iload 4, 2), (5, .aload_n 0, 1), (6, .getfield 7, 3), (9, .iload_n 1, 1), (10, .iaload, 1), (11, .if_icmp .ge 29, 3), (14, .aload_n 0, 1), (15, .getfield 13, 3), (18, .iload_n 1, 1), (19, .bipush 8, 2), (21, .imul, 1), (22, .iload 4, 2), (24, .iadd, 1), (25, .laload, 1), (26, .lload_n 2, 1), (27, .lcmp, 1), (28, .ifCond .ne 6, 3), (31, .iload 4, 2), (33, .ireturn, 1), (34, .iinc 4 1, 3), (37, .goto (-34), 3), (40, .iconst (-1), 1), (41, .ireturn, 1)]
def aj_c218 : List (Nat × Instr × Nat) := [(0, .aload_n 0, 1), (1, .getfield 210, 3), (4, .ifCond .ne 34, 3), (7, .aload_n 0, 1), (8, .getfield 203, 3), (11, .ifCond .eq 28, 3), (14, .iload_n 2, 1), (15, .aload_n 0, 1), (16, .getfield 77, 3), (19, .if_icmp .gt 19, 3), (22, .iload_n 2, 1), (23, .aload_n 0, 1), (24, .getfield 77, 3), (27, .if_icmp .ne 12, 3), (30, .iload_n 1, 1), (31, .aload_n 0, 1), (32, .getfield 203, 3), (35, .if_icmp .lt 4, 3), (38, .return_, 1), (39, .aload_n 0, 1), (40, .iload_n 1, 1), (41, .putfield 203, 3), (44, .aload_n 0, 1), (45, .iload_n 2, 1), (46, .putfield 77, 3), (49, .return_, 1)]
def aj_c219 : List (Nat × Instr × Nat) := [(0, .aload_n 0, 1), (1, .iload_n 1, 1), (2, .invokevirtual 213, 3), (5, .ifCond .eq 10, 3), (8, .aload_n 0, 1), (9, .invokevirtual 216, 3), (12, .goto 12, 3), (15, .aload_n 0, 1), (16, .iconst 1, 1), (17, .aload_n 0, 1), (18, .getfield 157, 3), (21, .invokevirtual 206, 3), (24, .ireturn, 1)]
def aj_c220 : List (Nat × Instr × Nat) := [(0, .aload_n 0, 1), (1, .getfield 163, 3), (4, .iconst 3, 1), (5, .if_icmp .ne 15, 3), (8, .aload_n 0, 1), (9, .getfield 160, 3), (12, .iload_n 1, 1), (13, .if_icmp .ne 7, 3), (16, .iconst 1, 1), (17, .goto 4, 3), (20, .iconst 0, 1), (21, .ireturn, 1)]
def aj_c221 : List (Nat × Instr × Nat) := [(0, .aload_n 0, 1), (1, .aload_n 0, 1), (2, .getfield 157, 3), (5, .putfield 226, 3), (8, .iconst 1, 1), (9, .istore_n 1, 1), (10, .aload_n 0, 1), (11, .bipush 45, 2), (13, .invokevirtual 213, 3), (16, .ifCond .eq 14, 3), (19, .iconst (-1), 1), (20, .istore_n 1, 1), (21, .aload_n 0, 1), (22, .invokevirtual 216, 3), (25, .ifCond .ne 5, 3), (28, .iconst 0, 1), (29, .ireturn, 1), (30, .aload_n 0, 1), (31, .getfield 163, 3), (34, .iconst 2, 1), (35, .if_icmp .eq 13, 3), (38, .aload_n 0, 1), (39, .iconst 1, 1), (40, .aload_n 0, 1), (41, .getfield 157, 3), (44, .invokevirtual 206, 3), (47, .ireturn, 1), (48, .iconst 0, 1), (49, .istore_n 2, 1), (50, .aload_n 0, 1), (51, .getfield 157, 3), (54, .istore_n 3, 1), (55, .iload_n 3, 1), (56, .aload_n 0, 1), (57, .getfield 154, 3), (60, .if_icmp .ge 24, 3), (63, .bipush 10, 2), (65, .iload_n 2, 1), (66, .imul, 1), (67, .aload_n 0, 1), (68, .getfield 74, 3), (71, .iload_n 3, 1), (72, .baload, 1), (73, .iadd, 1), (74, .bipush 48, 2), (76, .isub, 1), (77, .istore_n 2, 1), (78, .iinc 3 1, 3), (81, .goto (-26), 3), (84, .aload_n 0, 1), (85, .iload_n 1, 1), (86, .iload_n 2, 1), (87, .imul, 1), (88, .putfield 229, 3), (91, .aload_n 0, 1), (92, .invokevirtual 216, 3), (95, .ireturn, 1)]
def aj_c222 : List (Nat × Instr × Nat) := [(0, .aload_n 0, 1), (1, .invokevirtual 216, 3), (4, .ifCond .eq 10, 3), (7, .aload_n 0, 1), (8, .invokevirtual 235, 3), (11, .ifCond .ne 5, 3), (14, .iconst 0, 1), (15, .ireturn, 1), (16, .aload_n 0, 1), (17, .getfield 20, 3), (20, .iload_n 1, 1), (21, .bipush 64, 2), (23, .imul, 1), (24, .iaload, 1), (25, .istore_n 2, 1), (26, .aload_n 0, 1), (27, .getfield 229, 3), (30, .iload_n 2, 1), (31, .if_icmp .lt 14, 3), (34, .aload_n 0, 1), (35, .getfield 229, 3), (38, .iload_n 2, 1), (39, .isub, 1), (40, .bipush 63, 2), (42, .if_icmp .le 14, 3), (45, .aload_n 0, 1), (46, .iconst 5, 1), (47, .aload_n 0, 1), (48, .getfield 226, 3), (51, .invokevirtual 251, 3), (54, .iconst 1, 1), (55, .ireturn, 1), (56, .aload_n 0, 1), (57, .getfield 17, 3), (60, .iload_n 1, 1), (61, .aload_n 0, 1), (62, .getfield 229, 3), (65, .iload_n 2, 1), (66, .isub, 1), (67, .iconst 1, 1), (68, .iadd, 1), (69, .iastore, 1), (70, .iconst 0, 1), (71, .istore_n 3, 1), (72, .iload_n 3, 1), (73, .aload_n 0, 1), (74, .getfield 17, 3), (77, .iload_n 1, 1), (78, .iaload, 1), (79, .if_icmp .ge 23, 3), (82, .aload_n 0, 1), (83, .getfield 20, 3), (86, .iload_n 1, 1), (87, .bipush 64, 2), (89, .imul, 1), (90, .iload_n 3, 1), (91, .iadd, 1), (92, .iload_n 2, 1), (93, .iload_n 3, 1), (94, .iadd, 1), (95, .iastore, 1), (96, .iinc 3 1, 3), (99, .goto (-27), 3), (102, .iconst 1, 1), (103, .ireturn, 1)]
def aj_c223 : List (Nat × Instr × Nat) := [(0, .aload_n 0, 1), (1, .bipush 44, 2), (3, .invokevirtual 213, 3), (6, .ifCond .eq 137, 3), (9, .aload_n 0, 1), (10, .invokevirtual 216, 3), (13, .ifCond .ne 5, 3), (16, .iconst 0, 1), (17, .ireturn, 1), (18, .aload_n 0, 1), (19, .getfield 17, 3), (22, .iload_n 1, 1), (23, .iaload, 1), (24, .bipush 16, 2), (26, .if_icmp .ne 30, 3), (29, .aload_n 0, 1), (30, .getfield 163, 3), (33, .iconst 2, 1), (34, .if_icmp .eq 12, 3), (37, .aload_n 0, 1), (38, .bipush 45, 2), (40, .invokevirtual 213, 3), (43, .ifCond .eq 13, 3), (46, .aload_n 0, 1), (47, .iconst 2, 1), (48, .aload_n 0, 1), (49, .getfield 157, 3), (52, .invokevirtual 206, 3), (55, .ireturn, 1), (56, .aload_n 0, 1), (57, .invokevirtual 235, 3), (60, .ifCond .ne 5, 3), (63, .iconst 0, 1), (64, .ireturn, 1), (65, .iconst 0, 1), (66, .istore_n 2, 1), (67, .iload_n 2, 1), (68, .aload_n 0, 1), (69, .getfield 17, 3), (72, .iload_n 1, 1), (73, .iaload, 1), (74, .if_icmp .ge 36, 3), (77, .aload_n 0, 1), (78, .getfield 20, 3), (81, .iload_n 1, 1), (82, .bipush 64, 2), (84, .imul, 1), (85, .iload_n 2, 1), (86, .iadd, 1), (87, .iaload, 1), (88, .aload_n 0, 1), (89, .getfield 229, 3), (92, .if_icmp .ne 12, 3), (95, .aload_n 0, 1), (96, .iconst 5, 1), (97, .aload_n 0, 1), (98, .getfield 226, 3), (101, .invokevirtual 251, 3), (104, .iinc 2 1, 3), (107, .goto (-40), 3), (110, .aload_n 0, 1), (111, .getfield 20, 3), (114, .iload_n 1, 1), (115, .bipush 64, 2), (117, .imul, 1), (118, .aload_n 0, 1), (119, .getfield 17, 3), (122, .iload_n 1, 1), (123, .iaload, 1), (124, .iadd, 1), (125, .aload_n 0, 1), (126, .getfield 229, 3), (129, .iastore, 1), (130, .aload_n 0, 1), (131, .getfield 17, 3), (134, .iload_n 1, 1), (135, .dup2, 1), (136, .iaload, 1), (137, .iconst 1, 1), (138, .iadd, 1), (139, .iastore, 1), (140, .goto (-140), 3), (143, .iconst 1, 1), (144, .ireturn, 1)]
def aj_c224 : List (Nat × Instr × Nat) := [(0, .aload_n 0, 1), (1, .getfield 244, 3), (4, .istore_n 1, 1), (5, .aload_n 0, 1), (6, .getfield 17, 3), (9, .iload_n 1, 1), (10, .bipush 8, 2), (12, .imul, 1), (13, .aload_n 0, 1), (14, .getfield 7, 3), (17, .iload_n 1, 1), (18, .iaload, 1), (19, .iadd, 1), (20, .iconst 1, 1), (21, .isub, 1), (22, .iaload, 1), (23, .istore_n 2, 1), (24, .iconst 0, 1), (25, .istore_n 3, 1), (26, .iload_n 3, 1), (27, .aload_n 0, 1), (28, .getfield 23, 3), (31, .iload_n 1, 1), (32, .iaload, 1), (33, .if_icmp .ge 88, 3), (36, .iload_n 3, 1), (37, .istore 4, 2), (39, .aload_n 0, 1), (40, .getfield 7, 3), (43, .iload_n 1, 1), (44, .iaload, 1), (45, .iconst 1, 1), (46, .isub, 1), (47, .istore 5, 2), (49, .iload 5, 2), (51, .ifCond .lt 64, 3), (54, .iload_n 1, 1), (55, .bipush 8, 2), (57, .imul, 1), (58, .iload 5, 2), (60, .iadd, 1), (61, .istore 6, 2), (63, .aload_n 0, 1), (64, .getfield 26, 3), (67, .iload 6, 2), (69, .sipush 1024, 3), (72, .imul, 1), (73, .iload_n 3, 1), (74, .iadd, 1), (75, .aload_n 0, 1), (76, .getfield 20, 3), (79, .iload 6, 2), (81, .bipush 64, 2), (83, .imul, 1), (84, .iload 4, 2), (86, .aload_n 0, 1), (87, .getfield 17, 3), (90, .iload 6, 2), (92, .iaload, 1), (93, .irem, 1), (94, .iadd, 1), (95, .iaload, 1), (96, .iastore, 1), (97, .iload 4, 2), (99, .aload_n 0, 1), (100, .getfield 17, 3), (103, .iload 6, 2), (105, .iaload, 1), (106, .idiv, 1), (107, .istore 4, 2), (109, .iinc 5 (-1), 3), (112, .goto (-63), 3), (115, .iinc 3 1, 3), (118, .goto (-92), 3), (121, .iconst 0, 1), (122, .istore_n 3, 1), (123, .iload_n 3, 1), (124, .aload_n 0, 1), (125, .getfield 29, 3), (128, .iload_n 1, 1), (129, .iaload, 1), (130, .if_icmp .ge 55, 3), (133, .iload_n 1, 1), (134, .bipush 10, 2), (136, .imul, 1), (137, .iload_n 3, 1), (138, .iadd, 1), (139, .istore 4, 2), (141, .iconst 0, 1), (142, .istore 5, 2), (144, .iload 5, 2), (146, .aload_n 0, 1), (147, .getfield 51, 3), (150, .iload 4, 2), (152, .iaload, 1), (153, .if_icmp .ge 26, 3), (156, .aload_n 0, 1), (157, .aload_n 0, 1), (158, .getfield 68, 3), (161, .aload_n 0, 1), (162, .iload 4, 2), (164, .iload 5, 2), (166, .invokevirtual 347, 3), (169, .iload_n 2, 1), (170, .invokevirtual 351, 3), (173, .iinc 5 1, 3), (176, .goto (-32), 3), (179, .iinc 3 1, 3), (182, .goto (-59), 3), (185, .iconst 0, 1), (186, .istore_n 3, 1), (187, .iload_n 3, 1), (188, .aload_n 0, 1), (189, .getfield 39, 3), (192, .iload_n 1, 1), (193, .iaload, 1), (194, .if_icmp .ge 27, 3), (197, .aload_n 0, 1), (198, .aload_n 0, 1), (199, .getfield 45, 3), (202, .iload_n 1, 1), (203, .bipush 20, 2), (205, .imul, 1), (206, .iload_n 3, 1), (207, .iadd, 1), (208, .bipush 32, 2), (210, .imul, 1), (211, .iload_n 2, 1), (212, .invokevirtual 351, 3), (215, .iinc 3 1, 3), (218, .goto (-31), 3), (221, .return_, 1)]
def aj_c225 : List (Nat × Instr × Nat) := [(0, .iload_n 1, 1), (1, .bipush 30, 2), (3, .imul, 1), (4, .iload_n 2, 1), (5, .iadd, 1), (6, .bipush 32, 2), (8, .imul, 1), (9, .ireturn, 1)]
def aj_c226 : List (Nat × Instr × Nat) := [(0, .aload_n 0, 1), (1, .getfield 23, 3), (4, .aload_n 0, 1), (5, .getfield 244, 3), (8, .iaload, 1), (9, .iconst 1, 1), (10, .isub, 1), (11, .istore 4, 2), (13, .iload 4, 2), (15, .ifCond .lt 25, 3), (18, .aload_n 1, 1), (19, .iload_n 2, 1), (20, .iload 4, 2), (22, .aload_n 1, 1), (23, .iload_n 2, 1), (24, .iload 4, 2), (26, .iload_n 3, 1), (27, .idiv, 1), (28, .invokestatic 262, 3), (31, .invokestatic 266, 3), (34, .iinc 4 (-1), 3), (37, .goto (-24), 3), (40, .return_, 1)]
def aj_c227 : List (Nat × Instr × Nat) := [(0, .aload_n 0, 1), (1, .iload_n 1, 1), (2, .iload_n 2, 1), (3, .iconst 5, 1), (4, .ishr, 1), (5, .iadd, 1), (6, .iaload, 1), (7, .iload_n 2, 1), (8, .bipush 31, 2), (10, .iand, 1), (11, .iushr, 1), (12, .iconst 1, 1), (13, .iand, 1), (14, .iconst 1, 1), (15, .if_icmp .ne 7, 3), (18, .iconst 1, 1), (19, .goto 4, 3), (22, .iconst 0, 1), (23, .ireturn, 1)]
def aj_c228 : List (Nat × Instr × Nat) := [(0, .iconst 1, 1), (1, .iload_n 2, 1), (2, .bipush 31, 2), (4, .iand, 1), (5, .ishl, 1), (6, .istore 4, 2), (8, .iload_n 1, 1), (9, .iload_n 2, 1), (10, .iconst 5, 1), (11, .ishr, 1), (12, .iadd, 1), (13, .istore 5, 2), (15, .aload_n 0, 1), (16, .iload 5, 2), (18, .iload_n 3, 1), (19, .ifCond .eq 13, 3), (22, .aload_n 0, 1), (23, .iload 5, 2), (25, .iaload, 1), (26, .iload 4, 2), (28, .ior, 1), (29, .goto 12, 3), (32, .aload_n 0, 1), (33, .iload 5, 2), (35, .iaload, 1), (36, .iload 4, 2), (38, .iconst (-1), 1), (39, .ixor, 1), (40, .iand, 1), (41, .iastore, 1), (42, .return_, 1)]
def aj_c229 : List (Nat × Instr × Nat) := [(0, .aload_n 0, 1), (1, .iconst 0, 1), (2, .invokevirtual 358, 3), (5, .ifCond .ne 5, 3), (8, .iconst 0, 1), (9, .ireturn, 1), (10, .aload_n 0, 1), (11, .getfield 244, 3), (14, .bipush 10, 2), (16, .imul, 1), (17, .aload_n 0, 1), (18, .getfield 29, 3), (21, .aload_n 0, 1), (22, .getfield 244, 3), (25, .iaload, 1), (26, .iadd, 1), (27, .istore_n 1, 1), (28, .aload_n 0, 1), (29, .getfield 51, 3), (32, .iload_n 1, 1), (33, .iconst 0, 1), (34, .iastore, 1), (35, .aload_n 0, 1), (36, .getfield 54, 3), (39, .iload_n 1, 1), (40, .iconst 0, 1), (41, .iastore, 1), (42, .aload_n 0, 1), (43, .bipush 40, 2), (45, .invokevirtual 335, 3), (48, .ifCond .eq 11, 3), (51, .aload_n 0, 1), (52, .iload_n 1, 1), (53, .invokevirtual 360, 3), (56, .ifCond .ne 5, 3), (59, .iconst 0, 1), (60, .ireturn, 1), (61, .aload_n 0, 1), (62, .bipush 44, 2), (64, .invokevirtual 213, 3), (67, .ifCond .eq 20, 3), (70, .aload_n 0, 1), (71, .invokevirtual 216, 3), (74, .ifCond .eq 11, 3), (77, .aload_n 0, 1), (78, .iload_n 1, 1), (79, .invokevirtual 360, 3), (82, .ifCond .ne (-21), 3), (85, .iconst 0, 1), (86, .ireturn, 1), (87, .aload_n 0, 1), (88, .bipush 41, 2), (90, .invokevirtual 335, 3), (93, .ifCond .eq 12, 3), (96, .aload_n 0, 1), (97, .bipush 59, 2), (99, .invokevirtual 335, 3), (102, .ifCond .ne 5, 3), (105, .iconst 0, 1), (106, .ireturn, 1), (107, .aload_n 0, 1), (108, .getfield 29, 3), (111, .aload_n 0, 1), (112, .getfield 244, 3), (115, .dup2, 1), (116, .iaload, 1), (117, .iconst 1, 1), (118, .iadd, 1), (119, .iastore, 1), (120, .iconst 1, 1), (121, .ireturn, 1)]
def aj_c230 : List (Nat × Instr × Nat) := [(0, .aload_n 0, 1), (1, .invokevirtual 216, 3), (4, .ifCond .ne 5, 3), (7, .iconst 0, 1), (8, .ireturn, 1), (9, .aload_n 0, 1), (10, .getfield 163, 3), (13, .iconst 1, 1), (14, .if_icmp .ne 27, 3), (17, .aload_n 0, 1), (18, .getfield 29, 3), (21, .aload_n 0, 1), (22, .getfield 244, 3), (25, .iaload, 1), (26, .bipush 10, 2), (28, .if_icmp .ne 13, 3), (31, .aload_n 0, 1), (32, .iconst 2, 1), (33, .aload_n 0, 1), (34, .getfield 157, 3), (37, .invokevirtual 206, 3), (40, .ireturn, 1), (41, .aload_n 0, 1), (42, .invokevirtual 241, 3), (45, .ifCond .ne 5, 3), (48, .iconst 0, 1), (49, .ireturn, 1), (50, .aload_n 0, 1), (51, .aload_n 0, 1), (52, .getfield 244, 3), (55, .aload_n 0, 1), (56, .getfield 220, 3), (59, .invokevirtual 355, 3), (62, .ifCond .lt 12, 3), (65, .aload_n 0, 1), (66, .iconst 3, 1), (67, .aload_n 0, 1), (68, .getfield 223, 3), (71, .invokevirtual 251, 3), (74, .aload_n 0, 1), (75, .getfield 32, 3), (78, .aload_n 0, 1), (79, .getfield 244, 3), (82, .bipush 10, 2), (84, .imul, 1), (85, .aload_n 0, 1), (86, .getfield 29, 3), (89, .aload_n 0, 1), (90, .getfield 244, 3), (93, .iaload, 1), (94, .iadd, 1), (95, .aload_n 0, 1), (96, .getfield 220, 3), (99, .lastore, 1), (100, .aload_n 0, 1), (101, .getfield 35, 3), (104, .aload_n 0, 1), (105, .getfield 244, 3), (108, .bipush 10, 2), (110, .imul, 1), (111, .aload_n 0, 1), (112, .getfield 29, 3), (115, .aload_n 0, 1), (116, .getfield 244, 3), (119, .iaload, 1), (120, .iadd, 1), (121, .iload_n 1, 1), (122, .iconst 1, 1), (123, .if_icmp .ne 7, 3), (126, .iconst 1, 1), (127, .goto 4, 3), (130, .iconst 0, 1), (131, .bastore, 1), (132, .iconst 1, 1), (133, .ireturn, 1)]
def aj_c231 : List (Nat × Instr × Nat) := [(0, .iconst 0, 1), (1, .istore 4, 2), (3, .iload 4, 2), (5, .aload_n 0, 1), (6, .getfield 29, 3), (9, .iload_n 1, 1), (10, .iaload, 1), (11, .if_icmp .ge 29, 3), (14, .aload_n 0, 1), (15, .getfield 32, 3), (18, .iload_n 1, 1), (19, .bipush 10, 2), (21, .imul, 1), (22, .iload 4, 2), (24, .iadd, 1), (25, .laload, 1), (26, .lload_n 2, 1), (27, .lcmp, 1), (28, .ifCond .ne 6, 3), (31, .iload 4, 2), (33, .ireturn, 1), (34, .iinc 4 1, 3), (37, .goto (-34), 3), (40, .iconst (-1), 1), (41, .ireturn, 1)]
def aj_c232 : List (Nat × Instr × Nat) := [(0, .aload_n 0, 1), (1, .getfield 163, 3), (4, .iconst 1, 1), (5, .if_icmp .ne 23, 3), (8, .aload_n 0, 1), (9, .getfield 54, 3), (12, .iload_n 1, 1), (13, .iaload, 1), (14, .iconst 4, 1), (15, .if_icmp .ne 13, 3), (18, .aload_n 0, 1), (19, .iconst 2, 1), (20, .aload_n 0, 1), (21, .getfield 157, 3), (24, .invokevirtual 206, 3), (27, .ireturn, 1), (28, .aload_n 0, 1), (29, .invokevirtual 241, 3), (32, .ifCond .ne 5, 3), (35, .iconst 0, 1), (36, .ireturn, 1), (37, .aload_n 0, 1), (38, .iload_n 1, 1), (39, .aload_n 0, 1), (40, .getfield 220, 3), (43, .invokevirtual 363, 3), (46, .ifCond .lt 12, 3), (49, .aload_n 0, 1), (50, .iconst 3, 1), (51, .aload_n 0, 1), (52, .getfield 223, 3), (55, .invokevirtual 251, 3), (58, .aload_n 0, 1), (59, .getfield 57, 3), (62, .iload_n 1, 1), (63, .bipush 8, 2), (65, .imul, 1), (66, .aload_n 0, 1), (67, .getfield 54, 3), (70, .iload_n 1, 1), (71, .iaload, 1), (72, .iadd, 1), (73, .aload_n 0, 1), (74, .getfield 220, 3), (77, .lastore, 1), (78, .aload_n 0, 1), (79, .getfield 54, 3), (82, .iload_n 1, 1), (83, .dup2, 1), (84, .iaload, 1), (85, .iconst 1, 1), (86, .iadd, 1), (87, .iastore, 1), (88, .iconst 1, 1), (89, .ireturn, 1)]
def aj_c233 : List (Nat × Instr × Nat) := [(0, .iconst 0, 1), (1, .istore 4, 2), (3, .iload 4, 2), (5, .aload_n 0, 1), (6, .getfield 54, 3), (9, .iload_n 1, 1), (10, .iaload, 1), (11, .if_icmp .ge 29, 3), (14, .aload_n 0, 1), (15, .getfield 57, 3), (18, .iload_n 1, 1), (19, .bipush 8, 2), (21, .imul, 1), (22, .iload 4, 2), (24, .iadd, 1), (25, .laload, 1), (26, .lload_n 2, 1), (27, .lcmp, 1), (28, .ifCond .ne 6, 3), (31, .iload 4, 2), (33, .ireturn, 1), (34, .iinc 4 1, 3), (37, .goto (-34), 3), (40, .iconst (-1), 1), (41, .ireturn, 1)]
def aj_c234 : List (Nat × Instr × Nat) := [(0, .aload_n 0, 1), (1, .invokevirtual 216, 3), (4, .ifCond .ne 5, 3), (7, .iconst 0, 1), (8, .ireturn, 1), (9, .aload_n 0, 1), (10, .getfield 163, 3), (13, .iconst 1, 1), (14, .if_icmp .ne 26, 3), (17, .aload_n 0, 1), (18, .aload_n 0, 1), (19, .getfield 244, 3), (22, .aload_n 0, 1), (23, .aload_n 0, 1), (24, .getfield 157, 3), (27, .aload_n 0, 1), (28, .getfield 154, 3), (31, .invokevirtual 173, 3), (34, .invokevirtual 355, 3), (37, .goto 4, 3), (40, .iconst (-1), 1), (41, .istore_n 1, 1), (42, .aload_n 0, 1), (43, .getfield 244, 3), (46, .bipush 10, 2), (48, .imul, 1), (49, .iload_n 1, 1), (50, .iadd, 1), (51, .istore_n 2, 1), (52, .iload_n 1, 1), (53, .ifCond .lt 33, 3), (56, .aload_n 0, 1), (57, .getfield 35, 3), (60, .iload_n 2, 1), (61, .baload, 1), (62, .ifCond .ne 24, 3), (65, .aload_n 0, 1), (66, .getfield 51, 3), (69, .iload_n 2, 1), (70, .iaload, 1), (71, .bipush 30, 2), (73, .if_icmp .ne 13, 3), (76, .aload_n 0, 1), (77, .iconst 2, 1), (78, .aload_n 0, 1), (79, .getfield 157, 3), (82, .invokevirtual 206, 3), (85, .ireturn, 1), (86, .aload_n 0, 1), (87, .invokevirtual 241, 3), (90, .ifCond .ne 5, 3), (93, .iconst 0, 1), (94, .ireturn, 1), (95, .aload_n 0, 1), (96, .getfield 223, 3), (99, .istore_n 3, 1), (100, .iload_n 1, 1), (101, .ifCond .ge 12, 3), (104, .aload_n 0, 1), (105, .iconst 4, 1), (106, .iload_n 3, 1), (107, .invokevirtual 251, 3), (110, .goto 18, 3), (113, .aload_n 0, 1), (114, .getfield 35, 3), (117, .iload_n 2, 1), (118, .baload, 1), (119, .ifCond .eq 9, 3), (122, .aload_n 0, 1), (123, .iconst 5, 1), (124, .iload_n 3, 1), (125, .invokevirtual 251, 3), (128, .aload_n 0, 1), (129, .bipush 40, 2), (131, .invokevirtual 335, 3), (134, .ifCond .ne 5, 3), (137, .iconst 0, 1), (138, .ireturn, 1), (139, .iconst 0, 1), (140, .istore 4, 2), (142, .iconst 1, 1), (143, .istore 5, 2), (145, .iload 5, 2), (147, .ifCond .eq 123, 3), (150, .aload_n 0, 1), (151, .getfield 163, 3), (154, .iconst 2, 1), (155, .if_icmp .eq 31, 3), (158, .aload_n 0, 1), (159, .bipush 45, 2), (161, .invokevirtual 213, 3), (164, .ifCond .ne 22, 3), (167, .aload_n 0, 1), (168, .bipush 63, 2), (170, .invokevirtual 213, 3), (173, .ifCond .ne 13, 3), (176, .aload_n 0, 1), (177, .iconst 1, 1), (178, .aload_n 0, 1), (179, .getfield 157, 3), (182, .invokevirtual 206, 3), (185, .ireturn, 1), (186, .aload_n 0, 1), (187, .invokevirtual 288, 3), (190, .ifCond .ne 5, 3), (193, .iconst 0, 1), (194, .ireturn, 1), (195, .aload_n 0, 1), (196, .getfield 210, 3), (199, .ifCond .eq 46, 3), (202, .aload_n 0, 1), (203, .getfield 60, 3), (206, .iload_n 2, 1), (207, .aload_n 0, 1), (208, .getfield 51, 3), (211, .iload_n 2, 1), (212, .iaload, 1), (213, .iload 4, 2), (215, .invokestatic 366, 3), (218, .aload_n 0, 1), (219, .getfield 232, 3), (222, .i2b, 1), (223, .bastore, 1), (224, .aload_n 0, 1), (225, .getfield 64, 3), (228, .iload_n 2, 1), (229, .aload_n 0, 1), (230, .getfield 51, 3), (233, .iload_n 2, 1), (234, .iaload, 1), (235, .iload 4, 2), (237, .invokestatic 366, 3), (240, .aload_n 0, 1), (241, .getfield 238, 3), (244, .iastore, 1), (245, .iinc 4 1, 3), (248, .aload_n 0, 1), (249, .bipush 44, 2), (251, .invokevirtual 213, 3), (254, .istore 5, 2), (256, .iload 5, 2), (258, .ifCond .eq (-113), 3), (261, .aload_n 0, 1), (262, .invokevirtual 216, 3), (265, .ifCond .ne (-120), 3), (268, .iconst 0, 1), (269, .ireturn, 1), (270, .aload_n 0, 1), (271, .bipush 41, 2), (273, .invokevirtual 335, 3), (276, .ifCond .ne 5, 3), (279, .iconst 0, 1), (280, .ireturn, 1), (281, .iload_n 1, 1), (282, .ifCond .lt 29, 3), (285, .aload_n 0, 1), (286, .getfield 35, 3), (289, .iload_n 2, 1), (290, .baload, 1), (291, .ifCond .ne 20, 3), (294, .iload 4, 2), (296, .aload_n 0, 1), (297, .getfield 54, 3), (300, .iload_n 2, 1), (301, .iaload, 1), (302, .if_icmp .eq 9, 3), (305, .aload_n 0, 1), (306, .iconst 5, 1), (307, .iload_n 3, 1), (308, .invokevirtual 251, 3), (311, .aload_n 0, 1), (312, .iconst 3, 1), (313, .invokevirtual 317, 3), (316, .istore 6, 2), (318, .iload 6, 2), (320, .ifCond .eq 19, 3), (323, .aload_n 0, 1), (324, .invokevirtual 216, 3), (327, .ifCond .eq 10, 3), (330, .aload_n 0, 1), (331, .invokevirtual 369, 3), (334, .ifCond .ne 5, 3), (337, .iconst 0, 1), (338, .ireturn, 1), (339, .aload_n 0, 1), (340, .bipush 59, 2), (342, .invokevirtual 335, 3), (345, .ifCond .ne 5, 3), (348, .iconst 0, 1), (349, .ireturn, 1), (350, .iconst 0, 1), (351, .istore 7, 2), (353, .aload_n 0, 1), (354, .getfield 210, 3), (357, .ifCond .eq 66, 3), (360, .iload 7, 2), (362, .aload_n 0, 1), (363, .getfield 23, 3), (366, .aload_n 0, 1), (367, .getfield 244, 3), (370, .iaload, 1), (371, .if_icmp .ge 52, 3), (374, .aload_n 0, 1), (375, .getfield 68, 3), (378, .aload_n 0, 1), (379, .iload_n 2, 1), (380, .aload_n 0, 1), (381, .getfield 51, 3), (384, .iload_n 2, 1), (385, .iaload, 1), (386, .invokevirtual 347, 3), (389, .iload 7, 2), (391, .iload 6, 2), (393, .ifCond .eq 16, 3), (396, .aload_n 0, 1), (397, .getfield 71, 3), (400, .iconst 0, 1), (401, .iload 7, 2), (403, .invokestatic 262, 3), (406, .ifCond .eq 7, 3), (409, .iconst 1, 1), (410, .goto 4, 3), (413, .iconst 0, 1), (414, .invokestatic 266, 3), (417, .iinc 7 1, 3), (420, .goto (-67), 3), (423, .iload_n 1, 1), (424, .ifCond .lt 22, 3), (427, .aload_n 0, 1), (428, .getfield 35, 3), (431, .iload_n 2, 1), (432, .baload, 1), (433, .ifCond .ne 13, 3), (436, .aload_n 0, 1), (437, .getfield 51, 3), (440, .iload_n 2, 1), (441, .dup2, 1), (442, .iaload, 1), (443, .iconst 1, 1), (444, .iadd, 1), (445, .iastore, 1), (446, .iconst 1, 1), (447, .ireturn, 1)]
def aj_c235 : List (Nat × Instr × Nat) := [(0, .aload_n 0, 1), (1, .bipush 63, 2), (3, .invokevirtual 213, 3), (6, .ifCond .ne 27, 3), (9, .aload_n 0, 1), (10, .iconst 0, 1), (11, .putfield 232, 3), (14, .aload_n 0, 1), (15, .invokevirtual 235, 3), (18, .ifCond .ne 5, 3), (21, .iconst 0, 1), (22, .ireturn, 1), (23, .aload_n 0, 1), (24, .aload_n 0, 1), (25, .getfield 229, 3), (28, .putfield 238, 3), (31, .iconst 1, 1), (32, .ireturn, 1), (33, .aload_n 0, 1), (34, .invokevirtual 216, 3), (37, .ifCond .eq 10, 3), (40, .aload_n 0, 1), (41, .invokevirtual 241, 3), (44, .ifCond .ne 5, 3), (47, .iconst 0, 1), (48, .ireturn, 1), (49, .aload_n 0, 1), (50, .iconst 1, 1), (51, .putfield 232, 3), (54, .aload_n 0, 1), (55, .aload_n 0, 1), (56, .aload_n 0, 1), (57, .getfield 244, 3), (60, .aload_n 0, 1), (61, .getfield 220, 3), (64, .invokevirtual 247, 3), (67, .putfield 238, 3), (70, .aload_n 0, 1), (71, .getfield 238, 3), (74, .ifCond .ge 12, 3), (77, .aload_n 0, 1), (78, .iconst 4, 1), (79, .aload_n 0, 1), (80, .getfield 223, 3), (83, .invokevirtual 251, 3), (86, .iconst 1, 1), (87, .ireturn, 1)]
def aj_c236 : List (Nat × Instr × Nat) := [(0, .iload_n 0, 1), (1, .bipush 30, 2), (3, .imul, 1), (4, .iload_n 1, 1), (5, .iadd, 1), (6, .bipush 8, 2), (8, .imul, 1), (9, .iload_n 2, 1), (10, .iadd, 1), (11, .ireturn, 1)]
def aj_c237 : List (Nat × Instr × Nat) := [(0, .aload_n 0, 1), (1, .iconst 0, 1), (2, .putfield 270, 3), (5, .aload_n 0, 1), (6, .iconst 0, 1), (7, .putfield 273, 3), (10, .aload_n 0, 1), (11, .iconst 0, 1), (12, .putfield 188, 3), (15, .iconst 0, 1), (16, .istore_n 1, 1), (17, .iconst 1, 1), (18, .istore_n 2, 1), (19, .iload_n 2, 1), (20, .ifCond .eq 295, 3), (23, .aload_n 0, 1), (24, .bipush 33, 2), (26, .invokevirtual 213, 3), (29, .ifCond .ne 12, 3), (32, .aload_n 0, 1), (33, .bipush 40, 2), (35, .invokevirtual 213, 3), (38, .ifCond .eq 81, 3), (41, .aload_n 0, 1), (42, .getfield 188, 3), (45, .bipush 8, 2), (47, .if_icmp .ne 13, 3), (50, .aload_n 0, 1), (51, .iconst 2, 1), (52, .aload_n 0, 1), (53, .getfield 157, 3), (56, .invokevirtual 206, 3), (59, .ireturn, 1), (60, .aload_n 0, 1), (61, .dup, 1), (62, .getfield 188, 3), (65, .iconst 1, 1), (66, .iadd, 1), (67, .putfield 188, 3), (70, .aload_n 0, 1), (71, .getfield 81, 3), (74, .aload_n 0, 1), (75, .getfield 270, 3), (78, .aload_n 0, 1), (79, .getfield 160, 3), (82, .iastore, 1), (83, .aload_n 0, 1), (84, .dup, 1), (85, .getfield 270, 3), (88, .iconst 1, 1), (89, .iadd, 1), (90, .putfield 270, 3), (93, .aload_n 0, 1), (94, .getfield 160, 3), (97, .bipush 40, 2), (99, .if_icmp .ne 9, 3), (102, .iload_n 1, 1), (103, .iconst 1, 1), (104, .iadd, 1), (105, .goto 4, 3), (108, .iload_n 1, 1), (109, .istore_n 1, 1), (110, .aload_n 0, 1), (111, .invokevirtual 216, 3), (114, .ifCond .ne (-91), 3), (117, .iconst 0, 1), (118, .ireturn, 1), (119, .aload_n 0, 1), (120, .invokevirtual 279, 3), (123, .ifCond .ne 5, 3), (126, .iconst 0, 1), (127, .ireturn, 1), (128, .aload_n 0, 1), (129, .bipush 33, 2), (131, .invokevirtual 282, 3), (134, .ifCond .eq 10, 3), (137, .aload_n 0, 1), (138, .invokevirtual 285, 3), (141, .goto (-13), 3), (144, .iload_n 1, 1), (145, .ifCond .le 76, 3), (148, .aload_n 0, 1), (149, .bipush 41, 2), (151, .invokevirtual 213, 3), (154, .ifCond .eq 67, 3), (157, .aload_n 0, 1), (158, .bipush 40, 2), (160, .invokevirtual 282, 3), (163, .ifCond .ne 10, 3), (166, .aload_n 0, 1), (167, .invokevirtual 285, 3), (170, .goto (-13), 3), (173, .aload_n 0, 1), (174, .dup, 1), (175, .getfield 270, 3), (178, .iconst 1, 1), (179, .isub, 1), (180, .putfield 270, 3), (183, .iinc 1 (-1), 3), (186, .aload_n 0, 1), (187, .dup, 1), (188, .getfield 188, 3), (191, .iconst 1, 1), (192, .isub, 1), (193, .putfield 188, 3), (196, .aload_n 0, 1), (197, .invokevirtual 216, 3), (200, .ifCond .ne 5, 3), (203, .iconst 0, 1), (204, .ireturn, 1), (205, .aload_n 0, 1), (206, .bipush 33, 2), (208, .invokevirtual 282, 3), (211, .ifCond .eq (-67), 3), (214, .aload_n 0, 1), (215, .invokevirtual 285, 3), (218, .goto (-13), 3), (221, .aload_n 0, 1), (222, .bipush 38, 2), (224, .invokevirtual 213, 3), (227, .ifCond .ne 12, 3), (230, .aload_n 0, 1), (231, .bipush 124, 2), (233, .invokevirtual 213, 3), (236, .ifCond .eq 7, 3), (239, .iconst 1, 1), (240, .goto 4, 3), (243, .iconst 0, 1), (244, .istore_n 2, 1), (245, .iload_n 2, 1), (246, .ifCond .eq (-227), 3), (249, .aload_n 0, 1), (250, .bipush 38, 2), (252, .invokevirtual 282, 3), (255, .ifCond .ne 21, 3), (258, .aload_n 0, 1), (259, .bipush 124, 2), (261, .invokevirtual 213, 3), (264, .ifCond .eq 19, 3), (267, .aload_n 0, 1), (268, .bipush 124, 2), (270, .invokevirtual 282, 3), (273, .ifCond .eq 10, 3), (276, .aload_n 0, 1), (277, .invokevirtual 285, 3), (280, .goto (-31), 3), (283, .aload_n 0, 1), (284, .getfield 81, 3), (287, .aload_n 0, 1), (288, .getfield 270, 3), (291, .aload_n 0, 1), (292, .getfield 160, 3), (295, .iastore, 1), (296, .aload_n 0, 1), (297, .dup, 1), (298, .getfield 270, 3), (301, .iconst 1, 1), (302, .iadd, 1), (303, .putfield 270, 3), (306, .aload_n 0, 1), (307, .invokevirtual 216, 3), (310, .ifCond .ne (-291), 3), (313, .iconst 0, 1), (314, .ireturn, 1), (315, .iload_n 1, 1), (316, .ifCond .le 13, 3), (319, .aload_n 0, 1), (320, .iconst 1, 1), (321, .aload_n 0, 1), (322, .getfield 157, 3), (325, .invokevirtual 206, 3), (328, .ireturn, 1), (329, .aload_n 0, 1), (330, .getfield 270, 3), (333, .ifCond .le 10, 3), (336, .aload_n 0, 1), (337, .invokevirtual 285, 3), (340, .goto (-11), 3), (343, .iconst 1, 1), (344, .ireturn, 1)]
def aj_c238 : List (Nat × Instr × Nat) := [(0, .aload_n 0, 1), (1, .getfield 163, 3), (4, .iconst 2, 1), (5, .if_icmp .eq 31, 3), (8, .aload_n 0, 1), (9, .bipush 45, 2), (11, .invokevirtual 213, 3), (14, .ifCond .ne 22, 3), (17, .aload_n 0, 1), (18, .bipush 63, 2), (20, .invokevirtual 213, 3), (23, .ifCond .ne 13, 3), (26, .aload_n 0, 1), (27, .iconst 1, 1), (28, .aload_n 0, 1), (29, .getfield 157, 3), (32, .invokevirtual 206, 3), (35, .ireturn, 1), (36, .aload_n 0, 1), (37, .invokevirtual 288, 3), (40, .ifCond .ne 5, 3), (43, .iconst 0, 1), (44, .ireturn, 1), (45, .aload_n 0, 1), (46, .getfield 232, 3), (49, .istore_n 1, 1), (50, .aload_n 0, 1), (51, .getfield 238, 3), (54, .istore_n 2, 1), (55, .aload_n 0, 1), (56, .invokevirtual 291, 3), (59, .ifCond .ne 5, 3), (62, .iconst 0, 1), (63, .ireturn, 1), (64, .aload_n 0, 1), (65, .getfield 259, 3), (68, .istore_n 3, 1), (69, .aload_n 0, 1), (70, .invokevirtual 288, 3), (73, .ifCond .ne 5, 3), (76, .iconst 0, 1), (77, .ireturn, 1), (78, .iconst 0, 1), (79, .istore 4, 2), (81, .aload_n 0, 1), (82, .getfield 210, 3), (85, .ifCond .eq 73, 3), (88, .iload 4, 2), (90, .aload_n 0, 1), (91, .getfield 23, 3), (94, .aload_n 0, 1), (95, .getfield 244, 3), (98, .iaload, 1), (99, .if_icmp .ge 59, 3), (102, .aload_n 0, 1), (103, .getfield 71, 3), (106, .aload_n 0, 1), (107, .getfield 273, 3), (110, .bipush 32, 2), (112, .imul, 1), (113, .iload 4, 2), (115, .iload_n 3, 1), (116, .aload_n 0, 1), (117, .aload_n 0, 1), (118, .getfield 244, 3), (121, .iload_n 1, 1), (122, .iload_n 2, 1), (123, .iload 4, 2), (125, .invokevirtual 294, 3), (128, .aload_n 0, 1), (129, .aload_n 0, 1), (130, .getfield 244, 3), (133, .aload_n 0, 1), (134, .getfield 232, 3), (137, .aload_n 0, 1), (138, .getfield 238, 3), (141, .iload 4, 2), (143, .invokevirtual 294, 3), (146, .invokestatic 298, 3), (149, .invokestatic 266, 3), (152, .iinc 4 1, 3), (155, .goto (-74), 3), (158, .aload_n 0, 1), (159, .dup, 1), (160, .getfield 273, 3), (163, .iconst 1, 1), (164, .iadd, 1), (165, .putfield 273, 3), (168, .iconst 1, 1), (169, .ireturn, 1)]
def aj_c239 : List (Nat × Instr × Nat) := [(0, .aload_n 0, 1), (1, .getfield 163, 3), (4, .iconst 3, 1), (5, .if_icmp .ne 41, 3), (8, .aload_n 0, 1), (9, .getfield 160, 3), (12, .bipush 61, 2), (14, .if_icmp .eq 42, 3), (17, .aload_n 0, 1), (18, .getfield 160, 3), (21, .sipush 257, 3), (24, .if_icmp .eq 32, 3), (27, .aload_n 0, 1), (28, .getfield 160, 3), (31, .bipush 60, 2), (33, .if_icmp .eq 23, 3), (36, .aload_n 0, 1), (37, .getfield 160, 3), (40, .sipush 258, 3), (43, .if_icmp .eq 13, 3), (46, .aload_n 0, 1), (47, .iconst 1, 1), (48, .aload_n 0, 1), (49, .getfield 157, 3), (52, .invokevirtual 206, 3), (55, .ireturn, 1), (56, .aload_n 0, 1), (57, .aload_n 0, 1), (58, .getfield 160, 3), (61, .putfield 259, 3), (64, .aload_n 0, 1), (65, .invokevirtual 216, 3), (68, .ireturn, 1)]
def aj_c240 : List (Nat × Instr × Nat) := [(0, .iload_n 2, 1), (1, .iconst 1, 1), (2, .if_icmp .ne 14, 3), (5, .aload_n 0, 1), (6, .iload_n 1, 1), (7, .iload_n 3, 1), (8, .iload 4, 2), (10, .invokevirtual 255, 3), (13, .goto 4, 3), (16, .iload_n 3, 1), (17, .ireturn, 1)]
def aj_c241 : List (Nat × Instr × Nat) := [(0, .aload_n 0, 1), (1, .getfield 26, 3), (4, .iload_n 1, 1), (5, .bipush 8, 2), (7, .imul, 1), (8, .iload_n 2, 1), (9, .iadd, 1), (10, .sipush 1024, 3), (13, .imul, 1), (14, .iload_n 3, 1), (15, .iadd, 1), (16, .iaload, 1), (17, .ireturn, 1)]
def aj_c242 : List (Nat × Instr × Nat) := [(0, .iload_n 0, 1), (1, .bipush 61, 2), (3, .if_icmp .ne 16, 3), (6, .iload_n 1, 1), (7, .iload_n 2, 1), (8, .if_icmp .ne 7, 3), (11, .iconst 1, 1), (12, .goto 56, 3), (15, .iconst 0, 1), (16, .goto 52, 3), (19, .iload_n 0, 1), (20, .sipush 257, 3), (23, .if_icmp .ne 16, 3), (26, .iload_n 1, 1), (27, .iload_n 2, 1), (28, .if_icmp .eq 7, 3), (31, .iconst 1, 1), (32, .goto 36, 3), (35, .iconst 0, 1), (36, .goto 32, 3), (39, .iload_n 0, 1), (40, .bipush 60, 2), (42, .if_icmp .ne 16, 3), (45, .iload_n 1, 1), (46, .iload_n 2, 1), (47, .if_icmp .ge 7, 3), (50, .iconst 1, 1), (51, .goto 17, 3), (54, .iconst 0, 1), (55, .goto 13, 3), (58, .iload_n 1, 1), (59, .iload_n 2, 1), (60, .if_icmp .gt 7, 3), (63, .iconst 1, 1), (64, .goto 4, 3), (67, .iconst 0, 1), (68, .ireturn, 1)]
def aj_c243 : List (Nat × Instr × Nat) := [(0, .aload_n 0, 1), (1, .getfield 270, 3), (4, .ifCond .le 22, 3), (7, .aload_n 0, 1), (8, .getfield 81, 3), (11, .aload_n 0, 1), (12, .getfield 270, 3), (15, .iconst 1, 1), (16, .isub, 1), (17, .iaload, 1), (18, .iload_n 1, 1), (19, .if_icmp .ne 7, 3), (22, .iconst 1, 1), (23, .goto 4, 3), (26, .iconst 0, 1), (27, .ireturn, 1)]
def aj_c244 : List (Nat × Instr × Nat) := [(0, .aload_n 0, 1), (1, .dup, 1), (2, .getfield 270, 3), (5, .iconst 1, 1), (6, .isub, 1), (7, .putfield 270, 3), (10, .aload_n 0, 1), (11, .getfield 81, 3), (14, .aload_n 0, 1), (15, .getfield 270, 3), (18, .iaload, 1), (19, .istore_n 1, 1), (20, .iload_n 1, 1), (21, .bipush 33, 2), (23, .if_icmp .ne 24, 3), (26, .aload_n 0, 1), (27, .dup, 1), (28, .getfield 188, 3), (31, .iconst 1, 1), (32, .isub, 1), (33, .putfield 188, 3), (36, .aload_n 0, 1), (37, .aload_n 0, 1), (38, .getfield 273, 3), (41, .iconst 1, 1), (42, .isub, 1), (43, .invokevirtual 276, 3), (46, .return_, 1), (47, .aload_n 0, 1), (48, .dup, 1), (49, .getfield 273, 3), (52, .iconst 1, 1), (53, .isub, 1), (54, .putfield 273, 3), (57, .aload_n 0, 1), (58, .getfield 273, 3), (61, .iconst 1, 1), (62, .isub, 1), (63, .bipush 32, 2), (65, .imul, 1), (66, .istore_n 2, 1), (67, .aload_n 0, 1), (68, .getfield 273, 3), (71, .bipush 32, 2), (73, .imul, 1), (74, .istore_n 3, 1), (75, .iconst 0, 1), (76, .istore 4, 2), (78, .aload_n 0, 1), (79, .getfield 210, 3), (82, .ifCond .eq 96, 3), (85, .iload 4, 2), (87, .aload_n 0, 1), (88, .getfield 23, 3), (91, .aload_n 0, 1), (92, .getfield 244, 3), (95, .iaload, 1), (96, .if_icmp .ge 82, 3), (99, .aload_n 0, 1), (100, .getfield 71, 3), (103, .iload_n 2, 1), (104, .iload 4, 2), (106, .invokestatic 262, 3), (109, .istore 5, 2), (111, .aload_n 0, 1), (112, .getfield 71, 3), (115, .iload_n 3, 1), (116, .iload 4, 2), (118, .invokestatic 262, 3), (121, .istore 6, 2), (123, .aload_n 0, 1), (124, .getfield 71, 3), (127, .iload_n 2, 1), (128, .iload 4, 2), (130, .iload_n 1, 1), (131, .bipush 124, 2), (133, .if_icmp .ne 21, 3), (136, .iload 5, 2), (138, .ifCond .ne 8, 3), (141, .iload 6, 2), (143, .ifCond .eq 7, 3), (146, .iconst 1, 1), (147, .goto 22, 3), (150, .iconst 0, 1), (151, .goto 18, 3), (154, .iload 5, 2), (156, .ifCond .eq 12, 3), (159, .iload 6, 2), (161, .ifCond .eq 7, 3), (164, .iconst 1, 1), (165, .goto 4, 3), (168, .iconst 0, 1), (169, .invokestatic 266, 3), (172, .iinc 4 1, 3), (175, .goto (-97), 3), (178, .return_, 1)]
def aj_c245 : List (Nat × Instr × Nat) := [(0, .iconst 0, 1), (1, .istore_n 2, 1), (2, .aload_n 0, 1), (3, .getfield 210, 3), (6, .ifCond .eq 54, 3), (9, .iload_n 2, 1), (10, .aload_n 0, 1), (11, .getfield 23, 3), (14, .aload_n 0, 1), (15, .getfield 244, 3), (18, .iaload, 1), (19, .if_icmp .ge 41, 3), (22, .aload_n 0, 1), (23, .getfield 71, 3), (26, .iload_n 1, 1), (27, .bipush 32, 2), (29, .imul, 1), (30, .iload_n 2, 1), (31, .aload_n 0, 1), (32, .getfield 71, 3), (35, .iload_n 1, 1), (36, .bipush 32, 2), (38, .imul, 1), (39, .iload_n 2, 1), (40, .invokestatic 262, 3), (43, .ifCond .ne 7, 3), (46, .iconst 1, 1), (47, .goto 4, 3), (50, .iconst 0, 1), (51, .invokestatic 266, 3), (54, .iinc 2 1, 3), (57, .goto (-55), 3), (60, .return_, 1)]
def aj_c246 : List (Nat × Instr × Nat) := [(0, .aload_n 0, 1), (1, .getfield 157, 3), (4, .istore_n 1, 1), (5, .aload_n 0, 1), (6, .getfield 197, 3), (9, .bipush 12, 2), (11, .if_icmp .ne 10, 3), (14, .aload_n 0, 1), (15, .iconst 2, 1), (16, .iload_n 1, 1), (17, .invokevirtual 206, 3), (20, .ireturn, 1), (21, .aload_n 0, 1), (22, .dup, 1), (23, .getfield 197, 3), (26, .iconst 1, 1), (27, .iadd, 1), (28, .putfield 197, 3), (31, .aload_n 0, 1), (32, .invokevirtual 216, 3), (35, .ifCond .eq 19, 3), (38, .aload_n 0, 1), (39, .invokevirtual 369, 3), (42, .ifCond .eq 12, 3), (45, .aload_n 0, 1), (46, .bipush 59, 2), (48, .invokevirtual 335, 3), (51, .ifCond .ne 5, 3), (54, .iconst 0, 1), (55, .ireturn, 1), (56, .aload_n 0, 1), (57, .getfield 210, 3), (60, .ifCond .ne 5, 3), (63, .iconst 1, 1), (64, .ireturn, 1), (65, .aload_n 0, 1), (66, .getfield 244, 3), (69, .bipush 20, 2), (71, .imul, 1), (72, .aload_n 0, 1), (73, .getfield 39, 3), (76, .aload_n 0, 1), (77, .getfield 244, 3), (80, .iaload, 1), (81, .iadd, 1), (82, .bipush 32, 2), (84, .imul, 1), (85, .istore_n 2, 1), (86, .iconst 0, 1), (87, .istore_n 3, 1), (88, .iconst 0, 1), (89, .istore 4, 2), (91, .iload 4, 2), (93, .aload_n 0, 1), (94, .getfield 23, 3), (97, .aload_n 0, 1), (98, .getfield 244, 3), (101, .iaload, 1), (102, .if_icmp .ge 29, 3), (105, .aload_n 0, 1), (106, .getfield 45, 3), (109, .iload_n 2, 1), (110, .iload 4, 2), (112, .aload_n 0, 1), (113, .getfield 71, 3), (116, .iconst 0, 1), (117, .iload 4, 2), (119, .invokestatic 262, 3), (122, .invokestatic 266, 3), (125, .iinc 4 1, 3), (128, .goto (-37), 3), (131, .aload_n 0, 1), (132, .getfield 39, 3), (135, .aload_n 0, 1), (136, .getfield 244, 3), (139, .dup2, 1), (140, .iaload, 1), (141, .iconst 1, 1), (142, .iadd, 1), (143, .iastore, 1), (144, .iconst 0, 1), (145, .istore 4, 2), (147, .iload 4, 2), (149, .aload_n 0, 1), (150, .getfield 23, 3), (153, .aload_n 0, 1), (154, .getfield 244, 3), (157, .iaload, 1), (158, .if_icmp .ge 32, 3), (161, .iload_n 3, 1), (162, .ifCond .ne 16, 3), (165, .aload_n 0, 1), (166, .aload_n 0, 1), (167, .getfield 244, 3), (170, .iload 4, 2), (172, .invokevirtual 372, 3), (175, .ifCond .eq 7, 3), (178, .iconst 1, 1), (179, .goto 4, 3), (182, .iconst 0, 1), (183, .istore_n 3, 1), (184, .iinc 4 1, 3), (187, .goto (-40), 3), (190, .iload_n 3, 1), (191, .ifCond .ne 13, 3), (194, .aload_n 0, 1), (195, .bipush 7, 2), (197, .iload_n 1, 1), (198, .invokevirtual 206, 3), (201, .ifCond .eq 7, 3), (204, .iconst 1, 1), (205, .goto 4, 3), (208, .iconst 0, 1), (209, .ireturn, 1)]
def aj_c247 : List (Nat × Instr × Nat) := [(0, .iconst 0, 1), (1, .istore_n 3, 1), (2, .iload_n 3, 1), (3, .aload_n 0, 1), (4, .getfield 39, 3), (7, .iload_n 1, 1), (8, .iaload, 1), (9, .if_icmp .ge 31, 3), (12, .aload_n 0, 1), (13, .getfield 45, 3), (16, .iload_n 1, 1), (17, .bipush 20, 2), (19, .imul, 1), (20, .iload_n 3, 1), (21, .iadd, 1), (22, .bipush 32, 2), (24, .imul, 1), (25, .iload_n 2, 1), (26, .invokestatic 262, 3), (29, .ifCond .ne 5, 3), (32, .iconst 0, 1), (33, .ireturn, 1), (34, .iinc 3 1, 3), (37, .goto (-35), 3), (40, .iconst 1, 1), (41, .ireturn, 1)]
def aj_c248 : List (Nat × Instr × Nat) := [(0, .aload_n 0, 1), (1, .iconst 1, 1), (2, .invokevirtual 358, 3), (5, .ifCond .ne 5, 3), (8, .iconst 0, 1), (9, .ireturn, 1), (10, .aload_n 0, 1), (11, .getfield 220, 3), (14, .lstore_n 1, 1), (15, .aload_n 0, 1), (16, .bipush 61, 2), (18, .invokevirtual 335, 3), (21, .ifCond .eq 19, 3), (24, .aload_n 0, 1), (25, .invokevirtual 375, 3), (28, .ifCond .eq 12, 3), (31, .aload_n 0, 1), (32, .bipush 59, 2), (34, .invokevirtual 335, 3), (37, .ifCond .ne 5, 3), (40, .iconst 0, 1), (41, .ireturn, 1), (42, .aload_n 0, 1), (43, .getfield 244, 3), (46, .bipush 10, 2), (48, .imul, 1), (49, .aload_n 0, 1), (50, .getfield 29, 3), (53, .aload_n 0, 1), (54, .getfield 244, 3), (57, .iaload, 1), (58, .iadd, 1), (59, .istore_n 3, 1), (60, .aload_n 0, 1), (61, .bipush 20, 2), (63, .iload_n 3, 1), (64, .invokevirtual 378, 3), (67, .aload_n 0, 1), (68, .getfield 29, 3), (71, .aload_n 0, 1), (72, .getfield 244, 3), (75, .dup2, 1), (76, .iaload, 1), (77, .iconst 1, 1), (78, .iadd, 1), (79, .iastore, 1), (80, .iconst 1, 1), (81, .ireturn, 1)]
def aj_c249 : List (Nat × Instr × Nat) := [(0, .aload_n 0, 1), (1, .iconst 0, 1), (2, .putfield 385, 3), (5, .aload_n 0, 1), (6, .bipush 20, 2), (8, .putfield 388, 3), (11, .aload_n 0, 1), (12, .iconst 0, 1), (13, .putfield 191, 3), (16, .iconst 1, 1), (17, .istore_n 1, 1), (18, .iload_n 1, 1), (19, .ifCond .eq 312, 3), (22, .aload_n 0, 1), (23, .bipush 40, 2), (25, .invokevirtual 213, 3), (28, .ifCond .eq 62, 3), (31, .aload_n 0, 1), (32, .getfield 191, 3), (35, .bipush 8, 2), (37, .if_icmp .ne 13, 3), (40, .aload_n 0, 1), (41, .iconst 2, 1), (42, .aload_n 0, 1), (43, .getfield 157, 3), (46, .invokevirtual 206, 3), (49, .ireturn, 1), (50, .aload_n 0, 1), (51, .dup, 1), (52, .getfield 191, 3), (55, .iconst 1, 1), (56, .iadd, 1), (57, .putfield 191, 3), (60, .aload_n 0, 1), (61, .getfield 84, 3), (64, .aload_n 0, 1), (65, .getfield 385, 3), (68, .bipush 40, 2), (70, .iastore, 1), (71, .aload_n 0, 1), (72, .dup, 1), (73, .getfield 385, 3), (76, .iconst 1, 1), (77, .iadd, 1), (78, .putfield 385, 3), (81, .aload_n 0, 1), (82, .invokevirtual 216, 3), (85, .ifCond .ne (-63), 3), (88, .iconst 0, 1), (89, .ireturn, 1), (90, .aload_n 0, 1), (91, .aload_n 0, 1), (92, .getfield 388, 3), (95, .invokevirtual 403, 3), (98, .ifCond .ne 5, 3), (101, .iconst 0, 1), (102, .ireturn, 1), (103, .aload_n 0, 1), (104, .dup, 1), (105, .getfield 388, 3), (108, .iconst 1, 1), (109, .iadd, 1), (110, .putfield 388, 3), (113, .aload_n 0, 1), (114, .aload_n 0, 1), (115, .getfield 388, 3), (118, .iconst 1, 1), (119, .isub, 1), (120, .invokevirtual 406, 3), (123, .ifCond .ne 5, 3), (126, .iconst 0, 1), (127, .ireturn, 1), (128, .aload_n 0, 1), (129, .getfield 191, 3), (132, .ifCond .le 72, 3), (135, .aload_n 0, 1), (136, .bipush 41, 2), (138, .invokevirtual 213, 3), (141, .ifCond .eq 63, 3), (144, .aload_n 0, 1), (145, .bipush 40, 2), (147, .invokevirtual 409, 3), (150, .ifCond .ne 12, 3), (153, .aload_n 0, 1), (154, .invokevirtual 412, 3), (157, .ifCond .ne (-13), 3), (160, .iconst 0, 1), (161, .ireturn, 1), (162, .aload_n 0, 1), (163, .dup, 1), (164, .getfield 385, 3), (167, .iconst 1, 1), (168, .isub, 1), (169, .putfield 385, 3), (172, .aload_n 0, 1), (173, .dup, 1), (174, .getfield 191, 3), (177, .iconst 1, 1), (178, .isub, 1), (179, .putfield 191, 3), (182, .aload_n 0, 1), (183, .invokevirtual 216, 3), (186, .ifCond .eq 16, 3), (189, .aload_n 0, 1), (190, .aload_n 0, 1), (191, .getfield 388, 3), (194, .iconst 1, 1), (195, .isub, 1), (196, .invokevirtual 406, 3), (199, .ifCond .ne (-71), 3), (202, .iconst 0, 1), (203, .ireturn, 1), (204, .aload_n 0, 1), (205, .bipush 43, 2), (207, .invokevirtual 213, 3), (210, .ifCond .ne 21, 3), (213, .aload_n 0, 1), (214, .bipush 45, 2), (216, .invokevirtual 213, 3), (219, .ifCond .ne 12, 3), (222, .aload_n 0, 1), (223, .bipush 42, 2), (225, .invokevirtual 213, 3), (228, .ifCond .eq 7, 3), (231, .iconst 1, 1), (232, .goto 4, 3), (235, .iconst 0, 1), (236, .istore_n 1, 1), (237, .iload_n 1, 1), (238, .ifCond .eq (-220), 3), (241, .aload_n 0, 1), (242, .bipush 42, 2), (244, .invokevirtual 409, 3), (247, .ifCond .ne 30, 3), (250, .aload_n 0, 1), (251, .bipush 42, 2), (253, .invokevirtual 213, 3), (256, .ifCond .ne 30, 3), (259, .aload_n 0, 1), (260, .bipush 43, 2), (262, .invokevirtual 409, 3), (265, .ifCond .ne 12, 3), (268, .aload_n 0, 1), (269, .bipush 45, 2), (271, .invokevirtual 409, 3), (274, .ifCond .eq 12, 3), (277, .aload_n 0, 1), (278, .invokevirtual 412, 3), (281, .ifCond .ne (-40), 3), (284, .iconst 0, 1), (285, .ireturn, 1), (286, .aload_n 0, 1), (287, .getfield 84, 3), (290, .aload_n 0, 1), (291, .getfield 385, 3), (294, .aload_n 0, 1), (295, .getfield 160, 3), (298, .iastore, 1), (299, .aload_n 0, 1), (300, .getfield 87, 3), (303, .aload_n 0, 1), (304, .getfield 385, 3), (307, .aload_n 0, 1), (308, .getfield 157, 3), (311, .iastore, 1), (312, .aload_n 0, 1), (313, .dup, 1), (314, .getfield 385, 3), (317, .iconst 1, 1), (318, .iadd, 1), (319, .putfield 385, 3), (322, .aload_n 0, 1), (323, .invokevirtual 415, 3), (326, .ifCond .ne (-308), 3), (329, .iconst 0, 1), (330, .ireturn, 1), (331, .aload_n 0, 1), (332, .getfield 191, 3), (335, .ifCond .le 13, 3), (338, .aload_n 0, 1), (339, .iconst 1, 1), (340, .aload_n 0, 1), (341, .getfield 157, 3), (344, .invokevirtual 206, 3), (347, .ireturn, 1), (348, .aload_n 0, 1), (349, .getfield 385, 3), (352, .ifCond .le 12, 3), (355, .aload_n 0, 1), (356, .invokevirtual 412, 3), (359, .ifCond .ne (-11), 3), (362, .iconst 0, 1), (363, .ireturn, 1), (364, .iconst 1, 1), (365, .ireturn, 1)]
def aj_c250 : List (Nat × Instr × Nat) := [(0, .aload_n 0, 1), (1, .invokevirtual 241, 3), (4, .ifCond .ne 5, 3), (7, .iconst 0, 1), (8, .ireturn, 1), (9, .aload_n 0, 1), (10, .aload_n 0, 1), (11, .getfield 244, 3), (14, .aload_n 0, 1), (15, .getfield 220, 3), (18, .invokevirtual 355, 3), (21, .istore_n 2, 1), (22, .iload_n 2, 1), (23, .ifCond .ge 29, 3), (26, .aload_n 0, 1), (27, .iconst 4, 1), (28, .aload_n 0, 1), (29, .getfield 223, 3), (32, .invokevirtual 251, 3), (35, .aload_n 0, 1), (36, .getfield 54, 3), (39, .iload_n 1, 1), (40, .iconst (-1), 1), (41, .iastore, 1), (42, .aload_n 0, 1), (43, .getfield 51, 3), (46, .iload_n 1, 1), (47, .iconst 0, 1), (48, .iastore, 1), (49, .goto 17, 3), (52, .aload_n 0, 1), (53, .aload_n 0, 1), (54, .getfield 244, 3), (57, .bipush 10, 2), (59, .imul, 1), (60, .iload_n 2, 1), (61, .iadd, 1), (62, .iload_n 1, 1), (63, .invokevirtual 378, 3), (66, .iconst 1, 1), (67, .ireturn, 1)]
def aj_c251 : List (Nat × Instr × Nat) := [(0, .aload_n 0, 1), (1, .getfield 51, 3), (4, .iload_n 2, 1), (5, .aload_n 0, 1), (6, .getfield 51, 3), (9, .iload_n 1, 1), (10, .iaload, 1), (11, .iastore, 1), (12, .aload_n 0, 1), (13, .getfield 54, 3), (16, .iload_n 2, 1), (17, .aload_n 0, 1), (18, .getfield 54, 3), (21, .iload_n 1, 1), (22, .iaload, 1), (23, .iastore, 1), (24, .iconst 0, 1), (25, .istore_n 3, 1), (26, .iload_n 3, 1), (27, .bipush 8, 2), (29, .if_icmp .ge 31, 3), (32, .aload_n 0, 1), (33, .getfield 57, 3), (36, .iload_n 2, 1), (37, .bipush 8, 2), (39, .imul, 1), (40, .iload_n 3, 1), (41, .iadd, 1), (42, .aload_n 0, 1), (43, .getfield 57, 3), (46, .iload_n 1, 1), (47, .bipush 8, 2), (49, .imul, 1), (50, .iload_n 3, 1), (51, .iadd, 1), (52, .laload, 1), (53, .lastore, 1), (54, .iinc 3 1, 3), (57, .goto (-31), 3), (60, .iconst 0, 1), (61, .istore_n 3, 1), (62, .aload_n 0, 1), (63, .getfield 210, 3), (66, .ifCond .eq 27, 3), (69, .iload_n 3, 1), (70, .aload_n 0, 1), (71, .getfield 51, 3), (74, .iload_n 1, 1), (75, .iaload, 1), (76, .if_icmp .ge 17, 3), (79, .aload_n 0, 1), (80, .iload_n 1, 1), (81, .iload_n 3, 1), (82, .iload_n 2, 1), (83, .iload_n 3, 1), (84, .invokevirtual 381, 3), (87, .iinc 3 1, 3), (90, .goto (-28), 3), (93, .return_, 1)]
def aj_c252 : List (Nat × Instr × Nat) := [(0, .iconst 0, 1), (1, .istore 5, 2), (3, .iload 5, 2), (5, .bipush 8, 2), (7, .if_icmp .ge 59, 3), (10, .aload_n 0, 1), (11, .getfield 60, 3), (14, .iload_n 3, 1), (15, .iload 4, 2), (17, .iload 5, 2), (19, .invokestatic 366, 3), (22, .aload_n 0, 1), (23, .getfield 60, 3), (26, .iload_n 1, 1), (27, .iload_n 2, 1), (28, .iload 5, 2), (30, .invokestatic 366, 3), (33, .baload, 1), (34, .bastore, 1), (35, .aload_n 0, 1), (36, .getfield 64, 3), (39, .iload_n 3, 1), (40, .iload 4, 2), (42, .iload 5, 2), (44, .invokestatic 366, 3), (47, .aload_n 0, 1), (48, .getfield 64, 3), (51, .iload_n 1, 1), (52, .iload_n 2, 1), (53, .iload 5, 2), (55, .invokestatic 366, 3), (58, .iaload, 1), (59, .iastore, 1), (60, .iinc 5 1, 3), (63, .goto (-60), 3), (66, .iconst 0, 1), (67, .istore 5, 2), (69, .iload 5, 2), (71, .bipush 32, 2), (73, .if_icmp .ge 38, 3), (76, .aload_n 0, 1), (77, .getfield 68, 3), (80, .aload_n 0, 1), (81, .iload_n 3, 1), (82, .iload 4, 2), (84, .invokevirtual 347, 3), (87, .iload 5, 2), (89, .iadd, 1), (90, .aload_n 0, 1), (91, .getfield 68, 3), (94, .aload_n 0, 1), (95, .iload_n 1, 1), (96, .iload_n 2, 1), (97, .invokevirtual 347, 3), (100, .iload 5, 2), (102, .iadd, 1), (103, .iaload, 1), (104, .iastore, 1), (105, .iinc 5 1, 3), (108, .goto (-39), 3), (111, .return_, 1)]
def aj_c253 : List (Nat × Instr × Nat) := [(0, .iconst 1, 1), (1, .istore_n 2, 1), (2, .iload_n 2, 1), (3, .ifCond .eq 99, 3), (6, .aload_n 0, 1), (7, .bipush 91, 2), (9, .invokevirtual 213, 3), (12, .ifCond .ne 30, 3), (15, .aload_n 0, 1), (16, .bipush 58, 2), (18, .invokevirtual 213, 3), (21, .ifCond .ne 21, 3), (24, .aload_n 0, 1), (25, .bipush 123, 2), (27, .invokevirtual 213, 3), (30, .ifCond .ne 12, 3), (33, .aload_n 0, 1), (34, .bipush 35, 2), (36, .invokevirtual 213, 3), (39, .ifCond .eq 63, 3), (42, .aload_n 0, 1), (43, .bipush 91, 2), (45, .invokevirtual 213, 3), (48, .ifCond .eq 11, 3), (51, .aload_n 0, 1), (52, .iload_n 1, 1), (53, .invokevirtual 418, 3), (56, .goto 42, 3), (59, .aload_n 0, 1), (60, .bipush 58, 2), (62, .invokevirtual 213, 3), (65, .ifCond .eq 11, 3), (68, .aload_n 0, 1), (69, .iload_n 1, 1), (70, .invokevirtual 421, 3), (73, .goto 25, 3), (76, .aload_n 0, 1), (77, .bipush 123, 2), (79, .invokevirtual 213, 3), (82, .ifCond .eq 11, 3), (85, .aload_n 0, 1), (86, .iload_n 1, 1), (87, .invokevirtual 424, 3), (90, .goto 8, 3), (93, .aload_n 0, 1), (94, .iload_n 1, 1), (95, .invokevirtual 427, 3), (98, .istore_n 2, 1), (99, .goto (-97), 3), (102, .iload_n 2, 1), (103, .ireturn, 1)]
def aj_c254 : List (Nat × Instr × Nat) := [(0, .aload_n 0, 1), (1, .iconst 0, 1), (2, .putfield 448, 3), (5, .iconst 1, 1), (6, .istore_n 2, 1), (7, .iload_n 2, 1), (8, .ifCond .eq 170, 3), (11, .aload_n 0, 1), (12, .invokevirtual 216, 3), (15, .ifCond .eq 11, 3), (18, .aload_n 0, 1), (19, .iload_n 1, 1), (20, .invokevirtual 451, 3), (23, .ifCond .ne 5, 3), (26, .iconst 0, 1), (27, .ireturn, 1), (28, .aload_n 0, 1), (29, .getfield 439, 3), (32, .istore_n 3, 1), (33, .aload_n 0, 1), (34, .getfield 445, 3), (37, .istore 4, 2), (39, .aload_n 0, 1), (40, .invokevirtual 291, 3), (43, .ifCond .ne 5, 3), (46, .iconst 0, 1), (47, .ireturn, 1), (48, .aload_n 0, 1), (49, .getfield 259, 3), (52, .istore 5, 2), (54, .aload_n 0, 1), (55, .iload_n 1, 1), (56, .invokevirtual 451, 3), (59, .ifCond .ne 5, 3), (62, .iconst 0, 1), (63, .ireturn, 1), (64, .iconst 0, 1), (65, .istore 6, 2), (67, .aload_n 0, 1), (68, .getfield 210, 3), (71, .ifCond .eq 97, 3), (74, .iload 6, 2), (76, .aload_n 0, 1), (77, .getfield 51, 3), (80, .iload_n 1, 1), (81, .iaload, 1), (82, .if_icmp .ge 86, 3), (85, .iconst 0, 1), (86, .istore 7, 2), (88, .iload 7, 2), (90, .aload_n 0, 1), (91, .getfield 23, 3), (94, .aload_n 0, 1), (95, .getfield 244, 3), (98, .iaload, 1), (99, .if_icmp .ge 63, 3), (102, .iload 5, 2), (104, .aload_n 0, 1), (105, .iload_n 1, 1), (106, .iload 6, 2), (108, .iload_n 3, 1), (109, .iload 4, 2), (111, .iload 7, 2), (113, .invokevirtual 454, 3), (116, .aload_n 0, 1), (117, .iload_n 1, 1), (118, .iload 6, 2), (120, .aload_n 0, 1), (121, .getfield 439, 3), (124, .aload_n 0, 1), (125, .getfield 445, 3), (128, .iload 7, 2), (130, .invokevirtual 454, 3), (133, .invokestatic 298, 3), (136, .ifCond .ne 20, 3), (139, .aload_n 0, 1), (140, .getfield 68, 3), (143, .aload_n 0, 1), (144, .iload_n 1, 1), (145, .iload 6, 2), (147, .invokevirtual 347, 3), (150, .iload 7, 2), (152, .iconst 0, 1), (153, .invokestatic 266, 3), (156, .iinc 7 1, 3), (159, .goto (-71), 3), (162, .iinc 6 1, 3), (165, .goto (-98), 3), (168, .aload_n 0, 1), (169, .bipush 44, 2), (171, .invokevirtual 213, 3), (174, .istore_n 2, 1), (175, .goto (-168), 3), (178, .aload_n 0, 1), (179, .getfield 448, 3), (182, .ifCond .eq 10, 3), (185, .aload_n 0, 1), (186, .getfield 54, 3), (189, .iload_n 1, 1), (190, .iconst (-1), 1), (191, .iastore, 1), (192, .aload_n 0, 1), (193, .bipush 93, 2), (195, .invokevirtual 335, 3), (198, .ireturn, 1)]
def aj_c255 : List (Nat × Instr × Nat) := [(0, .aload_n 0, 1), (1, .getfield 163, 3), (4, .iconst 1, 1), (5, .if_icmp .ne 51, 3), (8, .aload_n 0, 1), (9, .invokevirtual 241, 3), (12, .ifCond .ne 5, 3), (15, .iconst 0, 1), (16, .ireturn, 1), (17, .aload_n 0, 1), (18, .iconst 2, 1), (19, .putfield 439, 3), (22, .aload_n 0, 1), (23, .aload_n 0, 1), (24, .iload_n 1, 1), (25, .invokevirtual 442, 3), (28, .putfield 445, 3), (31, .aload_n 0, 1), (32, .aload_n 0, 1), (33, .getfield 448, 3), (36, .ifCond .ne 10, 3), (39, .aload_n 0, 1), (40, .getfield 445, 3), (43, .ifCond .ge 7, 3), (46, .iconst 1, 1), (47, .goto 4, 3), (50, .iconst 0, 1), (51, .putfield 448, 3), (54, .iconst 1, 1), (55, .ireturn, 1), (56, .aload_n 0, 1), (57, .getfield 163, 3), (60, .iconst 2, 1), (61, .if_icmp .eq 31, 3), (64, .aload_n 0, 1), (65, .bipush 45, 2), (67, .invokevirtual 213, 3), (70, .ifCond .ne 22, 3), (73, .aload_n 0, 1), (74, .bipush 63, 2), (76, .invokevirtual 213, 3), (79, .ifCond .ne 13, 3), (82, .aload_n 0, 1), (83, .iconst 1, 1), (84, .aload_n 0, 1), (85, .getfield 157, 3), (88, .invokevirtual 206, 3), (91, .ireturn, 1), (92, .aload_n 0, 1), (93, .invokevirtual 288, 3), (96, .ifCond .ne 5, 3), (99, .iconst 0, 1), (100, .ireturn, 1), (101, .aload_n 0, 1), (102, .aload_n 0, 1), (103, .getfield 232, 3), (106, .putfield 439, 3), (109, .aload_n 0, 1), (110, .aload_n 0, 1), (111, .getfield 238, 3), (114, .putfield 445, 3), (117, .aload_n 0, 1), (118, .aload_n 0, 1), (119, .getfield 448, 3), (122, .ifCond .ne 18, 3), (125, .aload_n 0, 1), (126, .getfield 232, 3), (129, .iconst 1, 1), (130, .if_icmp .ne 14, 3), (133, .aload_n 0, 1), (134, .getfield 238, 3), (137, .ifCond .ge 7, 3), (140, .iconst 1, 1), (141, .goto 4, 3), (144, .iconst 0, 1), (145, .putfield 448, 3), (148, .iconst 1, 1), (149, .ireturn, 1)]
def aj_c256 : List (Nat × Instr × Nat) := [(0, .aload_n 0, 1), (1, .getfield 54, 3), (4, .iload_n 1, 1), (5, .iaload, 1), (6, .ifCond .ge 5, 3), (9, .iconst (-1), 1), (10, .ireturn, 1), (11, .aload_n 0, 1), (12, .iload_n 1, 1), (13, .aload_n 0, 1), (14, .getfield 220, 3), (17, .invokevirtual 363, 3), (20, .istore_n 2, 1), (21, .iload_n 2, 1), (22, .ifCond .ge 12, 3), (25, .aload_n 0, 1), (26, .iconst 4, 1), (27, .aload_n 0, 1), (28, .getfield 223, 3), (31, .invokevirtual 251, 3), (34, .iload_n 2, 1), (35, .ireturn, 1)]
def aj_c257 : List (Nat × Instr × Nat) := [(0, .iload_n 3, 1), (1, .iconst 2, 1), (2, .if_icmp .ne 16, 3), (5, .aload_n 0, 1), (6, .iload_n 1, 1), (7, .iload_n 2, 1), (8, .iload 4, 2), (10, .iload 5, 2), (12, .invokevirtual 433, 3), (15, .goto 16, 3), (18, .aload_n 0, 1), (19, .aload_n 0, 1), (20, .getfield 244, 3), (23, .iload_n 3, 1), (24, .iload 4, 2), (26, .iload 5, 2), (28, .invokevirtual 294, 3), (31, .ireturn, 1)]
def aj_c258 : List (Nat × Instr × Nat) := [(0, .iload_n 1, 1), (1, .iload_n 2, 1), (2, .iload_n 3, 1), (3, .invokestatic 366, 3), (6, .istore 5, 2), (8, .aload_n 0, 1), (9, .aload_n 0, 1), (10, .iload_n 1, 1), (11, .invokevirtual 430, 3), (14, .aload_n 0, 1), (15, .getfield 60, 3), (18, .iload 5, 2), (20, .baload, 1), (21, .aload_n 0, 1), (22, .getfield 64, 3), (25, .iload 5, 2), (27, .iaload, 1), (28, .iload 4, 2), (30, .invokevirtual 294, 3), (33, .ireturn, 1)]
def aj_c259 : List (Nat × Instr × Nat) := [(0, .iload_n 1, 1), (1, .bipush 20, 2), (3, .if_icmp .ge 10, 3), (6, .iload_n 1, 1), (7, .bipush 10, 2), (9, .idiv, 1), (10, .goto 7, 3), (13, .aload_n 0, 1), (14, .getfield 244, 3), (17, .ireturn, 1)]
def aj_c260 : List (Nat × Instr × Nat) := [(0, .aload_n 0, 1), (1, .invokevirtual 216, 3), (4, .ifCond .eq 12, 3), (7, .aload_n 0, 1), (8, .iload_n 1, 1), (9, .iconst 0, 1), (10, .invokevirtual 461, 3), (13, .ifCond .ne 5, 3), (16, .iconst 0, 1), (17, .ireturn, 1), (18, .aload_n 0, 1), (19, .getfield 54, 3), (22, .iload_n 1, 1), (23, .iaload, 1), (24, .ifCond .lt 143, 3), (27, .aload_n 0, 1), (28, .iload_n 1, 1), (29, .bipush 49, 2), (31, .invokevirtual 378, 3), (34, .iconst 0, 1), (35, .istore_n 2, 1), (36, .iload_n 2, 1), (37, .aload_n 0, 1), (38, .getfield 458, 3), (41, .if_icmp .ge 116, 3), (44, .aload_n 0, 1), (45, .getfield 57, 3), (48, .iload_n 1, 1), (49, .bipush 8, 2), (51, .imul, 1), (52, .iload_n 2, 1), (53, .iadd, 1), (54, .aload_n 0, 1), (55, .getfield 57, 3), (58, .sipush 392, 3), (61, .aload_n 0, 1), (62, .getfield 90, 3), (65, .iload_n 2, 1), (66, .iaload, 1), (67, .iadd, 1), (68, .laload, 1), (69, .lastore, 1), (70, .iconst 0, 1), (71, .istore_n 3, 1), (72, .aload_n 0, 1), (73, .getfield 210, 3), (76, .ifCond .eq 75, 3), (79, .iload_n 3, 1), (80, .aload_n 0, 1), (81, .getfield 51, 3), (84, .iload_n 1, 1), (85, .iaload, 1), (86, .if_icmp .ge 65, 3), (89, .aload_n 0, 1), (90, .getfield 60, 3), (93, .iload_n 1, 1), (94, .iload_n 3, 1), (95, .iload_n 2, 1), (96, .invokestatic 366, 3), (99, .aload_n 0, 1), (100, .getfield 60, 3), (103, .bipush 49, 2), (105, .iload_n 3, 1), (106, .aload_n 0, 1), (107, .getfield 90, 3), (110, .iload_n 2, 1), (111, .iaload, 1), (112, .invokestatic 366, 3), (115, .baload, 1), (116, .bastore, 1), (117, .aload_n 0, 1), (118, .getfield 64, 3), (121, .iload_n 1, 1), (122, .iload_n 3, 1), (123, .iload_n 2, 1), (124, .invokestatic 366, 3), (127, .aload_n 0, 1), (128, .getfield 64, 3), (131, .bipush 49, 2), (133, .iload_n 3, 1), (134, .aload_n 0, 1), (135, .getfield 90, 3), (138, .iload_n 2, 1), (139, .iaload, 1), (140, .invokestatic 366, 3), (143, .iaload, 1), (144, .iastore, 1), (145, .iinc 3 1, 3), (148, .goto (-76), 3), (151, .iinc 2 1, 3), (154, .goto (-118), 3), (157, .aload_n 0, 1), (158, .getfield 54, 3), (161, .iload_n 1, 1), (162, .aload_n 0, 1), (163, .getfield 458, 3), (166, .iastore, 1), (167, .iconst 1, 1), (168, .ireturn, 1)]
def aj_c261 : List (Nat × Instr × Nat) := [(0, .aload_n 0, 1), (1, .iconst 0, 1), (2, .putfield 458, 3), (5, .aload_n 0, 1), (6, .getfield 54, 3), (9, .iload_n 1, 1), (10, .iaload, 1), (11, .ifCond .ge 7, 3), (14, .iconst 1, 1), (15, .goto 4, 3), (18, .iconst 0, 1), (19, .istore_n 3, 1), (20, .aload_n 0, 1), (21, .bipush 40, 2), (23, .invokevirtual 335, 3), (26, .ifCond .ne 5, 3), (29, .iconst 0, 1), (30, .ireturn, 1), (31, .iload_n 2, 1), (32, .ifCond .eq 12, 3), (35, .aload_n 0, 1), (36, .bipush 41, 2), (38, .invokevirtual 213, 3), (41, .ifCond .ne 7, 3), (44, .iconst 1, 1), (45, .goto 4, 3), (48, .iconst 0, 1), (49, .istore 4, 2), (51, .iload 4, 2), (53, .ifCond .eq 130, 3), (56, .aload_n 0, 1), (57, .invokevirtual 241, 3), (60, .ifCond .ne 5, 3), (63, .iconst 0, 1), (64, .ireturn, 1), (65, .aload_n 0, 1), (66, .iload_n 1, 1), (67, .invokevirtual 442, 3), (70, .istore 5, 2), (72, .iconst 0, 1), (73, .istore 6, 2), (75, .iload 6, 2), (77, .aload_n 0, 1), (78, .getfield 458, 3), (81, .if_icmp .ge 37, 3), (84, .iload 5, 2), (86, .ifCond .lt 26, 3), (89, .aload_n 0, 1), (90, .getfield 90, 3), (93, .iload 6, 2), (95, .iaload, 1), (96, .iload 5, 2), (98, .if_icmp .ne 14, 3), (101, .aload_n 0, 1), (102, .iconst 3, 1), (103, .aload_n 0, 1), (104, .getfield 223, 3), (107, .invokevirtual 251, 3), (110, .iconst 1, 1), (111, .istore_n 3, 1), (112, .iinc 6 1, 3), (115, .goto (-40), 3), (118, .iload_n 3, 1), (119, .ifCond .ne 8, 3), (122, .iload 5, 2), (124, .ifCond .ge 7, 3), (127, .iconst 1, 1), (128, .goto 4, 3), (131, .iconst 0, 1), (132, .istore_n 3, 1), (133, .iload_n 3, 1), (134, .ifCond .ne 24, 3), (137, .aload_n 0, 1), (138, .getfield 90, 3), (141, .aload_n 0, 1), (142, .getfield 458, 3), (145, .iload 5, 2), (147, .iastore, 1), (148, .aload_n 0, 1), (149, .dup, 1), (150, .getfield 458, 3), (153, .iconst 1, 1), (154, .iadd, 1), (155, .putfield 458, 3), (158, .aload_n 0, 1), (159, .bipush 44, 2), (161, .invokevirtual 213, 3), (164, .istore 4, 2), (166, .iload 4, 2), (168, .ifCond .eq 12, 3), (171, .aload_n 0, 1), (172, .invokevirtual 216, 3), (175, .ifCond .ne 5, 3), (178, .iconst 0, 1), (179, .ireturn, 1), (180, .goto (-129), 3), (183, .iload_n 3, 1), (184, .ifCond .eq 10, 3), (187, .aload_n 0, 1), (188, .getfield 54, 3), (191, .iload_n 1, 1), (192, .iconst (-1), 1), (193, .iastore, 1), (194, .aload_n 0, 1), (195, .bipush 41, 2), (197, .invokevirtual 335, 3), (200, .ireturn, 1)]
def aj_c262 : List (Nat × Instr × Nat) := [(0, .aload_n 0, 1), (1, .invokevirtual 216, 3), (4, .ifCond .eq 10, 3), (7, .aload_n 0, 1), (8, .invokevirtual 241, 3), (11, .ifCond .ne 5, 3), (14, .iconst 0, 1), (15, .ireturn, 1), (16, .aload_n 0, 1), (17, .getfield 220, 3), (20, .lstore_n 2, 1), (21, .aload_n 0, 1), (22, .getfield 54, 3), (25, .iload_n 1, 1), (26, .iaload, 1), (27, .ifCond .ge 7, 3), (30, .iconst 1, 1), (31, .goto 4, 3), (34, .iconst 0, 1), (35, .istore 4, 2), (37, .iload 4, 2), (39, .ifCond .ne 24, 3), (42, .aload_n 0, 1), (43, .iload_n 1, 1), (44, .lload_n 2, 1), (45, .invokevirtual 363, 3), (48, .ifCond .lt 15, 3), (51, .aload_n 0, 1), (52, .iconst 3, 1), (53, .aload_n 0, 1), (54, .getfield 223, 3), (57, .invokevirtual 251, 3), (60, .iconst 1, 1), (61, .istore 4, 2), (63, .aload_n 0, 1), (64, .bipush 61, 2), (66, .invokevirtual 335, 3), (69, .ifCond .eq 10, 3), (72, .aload_n 0, 1), (73, .invokevirtual 241, 3), (76, .ifCond .ne 5, 3), (79, .iconst 0, 1), (80, .ireturn, 1), (81, .iload 4, 2), (83, .ifCond .eq 7, 3), (86, .iconst (-1), 1), (87, .goto 8, 3), (90, .aload_n 0, 1), (91, .iload_n 1, 1), (92, .invokevirtual 442, 3), (95, .istore 5, 2), (97, .iload 5, 2), (99, .ifCond .ge 13, 3), (102, .aload_n 0, 1), (103, .getfield 54, 3), (106, .iload_n 1, 1), (107, .iconst (-1), 1), (108, .iastore, 1), (109, .goto 16, 3), (112, .aload_n 0, 1), (113, .getfield 57, 3), (116, .iload_n 1, 1), (117, .bipush 8, 2), (119, .imul, 1), (120, .iload 5, 2), (122, .iadd, 1), (123, .lload_n 2, 1), (124, .lastore, 1), (125, .aload_n 0, 1), (126, .bipush 125, 2), (128, .invokevirtual 335, 3), (131, .ireturn, 1)]
def aj_c263 : List (Nat × Instr × Nat) := [(0, .aload_n 0, 1), (1, .getfield 157, 3), (4, .istore_n 2, 1), (5, .aload_n 0, 1), (6, .invokevirtual 415, 3), (9, .ifCond .eq 12, 3), (12, .aload_n 0, 1), (13, .iload_n 1, 1), (14, .iconst 1, 1), (15, .invokevirtual 461, 3), (18, .ifCond .ne 5, 3), (21, .iconst 0, 1), (22, .ireturn, 1), (23, .aload_n 0, 1), (24, .getfield 163, 3), (27, .iconst 4, 1), (28, .if_icmp .ne 19, 3), (31, .aload_n 0, 1), (32, .getfield 160, 3), (35, .bipush 6, 2), (37, .if_icmp .lt 10, 3), (40, .aload_n 0, 1), (41, .getfield 160, 3), (44, .goto 4, 3), (47, .iconst (-1), 1), (48, .istore_n 3, 1), (49, .iload_n 3, 1), (50, .ifCond .ge 13, 3), (53, .aload_n 0, 1), (54, .iconst 1, 1), (55, .aload_n 0, 1), (56, .getfield 157, 3), (59, .invokevirtual 206, 3), (62, .ireturn, 1), (63, .aload_n 0, 1), (64, .invokevirtual 216, 3), (67, .ifCond .ne 5, 3), (70, .iconst 0, 1), (71, .ireturn, 1), (72, .iconst 0, 1), (73, .istore 4, 2), (75, .aload_n 0, 1), (76, .getfield 54, 3), (79, .iload_n 1, 1), (80, .iaload, 1), (81, .ifCond .ge 7, 3), (84, .iconst 1, 1), (85, .goto 4, 3), (88, .iconst 0, 1), (89, .istore 5, 2), (91, .iload 5, 2), (93, .ifCond .ne 16, 3), (96, .aload_n 0, 1), (97, .getfield 458, 3), (100, .bipush 6, 2), (102, .if_icmp .ne 7, 3), (105, .iconst 1, 1), (106, .goto 4, 3), (109, .iconst 0, 1), (110, .istore 6, 2), (112, .iload 6, 2), (114, .ifCond .eq 9, 3), (117, .aload_n 0, 1), (118, .iconst 5, 1), (119, .iload_n 2, 1), (120, .invokevirtual 251, 3), (123, .iload_n 3, 1), (124, .bipush 6, 2), (126, .if_icmp .le 45, 3), (129, .aload_n 0, 1), (130, .invokevirtual 241, 3), (133, .ifCond .ne 5, 3), (136, .iconst 0, 1), (137, .ireturn, 1), (138, .iload 5, 2), (140, .ifCond .eq 7, 3), (143, .iconst (-1), 1), (144, .goto 8, 3), (147, .aload_n 0, 1), (148, .iload_n 1, 1), (149, .invokevirtual 442, 3), (152, .istore 4, 2), (154, .iload 5, 2), (156, .ifCond .ne 8, 3), (159, .iload 4, 2), (161, .ifCond .ge 7, 3), (164, .iconst 1, 1), (165, .goto 4, 3), (168, .iconst 0, 1), (169, .istore 5, 2), (171, .aload_n 0, 1), (172, .invokevirtual 241, 3), (175, .ifCond .ne 5, 3), (178, .iconst 0, 1), (179, .ireturn, 1), (180, .iconst 0, 1), (181, .istore 7, 2), (183, .iload 7, 2), (185, .aload_n 0, 1), (186, .getfield 458, 3), (189, .if_icmp .ge 51, 3), (192, .iload 5, 2), (194, .ifCond .ne 46, 3), (197, .aload_n 0, 1), (198, .getfield 57, 3), (201, .iload_n 1, 1), (202, .bipush 8, 2), (204, .imul, 1), (205, .aload_n 0, 1), (206, .getfield 90, 3), (209, .iload 7, 2), (211, .iaload, 1), (212, .iadd, 1), (213, .laload, 1), (214, .aload_n 0, 1), (215, .getfield 220, 3), (218, .lcmp, 1), (219, .ifCond .ne 15, 3), (222, .aload_n 0, 1), (223, .iconst 3, 1), (224, .aload_n 0, 1), (225, .getfield 223, 3), (228, .invokevirtual 251, 3), (231, .iconst 1, 1), (232, .istore 5, 2), (234, .iinc 7 1, 3), (237, .goto (-54), 3), (240, .iload 5, 2), (242, .ifCond .ne 8, 3), (245, .iload 6, 2), (247, .ifCond .eq 12, 3), (250, .aload_n 0, 1), (251, .getfield 54, 3), (254, .iload_n 1, 1), (255, .iconst (-1), 1), (256, .iastore, 1), (257, .iconst 1, 1), (258, .ireturn, 1), (259, .aload_n 0, 1), (260, .iload_n 1, 1), (261, .iload_n 3, 1), (262, .iload 4, 2), (264, .iload_n 2, 1), (265, .invokevirtual 465, 3), (268, .ireturn, 1)]
def aj_c264 : List (Nat × Instr × Nat) := [(0, .aload_n 0, 1), (1, .getfield 194, 3), (4, .bipush 40, 2), (6, .if_icmp .ne 13, 3), (9, .aload_n 0, 1), (10, .iconst 2, 1), (11, .aload_n 0, 1), (12, .getfield 157, 3), (15, .invokevirtual 206, 3), (18, .ireturn, 1), (19, .aload_n 0, 1), (20, .dup, 1), (21, .getfield 194, 3), (24, .iconst 1, 1), (25, .iadd, 1), (26, .putfield 194, 3), (29, .aload_n 0, 1), (30, .invokevirtual 216, 3), (33, .ireturn, 1)]
def aj_c265 : List (Nat × Instr × Nat) := [(0, .aload_n 0, 1), (1, .getfield 458, 3), (4, .iconst 1, 1), (5, .iadd, 1), (6, .istore 5, 2), (8, .aload_n 0, 1), (9, .getfield 51, 3), (12, .bipush 49, 2), (14, .iconst 0, 1), (15, .iastore, 1), (16, .aload_n 0, 1), (17, .getfield 54, 3), (20, .bipush 49, 2), (22, .iload 5, 2), (24, .iastore, 1), (25, .iconst 0, 1), (26, .istore 6, 2), (28, .iload 6, 2), (30, .aload_n 0, 1), (31, .getfield 458, 3), (34, .if_icmp .ge 37, 3), (37, .aload_n 0, 1), (38, .getfield 57, 3), (41, .sipush 392, 3), (44, .iload 6, 2), (46, .iadd, 1), (47, .aload_n 0, 1), (48, .getfield 57, 3), (51, .iload_n 1, 1), (52, .bipush 8, 2), (54, .imul, 1), (55, .aload_n 0, 1), (56, .getfield 90, 3), (59, .iload 6, 2), (61, .iaload, 1), (62, .iadd, 1), (63, .laload, 1), (64, .lastore, 1), (65, .iinc 6 1, 3), (68, .goto (-40), 3), (71, .aload_n 0, 1), (72, .getfield 57, 3), (75, .sipush 392, 3), (78, .aload_n 0, 1), (79, .getfield 458, 3), (82, .iadd, 1), (83, .aload_n 0, 1), (84, .getfield 220, 3), (87, .lastore, 1), (88, .iconst 0, 1), (89, .istore 6, 2), (91, .aload_n 0, 1), (92, .getfield 210, 3), (95, .ifCond .eq 91, 3), (98, .iload 6, 2), (100, .aload_n 0, 1), (101, .getfield 23, 3), (104, .aload_n 0, 1), (105, .getfield 244, 3), (108, .iaload, 1), (109, .if_icmp .ge 77, 3), (112, .aload_n 0, 1), (113, .iload_n 1, 1), (114, .iload 6, 2), (116, .invokevirtual 475, 3), (119, .iconst 0, 1), (120, .istore 7, 2), (122, .iload 7, 2), (124, .aload_n 0, 1), (125, .getfield 469, 3), (128, .if_icmp .ge 52, 3), (131, .aload_n 0, 1), (132, .iload_n 1, 1), (133, .iload 7, 2), (135, .iload 6, 2), (137, .invokevirtual 478, 3), (140, .ifCond .eq 34, 3), (143, .aload_n 0, 1), (144, .iload_n 1, 1), (145, .iload 7, 2), (147, .iload_n 2, 1), (148, .iload_n 3, 1), (149, .iload 6, 2), (151, .invokevirtual 481, 3), (154, .aload_n 0, 1), (155, .iload 5, 2), (157, .iload 6, 2), (159, .invokevirtual 485, 3), (162, .ifCond .ne 12, 3), (165, .aload_n 0, 1), (166, .bipush 6, 2), (168, .iload 4, 2), (170, .invokevirtual 206, 3), (173, .ireturn, 1), (174, .iinc 7 1, 3), (177, .goto (-55), 3), (180, .iinc 6 1, 3), (183, .goto (-92), 3), (186, .aload_n 0, 1), (187, .bipush 49, 2), (189, .iload_n 1, 1), (190, .invokevirtual 378, 3), (193, .iconst 1, 1), (194, .ireturn, 1)]
def aj_c266 : List (Nat × Instr × Nat) := [(0, .aload_n 0, 1), (1, .iconst 0, 1), (2, .putfield 469, 3), (5, .iconst 0, 1), (6, .istore_n 3, 1), (7, .iload_n 3, 1), (8, .aload_n 0, 1), (9, .getfield 51, 3), (12, .iload_n 1, 1), (13, .iaload, 1), (14, .if_icmp .ge 148, 3), (17, .aload_n 0, 1), (18, .getfield 68, 3), (21, .aload_n 0, 1), (22, .iload_n 1, 1), (23, .iload_n 3, 1), (24, .invokevirtual 347, 3), (27, .iload_n 2, 1), (28, .invokestatic 262, 3), (31, .ifCond .ne 6, 3), (34, .goto 122, 3), (37, .iconst 0, 1), (38, .istore 4, 2), (40, .iload 4, 2), (42, .aload_n 0, 1), (43, .getfield 469, 3), (46, .if_icmp .ge 27, 3), (49, .aload_n 0, 1), (50, .iload_n 1, 1), (51, .aload_n 0, 1), (52, .getfield 93, 3), (55, .iload 4, 2), (57, .iaload, 1), (58, .iload_n 3, 1), (59, .iload_n 2, 1), (60, .iload_n 2, 1), (61, .invokevirtual 472, 3), (64, .ifCond .ge 9, 3), (67, .iinc 4 1, 3), (70, .goto (-30), 3), (73, .iload 4, 2), (75, .aload_n 0, 1), (76, .getfield 469, 3), (79, .if_icmp .ge 24, 3), (82, .aload_n 0, 1), (83, .iload_n 1, 1), (84, .aload_n 0, 1), (85, .getfield 93, 3), (88, .iload 4, 2), (90, .iaload, 1), (91, .iload_n 3, 1), (92, .iload_n 2, 1), (93, .iload_n 2, 1), (94, .invokevirtual 472, 3), (97, .ifCond .ne 6, 3), (100, .goto 56, 3), (103, .aload_n 0, 1), (104, .getfield 469, 3), (107, .istore 5, 2), (109, .iload 5, 2), (111, .iload 4, 2), (113, .if_icmp .le 25, 3), (116, .aload_n 0, 1), (117, .getfield 93, 3), (120, .iload 5, 2), (122, .aload_n 0, 1), (123, .getfield 93, 3), (126, .iload 5, 2), (128, .iconst 1, 1), (129, .isub, 1), (130, .iaload, 1), (131, .iastore, 1), (132, .iinc 5 (-1), 3), (135, .goto (-26), 3), (138, .aload_n 0, 1), (139, .getfield 93, 3), (142, .iload 4, 2), (144, .iload_n 3, 1), (145, .iastore, 1), (146, .aload_n 0, 1), (147, .dup, 1), (148, .getfield 469, 3), (151, .iconst 1, 1), (152, .iadd, 1), (153, .putfield 469, 3), (156, .iinc 3 1, 3), (159, .goto (-152), 3), (162, .return_, 1)]
def aj_c267 : List (Nat × Instr × Nat) := [(0, .iconst 0, 1), (1, .istore 6, 2), (3, .iload 6, 2), (5, .aload_n 0, 1), (6, .getfield 54, 3), (9, .iload_n 1, 1), (10, .iaload, 1), (11, .if_icmp .ge 53, 3), (14, .aload_n 0, 1), (15, .iload_n 1, 1), (16, .iload_n 2, 1), (17, .iload 6, 2), (19, .iload 4, 2), (21, .invokevirtual 433, 3), (24, .istore 7, 2), (26, .aload_n 0, 1), (27, .iload_n 1, 1), (28, .iload_n 3, 1), (29, .iload 6, 2), (31, .iload 5, 2), (33, .invokevirtual 433, 3), (36, .istore 8, 2), (38, .iload 7, 2), (40, .iload 8, 2), (42, .if_icmp .eq 16, 3), (45, .iload 7, 2), (47, .iload 8, 2), (49, .if_icmp .ge 7, 3), (52, .iconst (-1), 1), (53, .goto 4, 3), (56, .iconst 1, 1), (57, .ireturn, 1), (58, .iinc 6 1, 3), (61, .goto (-58), 3), (64, .iconst 0, 1), (65, .ireturn, 1)]
def aj_c268 : List (Nat × Instr × Nat) := [(0, .iconst 0, 1), (1, .istore 4, 2), (3, .iload 4, 2), (5, .iload_n 2, 1), (6, .if_icmp .ge 33, 3), (9, .aload_n 0, 1), (10, .iload_n 1, 1), (11, .aload_n 0, 1), (12, .getfield 93, 3), (15, .iload 4, 2), (17, .iaload, 1), (18, .aload_n 0, 1), (19, .getfield 93, 3), (22, .iload_n 2, 1), (23, .iaload, 1), (24, .iload_n 3, 1), (25, .invokevirtual 488, 3), (28, .ifCond .eq 5, 3), (31, .iconst 0, 1), (32, .ireturn, 1), (33, .iinc 4 1, 3), (36, .goto (-33), 3), (39, .iconst 1, 1), (40, .ireturn, 1)]
def aj_c269 : List (Nat × Instr × Nat) := [(0, .iconst 0, 1), (1, .istore 5, 2), (3, .iload 5, 2), (5, .aload_n 0, 1), (6, .getfield 458, 3), (9, .if_icmp .ge 44, 3), (12, .aload_n 0, 1), (13, .iload_n 1, 1), (14, .iload_n 2, 1), (15, .aload_n 0, 1), (16, .getfield 90, 3), (19, .iload 5, 2), (21, .iaload, 1), (22, .iload 4, 2), (24, .invokevirtual 433, 3), (27, .aload_n 0, 1), (28, .iload_n 1, 1), (29, .iload_n 3, 1), (30, .aload_n 0, 1), (31, .getfield 90, 3), (34, .iload 5, 2), (36, .iaload, 1), (37, .iload 4, 2), (39, .invokevirtual 433, 3), (42, .if_icmp .eq 5, 3), (45, .iconst 0, 1), (46, .ireturn, 1), (47, .iinc 5 1, 3), (50, .goto (-47), 3), (53, .iconst 1, 1), (54, .ireturn, 1)]
def aj_c270 : List (Nat × Instr × Nat) := [(0, .iconst 0, 1), (1, .istore 6, 2), (3, .iload 6, 2), (5, .aload_n 0, 1), (6, .getfield 458, 3), (9, .if_icmp .ge 36, 3), (12, .aload_n 0, 1), (13, .getfield 96, 3), (16, .iload 6, 2), (18, .aload_n 0, 1), (19, .iload_n 1, 1), (20, .aload_n 0, 1), (21, .getfield 93, 3), (24, .iload_n 2, 1), (25, .iaload, 1), (26, .aload_n 0, 1), (27, .getfield 90, 3), (30, .iload 6, 2), (32, .iaload, 1), (33, .iload 5, 2), (35, .invokevirtual 433, 3), (38, .iastore, 1), (39, .iinc 6 1, 3), (42, .goto (-39), 3), (45, .iload_n 3, 1), (46, .bipush 6, 2), (48, .if_icmp .eq 9, 3), (51, .iload_n 3, 1), (52, .bipush 9, 2), (54, .if_icmp .ne 7, 3), (57, .iconst 0, 1), (58, .goto 18, 3), (61, .aload_n 0, 1), (62, .iload_n 1, 1), (63, .aload_n 0, 1), (64, .getfield 93, 3), (67, .iload_n 2, 1), (68, .iaload, 1), (69, .iload 4, 2), (71, .iload 5, 2), (73, .invokevirtual 433, 3), (76, .istore 6, 2), (78, .iload_n 2, 1), (79, .istore 7, 2), (81, .iload 7, 2), (83, .aload_n 0, 1), (84, .getfield 469, 3), (87, .if_icmp .ge 119, 3), (90, .aload_n 0, 1), (91, .iload_n 1, 1), (92, .aload_n 0, 1), (93, .getfield 93, 3), (96, .iload 7, 2), (98, .iaload, 1), (99, .aload_n 0, 1), (100, .getfield 93, 3), (103, .iload_n 2, 1), (104, .iaload, 1), (105, .iload 5, 2), (107, .invokevirtual 488, 3), (110, .ifCond .eq 90, 3), (113, .iload_n 3, 1), (114, .bipush 6, 2), (116, .if_icmp .ne 7, 3), (119, .iconst 1, 1), (120, .goto 19, 3), (123, .aload_n 0, 1), (124, .iload_n 1, 1), (125, .aload_n 0, 1), (126, .getfield 93, 3), (129, .iload 7, 2), (131, .iaload, 1), (132, .iload 4, 2), (134, .iload 5, 2), (136, .invokevirtual 433, 3), (139, .istore 8, 2), (141, .iload_n 3, 1), (142, .bipush 6, 2), (144, .if_icmp .eq 9, 3), (147, .iload_n 3, 1), (148, .bipush 9, 2), (150, .if_icmp .ne 11, 3), (153, .iload 6, 2), (155, .iload 8, 2), (157, .iadd, 1), (158, .goto 40, 3), (161, .iload_n 3, 1), (162, .bipush 7, 2), (164, .if_icmp .ne 20, 3), (167, .iload 8, 2), (169, .iload 6, 2), (171, .if_icmp .ge 8, 3), (174, .iload 8, 2), (176, .goto 22, 3), (179, .iload 6, 2), (181, .goto 17, 3), (184, .iload 8, 2), (186, .iload 6, 2), (188, .if_icmp .le 8, 3), (191, .iload 8, 2), (193, .goto 5, 3), (196, .iload 6, 2), (198, .istore 6, 2), (200, .iinc 7 1, 3), (203, .goto (-122), 3), (206, .aload_n 0, 1), (207, .getfield 96, 3), (210, .aload_n 0, 1), (211, .getfield 458, 3), (214, .iload 6, 2), (216, .iastore, 1), (217, .return_, 1)]
def aj_c271 : List (Nat × Instr × Nat) := [(0, .iconst 0, 1), (1, .istore_n 3, 1), (2, .iconst (-1), 1), (3, .istore 4, 2), (5, .iload_n 3, 1), (6, .aload_n 0, 1), (7, .getfield 51, 3), (10, .bipush 49, 2), (12, .iaload, 1), (13, .if_icmp .ge 27, 3), (16, .iload 4, 2), (18, .ifCond .ge 22, 3), (21, .aload_n 0, 1), (22, .iload_n 3, 1), (23, .iload_n 1, 1), (24, .invokevirtual 491, 3), (27, .istore 4, 2), (29, .iload 4, 2), (31, .ifCond .ge (-26), 3), (34, .iinc 3 1, 3), (37, .goto (-32), 3), (40, .iload_n 3, 1), (41, .aload_n 0, 1), (42, .getfield 51, 3), (45, .bipush 49, 2), (47, .iaload, 1), (48, .if_icmp .eq 8, 3), (51, .iload 4, 2), (53, .ifCond .le 144, 3), (56, .aload_n 0, 1), (57, .getfield 51, 3), (60, .bipush 49, 2), (62, .iaload, 1), (63, .bipush 30, 2), (65, .if_icmp .ne 5, 3), (68, .iconst 0, 1), (69, .ireturn, 1), (70, .aload_n 0, 1), (71, .getfield 51, 3), (74, .bipush 49, 2), (76, .iaload, 1), (77, .istore 5, 2), (79, .iload 5, 2), (81, .iload_n 3, 1), (82, .if_icmp .le 23, 3), (85, .aload_n 0, 1), (86, .bipush 49, 2), (88, .iload 5, 2), (90, .iconst 1, 1), (91, .isub, 1), (92, .bipush 49, 2), (94, .iload 5, 2), (96, .invokevirtual 381, 3), (99, .iinc 5 (-1), 3), (102, .goto (-23), 3), (105, .aload_n 0, 1), (106, .getfield 51, 3), (109, .bipush 49, 2), (111, .dup2, 1), (112, .iaload, 1), (113, .iconst 1, 1), (114, .iadd, 1), (115, .iastore, 1), (116, .iconst 0, 1), (117, .istore 5, 2), (119, .iload 5, 2), (121, .iload_n 1, 1), (122, .if_icmp .ge 43, 3), (125, .aload_n 0, 1), (126, .getfield 60, 3), (129, .bipush 49, 2), (131, .iload_n 3, 1), (132, .iload 5, 2), (134, .invokestatic 366, 3), (137, .iconst 0, 1), (138, .bastore, 1), (139, .aload_n 0, 1), (140, .getfield 64, 3), (143, .bipush 49, 2), (145, .iload_n 3, 1), (146, .iload 5, 2), (148, .invokestatic 366, 3), (151, .aload_n 0, 1), (152, .getfield 96, 3), (155, .iload 5, 2), (157, .iaload, 1), (158, .iastore, 1), (159, .iinc 5 1, 3), (162, .goto (-43), 3), (165, .iconst 0, 1), (166, .istore 5, 2), (168, .iload 5, 2), (170, .bipush 32, 2), (172, .if_icmp .ge 25, 3), (175, .aload_n 0, 1), (176, .getfield 68, 3), (179, .aload_n 0, 1), (180, .bipush 49, 2), (182, .iload_n 3, 1), (183, .invokevirtual 347, 3), (186, .iload 5, 2), (188, .iadd, 1), (189, .iconst 0, 1), (190, .iastore, 1), (191, .iinc 5 1, 3), (194, .goto (-26), 3), (197, .aload_n 0, 1), (198, .getfield 68, 3), (201, .aload_n 0, 1), (202, .bipush 49, 2), (204, .iload_n 3, 1), (205, .invokevirtual 347, 3), (208, .iload_n 2, 1), (209, .iconst 1, 1), (210, .invokestatic 266, 3), (213, .iconst 1, 1), (214, .ireturn, 1)]
def aj_c272 : List (Nat × Instr × Nat) := [(0, .iconst 0, 1), (1, .istore_n 3, 1), (2, .iload_n 3, 1), (3, .iload_n 2, 1), (4, .if_icmp .ge 51, 3), (7, .aload_n 0, 1), (8, .getfield 64, 3), (11, .bipush 49, 2), (13, .iload_n 1, 1), (14, .iload_n 3, 1), (15, .invokestatic 366, 3), (18, .iaload, 1), (19, .istore 4, 2), (21, .iload 4, 2), (23, .aload_n 0, 1), (24, .getfield 96, 3), (27, .iload_n 3, 1), (28, .iaload, 1), (29, .if_icmp .eq 20, 3), (32, .iload 4, 2), (34, .aload_n 0, 1), (35, .getfield 96, 3), (38, .iload_n 3, 1), (39, .iaload, 1), (40, .if_icmp .ge 7, 3), (43, .iconst (-1), 1), (44, .goto 4, 3), (47, .iconst 1, 1), (48, .ireturn, 1), (49, .iinc 3 1, 3), (52, .goto (-50), 3), (55, .iconst 0, 1), (56, .ireturn, 1)]
def aj_c273 : List (Nat × Instr × Nat) := [(0, .aload_n 0, 1), (1, .getfield 385, 3), (4, .ifCond .le 22, 3), (7, .aload_n 0, 1), (8, .getfield 84, 3), (11, .aload_n 0, 1), (12, .getfield 385, 3), (15, .iconst 1, 1), (16, .isub, 1), (17, .iaload, 1), (18, .iload_n 1, 1), (19, .if_icmp .ne 7, 3), (22, .iconst 1, 1), (23, .goto 4, 3), (26, .iconst 0, 1), (27, .ireturn, 1)]
def aj_c274 : List (Nat × Instr × Nat) := [(0, .aload_n 0, 1), (1, .dup, 1), (2, .getfield 385, 3), (5, .iconst 1, 1), (6, .isub, 1), (7, .putfield 385, 3), (10, .aload_n 0, 1), (11, .getfield 84, 3), (14, .aload_n 0, 1), (15, .getfield 385, 3), (18, .iaload, 1), (19, .istore_n 1, 1), (20, .aload_n 0, 1), (21, .getfield 87, 3), (24, .aload_n 0, 1), (25, .getfield 385, 3), (28, .iaload, 1), (29, .istore_n 2, 1), (30, .aload_n 0, 1), (31, .dup, 1), (32, .getfield 388, 3), (35, .iconst 1, 1), (36, .isub, 1), (37, .putfield 388, 3), (40, .aload_n 0, 1), (41, .getfield 388, 3), (44, .iconst 1, 1), (45, .isub, 1), (46, .istore_n 3, 1), (47, .iload_n 1, 1), (48, .bipush 42, 2), (50, .if_icmp .ne 10, 3), (53, .aload_n 0, 1), (54, .iload_n 3, 1), (55, .iload_n 2, 1), (56, .invokevirtual 391, 3), (59, .ireturn, 1), (60, .aload_n 0, 1), (61, .getfield 54, 3), (64, .iload_n 3, 1), (65, .iaload, 1), (66, .ifCond .lt 18, 3), (69, .aload_n 0, 1), (70, .getfield 54, 3), (73, .iload_n 3, 1), (74, .iconst 1, 1), (75, .iadd, 1), (76, .iaload, 1), (77, .ifCond .lt 7, 3), (80, .iconst 1, 1), (81, .goto 4, 3), (84, .iconst 0, 1), (85, .istore 4, 2), (87, .iload 4, 2), (89, .ifCond .eq 20, 3), (92, .aload_n 0, 1), (93, .iload_n 3, 1), (94, .iload_n 3, 1), (95, .iconst 1, 1), (96, .iadd, 1), (97, .invokevirtual 394, 3), (100, .ifCond .ne 9, 3), (103, .aload_n 0, 1), (104, .iconst 5, 1), (105, .iload_n 2, 1), (106, .invokevirtual 251, 3), (109, .iload 4, 2), (111, .ifCond .eq 14, 3), (114, .aload_n 0, 1), (115, .iload_n 3, 1), (116, .iload_n 3, 1), (117, .iconst 1, 1), (118, .iadd, 1), (119, .invokevirtual 394, 3), (122, .ifCond .ne 12, 3), (125, .aload_n 0, 1), (126, .getfield 54, 3), (129, .iload_n 3, 1), (130, .iconst (-1), 1), (131, .iastore, 1), (132, .iconst 1, 1), (133, .ireturn, 1), (134, .aload_n 0, 1), (135, .getfield 210, 3), (138, .ifCond .eq 29, 3), (141, .iload_n 1, 1), (142, .bipush 43, 2), (144, .if_icmp .ne 15, 3), (147, .aload_n 0, 1), (148, .iload_n 3, 1), (149, .iload_n 2, 1), (150, .invokevirtual 397, 3), (153, .ifCond .eq 18, 3), (156, .goto 11, 3), (159, .aload_n 0, 1), (160, .iload_n 3, 1), (161, .invokevirtual 400, 3), (164, .ifCond .eq 7, 3), (167, .iconst 1, 1), (168, .goto 4, 3), (171, .iconst 0, 1), (172, .ireturn, 1)]
def aj_c275 : List (Nat × Instr × Nat) := [(0, .aload_n 0, 1), (1, .getfield 54, 3), (4, .iload_n 1, 1), (5, .iaload, 1), (6, .ifCond .lt 14, 3), (9, .aload_n 0, 1), (10, .getfield 54, 3), (13, .iload_n 1, 1), (14, .iconst 1, 1), (15, .iadd, 1), (16, .iaload, 1), (17, .ifCond .ge 7, 3), (20, .iconst (-1), 1), (21, .goto 9, 3), (24, .aload_n 0, 1), (25, .getfield 54, 3), (28, .iload_n 1, 1), (29, .iaload, 1), (30, .istore_n 3, 1), (31, .iconst 0, 1), (32, .istore 4, 2), (34, .iload_n 3, 1), (35, .ifCond .lt 47, 3), (38, .iload 4, 2), (40, .aload_n 0, 1), (41, .getfield 54, 3), (44, .iload_n 1, 1), (45, .iconst 1, 1), (46, .iadd, 1), (47, .iaload, 1), (48, .if_icmp .ge 34, 3), (51, .aload_n 0, 1), (52, .iload_n 1, 1), (53, .aload_n 0, 1), (54, .getfield 57, 3), (57, .iload_n 1, 1), (58, .iconst 1, 1), (59, .iadd, 1), (60, .bipush 8, 2), (62, .imul, 1), (63, .iload 4, 2), (65, .iadd, 1), (66, .laload, 1), (67, .invokevirtual 363, 3), (70, .ifCond .ge 6, 3), (73, .iinc 3 1, 3), (76, .iinc 4 1, 3), (79, .goto (-45), 3), (82, .iload_n 3, 1), (83, .bipush 6, 2), (85, .if_icmp .le 11, 3), (88, .aload_n 0, 1), (89, .iconst 5, 1), (90, .iload_n 2, 1), (91, .invokevirtual 251, 3), (94, .iconst (-1), 1), (95, .istore_n 3, 1), (96, .iload_n 3, 1), (97, .ifCond .ge 12, 3), (100, .aload_n 0, 1), (101, .getfield 54, 3), (104, .iload_n 1, 1), (105, .iconst (-1), 1), (106, .iastore, 1), (107, .iconst 1, 1), (108, .ireturn, 1), (109, .aload_n 0, 1), (110, .iload_n 1, 1), (111, .iload_n 2, 1), (112, .invokevirtual 436, 3), (115, .ireturn, 1)]
def aj_c276 : List (Nat × Instr × Nat) := [(0, .iload_n 1, 1), (1, .iconst 1, 1), (2, .iadd, 1), (3, .istore_n 3, 1), (4, .aload_n 0, 1), (5, .getfield 210, 3), (8, .ifCond .eq 29, 3), (11, .aload_n 0, 1), (12, .getfield 51, 3), (15, .iload_n 1, 1), (16, .iaload, 1), (17, .aload_n 0, 1), (18, .getfield 51, 3), (21, .iload_n 3, 1), (22, .iaload, 1), (23, .imul, 1), (24, .bipush 30, 2), (26, .if_icmp .le 11, 3), (29, .aload_n 0, 1), (30, .bipush 6, 2), (32, .iload_n 2, 1), (33, .invokevirtual 206, 3), (36, .ireturn, 1), (37, .aload_n 0, 1), (38, .getfield 54, 3), (41, .iload_n 1, 1), (42, .iaload, 1), (43, .istore 4, 2), (45, .aload_n 0, 1), (46, .getfield 54, 3), (49, .bipush 49, 2), (51, .iload 4, 2), (53, .iastore, 1), (54, .aload_n 0, 1), (55, .getfield 51, 3), (58, .bipush 49, 2), (60, .aload_n 0, 1), (61, .getfield 210, 3), (64, .ifCond .eq 19, 3), (67, .aload_n 0, 1), (68, .getfield 51, 3), (71, .iload_n 1, 1), (72, .iaload, 1), (73, .aload_n 0, 1), (74, .getfield 51, 3), (77, .iload_n 3, 1), (78, .iaload, 1), (79, .imul, 1), (80, .goto 4, 3), (83, .iconst 0, 1), (84, .iastore, 1), (85, .iconst 0, 1), (86, .istore 5, 2), (88, .iload 5, 2), (90, .iload 4, 2), (92, .if_icmp .ge 32, 3), (95, .aload_n 0, 1), (96, .getfield 57, 3), (99, .sipush 392, 3), (102, .iload 5, 2), (104, .iadd, 1), (105, .aload_n 0, 1), (106, .getfield 57, 3), (109, .iload_n 1, 1), (110, .bipush 8, 2), (112, .imul, 1), (113, .iload 5, 2), (115, .iadd, 1), (116, .laload, 1), (117, .lastore, 1), (118, .iinc 5 1, 3), (121, .goto (-33), 3), (124, .iconst 0, 1), (125, .istore 5, 2), (127, .iload 5, 2), (129, .aload_n 0, 1), (130, .getfield 51, 3), (133, .bipush 49, 2), (135, .iaload, 1), (136, .if_icmp .ge 27, 3), (139, .aload_n 0, 1), (140, .iload_n 1, 1), (141, .iload 5, 2), (143, .aload_n 0, 1), (144, .getfield 51, 3), (147, .iload_n 3, 1), (148, .iaload, 1), (149, .idiv, 1), (150, .bipush 49, 2), (152, .iload 5, 2), (154, .invokevirtual 381, 3), (157, .iinc 5 1, 3), (160, .goto (-33), 3), (163, .iconst 0, 1), (164, .istore 5, 2), (166, .iload 5, 2), (168, .aload_n 0, 1), (169, .getfield 54, 3), (172, .iload_n 3, 1), (173, .iaload, 1), (174, .if_icmp .ge 228, 3), (177, .aload_n 0, 1), (178, .iload_n 1, 1), (179, .aload_n 0, 1), (180, .getfield 57, 3), (183, .iload_n 3, 1), (184, .bipush 8, 2), (186, .imul, 1), (187, .iload 5, 2), (189, .iadd, 1), (190, .laload, 1), (191, .invokevirtual 363, 3), (194, .istore 6, 2), (196, .iconst 0, 1), (197, .istore 7, 2), (199, .iload 7, 2), (201, .aload_n 0, 1), (202, .getfield 51, 3), (205, .bipush 49, 2), (207, .iaload, 1), (208, .if_icmp .ge 157, 3), (211, .iload 7, 2), (213, .aload_n 0, 1), (214, .getfield 51, 3), (217, .iload_n 3, 1), (218, .iaload, 1), (219, .irem, 1), (220, .istore 8, 2), (222, .iconst 0, 1), (223, .istore 9, 2), (225, .iload 9, 2), (227, .aload_n 0, 1), (228, .getfield 23, 3), (231, .aload_n 0, 1), (232, .getfield 244, 3), (235, .iaload, 1), (236, .if_icmp .ge 64, 3), (239, .iload 6, 2), (241, .ifCond .lt 59, 3), (244, .aload_n 0, 1), (245, .iload_n 1, 1), (246, .iload 7, 2), (248, .aload_n 0, 1), (249, .getfield 51, 3), (252, .iload_n 3, 1), (253, .iaload, 1), (254, .idiv, 1), (255, .iload 6, 2), (257, .iload 9, 2), (259, .invokevirtual 433, 3), (262, .aload_n 0, 1), (263, .iload_n 3, 1), (264, .iload 8, 2), (266, .iload 5, 2), (268, .iload 9, 2), (270, .invokevirtual 433, 3), (273, .if_icmp .eq 21, 3), (276, .aload_n 0, 1), (277, .getfield 68, 3), (280, .aload_n 0, 1), (281, .bipush 49, 2), (283, .iload 7, 2), (285, .invokevirtual 347, 3), (288, .iload 9, 2), (290, .iconst 0, 1), (291, .invokestatic 266, 3), (294, .iinc 9 1, 3), (297, .goto (-72), 3), (300, .iload 6, 2), (302, .ifCond .ge 57, 3), (305, .aload_n 0, 1), (306, .getfield 60, 3), (309, .bipush 49, 2), (311, .iload 7, 2), (313, .iload 4, 2), (315, .invokestatic 366, 3), (318, .aload_n 0, 1), (319, .getfield 60, 3), (322, .iload_n 3, 1), (323, .iload 8, 2), (325, .iload 5, 2), (327, .invokestatic 366, 3), (330, .baload, 1), (331, .bastore, 1), (332, .aload_n 0, 1), (333, .getfield 64, 3), (336, .bipush 49, 2), (338, .iload 7, 2), (340, .iload 4, 2), (342, .invokestatic 366, 3), (345, .aload_n 0, 1), (346, .getfield 64, 3), (349, .iload_n 3, 1), (350, .iload 8, 2), (352, .iload 5, 2), (354, .invokestatic 366, 3), (357, .iaload, 1), (358, .iastore, 1), (359, .iinc 7 1, 3), (362, .goto (-163), 3), (365, .iload 6, 2), (367, .ifCond .ge 29, 3), (370, .aload_n 0, 1), (371, .getfield 57, 3), (374, .sipush 392, 3), (377, .iload 4, 2), (379, .iadd, 1), (380, .aload_n 0, 1), (381, .getfield 57, 3), (384, .iload_n 3, 1), (385, .bipush 8, 2), (387, .imul, 1), (388, .iload 5, 2), (390, .iadd, 1), (391, .laload, 1), (392, .lastore, 1), (393, .iinc 4 1, 3), (396, .iinc 5 1, 3), (399, .goto (-233), 3), (402, .iconst 0, 1), (403, .istore 5, 2), (405, .iload 5, 2), (407, .aload_n 0, 1), (408, .getfield 51, 3), (411, .bipush 49, 2), (413, .iaload, 1), (414, .if_icmp .ge 66, 3), (417, .iconst 0, 1), (418, .istore 6, 2), (420, .iload 6, 2), (422, .bipush 32, 2), (424, .if_icmp .ge 50, 3), (427, .aload_n 0, 1), (428, .getfield 68, 3), (431, .aload_n 0, 1), (432, .bipush 49, 2), (434, .iload 5, 2), (436, .invokevirtual 347, 3), (439, .iload 6, 2), (441, .iadd, 1), (442, .dup2, 1), (443, .iaload, 1), (444, .aload_n 0, 1), (445, .getfield 68, 3), (448, .aload_n 0, 1), (449, .iload_n 3, 1), (450, .iload 5, 2), (452, .aload_n 0, 1), (453, .getfield 51, 3), (456, .iload_n 3, 1), (457, .iaload, 1), (458, .irem, 1), (459, .invokevirtual 347, 3), (462, .iload 6, 2), (464, .iadd, 1), (465, .iaload, 1), (466, .iand, 1), (467, .iastore, 1), (468, .iinc 6 1, 3), (471, .goto (-51), 3), (474, .iinc 5 1, 3), (477, .goto (-72), 3), (480, .aload_n 0, 1), (481, .getfield 54, 3), (484, .bipush 49, 2), (486, .iload 4, 2), (488, .iastore, 1), (489, .aload_n 0, 1), (490, .bipush 49, 2), (492, .iload_n 1, 1), (493, .invokevirtual 378, 3), (496, .iconst 1, 1), (497, .ireturn, 1)]
def aj_c277 : List (Nat × Instr × Nat) := [(0, .aload_n 0, 1), (1, .getfield 54, 3), (4, .iload_n 1, 1), (5, .iaload, 1), (6, .aload_n 0, 1), (7, .getfield 54, 3), (10, .iload_n 2, 1), (11, .iaload, 1), (12, .if_icmp .eq 5, 3), (15, .iconst 0, 1), (16, .ireturn, 1), (17, .iconst 0, 1), (18, .istore_n 3, 1), (19, .iload_n 3, 1), (20, .aload_n 0, 1), (21, .getfield 54, 3), (24, .iload_n 1, 1), (25, .iaload, 1), (26, .if_icmp .ge 37, 3), (29, .aload_n 0, 1), (30, .getfield 57, 3), (33, .iload_n 1, 1), (34, .bipush 8, 2), (36, .imul, 1), (37, .iload_n 3, 1), (38, .iadd, 1), (39, .laload, 1), (40, .aload_n 0, 1), (41, .getfield 57, 3), (44, .iload_n 2, 1), (45, .bipush 8, 2), (47, .imul, 1), (48, .iload_n 3, 1), (49, .iadd, 1), (50, .laload, 1), (51, .lcmp, 1), (52, .ifCond .eq 5, 3), (55, .iconst 0, 1), (56, .ireturn, 1), (57, .iinc 3 1, 3), (60, .goto (-41), 3), (63, .iconst 1, 1), (64, .ireturn, 1)]
def aj_c278 : List (Nat × Instr × Nat) := [(0, .aload_n 0, 1), (1, .getfield 51, 3), (4, .iload_n 1, 1), (5, .iaload, 1), (6, .aload_n 0, 1), (7, .getfield 51, 3), (10, .iload_n 1, 1), (11, .iconst 1, 1), (12, .iadd, 1), (13, .iaload, 1), (14, .iadd, 1), (15, .bipush 30, 2), (17, .if_icmp .le 11, 3), (20, .aload_n 0, 1), (21, .bipush 6, 2), (23, .iload_n 2, 1), (24, .invokevirtual 206, 3), (27, .ireturn, 1), (28, .iconst 0, 1), (29, .istore_n 3, 1), (30, .iload_n 3, 1), (31, .aload_n 0, 1), (32, .getfield 51, 3), (35, .iload_n 1, 1), (36, .iconst 1, 1), (37, .iadd, 1), (38, .iaload, 1), (39, .if_icmp .ge 26, 3), (42, .aload_n 0, 1), (43, .iload_n 1, 1), (44, .iconst 1, 1), (45, .iadd, 1), (46, .iload_n 3, 1), (47, .iload_n 1, 1), (48, .aload_n 0, 1), (49, .getfield 51, 3), (52, .iload_n 1, 1), (53, .iaload, 1), (54, .iload_n 3, 1), (55, .iadd, 1), (56, .invokevirtual 381, 3), (59, .iinc 3 1, 3), (62, .goto (-32), 3), (65, .aload_n 0, 1), (66, .getfield 51, 3), (69, .iload_n 1, 1), (70, .dup2, 1), (71, .iaload, 1), (72, .aload_n 0, 1), (73, .getfield 51, 3), (76, .iload_n 1, 1), (77, .iconst 1, 1), (78, .iadd, 1), (79, .iaload, 1), (80, .iadd, 1), (81, .iastore, 1), (82, .iconst 1, 1), (83, .ireturn, 1)]
def aj_c279 : List (Nat × Instr × Nat) := [(0, .iconst 0, 1), (1, .istore_n 2, 1), (2, .iload_n 2, 1), (3, .aload_n 0, 1), (4, .getfield 23, 3), (7, .aload_n 0, 1), (8, .getfield 244, 3), (11, .iaload, 1), (12, .if_icmp .ge 161, 3), (15, .iconst 0, 1), (16, .istore_n 3, 1), (17, .iload_n 3, 1), (18, .aload_n 0, 1), (19, .getfield 51, 3), (22, .iload_n 1, 1), (23, .iaload, 1), (24, .if_icmp .ge 143, 3), (27, .iconst 0, 1), (28, .istore 4, 2), (30, .iload 4, 2), (32, .aload_n 0, 1), (33, .getfield 51, 3), (36, .iload_n 1, 1), (37, .iconst 1, 1), (38, .iadd, 1), (39, .iaload, 1), (40, .if_icmp .ge 121, 3), (43, .aload_n 0, 1), (44, .getfield 68, 3), (47, .aload_n 0, 1), (48, .iload_n 1, 1), (49, .iload_n 3, 1), (50, .invokevirtual 347, 3), (53, .iload_n 2, 1), (54, .invokestatic 262, 3), (57, .ifCond .eq 104, 3), (60, .aload_n 0, 1), (61, .getfield 68, 3), (64, .aload_n 0, 1), (65, .iload_n 1, 1), (66, .iconst 1, 1), (67, .iadd, 1), (68, .iload 4, 2), (70, .invokevirtual 347, 3), (73, .iload_n 2, 1), (74, .invokestatic 262, 3), (77, .istore 5, 2), (79, .iconst 0, 1), (80, .istore 6, 2), (82, .iload 6, 2), (84, .aload_n 0, 1), (85, .getfield 54, 3), (88, .iload_n 1, 1), (89, .iaload, 1), (90, .if_icmp .ge 45, 3), (93, .iload 5, 2), (95, .ifCond .eq 40, 3), (98, .aload_n 0, 1), (99, .iload_n 1, 1), (100, .iload_n 3, 1), (101, .iload 6, 2), (103, .iload_n 2, 1), (104, .invokevirtual 433, 3), (107, .aload_n 0, 1), (108, .iload_n 1, 1), (109, .iconst 1, 1), (110, .iadd, 1), (111, .iload 4, 2), (113, .iload 6, 2), (115, .iload_n 2, 1), (116, .invokevirtual 433, 3), (119, .if_icmp .ne 7, 3), (122, .iconst 1, 1), (123, .goto 4, 3), (126, .iconst 0, 1), (127, .istore 5, 2), (129, .iinc 6 1, 3), (132, .goto (-50), 3), (135, .iload 5, 2), (137, .ifCond .eq 18, 3), (140, .aload_n 0, 1), (141, .getfield 68, 3), (144, .aload_n 0, 1), (145, .iload_n 1, 1), (146, .iload_n 3, 1), (147, .invokevirtual 347, 3), (150, .iload_n 2, 1), (151, .iconst 0, 1), (152, .invokestatic 266, 3), (155, .iinc 4 1, 3), (158, .goto (-128), 3), (161, .iinc 3 1, 3), (164, .goto (-147), 3), (167, .iinc 2 1, 3), (170, .goto (-168), 3), (173, .iconst 1, 1), (174, .ireturn, 1)]
def aj_c280 : List (Nat × Instr × Nat) := [(0, .aload_n 0, 1), (1, .getfield 77, 3), (4, .ireturn, 1)]
def aj_c281 : List (Nat × Instr × Nat) := [(0, .aload_n 0, 1), (1, .invokevirtual 494, 3), (4, .ifCond .ne 5, 3), (7, .iconst (-1), 1), (8, .ireturn, 1), (9, .iconst 0, 1), (10, .istore_n 1, 1), (11, .iconst 0, 1), (12, .istore_n 2, 1), (13, .iload_n 2, 1), (14, .aload_n 0, 1), (15, .getfield 23, 3), (18, .aload_n 0, 1), (19, .getfield 302, 3), (22, .iaload, 1), (23, .if_icmp .ge 41, 3), (26, .aload_n 0, 1), (27, .aload_n 0, 1), (28, .getfield 302, 3), (31, .iload_n 2, 1), (32, .invokevirtual 372, 3), (35, .ifCond .eq 21, 3), (38, .aload_n 0, 1), (39, .getfield 71, 3), (42, .iconst 0, 1), (43, .iload_n 2, 1), (44, .invokestatic 262, 3), (47, .ifCond .eq 9, 3), (50, .iload_n 1, 1), (51, .iconst 1, 1), (52, .iadd, 1), (53, .goto 4, 3), (56, .iload_n 1, 1), (57, .istore_n 1, 1), (58, .iinc 2 1, 3), (61, .goto (-48), 3), (64, .iload_n 1, 1), (65, .ifCond .ne 6, 3), (68, .bipush (-2), 2), (70, .ireturn, 1), (71, .aload_n 0, 1), (72, .getfield 42, 3), (75, .aload_n 0, 1), (76, .getfield 302, 3), (79, .iaload, 1), (80, .bipush 8, 2), (82, .if_icmp .ne 6, 3), (85, .bipush (-3), 2), (87, .ireturn, 1), (88, .aload_n 0, 1), (89, .getfield 302, 3), (92, .bipush 20, 2), (94, .imul, 1), (95, .aload_n 0, 1), (96, .getfield 39, 3), (99, .aload_n 0, 1), (100, .getfield 302, 3), (103, .iaload, 1), (104, .iadd, 1), (105, .bipush 32, 2), (107, .imul, 1), (108, .istore_n 2, 1), (109, .iconst 0, 1), (110, .istore_n 3, 1), (111, .iload_n 3, 1), (112, .bipush 32, 2), (114, .if_icmp .ge 23, 3), (117, .aload_n 0, 1), (118, .getfield 45, 3), (121, .iload_n 2, 1), (122, .iload_n 3, 1), (123, .iadd, 1), (124, .aload_n 0, 1), (125, .getfield 71, 3), (128, .iload_n 3, 1), (129, .iaload, 1), (130, .iastore, 1), (131, .iinc 3 1, 3), (134, .goto (-23), 3), (137, .aload_n 0, 1), (138, .getfield 39, 3), (141, .aload_n 0, 1), (142, .getfield 302, 3), (145, .dup2, 1), (146, .iaload, 1), (147, .iconst 1, 1), (148, .iadd, 1), (149, .iastore, 1), (150, .aload_n 0, 1), (151, .getfield 42, 3), (154, .aload_n 0, 1), (155, .getfield 302, 3), (158, .dup2, 1), (159, .iaload, 1), (160, .iconst 1, 1), (161, .iadd, 1), (162, .iastore, 1), (163, .aload_n 0, 1), (164, .dup, 1), (165, .getfield 311, 3), (168, .lconst 1, 1), (169, .ladd, 1), (170, .putfield 311, 3), (173, .iload_n 1, 1), (174, .ireturn, 1)]
def aj_c282 : List (Nat × Instr × Nat) := [(0, .aload_n 0, 1), (1, .iconst 0, 1), (2, .putfield 203, 3), (5, .aload_n 0, 1), (6, .iconst (-1), 1), (7, .putfield 77, 3), (10, .aload_n 0, 1), (11, .aload_n 0, 1), (12, .getfield 302, 3), (15, .putfield 244, 3), (18, .aload_n 0, 1), (19, .iconst 0, 1), (20, .putfield 210, 3), (23, .aload_n 0, 1), (24, .invokevirtual 314, 3), (27, .aload_n 0, 1), (28, .invokevirtual 369, 3), (31, .ifCond .eq 33, 3), (34, .aload_n 0, 1), (35, .getfield 163, 3), (38, .ifCond .eq 15, 3), (41, .aload_n 0, 1), (42, .iconst 1, 1), (43, .aload_n 0, 1), (44, .getfield 157, 3), (47, .invokevirtual 206, 3), (50, .ifCond .eq 14, 3), (53, .aload_n 0, 1), (54, .getfield 203, 3), (57, .ifCond .ne 7, 3), (60, .iconst 1, 1), (61, .goto 4, 3), (64, .iconst 0, 1), (65, .istore_n 1, 1), (66, .iload_n 1, 1), (67, .ifCond .eq 17, 3), (70, .aload_n 0, 1), (71, .iconst 1, 1), (72, .putfield 210, 3), (75, .aload_n 0, 1), (76, .invokevirtual 314, 3), (79, .aload_n 0, 1), (80, .invokevirtual 369, 3), (83, .istore_n 1, 1), (84, .aload_n 0, 1), (85, .iconst 0, 1), (86, .putfield 123, 3), (89, .iload_n 1, 1), (90, .ireturn, 1)]
def aj_c283 : List (Nat × Instr × Nat) := [(0, .aload_n 0, 1), (1, .getfield 42, 3), (4, .aload_n 0, 1), (5, .getfield 302, 3), (8, .iaload, 1), (9, .ifCond .ne 5, 3), (12, .iconst 0, 1), (13, .ireturn, 1), (14, .aload_n 0, 1), (15, .getfield 42, 3), (18, .aload_n 0, 1), (19, .getfield 302, 3), (22, .dup2, 1), (23, .iaload, 1), (24, .iconst 1, 1), (25, .isub, 1), (26, .iastore, 1), (27, .aload_n 0, 1), (28, .getfield 39, 3), (31, .aload_n 0, 1), (32, .getfield 302, 3), (35, .dup2, 1), (36, .iaload, 1), (37, .iconst 1, 1), (38, .isub, 1), (39, .iastore, 1), (40, .aload_n 0, 1), (41, .dup, 1), (42, .getfield 311, 3), (45, .lconst 1, 1), (46, .ladd, 1), (47, .putfield 311, 3), (50, .iconst 1, 1), (51, .ireturn, 1)]
def aj_c284 : List (Nat × Instr × Nat) := [(0, .aload_n 0, 1), (1, .invokevirtual 494, 3), (4, .ifCond .ne 5, 3), (7, .iconst (-1), 1), (8, .ireturn, 1), (9, .aload_n 0, 1), (10, .iconst 1, 1), (11, .putfield 308, 3), (14, .iconst 0, 1), (15, .istore_n 1, 1), (16, .iconst 0, 1), (17, .istore_n 2, 1), (18, .iload_n 2, 1), (19, .bipush 32, 2), (21, .if_icmp .ge 21, 3), (24, .aload_n 0, 1), (25, .getfield 48, 3), (28, .iload_n 2, 1), (29, .aload_n 0, 1), (30, .getfield 71, 3), (33, .iload_n 2, 1), (34, .iaload, 1), (35, .iastore, 1), (36, .iinc 2 1, 3), (39, .goto (-21), 3), (42, .iconst 0, 1), (43, .istore_n 2, 1), (44, .iload_n 2, 1), (45, .aload_n 0, 1), (46, .getfield 23, 3), (49, .aload_n 0, 1), (50, .getfield 302, 3), (53, .iaload, 1), (54, .if_icmp .ge 41, 3), (57, .aload_n 0, 1), (58, .aload_n 0, 1), (59, .getfield 302, 3), (62, .iload_n 2, 1), (63, .invokevirtual 372, 3), (66, .ifCond .eq 21, 3), (69, .aload_n 0, 1), (70, .getfield 48, 3), (73, .iconst 0, 1), (74, .iload_n 2, 1), (75, .invokestatic 262, 3), (78, .ifCond .eq 9, 3), (81, .iload_n 1, 1), (82, .iconst 1, 1), (83, .iadd, 1), (84, .goto 4, 3), (87, .iload_n 1, 1), (88, .istore_n 1, 1), (89, .iinc 2 1, 3), (92, .goto (-48), 3), (95, .iload_n 1, 1), (96, .ireturn, 1)]
def aj_c285 : List (Nat × Instr × Nat) := [(0, .aload_n 0, 1), (1, .getfield 308, 3), (4, .ifCond .eq 7, 3), (7, .iload_n 1, 1), (8, .ifCond .ge 5, 3), (11, .iconst (-1), 1), (12, .ireturn, 1), (13, .aload_n 0, 1), (14, .iconst 0, 1), (15, .putfield 497, 3), (18, .iconst 0, 1), (19, .istore_n 2, 1), (20, .iload_n 2, 1), (21, .aload_n 0, 1), (22, .getfield 23, 3), (25, .aload_n 0, 1), (26, .getfield 302, 3), (29, .iaload, 1), (30, .if_icmp .ge 143, 3), (33, .aload_n 0, 1), (34, .getfield 48, 3), (37, .iconst 0, 1), (38, .iload_n 2, 1), (39, .invokestatic 262, 3), (42, .ifCond .eq 125, 3), (45, .iconst 0, 1), (46, .istore_n 3, 1), (47, .iconst 0, 1), (48, .istore 4, 2), (50, .iload 4, 2), (52, .aload_n 0, 1), (53, .getfield 39, 3), (56, .aload_n 0, 1), (57, .getfield 302, 3), (60, .iaload, 1), (61, .if_icmp .ge 44, 3), (64, .aload_n 0, 1), (65, .getfield 45, 3), (68, .aload_n 0, 1), (69, .getfield 302, 3), (72, .bipush 20, 2), (74, .imul, 1), (75, .iload 4, 2), (77, .iadd, 1), (78, .bipush 32, 2), (80, .imul, 1), (81, .iload_n 2, 1), (82, .invokestatic 262, 3), (85, .ifCond .eq 7, 3), (88, .iload_n 3, 1), (89, .goto 9, 3), (92, .iload_n 3, 1), (93, .iconst 1, 1), (94, .iload 4, 2), (96, .ishl, 1), (97, .ior, 1), (98, .istore_n 3, 1), (99, .iinc 4 1, 3), (102, .goto (-52), 3), (105, .iload_n 3, 1), (106, .ifCond .ne 5, 3), (109, .iconst (-1), 1), (110, .ireturn, 1), (111, .iconst 0, 1), (112, .istore 4, 2), (114, .iload 4, 2), (116, .aload_n 0, 1), (117, .getfield 497, 3), (120, .if_icmp .ge 20, 3), (123, .aload_n 0, 1), (124, .getfield 99, 3), (127, .iload 4, 2), (129, .iaload, 1), (130, .iload_n 3, 1), (131, .if_icmp .eq 9, 3), (134, .iinc 4 1, 3), (137, .goto (-23), 3), (140, .iload 4, 2), (142, .aload_n 0, 1), (143, .getfield 497, 3), (146, .if_icmp .ne 21, 3), (149, .aload_n 0, 1), (150, .getfield 99, 3), (153, .iload 4, 2), (155, .iload_n 3, 1), (156, .iastore, 1), (157, .aload_n 0, 1), (158, .dup, 1), (159, .getfield 497, 3), (162, .iconst 1, 1), (163, .iadd, 1), (164, .putfield 497, 3), (167, .iinc 2 1, 3), (170, .goto (-150), 3), (173, .iconst 0, 1), (174, .istore_n 2, 1), (175, .aload_n 0, 1), (176, .iload_n 2, 1), (177, .invokevirtual 500, 3), (180, .ifCond .ne 9, 3), (183, .iinc 2 1, 3), (186, .goto (-11), 3), (189, .iload_n 1, 1), (190, .iload_n 2, 1), (191, .if_icmp .ge 12, 3), (194, .aload_n 0, 1), (195, .getfield 102, 3), (198, .iload_n 1, 1), (199, .iaload, 1), (200, .goto 4, 3), (203, .iconst (-1), 1), (204, .ireturn, 1)]
def aj_c286 : List (Nat × Instr × Nat) := [(0, .aload_n 0, 1), (1, .getfield 39, 3), (4, .aload_n 0, 1), (5, .getfield 302, 3), (8, .iaload, 1), (9, .istore_n 2, 1), (10, .iload_n 1, 1), (11, .iload_n 2, 1), (12, .if_icmp .le 5, 3), (15, .iconst 1, 1), (16, .ireturn, 1), (17, .iconst 0, 1), (18, .istore_n 3, 1), (19, .iload_n 3, 1), (20, .iload_n 1, 1), (21, .if_icmp .ge 16, 3), (24, .aload_n 0, 1), (25, .getfield 102, 3), (28, .iload_n 3, 1), (29, .iload_n 3, 1), (30, .iastore, 1), (31, .iinc 3 1, 3), (34, .goto (-15), 3), (37, .iconst 1, 1), (38, .istore_n 3, 1), (39, .iload_n 3, 1), (40, .ifCond .eq 110, 3), (43, .aload_n 0, 1), (44, .iload_n 1, 1), (45, .invokevirtual 503, 3), (48, .ifCond .eq 5, 3), (51, .iconst 1, 1), (52, .ireturn, 1), (53, .iload_n 1, 1), (54, .iconst 1, 1), (55, .isub, 1), (56, .istore 4, 2), (58, .iload 4, 2), (60, .ifCond .lt 25, 3), (63, .aload_n 0, 1), (64, .getfield 102, 3), (67, .iload 4, 2), (69, .iaload, 1), (70, .iload_n 2, 1), (71, .iload_n 1, 1), (72, .isub, 1), (73, .iload 4, 2), (75, .iadd, 1), (76, .if_icmp .ne 9, 3), (79, .iinc 4 (-1), 3), (82, .goto (-24), 3), (85, .iload 4, 2), (87, .ifCond .lt 7, 3), (90, .iconst 1, 1), (91, .goto 4, 3), (94, .iconst 0, 1), (95, .istore_n 3, 1), (96, .iload_n 3, 1), (97, .ifCond .eq 50, 3), (100, .aload_n 0, 1), (101, .getfield 102, 3), (104, .iload 4, 2), (106, .dup2, 1), (107, .iaload, 1), (108, .iconst 1, 1), (109, .iadd, 1), (110, .iastore, 1), (111, .iload 4, 2), (113, .iconst 1, 1), (114, .iadd, 1), (115, .istore 5, 2), (117, .iload 5, 2), (119, .iload_n 1, 1), (120, .if_icmp .ge 27, 3), (123, .aload_n 0, 1), (124, .getfield 102, 3), (127, .iload 5, 2), (129, .aload_n 0, 1), (130, .getfield 102, 3), (133, .iload 5, 2), (135, .iconst 1, 1), (136, .isub, 1), (137, .iaload, 1), (138, .iconst 1, 1), (139, .iadd, 1), (140, .iastore, 1), (141, .iinc 5 1, 3), (144, .goto (-27), 3), (147, .goto (-108), 3), (150, .iconst 0, 1), (151, .ireturn, 1)]
def aj_c287 : List (Nat × Instr × Nat) := [(0, .iconst 0, 1), (1, .istore_n 2, 1), (2, .iconst 0, 1), (3, .istore_n 3, 1), (4, .iload_n 3, 1), (5, .iload_n 1, 1), (6, .if_icmp .ge 20, 3), (9, .iload_n 2, 1), (10, .iconst 1, 1), (11, .aload_n 0, 1), (12, .getfield 102, 3), (15, .iload_n 3, 1), (16, .iaload, 1), (17, .ishl, 1), (18, .ior, 1), (19, .istore_n 2, 1), (20, .iinc 3 1, 3), (23, .goto (-19), 3), (26, .iconst 0, 1), (27, .istore_n 3, 1), (28, .iload_n 3, 1), (29, .aload_n 0, 1), (30, .getfield 497, 3), (33, .if_icmp .ge 22, 3), (36, .aload_n 0, 1), (37, .getfield 99, 3), (40, .iload_n 3, 1), (41, .iaload, 1), (42, .iload_n 2, 1), (43, .iand, 1), (44, .ifCond .ne 5, 3), (47, .iconst 0, 1), (48, .ireturn, 1), (49, .iinc 3 1, 3), (52, .goto (-24), 3), (55, .iconst 1, 1), (56, .ireturn, 1)]
def aj_c288 : List (Nat × Instr × Nat) := [(0, .iload_n 1, 1), (1, .ifCond .lt 20, 3), (4, .iload_n 2, 1), (5, .ifCond .lt 16, 3), (8, .iload_n 2, 1), (9, .aload_n 0, 1), (10, .getfield 7, 3), (13, .aload_n 0, 1), (14, .getfield 302, 3), (17, .iaload, 1), (18, .if_icmp .lt 7, 3), (21, .iconst (-1), 1), (22, .goto 8, 3), (25, .aload_n 0, 1), (26, .iload_n 1, 1), (27, .invokevirtual 506, 3), (30, .istore_n 3, 1), (31, .iload_n 3, 1), (32, .ifCond .ge 9, 3), (35, .ldc_w 509, 3), (38, .goto 13, 3), (41, .aload_n 0, 1), (42, .aload_n 0, 1), (43, .getfield 302, 3), (46, .iload_n 2, 1), (47, .iload_n 3, 1), (48, .invokevirtual 255, 3), (51, .ireturn, 1)]
def aj_c289 : List (Nat × Instr × Nat) := [(0, .iconst 0, 1), (1, .istore_n 2, 1), (2, .iconst 0, 1), (3, .istore_n 3, 1), (4, .iload_n 3, 1), (5, .aload_n 0, 1), (6, .getfield 23, 3), (9, .aload_n 0, 1), (10, .getfield 302, 3), (13, .iaload, 1), (14, .if_icmp .ge 31, 3), (17, .aload_n 0, 1), (18, .aload_n 0, 1), (19, .getfield 302, 3), (22, .iload_n 3, 1), (23, .invokevirtual 372, 3), (26, .ifCond .eq 13, 3), (29, .iload_n 2, 1), (30, .iload_n 1, 1), (31, .if_icmp .ne 5, 3), (34, .iload_n 3, 1), (35, .ireturn, 1), (36, .iinc 2 1, 3), (39, .iinc 3 1, 3), (42, .goto (-38), 3), (45, .iconst (-1), 1), (46, .ireturn, 1)]
def aj_c290 : List (Nat × Instr × Nat) := [(0, .aload_n 0, 1), (1, .iload_n 1, 1), (2, .invokevirtual 510, 3), (5, .ifCond .eq 13, 3), (8, .iload_n 2, 1), (9, .ifCond .lt 9, 3), (12, .iload_n 2, 1), (13, .bipush 6, 2), (15, .if_icmp .le 5, 3), (18, .iconst (-1), 1), (19, .ireturn, 1), (20, .aload_n 0, 1), (21, .getfield 302, 3), (24, .bipush 10, 2), (26, .imul, 1), (27, .iload_n 1, 1), (28, .iadd, 1), (29, .istore_n 3, 1), (30, .iload_n 2, 1), (31, .iconst 3, 1), (32, .if_icmp .ge 45, 3), (35, .iload_n 2, 1), (36, .ifCond .ne 12, 3), (39, .aload_n 0, 1), (40, .getfield 51, 3), (43, .iload_n 3, 1), (44, .iaload, 1), (45, .goto 31, 3), (48, .iload_n 2, 1), (49, .iconst 1, 1), (50, .if_icmp .ne 12, 3), (53, .aload_n 0, 1), (54, .getfield 54, 3), (57, .iload_n 3, 1), (58, .iaload, 1), (59, .goto 17, 3), (62, .aload_n 0, 1), (63, .getfield 35, 3), (66, .iload_n 3, 1), (67, .baload, 1), (68, .ifCond .eq 7, 3), (71, .iconst 1, 1), (72, .goto 4, 3), (75, .iconst 0, 1), (76, .ireturn, 1), (77, .iload_n 2, 1), (78, .iconst 5, 1), (79, .if_icmp .ne 13, 3), (82, .aload_n 0, 1), (83, .iload_n 3, 1), (84, .invokevirtual 513, 3), (87, .aload_n 0, 1), (88, .getfield 516, 3), (91, .ireturn, 1), (92, .iload_n 2, 1), (93, .bipush 6, 2), (95, .if_icmp .ne 13, 3), (98, .aload_n 0, 1), (99, .iload_n 1, 1), (100, .invokevirtual 519, 3), (103, .aload_n 0, 1), (104, .getfield 522, 3), (107, .ireturn, 1), (108, .iload_n 2, 1), (109, .iconst 3, 1), (110, .if_icmp .ne 8, 3), (113, .bipush 31, 2), (115, .goto 4, 3), (118, .iconst (-1), 1), (119, .istore 4, 2), (121, .iconst 0, 1), (122, .istore 5, 2), (124, .iload 5, 2), (126, .aload_n 0, 1), (127, .getfield 23, 3), (130, .aload_n 0, 1), (131, .getfield 302, 3), (134, .iaload, 1), (135, .if_icmp .ge 75, 3), (138, .aload_n 0, 1), (139, .aload_n 0, 1), (140, .getfield 302, 3), (143, .iload 5, 2), (145, .invokevirtual 372, 3), (148, .ifCond .eq 56, 3), (151, .aload_n 0, 1), (152, .iload_n 3, 1), (153, .iload 5, 2), (155, .invokevirtual 475, 3), (158, .iload_n 2, 1), (159, .iconst 3, 1), (160, .if_icmp .ne 24, 3), (163, .aload_n 0, 1), (164, .getfield 469, 3), (167, .iload 4, 2), (169, .if_icmp .ge 10, 3), (172, .aload_n 0, 1), (173, .getfield 469, 3), (176, .goto 26, 3), (179, .iload 4, 2), (181, .goto 21, 3), (184, .aload_n 0, 1), (185, .getfield 469, 3), (188, .iload 4, 2), (190, .if_icmp .le 10, 3), (193, .aload_n 0, 1), (194, .getfield 469, 3), (197, .goto 5, 3), (200, .iload 4, 2), (202, .istore 4, 2), (204, .iinc 5 1, 3), (207, .goto (-83), 3), (210, .iload 4, 2), (212, .ireturn, 1)]
def aj_c291 : List (Nat × Instr × Nat) := [(0, .iload_n 1, 1), (1, .ifCond .lt 20, 3), (4, .iload_n 1, 1), (5, .aload_n 0, 1), (6, .getfield 29, 3), (9, .aload_n 0, 1), (10, .getfield 302, 3), (13, .iaload, 1), (14, .if_icmp .ge 7, 3), (17, .iconst 1, 1), (18, .goto 4, 3), (21, .iconst 0, 1), (22, .ireturn, 1)]
def aj_c292 : List (Nat × Instr × Nat) := [(0, .aload_n 0, 1), (1, .aload_n 0, 1), (2, .iconst 0, 1), (3, .invokevirtual 506, 3), (6, .putfield 528, 3), (9, .aload_n 0, 1), (10, .iconst 0, 1), (11, .putfield 516, 3), (14, .aload_n 0, 1), (15, .iload_n 1, 1), (16, .aload_n 0, 1), (17, .getfield 528, 3), (20, .invokevirtual 475, 3), (23, .aload_n 0, 1), (24, .getfield 469, 3), (27, .istore_n 2, 1), (28, .iconst 0, 1), (29, .istore_n 3, 1), (30, .iload_n 3, 1), (31, .iload_n 2, 1), (32, .if_icmp .ge 110, 3), (35, .iconst 1, 1), (36, .istore 4, 2), (38, .iconst 0, 1), (39, .istore 5, 2), (41, .iload 5, 2), (43, .aload_n 0, 1), (44, .getfield 23, 3), (47, .aload_n 0, 1), (48, .getfield 302, 3), (51, .iaload, 1), (52, .if_icmp .ge 54, 3), (55, .iload 4, 2), (57, .ifCond .eq 49, 3), (60, .aload_n 0, 1), (61, .aload_n 0, 1), (62, .getfield 302, 3), (65, .iload 5, 2), (67, .invokevirtual 372, 3), (70, .ifCond .eq 23, 3), (73, .aload_n 0, 1), (74, .iload_n 1, 1), (75, .aload_n 0, 1), (76, .getfield 93, 3), (79, .iload_n 3, 1), (80, .iaload, 1), (81, .aload_n 0, 1), (82, .getfield 528, 3), (85, .iload 5, 2), (87, .invokevirtual 531, 3), (90, .ifCond .eq 7, 3), (93, .iconst 1, 1), (94, .goto 4, 3), (97, .iconst 0, 1), (98, .istore 4, 2), (100, .iinc 5 1, 3), (103, .goto (-62), 3), (106, .iload 4, 2), (108, .ifCond .eq 28, 3), (111, .aload_n 0, 1), (112, .getfield 105, 3), (115, .aload_n 0, 1), (116, .getfield 516, 3), (119, .aload_n 0, 1), (120, .getfield 93, 3), (123, .iload_n 3, 1), (124, .iaload, 1), (125, .iastore, 1), (126, .aload_n 0, 1), (127, .dup, 1), (128, .getfield 516, 3), (131, .iconst 1, 1), (132, .iadd, 1), (133, .putfield 516, 3), (136, .iinc 3 1, 3), (139, .goto (-109), 3), (142, .return_, 1)]
def aj_c293 : List (Nat × Instr × Nat) := [(0, .iconst 0, 1), (1, .istore 5, 2), (3, .iload 5, 2), (5, .aload_n 0, 1), (6, .getfield 51, 3), (9, .iload_n 1, 1), (10, .iaload, 1), (11, .if_icmp .ge 44, 3), (14, .aload_n 0, 1), (15, .getfield 68, 3), (18, .aload_n 0, 1), (19, .iload_n 1, 1), (20, .iload 5, 2), (22, .invokevirtual 347, 3), (25, .iload 4, 2), (27, .invokestatic 262, 3), (30, .ifCond .eq 19, 3), (33, .aload_n 0, 1), (34, .iload_n 1, 1), (35, .iload_n 2, 1), (36, .iload 5, 2), (38, .iload_n 3, 1), (39, .iload 4, 2), (41, .invokevirtual 472, 3), (44, .ifCond .ne 5, 3), (47, .iconst 1, 1), (48, .ireturn, 1), (49, .iinc 5 1, 3), (52, .goto (-49), 3), (55, .iconst 0, 1), (56, .ireturn, 1)]
def aj_c294 : List (Nat × Instr × Nat) := [(0, .aload_n 0, 1), (1, .getfield 117, 3), (4, .iload_n 1, 1), (5, .if_icmp .ne 16, 3), (8, .aload_n 0, 1), (9, .getfield 113, 3), (12, .aload_n 0, 1), (13, .getfield 311, 3), (16, .lcmp, 1), (17, .ifCond .ne 4, 3), (20, .return_, 1), (21, .aload_n 0, 1), (22, .iload_n 1, 1), (23, .putfield 117, 3), (26, .aload_n 0, 1), (27, .aload_n 0, 1), (28, .getfield 311, 3), (31, .putfield 113, 3), (34, .aload_n 0, 1), (35, .getfield 302, 3), (38, .bipush 10, 2), (40, .imul, 1), (41, .iload_n 1, 1), (42, .iadd, 1), (43, .istore_n 2, 1), (44, .iconst 0, 1), (45, .istore_n 3, 1), (46, .iconst 0, 1), (47, .istore 4, 2), (49, .iload 4, 2), (51, .aload_n 0, 1), (52, .getfield 23, 3), (55, .aload_n 0, 1), (56, .getfield 302, 3), (59, .iaload, 1), (60, .if_icmp .ge 69, 3), (63, .aload_n 0, 1), (64, .aload_n 0, 1), (65, .getfield 302, 3), (68, .iload 4, 2), (70, .invokevirtual 372, 3), (73, .ifCond .eq 50, 3), (76, .aload_n 0, 1), (77, .iload_n 2, 1), (78, .iload 4, 2), (80, .invokevirtual 475, 3), (83, .iconst 0, 1), (84, .istore 5, 2), (86, .iload 5, 2), (88, .aload_n 0, 1), (89, .getfield 469, 3), (92, .if_icmp .ge 31, 3), (95, .aload_n 0, 1), (96, .getfield 108, 3), (99, .iload_n 3, 1), (100, .aload_n 0, 1), (101, .getfield 93, 3), (104, .iload 5, 2), (106, .iaload, 1), (107, .bipush 10, 2), (109, .ishl, 1), (110, .iload 4, 2), (112, .ior, 1), (113, .iastore, 1), (114, .iinc 3 1, 3), (117, .iinc 5 1, 3), (120, .goto (-34), 3), (123, .iinc 4 1, 3), (126, .goto (-77), 3), (129, .iload_n 3, 1), (130, .iconst 2, 1), (131, .idiv, 1), (132, .istore 4, 2), (134, .iload 4, 2), (136, .ifCond .lt 21, 3), (139, .iload_n 3, 1), (140, .ifCond .le 17, 3), (143, .aload_n 0, 1), (144, .iload_n 2, 1), (145, .iload 4, 2), (147, .iload_n 3, 1), (148, .invokevirtual 537, 3), (151, .iinc 4 (-1), 3), (154, .goto (-20), 3), (157, .iload_n 3, 1), (158, .iconst 1, 1), (159, .isub, 1), (160, .istore 4, 2), (162, .iload 4, 2), (164, .ifCond .le 47, 3), (167, .aload_n 0, 1), (168, .getfield 108, 3), (171, .iload 4, 2), (173, .iaload, 1), (174, .istore 5, 2), (176, .aload_n 0, 1), (177, .getfield 108, 3), (180, .iload 4, 2), (182, .aload_n 0, 1), (183, .getfield 108, 3), (186, .iconst 0, 1), (187, .iaload, 1), (188, .iastore, 1), (189, .aload_n 0, 1), (190, .getfield 108, 3), (193, .iconst 0, 1), (194, .iload 5, 2), (196, .iastore, 1), (197, .aload_n 0, 1), (198, .iload_n 2, 1), (199, .iconst 0, 1), (200, .iload 4, 2), (202, .invokevirtual 537, 3), (205, .iinc 4 (-1), 3), (208, .goto (-46), 3), (211, .aload_n 0, 1), (212, .iconst 0, 1), (213, .putfield 522, 3), (216, .iconst 0, 1), (217, .istore 4, 2), (219, .iload 4, 2), (221, .iload_n 3, 1), (222, .if_icmp .ge 68, 3), (225, .aload_n 0, 1), (226, .getfield 522, 3), (229, .ifCond .eq 29, 3), (232, .aload_n 0, 1), (233, .iload_n 2, 1), (234, .aload_n 0, 1), (235, .getfield 108, 3), (238, .aload_n 0, 1), (239, .getfield 522, 3), (242, .iconst 1, 1), (243, .isub, 1), (244, .iaload, 1), (245, .aload_n 0, 1), (246, .getfield 108, 3), (249, .iload 4, 2), (251, .iaload, 1), (252, .invokevirtual 534, 3), (255, .ifCond .eq 29, 3), (258, .aload_n 0, 1), (259, .getfield 108, 3), (262, .aload_n 0, 1), (263, .getfield 522, 3), (266, .aload_n 0, 1), (267, .getfield 108, 3), (270, .iload 4, 2), (272, .iaload, 1), (273, .iastore, 1), (274, .aload_n 0, 1), (275, .dup, 1), (276, .getfield 522, 3), (279, .iconst 1, 1), (280, .iadd, 1), (281, .putfield 522, 3), (284, .iinc 4 1, 3), (287, .goto (-68), 3), (290, .return_, 1)]
def aj_c295 : List (Nat × Instr × Nat) := [(0, .iload_n 2, 1), (1, .istore 4, 2), (3, .aload_n 0, 1), (4, .getfield 108, 3), (7, .iload 4, 2), (9, .iaload, 1), (10, .istore 5, 2), (12, .iconst 2, 1), (13, .iload 4, 2), (15, .imul, 1), (16, .iconst 1, 1), (17, .iadd, 1), (18, .iload_n 3, 1), (19, .if_icmp .ge 87, 3), (22, .iconst 2, 1), (23, .iload 4, 2), (25, .imul, 1), (26, .iconst 1, 1), (27, .iadd, 1), (28, .istore 6, 2), (30, .iload 6, 2), (32, .iconst 1, 1), (33, .iadd, 1), (34, .iload_n 3, 1), (35, .if_icmp .ge 30, 3), (38, .aload_n 0, 1), (39, .iload_n 1, 1), (40, .aload_n 0, 1), (41, .getfield 108, 3), (44, .iload 6, 2), (46, .iconst 1, 1), (47, .iadd, 1), (48, .iaload, 1), (49, .aload_n 0, 1), (50, .getfield 108, 3), (53, .iload 6, 2), (55, .iaload, 1), (56, .invokevirtual 534, 3), (59, .ifCond .le 6, 3), (62, .iinc 6 1, 3), (65, .aload_n 0, 1), (66, .iload_n 1, 1), (67, .aload_n 0, 1), (68, .getfield 108, 3), (71, .iload 6, 2), (73, .iaload, 1), (74, .iload 5, 2), (76, .invokevirtual 534, 3), (79, .ifCond .gt 6, 3), (82, .goto 24, 3), (85, .aload_n 0, 1), (86, .getfield 108, 3), (89, .iload 4, 2), (91, .aload_n 0, 1), (92, .getfield 108, 3), (95, .iload 6, 2), (97, .iaload, 1), (98, .iastore, 1), (99, .iload 6, 2), (101, .istore 4, 2), (103, .goto (-91), 3), (106, .aload_n 0, 1), (107, .getfield 108, 3), (110, .iload 4, 2), (112, .iload 5, 2), (114, .iastore, 1), (115, .return_, 1)]
def aj_c296 : List (Nat × Instr × Nat) := [(0, .aload_n 0, 1), (1, .iload_n 1, 1), (2, .iload_n 2, 1), (3, .bipush 10, 2), (5, .ishr, 1), (6, .iload_n 3, 1), (7, .bipush 10, 2), (9, .ishr, 1), (10, .iload_n 2, 1), (11, .sipush 1023, 3), (14, .iand, 1), (15, .iload_n 3, 1), (16, .sipush 1023, 3), (19, .iand, 1), (20, .invokevirtual 472, 3), (23, .ireturn, 1)]
def aj_c297 : List (Nat × Instr × Nat) := [(0, .aload_n 0, 1), (1, .iload_n 1, 1), (2, .iload_n 2, 1), (3, .invokevirtual 525, 3), (6, .ifCond .eq 36, 3), (9, .iload_n 3, 1), (10, .ifCond .lt 32, 3), (13, .iload_n 3, 1), (14, .aload_n 0, 1), (15, .getfield 54, 3), (18, .aload_n 0, 1), (19, .getfield 302, 3), (22, .bipush 10, 2), (24, .imul, 1), (25, .iload_n 1, 1), (26, .iadd, 1), (27, .iaload, 1), (28, .if_icmp .ge 14, 3), (31, .iload 4, 2), (33, .ifCond .lt 9, 3), (36, .iload 4, 2), (38, .iconst 1, 1), (39, .if_icmp .le 7, 3), (42, .ldc_w 509, 3), (45, .ireturn, 1), (46, .aload_n 0, 1), (47, .getfield 302, 3), (50, .bipush 10, 2), (52, .imul, 1), (53, .iload_n 1, 1), (54, .iadd, 1), (55, .iload_n 2, 1), (56, .iload_n 3, 1), (57, .invokestatic 366, 3), (60, .istore 5, 2), (62, .iload 4, 2), (64, .ifCond .ne 13, 3), (67, .aload_n 0, 1), (68, .getfield 60, 3), (71, .iload 5, 2), (73, .baload, 1), (74, .goto 10, 3), (77, .aload_n 0, 1), (78, .getfield 64, 3), (81, .iload 5, 2), (83, .iaload, 1), (84, .ireturn, 1)]
def aj_c298 : List (Nat × Instr × Nat) := [(0, .aload_n 0, 1), (1, .iload_n 1, 1), (2, .invokevirtual 510, 3), (5, .ifCond .eq 29, 3), (8, .iload_n 2, 1), (9, .ifCond .lt 25, 3), (12, .iload_n 2, 1), (13, .aload_n 0, 1), (14, .getfield 51, 3), (17, .aload_n 0, 1), (18, .getfield 302, 3), (21, .bipush 10, 2), (23, .imul, 1), (24, .iload_n 1, 1), (25, .iadd, 1), (26, .iaload, 1), (27, .if_icmp .ge 7, 3), (30, .iconst 1, 1), (31, .goto 4, 3), (34, .iconst 0, 1), (35, .ireturn, 1)]
def aj_c299 : List (Nat × Instr × Nat) := [(0, .aload_n 0, 1), (1, .iload_n 1, 1), (2, .iload_n 2, 1), (3, .invokevirtual 525, 3), (6, .ifCond .ne 5, 3), (9, .iconst (-1), 1), (10, .ireturn, 1), (11, .iconst 0, 1), (12, .istore_n 3, 1), (13, .iconst 0, 1), (14, .istore 4, 2), (16, .iload 4, 2), (18, .aload_n 0, 1), (19, .getfield 23, 3), (22, .aload_n 0, 1), (23, .getfield 302, 3), (26, .iaload, 1), (27, .if_icmp .ge 56, 3), (30, .aload_n 0, 1), (31, .aload_n 0, 1), (32, .getfield 302, 3), (35, .iload 4, 2), (37, .invokevirtual 372, 3), (40, .ifCond .eq 35, 3), (43, .aload_n 0, 1), (44, .getfield 68, 3), (47, .aload_n 0, 1), (48, .aload_n 0, 1), (49, .getfield 302, 3), (52, .bipush 10, 2), (54, .imul, 1), (55, .iload_n 1, 1), (56, .iadd, 1), (57, .iload_n 2, 1), (58, .invokevirtual 347, 3), (61, .iload 4, 2), (63, .invokestatic 262, 3), (66, .ifCond .eq 9, 3), (69, .iload_n 3, 1), (70, .iconst 1, 1), (71, .iadd, 1), (72, .goto 4, 3), (75, .iload_n 3, 1), (76, .istore_n 3, 1), (77, .iinc 4 1, 3), (80, .goto (-64), 3), (83, .iload_n 3, 1), (84, .ireturn, 1)]
def aj_c300 : List (Nat × Instr × Nat) := [(0, .aload_n 0, 1), (1, .iload_n 1, 1), (2, .iload_n 2, 1), (3, .invokevirtual 525, 3), (6, .ifCond .eq 7, 3), (9, .iload_n 3, 1), (10, .ifCond .ge 7, 3), (13, .iconst (-1), 1), (14, .goto 8, 3), (17, .aload_n 0, 1), (18, .iload_n 3, 1), (19, .invokevirtual 506, 3), (22, .istore 4, 2), (24, .iload 4, 2), (26, .ifCond .lt 33, 3), (29, .aload_n 0, 1), (30, .getfield 68, 3), (33, .aload_n 0, 1), (34, .aload_n 0, 1), (35, .getfield 302, 3), (38, .bipush 10, 2), (40, .imul, 1), (41, .iload_n 1, 1), (42, .iadd, 1), (43, .iload_n 2, 1), (44, .invokevirtual 347, 3), (47, .iload 4, 2), (49, .invokestatic 262, 3), (52, .ifCond .eq 7, 3), (55, .iconst 1, 1), (56, .goto 4, 3), (59, .iconst 0, 1), (60, .ireturn, 1)]
def aj_c301 : List (Nat × Instr × Nat) := [(0, .aload_n 0, 1), (1, .iload_n 1, 1), (2, .invokevirtual 510, 3), (5, .ifCond .eq 7, 3), (8, .iload_n 2, 1), (9, .ifCond .ge 7, 3), (12, .iconst (-1), 1), (13, .goto 8, 3), (16, .aload_n 0, 1), (17, .iload_n 2, 1), (18, .invokevirtual 506, 3), (21, .istore_n 3, 1), (22, .iload_n 3, 1), (23, .ifCond .ge 5, 3), (26, .iconst (-1), 1), (27, .ireturn, 1), (28, .aload_n 0, 1), (29, .aload_n 0, 1), (30, .getfield 302, 3), (33, .bipush 10, 2), (35, .imul, 1), (36, .iload_n 1, 1), (37, .iadd, 1), (38, .iload_n 3, 1), (39, .invokevirtual 475, 3), (42, .aload_n 0, 1), (43, .getfield 469, 3), (46, .ireturn, 1)]
def aj_c302 : List (Nat × Instr × Nat) := [(0, .aload_n 0, 1), (1, .iload_n 1, 1), (2, .invokevirtual 510, 3), (5, .ifCond .eq 11, 3), (8, .iload_n 2, 1), (9, .ifCond .lt 7, 3), (12, .iload_n 3, 1), (13, .ifCond .ge 7, 3), (16, .iconst (-1), 1), (17, .goto 8, 3), (20, .aload_n 0, 1), (21, .iload_n 2, 1), (22, .invokevirtual 506, 3), (25, .istore 5, 2), (27, .iload 5, 2), (29, .ifCond .lt 27, 3), (32, .iload 4, 2), (34, .ifCond .lt 22, 3), (37, .iload 4, 2), (39, .aload_n 0, 1), (40, .getfield 54, 3), (43, .aload_n 0, 1), (44, .getfield 302, 3), (47, .bipush 10, 2), (49, .imul, 1), (50, .iload_n 1, 1), (51, .iadd, 1), (52, .iaload, 1), (53, .if_icmp .lt 7, 3), (56, .ldc_w 509, 3), (59, .ireturn, 1), (60, .aload_n 0, 1), (61, .aload_n 0, 1), (62, .getfield 302, 3), (65, .bipush 10, 2), (67, .imul, 1), (68, .iload_n 1, 1), (69, .iadd, 1), (70, .iload 5, 2), (72, .invokevirtual 475, 3), (75, .iload_n 3, 1), (76, .aload_n 0, 1), (77, .getfield 469, 3), (80, .if_icmp .ge 29, 3), (83, .aload_n 0, 1), (84, .aload_n 0, 1), (85, .getfield 302, 3), (88, .bipush 10, 2), (90, .imul, 1), (91, .iload_n 1, 1), (92, .iadd, 1), (93, .aload_n 0, 1), (94, .getfield 93, 3), (97, .iload_n 3, 1), (98, .iaload, 1), (99, .iload 4, 2), (101, .iload 5, 2), (103, .invokevirtual 433, 3), (106, .goto 6, 3), (109, .ldc_w 509, 3), (112, .ireturn, 1)]
def aj_c303 : List (Nat × Instr × Nat) := [(0, .aload_n 0, 1), (1, .iload_n 1, 1), (2, .invokevirtual 510, 3), (5, .ifCond .eq 29, 3), (8, .iload_n 2, 1), (9, .ifCond .lt 25, 3), (12, .iload_n 3, 1), (13, .ifCond .lt 21, 3), (16, .iload_n 3, 1), (17, .aload_n 0, 1), (18, .getfield 54, 3), (21, .aload_n 0, 1), (22, .getfield 302, 3), (25, .bipush 10, 2), (27, .imul, 1), (28, .iload_n 1, 1), (29, .iadd, 1), (30, .iaload, 1), (31, .if_icmp .lt 7, 3), (34, .ldc_w 509, 3), (37, .ireturn, 1), (38, .aload_n 0, 1), (39, .aload_n 0, 1), (40, .getfield 302, 3), (43, .bipush 10, 2), (45, .imul, 1), (46, .iload_n 1, 1), (47, .iadd, 1), (48, .invokevirtual 513, 3), (51, .iload_n 2, 1), (52, .aload_n 0, 1), (53, .getfield 516, 3), (56, .if_icmp .ge 30, 3), (59, .aload_n 0, 1), (60, .aload_n 0, 1), (61, .getfield 302, 3), (64, .bipush 10, 2), (66, .imul, 1), (67, .iload_n 1, 1), (68, .iadd, 1), (69, .aload_n 0, 1), (70, .getfield 105, 3), (73, .iload_n 2, 1), (74, .iaload, 1), (75, .iload_n 3, 1), (76, .aload_n 0, 1), (77, .getfield 528, 3), (80, .invokevirtual 433, 3), (83, .goto 6, 3), (86, .ldc_w 509, 3), (89, .ireturn, 1)]
def aj_c304 : List (Nat × Instr × Nat) := [(0, .aload_n 0, 1), (1, .iload_n 1, 1), (2, .invokevirtual 510, 3), (5, .ifCond .eq 29, 3), (8, .iload_n 2, 1), (9, .ifCond .lt 25, 3), (12, .iload_n 3, 1), (13, .ifCond .lt 21, 3), (16, .iload_n 3, 1), (17, .aload_n 0, 1), (18, .getfield 54, 3), (21, .aload_n 0, 1), (22, .getfield 302, 3), (25, .bipush 10, 2), (27, .imul, 1), (28, .iload_n 1, 1), (29, .iadd, 1), (30, .iaload, 1), (31, .if_icmp .lt 7, 3), (34, .ldc_w 509, 3), (37, .ireturn, 1), (38, .aload_n 0, 1), (39, .iload_n 1, 1), (40, .invokevirtual 519, 3), (43, .iload_n 2, 1), (44, .aload_n 0, 1), (45, .getfield 522, 3), (48, .if_icmp .ge 39, 3), (51, .aload_n 0, 1), (52, .aload_n 0, 1), (53, .getfield 302, 3), (56, .bipush 10, 2), (58, .imul, 1), (59, .iload_n 1, 1), (60, .iadd, 1), (61, .aload_n 0, 1), (62, .getfield 108, 3), (65, .iload_n 2, 1), (66, .iaload, 1), (67, .bipush 10, 2), (69, .ishr, 1), (70, .iload_n 3, 1), (71, .aload_n 0, 1), (72, .getfield 108, 3), (75, .iload_n 2, 1), (76, .iaload, 1), (77, .sipush 1023, 3), (80, .iand, 1), (81, .invokevirtual 433, 3), (84, .goto 6, 3), (87, .ldc_w 509, 3), (90, .ireturn, 1)]
def aj_c305 : List (Nat × Instr × Nat) := [(0, .aload_n 0, 1), (1, .iload_n 1, 1), (2, .invokevirtual 510, 3), (5, .ifCond .eq 7, 3), (8, .iload_n 2, 1), (9, .ifCond .ge 5, 3), (12, .iconst (-1), 1), (13, .ireturn, 1), (14, .aload_n 0, 1), (15, .iload_n 1, 1), (16, .invokevirtual 519, 3), (19, .iload_n 2, 1), (20, .aload_n 0, 1), (21, .getfield 522, 3), (24, .if_icmp .lt 5, 3), (27, .iconst (-1), 1), (28, .ireturn, 1), (29, .aload_n 0, 1), (30, .getfield 302, 3), (33, .bipush 10, 2), (35, .imul, 1), (36, .iload_n 1, 1), (37, .iadd, 1), (38, .istore_n 3, 1), (39, .iconst 0, 1), (40, .istore 4, 2), (42, .iconst 0, 1), (43, .istore 5, 2), (45, .iload 5, 2), (47, .aload_n 0, 1), (48, .getfield 23, 3), (51, .aload_n 0, 1), (52, .getfield 302, 3), (55, .iaload, 1), (56, .if_icmp .ge 62, 3), (59, .aload_n 0, 1), (60, .aload_n 0, 1), (61, .getfield 302, 3), (64, .iload 5, 2), (66, .invokevirtual 372, 3), (69, .ifCond .eq 39, 3), (72, .aload_n 0, 1), (73, .iload_n 3, 1), (74, .aload_n 0, 1), (75, .getfield 108, 3), (78, .iload_n 2, 1), (79, .iaload, 1), (80, .bipush 10, 2), (82, .ishr, 1), (83, .aload_n 0, 1), (84, .getfield 108, 3), (87, .iload_n 2, 1), (88, .iaload, 1), (89, .sipush 1023, 3), (92, .iand, 1), (93, .iload 5, 2), (95, .invokevirtual 531, 3), (98, .ifCond .eq 10, 3), (101, .iload 4, 2), (103, .iconst 1, 1), (104, .iadd, 1), (105, .goto 5, 3), (108, .iload 4, 2), (110, .istore 4, 2), (112, .iinc 5 1, 3), (115, .goto (-70), 3), (118, .iload 4, 2), (120, .ireturn, 1)]
def aj_c306 : List (Nat × Instr × Nat) := [(0, .aload_n 0, 1), (1, .iload_n 1, 1), (2, .invokevirtual 510, 3), (5, .ifCond .eq 42, 3), (8, .aload_n 0, 1), (9, .iload_n 2, 1), (10, .invokevirtual 510, 3), (13, .ifCond .eq 34, 3), (16, .aload_n 0, 1), (17, .getfield 54, 3), (20, .aload_n 0, 1), (21, .getfield 302, 3), (24, .bipush 10, 2), (26, .imul, 1), (27, .iload_n 1, 1), (28, .iadd, 1), (29, .iaload, 1), (30, .aload_n 0, 1), (31, .getfield 54, 3), (34, .aload_n 0, 1), (35, .getfield 302, 3), (38, .bipush 10, 2), (40, .imul, 1), (41, .iload_n 2, 1), (42, .iadd, 1), (43, .iaload, 1), (44, .if_icmp .eq 6, 3), (47, .bipush (-2), 2), (49, .ireturn, 1), (50, .aload_n 0, 1), (51, .getfield 302, 3), (54, .bipush 10, 2), (56, .imul, 1), (57, .iload_n 1, 1), (58, .iadd, 1), (59, .istore_n 3, 1), (60, .aload_n 0, 1), (61, .getfield 302, 3), (64, .bipush 10, 2), (66, .imul, 1), (67, .iload_n 2, 1), (68, .iadd, 1), (69, .istore 4, 2), (71, .iconst 0, 1), (72, .istore 5, 2), (74, .iconst 0, 1), (75, .istore 6, 2), (77, .iload 6, 2), (79, .aload_n 0, 1), (80, .getfield 23, 3), (83, .aload_n 0, 1), (84, .getfield 302, 3), (87, .iaload, 1), (88, .if_icmp .ge 40, 3), (91, .aload_n 0, 1), (92, .aload_n 0, 1), (93, .getfield 302, 3), (96, .iload 6, 2), (98, .invokevirtual 372, 3), (101, .ifCond .eq 21, 3), (104, .aload_n 0, 1), (105, .iload_n 3, 1), (106, .iload 4, 2), (108, .iload 6, 2), (110, .invokevirtual 541, 3), (113, .ifCond .ne 6, 3), (116, .iload 5, 2), (118, .ireturn, 1), (119, .iinc 5 1, 3), (122, .iinc 6 1, 3), (125, .goto (-48), 3), (128, .iconst (-1), 1), (129, .ireturn, 1)]
def aj_c307 : List (Nat × Instr × Nat) := [(0, .aload_n 0, 1), (1, .iload_n 1, 1), (2, .iload_n 3, 1), (3, .invokevirtual 475, 3), (6, .aload_n 0, 1), (7, .getfield 469, 3), (10, .istore 4, 2), (12, .iconst 0, 1), (13, .istore 5, 2), (15, .iload 5, 2), (17, .iload 4, 2), (19, .if_icmp .ge 23, 3), (22, .aload_n 0, 1), (23, .getfield 120, 3), (26, .iload 5, 2), (28, .aload_n 0, 1), (29, .getfield 93, 3), (32, .iload 5, 2), (34, .iaload, 1), (35, .iastore, 1), (36, .iinc 5 1, 3), (39, .goto (-24), 3), (42, .aload_n 0, 1), (43, .iload_n 2, 1), (44, .iload_n 3, 1), (45, .invokevirtual 475, 3), (48, .aload_n 0, 1), (49, .getfield 469, 3), (52, .iload 4, 2), (54, .if_icmp .eq 5, 3), (57, .iconst 0, 1), (58, .ireturn, 1), (59, .iconst 0, 1), (60, .istore 5, 2), (62, .iload 5, 2), (64, .iload 4, 2), (66, .if_icmp .ge 64, 3), (69, .iconst 0, 1), (70, .istore 6, 2), (72, .iload 6, 2), (74, .aload_n 0, 1), (75, .getfield 54, 3), (78, .iload_n 1, 1), (79, .iaload, 1), (80, .if_icmp .ge 44, 3), (83, .aload_n 0, 1), (84, .iload_n 1, 1), (85, .aload_n 0, 1), (86, .getfield 120, 3), (89, .iload 5, 2), (91, .iaload, 1), (92, .iload 6, 2), (94, .iload_n 3, 1), (95, .invokevirtual 433, 3), (98, .aload_n 0, 1), (99, .iload_n 2, 1), (100, .aload_n 0, 1), (101, .getfield 93, 3), (104, .iload 5, 2), (106, .iaload, 1), (107, .iload 6, 2), (109, .iload_n 3, 1), (110, .invokevirtual 433, 3), (113, .if_icmp .eq 5, 3), (116, .iconst 0, 1), (117, .ireturn, 1), (118, .iinc 6 1, 3), (121, .goto (-49), 3), (124, .iinc 5 1, 3), (127, .goto (-65), 3), (130, .iconst 1, 1), (131, .ireturn, 1)]
def aj_c308 : List (Nat × Instr × Nat) := [(0, .iload_n 1, 1), (1, .tableswitch 103 0 6 #[43, 48, 58, 68, 78, 88, 98], 43), (44, .aload_n 0, 1), (45, .invokevirtual 544, 3), (48, .ireturn, 1), (49, .aload_n 0, 1), (50, .getfield 23, 3), (53, .aload_n 0, 1), (54, .getfield 302, 3), (57, .iaload, 1), (58, .ireturn, 1), (59, .aload_n 0, 1), (60, .getfield 7, 3), (63, .aload_n 0, 1), (64, .getfield 302, 3), (67, .iaload, 1), (68, .ireturn, 1), (69, .aload_n 0, 1), (70, .getfield 29, 3), (73, .aload_n 0, 1), (74, .getfield 302, 3), (77, .iaload, 1), (78, .ireturn, 1), (79, .aload_n 0, 1), (80, .getfield 39, 3), (83, .aload_n 0, 1), (84, .getfield 302, 3), (87, .iaload, 1), (88, .ireturn, 1), (89, .aload_n 0, 1), (90, .getfield 42, 3), (93, .aload_n 0, 1), (94, .getfield 302, 3), (97, .iaload, 1), (98, .ireturn, 1), (99, .aload_n 0, 1), (100, .getfield 123, 3), (103, .ireturn, 1), (104, .iconst (-1), 1), (105, .ireturn, 1)]
def aj_c309 : List (Nat × Instr × Nat) := [(0, .iconst 0, 1), (1, .istore_n 1, 1), (2, .iconst 0, 1), (3, .istore_n 2, 1), (4, .iload_n 2, 1), (5, .aload_n 0, 1), (6, .getfield 23, 3), (9, .aload_n 0, 1), (10, .getfield 302, 3), (13, .iaload, 1), (14, .if_icmp .ge 29, 3), (17, .aload_n 0, 1), (18, .aload_n 0, 1), (19, .getfield 302, 3), (22, .iload_n 2, 1), (23, .invokevirtual 372, 3), (26, .ifCond .eq 9, 3), (29, .iload_n 1, 1), (30, .iconst 1, 1), (31, .iadd, 1), (32, .goto 4, 3), (35, .iload_n 1, 1), (36, .istore_n 1, 1), (37, .iinc 2 1, 3), (40, .goto (-36), 3), (43, .iload_n 1, 1), (44, .ireturn, 1)]
def aj_cL : List (Nat × Instr × Nat) := [(0, .new 7, 3), (3, .dup, 1), (4, .invokespecial 9, 3), (7, .astore_n 1, 1), (8, .new 10, 3), (11, .dup, 1), (12, .invokespecial 12, 3), (15, .astore_n 2, 1), (16, .iconst 0, 1), (17, .istore_n 3, 1), (18, .iload_n 3, 1), (19, .aload_n 0, 1), (20, .arraylength, 1), (21, .bipush 6, 2), (23, .isub, 1), (24, .if_icmp .gt 740, 3), (27, .aload_n 0, 1), (28, .iload_n 3, 1), (29, .iaload, 1), (30, .bipush 31, 2), (32, .iand, 1), (33, .tableswitch 725 0 19 #[95, 158, 181, 194, 207, 220, 233, 246, 269, 302, 335, 388, 421, 464, 497, 550, 593, 636, 669, 702], 95), (128, .aload_n 1, 1), (129, .aload_n 0, 1), (130, .iload_n 3, 1), (131, .iconst 1, 1), (132, .iadd, 1), (133, .iaload, 1), (134, .aload_n 0, 1), (135, .iload_n 3, 1), (136, .iconst 2, 1), (137, .iadd, 1), (138, .iaload, 1), (139, .aload_n 0, 1), (140, .iload_n 3, 1), (141, .iconst 3, 1), (142, .iadd, 1), (143, .iaload, 1), (144, .aload_n 0, 1), (145, .iload_n 3, 1), (146, .iconst 4, 1), (147, .iadd, 1), (148, .iaload, 1), (149, .aload_n 0, 1), (150, .iload_n 3, 1), (151, .iconst 5, 1), (152, .iadd, 1), (153, .iaload, 1), (154, .invokevirtual 13, 3), (157, .aload_n 2, 1), (158, .aload_n 0, 1), (159, .iload_n 3, 1), (160, .iconst 1, 1), (161, .iadd, 1), (162, .iaload, 1), (163, .aload_n 0, 1), (164, .iload_n 3, 1), (165, .iconst 2, 1), (166, .iadd, 1), (167, .iaload, 1), (168, .aload_n 0, 1), (169, .iload_n 3, 1), (170, .iconst 3, 1), (171, .iadd, 1), (172, .iaload, 1), (173, .aload_n 0, 1), (174, .iload_n 3, 1), (175, .iconst 4, 1), (176, .iadd, 1), (177, .iaload, 1), (178, .aload_n 0, 1), (179, .iload_n 3, 1), (180, .iconst 5, 1), (181, .iadd, 1), (182, .iaload, 1), (183, .invokevirtual 17, 3), (186, .if_icmp .eq 572, 3), (189, .iconst 0, 1), (190, .ireturn, 1), (191, .aload_n 1, 1), (192, .aload_n 0, 1), (193, .iload_n 3, 1), (194, .iconst 1, 1), (195, .iadd, 1), (196, .iaload, 1), (197, .invokevirtual 18, 3), (200, .aload_n 2, 1), (201, .aload_n 0, 1), (202, .iload_n 3, 1), (203, .iconst 1, 1), (204, .iadd, 1), (205, .iaload, 1), (206, .invokevirtual 22, 3), (209, .if_icmp .eq 549, 3), (212, .iconst 0, 1), (213, .ireturn, 1), (214, .aload_n 1, 1), (215, .invokevirtual 23, 3), (218, .aload_n 2, 1), (219, .invokevirtual 27, 3), (222, .if_icmp .eq 536, 3), (225, .iconst 0, 1), (226, .ireturn, 1), (227, .aload_n 1, 1), (228, .invokevirtual 28, 3), (231, .aload_n 2, 1), (232, .invokevirtual 31, 3), (235, .if_icmp .eq 523, 3), (238, .iconst 0, 1), (239, .ireturn, 1), (240, .aload_n 1, 1), (241, .invokevirtual 32, 3), (244, .aload_n 2, 1), (245, .invokevirtual 35, 3), (248, .if_icmp .eq 510, 3), (251, .iconst 0, 1), (252, .ireturn, 1), (253, .aload_n 1, 1), (254, .invokevirtual 36, 3), (257, .aload_n 2, 1), (258, .invokevirtual 40, 3), (261, .if_icmp .eq 497, 3), (264, .iconst 0, 1), (265, .ireturn, 1), (266, .aload_n 1, 1), (267, .invokevirtual 41, 3), (270, .aload_n 2, 1), (271, .invokevirtual 44, 3), (274, .if_icmp .eq 484, 3), (277, .iconst 0, 1), (278, .ireturn, 1), (279, .aload_n 1, 1), (280, .aload_n 0, 1), (281, .iload_n 3, 1), (282, .iconst 1, 1), (283, .iadd, 1), (284, .iaload, 1), (285, .invokevirtual 45, 3), (288, .aload_n 2, 1), (289, .aload_n 0, 1), (290, .iload_n 3, 1), (291, .iconst 1, 1), (292, .iadd, 1), (293, .iaload, 1), (294, .invokevirtual 48, 3), (297, .if_icmp .eq 461, 3), (300, .iconst 0, 1), (301, .ireturn, 1), (302, .aload_n 1, 1), (303, .aload_n 0, 1), (304, .iload_n 3, 1), (305, .iconst 1, 1), (306, .iadd, 1), (307, .iaload, 1), (308, .aload_n 0, 1), (309, .iload_n 3, 1), (310, .iconst 2, 1), (311, .iadd, 1), (312, .iaload, 1), (313, .invokevirtual 49, 3), (316, .aload_n 2, 1), (317, .aload_n 0, 1), (318, .iload_n 3, 1), (319, .iconst 1, 1), (320, .iadd, 1), (321, .iaload, 1), (322, .aload_n 0, 1), (323, .iload_n 3, 1), (324, .iconst 2, 1), (325, .iadd, 1), (326, .iaload, 1), (327, .invokevirtual 53, 3), (330, .if_icmp .eq 428, 3), (333, .iconst 0, 1), (334, .ireturn, 1), (335, .aload_n 1, 1), (336, .aload_n 0, 1), (337, .iload_n 3, 1), (338, .iconst 1, 1), (339, .iadd, 1), (340, .iaload, 1), (341, .aload_n 0, 1), (342, .iload_n 3, 1), (343, .iconst 2, 1), (344, .iadd, 1), (345, .iaload, 1), (346, .invokevirtual 54, 3), (349, .aload_n 2, 1), (350, .aload_n 0, 1), (351, .iload_n 3, 1), (352, .iconst 1, 1), (353, .iadd, 1), (354, .iaload, 1), (355, .aload_n 0, 1), (356, .iload_n 3, 1), (357, .iconst 2, 1), (358, .iadd, 1), (359, .iaload, 1), (360, .invokevirtual 57, 3), (363, .if_icmp .eq 395, 3), (366, .iconst 0, 1), (367, .ireturn, 1), (368, .aload_n 1, 1), (369, .aload_n 0, 1), (370, .iload_n 3, 1), (371, .iconst 1, 1), (372, .iadd, 1), (373, .iaload, 1), (374, .aload_n 0, 1), (375, .iload_n 3, 1), (376, .iconst 2, 1), (377, .iadd, 1), (378, .iaload, 1), (379, .aload_n 0, 1), (380, .iload_n 3, 1), (381, .iconst 3, 1), (382, .iadd, 1), (383, .iaload, 1), (384, .aload_n 0, 1), (385, .iload_n 3, 1), (386, .iconst 4, 1), (387, .iadd, 1), (388, .iaload, 1), (389, .invokevirtual 58, 3), (392, .aload_n 2, 1), (393, .aload_n 0, 1), (394, .iload_n 3, 1), (395, .iconst 1, 1), (396, .iadd, 1), (397, .iaload, 1), (398, .aload_n 0, 1), (399, .iload_n 3, 1), (400, .iconst 2, 1), (401, .iadd, 1), (402, .iaload, 1), (403, .aload_n 0, 1), (404, .iload_n 3, 1), (405, .iconst 3, 1), (406, .iadd, 1), (407, .iaload, 1), (408, .aload_n 0, 1), (409, .iload_n 3, 1), (410, .iconst 4, 1), (411, .iadd, 1), (412, .iaload, 1), (413, .invokevirtual 62, 3), (416, .if_icmp .eq 342, 3), (419, .iconst 0, 1), (420, .ireturn, 1), (421, .aload_n 1, 1), (422, .aload_n 0, 1), (423, .iload_n 3, 1), (424, .iconst 1, 1), (425, .iadd, 1), (426, .iaload, 1), (427, .aload_n 0, 1), (428, .iload_n 3, 1), (429, .iconst 2, 1), (430, .iadd, 1), (431, .iaload, 1), (432, .invokevirtual 63, 3), (435, .aload_n 2, 1), (436, .aload_n 0, 1), (437, .iload_n 3, 1), (438, .iconst 1, 1), (439, .iadd, 1), (440, .iaload, 1), (441, .aload_n 0, 1), (442, .iload_n 3, 1), (443, .iconst 2, 1), (444, .iadd, 1), (445, .iaload, 1), (446, .invokevirtual 66, 3), (449, .if_icmp .eq 309, 3), (452, .iconst 0, 1), (453, .ireturn, 1), (454, .aload_n 1, 1), (455, .aload_n 0, 1), (456, .iload_n 3, 1), (457, .iconst 1, 1), (458, .iadd, 1), (459, .iaload, 1), (460, .aload_n 0, 1), (461, .iload_n 3, 1), (462, .iconst 2, 1), (463, .iadd, 1), (464, .iaload, 1), (465, .aload_n 0, 1), (466, .iload_n 3, 1), (467, .iconst 3, 1), (468, .iadd, 1), (469, .iaload, 1), (470, .invokevirtual 67, 3), (473, .aload_n 2, 1), (474, .aload_n 0, 1), (475, .iload_n 3, 1), (476, .iconst 1, 1), (477, .iadd, 1), (478, .iaload, 1), (479, .aload_n 0, 1), (480, .iload_n 3, 1), (481, .iconst 2, 1), (482, .iadd, 1), (483, .iaload, 1), (484, .aload_n 0, 1), (485, .iload_n 3, 1), (486, .iconst 3, 1), (487, .iadd, 1), (488, .iaload, 1), (489, .invokevirtual 71, 3), (492, .if_icmp .eq 266, 3), (495, .iconst 0, 1), (496, .ireturn, 1), (497, .aload_n 1, 1), (498, .aload_n 0, 1), (499, .iload_n 3, 1), (500, .iconst 1, 1), (501, .iadd, 1), (502, .iaload, 1), (503, .aload_n 0, 1), (504, .iload_n 3, 1), (505, .iconst 2, 1), (506, .iadd, 1), (507, .iaload, 1), (508, .invokevirtual 72, 3), (511, .aload_n 2, 1), (512, .aload_n 0, 1), (513, .iload_n 3, 1), (514, .iconst 1, 1), (515, .iadd, 1), (516, .iaload, 1), (517, .aload_n 0, 1), (518, .iload_n 3, 1), (519, .iconst 2, 1), (520, .iadd, 1), (521, .iaload, 1), (522, .invokevirtual 75, 3), (525, .if_icmp .eq 233, 3), (528, .iconst 0, 1), (529, .ireturn, 1), (530, .aload_n 1, 1), (531, .aload_n 0, 1), (532, .iload_n 3, 1), (533, .iconst 1, 1), (534, .iadd, 1), (535, .iaload, 1), (536, .aload_n 0, 1), (537, .iload_n 3, 1), (538, .iconst 2, 1), (539, .iadd, 1), (540, .iaload, 1), (541, .aload_n 0, 1), (542, .iload_n 3, 1), (543, .iconst 3, 1), (544, .iadd, 1), (545, .iaload, 1), (546, .aload_n 0, 1), (547, .iload_n 3, 1), (548, .iconst 4, 1), (549, .iadd, 1), (550, .iaload, 1), (551, .invokevirtual 76, 3), (554, .aload_n 2, 1), (555, .aload_n 0, 1), (556, .iload_n 3, 1), (557, .iconst 1, 1), (558, .iadd, 1), (559, .iaload, 1), (560, .aload_n 0, 1), (561, .iload_n 3, 1), (562, .iconst 2, 1), (563, .iadd, 1), (564, .iaload, 1), (565, .aload_n 0, 1), (566, .iload_n 3, 1), (567, .iconst 3, 1), (568, .iadd, 1), (569, .iaload, 1), (570, .aload_n 0, 1), (571, .iload_n 3, 1), (572, .iconst 4, 1), (573, .iadd, 1), (574, .iaload, 1), (575, .invokevirtual 79, 3), (578, .if_icmp .eq 180, 3), (581, .iconst 0, 1), (582, .ireturn, 1), (583, .aload_n 1, 1), (584, .aload_n 0, 1), (585, .iload_n 3, 1), (586, .iconst 1, 1), (587, .iadd, 1), (588, .iaload, 1), (589, .aload_n 0, 1), (590, .iload_n 3, 1), (591, .iconst 2, 1), (592, .iadd, 1), (593, .iaload, 1), (594, .aload_n 0, 1), (595, .iload_n 3, 1), (596, .iconst 3, 1), (597, .iadd, 1), (598, .iaload, 1), (599, .invokevirtual 80, 3), (602, .aload_n 2, 1), (603, .aload_n 0, 1), (604, .iload_n 3, 1), (605, .iconst 1, 1), (606, .iadd, 1), (607, .iaload, 1), (608, .aload_n 0, 1), (609, .iload_n 3, 1), (610, .iconst 2, 1), (611, .iadd, 1), (612, .iaload, 1), (613, .aload_n 0, 1), (614, .iload_n 3, 1), (615, .iconst 3, 1), (616, .iadd, 1), (617, .iaload, 1), (618, .invokevirtual 84, 3), (621, .if_icmp .eq 137, 3), (624, .iconst 0, 1), (625, .ireturn, 1), (626, .aload_n 1, 1), (627, .aload_n 0, 1), (628, .iload_n 3, 1), (629, .iconst 1, 1), (630, .iadd, 1), (631, .iaload, 1), (632, .aload_n 0, 1), (633, .iload_n 3, 1), (634, .iconst 2, 1), (635, .iadd, 1), (636, .iaload, 1), (637, .aload_n 0, 1), (638, .iload_n 3, 1), (639, .iconst 3, 1), (640, .iadd, 1), (641, .iaload, 1), (642, .invokevirtual 85, 3), (645, .aload_n 2, 1), (646, .aload_n 0, 1), (647, .iload_n 3, 1), (648, .iconst 1, 1), (649, .iadd, 1), (650, .iaload, 1), (651, .aload_n 0, 1), (652, .iload_n 3, 1), (653, .iconst 2, 1), (654, .iadd, 1), (655, .iaload, 1), (656, .aload_n 0, 1), (657, .iload_n 3, 1), (658, .iconst 3, 1), (659, .iadd, 1), (660, .iaload, 1), (661, .invokevirtual 88, 3), (664, .if_icmp .eq 94, 3), (667, .iconst 0, 1), (668, .ireturn, 1), (669, .aload_n 1, 1), (670, .aload_n 0, 1), (671, .iload_n 3, 1), (672, .iconst 1, 1), (673, .iadd, 1), (674, .iaload, 1), (675, .aload_n 0, 1), (676, .iload_n 3, 1), (677, .iconst 2, 1), (678, .iadd, 1), (679, .iaload, 1), (680, .invokevirtual 89, 3), (683, .aload_n 2, 1), (684, .aload_n 0, 1), (685, .iload_n 3, 1), (686, .iconst 1, 1), (687, .iadd, 1), (688, .iaload, 1), (689, .aload_n 0, 1), (690, .iload_n 3, 1), (691, .iconst 2, 1), (692, .iadd, 1), (693, .iaload, 1), (694, .invokevirtual 92, 3), (697, .if_icmp .eq 61, 3), (700, .iconst 0, 1), (701, .ireturn, 1), (702, .aload_n 1, 1), (703, .aload_n 0, 1), (704, .iload_n 3, 1), (705, .iconst 1, 1), (706, .iadd, 1), (707, .iaload, 1), (708, .aload_n 0, 1), (709, .iload_n 3, 1), (710, .iconst 2, 1), (711, .iadd, 1), (712, .iaload, 1), (713, .invokevirtual 93, 3), (716, .aload_n 2, 1), (717, .aload_n 0, 1), (718, .iload_n 3, 1), (719, .iconst 1, 1), (720, .iadd, 1), (721, .iaload, 1), (722, .aload_n 0, 1), (723, .iload_n 3, 1), (724, .iconst 2, 1), (725, .iadd, 1), (726, .iaload, 1), (727, .invokevirtual 96, 3), (730, .if_icmp .eq 28, 3), (733, .iconst 0, 1), (734, .ireturn, 1), (735, .aload_n 1, 1), (736, .aload_n 0, 1), (737, .iload_n 3, 1), (738, .iconst 1, 1), (739, .iadd, 1), (740, .iaload, 1), (741, .invokevirtual 97, 3), (744, .aload_n 2, 1), (745, .aload_n 0, 1), (746, .iload_n 3, 1), (747, .iconst 1, 1), (748, .iadd, 1), (749, .iaload, 1), (750, .invokevirtual 100, 3), (753, .if_icmp .eq 5, 3), (756, .iconst 0, 1), (757, .ireturn, 1), (758, .iinc 3 6, 3), (761, .goto (-743), 3), (764, .iconst 1, 1), (765, .ireturn, 1)]
def aj_cd0 : List (List (Nat × Instr × Nat)) := [aj_c0, aj_c1, aj_c2, aj_c3, aj_c4, aj_c5, aj_c6, aj_c7, aj_c8, aj_c9, aj_c10, aj_c11, aj_c12, aj_c13, aj_c14, aj_c15, aj_c16, aj_c17, aj_c18, aj_c19, aj_c20, aj_c21, aj_c22, aj_c23, aj_c24, aj_c25, aj_c26, aj_c27, aj_c28, aj_c29, aj_c30, aj_c31, aj_c32, aj_c33, aj_c34, aj_c35, aj_c36, aj_c37, aj_c38, aj_c39]
def aj_cd1 : List (List (Nat × Instr × Nat)) := [aj_c40, aj_c41, aj_c42, aj_c43, aj_c44, aj_c45, aj_c46, aj_c47, aj_c48, aj_c49, aj_c50, aj_c51, aj_c52, aj_c53, aj_c54, aj_c55, aj_c56, aj_c57, aj_c58, aj_c59, aj_c60, aj_c61, aj_c62, aj_c63, aj_c64, aj_c65, aj_c66, aj_c67, aj_c68, aj_c69, aj_c70, aj_c71, aj_c72, aj_c73, aj_c74, aj_c75, aj_c76, aj_c77, aj_c78, aj_c79]
def aj_cd2 : List (List (Nat × Instr × Nat)) := [aj_c80, aj_c81, aj_c82, aj_c83, aj_c84, aj_c85, aj_c86, aj_c87, aj_c88, aj_c89, aj_c90, aj_c91, aj_c92, aj_c93, aj_c94, aj_c95, aj_c96, aj_c97, aj_c98, aj_c99, aj_c100, aj_c101, aj_c102, aj_c103, aj_c104, aj_c105, aj_c106, aj_c107, aj_c108, aj_c109, aj_c110, aj_c111, aj_c112, aj_c113, aj_c114, aj_c115, aj_c116, aj_c117, aj_c118, aj_c119]
def aj_cd3 : List (List (Nat × Instr × Nat)) := [aj_c120, aj_c121, aj_c122, aj_c123, aj_c124, aj_c125, aj_c126, aj_c127, aj_c128, aj_c129, aj_c130, aj_c131, aj_c132, aj_c133, aj_c134, aj_c135, aj_c136, aj_c137, aj_c138, aj_c139, aj_c140, aj_c141, aj_c142, aj_c143, aj_c144, aj_c145, aj_c146, aj_c147, aj_c148, aj_c149, aj_c150, aj_c151, aj_c152, aj_c153, aj_c154, aj_c155, aj_c156, aj_c157, aj_c158, aj_c159]
def aj_cd4 : List (List (Nat × Instr × Nat)) := [aj_c160, aj_c161, aj_c162, aj_c163, aj_c164, aj_c165, aj_c166, aj_c167, aj_c168, aj_c169, aj_c170, aj_c171, aj_c172, aj_c173, aj_c174, aj_c175, aj_c176, aj_c177, aj_c178, aj_c179, aj_c180, aj_c181, aj_c182, aj_c183, aj_c184, aj_c185, aj_c186, aj_c187, aj_c188, aj_c189, aj_c190, aj_c191, aj_c192, aj_c193, aj_c194, aj_c195, aj_c196, aj_c197, aj_c198, aj_c199]
def aj_cd5 : List (List (Nat × Instr × Nat)) := [aj_c200, aj_c201, aj_c202, aj_c203, aj_c204, aj_c205, aj_c206, aj_c207, aj_c208, aj_c209, aj_c210, aj_c211, aj_c212, aj_c213, aj_c214, aj_c215, aj_c216, aj_c217, aj_c218, aj_c219, aj_c220, aj_c221, aj_c222, aj_c223, aj_c224, aj_c225, aj_c226, aj_c227, aj_c228, aj_c229, aj_c230, aj_c231, aj_c232, aj_c233, aj_c234, aj_c235, aj_c236, aj_c237, aj_c238, aj_c239]
def aj_cd6 : List (List (Nat × Instr × Nat)) := [aj_c240, aj_c241, aj_c242, aj_c243, aj_c244, aj_c245, aj_c246, aj_c247, aj_c248, aj_c249, aj_c250, aj_c251, aj_c252, aj_c253, aj_c254, aj_c255, aj_c256, aj_c257, aj_c258, aj_c259, aj_c260, aj_c261, aj_c262, aj_c263, aj_c264, aj_c265, aj_c266, aj_c267, aj_c268, aj_c269, aj_c270, aj_c271, aj_c272, aj_c273, aj_c274, aj_c275, aj_c276, aj_c277, aj_c278, aj_c279]
def aj_cd7 : List (List (Nat × Instr × Nat)) := [aj_c280, aj_c281, aj_c282, aj_c283, aj_c284, aj_c285, aj_c286, aj_c287, aj_c288, aj_c289, aj_c290, aj_c291, aj_c292, aj_c293, aj_c294, aj_c295, aj_c296, aj_c297, aj_c298, aj_c299, aj_c300, aj_c301, aj_c302, aj_c303, aj_c304, aj_c305, aj_c306, aj_c307, aj_c308, aj_c309]
def aj_cd : List (List (Nat × Instr × Nat)) := aj_cd0 ++ (aj_cd1 ++ (aj_cd2 ++ (aj_cd3 ++ (aj_cd4 ++ (aj_cd5 ++ (aj_cd6 ++ (aj_cd7)))))))
end
section
/-! THE ABSTRACT MACHINE AS A FUNCTION: at the branches that 'fl' names (method, pc) the way is told by a row of numbers, and what has to hold for it is handed back -/
abbrev aj_O : Type := (ClassFile.Cond × Int32 × Int32 × Bool) ⊕ (Int32 × Int)
def aj_oOK : aj_O → Prop
  | .inl (c, x, y, b) => aj_test c x y = b
  | .inr (x, k) => x.toInt = k
def aj_fl (fl : List (Nat × Nat)) (mi pc : Nat) : Bool := fl.any fun q => q.1 == mi && q.2 == pc
/-- at a told branch: where to, the stack, what has to hold -/
def aj_ask (i : Instr) (len pc : Nat) (st : List Value) (b : Int) : Option (Nat × List Value × aj_O) := match i with
  | .ifCond c off => match st with
    | .int x :: r => if len = 3 ∧ 0 ≤ (pc : Int) + off then some (if b = 1 then ((pc : Int) + off).toNat else pc + 3, r, .inl (c, x, 0, decide (b = 1))) else none
    | _ => none
  | .if_icmp c off => match st with
    | .int y :: .int x :: r => if len = 3 ∧ 0 ≤ (pc : Int) + off then some (if b = 1 then ((pc : Int) + off).toNat else pc + 3, r, .inl (c, x, y, decide (b = 1))) else none
    | _ => none
  | .tableswitch dflt lo hi offs => match st with
    | .int x :: r => if b < lo ∨ hi < b then (if 0 ≤ (pc : Int) + dflt then some (((pc : Int) + dflt).toNat, r, .inr (x, b)) else none) else match offs[(b - lo).toNat]? with
      | some off => if 0 ≤ (pc : Int) + off then some (((pc : Int) + off).toNat, r, .inr (x, b)) else none
      | none => none
    | _ => none
  | _ => none
def aj_ct (ct : List (Nat × Instr × Nat)) (pc : Nat) : Option (Instr × Nat) := (ct.find? (fun q => q.1 == pc)).map (fun q => q.2)
/-- the list is the code's -/
def aj_ctOK (ct : List (Nat × Instr × Nat)) (b : ByteArray) : Prop := ∀ q ∈ ct, decode b q.1 = .ok q.2
theorem aj_ct_ok {ct : List (Nat × Instr × Nat)} {b : ByteArray} (hc : aj_ctOK ct b) {pc : Nat} {i : Instr} {len : Nat} (h : aj_ct ct pc = some (i, len)) : decode b pc = .ok (i, len) := by
  unfold aj_ct at h
  obtain ⟨q, hq, he⟩ := Option.map_eq_some_iff.mp h
  have h1 := List.find?_some hq
  have h2 := hc q (List.mem_of_find?_eq_some hq)
  have h3 : q.1 = pc := by simpa using h1
  rw [h3, he] at h2
  exact h2
abbrev aj_X : Type := Option Value × aj_H × Nat × Nat × List Int × List aj_O
def aj_frmX (rc : Nat) (cls : List aj_C) (tb : aj_T) (fl : List (Nat × Nat)) (mi : Nat) (m : aj_M) (ct : List (Nat × Instr × Nat)) (isI deep : Bool) (call : Nat → List Value → aj_H → List Int → Option aj_X) : Nat → Nat → aj_V → List Value → aj_H → Nat → Nat → List Int → Option aj_X
  | 0, _, _, _, _, _, _, _ => none
  | n + 1, pc, lv, st, h, kc, ks, tp => match aj_ct ct pc with
    | none => none
    | some (i, len) => if aj_fl fl mi pc = true then (match tp with
        | [] => none
        | b :: tp => match aj_ask i len pc st b with
          | none => none
          | some (pc', st', o) => match aj_frmX rc cls tb fl mi m ct isI deep call n pc' lv st' h kc ks tp with
            | none => none
            | some (r, hF, c1, s1, t1, os) => some (r, hF, c1, s1, t1, o :: os))
      else match aj_step rc cls tb m.2.2.2.2.2.1 m.2.2.1 m.2.2.2.1 isI i len pc lv st h with
        | none => none
        | some (.inl ((pc', lv', st'), h', dc, ds)) => aj_frmX rc cls tb fl mi m ct isI deep call n pc' lv' st' h' (kc + dc) (ks + ds) tp
        | some (.inr (.inl (kind, mi', as, (pc', lv', st')))) => if deep = true then (if kind = 5 then aj_frmX rc cls tb fl mi m ct isI deep call n pc' lv' st' h kc ks tp else match call mi' as h tp with
            | none => none
            | some (r', h', c1, s1, t1, os) => if h'.length = h.length + c1 then (match aj_frmX rc cls tb fl mi m ct isI deep call n pc' lv' (r'.toList ++ st') h' (kc + c1) (ks + s1) t1 with
              | none => none
              | some (r, hF, c2, s2, t2, os2) => some (r, hF, c2, s2, t2, os ++ os2)) else none) else none
        | some (.inr (.inr v)) => some (v, h, kc, ks, tp, [])
def aj_runsX (rc : Nat) (cls : List aj_C) (tb : aj_T) (mt : List aj_M) (cd : List (List (Nat × Instr × Nat))) (fl : List (Nat × Nat)) : Nat → Nat → List Value → aj_H → List Int → Option aj_X
  | 0, mi, as, h, tp => match mt[mi]?, cd[mi]? with
    | some m, some ct => if (lg_sl as).length ≤ m.2.2.1 then aj_frmX rc cls tb fl mi m ct (aj_isI m) false (fun _ _ _ _ => none) 100000 0 (lv_args 0 as) [] h 0 0 tp else none
    | _, _ => none
  | d + 1, mi, as, h, tp => match mt[mi]?, cd[mi]? with
    | some m, some ct => if (lg_sl as).length ≤ m.2.2.1 then aj_frmX rc cls tb fl mi m ct (aj_isI m) true (aj_runsX rc cls tb mt cd fl d) 100000 0 (lv_args 0 as) [] h 0 0 tp else none
    | _, _ => none
theorem aj_ask_ok {rc : Nat} {cls : List aj_C} {tb : aj_T} {lk : List aj_L} {nL : Nat} {ret : Option FieldType} {isI : Bool} {i : Instr} {len pc pc' : Nat} {lv : aj_V} {st st' : List Value} {h : aj_H} {b : Int} {o : aj_O} (h0 : aj_ask i len pc st b = some (pc', st', o)) (ho : aj_oOK o) : aj_step rc cls tb lk nL ret isI i len pc lv st h = some (.inl ((pc', lv, st'), h, 0, 0)) := by
  unfold aj_ask at h0
  split at h0
  · split at h0
    · split at h0
      · rename_i hq
        obtain ⟨rfl, hp⟩ := hq
        cases h0
        have ho : aj_test _ _ _ = _ := ho
        simp only [aj_step, if_true, aj_br, if_pos hp, aj_go]
        by_cases hb : b = 1
        · simp [hb] at ho
          simp [hb, ho]
        · simp [hb] at ho
          simp [hb, ho]
      · cases h0
    · cases h0
  · split at h0
    · split at h0
      · rename_i hq
        obtain ⟨rfl, hp⟩ := hq
        cases h0
        have ho : aj_test _ _ _ = _ := ho
        simp only [aj_step, if_true, aj_br, if_pos hp, aj_go]
        by_cases hb : b = 1
        · simp [hb] at ho
          simp [hb, ho]
        · simp [hb] at ho
          simp [hb, ho]
      · cases h0
    · cases h0
  · split at h0
    · split at h0
      · rename_i hq
        split at h0
        · rename_i hp
          cases h0
          have ho : Int32.toInt _ = _ := ho
          simp only [aj_step, ho, if_pos hq, aj_jump, if_pos hp, aj_go]
        · cases h0
      · rename_i hq
        split at h0
        · rename_i off hoff
          split at h0
          · rename_i hp
            cases h0
            have ho : Int32.toInt _ = _ := ho
            simp only [aj_step, ho, if_neg hq, hoff, aj_jump, if_pos hp, aj_go]
          · cases h0
        · cases h0
    · cases h0
  · cases h0
theorem aj_frmX_ok {rc : Nat} {cls : List aj_C} {tb : aj_T} {fl : List (Nat × Nat)} {mi : Nat} {m : aj_M} {ct : List (Nat × Instr × Nat)} (hct : aj_ctOK ct m.2.1) {isI deep : Bool} {call : Nat → List Value → aj_H → List Int → Option aj_X} {callP : Nat → List Value → aj_H → Nat → Nat → Option Value → aj_H → Prop}
    (hcall : ∀ mi as h tp r h' c1 s1 t1 os, call mi as h tp = some (r, h', c1, s1, t1, os) → (∀ o ∈ os, aj_oOK o) → callP mi as h c1 s1 r h') :
    ∀ (n pc : Nat) (lv : aj_V) (st : List Value) (h : aj_H) (kc ks : Nat) (tp : List Int) (r : Option Value) (hF : aj_H) (c1 s1 : Nat) (t1 : List Int) (os : List aj_O), aj_frmX rc cls tb fl mi m ct isI deep call n pc lv st h kc ks tp = some (r, hF, c1, s1, t1, os) → (∀ o ∈ os, aj_oOK o) → kc ≤ c1 ∧ ks ≤ s1 ∧ ∀ ms, s1 ≤ ms → aj_frm rc cls tb m isI deep callP n pc lv st h kc ks c1 ms r hF := by
  intro n
  induction n with
  | zero => intro pc lv st h kc ks tp r hF c1 s1 t1 os hx; cases hx
  | succ n ih =>
    intro pc lv st h kc ks tp r hF c1 s1 t1 os hx ho
    unfold aj_frmX at hx
    split at hx
    · cases hx
    · rename_i i len hd
      have hd := aj_ct_ok hct hd
      split at hx
      · split at hx
        · cases hx
        · rename_i b tp
          split at hx
          · cases hx
          · rename_i pc' st' o hask
            split at hx
            · cases hx
            · rename_i r2 hF2 c2 s2 t2 os2 hrec
              cases hx
              have h1 := aj_ask_ok (rc := rc) (cls := cls) (tb := tb) (lk := m.2.2.2.2.2.1) (nL := m.2.2.1) (ret := m.2.2.2.1) (isI := isI) (lv := lv) (h := h) hask (ho o List.mem_cons_self)
              obtain ⟨g1, g2, g3⟩ := ih _ _ _ _ _ _ _ _ _ _ _ _ _ hrec (fun o' ho' => ho o' (List.mem_cons_of_mem _ ho'))
              refine ⟨g1, g2, fun ms hms => ?_⟩
              unfold aj_frm
              rw [hd]
              dsimp only
              rw [h1]
              exact ⟨g1, Nat.le_trans g2 hms, g3 ms hms⟩
      · split at hx
        · cases hx
        · rename_i pc' lv' st' h' dc ds hs
          obtain ⟨g1, g2, g3⟩ := ih _ _ _ _ _ _ _ _ _ _ _ _ _ hx ho
          refine ⟨by omega, by omega, fun ms hms => ?_⟩
          unfold aj_frm
          rw [hd]
          dsimp only
          rw [hs]
          exact ⟨g1, Nat.le_trans g2 hms, g3 ms hms⟩
        · rename_i kind mi' as pc' lv' st' hs
          split at hx
          · rename_i hdeep
            split at hx
            · rename_i hk5
              obtain ⟨g1, g2, g3⟩ := ih _ _ _ _ _ _ _ _ _ _ _ _ _ hx ho
              refine ⟨g1, g2, fun ms hms => ?_⟩
              unfold aj_frm
              rw [hd]
              dsimp only
              rw [hs]
              exact ⟨hdeep, Or.inl ⟨hk5, g3 ms hms⟩⟩
            · rename_i hk5
              split at hx
              · cases hx
              · rename_i r2 h2 c2 s2 t2 os2 hcl
                split at hx
                · rename_i hlen
                  split at hx
                  · cases hx
                  · rename_i r3 h3 c3 s3 t3 os3 hrec
                    cases hx
                    have hp := hcall _ _ _ _ _ _ _ _ _ _ hcl (fun o ho' => ho o (List.mem_append_left _ ho'))
                    obtain ⟨g1, g2, g3⟩ := ih _ _ _ _ _ _ _ _ _ _ _ _ _ hrec (fun o ho' => ho o (List.mem_append_right _ ho'))
                    refine ⟨by omega, by omega, fun ms hms => ?_⟩
                    unfold aj_frm
                    rw [hd]
                    dsimp only
                    rw [hs]
                    exact ⟨hdeep, Or.inr ⟨hk5, c2, s2, r2, h2, hp, hlen, g1, Nat.le_trans g2 hms, g3 ms hms⟩⟩
                · cases hx
          · cases hx
        · rename_i v hs
          cases hx
          refine ⟨Nat.le_refl _, Nat.le_refl _, fun ms hms => ?_⟩
          unfold aj_frm
          rw [hd]
          dsimp only
          rw [hs]
          exact ⟨rfl, rfl, rfl⟩
theorem aj_runsX_ok {rc : Nat} {cls : List aj_C} {tb : aj_T} {mt : List aj_M} {cd : List (List (Nat × Instr × Nat))} (hcd : ∀ (i : Nat) (m : aj_M) (ct : List (Nat × Instr × Nat)), mt[i]? = some m → cd[i]? = some ct → aj_ctOK ct m.2.1) {fl : List (Nat × Nat)} : ∀ (d mi : Nat) (as : List Value) (h : aj_H) (tp : List Int) (r : Option Value) (h' : aj_H) (c1 s1 : Nat) (t1 : List Int) (os : List aj_O), aj_runsX rc cls tb mt cd fl d mi as h tp = some (r, h', c1, s1, t1, os) → (∀ o ∈ os, aj_oOK o) → aj_runs rc cls tb mt d mi as h c1 s1 r h' := by
  intro d
  induction d with
  | zero =>
    intro mi as h tp r h' c1 s1 t1 os hx ho
    unfold aj_runsX at hx
    split at hx
    · rename_i m ct hm hc
      split at hx
      · rename_i hl
        exact ⟨m, hm, hl, 100000, (aj_frmX_ok (hcd _ _ _ hm hc) (fun _ _ _ _ _ _ _ _ _ _ z => by cases z) _ _ _ _ _ _ _ _ _ _ _ _ _ _ hx ho).2.2 s1 (Nat.le_refl _)⟩
      · cases hx
    · cases hx
  | succ d ih =>
    intro mi as h tp r h' c1 s1 t1 os hx ho
    unfold aj_runsX at hx
    split at hx
    · rename_i m ct hm hc
      split at hx
      · rename_i hl
        exact ⟨m, hm, hl, 100000, (aj_frmX_ok (hcd _ _ _ hm hc) ih _ _ _ _ _ _ _ _ _ _ _ _ _ _ hx ho).2.2 s1 (Nat.le_refl _)⟩
      · cases hx
    · cases hx
end
section
def aj_ckD (b : ByteArray) (ct : List (Nat × Instr × Nat)) : Bool := ct.all fun q => decide (decode b q.1 = .ok q.2)
theorem aj_ckD_ok {b : ByteArray} {ct : List (Nat × Instr × Nat)} (h : aj_ckD b ct = true) : aj_ctOK ct b := fun q hq => of_decide_eq_true (List.all_eq_true.mp h q hq)
theorem aj_ckE {b : ByteArray} : aj_ctOK [] b := fun q hq => absurd hq List.not_mem_nil
set_option maxRecDepth 1000000 in
theorem aj_dkL : aj_ctOK aj_cL code := aj_ckD_ok (by decide +kernel)
set_option maxRecDepth 1000000 in
theorem aj_dk0 : aj_ctOK aj_c0 (aj_bc 189) := by
  rw [show aj_bc 189 = prog_1_method_1_code from rfl]
  exact aj_ckD_ok (by decide +kernel)
set_option maxRecDepth 1000000 in
theorem aj_dk1 : aj_ctOK aj_c1 (aj_bc 197) := by
  rw [show aj_bc 197 = prog_10_method_1_code from rfl]
  exact aj_ckD_ok (by decide +kernel)
set_option maxRecDepth 1000000 in
theorem aj_dk2 : aj_ctOK aj_c2 (aj_bc 204) := by
  rw [show aj_bc 204 = prog_10_method_2_code from rfl]
  exact aj_ckD_ok (by decide +kernel)
set_option maxRecDepth 1000000 in
theorem aj_dk3 : aj_ctOK aj_c3 (aj_bc 208) := by
  rw [show aj_bc 208 = prog_10_method_15_code from rfl]
  exact aj_ckD_ok (by decide +kernel)
set_option maxRecDepth 1000000 in
theorem aj_dk4 : aj_ctOK aj_c4 (aj_bc 212) := by
  rw [show aj_bc 212 = prog_10_method_8_code from rfl]
  exact aj_ckD_ok (by decide +kernel)
set_option maxRecDepth 1000000 in
theorem aj_dk5 : aj_ctOK aj_c5 (aj_bc 216) := by
  rw [show aj_bc 216 = prog_10_method_16_code from rfl]
  exact aj_ckD_ok (by decide +kernel)
set_option maxRecDepth 1000000 in
theorem aj_dk6 : aj_ctOK aj_c6 (aj_bc 220) := by
  rw [show aj_bc 220 = prog_10_method_17_code from rfl]
  exact aj_ckD_ok (by decide +kernel)
set_option maxRecDepth 1000000 in
theorem aj_dk7 : aj_ctOK aj_c7 (aj_bc 298) := by
  rw [show aj_bc 298 = prog_11_method_1_code from rfl]
  exact aj_ckD_ok (by decide +kernel)
set_option maxRecDepth 1000000 in
theorem aj_dk8 : aj_ctOK aj_c8 (aj_bc 317) := by
  rw [show aj_bc 317 = prog_7_method_1_code from rfl]
  exact aj_ckD_ok (by decide +kernel)
set_option maxRecDepth 1000000 in
theorem aj_dk9 : aj_ctOK aj_c9 (aj_bc 353) := by
  rw [show aj_bc 353 = prog_6_method_1_code from rfl]
  exact aj_ckD_ok (by decide +kernel)
set_option maxRecDepth 1000000 in
theorem aj_dk10 : aj_ctOK aj_c10 (aj_bc 408) := by
  rw [show aj_bc 408 = prog_2_method_1_code from rfl]
  exact aj_ckD_ok (by decide +kernel)
set_option maxRecDepth 1000000 in
theorem aj_dk11 : aj_ctOK aj_c11 (aj_bc 442) := by
  rw [show aj_bc 442 = prog_12_method_1_code from rfl]
  exact aj_ckD_ok (by decide +kernel)
set_option maxRecDepth 1000000 in
theorem aj_dk12 : aj_ctOK aj_c12 (aj_bc 448) := by
  rw [show aj_bc 448 = prog_4_method_1_code from rfl]
  exact aj_ckD_ok (by decide +kernel)
set_option maxRecDepth 1000000 in
theorem aj_dk13 : aj_ctOK aj_c13 (aj_bc 479) := by
  rw [show aj_bc 479 = prog_9_method_1_code from rfl]
  exact aj_ckD_ok (by decide +kernel)
set_option maxRecDepth 1000000 in
theorem aj_dk14 : aj_ctOK aj_c14 (aj_bc 556) := by
  rw [show aj_bc 556 = prog_5_method_1_code from rfl]
  exact aj_ckD_ok (by decide +kernel)
set_option maxRecDepth 1000000 in
theorem aj_dk15 : aj_ctOK aj_c15 (aj_bc 600) := by
  rw [show aj_bc 600 = prog_8_method_1_code from rfl]
  exact aj_ckD_ok (by decide +kernel)
set_option maxRecDepth 1000000 in
theorem aj_dk16 : aj_ctOK aj_c16 (aj_bc 661) := by
  rw [show aj_bc 661 = prog_1_method_2_code from rfl]
  exact aj_ckD_ok (by decide +kernel)
set_option maxRecDepth 1000000 in
theorem aj_dk17 : aj_ctOK aj_c17 (aj_bc 665) := by
  rw [show aj_bc 665 = prog_1_method_22_code from rfl]
  exact aj_ckD_ok (by decide +kernel)
set_option maxRecDepth 1000000 in
theorem aj_dk18 : aj_ctOK aj_c18 (aj_bc 669) := by
  rw [show aj_bc 669 = prog_1_method_3_code from rfl]
  exact aj_ckD_ok (by decide +kernel)
set_option maxRecDepth 1000000 in
theorem aj_dk19 : aj_ctOK aj_c19 (aj_bc 673) := by
  rw [show aj_bc 673 = prog_1_method_4_code from rfl]
  exact aj_ckD_ok (by decide +kernel)
set_option maxRecDepth 1000000 in
theorem aj_dk20 : aj_ctOK aj_c20 (aj_bc 678) := by
  rw [show aj_bc 678 = prog_1_method_23_code from rfl]
  exact aj_ckD_ok (by decide +kernel)
set_option maxRecDepth 1000000 in
theorem aj_dk21 : aj_ctOK aj_c21 (aj_bc 682) := by
  rw [show aj_bc 682 = prog_11_method_6_code from rfl]
  exact aj_ckD_ok (by decide +kernel)
set_option maxRecDepth 1000000 in
theorem aj_dk22 : aj_ctOK aj_c22 (aj_bc 685) := by
  rw [show aj_bc 685 = prog_11_method_12_code from rfl]
  exact aj_ckD_ok (by decide +kernel)
set_option maxRecDepth 1000000 in
theorem aj_dk27 : aj_ctOK aj_c27 (aj_bc 703) := by
  rw [show aj_bc 703 = prog_11_method_10_code from rfl]
  exact aj_ckD_ok (by decide +kernel)
set_option maxRecDepth 1000000 in
theorem aj_dk31 : aj_ctOK aj_c31 (aj_bc 720) := by
  rw [show aj_bc 720 = prog_7_method_2_code from rfl]
  exact aj_ckD_ok (by decide +kernel)
set_option maxRecDepth 1000000 in
theorem aj_dk32 : aj_ctOK aj_c32 (aj_bc 724) := by
  rw [show aj_bc 724 = prog_6_method_2_code from rfl]
  exact aj_ckD_ok (by decide +kernel)
set_option maxRecDepth 1000000 in
theorem aj_dk33 : aj_ctOK aj_c33 (aj_bc 728) := by
  rw [show aj_bc 728 = prog_6_method_3_code from rfl]
  exact aj_ckD_ok (by decide +kernel)
set_option maxRecDepth 1000000 in
theorem aj_dk34 : aj_ctOK aj_c34 (aj_bc 733) := by
  rw [show aj_bc 733 = prog_6_method_6_code from rfl]
  exact aj_ckD_ok (by decide +kernel)
set_option maxRecDepth 1000000 in
theorem aj_dk37 : aj_ctOK aj_c37 (aj_bc 745) := by
  rw [show aj_bc 745 = prog_11_method_4_code from rfl]
  exact aj_ckD_ok (by decide +kernel)
set_option maxRecDepth 1000000 in
theorem aj_dk43 : aj_ctOK aj_c43 (aj_bc 769) := by
  rw [show aj_bc 769 = prog_11_method_3_code from rfl]
  exact aj_ckD_ok (by decide +kernel)
set_option maxRecDepth 1000000 in
theorem aj_dk44 : aj_ctOK aj_c44 (aj_bc 773) := by
  rw [show aj_bc 773 = prog_7_method_4_code from rfl]
  exact aj_ckD_ok (by decide +kernel)
set_option maxRecDepth 1000000 in
theorem aj_dk45 : aj_ctOK aj_c45 (aj_bc 777) := by
  rw [show aj_bc 777 = prog_6_method_4_code from rfl]
  exact aj_ckD_ok (by decide +kernel)
set_option maxRecDepth 1000000 in
theorem aj_dk46 : aj_ctOK aj_c46 (aj_bc 781) := by
  rw [show aj_bc 781 = prog_11_method_2_code from rfl]
  exact aj_ckD_ok (by decide +kernel)
set_option maxRecDepth 1000000 in
theorem aj_dk47 : aj_ctOK aj_c47 (aj_bc 784) := by
  rw [show aj_bc 784 = prog_3_method_2_code from rfl]
  exact aj_ckD_ok (by decide +kernel)
set_option maxRecDepth 1000000 in
theorem aj_dk48 : aj_ctOK aj_c48 (aj_bc 787) := by
  rw [show aj_bc 787 = prog_3_method_3_code from rfl]
  exact aj_ckD_ok (by decide +kernel)
set_option maxRecDepth 1000000 in
theorem aj_dk49 : aj_ctOK aj_c49 (aj_bc 802) := by
  rw [show aj_bc 802 = prog_3_method_4_code from rfl]
  exact aj_ckD_ok (by decide +kernel)
set_option maxRecDepth 1000000 in
theorem aj_dk50 : aj_ctOK aj_c50 (aj_bc 823) := by
  rw [show aj_bc 823 = prog_3_method_5_code from rfl]
  exact aj_ckD_ok (by decide +kernel)
set_option maxRecDepth 1000000 in
theorem aj_dk51 : aj_ctOK aj_c51 (aj_bc 840) := by
  rw [show aj_bc 840 = prog_3_method_6_code from rfl]
  exact aj_ckD_ok (by decide +kernel)
set_option maxRecDepth 1000000 in
theorem aj_dk55 : aj_ctOK aj_c55 (aj_bc 909) := by
  rw [show aj_bc 909 = prog_6_method_5_code from rfl]
  exact aj_ckD_ok (by decide +kernel)
set_option maxRecDepth 1000000 in
theorem aj_dk56 : aj_ctOK aj_c56 (aj_bc 913) := by
  rw [show aj_bc 913 = prog_2_method_2_code from rfl]
  exact aj_ckD_ok (by decide +kernel)
set_option maxRecDepth 1000000 in
theorem aj_dk57 : aj_ctOK aj_c57 (aj_bc 917) := by
  rw [show aj_bc 917 = prog_7_method_5_code from rfl]
  exact aj_ckD_ok (by decide +kernel)
set_option maxRecDepth 1000000 in
theorem aj_dk63 : aj_ctOK aj_c63 (aj_bc 942) := by
  rw [show aj_bc 942 = prog_10_method_13_code from rfl]
  exact aj_ckD_ok (by decide +kernel)
set_option maxRecDepth 1000000 in
theorem aj_dk95 : aj_ctOK aj_c95 (aj_bc 1078) := by
  rw [show aj_bc 1078 = prog_10_method_14_code from rfl]
  exact aj_ckD_ok (by decide +kernel)
set_option maxRecDepth 1000000 in
theorem aj_dk97 : aj_ctOK aj_c97 (aj_bc 1086) := by
  rw [show aj_bc 1086 = prog_12_method_4_code from rfl]
  exact aj_ckD_ok (by decide +kernel)
set_option maxRecDepth 1000000 in
theorem aj_dk150 : aj_ctOK aj_c150 (aj_bc 1327) := by
  rw [show aj_bc 1327 = prog_1_method_25_code from rfl]
  exact aj_ckD_ok (by decide +kernel)
set_option maxRecDepth 1000000 in
theorem aj_dk151 : aj_ctOK aj_c151 (aj_bc 1331) := by
  rw [show aj_bc 1331 = prog_5_method_5_code from rfl]
  exact aj_ckD_ok (by decide +kernel)
set_option maxRecDepth 1000000 in
theorem aj_dk152 : aj_ctOK aj_c152 (aj_bc 1335) := by
  rw [show aj_bc 1335 = prog_8_method_2_code from rfl]
  exact aj_ckD_ok (by decide +kernel)
set_option maxRecDepth 1000000 in
theorem aj_dk153 : aj_ctOK aj_c153 (aj_bc 1339) := by
  rw [show aj_bc 1339 = prog_1_method_5_code from rfl]
  exact aj_ckD_ok (by decide +kernel)
set_option maxRecDepth 1000000 in
theorem aj_dk154 : aj_ctOK aj_c154 (aj_bc 1343) := by
  rw [show aj_bc 1343 = prog_1_method_6_code from rfl]
  exact aj_ckD_ok (by decide +kernel)
set_option maxRecDepth 1000000 in
theorem aj_dk155 : aj_ctOK aj_c155 (aj_bc 1347) := by
  rw [show aj_bc 1347 = prog_1_method_24_code from rfl]
  exact aj_ckD_ok (by decide +kernel)
set_option maxRecDepth 1000000 in
theorem aj_dk156 : aj_ctOK aj_c156 (aj_bc 1351) := by
  rw [show aj_bc 1351 = prog_12_method_3_code from rfl]
  exact aj_ckD_ok (by decide +kernel)
set_option maxRecDepth 1000000 in
theorem aj_dk157 : aj_ctOK aj_c157 (aj_bc 1355) := by
  rw [show aj_bc 1355 = prog_10_method_22_code from rfl]
  exact aj_ckD_ok (by decide +kernel)
set_option maxRecDepth 1000000 in
theorem aj_dk158 : aj_ctOK aj_c158 (aj_bc 1359) := by
  rw [show aj_bc 1359 = prog_10_method_18_code from rfl]
  exact aj_ckD_ok (by decide +kernel)
set_option maxRecDepth 1000000 in
theorem aj_dk159 : aj_ctOK aj_c159 (aj_bc 1364) := by
  rw [show aj_bc 1364 = prog_1_method_7_code from rfl]
  exact aj_ckD_ok (by decide +kernel)
set_option maxRecDepth 1000000 in
theorem aj_dk161 : aj_ctOK aj_c161 (aj_bc 1372) := by
  rw [show aj_bc 1372 = prog_1_method_8_code from rfl]
  exact aj_ckD_ok (by decide +kernel)
set_option maxRecDepth 1000000 in
theorem aj_dk163 : aj_ctOK aj_c163 (aj_bc 1380) := by
  rw [show aj_bc 1380 = prog_1_method_9_code from rfl]
  exact aj_ckD_ok (by decide +kernel)
set_option maxRecDepth 1000000 in
theorem aj_dk164 : aj_ctOK aj_c164 (aj_bc 1384) := by
  rw [show aj_bc 1384 = prog_8_method_3_code from rfl]
  exact aj_ckD_ok (by decide +kernel)
set_option maxRecDepth 1000000 in
theorem aj_dk165 : aj_ctOK aj_c165 (aj_bc 1388) := by
  rw [show aj_bc 1388 = prog_8_method_4_code from rfl]
  exact aj_ckD_ok (by decide +kernel)
set_option maxRecDepth 1000000 in
theorem aj_dk166 : aj_ctOK aj_c166 (aj_bc 1392) := by
  rw [show aj_bc 1392 = prog_10_method_21_code from rfl]
  exact aj_ckD_ok (by decide +kernel)
set_option maxRecDepth 1000000 in
theorem aj_dk167 : aj_ctOK aj_c167 (aj_bc 1396) := by
  rw [show aj_bc 1396 = prog_10_method_20_code from rfl]
  exact aj_ckD_ok (by decide +kernel)
set_option maxRecDepth 1000000 in
theorem aj_dk172 : aj_ctOK aj_c172 (aj_bc 1417) := by
  rw [show aj_bc 1417 = prog_1_method_10_code from rfl]
  exact aj_ckD_ok (by decide +kernel)
set_option maxRecDepth 1000000 in
theorem aj_dk173 : aj_ctOK aj_c173 (aj_bc 1424) := by
  rw [show aj_bc 1424 = prog_1_method_11_code from rfl]
  exact aj_ckD_ok (by decide +kernel)
set_option maxRecDepth 1000000 in
theorem aj_dk186 : aj_ctOK aj_c186 (aj_bc 1489) := by
  rw [show aj_bc 1489 = prog_1_method_12_code from rfl]
  exact aj_ckD_ok (by decide +kernel)
set_option maxRecDepth 1000000 in
theorem aj_dk187 : aj_ctOK aj_c187 (aj_bc 1495) := by
  rw [show aj_bc 1495 = prog_1_method_13_code from rfl]
  exact aj_ckD_ok (by decide +kernel)
set_option maxRecDepth 1000000 in
theorem aj_dk188 : aj_ctOK aj_c188 (aj_bc 1500) := by
  rw [show aj_bc 1500 = prog_1_method_14_code from rfl]
  exact aj_ckD_ok (by decide +kernel)
set_option maxRecDepth 1000000 in
theorem aj_dk189 : aj_ctOK aj_c189 (aj_bc 1504) := by
  rw [show aj_bc 1504 = prog_1_method_15_code from rfl]
  exact aj_ckD_ok (by decide +kernel)
set_option maxRecDepth 1000000 in
theorem aj_dk190 : aj_ctOK aj_c190 (aj_bc 1509) := by
  rw [show aj_bc 1509 = prog_1_method_16_code from rfl]
  exact aj_ckD_ok (by decide +kernel)
set_option maxRecDepth 1000000 in
theorem aj_dk191 : aj_ctOK aj_c191 (aj_bc 1514) := by
  rw [show aj_bc 1514 = prog_1_method_17_code from rfl]
  exact aj_ckD_ok (by decide +kernel)
set_option maxRecDepth 1000000 in
theorem aj_dk193 : aj_ctOK aj_c193 (aj_bc 1522) := by
  rw [show aj_bc 1522 = prog_1_method_26_code from rfl]
  exact aj_ckD_ok (by decide +kernel)
set_option maxRecDepth 1000000 in
theorem aj_dk194 : aj_ctOK aj_c194 (aj_bc 1528) := by
  rw [show aj_bc 1528 = prog_1_method_18_code from rfl]
  exact aj_ckD_ok (by decide +kernel)
set_option maxRecDepth 1000000 in
theorem aj_dk195 : aj_ctOK aj_c195 (aj_bc 1533) := by
  rw [show aj_bc 1533 = prog_1_method_19_code from rfl]
  exact aj_ckD_ok (by decide +kernel)
set_option maxRecDepth 1000000 in
theorem aj_dk196 : aj_ctOK aj_c196 (aj_bc 1538) := by
  rw [show aj_bc 1538 = prog_1_method_20_code from rfl]
  exact aj_ckD_ok (by decide +kernel)
set_option maxRecDepth 1000000 in
theorem aj_dk197 : aj_ctOK aj_c197 (aj_bc 1542) := by
  rw [show aj_bc 1542 = prog_1_method_27_code from rfl]
  exact aj_ckD_ok (by decide +kernel)
set_option maxRecDepth 1000000 in
theorem aj_dk198 : aj_ctOK aj_c198 (aj_bc 1547) := by
  rw [show aj_bc 1547 = prog_1_method_21_code from rfl]
  exact aj_ckD_ok (by decide +kernel)
set_option maxRecDepth 1000000 in
theorem aj_dk199 : aj_ctOK aj_c199 (aj_bc 1552) := by
  rw [show aj_bc 1552 = prog_14_method_1_code from rfl]
  exact aj_ckD_ok (by decide +kernel)
set_option maxRecDepth 1000000 in
theorem aj_dk200 : aj_ctOK aj_c200 (aj_bc 1777) := by
  rw [show aj_bc 1777 = prog_14_method_2_code from rfl]
  exact aj_ckD_ok (by decide +kernel)
set_option maxRecDepth 1000000 in
theorem aj_dk201 : aj_ctOK aj_c201 (aj_bc 1781) := by
  rw [show aj_bc 1781 = prog_14_method_3_code from rfl]
  exact aj_ckD_ok (by decide +kernel)
set_option maxRecDepth 1000000 in
theorem aj_dk202 : aj_ctOK aj_c202 (aj_bc 1785) := by
  rw [show aj_bc 1785 = prog_14_method_4_code from rfl]
  exact aj_ckD_ok (by decide +kernel)
set_option maxRecDepth 1000000 in
theorem aj_dk203 : aj_ctOK aj_c203 (aj_bc 1789) := by
  rw [show aj_bc 1789 = prog_14_method_37_code from rfl]
  exact aj_ckD_ok (by decide +kernel)
set_option maxRecDepth 1000000 in
theorem aj_dk204 : aj_ctOK aj_c204 (aj_bc 1793) := by
  rw [show aj_bc 1793 = prog_14_method_38_code from rfl]
  exact aj_ckD_ok (by decide +kernel)
set_option maxRecDepth 1000000 in
theorem aj_dk205 : aj_ctOK aj_c205 (aj_bc 1797) := by
  rw [show aj_bc 1797 = prog_14_method_11_code from rfl]
  exact aj_ckD_ok (by decide +kernel)
set_option maxRecDepth 1000000 in
theorem aj_dk206 : aj_ctOK aj_c206 (aj_bc 1801) := by
  rw [show aj_bc 1801 = prog_14_method_10_code from rfl]
  exact aj_ckD_ok (by decide +kernel)
set_option maxRecDepth 1000000 in
theorem aj_dk207 : aj_ctOK aj_c207 (aj_bc 1805) := by
  rw [show aj_bc 1805 = prog_14_method_5_code from rfl]
  exact aj_ckD_ok (by decide +kernel)
set_option maxRecDepth 1000000 in
theorem aj_dk212 : aj_ctOK aj_c212 (aj_bc 1834) := by
  rw [show aj_bc 1834 = prog_14_method_16_code from rfl]
  exact aj_ckD_ok (by decide +kernel)
set_option maxRecDepth 1000000 in
theorem aj_dk215 : aj_ctOK aj_c215 (aj_bc 1846) := by
  rw [show aj_bc 1846 = prog_14_method_12_code from rfl]
  exact aj_ckD_ok (by decide +kernel)
set_option maxRecDepth 1000000 in
theorem aj_dk220 : aj_ctOK aj_c220 (aj_bc 1866) := by
  rw [show aj_bc 1866 = prog_14_method_15_code from rfl]
  exact aj_ckD_ok (by decide +kernel)
set_option maxRecDepth 1000000 in
theorem aj_dk237 : aj_ctOK aj_c237 (aj_bc 1931) := by
  rw [show aj_bc 1931 = prog_14_method_35_code from rfl]
  exact aj_ckD_ok (by decide +kernel)
set_option maxRecDepth 1000000 in
theorem aj_dk238 : aj_ctOK aj_c238 (aj_bc 1935) := by
  rw [show aj_bc 1935 = prog_14_method_36_code from rfl]
  exact aj_ckD_ok (by decide +kernel)
set_option maxRecDepth 1000000 in
theorem aj_dk241 : aj_ctOK aj_c241 (aj_bc 1947) := by
  rw [show aj_bc 1947 = prog_14_method_24_code from rfl]
  exact aj_ckD_ok (by decide +kernel)
set_option maxRecDepth 1000000 in
theorem aj_dk247 : aj_ctOK aj_c247 (aj_bc 1970) := by
  rw [show aj_bc 1970 = prog_14_method_49_code from rfl]
  exact aj_ckD_ok (by decide +kernel)
set_option maxRecDepth 1000000 in
theorem aj_dk280 : aj_ctOK aj_c280 (aj_bc 2102) := by
  rw [show aj_bc 2102 = prog_14_method_82_code from rfl]
  exact aj_ckD_ok (by decide +kernel)
set_option maxRecDepth 1000000 in
theorem aj_dk281 : aj_ctOK aj_c281 (aj_bc 2106) := by
  rw [show aj_bc 2106 = prog_14_method_85_code from rfl]
  exact aj_ckD_ok (by decide +kernel)
set_option maxRecDepth 1000000 in
theorem aj_dk282 : aj_ctOK aj_c282 (aj_bc 2110) := by
  rw [show aj_bc 2110 = prog_14_method_83_code from rfl]
  exact aj_ckD_ok (by decide +kernel)
set_option maxRecDepth 1000000 in
theorem aj_dk283 : aj_ctOK aj_c283 (aj_bc 2114) := by
  rw [show aj_bc 2114 = prog_14_method_86_code from rfl]
  exact aj_ckD_ok (by decide +kernel)
set_option maxRecDepth 1000000 in
theorem aj_dk284 : aj_ctOK aj_c284 (aj_bc 2118) := by
  rw [show aj_bc 2118 = prog_14_method_87_code from rfl]
  exact aj_ckD_ok (by decide +kernel)
set_option maxRecDepth 1000000 in
theorem aj_dk285 : aj_ctOK aj_c285 (aj_bc 2122) := by
  rw [show aj_bc 2122 = prog_14_method_88_code from rfl]
  exact aj_ckD_ok (by decide +kernel)
set_option maxRecDepth 1000000 in
theorem aj_dk288 : aj_ctOK aj_c288 (aj_bc 2134) := by
  rw [show aj_bc 2134 = prog_14_method_93_code from rfl]
  exact aj_ckD_ok (by decide +kernel)
set_option maxRecDepth 1000000 in
theorem aj_dk289 : aj_ctOK aj_c289 (aj_bc 2138) := by
  rw [show aj_bc 2138 = prog_14_method_92_code from rfl]
  exact aj_ckD_ok (by decide +kernel)
set_option maxRecDepth 1000000 in
theorem aj_dk290 : aj_ctOK aj_c290 (aj_bc 2143) := by
  rw [show aj_bc 2143 = prog_14_method_94_code from rfl]
  exact aj_ckD_ok (by decide +kernel)
set_option maxRecDepth 1000000 in
theorem aj_dk291 : aj_ctOK aj_c291 (aj_bc 2147) := by
  rw [show aj_bc 2147 = prog_14_method_91_code from rfl]
  exact aj_ckD_ok (by decide +kernel)
set_option maxRecDepth 1000000 in
theorem aj_dk297 : aj_ctOK aj_c297 (aj_bc 2171) := by
  rw [show aj_bc 2171 = prog_14_method_96_code from rfl]
  exact aj_ckD_ok (by decide +kernel)
set_option maxRecDepth 1000000 in
theorem aj_dk298 : aj_ctOK aj_c298 (aj_bc 2175) := by
  rw [show aj_bc 2175 = prog_14_method_95_code from rfl]
  exact aj_ckD_ok (by decide +kernel)
set_option maxRecDepth 1000000 in
theorem aj_dk299 : aj_ctOK aj_c299 (aj_bc 2179) := by
  rw [show aj_bc 2179 = prog_14_method_97_code from rfl]
  exact aj_ckD_ok (by decide +kernel)
set_option maxRecDepth 1000000 in
theorem aj_dk300 : aj_ctOK aj_c300 (aj_bc 2183) := by
  rw [show aj_bc 2183 = prog_14_method_98_code from rfl]
  exact aj_ckD_ok (by decide +kernel)
set_option maxRecDepth 1000000 in
theorem aj_dk301 : aj_ctOK aj_c301 (aj_bc 2187) := by
  rw [show aj_bc 2187 = prog_14_method_99_code from rfl]
  exact aj_ckD_ok (by decide +kernel)
set_option maxRecDepth 1000000 in
theorem aj_dk302 : aj_ctOK aj_c302 (aj_bc 2191) := by
  rw [show aj_bc 2191 = prog_14_method_100_code from rfl]
  exact aj_ckD_ok (by decide +kernel)
set_option maxRecDepth 1000000 in
theorem aj_dk303 : aj_ctOK aj_c303 (aj_bc 2195) := by
  rw [show aj_bc 2195 = prog_14_method_103_code from rfl]
  exact aj_ckD_ok (by decide +kernel)
set_option maxRecDepth 1000000 in
theorem aj_dk304 : aj_ctOK aj_c304 (aj_bc 2199) := by
  rw [show aj_bc 2199 = prog_14_method_107_code from rfl]
  exact aj_ckD_ok (by decide +kernel)
set_option maxRecDepth 1000000 in
theorem aj_dk305 : aj_ctOK aj_c305 (aj_bc 2203) := by
  rw [show aj_bc 2203 = prog_14_method_108_code from rfl]
  exact aj_ckD_ok (by decide +kernel)
set_option maxRecDepth 1000000 in
theorem aj_dk306 : aj_ctOK aj_c306 (aj_bc 2207) := by
  rw [show aj_bc 2207 = prog_14_method_109_code from rfl]
  exact aj_ckD_ok (by decide +kernel)
set_option maxRecDepth 1000000 in
theorem aj_dk308 : aj_ctOK aj_c308 (aj_bc 2215) := by
  rw [show aj_bc 2215 = prog_14_method_111_code from rfl]
  exact aj_ckD_ok (by decide +kernel)
set_option maxRecDepth 1000000 in
theorem aj_dk309 : aj_ctOK aj_c309 (aj_bc 2219) := by
  rw [show aj_bc 2219 = prog_14_method_84_code from rfl]
  exact aj_ckD_ok (by decide +kernel)
end
section
def aj_cu0 : List (List (Nat × Instr × Nat)) := [aj_c0, aj_c1, aj_c2, aj_c3, aj_c4, aj_c5, aj_c6, aj_c7, aj_c8, aj_c9, aj_c10, aj_c11, aj_c12, aj_c13, aj_c14, aj_c15, aj_c16, aj_c17, aj_c18, aj_c19, aj_c20, aj_c21, aj_c22, [], [], [], [], aj_c27, [], [], [], aj_c31, aj_c32, aj_c33, aj_c34, [], [], aj_c37, [], [], [], [], [], aj_c43, aj_c44, aj_c45, aj_c46, aj_c47, aj_c48, aj_c49, aj_c50, aj_c51, [], [], [], aj_c55, aj_c56, aj_c57, [], []]
set_option maxRecDepth 1000000 in
theorem aj_du0 : ∀ q ∈ aj_rt0.zip aj_cu0, aj_ctOK q.2 (aj_bc q.1.2.1) := List.forall_mem_cons.mpr ⟨aj_dk0, List.forall_mem_cons.mpr ⟨aj_dk1, List.forall_mem_cons.mpr ⟨aj_dk2, List.forall_mem_cons.mpr ⟨aj_dk3, List.forall_mem_cons.mpr ⟨aj_dk4, List.forall_mem_cons.mpr ⟨aj_dk5, List.forall_mem_cons.mpr ⟨aj_dk6, List.forall_mem_cons.mpr ⟨aj_dk7, List.forall_mem_cons.mpr ⟨aj_dk8, List.forall_mem_cons.mpr ⟨aj_dk9, List.forall_mem_cons.mpr ⟨aj_dk10, List.forall_mem_cons.mpr ⟨aj_dk11, List.forall_mem_cons.mpr ⟨aj_dk12, List.forall_mem_cons.mpr ⟨aj_dk13, List.forall_mem_cons.mpr ⟨aj_dk14, List.forall_mem_cons.mpr ⟨aj_dk15, List.forall_mem_cons.mpr ⟨aj_dk16, List.forall_mem_cons.mpr ⟨aj_dk17, List.forall_mem_cons.mpr ⟨aj_dk18, List.forall_mem_cons.mpr ⟨aj_dk19, List.forall_mem_cons.mpr ⟨aj_dk20, List.forall_mem_cons.mpr ⟨aj_dk21, List.forall_mem_cons.mpr ⟨aj_dk22, List.forall_mem_cons.mpr ⟨aj_ckE, List.forall_mem_cons.mpr ⟨aj_ckE, List.forall_mem_cons.mpr ⟨aj_ckE, List.forall_mem_cons.mpr ⟨aj_ckE, List.forall_mem_cons.mpr ⟨aj_dk27, List.forall_mem_cons.mpr ⟨aj_ckE, List.forall_mem_cons.mpr ⟨aj_ckE, List.forall_mem_cons.mpr ⟨aj_ckE, List.forall_mem_cons.mpr ⟨aj_dk31, List.forall_mem_cons.mpr ⟨aj_dk32, List.forall_mem_cons.mpr ⟨aj_dk33, List.forall_mem_cons.mpr ⟨aj_dk34, List.forall_mem_cons.mpr ⟨aj_ckE, List.forall_mem_cons.mpr ⟨aj_ckE, List.forall_mem_cons.mpr ⟨aj_dk37, List.forall_mem_cons.mpr ⟨aj_ckE, List.forall_mem_cons.mpr ⟨aj_ckE, List.forall_mem_cons.mpr ⟨aj_ckE, List.forall_mem_cons.mpr ⟨aj_ckE, List.forall_mem_cons.mpr ⟨aj_ckE, List.forall_mem_cons.mpr ⟨aj_dk43, List.forall_mem_cons.mpr ⟨aj_dk44, List.forall_mem_cons.mpr ⟨aj_dk45, List.forall_mem_cons.mpr ⟨aj_dk46, List.forall_mem_cons.mpr ⟨aj_dk47, List.forall_mem_cons.mpr ⟨aj_dk48, List.forall_mem_cons.mpr ⟨aj_dk49, List.forall_mem_cons.mpr ⟨aj_dk50, List.forall_mem_cons.mpr ⟨aj_dk51, List.forall_mem_cons.mpr ⟨aj_ckE, List.forall_mem_cons.mpr ⟨aj_ckE, List.forall_mem_cons.mpr ⟨aj_ckE, List.forall_mem_cons.mpr ⟨aj_dk55, List.forall_mem_cons.mpr ⟨aj_dk56, List.forall_mem_cons.mpr ⟨aj_dk57, List.forall_mem_cons.mpr ⟨aj_ckE, List.forall_mem_cons.mpr ⟨aj_ckE, fun _ h => absurd h List.not_mem_nil⟩⟩⟩⟩⟩⟩⟩⟩⟩⟩⟩⟩⟩⟩⟩⟩⟩⟩⟩⟩⟩⟩⟩⟩⟩⟩⟩⟩⟩⟩⟩⟩⟩⟩⟩⟩⟩⟩⟩⟩⟩⟩⟩⟩⟩⟩⟩⟩⟩⟩⟩⟩⟩⟩⟩⟩⟩⟩⟩⟩
def aj_cu1 : List (List (Nat × Instr × Nat)) := [[], [], [], aj_c63, [], [], [], [], [], [], [], [], [], [], [], [], [], [], [], [], [], [], [], [], [], [], [], [], [], [], [], [], [], [], [], aj_c95, [], aj_c97, [], [], [], [], [], [], [], [], [], [], [], [], [], [], [], [], [], [], [], [], [], []]
set_option maxRecDepth 1000000 in
theorem aj_du1 : ∀ q ∈ aj_rt1.zip aj_cu1, aj_ctOK q.2 (aj_bc q.1.2.1) := List.forall_mem_cons.mpr ⟨aj_ckE, List.forall_mem_cons.mpr ⟨aj_ckE, List.forall_mem_cons.mpr ⟨aj_ckE, List.forall_mem_cons.mpr ⟨aj_dk63, List.forall_mem_cons.mpr ⟨aj_ckE, List.forall_mem_cons.mpr ⟨aj_ckE, List.forall_mem_cons.mpr ⟨aj_ckE, List.forall_mem_cons.mpr ⟨aj_ckE, List.forall_mem_cons.mpr ⟨aj_ckE, List.forall_mem_cons.mpr ⟨aj_ckE, List.forall_mem_cons.mpr ⟨aj_ckE, List.forall_mem_cons.mpr ⟨aj_ckE, List.forall_mem_cons.mpr ⟨aj_ckE, List.forall_mem_cons.mpr ⟨aj_ckE, List.forall_mem_cons.mpr ⟨aj_ckE, List.forall_mem_cons.mpr ⟨aj_ckE, List.forall_mem_cons.mpr ⟨aj_ckE, List.forall_mem_cons.mpr ⟨aj_ckE, List.forall_mem_cons.mpr ⟨aj_ckE, List.forall_mem_cons.mpr ⟨aj_ckE, List.forall_mem_cons.mpr ⟨aj_ckE, List.forall_mem_cons.mpr ⟨aj_ckE, List.forall_mem_cons.mpr ⟨aj_ckE, List.forall_mem_cons.mpr ⟨aj_ckE, List.forall_mem_cons.mpr ⟨aj_ckE, List.forall_mem_cons.mpr ⟨aj_ckE, List.forall_mem_cons.mpr ⟨aj_ckE, List.forall_mem_cons.mpr ⟨aj_ckE, List.forall_mem_cons.mpr ⟨aj_ckE, List.forall_mem_cons.mpr ⟨aj_ckE, List.forall_mem_cons.mpr ⟨aj_ckE, List.forall_mem_cons.mpr ⟨aj_ckE, List.forall_mem_cons.mpr ⟨aj_ckE, List.forall_mem_cons.mpr ⟨aj_ckE, List.forall_mem_cons.mpr ⟨aj_ckE, List.forall_mem_cons.mpr ⟨aj_dk95, List.forall_mem_cons.mpr ⟨aj_ckE, List.forall_mem_cons.mpr ⟨aj_dk97, List.forall_mem_cons.mpr ⟨aj_ckE, List.forall_mem_cons.mpr ⟨aj_ckE, List.forall_mem_cons.mpr ⟨aj_ckE, List.forall_mem_cons.mpr ⟨aj_ckE, List.forall_mem_cons.mpr ⟨aj_ckE, List.forall_mem_cons.mpr ⟨aj_ckE, List.forall_mem_cons.mpr ⟨aj_ckE, List.forall_mem_cons.mpr ⟨aj_ckE, List.forall_mem_cons.mpr ⟨aj_ckE, List.forall_mem_cons.mpr ⟨aj_ckE, List.forall_mem_cons.mpr ⟨aj_ckE, List.forall_mem_cons.mpr ⟨aj_ckE, List.forall_mem_cons.mpr ⟨aj_ckE, List.forall_mem_cons.mpr ⟨aj_ckE, List.forall_mem_cons.mpr ⟨aj_ckE, List.forall_mem_cons.mpr ⟨aj_ckE, List.forall_mem_cons.mpr ⟨aj_ckE, List.forall_mem_cons.mpr ⟨aj_ckE, List.forall_mem_cons.mpr ⟨aj_ckE, List.forall_mem_cons.mpr ⟨aj_ckE, List.forall_mem_cons.mpr ⟨aj_ckE, List.forall_mem_cons.mpr ⟨aj_ckE, fun _ h => absurd h List.not_mem_nil⟩⟩⟩⟩⟩⟩⟩⟩⟩⟩⟩⟩⟩⟩⟩⟩⟩⟩⟩⟩⟩⟩⟩⟩⟩⟩⟩⟩⟩⟩⟩⟩⟩⟩⟩⟩⟩⟩⟩⟩⟩⟩⟩⟩⟩⟩⟩⟩⟩⟩⟩⟩⟩⟩⟩⟩⟩⟩⟩⟩
def aj_cu2 : List (List (Nat × Instr × Nat)) := [[], [], [], [], [], [], [], [], [], [], [], [], [], [], [], [], [], [], [], [], [], [], [], [], [], [], [], [], [], [], aj_c150, aj_c151, aj_c152, aj_c153, aj_c154, aj_c155, aj_c156, aj_c157, aj_c158, aj_c159, [], aj_c161, [], aj_c163, aj_c164, aj_c165, aj_c166, aj_c167, [], [], [], [], aj_c172, aj_c173, [], [], [], [], [], []]
set_option maxRecDepth 1000000 in
theorem aj_du2 : ∀ q ∈ aj_rt2.zip aj_cu2, aj_ctOK q.2 (aj_bc q.1.2.1) := List.forall_mem_cons.mpr ⟨aj_ckE, List.forall_mem_cons.mpr ⟨aj_ckE, List.forall_mem_cons.mpr ⟨aj_ckE, List.forall_mem_cons.mpr ⟨aj_ckE, List.forall_mem_cons.mpr ⟨aj_ckE, List.forall_mem_cons.mpr ⟨aj_ckE, List.forall_mem_cons.mpr ⟨aj_ckE, List.forall_mem_cons.mpr ⟨aj_ckE, List.forall_mem_cons.mpr ⟨aj_ckE, List.forall_mem_cons.mpr ⟨aj_ckE, List.forall_mem_cons.mpr ⟨aj_ckE, List.forall_mem_cons.mpr ⟨aj_ckE, List.forall_mem_cons.mpr ⟨aj_ckE, List.forall_mem_cons.mpr ⟨aj_ckE, List.forall_mem_cons.mpr ⟨aj_ckE, List.forall_mem_cons.mpr ⟨aj_ckE, List.forall_mem_cons.mpr ⟨aj_ckE, List.forall_mem_cons.mpr ⟨aj_ckE, List.forall_mem_cons.mpr ⟨aj_ckE, List.forall_mem_cons.mpr ⟨aj_ckE, List.forall_mem_cons.mpr ⟨aj_ckE, List.forall_mem_cons.mpr ⟨aj_ckE, List.forall_mem_cons.mpr ⟨aj_ckE, List.forall_mem_cons.mpr ⟨aj_ckE, List.forall_mem_cons.mpr ⟨aj_ckE, List.forall_mem_cons.mpr ⟨aj_ckE, List.forall_mem_cons.mpr ⟨aj_ckE, List.forall_mem_cons.mpr ⟨aj_ckE, List.forall_mem_cons.mpr ⟨aj_ckE, List.forall_mem_cons.mpr ⟨aj_ckE, List.forall_mem_cons.mpr ⟨aj_dk150, List.forall_mem_cons.mpr ⟨aj_dk151, List.forall_mem_cons.mpr ⟨aj_dk152, List.forall_mem_cons.mpr ⟨aj_dk153, List.forall_mem_cons.mpr ⟨aj_dk154, List.forall_mem_cons.mpr ⟨aj_dk155, List.forall_mem_cons.mpr ⟨aj_dk156, List.forall_mem_cons.mpr ⟨aj_dk157, List.forall_mem_cons.mpr ⟨aj_dk158, List.forall_mem_cons.mpr ⟨aj_dk159, List.forall_mem_cons.mpr ⟨aj_ckE, List.forall_mem_cons.mpr ⟨aj_dk161, List.forall_mem_cons.mpr ⟨aj_ckE, List.forall_mem_cons.mpr ⟨aj_dk163, List.forall_mem_cons.mpr ⟨aj_dk164, List.forall_mem_cons.mpr ⟨aj_dk165, List.forall_mem_cons.mpr ⟨aj_dk166, List.forall_mem_cons.mpr ⟨aj_dk167, List.forall_mem_cons.mpr ⟨aj_ckE, List.forall_mem_cons.mpr ⟨aj_ckE, List.forall_mem_cons.mpr ⟨aj_ckE, List.forall_mem_cons.mpr ⟨aj_ckE, List.forall_mem_cons.mpr ⟨aj_dk172, List.forall_mem_cons.mpr ⟨aj_dk173, List.forall_mem_cons.mpr ⟨aj_ckE, List.forall_mem_cons.mpr ⟨aj_ckE, List.forall_mem_cons.mpr ⟨aj_ckE, List.forall_mem_cons.mpr ⟨aj_ckE, List.forall_mem_cons.mpr ⟨aj_ckE, List.forall_mem_cons.mpr ⟨aj_ckE, fun _ h => absurd h List.not_mem_nil⟩⟩⟩⟩⟩⟩⟩⟩⟩⟩⟩⟩⟩⟩⟩⟩⟩⟩⟩⟩⟩⟩⟩⟩⟩⟩⟩⟩⟩⟩⟩⟩⟩⟩⟩⟩⟩⟩⟩⟩⟩⟩⟩⟩⟩⟩⟩⟩⟩⟩⟩⟩⟩⟩⟩⟩⟩⟩⟩⟩
def aj_cu3 : List (List (Nat × Instr × Nat)) := [[], [], [], [], [], [], aj_c186, aj_c187, aj_c188, aj_c189, aj_c190, aj_c191, [], aj_c193, aj_c194, aj_c195, aj_c196, aj_c197, aj_c198, aj_c199, aj_c200, aj_c201, aj_c202, aj_c203, aj_c204, aj_c205, aj_c206, aj_c207, [], [], [], [], aj_c212, [], [], aj_c215, [], [], [], [], aj_c220, [], [], [], [], [], [], [], [], [], [], [], [], [], [], [], [], aj_c237, aj_c238, []]
set_option maxRecDepth 1000000 in
theorem aj_du3 : ∀ q ∈ aj_rt3.zip aj_cu3, aj_ctOK q.2 (aj_bc q.1.2.1) := List.forall_mem_cons.mpr ⟨aj_ckE, List.forall_mem_cons.mpr ⟨aj_ckE, List.forall_mem_cons.mpr ⟨aj_ckE, List.forall_mem_cons.mpr ⟨aj_ckE, List.forall_mem_cons.mpr ⟨aj_ckE, List.forall_mem_cons.mpr ⟨aj_ckE, List.forall_mem_cons.mpr ⟨aj_dk186, List.forall_mem_cons.mpr ⟨aj_dk187, List.forall_mem_cons.mpr ⟨aj_dk188, List.forall_mem_cons.mpr ⟨aj_dk189, List.forall_mem_cons.mpr ⟨aj_dk190, List.forall_mem_cons.mpr ⟨aj_dk191, List.forall_mem_cons.mpr ⟨aj_ckE, List.forall_mem_cons.mpr ⟨aj_dk193, List.forall_mem_cons.mpr ⟨aj_dk194, List.forall_mem_cons.mpr ⟨aj_dk195, List.forall_mem_cons.mpr ⟨aj_dk196, List.forall_mem_cons.mpr ⟨aj_dk197, List.forall_mem_cons.mpr ⟨aj_dk198, List.forall_mem_cons.mpr ⟨aj_dk199, List.forall_mem_cons.mpr ⟨aj_dk200, List.forall_mem_cons.mpr ⟨aj_dk201, List.forall_mem_cons.mpr ⟨aj_dk202, List.forall_mem_cons.mpr ⟨aj_dk203, List.forall_mem_cons.mpr ⟨aj_dk204, List.forall_mem_cons.mpr ⟨aj_dk205, List.forall_mem_cons.mpr ⟨aj_dk206, List.forall_mem_cons.mpr ⟨aj_dk207, List.forall_mem_cons.mpr ⟨aj_ckE, List.forall_mem_cons.mpr ⟨aj_ckE, List.forall_mem_cons.mpr ⟨aj_ckE, List.forall_mem_cons.mpr ⟨aj_ckE, List.forall_mem_cons.mpr ⟨aj_dk212, List.forall_mem_cons.mpr ⟨aj_ckE, List.forall_mem_cons.mpr ⟨aj_ckE, List.forall_mem_cons.mpr ⟨aj_dk215, List.forall_mem_cons.mpr ⟨aj_ckE, List.forall_mem_cons.mpr ⟨aj_ckE, List.forall_mem_cons.mpr ⟨aj_ckE, List.forall_mem_cons.mpr ⟨aj_ckE, List.forall_mem_cons.mpr ⟨aj_dk220, List.forall_mem_cons.mpr ⟨aj_ckE, List.forall_mem_cons.mpr ⟨aj_ckE, List.forall_mem_cons.mpr ⟨aj_ckE, List.forall_mem_cons.mpr ⟨aj_ckE, List.forall_mem_cons.mpr ⟨aj_ckE, List.forall_mem_cons.mpr ⟨aj_ckE, List.forall_mem_cons.mpr ⟨aj_ckE, List.forall_mem_cons.mpr ⟨aj_ckE, List.forall_mem_cons.mpr ⟨aj_ckE, List.forall_mem_cons.mpr ⟨aj_ckE, List.forall_mem_cons.mpr ⟨aj_ckE, List.forall_mem_cons.mpr ⟨aj_ckE, List.forall_mem_cons.mpr ⟨aj_ckE, List.forall_mem_cons.mpr ⟨aj_ckE, List.forall_mem_cons.mpr ⟨aj_ckE, List.forall_mem_cons.mpr ⟨aj_ckE, List.forall_mem_cons.mpr ⟨aj_dk237, List.forall_mem_cons.mpr ⟨aj_dk238, List.forall_mem_cons.mpr ⟨aj_ckE, fun _ h => absurd h List.not_mem_nil⟩⟩⟩⟩⟩⟩⟩⟩⟩⟩⟩⟩⟩⟩⟩⟩⟩⟩⟩⟩⟩⟩⟩⟩⟩⟩⟩⟩⟩⟩⟩⟩⟩⟩⟩⟩⟩⟩⟩⟩⟩⟩⟩⟩⟩⟩⟩⟩⟩⟩⟩⟩⟩⟩⟩⟩⟩⟩⟩⟩
def aj_cu4 : List (List (Nat × Instr × Nat)) := [[], aj_c241, [], [], [], [], [], aj_c247, [], [], [], [], [], [], [], [], [], [], [], [], [], [], [], [], [], [], [], [], [], [], [], [], [], [], [], [], [], [], [], [], aj_c280, aj_c281, aj_c282, aj_c283, aj_c284, aj_c285, [], [], aj_c288, aj_c289, aj_c290, aj_c291, [], [], [], [], [], aj_c297, aj_c298, aj_c299]
set_option maxRecDepth 1000000 in
theorem aj_du4 : ∀ q ∈ aj_rt4.zip aj_cu4, aj_ctOK q.2 (aj_bc q.1.2.1) := List.forall_mem_cons.mpr ⟨aj_ckE, List.forall_mem_cons.mpr ⟨aj_dk241, List.forall_mem_cons.mpr ⟨aj_ckE, List.forall_mem_cons.mpr ⟨aj_ckE, List.forall_mem_cons.mpr ⟨aj_ckE, List.forall_mem_cons.mpr ⟨aj_ckE, List.forall_mem_cons.mpr ⟨aj_ckE, List.forall_mem_cons.mpr ⟨aj_dk247, List.forall_mem_cons.mpr ⟨aj_ckE, List.forall_mem_cons.mpr ⟨aj_ckE, List.forall_mem_cons.mpr ⟨aj_ckE, List.forall_mem_cons.mpr ⟨aj_ckE, List.forall_mem_cons.mpr ⟨aj_ckE, List.forall_mem_cons.mpr ⟨aj_ckE, List.forall_mem_cons.mpr ⟨aj_ckE, List.forall_mem_cons.mpr ⟨aj_ckE, List.forall_mem_cons.mpr ⟨aj_ckE, List.forall_mem_cons.mpr ⟨aj_ckE, List.forall_mem_cons.mpr ⟨aj_ckE, List.forall_mem_cons.mpr ⟨aj_ckE, List.forall_mem_cons.mpr ⟨aj_ckE, List.forall_mem_cons.mpr ⟨aj_ckE, List.forall_mem_cons.mpr ⟨aj_ckE, List.forall_mem_cons.mpr ⟨aj_ckE, List.forall_mem_cons.mpr ⟨aj_ckE, List.forall_mem_cons.mpr ⟨aj_ckE, List.forall_mem_cons.mpr ⟨aj_ckE, List.forall_mem_cons.mpr ⟨aj_ckE, List.forall_mem_cons.mpr ⟨aj_ckE, List.forall_mem_cons.mpr ⟨aj_ckE, List.forall_mem_cons.mpr ⟨aj_ckE, List.forall_mem_cons.mpr ⟨aj_ckE, List.forall_mem_cons.mpr ⟨aj_ckE, List.forall_mem_cons.mpr ⟨aj_ckE, List.forall_mem_cons.mpr ⟨aj_ckE, List.forall_mem_cons.mpr ⟨aj_ckE, List.forall_mem_cons.mpr ⟨aj_ckE, List.forall_mem_cons.mpr ⟨aj_ckE, List.forall_mem_cons.mpr ⟨aj_ckE, List.forall_mem_cons.mpr ⟨aj_ckE, List.forall_mem_cons.mpr ⟨aj_dk280, List.forall_mem_cons.mpr ⟨aj_dk281, List.forall_mem_cons.mpr ⟨aj_dk282, List.forall_mem_cons.mpr ⟨aj_dk283, List.forall_mem_cons.mpr ⟨aj_dk284, List.forall_mem_cons.mpr ⟨aj_dk285, List.forall_mem_cons.mpr ⟨aj_ckE, List.forall_mem_cons.mpr ⟨aj_ckE, List.forall_mem_cons.mpr ⟨aj_dk288, List.forall_mem_cons.mpr ⟨aj_dk289, List.forall_mem_cons.mpr ⟨aj_dk290, List.forall_mem_cons.mpr ⟨aj_dk291, List.forall_mem_cons.mpr ⟨aj_ckE, List.forall_mem_cons.mpr ⟨aj_ckE, List.forall_mem_cons.mpr ⟨aj_ckE, List.forall_mem_cons.mpr ⟨aj_ckE, List.forall_mem_cons.mpr ⟨aj_ckE, List.forall_mem_cons.mpr ⟨aj_dk297, List.forall_mem_cons.mpr ⟨aj_dk298, List.forall_mem_cons.mpr ⟨aj_dk299, fun _ h => absurd h List.not_mem_nil⟩⟩⟩⟩⟩⟩⟩⟩⟩⟩⟩⟩⟩⟩⟩⟩⟩⟩⟩⟩⟩⟩⟩⟩⟩⟩⟩⟩⟩⟩⟩⟩⟩⟩⟩⟩⟩⟩⟩⟩⟩⟩⟩⟩⟩⟩⟩⟩⟩⟩⟩⟩⟩⟩⟩⟩⟩⟩⟩⟩
def aj_cu5 : List (List (Nat × Instr × Nat)) := [aj_c300, aj_c301, aj_c302, aj_c303, aj_c304, aj_c305, aj_c306, [], aj_c308, aj_c309]
set_option maxRecDepth 1000000 in
theorem aj_du5 : ∀ q ∈ aj_rt5.zip aj_cu5, aj_ctOK q.2 (aj_bc q.1.2.1) := List.forall_mem_cons.mpr ⟨aj_dk300, List.forall_mem_cons.mpr ⟨aj_dk301, List.forall_mem_cons.mpr ⟨aj_dk302, List.forall_mem_cons.mpr ⟨aj_dk303, List.forall_mem_cons.mpr ⟨aj_dk304, List.forall_mem_cons.mpr ⟨aj_dk305, List.forall_mem_cons.mpr ⟨aj_dk306, List.forall_mem_cons.mpr ⟨aj_ckE, List.forall_mem_cons.mpr ⟨aj_dk308, List.forall_mem_cons.mpr ⟨aj_dk309, fun _ h => absurd h List.not_mem_nil⟩⟩⟩⟩⟩⟩⟩⟩⟩⟩
def aj_cuA : List (List (Nat × Instr × Nat)) := aj_cu0 ++ (aj_cu1 ++ (aj_cu2 ++ (aj_cu3 ++ (aj_cu4 ++ (aj_cu5)))))
end
section
theorem aj_zip_at {α β : Type} {l1 : List α} {l2 : List β} {i : Nat} {a : α} {b : β} (h1 : l1[i]? = some a) (h2 : l2[i]? = some b) : (a, b) ∈ l1.zip l2 := List.mem_of_getElem? (by rw [List.getElem?_zip_eq_some]; exact ⟨h1, h2⟩)
theorem aj_ln0 : aj_rt0.length = aj_cu0.length := by decide +kernel
theorem aj_ln1 : aj_rt1.length = aj_cu1.length := by decide +kernel
theorem aj_ln2 : aj_rt2.length = aj_cu2.length := by decide +kernel
theorem aj_ln3 : aj_rt3.length = aj_cu3.length := by decide +kernel
theorem aj_ln4 : aj_rt4.length = aj_cu4.length := by decide +kernel
theorem aj_ln5 : aj_rt5.length = aj_cu5.length := by decide +kernel
theorem aj_za4 : ∀ q ∈ (aj_rt4 ++ (aj_rt5)).zip (aj_cu4 ++ (aj_cu5)), aj_ctOK q.2 (aj_bc q.1.2.1) := by
  intro q hq
  rw [List.zip_append aj_ln4] at hq
  rcases List.mem_append.mp hq with h | h
  · exact aj_du4 q h
  · exact aj_du5 q h
theorem aj_za3 : ∀ q ∈ (aj_rt3 ++ (aj_rt4 ++ (aj_rt5))).zip (aj_cu3 ++ (aj_cu4 ++ (aj_cu5))), aj_ctOK q.2 (aj_bc q.1.2.1) := by
  intro q hq
  rw [List.zip_append aj_ln3] at hq
  rcases List.mem_append.mp hq with h | h
  · exact aj_du3 q h
  · exact aj_za4 q h
theorem aj_za2 : ∀ q ∈ (aj_rt2 ++ (aj_rt3 ++ (aj_rt4 ++ (aj_rt5)))).zip (aj_cu2 ++ (aj_cu3 ++ (aj_cu4 ++ (aj_cu5)))), aj_ctOK q.2 (aj_bc q.1.2.1) := by
  intro q hq
  rw [List.zip_append aj_ln2] at hq
  rcases List.mem_append.mp hq with h | h
  · exact aj_du2 q h
  · exact aj_za3 q h
theorem aj_za1 : ∀ q ∈ (aj_rt1 ++ (aj_rt2 ++ (aj_rt3 ++ (aj_rt4 ++ (aj_rt5))))).zip (aj_cu1 ++ (aj_cu2 ++ (aj_cu3 ++ (aj_cu4 ++ (aj_cu5))))), aj_ctOK q.2 (aj_bc q.1.2.1) := by
  intro q hq
  rw [List.zip_append aj_ln1] at hq
  rcases List.mem_append.mp hq with h | h
  · exact aj_du1 q h
  · exact aj_za2 q h
theorem aj_za0 : ∀ q ∈ (aj_rt0 ++ (aj_rt1 ++ (aj_rt2 ++ (aj_rt3 ++ (aj_rt4 ++ (aj_rt5)))))).zip (aj_cu0 ++ (aj_cu1 ++ (aj_cu2 ++ (aj_cu3 ++ (aj_cu4 ++ (aj_cu5)))))), aj_ctOK q.2 (aj_bc q.1.2.1) := by
  intro q hq
  rw [List.zip_append aj_ln0] at hq
  rcases List.mem_append.mp hq with h | h
  · exact aj_du0 q h
  · exact aj_za1 q h
theorem aj_zall : ∀ q ∈ aj_rt.zip aj_cuA, aj_ctOK q.2 (aj_bc q.1.2.1) := by
  unfold aj_rt aj_cuA
  exact aj_za0
theorem aj_cuA_ok : ∀ (i : Nat) (m : aj_M) (ct : List (Nat × Instr × Nat)), aj_mt[i]? = some m → aj_cuA[i]? = some ct → aj_ctOK ct m.2.1 := by
  intro i m ct hm hc
  have hm : (aj_rt.map aj_mk)[i]? = some m := hm
  rw [List.getElem?_map] at hm
  obtain ⟨q, hq, he⟩ := Option.map_eq_some_iff.mp hm
  have h := aj_zall (q, ct) (aj_zip_at hq hc)
  have h2 : m.2.1 = aj_bc q.2.1 := by rw [← he]; rfl
  rw [h2]
  exact h
end
section
/-! RUNS WITH UNKNOWN NUMBERS: a value .retAddr j stands for the number ρ j; what a run with such values does, the run with the numbers does -/
def aj_sv (ρ : Nat → Int32) : Value → Value
  | .retAddr j => .int (ρ j)
  | v => v
def aj_sV (ρ : Nat → Int32) (lv : aj_V) : aj_V := lv.map fun q => (q.1, aj_sv ρ q.2)
def aj_sE (ρ : Nat → Int32) : aj_E → aj_E
  | .inl a => .inl a
  | .inr (ci, fs) => .inr (ci, fs.map (aj_sv ρ))
def aj_sH (ρ : Nat → Int32) (h : aj_H) : aj_H := h.map (aj_sE ρ)
def aj_sO (ρ : Nat → Int32) : aj_Out → aj_Out
  | .inl ((pc, lv, st), h, a, b) => .inl ((pc, aj_sV ρ lv, st.map (aj_sv ρ)), aj_sH ρ h, a, b)
  | .inr (.inl (k, mi, as, (pc, lv, st))) => .inr (.inl (k, mi, as.map (aj_sv ρ), (pc, aj_sV ρ lv, st.map (aj_sv ρ))))
  | .inr (.inr v) => .inr (.inr (v.map (aj_sv ρ)))
/-- the static arrays, less those of kind 7, whose contents are unknown -/
def aj_sT (tb' tb : aj_T) : Prop := tb'.length = tb.length ∧ ∀ (r k : Nat) (x : vp_A), tb'[r]? = some (k, x) → k ≠ 7 → tb[r]? = some (k, x)
section AJSYM
variable {ρ : Nat → Int32} {tb' tb : aj_T} {pc : Nat} {lv : aj_V} {st : List Value} {h : aj_H} {out : aj_Out}
theorem aj_sv_cat (v : Value) : (aj_sv ρ v).category = v.category := by cases v <;> rfl
theorem aj_lv_s {i : Nat} {v : Value} (hv : aj_lv lv i = some v) : aj_lv (aj_sV ρ lv) i = some (aj_sv ρ v) := by
  unfold aj_lv at hv ⊢
  obtain ⟨q, hq, rfl⟩ := Option.map_eq_some_iff.mp hv
  have : ((aj_sV ρ lv).find? (fun q => q.1 == i)) = some (q.1, aj_sv ρ q.2) := by
    unfold aj_sV
    rw [List.find?_map]
    have e : ((fun q : Nat × Value => q.1 == i) ∘ fun q : Nat × Value => (q.1, aj_sv ρ q.2)) = fun q => q.1 == i := rfl
    rw [e, hq]
    rfl
  rw [this]
  rfl
theorem aj_set1_s (i : Nat) (v : Value) : aj_sV ρ (aj_set1 lv i v) = aj_set1 (aj_sV ρ lv) i (aj_sv ρ v) := by
  simp only [aj_sV, aj_set1, List.map_cons, List.filter_map]
  congr 2
  apply List.filter_congr
  intro q _
  simp [Function.comp, aj_sv_cat]
theorem aj_set2_s (i : Nat) (v : Value) : aj_sV ρ (aj_set2 lv i v) = aj_set2 (aj_sV ρ lv) i (aj_sv ρ v) := by
  simp only [aj_sV, aj_set2, List.map_cons, List.filter_map]
  congr 2
  apply List.filter_congr
  intro q _
  simp [Function.comp, aj_sv_cat]
theorem aj_go_s {pc1 : Nat} {lv1 : aj_V} {st1 : List Value} {h1 : aj_H} (h0 : aj_go pc1 lv1 st1 h1 = some out) : aj_go pc1 (aj_sV ρ lv1) (st1.map (aj_sv ρ)) (aj_sH ρ h1) = some (aj_sO ρ out) := by
  unfold aj_go at h0
  cases h0
  rfl
theorem aj_jump_s {off : Int} {lv1 : aj_V} {st1 : List Value} {h1 : aj_H} (h0 : aj_jump pc off lv1 st1 h1 = some out) : aj_jump pc off (aj_sV ρ lv1) (st1.map (aj_sv ρ)) (aj_sH ρ h1) = some (aj_sO ρ out) := by
  unfold aj_jump at h0 ⊢
  split at h0
  · rename_i hp
    rw [if_pos hp]
    exact aj_go_s h0
  · cases h0
theorem aj_load_s {len i kind : Nat} (h0 : aj_load pc lv st h len i kind = some out) : aj_load pc (aj_sV ρ lv) (st.map (aj_sv ρ)) (aj_sH ρ h) len i kind = some (aj_sO ρ out) := by
  unfold aj_load at h0 ⊢
  split at h0
  all_goals first
    | (rename_i hx
       rw [aj_lv_s hx]
       dsimp only [aj_sv]
       split at h0
       · rename_i hk
         rw [if_pos hk]
         exact aj_go_s h0
       · cases h0)
    | cases h0
theorem aj_store_s {nL len i kind : Nat} (h0 : aj_store nL pc lv st h len i kind = some out) : aj_store nL pc (aj_sV ρ lv) (st.map (aj_sv ρ)) (aj_sH ρ h) len i kind = some (aj_sO ρ out) := by
  unfold aj_store at h0
  split at h0
  all_goals first
    | (split at h0
       · rename_i hk
         have g := aj_go_s (ρ := ρ) h0
         rw [aj_set1_s] at g
         exact (if_pos hk).trans g
       · cases h0)
    | (split at h0
       · rename_i hk
         have g := aj_go_s (ρ := ρ) h0
         rw [aj_set2_s] at g
         exact (if_pos hk).trans g
       · cases h0)
    | cases h0
theorem aj_ii_s {f : Int32 → Int32 → Int32} (h0 : aj_ii f pc lv st h = some out) : aj_ii f pc (aj_sV ρ lv) (st.map (aj_sv ρ)) (aj_sH ρ h) = some (aj_sO ρ out) := by
  unfold aj_ii at h0
  split at h0
  · exact aj_go_s h0
  · cases h0
theorem aj_iz_s {f : Int32 → Int32 → Int32} (h0 : aj_iz f pc lv st h = some out) : aj_iz f pc (aj_sV ρ lv) (st.map (aj_sv ρ)) (aj_sH ρ h) = some (aj_sO ρ out) := by
  unfold aj_iz at h0
  split at h0
  · split at h0
    · cases h0
    · rename_i hy
      exact (if_neg hy).trans (aj_go_s h0)
  · cases h0
theorem aj_ll_s {f : Int64 → Int64 → Int64} (h0 : aj_ll f pc lv st h = some out) : aj_ll f pc (aj_sV ρ lv) (st.map (aj_sv ρ)) (aj_sH ρ h) = some (aj_sO ρ out) := by
  unfold aj_ll at h0
  split at h0
  · exact aj_go_s h0
  · cases h0
theorem aj_br_s {cd : ClassFile.Cond} {a b : Int32} {off : Int} {lv1 : aj_V} {st1 : List Value} {h1 : aj_H} (h0 : aj_br cd a b pc off lv1 st1 h1 = some out) : aj_br cd a b pc off (aj_sV ρ lv1) (st1.map (aj_sv ρ)) (aj_sH ρ h1) = some (aj_sO ρ out) := by
  unfold aj_br at h0 ⊢
  split at h0
  · rename_i hp
    rw [if_pos hp]
    split at h0
    · rename_i ht
      rw [if_pos ht]
      exact aj_go_s h0
    · rename_i ht
      rw [if_neg ht]
      exact aj_go_s h0
  · cases h0
theorem aj_sH_get {k : Nat} {e : aj_E} (hk : h[k]? = some e) : (aj_sH ρ h)[k]? = some (aj_sE ρ e) := by simp [aj_sH, hk]
theorem aj_sH_set {k : Nat} {e : aj_E} : aj_sH ρ (h.set k e) = (aj_sH ρ h).set k (aj_sE ρ e) := by simp [aj_sH, List.map_set]
theorem aj_arr_s (hT : aj_sT tb' tb) {r k : Nat} {x : vp_A} (h0 : aj_arr tb' h r = some (k, x)) (hk : k ≠ 7) : aj_arr tb (aj_sH ρ h) r = some (k, x) := by
  unfold aj_arr at h0 ⊢
  rw [← hT.1]
  split at h0
  · rename_i hr
    rw [if_pos hr]
    exact hT.2 _ _ _ h0 hk
  · rename_i hr
    rw [if_neg hr]
    split at h0
    · rename_i a ha
      cases h0
      rw [aj_sH_get ha]
      rfl
    · cases h0
theorem aj_obj_s (hT : aj_sT tb' tb) {r ci : Nat} {fs : List Value} (h0 : aj_obj tb' h r = some (ci, fs)) : aj_obj tb (aj_sH ρ h) r = some (ci, fs.map (aj_sv ρ)) := by
  unfold aj_obj at h0 ⊢
  rw [← hT.1]
  split at h0
  · cases h0
  · rename_i hr
    rw [if_neg hr]
    split at h0
    · rename_i a ha
      cases h0
      rw [aj_sH_get ha]
      rfl
    · cases h0
theorem aj_ald_s (hT : aj_sT tb' tb) {k : Nat} (hk7 : k ≠ 7) (h0 : aj_ald k tb' pc lv st h = some out) : aj_ald k tb pc (aj_sV ρ lv) (st.map (aj_sv ρ)) (aj_sH ρ h) = some (aj_sO ρ out) := by
  unfold aj_ald at h0
  split at h0
  · split at h0
    · rename_i ha
      split at h0
      · rename_i hq
        have ha := aj_arr_s (ρ := ρ) hT ha (by rw [hq.1]; exact hk7)
        have g := aj_go_s (ρ := ρ) h0
        simp only [aj_ald, List.map_cons, aj_sv, ha]
        exact (if_pos hq).trans g
      · cases h0
    · cases h0
  · cases h0
theorem aj_bld_s (hT : aj_sT tb' tb) (h0 : aj_bld tb' pc lv st h = some out) : aj_bld tb pc (aj_sV ρ lv) (st.map (aj_sv ρ)) (aj_sH ρ h) = some (aj_sO ρ out) := by
  unfold aj_bld at h0
  split at h0
  · rename_i i r rest
    split at h0
    · rename_i x ha
      have g := aj_ald_s (ρ := ρ) hT (by decide) h0
      have ha := aj_arr_s (ρ := ρ) hT ha (by decide)
      simp only [aj_bld, List.map_cons, aj_sv, ha]
      exact g
    · rename_i hne
      have g := aj_ald_s (ρ := ρ) hT (by decide) h0
      unfold aj_ald at h0
      dsimp only at h0
      split at h0
      · rename_i k' n f ha
        split at h0
        · rename_i hq
          have ha := aj_arr_s (ρ := ρ) hT ha (by rw [hq.1]; decide)
          rw [hq.1] at ha
          simp only [aj_bld, List.map_cons, aj_sv, ha]
          exact g
        · cases h0
      · cases h0
  · cases h0
theorem aj_lld_s (hT : aj_sT tb' tb) (h0 : aj_lld tb' pc lv st h = some out) : aj_lld tb pc (aj_sV ρ lv) (st.map (aj_sv ρ)) (aj_sH ρ h) = some (aj_sO ρ out) := by
  unfold aj_lld at h0
  split at h0
  · split at h0
    · rename_i ha
      split at h0
      · rename_i hq
        have ha := aj_arr_s (ρ := ρ) hT ha (by decide)
        have g := aj_go_s (ρ := ρ) h0
        simp only [aj_lld, List.map_cons, aj_sv, ha]
        exact (if_pos hq).trans g
      · cases h0
    · cases h0
  · cases h0
theorem aj_sv_rf (o : Option Nat) : aj_sv ρ (va_rf o) = va_rf o := by cases o <;> rfl
theorem aj_qld_s (hT : aj_sT tb' tb) (h0 : aj_qld tb' pc lv st h = some out) : aj_qld tb pc (aj_sV ρ lv) (st.map (aj_sv ρ)) (aj_sH ρ h) = some (aj_sO ρ out) := by
  unfold aj_qld at h0
  split at h0
  · split at h0
    · cases h0
    · rename_i hr
      split at h0
      · rename_i ha
        split at h0
        · rename_i hq
          have g := aj_go_s (ρ := ρ) h0
          have ha := aj_sH_get (ρ := ρ) ha
          rw [hT.1] at hr ha
          simp only [aj_qld, List.map_cons, aj_sv, if_neg hr, ha, aj_sE]
          rw [List.map_cons, aj_sv_rf] at g
          exact (if_pos hq).trans g
        · cases h0
      · cases h0
  · cases h0
theorem aj_alen_s (hT : aj_sT tb' tb) (h0 : aj_alen tb' pc lv st h = some out) : aj_alen tb pc (aj_sV ρ lv) (st.map (aj_sv ρ)) (aj_sH ρ h) = some (aj_sO ρ out) := by
  unfold aj_alen at h0
  split at h0
  · split at h0
    · rename_i ha
      split at h0
      · rename_i hq
        have ha := aj_arr_s (ρ := ρ) hT ha (by omega)
        have g := aj_go_s (ρ := ρ) h0
        simp only [aj_alen, List.map_cons, aj_sv, ha]
        exact (if_pos hq).trans g
      · cases h0
    · cases h0
  · cases h0
theorem aj_ast_s {k : Nat} (hT : aj_sT tb' tb) (h0 : aj_ast k tb' pc lv st h = some out) : aj_ast k tb pc (aj_sV ρ lv) (st.map (aj_sv ρ)) (aj_sH ρ h) = some (aj_sO ρ out) := by
  unfold aj_ast at h0
  split at h0
  · split at h0
    · cases h0
    · rename_i hr
      split at h0
      · rename_i ha
        split at h0
        · rename_i hq
          have g := aj_go_s (ρ := ρ) h0
          have ha := aj_sH_get (ρ := ρ) ha
          rw [aj_sH_set] at g
          rw [hT.1] at hr ha g
          simp only [aj_ast, List.map_cons, aj_sv, if_neg hr, ha, aj_sE]
          exact (if_pos hq).trans g
        · cases h0
      · cases h0
  · cases h0
theorem aj_bst_s (hT : aj_sT tb' tb) (h0 : aj_bst tb' pc lv st h = some out) : aj_bst tb pc (aj_sV ρ lv) (st.map (aj_sv ρ)) (aj_sH ρ h) = some (aj_sO ρ out) := by
  unfold aj_bst at h0
  split at h0
  · rename_i x i r rest
    split at h0
    · rename_i a ha
      have g := aj_ast_s (ρ := ρ) hT h0
      have ha := aj_sH_get (ρ := ρ) ha
      rw [hT.1] at ha
      simp only [aj_bst, List.map_cons, aj_sv, ha, aj_sE]
      exact g
    · have g := aj_ast_s (ρ := ρ) hT h0
      unfold aj_ast at h0
      dsimp only at h0
      split at h0
      · cases h0
      · split at h0
        · rename_i k' n f ha
          split at h0
          · rename_i hq
            have ha := aj_sH_get (ρ := ρ) ha
            rw [hT.1, hq.1] at ha
            simp only [aj_bst, List.map_cons, aj_sv, ha, aj_sE]
            exact g
          · cases h0
        · cases h0
  · cases h0
theorem aj_lst_s (hT : aj_sT tb' tb) (h0 : aj_lst tb' pc lv st h = some out) : aj_lst tb pc (aj_sV ρ lv) (st.map (aj_sv ρ)) (aj_sH ρ h) = some (aj_sO ρ out) := by
  unfold aj_lst at h0
  split at h0
  · split at h0
    · cases h0
    · rename_i hr
      split at h0
      · rename_i ha
        split at h0
        · rename_i hq
          have g := aj_go_s (ρ := ρ) h0
          have ha := aj_sH_get (ρ := ρ) ha
          rw [aj_sH_set] at g
          rw [hT.1] at hr ha g
          simp only [aj_lst, List.map_cons, aj_sv, if_neg hr, ha, aj_sE]
          exact (if_pos hq).trans g
        · cases h0
      · cases h0
  · cases h0
theorem aj_qst_s {rc : Nat} (hT : aj_sT tb' tb) (h0 : aj_qst rc tb' pc lv st h = some out) : aj_qst rc tb pc (aj_sV ρ lv) (st.map (aj_sv ρ)) (aj_sH ρ h) = some (aj_sO ρ out) := by
  unfold aj_qst at h0
  split at h0
  · split at h0
    · cases h0
    · rename_i hr
      split at h0
      · rename_i ha
        split at h0
        · rename_i hobj
          split at h0
          · rename_i hq
            have g := aj_go_s (ρ := ρ) h0
            have ha := aj_sH_get (ρ := ρ) ha
            have hobj := aj_obj_s (ρ := ρ) hT hobj
            rw [aj_sH_set] at g
            rw [hT.1] at hr ha g
            simp only [aj_qst, List.map_cons, aj_sv, if_neg hr, ha, aj_sE, hobj]
            exact (if_pos hq).trans g
          · cases h0
        · cases h0
      · cases h0
  · split at h0
    · cases h0
    · rename_i hr
      split at h0
      · rename_i ha
        split at h0
        · rename_i hq
          have g := aj_go_s (ρ := ρ) h0
          have ha := aj_sH_get (ρ := ρ) ha
          rw [aj_sH_set] at g
          rw [hT.1] at hr ha g
          simp only [aj_qst, List.map_cons, aj_sv, if_neg hr, ha, aj_sE]
          exact (if_pos hq).trans g
        · cases h0
      · cases h0
  · cases h0
theorem aj_getf_s {lk : List aj_L} {idx : Nat} (hT : aj_sT tb' tb) (h0 : aj_getf tb' lk pc idx lv st h = some out) : aj_getf tb lk pc idx (aj_sV ρ lv) (st.map (aj_sv ρ)) (aj_sH ρ h) = some (aj_sO ρ out) := by
  unfold aj_getf at h0
  split at h0
  · split at h0
    · rename_i hlink hobj
      split at h0
      · rename_i v hv
        split at h0
        · rename_i hq
          have g := aj_go_s (ρ := ρ) h0
          have hobj := aj_obj_s (ρ := ρ) hT hobj
          simp only [aj_getf, List.map_cons, aj_sv, hlink, hobj, List.getElem?_map, hv, Option.map_some]
          exact (if_pos hq).trans g
        · cases h0
      · cases h0
    · cases h0
  · cases h0
theorem aj_sv_ref (r : Nat) : aj_sv ρ (.ref r) = .ref r := rfl
theorem aj_fit_s {ty : FieldType} {v : Value} (hf : aj_fit ty v = true) : aj_sv ρ v = v := by
  cases v <;> first | rfl | (cases ty <;> exact absurd hf Bool.false_ne_true)
theorem aj_putf_s {cls : List aj_C} {lk : List aj_L} {isI : Bool} {idx : Nat} (hT : aj_sT tb' tb) (h0 : aj_putf cls tb' lk isI pc idx lv st h = some out) : aj_putf cls tb lk isI pc idx (aj_sV ρ lv) (st.map (aj_sv ρ)) (aj_sH ρ h) = some (aj_sO ρ out) := by
  unfold aj_putf at h0
  split at h0
  · split at h0
    · rename_i hlink hobj
      split at h0
      · rename_i hc0
        split at h0
        · rename_i hq
          have g := aj_go_s (ρ := ρ) h0
          have hobj := aj_obj_s (ρ := ρ) hT hobj
          have hv := aj_fit_s (ρ := ρ) hq.2.2.2.1
          rw [aj_sH_set] at g
          rw [hT.1] at g
          simp only [aj_sE, List.map_set, hv] at g
          simp only [aj_putf, List.map_cons, aj_sv_ref, hlink, hobj, hc0, hv, List.length_map]
          exact (if_pos hq).trans g
        · cases h0
      · cases h0
    · cases h0
  · cases h0
theorem aj_gets_s {lk : List aj_L} {idx : Nat} (hT : aj_sT tb' tb) (h0 : aj_gets tb' lk pc idx lv st h = some out) : aj_gets tb lk pc idx (aj_sV ρ lv) (st.map (aj_sv ρ)) (aj_sH ρ h) = some (aj_sO ρ out) := by
  unfold aj_gets at h0 ⊢
  split at h0
  · rename_i hlink
    split at h0
    · rename_i hq
      rw [hT.1] at hq
      exact (if_pos hq).trans (aj_go_s h0)
    · cases h0
  · cases h0
theorem aj_sH_len : (aj_sH ρ h).length = h.length := by simp [aj_sH]
theorem aj_sH_app {e : aj_E} : aj_sH ρ (h ++ [e]) = aj_sH ρ h ++ [aj_sE ρ e] := by simp [aj_sH]
theorem aj_new_s {cls : List aj_C} {lk : List aj_L} {idx : Nat} (hT : aj_sT tb' tb) (h0 : aj_new cls tb' lk pc idx lv st h = some out) : aj_new cls tb lk pc idx (aj_sV ρ lv) (st.map (aj_sv ρ)) (aj_sH ρ h) = some (aj_sO ρ out) := by
  unfold aj_new at h0 ⊢
  split at h0
  · rename_i ci b0 hlink
    split at h0
    · rename_i C0 T0 N0 ty0 hc0
      cases h0
      have e : ∀ ty : FieldType, aj_sv ρ (defaultValue ty) = defaultValue ty := fun ty => by cases ty <;> rfl
      simp [hc0, aj_sO, aj_sH_app, aj_sE, aj_sH_len, hT.1, aj_sv_ref, e, Function.comp]
    · cases h0
  · cases h0
theorem aj_newa_s {k len : Nat} (hT : aj_sT tb' tb) (h0 : aj_newa tb' k len pc lv st h = some out) : aj_newa tb k len pc (aj_sV ρ lv) (st.map (aj_sv ρ)) (aj_sH ρ h) = some (aj_sO ρ out) := by
  unfold aj_newa at h0
  split at h0
  · split at h0
    · rename_i hq
      cases h0
      simp only [aj_newa, List.map_cons, aj_sv, if_pos hq, aj_sO, aj_sH_app, aj_sE, aj_sH_len, hT.1]
    · cases h0
  · cases h0
theorem aj_anew_s {rc : Nat} {lk : List aj_L} {idx : Nat} (hT : aj_sT tb' tb) (h0 : aj_anew rc tb' lk pc idx lv st h = some out) : aj_anew rc tb lk pc idx (aj_sV ρ lv) (st.map (aj_sv ρ)) (aj_sH ρ h) = some (aj_sO ρ out) := by
  unfold aj_anew at h0 ⊢
  split at h0
  · rename_i hlink
    split at h0
    · rename_i hq
      exact (if_pos hq).trans (aj_newa_s hT h0)
    · cases h0
  · cases h0
theorem aj_ldc_s {lk : List aj_L} {len idx : Nat} (h0 : aj_ldc lk len pc idx lv st h = some out) : aj_ldc lk len pc idx (aj_sV ρ lv) (st.map (aj_sv ρ)) (aj_sH ρ h) = some (aj_sO ρ out) := by
  unfold aj_ldc at h0 ⊢
  split at h0
  · exact aj_go_s h0
  · split at h0
    · rename_i hq
      exact (if_pos hq).trans (aj_go_s h0)
    · cases h0
  · cases h0
theorem aj_sum_s (st : List Value) : aj_sum (st.map (aj_sv ρ)) = aj_sum st := by
  unfold aj_sum
  rw [List.map_map]
  congr 1
  apply List.map_congr_left
  intro v _
  exact aj_sv_cat v
theorem aj_rcv_s (hT : aj_sT tb' tb) {b : Nat} {v : Int} (h0 : aj_rcv tb' h b v = true) : aj_rcv tb (aj_sH ρ h) b v = true := by
  unfold aj_rcv at h0 ⊢
  split at h0
  · rename_i hobj
    rw [aj_obj_s hT hobj]
    exact h0
  · cases h0
theorem aj_call_s {lo hi : Nat} {lk : List aj_L} {idx : Nat} (hT : aj_sT tb' tb) (h0 : aj_call lo hi tb' lk pc idx lv st h = some out) : aj_call lo hi tb lk pc idx (aj_sV ρ lv) (st.map (aj_sv ρ)) (aj_sH ρ h) = some (aj_sO ρ out) := by
  unfold aj_call at h0 ⊢
  split at h0
  · rename_i kind mi n v hlink
    split at h0
    · rename_i hlo
      rw [if_pos hlo]
      split at h0
      · rename_i hk6
        rw [if_pos hk6]
        split at h0
        · rename_i hq
          cases h0
          have hq' : n ≤ (st.map (aj_sv ρ)).length ∧ aj_sum ((st.map (aj_sv ρ)).drop n) ≤ 8 := by
            rw [List.length_map, ← List.map_drop, aj_sum_s]
            exact hq
          rw [if_pos hq']
          simp only [aj_sO, List.map_reverse, List.map_take, List.map_drop]
        · cases h0
      · rename_i hk6
        rw [if_neg hk6]
        split at h0
        · rename_i b rest hd
          split at h0
          · rename_i hq
            cases h0
            have hd' : (st.map (aj_sv ρ)).drop n = .ref b :: rest.map (aj_sv ρ) := by
              rw [← List.map_drop, hd]
              rfl
            rw [hd']
            have hq' : (kind = 2 → aj_rcv tb (aj_sH ρ h) b v = true) ∧ aj_sum (rest.map (aj_sv ρ)) ≤ 8 := ⟨fun z => aj_rcv_s hT (hq.1 z), by rw [aj_sum_s]; exact hq.2⟩
            dsimp only
            rw [if_pos hq']
            simp only [aj_sO, List.map_cons, List.map_reverse, List.map_take, aj_sv]
          · cases h0
        · cases h0
    · cases h0
  · cases h0
theorem aj_ret_s {ret : Option FieldType} {k : Nat} (h0 : aj_ret ret st k = some out) : aj_ret ret (st.map (aj_sv ρ)) k = some (aj_sO ρ out) := by
  unfold aj_ret at h0
  split at h0
  all_goals first
    | (cases h0; done)
    | (split at h0
       · rename_i hq
         cases h0
         exact if_pos hq
       · cases h0)
end AJSYM
end
section
section AJSYMRUN
variable {ρ : Nat → Int32} {tb' tb : aj_T} {pc : Nat} {lv : aj_V} {st : List Value} {h : aj_H} {out : aj_Out}
theorem aj_step_s (hT : aj_sT tb' tb) {rc : Nat} {cls : List aj_C} {lk : List aj_L} {nL : Nat} {ret : Option FieldType} {isI : Bool} {i : Instr} {len : Nat}
    (h0 : aj_step rc cls tb' lk nL ret isI i len pc lv st h = some out) : aj_step rc cls tb lk nL ret isI i len pc (aj_sV ρ lv) (st.map (aj_sv ρ)) (aj_sH ρ h) = some (aj_sO ρ out) := by
  cases i
  case dup =>
    rcases st with _ | ⟨v, r⟩
    · cases h0
    · by_cases hq : len = 1 ∧ v.category = 1
      · have h0 : aj_go (pc + 1) lv (v :: v :: r) h = some out := by
          have z : (if len = 1 ∧ v.category = 1 then aj_go (pc + 1) lv (v :: v :: r) h else none) = some out := h0
          rw [if_pos hq] at z
          exact z
        exact (if_pos (by rw [aj_sv_cat]; exact hq)).trans (aj_go_s h0)
      · have z : (if len = 1 ∧ v.category = 1 then aj_go (pc + 1) lv (v :: v :: r) h else none) = some out := h0
        rw [if_neg hq] at z
        cases z
  case pop =>
    rcases st with _ | ⟨v, r⟩
    · cases h0
    · by_cases hq : len = 1 ∧ v.category = 1
      · have h0 : aj_go (pc + 1) lv r h = some out := by
          have z : (if len = 1 ∧ v.category = 1 then aj_go (pc + 1) lv r h else none) = some out := h0
          rw [if_pos hq] at z
          exact z
        exact (if_pos (by rw [aj_sv_cat]; exact hq)).trans (aj_go_s h0)
      · have z : (if len = 1 ∧ v.category = 1 then aj_go (pc + 1) lv r h else none) = some out := h0
        rw [if_neg hq] at z
        cases z
  case dup2 =>
    rcases st with _ | ⟨v, _ | ⟨w, r⟩⟩
    · cases h0
    · cases h0
    · by_cases hq : len = 1 ∧ v.category = 1 ∧ w.category = 1
      · have h0 : aj_go (pc + 1) lv (v :: w :: v :: w :: r) h = some out := by
          have z : (if len = 1 ∧ v.category = 1 ∧ w.category = 1 then aj_go (pc + 1) lv (v :: w :: v :: w :: r) h else none) = some out := h0
          rw [if_pos hq] at z
          exact z
        exact (if_pos (by rw [aj_sv_cat, aj_sv_cat]; exact hq)).trans (aj_go_s h0)
      · have z : (if len = 1 ∧ v.category = 1 ∧ w.category = 1 then aj_go (pc + 1) lv (v :: w :: v :: w :: r) h else none) = some out := h0
        rw [if_neg hq] at z
        cases z
  case iinc k n =>
    unfold aj_step at h0 ⊢
    dsimp only at h0 ⊢
    split at h0
    · rename_i x hx
      split at h0
      · rename_i hq
        have hx := aj_lv_s (ρ := ρ) hx
        have g := aj_go_s (ρ := ρ) h0
        rw [aj_set1_s] at g
        rw [hx]
        exact (if_pos hq).trans g
      · cases h0
    · cases h0
  case tableswitch dflt lo hi offs =>
    unfold aj_step at h0
    dsimp only at h0
    split at h0
    · split at h0
      · rename_i hq
        exact (if_pos hq).trans (aj_jump_s h0)
      · rename_i hq
        split at h0
        · rename_i off ho
          refine (if_neg hq).trans ?_
          rw [ho]
          exact aj_jump_s h0
        · cases h0
    · cases h0
  case lookupswitch dflt ps =>
    unfold aj_step at h0
    dsimp only at h0
    split at h0
    · split at h0
      · rename_i hq
        exact (if_pos hq).trans (aj_jump_s h0)
      · cases h0
    · cases h0
  case ifnull off =>
    unfold aj_step at h0
    dsimp only at h0
    split at h0
    · split at h0
      · rename_i hq
        exact (if_pos hq).trans (aj_jump_s h0)
      · cases h0
    · split at h0
      · rename_i hq
        exact (if_pos hq).trans (aj_go_s h0)
      · cases h0
    · cases h0
  case ifnonnull off =>
    unfold aj_step at h0
    dsimp only at h0
    split at h0
    · split at h0
      · rename_i hq
        exact (if_pos hq).trans (aj_go_s h0)
      · cases h0
    · split at h0
      · rename_i hq
        exact (if_pos hq).trans (aj_jump_s h0)
      · cases h0
    · cases h0
  case ldc_w idx =>
    unfold aj_step at h0 ⊢
    dsimp only at h0 ⊢
    split at h0
    · rename_i hq
      rw [if_pos hq]
      split at h0
      · exact aj_ldc_s h0
      · cases h0
    · cases h0
  case ldc2_w idx =>
    unfold aj_step at h0 ⊢
    dsimp only at h0 ⊢
    split at h0
    · rename_i hq
      rw [if_pos hq]
      split at h0
      · exact aj_ldc_s h0
      · cases h0
    · cases h0
  case lshl | lneg | lcmp | i2l | l2i | i2b | i2c =>
    unfold aj_step at h0
    dsimp only at h0
    split at h0
    · split at h0
      · rename_i hq
        exact (if_pos hq).trans (aj_go_s h0)
      · cases h0
    · cases h0
  case ifCond c off =>
    unfold aj_step at h0
    dsimp only at h0
    split at h0
    · split at h0
      · rename_i hq
        exact (if_pos hq).trans (aj_br_s h0)
      · cases h0
    · cases h0
  case if_icmp c off =>
    unfold aj_step at h0
    dsimp only at h0
    split at h0
    · split at h0
      · rename_i hq
        exact (if_pos hq).trans (aj_br_s h0)
      · cases h0
    · cases h0
  all_goals first
    | (cases h0; done)
    | (unfold aj_step at h0 ⊢
       dsimp only at h0 ⊢
       split at h0
       · rename_i hq
         rw [if_pos hq]
         first
           | exact aj_go_s h0
           | exact aj_load_s h0
           | exact aj_store_s h0
           | exact aj_ii_s h0
           | exact aj_iz_s h0
           | exact aj_ll_s h0
           | exact aj_jump_s h0
           | exact aj_ald_s hT (by decide) h0
           | exact aj_bld_s hT h0
           | exact aj_lld_s hT h0
           | exact aj_qld_s hT h0
           | exact aj_alen_s hT h0
           | exact aj_ast_s hT h0
           | exact aj_bst_s hT h0
           | exact aj_lst_s hT h0
           | exact aj_qst_s hT h0
           | exact aj_getf_s hT h0
           | exact aj_putf_s hT h0
           | exact aj_gets_s hT h0
           | exact aj_new_s hT h0
           | exact aj_newa_s hT h0
           | exact aj_anew_s hT h0
           | exact aj_ldc_s h0
           | exact aj_call_s hT h0
           | exact aj_ret_s h0
       · cases h0)
end AJSYMRUN
def aj_known (kn : List (Nat × Int32)) (j : Nat) : Value := match kn.find? (fun q => q.1 == j) with
  | some q => .int q.2
  | none => .retAddr j
/-- one instruction, with unknown numbers: sid is the script's number, L its length, kn what is known of it -/
def aj_stepS (kn : List (Nat × Int32)) (sid L rc : Nat) (cls : List aj_C) (tb : aj_T) (lk : List aj_L) (nL : Nat) (ret : Option FieldType) (isI : Bool) (i : Instr) (len pc : Nat) (lv : aj_V) (st : List Value) (h : aj_H) : Option aj_Out := match i with
  | .iload_n k => match aj_lv lv k with
    | some (.retAddr j) => if len = 1 then aj_go (pc + 1) lv (.retAddr j :: st) h else none
    | _ => aj_step rc cls tb lk nL ret isI (.iload_n k) len pc lv st h
  | .iload k => match aj_lv lv k with
    | some (.retAddr j) => if len = 2 then aj_go (pc + 2) lv (.retAddr j :: st) h else none
    | _ => aj_step rc cls tb lk nL ret isI (.iload k) len pc lv st h
  | .istore_n k => match st with
    | .retAddr j :: r => if len = 1 ∧ (k : Nat) < nL then aj_go (pc + 1) (aj_set1 lv k (.retAddr j)) r h else none
    | _ => aj_step rc cls tb lk nL ret isI (.istore_n k) len pc lv st h
  | .istore k => match st with
    | .retAddr j :: r => if len = 2 ∧ k < nL then aj_go (pc + 2) (aj_set1 lv k (.retAddr j)) r h else none
    | _ => aj_step rc cls tb lk nL ret isI (.istore k) len pc lv st h
  | .ireturn => match st, ret with
    | [.retAddr j], some .int => if len = 1 then some (.inr (.inr (some (.retAddr j)))) else none
    | _, _ => aj_step rc cls tb lk nL ret isI .ireturn len pc lv st h
  | .iaload => match st with
    | .int x :: .ref r :: rest => if r = sid then (if len = 1 ∧ aj_in x L = true then aj_go (pc + 1) lv (aj_known kn x.toNatClampNeg :: rest) h else none) else aj_step rc cls tb lk nL ret isI .iaload len pc lv st h
    | _ => none
  | .arraylength => match st with
    | .ref r :: rest => if r = sid then (if len = 1 then aj_go (pc + 1) lv (.int (Int32.ofNat L) :: rest) h else none) else aj_step rc cls tb lk nL ret isI .arraylength len pc lv st h
    | _ => none
  | .iand => match st with
    | .int y :: .retAddr j :: r => if len = 1 ∧ y = 31 ∧ j < 100 then aj_go (pc + 1) lv (.retAddr (j + 100) :: r) h else none
    | _ => aj_step rc cls tb lk nL ret isI .iand len pc lv st h
  | i => aj_step rc cls tb lk nL ret isI i len pc lv st h
theorem aj_sE_id (ρ : Nat → Int32) (v : Value) (h : ∀ j, v ≠ .retAddr j) : aj_sv ρ v = v := by
  cases v <;> first | rfl | exact absurd rfl (h _)
theorem aj_known_ok {kn : List (Nat × Int32)} {ρ xs : Nat → Int32} (hkn : ∀ q ∈ kn, xs q.1 = q.2) {j : Nat} (hj : ρ j = xs j) : aj_sv ρ (aj_known kn j) = .int (xs j) := by
  unfold aj_known
  split
  · rename_i q hq
    have h1 := hkn q (List.mem_of_find?_eq_some hq)
    have h2 : q.1 = j := by simpa using List.find?_some hq
    show Value.int _ = _
    rw [← h1, h2]
  · show Value.int _ = _
    rw [hj]
theorem aj_stepS_ok {kn : List (Nat × Int32)} {ρ xs : Nat → Int32} (hkn : ∀ q ∈ kn, xs q.1 = q.2) {tb' tb : aj_T} (hT : aj_sT tb' tb) {sid L : Nat} (hsid : sid < tb.length ∧ tb[sid]? = some (0, L, .inl xs)) (hL : L ≤ 100) (hρ : (∀ j, j < 100 → ρ j = xs j) ∧ ∀ j, j < 100 → ρ (j + 100) = ρ j &&& 31) {rc : Nat} {cls : List aj_C} {lk : List aj_L} {nL : Nat} {ret : Option FieldType} {isI : Bool} {i : Instr} {len pc : Nat} {lv : aj_V} {st : List Value} {h : aj_H} {out : aj_Out}
    (h0 : aj_stepS kn sid L rc cls tb' lk nL ret isI i len pc lv st h = some out) : aj_step rc cls tb lk nL ret isI i len pc (aj_sV ρ lv) (st.map (aj_sv ρ)) (aj_sH ρ h) = some (aj_sO ρ out) := by
  unfold aj_stepS at h0
  split at h0
  · split at h0
    · rename_i k j hx
      split at h0
      · rename_i hl
        have hx := aj_lv_s (ρ := ρ) hx
        have g := aj_go_s (ρ := ρ) h0
        unfold aj_step
        dsimp only
        rw [if_pos hl]
        unfold aj_load
        rw [hx]
        exact g
      · cases h0
    · exact aj_step_s hT h0
  · split at h0
    · rename_i k j hx
      split at h0
      · rename_i hl
        have hx := aj_lv_s (ρ := ρ) hx
        have g := aj_go_s (ρ := ρ) h0
        unfold aj_step
        dsimp only
        rw [if_pos hl]
        unfold aj_load
        rw [hx]
        exact g
      · cases h0
    · exact aj_step_s hT h0
  · split at h0
    · rename_i k j r
      split at h0
      · rename_i hl
        have g := aj_go_s (ρ := ρ) h0
        rw [aj_set1_s] at g
        unfold aj_step
        dsimp only
        rw [if_pos hl.1]
        exact (if_pos ⟨rfl, hl.2⟩).trans g
      · cases h0
    · exact aj_step_s hT h0
  · split at h0
    · rename_i k j r
      split at h0
      · rename_i hl
        have g := aj_go_s (ρ := ρ) h0
        rw [aj_set1_s] at g
        unfold aj_step
        dsimp only
        rw [if_pos hl.1]
        exact (if_pos ⟨rfl, hl.2⟩).trans g
      · cases h0
    · exact aj_step_s hT h0
  · split at h0
    · split at h0
      · rename_i hl
        cases h0
        unfold aj_step
        dsimp only
        rw [if_pos hl]
        rfl
      · cases h0
    · exact aj_step_s hT h0
  · split at h0
    · rename_i x r rest
      split at h0
      · rename_i hr
        subst hr
        split at h0
        · rename_i hq
          have g := aj_go_s (ρ := ρ) h0
          have hlt : x.toNatClampNeg < L := by
            have z := hq.2
            simp only [aj_in, Bool.and_eq_true, decide_eq_true_eq] at z
            exact z.2
          have e : aj_sv ρ (aj_known kn x.toNatClampNeg) = .int (xs x.toNatClampNeg) := aj_known_ok hkn (hρ.1 _ (by omega))
          rw [List.map_cons, e] at g
          unfold aj_step
          dsimp only
          rw [if_pos hq.1]
          have ha : aj_arr tb (aj_sH ρ h) r = some (0, L, .inl xs) := by
            unfold aj_arr
            rw [if_pos hsid.1]
            exact hsid.2
          simp only [aj_ald, List.map_cons, aj_sv, ha]
          exact (if_pos ⟨trivial, hq.2⟩).trans g
        · cases h0
      · exact aj_step_s hT h0
    · cases h0
  · split at h0
    · rename_i r rest
      split at h0
      · rename_i hr
        subst hr
        split at h0
        · rename_i hq
          have g := aj_go_s (ρ := ρ) h0
          unfold aj_step
          dsimp only
          rw [if_pos hq]
          have ha : aj_arr tb (aj_sH ρ h) r = some (0, L, .inl xs) := by
            unfold aj_arr
            rw [if_pos hsid.1]
            exact hsid.2
          simp only [aj_alen, List.map_cons, aj_sv, ha]
          exact (if_pos (by decide)).trans g
        · cases h0
      · exact aj_step_s hT h0
    · cases h0
  · split at h0
    · rename_i y j r
      split at h0
      · rename_i hq
        obtain ⟨hl, rfl, hj⟩ := hq
        have g := aj_go_s (ρ := ρ) h0
        have e : aj_sv ρ (.retAddr (j + 100)) = .int (ρ j &&& 31) := by
          show Value.int _ = _
          rw [hρ.2 _ hj]
        rw [List.map_cons, e] at g
        unfold aj_step
        dsimp only
        rw [if_pos hl]
        exact g
      · cases h0
    · exact aj_step_s hT h0
  · exact aj_step_s hT h0
/-- what has to hold at a told branch -/
abbrev aj_OS : Type := (ClassFile.Cond × Value × Value × Bool) ⊕ (Value × Int × Int × Bool)
def aj_num (ρ : Nat → Int32) : Value → Int32
  | .int x => x
  | .retAddr j => ρ j
  | _ => 0
def aj_osOK (ρ : Nat → Int32) : aj_OS → Prop
  | .inl (c, x, y, b) => aj_test c (aj_num ρ x) (aj_num ρ y) = b
  | .inr (x, lo, hi, true) => (aj_num ρ x).toInt = lo
  | .inr (x, lo, hi, false) => (aj_num ρ x).toInt < lo ∨ hi < (aj_num ρ x).toInt
def aj_iv : Value → Bool
  | .int _ => true
  | .retAddr _ => true
  | _ => false
theorem aj_iv_num {ρ : Nat → Int32} {v : Value} (h : aj_iv v = true) : aj_sv ρ v = .int (aj_num ρ v) := by
  cases v <;> first | rfl | cases h
def aj_askS (i : Instr) (len pc : Nat) (st : List Value) (b : Int) : Option (Nat × List Value × aj_OS) := match i with
  | .ifCond c off => match st with
    | x :: r => if aj_iv x = true ∧ len = 3 ∧ 0 ≤ (pc : Int) + off then some (if b = 1 then ((pc : Int) + off).toNat else pc + 3, r, .inl (c, x, .int 0, decide (b = 1))) else none
    | _ => none
  | .if_icmp c off => match st with
    | y :: x :: r => if aj_iv x = true ∧ aj_iv y = true ∧ len = 3 ∧ 0 ≤ (pc : Int) + off then some (if b = 1 then ((pc : Int) + off).toNat else pc + 3, r, .inl (c, x, y, decide (b = 1))) else none
    | _ => none
  | .tableswitch dflt lo hi offs => match st with
    | x :: r => if b < lo ∨ hi < b then (if aj_iv x = true ∧ 0 ≤ (pc : Int) + dflt then some (((pc : Int) + dflt).toNat, r, .inr (x, lo, hi, false)) else none) else match offs[(b - lo).toNat]? with
      | some off => if aj_iv x = true ∧ 0 ≤ (pc : Int) + off then some (((pc : Int) + off).toNat, r, .inr (x, b, b, true)) else none
      | none => none
    | _ => none
  | _ => none
theorem aj_askS_ok {ρ : Nat → Int32} {rc : Nat} {cls : List aj_C} {tb : aj_T} {lk : List aj_L} {nL : Nat} {ret : Option FieldType} {isI : Bool} {i : Instr} {len pc pc' : Nat} {lv : aj_V} {st st' : List Value} {h : aj_H} {b : Int} {o : aj_OS} (h0 : aj_askS i len pc st b = some (pc', st', o)) (ho : aj_osOK ρ o) : aj_step rc cls tb lk nL ret isI i len pc (aj_sV ρ lv) (st.map (aj_sv ρ)) (aj_sH ρ h) = some (.inl ((pc', aj_sV ρ lv, st'.map (aj_sv ρ)), aj_sH ρ h, 0, 0)) := by
  unfold aj_askS at h0
  split at h0
  · rename_i c off
    rcases st with _ | ⟨x, r⟩
    · cases h0
    · by_cases hq : aj_iv x = true ∧ len = 3 ∧ 0 ≤ (pc : Int) + off
      · have h9 : some (if b = 1 then ((pc : Int) + off).toNat else pc + 3, r, (.inl (c, x, .int 0, decide (b = 1)) : aj_OS)) = some (pc', st', o) := by
          have z : (if aj_iv x = true ∧ len = 3 ∧ 0 ≤ (pc : Int) + off then some (if b = 1 then ((pc : Int) + off).toNat else pc + 3, r, (.inl (c, x, .int 0, decide (b = 1)) : aj_OS)) else none) = some (pc', st', o) := h0
          rw [if_pos hq] at z
          exact z
        obtain ⟨hv, rfl, hp⟩ := hq
        cases h9
        have ho : aj_test c (aj_num ρ x) 0 = decide (b = 1) := ho
        rw [List.map_cons, aj_iv_num hv]
        simp only [aj_step, if_true, aj_br, if_pos hp, aj_go]
        by_cases hb : b = 1
        · simp [hb] at ho
          simp [hb, ho]
        · simp [hb] at ho
          simp [hb, ho]
      · have z : (if aj_iv x = true ∧ len = 3 ∧ 0 ≤ (pc : Int) + off then some (if b = 1 then ((pc : Int) + off).toNat else pc + 3, r, (.inl (c, x, .int 0, decide (b = 1)) : aj_OS)) else none) = some (pc', st', o) := h0
        rw [if_neg hq] at z
        cases z
  · rename_i c off
    rcases st with _ | ⟨y, _ | ⟨x, r⟩⟩
    · cases h0
    · cases h0
    · by_cases hq : aj_iv x = true ∧ aj_iv y = true ∧ len = 3 ∧ 0 ≤ (pc : Int) + off
      · have h9 : some (if b = 1 then ((pc : Int) + off).toNat else pc + 3, r, (.inl (c, x, y, decide (b = 1)) : aj_OS)) = some (pc', st', o) := by
          have z : (if aj_iv x = true ∧ aj_iv y = true ∧ len = 3 ∧ 0 ≤ (pc : Int) + off then some (if b = 1 then ((pc : Int) + off).toNat else pc + 3, r, (.inl (c, x, y, decide (b = 1)) : aj_OS)) else none) = some (pc', st', o) := h0
          rw [if_pos hq] at z
          exact z
        obtain ⟨hv, hw, rfl, hp⟩ := hq
        cases h9
        have ho : aj_test _ _ _ = _ := ho
        rw [List.map_cons, List.map_cons, aj_iv_num hv, aj_iv_num hw]
        simp only [aj_step, if_true, aj_br, if_pos hp, aj_go]
        by_cases hb : b = 1
        · simp [hb] at ho
          simp [hb, ho]
        · simp [hb] at ho
          simp [hb, ho]
      · have z : (if aj_iv x = true ∧ aj_iv y = true ∧ len = 3 ∧ 0 ≤ (pc : Int) + off then some (if b = 1 then ((pc : Int) + off).toNat else pc + 3, r, (.inl (c, x, y, decide (b = 1)) : aj_OS)) else none) = some (pc', st', o) := h0
        rw [if_neg hq] at z
        cases z
  · rename_i dflt lo hi offs
    rcases st with _ | ⟨x, r⟩
    · cases h0
    · by_cases hb : b < lo ∨ hi < b
      · have h0 : (if aj_iv x = true ∧ 0 ≤ (pc : Int) + dflt then some (((pc : Int) + dflt).toNat, r, (.inr (x, lo, hi, false) : aj_OS)) else none) = some (pc', st', o) := (if_pos hb).symm.trans h0
        split at h0
        · rename_i hp
          cases h0
          have ho : _ ∨ _ := ho
          rw [List.map_cons, aj_iv_num hp.1]
          simp only [aj_step, if_pos ho, aj_jump, if_pos hp.2, aj_go]
        · cases h0
      · have h0 : (match offs[(b - lo).toNat]? with | some off => if aj_iv x = true ∧ 0 ≤ (pc : Int) + off then some (((pc : Int) + off).toNat, r, (.inr (x, b, b, true) : aj_OS)) else none | none => none) = some (pc', st', o) := (if_neg hb).symm.trans h0
        split at h0
        · rename_i off hoff
          split at h0
          · rename_i hp
            cases h0
            have ho : Int32.toInt _ = _ := ho
            rw [List.map_cons, aj_iv_num hp.1]
            simp only [aj_step, ho, if_neg hb, hoff, aj_jump, if_pos hp.2, aj_go]
          · cases h0
        · cases h0
  · cases h0
end
section
/-- a branch on an unknown number -/
def aj_sy (i : Instr) (st : List Value) : Bool := match i, st with
  | .ifCond _ _, .retAddr _ :: _ => true
  | .if_icmp _ _, .retAddr _ :: _ => true
  | .if_icmp _ _, _ :: .retAddr _ :: _ => true
  | .tableswitch _ _ _ _, .retAddr _ :: _ => true
  | _, _ => false
abbrev aj_Y : Type := Option Value × aj_H × Nat × Nat × List Int × List aj_OS
def aj_frmS (kn : List (Nat × Int32)) (sid L rc : Nat) (cls : List aj_C) (tb : aj_T) (m : aj_M) (ct : List (Nat × Instr × Nat)) (isI deep : Bool) (call : Nat → List Value → aj_H → List Int → Option aj_Y) : Nat → Nat → aj_V → List Value → aj_H → Nat → Nat → List Int → Option aj_Y
  | 0, _, _, _, _, _, _, _ => none
  | n + 1, pc, lv, st, h, kc, ks, tp => match aj_ct ct pc with
    | none => none
    | some (i, len) => if aj_sy i st = true then (match tp with
        | [] => none
        | b :: tp => match aj_askS i len pc st b with
          | none => none
          | some (pc', st', o) => match aj_frmS kn sid L rc cls tb m ct isI deep call n pc' lv st' h kc ks tp with
            | none => none
            | some (r, hF, c1, s1, t1, os) => some (r, hF, c1, s1, t1, o :: os))
      else match aj_stepS kn sid L rc cls tb m.2.2.2.2.2.1 m.2.2.1 m.2.2.2.1 isI i len pc lv st h with
        | none => none
        | some (.inl ((pc', lv', st'), h', dc, ds)) => aj_frmS kn sid L rc cls tb m ct isI deep call n pc' lv' st' h' (kc + dc) (ks + ds) tp
        | some (.inr (.inl (kind, mi', as, (pc', lv', st')))) => if deep = true then (if kind = 5 then aj_frmS kn sid L rc cls tb m ct isI deep call n pc' lv' st' h kc ks tp else match call mi' as h tp with
            | none => none
            | some (r', h', c1, s1, t1, os) => if h'.length = h.length + c1 then (match aj_frmS kn sid L rc cls tb m ct isI deep call n pc' lv' (r'.toList ++ st') h' (kc + c1) (ks + s1) t1 with
              | none => none
              | some (r, hF, c2, s2, t2, os2) => some (r, hF, c2, s2, t2, os ++ os2)) else none) else none
        | some (.inr (.inr v)) => some (v, h, kc, ks, tp, [])
def aj_runsS (kn : List (Nat × Int32)) (sid L rc : Nat) (cls : List aj_C) (tb : aj_T) (mt : List aj_M) (cd : List (List (Nat × Instr × Nat))) : Nat → Nat → List Value → aj_H → List Int → Option aj_Y
  | 0, mi, as, h, tp => match mt[mi]?, cd[mi]? with
    | some m, some ct => if (lg_sl as).length ≤ m.2.2.1 then aj_frmS kn sid L rc cls tb m ct (aj_isI m) false (fun _ _ _ _ => none) 100000 0 (lv_args 0 as) [] h 0 0 tp else none
    | _, _ => none
  | d + 1, mi, as, h, tp => match mt[mi]?, cd[mi]? with
    | some m, some ct => if (lg_sl as).length ≤ m.2.2.1 then aj_frmS kn sid L rc cls tb m ct (aj_isI m) true (aj_runsS kn sid L rc cls tb mt cd d) 100000 0 (lv_args 0 as) [] h 0 0 tp else none
    | _, _ => none
section AJSYMEXEC
variable {kn : List (Nat × Int32)} {ρ xs : Nat → Int32} {tb' tb : aj_T} {sid L : Nat}
theorem aj_frmS_ok (hkn : ∀ q ∈ kn, xs q.1 = q.2) (hT : aj_sT tb' tb) (hsid : sid < tb.length ∧ tb[sid]? = some (0, L, .inl xs)) (hL : L ≤ 100) (hρ : (∀ j, j < 100 → ρ j = xs j) ∧ ∀ j, j < 100 → ρ (j + 100) = ρ j &&& 31) {rc : Nat} {cls : List aj_C} {m : aj_M} {ct : List (Nat × Instr × Nat)} (hct : aj_ctOK ct m.2.1) {isI deep : Bool} {call : Nat → List Value → aj_H → List Int → Option aj_Y} {callP : Nat → List Value → aj_H → Nat → Nat → Option Value → aj_H → Prop}
    (hcall : ∀ mi as h tp r h' c1 s1 t1 os, call mi as h tp = some (r, h', c1, s1, t1, os) → (∀ o ∈ os, aj_osOK ρ o) → callP mi (as.map (aj_sv ρ)) (aj_sH ρ h) c1 s1 (r.map (aj_sv ρ)) (aj_sH ρ h')) :
    ∀ (n pc : Nat) (lv : aj_V) (st : List Value) (h : aj_H) (kc ks : Nat) (tp : List Int) (r : Option Value) (hF : aj_H) (c1 s1 : Nat) (t1 : List Int) (os : List aj_OS), aj_frmS kn sid L rc cls tb' m ct isI deep call n pc lv st h kc ks tp = some (r, hF, c1, s1, t1, os) → (∀ o ∈ os, aj_osOK ρ o) → kc ≤ c1 ∧ ks ≤ s1 ∧ ∀ ms, s1 ≤ ms → aj_frm rc cls tb m isI deep callP n pc (aj_sV ρ lv) (st.map (aj_sv ρ)) (aj_sH ρ h) kc ks c1 ms (r.map (aj_sv ρ)) (aj_sH ρ hF) := by
  intro n
  induction n with
  | zero => intro pc lv st h kc ks tp r hF c1 s1 t1 os hx; cases hx
  | succ n ih =>
    intro pc lv st h kc ks tp r hF c1 s1 t1 os hx ho
    unfold aj_frmS at hx
    split at hx
    · cases hx
    · rename_i i len hd
      have hd := aj_ct_ok hct hd
      split at hx
      · split at hx
        · cases hx
        · rename_i b tp
          split at hx
          · cases hx
          · rename_i pc' st' o hask
            split at hx
            · cases hx
            · rename_i r2 hF2 c2 s2 t2 os2 hrec
              cases hx
              have h1 := aj_askS_ok (ρ := ρ) (rc := rc) (cls := cls) (tb := tb) (lk := m.2.2.2.2.2.1) (nL := m.2.2.1) (ret := m.2.2.2.1) (isI := isI) (lv := lv) (h := h) hask (ho o List.mem_cons_self)
              obtain ⟨g1, g2, g3⟩ := ih _ _ _ _ _ _ _ _ _ _ _ _ _ hrec (fun o' ho' => ho o' (List.mem_cons_of_mem _ ho'))
              refine ⟨g1, g2, fun ms hms => ?_⟩
              unfold aj_frm
              rw [hd]
              dsimp only
              rw [h1]
              exact ⟨g1, Nat.le_trans g2 hms, g3 ms hms⟩
      · split at hx
        · cases hx
        · rename_i pc' lv' st' h' dc ds hs
          have hs := aj_stepS_ok (ρ := ρ) hkn hT hsid hL hρ hs
          obtain ⟨g1, g2, g3⟩ := ih _ _ _ _ _ _ _ _ _ _ _ _ _ hx ho
          refine ⟨by omega, by omega, fun ms hms => ?_⟩
          unfold aj_frm
          rw [hd]
          dsimp only
          rw [hs]
          exact ⟨g1, Nat.le_trans g2 hms, g3 ms hms⟩
        · rename_i kind mi' as pc' lv' st' hs
          have hs := aj_stepS_ok (ρ := ρ) hkn hT hsid hL hρ hs
          split at hx
          · rename_i hdeep
            split at hx
            · rename_i hk5
              obtain ⟨g1, g2, g3⟩ := ih _ _ _ _ _ _ _ _ _ _ _ _ _ hx ho
              refine ⟨g1, g2, fun ms hms => ?_⟩
              unfold aj_frm
              rw [hd]
              dsimp only
              rw [hs]
              exact ⟨hdeep, Or.inl ⟨hk5, g3 ms hms⟩⟩
            · rename_i hk5
              split at hx
              · cases hx
              · rename_i r2 h2 c2 s2 t2 os2 hcl
                split at hx
                · rename_i hlen
                  split at hx
                  · cases hx
                  · rename_i r3 h3 c3 s3 t3 os3 hrec
                    cases hx
                    have hp := hcall _ _ _ _ _ _ _ _ _ _ hcl (fun o ho' => ho o (List.mem_append_left _ ho'))
                    obtain ⟨g1, g2, g3⟩ := ih _ _ _ _ _ _ _ _ _ _ _ _ _ hrec (fun o ho' => ho o (List.mem_append_right _ ho'))
                    refine ⟨by omega, by omega, fun ms hms => ?_⟩
                    unfold aj_frm
                    rw [hd]
                    dsimp only
                    rw [hs]
                    have e : (r2.map (aj_sv ρ)).toList ++ st'.map (aj_sv ρ) = (r2.toList ++ st').map (aj_sv ρ) := by cases r2 <;> rfl
                    refine ⟨hdeep, Or.inr ⟨hk5, c2, s2, r2.map (aj_sv ρ), aj_sH ρ h2, hp, by rw [aj_sH_len, aj_sH_len]; exact hlen, g1, Nat.le_trans g2 hms, ?_⟩⟩
                    rw [e]
                    exact g3 ms hms
                · cases hx
          · cases hx
        · rename_i v hs
          have hs := aj_stepS_ok (ρ := ρ) hkn hT hsid hL hρ hs
          cases hx
          refine ⟨Nat.le_refl _, Nat.le_refl _, fun ms hms => ?_⟩
          unfold aj_frm
          rw [hd]
          dsimp only
          rw [hs]
          exact ⟨rfl, rfl, rfl⟩
theorem aj_args_s (as : List Value) : ∀ i, lv_args i (as.map (aj_sv ρ)) = aj_sV ρ (lv_args i as) := by
  induction as with
  | nil => intro i; rfl
  | cons v vs ih =>
    intro i
    simp only [List.map_cons, lv_args, aj_sv_cat, ih, aj_sV]
theorem aj_lsl_s (as : List Value) : (lg_sl (as.map (aj_sv ρ))).length = (lg_sl as).length := by
  unfold lg_sl
  induction as with
  | nil => rfl
  | cons v vs ih =>
    simp only [List.map_cons, List.flatMap_cons, List.length_append, ih, aj_sv_cat]
    congr 1
    split <;> rfl
theorem aj_runsS_ok (hkn : ∀ q ∈ kn, xs q.1 = q.2) (hT : aj_sT tb' tb) (hsid : sid < tb.length ∧ tb[sid]? = some (0, L, .inl xs)) (hL : L ≤ 100) (hρ : (∀ j, j < 100 → ρ j = xs j) ∧ ∀ j, j < 100 → ρ (j + 100) = ρ j &&& 31) {rc : Nat} {cls : List aj_C} {mt : List aj_M} {cd : List (List (Nat × Instr × Nat))} (hcd : ∀ (i : Nat) (m : aj_M) (ct : List (Nat × Instr × Nat)), mt[i]? = some m → cd[i]? = some ct → aj_ctOK ct m.2.1) : ∀ (d mi : Nat) (as : List Value) (h : aj_H) (tp : List Int) (r : Option Value) (h' : aj_H) (c1 s1 : Nat) (t1 : List Int) (os : List aj_OS), aj_runsS kn sid L rc cls tb' mt cd d mi as h tp = some (r, h', c1, s1, t1, os) → (∀ o ∈ os, aj_osOK ρ o) → aj_runs rc cls tb mt d mi (as.map (aj_sv ρ)) (aj_sH ρ h) c1 s1 (r.map (aj_sv ρ)) (aj_sH ρ h') := by
  intro d
  induction d with
  | zero =>
    intro mi as h tp r h' c1 s1 t1 os hx ho
    unfold aj_runsS at hx
    split at hx
    · rename_i m ct hm hc
      split at hx
      · rename_i hl
        have g := (aj_frmS_ok hkn hT hsid hL hρ (hcd _ _ _ hm hc) (callP := fun _ _ _ _ _ _ _ => False) (fun _ _ _ _ _ _ _ _ _ _ z => by cases z) _ _ _ _ _ _ _ _ _ _ _ _ _ _ hx ho).2.2 s1 (Nat.le_refl _)
        rw [← aj_args_s] at g
        exact ⟨m, hm, by rw [aj_lsl_s]; exact hl, 100000, g⟩
      · cases hx
    · cases hx
  | succ d ih =>
    intro mi as h tp r h' c1 s1 t1 os hx ho
    unfold aj_runsS at hx
    split at hx
    · rename_i m ct hm hc
      split at hx
      · rename_i hl
        have g := (aj_frmS_ok hkn hT hsid hL hρ (hcd _ _ _ hm hc) ih _ _ _ _ _ _ _ _ _ _ _ _ _ _ hx ho).2.2 s1 (Nat.le_refl _)
        rw [← aj_args_s] at g
        exact ⟨m, hm, by rw [aj_lsl_s]; exact hl, 100000, g⟩
      · cases hx
    · cases hx
end AJSYMEXEC
/-- a run up to the place 'stop', without told branches -/
def aj_frmT (kn : List (Nat × Int32)) (sid L rc : Nat) (cls : List aj_C) (tb : aj_T) (m : aj_M) (ct : List (Nat × Instr × Nat)) (isI deep : Bool) (call : Nat → List Value → aj_H → List Int → Option aj_Y) (stop : Nat) : Nat → Nat → aj_V → List Value → aj_H → Nat → Nat → Option (aj_V × List Value × aj_H × Nat × Nat)
  | 0, _, _, _, _, _, _ => none
  | n + 1, pc, lv, st, h, kc, ks => if pc = stop then some (lv, st, h, kc, ks) else match aj_ct ct pc with
    | none => none
    | some (i, len) => match aj_stepS kn sid L rc cls tb m.2.2.2.2.2.1 m.2.2.1 m.2.2.2.1 isI i len pc lv st h with
        | none => none
        | some (.inl ((pc', lv', st'), h', dc, ds)) => aj_frmT kn sid L rc cls tb m ct isI deep call stop n pc' lv' st' h' (kc + dc) (ks + ds)
        | some (.inr (.inl (kind, mi', as, (pc', lv', st')))) => if deep = true then (if kind = 5 then aj_frmT kn sid L rc cls tb m ct isI deep call stop n pc' lv' st' h kc ks else match call mi' as h [] with
            | some (r', h', c1, s1, _, []) => if h'.length = h.length + c1 then aj_frmT kn sid L rc cls tb m ct isI deep call stop n pc' lv' (r'.toList ++ st') h' (kc + c1) (ks + s1) else none
            | _ => none) else none
        | some (.inr (.inr _)) => none
section AJSYMTO
variable {kn : List (Nat × Int32)} {ρ xs : Nat → Int32} {tb' tb : aj_T} {sid L : Nat}
theorem aj_frmT_ok (hkn : ∀ q ∈ kn, xs q.1 = q.2) (hT : aj_sT tb' tb) (hsid : sid < tb.length ∧ tb[sid]? = some (0, L, .inl xs)) (hL : L ≤ 100) (hρ : (∀ j, j < 100 → ρ j = xs j) ∧ ∀ j, j < 100 → ρ (j + 100) = ρ j &&& 31) {rc : Nat} {cls : List aj_C} {m : aj_M} {ct : List (Nat × Instr × Nat)} (hct : aj_ctOK ct m.2.1) {isI deep : Bool} {call : Nat → List Value → aj_H → List Int → Option aj_Y} {callP : Nat → List Value → aj_H → Nat → Nat → Option Value → aj_H → Prop}
    (hcall : ∀ mi as h tp r h' c1 s1 t1 os, call mi as h tp = some (r, h', c1, s1, t1, os) → (∀ o ∈ os, aj_osOK ρ o) → callP mi (as.map (aj_sv ρ)) (aj_sH ρ h) c1 s1 (r.map (aj_sv ρ)) (aj_sH ρ h')) {stop mc ms : Nat} {r : Option Value} {hF : aj_H} :
    ∀ (n pc : Nat) (lv : aj_V) (st : List Value) (h : aj_H) (kc ks : Nat) (lv1 : aj_V) (st1 : List Value) (h1 : aj_H) (k1 s1 : Nat), aj_frmT kn sid L rc cls tb' m ct isI deep call stop n pc lv st h kc ks = some (lv1, st1, h1, k1, s1) → k1 ≤ mc → s1 ≤ ms → (∃ n1, aj_frm rc cls tb m isI deep callP n1 stop (aj_sV ρ lv1) (st1.map (aj_sv ρ)) (aj_sH ρ h1) k1 s1 mc ms r hF) → kc ≤ k1 ∧ ks ≤ s1 ∧ ∃ n2, aj_frm rc cls tb m isI deep callP n2 pc (aj_sV ρ lv) (st.map (aj_sv ρ)) (aj_sH ρ h) kc ks mc ms r hF := by
  intro n
  induction n with
  | zero => intro pc lv st h kc ks lv1 st1 h1 k1 s1 hx; cases hx
  | succ n ih =>
    intro pc lv st h kc ks lv1 st1 h1 k1 s1 hx hk1 hs1 hcont
    unfold aj_frmT at hx
    split at hx
    · rename_i hpc
      cases hx
      rw [hpc]
      exact ⟨Nat.le_refl _, Nat.le_refl _, hcont⟩
    · split at hx
      · cases hx
      · rename_i i len hd
        have hd := aj_ct_ok hct hd
        split at hx
        · cases hx
        · rename_i pc' lv' st' h' dc ds hs
          have hs := aj_stepS_ok (ρ := ρ) hkn hT hsid hL hρ hs
          obtain ⟨g1, g2, n2, g3⟩ := ih _ _ _ _ _ _ _ _ _ _ _ hx hk1 hs1 hcont
          refine ⟨by omega, by omega, n2 + 1, ?_⟩
          unfold aj_frm
          rw [hd]
          dsimp only
          rw [hs]
          exact ⟨Nat.le_trans g1 hk1, Nat.le_trans g2 hs1, g3⟩
        · rename_i kind mi' as pc' lv' st' hs
          have hs := aj_stepS_ok (ρ := ρ) hkn hT hsid hL hρ hs
          split at hx
          · rename_i hdeep
            split at hx
            · rename_i hk5
              obtain ⟨g1, g2, n2, g3⟩ := ih _ _ _ _ _ _ _ _ _ _ _ hx hk1 hs1 hcont
              refine ⟨g1, g2, n2 + 1, ?_⟩
              unfold aj_frm
              rw [hd]
              dsimp only
              rw [hs]
              exact ⟨hdeep, Or.inl ⟨hk5, g3⟩⟩
            · rename_i hk5
              split at hx
              · rename_i r2 h2 c2 s2 t2 hcl
                split at hx
                · rename_i hlen
                  have hp := hcall _ _ _ _ _ _ _ _ _ _ hcl (fun o ho' => absurd ho' List.not_mem_nil)
                  obtain ⟨g1, g2, n2, g3⟩ := ih _ _ _ _ _ _ _ _ _ _ _ hx hk1 hs1 hcont
                  refine ⟨by omega, by omega, n2 + 1, ?_⟩
                  unfold aj_frm
                  rw [hd]
                  dsimp only
                  rw [hs]
                  have e : (r2.map (aj_sv ρ)).toList ++ st'.map (aj_sv ρ) = (r2.toList ++ st').map (aj_sv ρ) := by cases r2 <;> rfl
                  refine ⟨hdeep, Or.inr ⟨hk5, c2, s2, r2.map (aj_sv ρ), aj_sH ρ h2, hp, by rw [aj_sH_len, aj_sH_len]; exact hlen, Nat.le_trans g1 hk1, Nat.le_trans g2 hs1, ?_⟩⟩
                  rw [e]
                  exact g3
                · cases hx
              · cases hx
          · cases hx
        · cases hx
end AJSYMTO
end
section
def aj_lawM : aj_M := (x, code, 4, some .boolean, 1, aj_lk15, "DimShelfLaw")
/-- the static arrays with the script, L long, behind them: as it is, and unknown -/
def aj_tb (L : Nat) (xs : Nat → Int32) : aj_T := aj_tbS ++ [(0, L, .inl xs)]
def aj_tbU (L : Nat) : aj_T := aj_tbS ++ [(7, L, .inl (fun _ => 0))]
def aj_callU (kn : List (Nat × Int32)) (L : Nat) : Nat → List Value → aj_H → List Int → Option aj_Y := aj_runsS kn 51 L aj_rc aj_cls (aj_tbU L) aj_mt aj_cuA 20
/-- the law up to its loop -/
def aj_s0 : Option (aj_V × List Value × aj_H × Nat × Nat) := aj_frmT [] 51 6 aj_rc aj_cls (aj_tbU 6) aj_lawM aj_cL false true (aj_callU [] 6) 18 100000 0 [(0, .ref 51)] [] [] 0 0
def aj_h0 : aj_H := match aj_s0 with
  | some q => q.2.2.1
  | none => []
set_option maxRecDepth 1000000 in
theorem aj_s0_a : aj_s0.map (fun q => (q.1, q.2.1, q.2.2.2.1)) = some ([(3, .int 0), (2, .ref 117), (1, .ref 52), (0, .ref 51)], [], 98) := by decide +kernel
def aj_k0 : Nat := match aj_s0 with
  | some q => q.2.2.2.2
  | none => 0
def aj_lv0 : aj_V := [(3, .int 0), (2, .ref 117), (1, .ref 52), (0, .ref 51)]
theorem aj_s0_e : aj_s0 = some (aj_lv0, [], aj_h0, 98, aj_k0) := by
  have h := aj_s0_a
  unfold aj_h0 aj_k0
  cases hs : aj_s0 with
  | none => rw [hs] at h; cases h
  | some q =>
    obtain ⟨q1, q2, q3, q4, q5⟩ := q
    rw [hs] at h
    simp only [Option.map_some, Option.some.injEq, Prod.mk.injEq] at h
    obtain ⟨rfl, rfl, rfl⟩ := h
    rfl
/-- the law from its loop on: what has to hold for it to answer 1 and make no cell more -/
def aj_run2 (kn : List (Nat × Int32)) (tp : List Int) : Option (List aj_OS) := match aj_frmS kn 51 6 aj_rc aj_cls (aj_tbU 6) aj_lawM aj_cL false true (aj_callU kn 6) 100000 18 aj_lv0 [] aj_h0 98 aj_k0 tp with
  | some (r, _, c1, s1, _, os) => if r = some (.int 1) ∧ c1 = 98 ∧ s1 ≤ 500000 then some os else none
  | none => none
def aj_chk (kn : List (Nat × Int32)) (tp : List Int) (os : List aj_OS) : Bool := match aj_run2 kn tp with
  | some os' => decide (os' = os)
  | none => false
theorem aj_chk_ok {kn : List (Nat × Int32)} {tp : List Int} {os : List aj_OS} (h : aj_chk kn tp os = true) : aj_run2 kn tp = some os := by
  unfold aj_chk at h
  split at h
  · rename_i os' h1
    rw [h1, of_decide_eq_true h]
  · cases h
end
section
def aj_q1A : List (Nat × Int32) × List Int × List aj_OS := ([], [1, 1, 1], [.inr (.retAddr 100, 1, 1, true), .inl (.lt, .retAddr 1, .int 0, true), .inl (.lt, .retAddr 1, .int 0, true)])
def aj_q1B : List (Nat × Int32) × List Int × List aj_OS := ([], [1, 0, 0, 0, 0], [.inr (.retAddr 100, 1, 1, true), .inl (.lt, .retAddr 1, .int 0, false), .inl (.le, .retAddr 1, .int 0, false), .inl (.lt, .retAddr 1, .int 0, false), .inl (.le, .retAddr 1, .int 0, false)])
def aj_q1C : List (Nat × Int32) × List Int × List aj_OS := ([(1, 0)], [1], [.inr (.retAddr 100, 1, 1, true)])
def aj_q2 : List (Nat × Int32) × List Int × List aj_OS := ([], [2], [.inr (.retAddr 100, 2, 2, true)])
def aj_q3 : List (Nat × Int32) × List Int × List aj_OS := ([], [3], [.inr (.retAddr 100, 3, 3, true)])
def aj_q4 : List (Nat × Int32) × List Int × List aj_OS := ([], [4], [.inr (.retAddr 100, 4, 4, true)])
def aj_q5 : List (Nat × Int32) × List Int × List aj_OS := ([], [5], [.inr (.retAddr 100, 5, 5, true)])
def aj_q6 : List (Nat × Int32) × List Int × List aj_OS := ([], [6], [.inr (.retAddr 100, 6, 6, true)])
def aj_q7 : List (Nat × Int32) × List Int × List aj_OS := ([], [7], [.inr (.retAddr 100, 7, 7, true)])
def aj_q8n : List (Nat × Int32) × List Int × List aj_OS := ([], [8, 1, 1], [.inr (.retAddr 100, 8, 8, true), .inl (.lt, .retAddr 1, .int 0, true), .inl (.lt, .retAddr 1, .int 0, true)])
def aj_q8bn : List (Nat × Int32) × List Int × List aj_OS := ([], [8, 0, 1, 0, 1], [.inr (.retAddr 100, 8, 8, true), .inl (.lt, .retAddr 1, .int 0, false), .inl (.ge, .retAddr 1, .int 1, true), .inl (.lt, .retAddr 1, .int 0, false), .inl (.lt, .retAddr 2, .int 0, true)])
def aj_q8bp : List (Nat × Int32) × List Int × List aj_OS := ([], [8, 0, 1, 0, 0, 0], [.inr (.retAddr 100, 8, 8, true), .inl (.lt, .retAddr 1, .int 0, false), .inl (.ge, .retAddr 1, .int 1, true), .inl (.lt, .retAddr 1, .int 0, false), .inl (.lt, .retAddr 2, .int 0, false), .inl (.lt, .retAddr 2, .int 0, false)])
def aj_q8zn : List (Nat × Int32) × List Int × List aj_OS := ([(1, 0)], [8, 1, 1], [.inr (.retAddr 100, 8, 8, true), .inl (.lt, .retAddr 2, .int 0, true), .inl (.lt, .retAddr 2, .int 0, true)])
def aj_q8zp : List (Nat × Int32) × List Int × List aj_OS := ([(1, 0)], [8, 0, 0, 0, 0], [.inr (.retAddr 100, 8, 8, true), .inl (.lt, .retAddr 2, .int 0, false), .inl (.lt, .retAddr 2, .int 0, false), .inl (.lt, .retAddr 2, .int 0, false), .inl (.lt, .retAddr 2, .int 0, false)])
def aj_q9n : List (Nat × Int32) × List Int × List aj_OS := ([], [9, 1, 1], [.inr (.retAddr 100, 9, 9, true), .inl (.lt, .retAddr 1, .int 0, true), .inl (.lt, .retAddr 1, .int 0, true)])
def aj_q9p : List (Nat × Int32) × List Int × List aj_OS := ([], [9, 0, 1, 0, 1], [.inr (.retAddr 100, 9, 9, true), .inl (.lt, .retAddr 1, .int 0, false), .inl (.ge, .retAddr 1, .int 0, true), .inl (.lt, .retAddr 1, .int 0, false), .inl (.ge, .retAddr 1, .int 0, true)])
def aj_q10n : List (Nat × Int32) × List Int × List aj_OS := ([], [10, 1, 1], [.inr (.retAddr 100, 10, 10, true), .inl (.lt, .retAddr 1, .int 0, true), .inl (.lt, .retAddr 1, .int 0, true)])
def aj_q10p : List (Nat × Int32) × List Int × List aj_OS := ([], [10, 0, 1, 0, 1], [.inr (.retAddr 100, 10, 10, true), .inl (.lt, .retAddr 1, .int 0, false), .inl (.ge, .retAddr 1, .int 0, true), .inl (.lt, .retAddr 1, .int 0, false), .inl (.ge, .retAddr 1, .int 0, true)])
def aj_q11n : List (Nat × Int32) × List Int × List aj_OS := ([], [11, 1, 1], [.inr (.retAddr 100, 11, 11, true), .inl (.lt, .retAddr 1, .int 0, true), .inl (.lt, .retAddr 1, .int 0, true)])
set_option maxRecDepth 1000000 in
theorem aj_qs0 : ([aj_q1A, aj_q1B, aj_q1C, aj_q2, aj_q3, aj_q4, aj_q5, aj_q6, aj_q7, aj_q8n, aj_q8bn, aj_q8bp, aj_q8zn, aj_q8zp, aj_q9n, aj_q9p, aj_q10n, aj_q10p, aj_q11n] : List (List (Nat × Int32) × List Int × List aj_OS)).all (fun q => aj_chk q.1 q.2.1 q.2.2) = true := by decide +kernel
theorem aj_p1A : aj_run2 aj_q1A.1 aj_q1A.2.1 = some aj_q1A.2.2 := aj_chk_ok (List.all_eq_true.mp aj_qs0 aj_q1A (List.mem_of_getElem? (i := 0) rfl))
theorem aj_p1B : aj_run2 aj_q1B.1 aj_q1B.2.1 = some aj_q1B.2.2 := aj_chk_ok (List.all_eq_true.mp aj_qs0 aj_q1B (List.mem_of_getElem? (i := 1) rfl))
theorem aj_p1C : aj_run2 aj_q1C.1 aj_q1C.2.1 = some aj_q1C.2.2 := aj_chk_ok (List.all_eq_true.mp aj_qs0 aj_q1C (List.mem_of_getElem? (i := 2) rfl))
theorem aj_p2 : aj_run2 aj_q2.1 aj_q2.2.1 = some aj_q2.2.2 := aj_chk_ok (List.all_eq_true.mp aj_qs0 aj_q2 (List.mem_of_getElem? (i := 3) rfl))
theorem aj_p3 : aj_run2 aj_q3.1 aj_q3.2.1 = some aj_q3.2.2 := aj_chk_ok (List.all_eq_true.mp aj_qs0 aj_q3 (List.mem_of_getElem? (i := 4) rfl))
theorem aj_p4 : aj_run2 aj_q4.1 aj_q4.2.1 = some aj_q4.2.2 := aj_chk_ok (List.all_eq_true.mp aj_qs0 aj_q4 (List.mem_of_getElem? (i := 5) rfl))
theorem aj_p5 : aj_run2 aj_q5.1 aj_q5.2.1 = some aj_q5.2.2 := aj_chk_ok (List.all_eq_true.mp aj_qs0 aj_q5 (List.mem_of_getElem? (i := 6) rfl))
theorem aj_p6 : aj_run2 aj_q6.1 aj_q6.2.1 = some aj_q6.2.2 := aj_chk_ok (List.all_eq_true.mp aj_qs0 aj_q6 (List.mem_of_getElem? (i := 7) rfl))
theorem aj_p7 : aj_run2 aj_q7.1 aj_q7.2.1 = some aj_q7.2.2 := aj_chk_ok (List.all_eq_true.mp aj_qs0 aj_q7 (List.mem_of_getElem? (i := 8) rfl))
theorem aj_p8n : aj_run2 aj_q8n.1 aj_q8n.2.1 = some aj_q8n.2.2 := aj_chk_ok (List.all_eq_true.mp aj_qs0 aj_q8n (List.mem_of_getElem? (i := 9) rfl))
theorem aj_p8bn : aj_run2 aj_q8bn.1 aj_q8bn.2.1 = some aj_q8bn.2.2 := aj_chk_ok (List.all_eq_true.mp aj_qs0 aj_q8bn (List.mem_of_getElem? (i := 10) rfl))
theorem aj_p8bp : aj_run2 aj_q8bp.1 aj_q8bp.2.1 = some aj_q8bp.2.2 := aj_chk_ok (List.all_eq_true.mp aj_qs0 aj_q8bp (List.mem_of_getElem? (i := 11) rfl))
theorem aj_p8zn : aj_run2 aj_q8zn.1 aj_q8zn.2.1 = some aj_q8zn.2.2 := aj_chk_ok (List.all_eq_true.mp aj_qs0 aj_q8zn (List.mem_of_getElem? (i := 12) rfl))
theorem aj_p8zp : aj_run2 aj_q8zp.1 aj_q8zp.2.1 = some aj_q8zp.2.2 := aj_chk_ok (List.all_eq_true.mp aj_qs0 aj_q8zp (List.mem_of_getElem? (i := 13) rfl))
theorem aj_p9n : aj_run2 aj_q9n.1 aj_q9n.2.1 = some aj_q9n.2.2 := aj_chk_ok (List.all_eq_true.mp aj_qs0 aj_q9n (List.mem_of_getElem? (i := 14) rfl))
theorem aj_p9p : aj_run2 aj_q9p.1 aj_q9p.2.1 = some aj_q9p.2.2 := aj_chk_ok (List.all_eq_true.mp aj_qs0 aj_q9p (List.mem_of_getElem? (i := 15) rfl))
theorem aj_p10n : aj_run2 aj_q10n.1 aj_q10n.2.1 = some aj_q10n.2.2 := aj_chk_ok (List.all_eq_true.mp aj_qs0 aj_q10n (List.mem_of_getElem? (i := 16) rfl))
theorem aj_p10p : aj_run2 aj_q10p.1 aj_q10p.2.1 = some aj_q10p.2.2 := aj_chk_ok (List.all_eq_true.mp aj_qs0 aj_q10p (List.mem_of_getElem? (i := 17) rfl))
theorem aj_p11n : aj_run2 aj_q11n.1 aj_q11n.2.1 = some aj_q11n.2.2 := aj_chk_ok (List.all_eq_true.mp aj_qs0 aj_q11n (List.mem_of_getElem? (i := 18) rfl))
def aj_q11p : List (Nat × Int32) × List Int × List aj_OS := ([], [11, 0, 1, 0, 1], [.inr (.retAddr 100, 11, 11, true), .inl (.lt, .retAddr 1, .int 0, false), .inl (.ge, .retAddr 1, .int 0, true), .inl (.lt, .retAddr 1, .int 0, false), .inl (.ge, .retAddr 1, .int 0, true)])
def aj_q15n : List (Nat × Int32) × List Int × List aj_OS := ([], [15, 1, 1], [.inr (.retAddr 100, 15, 15, true), .inl (.lt, .retAddr 1, .int 0, true), .inl (.lt, .retAddr 1, .int 0, true)])
def aj_q15p : List (Nat × Int32) × List Int × List aj_OS := ([], [15, 0, 1, 0, 1], [.inr (.retAddr 100, 15, 15, true), .inl (.lt, .retAddr 1, .int 0, false), .inl (.ge, .retAddr 1, .int 0, true), .inl (.lt, .retAddr 1, .int 0, false), .inl (.ge, .retAddr 1, .int 0, true)])
def aj_q16n : List (Nat × Int32) × List Int × List aj_OS := ([], [16, 1, 1], [.inr (.retAddr 100, 16, 16, true), .inl (.lt, .retAddr 1, .int 0, true), .inl (.lt, .retAddr 1, .int 0, true)])
def aj_q16p : List (Nat × Int32) × List Int × List aj_OS := ([], [16, 0, 1, 0, 1], [.inr (.retAddr 100, 16, 16, true), .inl (.lt, .retAddr 1, .int 0, false), .inl (.ge, .retAddr 1, .int 0, true), .inl (.lt, .retAddr 1, .int 0, false), .inl (.ge, .retAddr 1, .int 0, true)])
def aj_q17n : List (Nat × Int32) × List Int × List aj_OS := ([], [17, 1, 1], [.inr (.retAddr 100, 17, 17, true), .inl (.lt, .retAddr 1, .int 0, true), .inl (.lt, .retAddr 1, .int 0, true)])
def aj_q17p : List (Nat × Int32) × List Int × List aj_OS := ([], [17, 0, 1, 0, 1], [.inr (.retAddr 100, 17, 17, true), .inl (.lt, .retAddr 1, .int 0, false), .inl (.ge, .retAddr 1, .int 0, true), .inl (.lt, .retAddr 1, .int 0, false), .inl (.ge, .retAddr 1, .int 0, true)])
def aj_q12nn : List (Nat × Int32) × List Int × List aj_OS := ([], [12, 1, 1, 1], [.inr (.retAddr 100, 12, 12, true), .inl (.lt, .retAddr 1, .int 0, true), .inl (.lt, .retAddr 3, .int 0, true), .inl (.lt, .retAddr 1, .int 0, true)])
def aj_q12nb : List (Nat × Int32) × List Int × List aj_OS := ([], [12, 1, 0, 1, 1], [.inr (.retAddr 100, 12, 12, true), .inl (.lt, .retAddr 1, .int 0, true), .inl (.lt, .retAddr 3, .int 0, false), .inl (.ge, .retAddr 3, .int 1, true), .inl (.lt, .retAddr 1, .int 0, true)])
def aj_q12nz : List (Nat × Int32) × List Int × List aj_OS := ([(3, 0)], [12, 1, 1], [.inr (.retAddr 100, 12, 12, true), .inl (.lt, .retAddr 1, .int 0, true), .inl (.lt, .retAddr 1, .int 0, true)])
def aj_q12pn : List (Nat × Int32) × List Int × List aj_OS := ([], [12, 0, 1, 1, 0, 1], [.inr (.retAddr 100, 12, 12, true), .inl (.lt, .retAddr 1, .int 0, false), .inl (.ge, .retAddr 1, .int 0, true), .inl (.lt, .retAddr 3, .int 0, true), .inl (.lt, .retAddr 1, .int 0, false), .inl (.ge, .retAddr 1, .int 0, true)])
def aj_q12pb : List (Nat × Int32) × List Int × List aj_OS := ([], [12, 0, 1, 0, 1, 0, 1], [.inr (.retAddr 100, 12, 12, true), .inl (.lt, .retAddr 1, .int 0, false), .inl (.ge, .retAddr 1, .int 0, true), .inl (.lt, .retAddr 3, .int 0, false), .inl (.ge, .retAddr 3, .int 1, true), .inl (.lt, .retAddr 1, .int 0, false), .inl (.ge, .retAddr 1, .int 0, true)])
def aj_q12pz : List (Nat × Int32) × List Int × List aj_OS := ([(3, 0)], [12, 0, 1, 0, 1], [.inr (.retAddr 100, 12, 12, true), .inl (.lt, .retAddr 1, .int 0, false), .inl (.ge, .retAddr 1, .int 0, true), .inl (.lt, .retAddr 1, .int 0, false), .inl (.ge, .retAddr 1, .int 0, true)])
def aj_q13nn : List (Nat × Int32) × List Int × List aj_OS := ([], [13, 1, 1, 1], [.inr (.retAddr 100, 13, 13, true), .inl (.lt, .retAddr 1, .int 0, true), .inl (.lt, .retAddr 2, .int 0, true), .inl (.lt, .retAddr 1, .int 0, true)])
def aj_q13nb : List (Nat × Int32) × List Int × List aj_OS := ([], [13, 1, 0, 1, 1], [.inr (.retAddr 100, 13, 13, true), .inl (.lt, .retAddr 1, .int 0, true), .inl (.lt, .retAddr 2, .int 0, false), .inl (.ge, .retAddr 2, .int 1, true), .inl (.lt, .retAddr 1, .int 0, true)])
def aj_q13nz : List (Nat × Int32) × List Int × List aj_OS := ([(2, 0)], [13, 1, 1], [.inr (.retAddr 100, 13, 13, true), .inl (.lt, .retAddr 1, .int 0, true), .inl (.lt, .retAddr 1, .int 0, true)])
def aj_q13pn : List (Nat × Int32) × List Int × List aj_OS := ([], [13, 0, 1, 1, 0, 1], [.inr (.retAddr 100, 13, 13, true), .inl (.lt, .retAddr 1, .int 0, false), .inl (.ge, .retAddr 1, .int 0, true), .inl (.lt, .retAddr 2, .int 0, true), .inl (.lt, .retAddr 1, .int 0, false), .inl (.ge, .retAddr 1, .int 0, true)])
def aj_q13pb : List (Nat × Int32) × List Int × List aj_OS := ([], [13, 0, 1, 0, 1, 0, 1], [.inr (.retAddr 100, 13, 13, true), .inl (.lt, .retAddr 1, .int 0, false), .inl (.ge, .retAddr 1, .int 0, true), .inl (.lt, .retAddr 2, .int 0, false), .inl (.ge, .retAddr 2, .int 1, true), .inl (.lt, .retAddr 1, .int 0, false), .inl (.ge, .retAddr 1, .int 0, true)])
def aj_q13pz : List (Nat × Int32) × List Int × List aj_OS := ([(2, 0)], [13, 0, 1, 0, 1], [.inr (.retAddr 100, 13, 13, true), .inl (.lt, .retAddr 1, .int 0, false), .inl (.ge, .retAddr 1, .int 0, true), .inl (.lt, .retAddr 1, .int 0, false), .inl (.ge, .retAddr 1, .int 0, true)])
set_option maxRecDepth 1000000 in
theorem aj_qs1 : ([aj_q11p, aj_q15n, aj_q15p, aj_q16n, aj_q16p, aj_q17n, aj_q17p, aj_q12nn, aj_q12nb, aj_q12nz, aj_q12pn, aj_q12pb, aj_q12pz, aj_q13nn, aj_q13nb, aj_q13nz, aj_q13pn, aj_q13pb, aj_q13pz] : List (List (Nat × Int32) × List Int × List aj_OS)).all (fun q => aj_chk q.1 q.2.1 q.2.2) = true := by decide +kernel
theorem aj_p11p : aj_run2 aj_q11p.1 aj_q11p.2.1 = some aj_q11p.2.2 := aj_chk_ok (List.all_eq_true.mp aj_qs1 aj_q11p (List.mem_of_getElem? (i := 0) rfl))
theorem aj_p15n : aj_run2 aj_q15n.1 aj_q15n.2.1 = some aj_q15n.2.2 := aj_chk_ok (List.all_eq_true.mp aj_qs1 aj_q15n (List.mem_of_getElem? (i := 1) rfl))
theorem aj_p15p : aj_run2 aj_q15p.1 aj_q15p.2.1 = some aj_q15p.2.2 := aj_chk_ok (List.all_eq_true.mp aj_qs1 aj_q15p (List.mem_of_getElem? (i := 2) rfl))
theorem aj_p16n : aj_run2 aj_q16n.1 aj_q16n.2.1 = some aj_q16n.2.2 := aj_chk_ok (List.all_eq_true.mp aj_qs1 aj_q16n (List.mem_of_getElem? (i := 3) rfl))
theorem aj_p16p : aj_run2 aj_q16p.1 aj_q16p.2.1 = some aj_q16p.2.2 := aj_chk_ok (List.all_eq_true.mp aj_qs1 aj_q16p (List.mem_of_getElem? (i := 4) rfl))
theorem aj_p17n : aj_run2 aj_q17n.1 aj_q17n.2.1 = some aj_q17n.2.2 := aj_chk_ok (List.all_eq_true.mp aj_qs1 aj_q17n (List.mem_of_getElem? (i := 5) rfl))
theorem aj_p17p : aj_run2 aj_q17p.1 aj_q17p.2.1 = some aj_q17p.2.2 := aj_chk_ok (List.all_eq_true.mp aj_qs1 aj_q17p (List.mem_of_getElem? (i := 6) rfl))
theorem aj_p12nn : aj_run2 aj_q12nn.1 aj_q12nn.2.1 = some aj_q12nn.2.2 := aj_chk_ok (List.all_eq_true.mp aj_qs1 aj_q12nn (List.mem_of_getElem? (i := 7) rfl))
theorem aj_p12nb : aj_run2 aj_q12nb.1 aj_q12nb.2.1 = some aj_q12nb.2.2 := aj_chk_ok (List.all_eq_true.mp aj_qs1 aj_q12nb (List.mem_of_getElem? (i := 8) rfl))
theorem aj_p12nz : aj_run2 aj_q12nz.1 aj_q12nz.2.1 = some aj_q12nz.2.2 := aj_chk_ok (List.all_eq_true.mp aj_qs1 aj_q12nz (List.mem_of_getElem? (i := 9) rfl))
theorem aj_p12pn : aj_run2 aj_q12pn.1 aj_q12pn.2.1 = some aj_q12pn.2.2 := aj_chk_ok (List.all_eq_true.mp aj_qs1 aj_q12pn (List.mem_of_getElem? (i := 10) rfl))
theorem aj_p12pb : aj_run2 aj_q12pb.1 aj_q12pb.2.1 = some aj_q12pb.2.2 := aj_chk_ok (List.all_eq_true.mp aj_qs1 aj_q12pb (List.mem_of_getElem? (i := 11) rfl))
theorem aj_p12pz : aj_run2 aj_q12pz.1 aj_q12pz.2.1 = some aj_q12pz.2.2 := aj_chk_ok (List.all_eq_true.mp aj_qs1 aj_q12pz (List.mem_of_getElem? (i := 12) rfl))
theorem aj_p13nn : aj_run2 aj_q13nn.1 aj_q13nn.2.1 = some aj_q13nn.2.2 := aj_chk_ok (List.all_eq_true.mp aj_qs1 aj_q13nn (List.mem_of_getElem? (i := 13) rfl))
theorem aj_p13nb : aj_run2 aj_q13nb.1 aj_q13nb.2.1 = some aj_q13nb.2.2 := aj_chk_ok (List.all_eq_true.mp aj_qs1 aj_q13nb (List.mem_of_getElem? (i := 14) rfl))
theorem aj_p13nz : aj_run2 aj_q13nz.1 aj_q13nz.2.1 = some aj_q13nz.2.2 := aj_chk_ok (List.all_eq_true.mp aj_qs1 aj_q13nz (List.mem_of_getElem? (i := 15) rfl))
theorem aj_p13pn : aj_run2 aj_q13pn.1 aj_q13pn.2.1 = some aj_q13pn.2.2 := aj_chk_ok (List.all_eq_true.mp aj_qs1 aj_q13pn (List.mem_of_getElem? (i := 16) rfl))
theorem aj_p13pb : aj_run2 aj_q13pb.1 aj_q13pb.2.1 = some aj_q13pb.2.2 := aj_chk_ok (List.all_eq_true.mp aj_qs1 aj_q13pb (List.mem_of_getElem? (i := 17) rfl))
theorem aj_p13pz : aj_run2 aj_q13pz.1 aj_q13pz.2.1 = some aj_q13pz.2.2 := aj_chk_ok (List.all_eq_true.mp aj_qs1 aj_q13pz (List.mem_of_getElem? (i := 18) rfl))
def aj_q14nn : List (Nat × Int32) × List Int × List aj_OS := ([], [14, 1, 1, 1], [.inr (.retAddr 100, 14, 14, true), .inl (.lt, .retAddr 1, .int 0, true), .inl (.lt, .retAddr 2, .int 0, true), .inl (.lt, .retAddr 1, .int 0, true)])
def aj_q14nb : List (Nat × Int32) × List Int × List aj_OS := ([], [14, 1, 0, 1, 1], [.inr (.retAddr 100, 14, 14, true), .inl (.lt, .retAddr 1, .int 0, true), .inl (.lt, .retAddr 2, .int 0, false), .inl (.ge, .retAddr 2, .int 1, true), .inl (.lt, .retAddr 1, .int 0, true)])
def aj_q14nz : List (Nat × Int32) × List Int × List aj_OS := ([(2, 0)], [14, 1, 1], [.inr (.retAddr 100, 14, 14, true), .inl (.lt, .retAddr 1, .int 0, true), .inl (.lt, .retAddr 1, .int 0, true)])
def aj_q14pn : List (Nat × Int32) × List Int × List aj_OS := ([], [14, 0, 1, 1, 0, 1], [.inr (.retAddr 100, 14, 14, true), .inl (.lt, .retAddr 1, .int 0, false), .inl (.ge, .retAddr 1, .int 0, true), .inl (.lt, .retAddr 2, .int 0, true), .inl (.lt, .retAddr 1, .int 0, false), .inl (.ge, .retAddr 1, .int 0, true)])
def aj_q14pb : List (Nat × Int32) × List Int × List aj_OS := ([], [14, 0, 1, 0, 1, 0, 1], [.inr (.retAddr 100, 14, 14, true), .inl (.lt, .retAddr 1, .int 0, false), .inl (.ge, .retAddr 1, .int 0, true), .inl (.lt, .retAddr 2, .int 0, false), .inl (.ge, .retAddr 2, .int 1, true), .inl (.lt, .retAddr 1, .int 0, false), .inl (.ge, .retAddr 1, .int 0, true)])
def aj_q14pz : List (Nat × Int32) × List Int × List aj_OS := ([(2, 0)], [14, 0, 1, 0, 1], [.inr (.retAddr 100, 14, 14, true), .inl (.lt, .retAddr 1, .int 0, false), .inl (.ge, .retAddr 1, .int 0, true), .inl (.lt, .retAddr 1, .int 0, false), .inl (.ge, .retAddr 1, .int 0, true)])
def aj_q18nn : List (Nat × Int32) × List Int × List aj_OS := ([], [18, 1, 1, 1], [.inr (.retAddr 100, 18, 18, true), .inl (.lt, .retAddr 1, .int 0, true), .inl (.lt, .retAddr 2, .int 0, true), .inl (.lt, .retAddr 1, .int 0, true)])
def aj_q18np : List (Nat × Int32) × List Int × List aj_OS := ([], [18, 1, 0, 1, 1], [.inr (.retAddr 100, 18, 18, true), .inl (.lt, .retAddr 1, .int 0, true), .inl (.lt, .retAddr 2, .int 0, false), .inl (.ge, .retAddr 2, .int 0, true), .inl (.lt, .retAddr 1, .int 0, true)])
def aj_q18pn : List (Nat × Int32) × List Int × List aj_OS := ([], [18, 0, 1, 1, 0, 1], [.inr (.retAddr 100, 18, 18, true), .inl (.lt, .retAddr 1, .int 0, false), .inl (.ge, .retAddr 1, .int 0, true), .inl (.lt, .retAddr 2, .int 0, true), .inl (.lt, .retAddr 1, .int 0, false), .inl (.ge, .retAddr 1, .int 0, true)])
def aj_q18pp : List (Nat × Int32) × List Int × List aj_OS := ([], [18, 0, 1, 0, 1, 0, 1], [.inr (.retAddr 100, 18, 18, true), .inl (.lt, .retAddr 1, .int 0, false), .inl (.ge, .retAddr 1, .int 0, true), .inl (.lt, .retAddr 2, .int 0, false), .inl (.ge, .retAddr 2, .int 0, true), .inl (.lt, .retAddr 1, .int 0, false), .inl (.ge, .retAddr 1, .int 0, true)])
def aj_q19_0 : List (Nat × Int32) × List Int × List aj_OS := ([], [19, 0, 0], [.inr (.retAddr 100, 19, 19, true), .inr (.retAddr 1, 0, 0, true), .inr (.retAddr 1, 0, 0, true)])
def aj_q19_1 : List (Nat × Int32) × List Int × List aj_OS := ([], [19, 1, 1], [.inr (.retAddr 100, 19, 19, true), .inr (.retAddr 1, 1, 1, true), .inr (.retAddr 1, 1, 1, true)])
def aj_q19_2 : List (Nat × Int32) × List Int × List aj_OS := ([], [19, 2, 2], [.inr (.retAddr 100, 19, 19, true), .inr (.retAddr 1, 2, 2, true), .inr (.retAddr 1, 2, 2, true)])
def aj_q19_3 : List (Nat × Int32) × List Int × List aj_OS := ([], [19, 3, 3], [.inr (.retAddr 100, 19, 19, true), .inr (.retAddr 1, 3, 3, true), .inr (.retAddr 1, 3, 3, true)])
def aj_q19_4 : List (Nat × Int32) × List Int × List aj_OS := ([], [19, 4, 4], [.inr (.retAddr 100, 19, 19, true), .inr (.retAddr 1, 4, 4, true), .inr (.retAddr 1, 4, 4, true)])
def aj_q19_5 : List (Nat × Int32) × List Int × List aj_OS := ([], [19, 5, 5], [.inr (.retAddr 100, 19, 19, true), .inr (.retAddr 1, 5, 5, true), .inr (.retAddr 1, 5, 5, true)])
def aj_q19_6 : List (Nat × Int32) × List Int × List aj_OS := ([], [19, 6, 6], [.inr (.retAddr 100, 19, 19, true), .inr (.retAddr 1, 6, 6, true), .inr (.retAddr 1, 6, 6, true)])
def aj_q19o : List (Nat × Int32) × List Int × List aj_OS := ([], [19, 7, 7], [.inr (.retAddr 100, 19, 19, true), .inr (.retAddr 1, 0, 6, false), .inr (.retAddr 1, 0, 6, false)])
def aj_q20 : List (Nat × Int32) × List Int × List aj_OS := ([], [20], [.inr (.retAddr 100, 0, 19, false)])
set_option maxRecDepth 1000000 in
theorem aj_qs2 : ([aj_q14nn, aj_q14nb, aj_q14nz, aj_q14pn, aj_q14pb, aj_q14pz, aj_q18nn, aj_q18np, aj_q18pn, aj_q18pp, aj_q19_0, aj_q19_1, aj_q19_2, aj_q19_3, aj_q19_4, aj_q19_5, aj_q19_6, aj_q19o, aj_q20] : List (List (Nat × Int32) × List Int × List aj_OS)).all (fun q => aj_chk q.1 q.2.1 q.2.2) = true := by decide +kernel
theorem aj_p14nn : aj_run2 aj_q14nn.1 aj_q14nn.2.1 = some aj_q14nn.2.2 := aj_chk_ok (List.all_eq_true.mp aj_qs2 aj_q14nn (List.mem_of_getElem? (i := 0) rfl))
theorem aj_p14nb : aj_run2 aj_q14nb.1 aj_q14nb.2.1 = some aj_q14nb.2.2 := aj_chk_ok (List.all_eq_true.mp aj_qs2 aj_q14nb (List.mem_of_getElem? (i := 1) rfl))
theorem aj_p14nz : aj_run2 aj_q14nz.1 aj_q14nz.2.1 = some aj_q14nz.2.2 := aj_chk_ok (List.all_eq_true.mp aj_qs2 aj_q14nz (List.mem_of_getElem? (i := 2) rfl))
theorem aj_p14pn : aj_run2 aj_q14pn.1 aj_q14pn.2.1 = some aj_q14pn.2.2 := aj_chk_ok (List.all_eq_true.mp aj_qs2 aj_q14pn (List.mem_of_getElem? (i := 3) rfl))
theorem aj_p14pb : aj_run2 aj_q14pb.1 aj_q14pb.2.1 = some aj_q14pb.2.2 := aj_chk_ok (List.all_eq_true.mp aj_qs2 aj_q14pb (List.mem_of_getElem? (i := 4) rfl))
theorem aj_p14pz : aj_run2 aj_q14pz.1 aj_q14pz.2.1 = some aj_q14pz.2.2 := aj_chk_ok (List.all_eq_true.mp aj_qs2 aj_q14pz (List.mem_of_getElem? (i := 5) rfl))
theorem aj_p18nn : aj_run2 aj_q18nn.1 aj_q18nn.2.1 = some aj_q18nn.2.2 := aj_chk_ok (List.all_eq_true.mp aj_qs2 aj_q18nn (List.mem_of_getElem? (i := 6) rfl))
theorem aj_p18np : aj_run2 aj_q18np.1 aj_q18np.2.1 = some aj_q18np.2.2 := aj_chk_ok (List.all_eq_true.mp aj_qs2 aj_q18np (List.mem_of_getElem? (i := 7) rfl))
theorem aj_p18pn : aj_run2 aj_q18pn.1 aj_q18pn.2.1 = some aj_q18pn.2.2 := aj_chk_ok (List.all_eq_true.mp aj_qs2 aj_q18pn (List.mem_of_getElem? (i := 8) rfl))
theorem aj_p18pp : aj_run2 aj_q18pp.1 aj_q18pp.2.1 = some aj_q18pp.2.2 := aj_chk_ok (List.all_eq_true.mp aj_qs2 aj_q18pp (List.mem_of_getElem? (i := 9) rfl))
theorem aj_p19_0 : aj_run2 aj_q19_0.1 aj_q19_0.2.1 = some aj_q19_0.2.2 := aj_chk_ok (List.all_eq_true.mp aj_qs2 aj_q19_0 (List.mem_of_getElem? (i := 10) rfl))
theorem aj_p19_1 : aj_run2 aj_q19_1.1 aj_q19_1.2.1 = some aj_q19_1.2.2 := aj_chk_ok (List.all_eq_true.mp aj_qs2 aj_q19_1 (List.mem_of_getElem? (i := 11) rfl))
theorem aj_p19_2 : aj_run2 aj_q19_2.1 aj_q19_2.2.1 = some aj_q19_2.2.2 := aj_chk_ok (List.all_eq_true.mp aj_qs2 aj_q19_2 (List.mem_of_getElem? (i := 12) rfl))
theorem aj_p19_3 : aj_run2 aj_q19_3.1 aj_q19_3.2.1 = some aj_q19_3.2.2 := aj_chk_ok (List.all_eq_true.mp aj_qs2 aj_q19_3 (List.mem_of_getElem? (i := 13) rfl))
theorem aj_p19_4 : aj_run2 aj_q19_4.1 aj_q19_4.2.1 = some aj_q19_4.2.2 := aj_chk_ok (List.all_eq_true.mp aj_qs2 aj_q19_4 (List.mem_of_getElem? (i := 14) rfl))
theorem aj_p19_5 : aj_run2 aj_q19_5.1 aj_q19_5.2.1 = some aj_q19_5.2.2 := aj_chk_ok (List.all_eq_true.mp aj_qs2 aj_q19_5 (List.mem_of_getElem? (i := 15) rfl))
theorem aj_p19_6 : aj_run2 aj_q19_6.1 aj_q19_6.2.1 = some aj_q19_6.2.2 := aj_chk_ok (List.all_eq_true.mp aj_qs2 aj_q19_6 (List.mem_of_getElem? (i := 16) rfl))
theorem aj_p19o : aj_run2 aj_q19o.1 aj_q19o.2.1 = some aj_q19o.2.2 := aj_chk_ok (List.all_eq_true.mp aj_qs2 aj_q19o (List.mem_of_getElem? (i := 17) rfl))
theorem aj_p20 : aj_run2 aj_q20.1 aj_q20.2.1 = some aj_q20.2.2 := aj_chk_ok (List.all_eq_true.mp aj_qs2 aj_q20 (List.mem_of_getElem? (i := 18) rfl))
end
section
/-! STEPS OF THE ABSTRACT MACHINE BY HAND: one lemma an instruction that reads or writes the heap; all others by 'aj_tn .. rfl' -/
def aj_TF (rc : Nat) (cls : List aj_C) (tb : aj_T) (m : aj_M) (isI deep : Bool) (call : Nat → List Value → aj_H → Nat → Nat → Option Value → aj_H → Prop) (pc : Nat) (lv : aj_V) (st : List Value) (h : aj_H) (kc ks mc ms : Nat) (r : Option Value) (hF : aj_H) : Prop := ∃ n, aj_frm rc cls tb m isI deep call n pc lv st h kc ks mc ms r hF
section AJHAND
variable {rc : Nat} {cls : List aj_C} {tb : aj_T} {m : aj_M} {isI deep : Bool} {call : Nat → List Value → aj_H → Nat → Nat → Option Value → aj_H → Prop} {pc : Nat} {lv : aj_V} {st : List Value} {h : aj_H} {kc ks mc ms : Nat} {r : Option Value} {hF : aj_H} {ct : List (Nat × Instr × Nat)}
theorem aj_tn (hct : aj_ctOK ct m.2.1) (hk : kc ≤ mc ∧ ks ≤ ms) {i : Instr} {len : Nat} (hd : aj_ct ct pc = some (i, len)) {pc' : Nat} {lv' : aj_V} {st' : List Value} {h' : aj_H} (hs : aj_step rc cls tb m.2.2.2.2.2.1 m.2.2.1 m.2.2.2.1 isI i len pc lv st h = some (.inl ((pc', lv', st'), h', 0, 0))) (k : aj_TF rc cls tb m isI deep call pc' lv' st' h' kc ks mc ms r hF) : aj_TF rc cls tb m isI deep call pc lv st h kc ks mc ms r hF := by
  obtain ⟨n, hn⟩ := k
  refine ⟨n + 1, ?_⟩
  unfold aj_frm
  rw [aj_ct_ok hct hd]
  dsimp only
  rw [hs]
  exact ⟨hk.1, hk.2, hn⟩
/-- getfield -/
theorem aj_tg (hct : aj_ctOK ct m.2.1) (hk : kc ≤ mc ∧ ks ≤ ms) {idx : Nat} (hd : aj_ct ct pc = some (.getfield idx, 3)) {kind ci k : Nat} {fin : Int} (hl : aj_link m.2.2.2.2.2.1 idx = some (kind, ci, k, fin)) (hk2 : kind < 2) {a : Nat} {fs : List Value} {rest : List Value} (ho : aj_obj tb h a = some (ci, fs)) {v : Value} (hv : fs[k]? = some v) (kk : aj_TF rc cls tb m isI deep call (pc + 3) lv (v :: rest) h kc ks mc ms r hF) : aj_TF rc cls tb m isI deep call pc lv (.ref a :: rest) h kc ks mc ms r hF := by
  refine aj_tn hct hk hd ?_ kk
  unfold aj_step
  dsimp only
  rw [if_pos rfl]
  simp only [aj_getf, hl, ho, hv]
  exact if_pos ⟨hk2, trivial⟩
/-- putfield -/
theorem aj_tp (hct : aj_ctOK ct m.2.1) (hk : kc ≤ mc ∧ ks ≤ ms) {idx : Nat} (hd : aj_ct ct pc = some (.putfield idx, 3)) {kind ci k : Nat} {fin : Int} (hl : aj_link m.2.2.2.2.2.1 idx = some (kind, ci, k, fin)) (hk2 : kind < 2) (hfin : fin = 0 ∨ (fin = 1 ∧ kind = 0 ∧ isI = true)) {a : Nat} {fs : List Value} {rest : List Value} {v : Value} (ho : aj_obj tb h a = some (ci, fs)) {q : aj_C} (hc : cls[ci]? = some q) (hlen : k < fs.length) (hf : aj_fit (q.2.2.2 k) v = true) (kk : aj_TF rc cls tb m isI deep call (pc + 3) lv rest (h.set (a - tb.length) (.inr (ci, fs.set k v))) kc ks mc ms r hF) : aj_TF rc cls tb m isI deep call pc lv (v :: .ref a :: rest) h kc ks mc ms r hF := by
  refine aj_tn hct hk hd ?_ kk
  unfold aj_step
  dsimp only
  rw [if_pos rfl]
  obtain ⟨q1, q2, q3, q4⟩ := q
  simp only [aj_putf, hl, ho, hc]
  exact if_pos ⟨hk2, trivial, hlen, hf, hfin⟩
/-- a load from an array of ints, booleans, chars, bytes -/
theorem aj_ta (hct : aj_ctOK ct m.2.1) (hk : kc ≤ mc ∧ ks ≤ ms) {i : Instr} {kd : Nat} (hi : i = .iaload ∧ kd = 0 ∨ i = .caload ∧ kd = 3 ∨ i = .baload ∧ kd = 2 ∨ i = .baload ∧ kd = 4) (hd : aj_ct ct pc = some (i, 1)) {a n : Nat} {f : Nat → Int32} {x : Int32} {rest : List Value} (ha : aj_arr tb h a = some (kd, n, .inl f)) (hx : aj_in x n = true) (kk : aj_TF rc cls tb m isI deep call (pc + 1) lv (.int (f x.toNatClampNeg) :: rest) h kc ks mc ms r hF) : aj_TF rc cls tb m isI deep call pc lv (.int x :: .ref a :: rest) h kc ks mc ms r hF := by
  refine aj_tn hct hk hd ?_ kk
  rcases hi with ⟨rfl, rfl⟩ | ⟨rfl, rfl⟩ | ⟨rfl, rfl⟩ | ⟨rfl, rfl⟩
  all_goals (unfold aj_step; dsimp only; rw [if_pos rfl])
  · simp only [aj_ald, ha]
    exact if_pos ⟨trivial, hx⟩
  · simp only [aj_ald, ha]
    exact if_pos ⟨trivial, hx⟩
  · simp only [aj_bld, aj_ald, ha]
    exact if_pos ⟨trivial, hx⟩
  · simp only [aj_bld, aj_ald, ha]
    exact if_pos ⟨trivial, hx⟩
/-- a store into an array of ints, booleans, chars, bytes -/
theorem aj_ts (hct : aj_ctOK ct m.2.1) (hk : kc ≤ mc ∧ ks ≤ ms) {i : Instr} {kd : Nat} (hi : i = .iastore ∧ kd = 0 ∨ i = .castore ∧ kd = 3 ∨ i = .bastore ∧ kd = 2 ∨ i = .bastore ∧ kd = 4) (hd : aj_ct ct pc = some (i, 1)) {a n : Nat} {f : Nat → Int32} {x v : Int32} {rest : List Value} (hr : ¬ a < tb.length) (ha : h[a - tb.length]? = some (.inl (kd, n, .inl f))) (hx : aj_in x n = true) (kk : aj_TF rc cls tb m isI deep call (pc + 1) lv rest (h.set (a - tb.length) (.inl (kd, n, .inl (upd f x.toNatClampNeg (aj_nar kd v))))) kc ks mc ms r hF) : aj_TF rc cls tb m isI deep call pc lv (.int v :: .int x :: .ref a :: rest) h kc ks mc ms r hF := by
  refine aj_tn hct hk hd ?_ kk
  rcases hi with ⟨rfl, rfl⟩ | ⟨rfl, rfl⟩ | ⟨rfl, rfl⟩ | ⟨rfl, rfl⟩
  all_goals (unfold aj_step; dsimp only; rw [if_pos rfl])
  · simp only [aj_ast, if_neg hr, ha]
    exact if_pos ⟨trivial, hx⟩
  · simp only [aj_ast, if_neg hr, ha]
    exact if_pos ⟨trivial, hx⟩
  · simp only [aj_bst, aj_ast, if_neg hr, ha]
    exact if_pos ⟨trivial, hx⟩
  · simp only [aj_bst, aj_ast, if_neg hr, ha]
    exact if_pos ⟨trivial, hx⟩
/-- arraylength -/
theorem aj_tl (hct : aj_ctOK ct m.2.1) (hk : kc ≤ mc ∧ ks ≤ ms) (hd : aj_ct ct pc = some (.arraylength, 1)) {a kd n : Nat} {x : (Nat → Int32) ⊕ (Nat → Int64) ⊕ (Nat → UInt32) ⊕ (Nat → UInt64) ⊕ (Nat → Option Nat)} {rest : List Value} (ha : aj_arr tb h a = some (kd, n, x)) (hkd : kd < 6) (kk : aj_TF rc cls tb m isI deep call (pc + 1) lv (.int (Int32.ofNat n) :: rest) h kc ks mc ms r hF) : aj_TF rc cls tb m isI deep call pc lv (.ref a :: rest) h kc ks mc ms r hF := by
  refine aj_tn hct hk hd ?_ kk
  unfold aj_step
  dsimp only
  rw [if_pos rfl]
  simp only [aj_alen, ha]
  exact if_pos hkd
/-- if_icmp, if -/
theorem aj_tc (hct : aj_ctOK ct m.2.1) (hk : kc ≤ mc ∧ ks ≤ ms) {c : ClassFile.Cond} {off : Int} {tgt : Nat} (hd : aj_ct ct pc = some (.if_icmp c off, 3)) (ht : (pc : Int) + off = (tgt : Int)) {x y : Int32} {rest : List Value} (k1 : aj_test c x y = true → aj_TF rc cls tb m isI deep call tgt lv rest h kc ks mc ms r hF) (k2 : aj_test c x y = false → aj_TF rc cls tb m isI deep call (pc + 3) lv rest h kc ks mc ms r hF) : aj_TF rc cls tb m isI deep call pc lv (.int y :: .int x :: rest) h kc ks mc ms r hF := by
  cases hb : aj_test c x y with
  | true =>
    refine aj_tn hct hk hd ?_ (k1 hb)
    unfold aj_step
    dsimp only
    rw [if_pos rfl]
    simp only [aj_br, hb, if_true, ht, Int.toNat_natCast, aj_go]
    exact if_pos (Int.natCast_nonneg _)
  | false =>
    refine aj_tn hct hk hd ?_ (k2 hb)
    unfold aj_step
    dsimp only
    rw [if_pos rfl]
    simp only [aj_br, hb, if_pos (show 0 ≤ (pc : Int) + off by omega), aj_go]
    rfl
theorem aj_tz (hct : aj_ctOK ct m.2.1) (hk : kc ≤ mc ∧ ks ≤ ms) {c : ClassFile.Cond} {off : Int} {tgt : Nat} (hd : aj_ct ct pc = some (.ifCond c off, 3)) (ht : (pc : Int) + off = (tgt : Int)) {x : Int32} {rest : List Value} (k1 : aj_test c x 0 = true → aj_TF rc cls tb m isI deep call tgt lv rest h kc ks mc ms r hF) (k2 : aj_test c x 0 = false → aj_TF rc cls tb m isI deep call (pc + 3) lv rest h kc ks mc ms r hF) : aj_TF rc cls tb m isI deep call pc lv (.int x :: rest) h kc ks mc ms r hF := by
  cases hb : aj_test c x 0 with
  | true =>
    refine aj_tn hct hk hd ?_ (k1 hb)
    unfold aj_step
    dsimp only
    rw [if_pos rfl]
    simp only [aj_br, hb, if_true, ht, Int.toNat_natCast, aj_go]
    exact if_pos (Int.natCast_nonneg _)
  | false =>
    refine aj_tn hct hk hd ?_ (k2 hb)
    unfold aj_step
    dsimp only
    rw [if_pos rfl]
    simp only [aj_br, hb, if_pos (show 0 ≤ (pc : Int) + off by omega), aj_go]
    rfl
/-- a call -/
theorem aj_tk (hct : aj_ctOK ct m.2.1) {i : Instr} {len : Nat} (hd : aj_ct ct pc = some (i, len)) {kind mi : Nat} {as : List Value} {pc' : Nat} {lv' : aj_V} {st' : List Value} (hs : aj_step rc cls tb m.2.2.2.2.2.1 m.2.2.1 m.2.2.2.1 isI i len pc lv st h = some (.inr (.inl (kind, mi, as, (pc', lv', st'))))) (hdeep : deep = true) (h5 : kind ≠ 5) {mc' ms' : Nat} {r' : Option Value} {h' : aj_H} (hc : call mi as h mc' ms' r' h') (hlen : h'.length = h.length + mc') (hk : kc + mc' ≤ mc ∧ ks + ms' ≤ ms) (kk : aj_TF rc cls tb m isI deep call pc' lv' (r'.toList ++ st') h' (kc + mc') (ks + ms') mc ms r hF) : aj_TF rc cls tb m isI deep call pc lv st h kc ks mc ms r hF := by
  obtain ⟨n, hn⟩ := kk
  refine ⟨n + 1, ?_⟩
  unfold aj_frm
  rw [aj_ct_ok hct hd]
  dsimp only
  rw [hs]
  exact ⟨hdeep, Or.inr ⟨h5, mc', ms', r', h', hc, hlen, hk.1, hk.2, hn⟩⟩
/-- a call of an object's method -/
theorem aj_tiv (hct : aj_ctOK ct m.2.1) {idx mi n : Nat} {v : Int} (hd : aj_ct ct pc = some (.invokevirtual idx, 3)) (hl : aj_link m.2.2.2.2.2.1 idx = some (2, mi, n, v)) (args : List Value) {b ci : Nat} {fs rest : List Value} (hst : st = args ++ .ref b :: rest) (hn : args.length = n) (ho : aj_obj tb h b = some (ci, fs)) (hci : ci = v.toNat) (hsum : aj_sum rest ≤ 8) (hdeep : deep = true) {mc' ms' : Nat} {r' : Option Value} {h' : aj_H} (hc : call mi (.ref b :: args.reverse) h mc' ms' r' h') (hlen : h'.length = h.length + mc') (hk : kc + mc' ≤ mc ∧ ks + ms' ≤ ms) (kk : aj_TF rc cls tb m isI deep call (pc + 3) lv (r'.toList ++ rest) h' (kc + mc') (ks + ms') mc ms r hF) : aj_TF rc cls tb m isI deep call pc lv st h kc ks mc ms r hF := by
  refine aj_tk hct hd ?_ hdeep (kind := 2) (by decide) hc hlen hk kk
  subst hst
  subst hn
  unfold aj_step
  dsimp only
  rw [if_pos rfl]
  have e1 : (args ++ .ref b :: rest).drop args.length = .ref b :: rest := by simp
  have e2 : (args ++ .ref b :: rest).take args.length = args := by simp
  have e3 : aj_rcv tb h b v = true := by
    unfold aj_rcv
    rw [ho]
    simp [hci]
  simp only [aj_call, hl, e1, e2]
  rw [if_pos ⟨Nat.le_refl _, Nat.le_refl _⟩, if_neg (by decide)]
  exact if_pos ⟨fun _ => e3, hsum⟩
/-- an end -/
theorem aj_te (hct : aj_ctOK ct m.2.1) {i : Instr} {len : Nat} (hd : aj_ct ct pc = some (i, len)) {v : Option Value} (hs : aj_step rc cls tb m.2.2.2.2.2.1 m.2.2.1 m.2.2.2.1 isI i len pc lv st h = some (.inr (.inr v))) : aj_TF rc cls tb m isI deep call pc lv st h mc ks mc ms v h := by
  refine ⟨1, ?_⟩
  unfold aj_frm
  rw [aj_ct_ok hct hd]
  dsimp only
  rw [hs]
  exact ⟨rfl, rfl, rfl⟩
end AJHAND
end
section
/-! feed of the class and of the reference -/
def aj_mPut : aj_M := (⟨"DimShelf", "put", "(I)V"⟩, aj_bc 665, 3, none, 1, aj_lk0, "DimShelf")
def aj_mFeed : aj_M := (⟨"DimShelf", "feed", "(IIIII)I"⟩, aj_bc 661, 6, some .int, 5, aj_lk0, "DimShelf")
def aj_mByteRow : aj_M := (⟨"DimShelfModel", "byteRow", "(I)V"⟩, aj_bc 1781, 3, none, 1, aj_lk14, "DimShelfModel")
def aj_mFeedM : aj_M := (⟨"DimShelfModel", "feed", "(IIIII)I"⟩, aj_bc 1777, 6, some .int, 5, aj_lk14, "DimShelfModel")
theorem aj_mPut_at : aj_mt[17]? = some aj_mPut := rfl
theorem aj_mFeed_at : aj_mt[16]? = some aj_mFeed := rfl
theorem aj_mByteRow_at : aj_mt[201]? = some aj_mByteRow := rfl
theorem aj_mFeedM_at : aj_mt[200]? = some aj_mFeedM := rfl
theorem aj_ctPut : aj_ctOK aj_c17 aj_mPut.2.1 := by
  unfold aj_mPut
  dsimp only
  exact aj_dk17
theorem aj_ctFeed : aj_ctOK aj_c16 aj_mFeed.2.1 := by
  unfold aj_mFeed
  dsimp only
  exact aj_dk16
theorem aj_ctByteRow : aj_ctOK aj_c201 aj_mByteRow.2.1 := by
  unfold aj_mByteRow
  dsimp only
  exact aj_dk201
theorem aj_ctFeedM : aj_ctOK aj_c200 aj_mFeedM.2.1 := by
  unfold aj_mFeedM
  dsimp only
  exact aj_dk200
/-- an object's cell and an array's of the list h, the object with field k at v, the array with contents f -/
def aj_hp (h : aj_H) (oi ti ci kd n k : Nat) (fs : List Value) (v : Int32) (f : Nat → Int32) : aj_H := (h.set ti (.inl (kd, n, .inl f))).set oi (.inr (ci, fs.set k (.int v)))
theorem aj_hp_o {h : aj_H} {oi ti ci kd n k : Nat} {fs : List Value} {v : Int32} {f : Nat → Int32} (ho : oi < h.length) : (aj_hp h oi ti ci kd n k fs v f)[oi]? = some (.inr (ci, fs.set k (.int v))) := by
  simp [aj_hp, List.getElem?_set, ho]
theorem aj_hp_t {h : aj_H} {oi ti ci kd n k : Nat} {fs : List Value} {v : Int32} {f : Nat → Int32} (ht : ti < h.length) (hne : oi ≠ ti) : (aj_hp h oi ti ci kd n k fs v f)[ti]? = some (.inl (kd, n, .inl f)) := by
  simp [aj_hp, List.getElem?_set, ht, hne]
theorem aj_hp_so {h : aj_H} {oi ti ci kd n k : Nat} {fs : List Value} {v w : Int32} {f : Nat → Int32} : (aj_hp h oi ti ci kd n k fs v f).set oi (.inr (ci, (fs.set k (.int v)).set k (.int w))) = aj_hp h oi ti ci kd n k fs w f := by
  simp [aj_hp, List.set_set]
theorem aj_hp_st {h : aj_H} {oi ti ci kd n k : Nat} {fs : List Value} {v : Int32} {f g : Nat → Int32} (hne : oi ≠ ti) : (aj_hp h oi ti ci kd n k fs v f).set ti (.inl (kd, n, .inl g)) = aj_hp h oi ti ci kd n k fs v g := by
  unfold aj_hp
  rw [List.set_comm _ _ hne, List.set_set]
theorem aj_hp_len {h : aj_H} {oi ti ci kd n k : Nat} {fs : List Value} {v : Int32} {f : Nat → Int32} : (aj_hp h oi ti ci kd n k fs v f).length = h.length := by simp [aj_hp]
theorem aj_in_nI {b n : Nat} (h : b < n) (h2 : b < 2 ^ 31) : aj_in (nI b) n = true := by
  unfold aj_in
  rw [nI_clamp h2]
  have h3 := nI_pos h2
  simp [h3, h]
theorem aj_hp_id {h : aj_H} {oi ti ci kd n k : Nat} {fs : List Value} {v : Int32} {f : Nat → Int32} (ho : h[oi]? = some (.inr (ci, fs))) (ht : h[ti]? = some (.inl (kd, n, .inl f))) (hk : fs[k]? = some (.int v)) : aj_hp h oi ti ci kd n k fs v f = h := by
  have e1 : fs.set k (.int v) = fs := by
    apply List.ext_getElem?
    intro j
    rw [List.getElem?_set]
    by_cases hj : k = j
    · subst hj
      rw [if_pos rfl, if_pos (List.getElem?_eq_some_iff.mp hk).1, hk]
    · simp [hj]
  unfold aj_hp
  rw [e1]
  apply List.ext_getElem?
  intro j
  simp only [List.getElem?_set, List.length_set]
  have l1 := (List.getElem?_eq_some_iff.mp ho).1
  have l2 := (List.getElem?_eq_some_iff.mp ht).1
  by_cases h1 : oi = j
  · subst h1
    rw [if_pos rfl, if_pos l1, ho]
  · by_cases h2 : ti = j
    · subst h2
      rw [if_neg h1, if_pos rfl, if_pos l2, ht]
    · simp [h1, h2]
section AJFEED
variable {tb : aj_T} {call : Nat → List Value → aj_H → Nat → Nat → Option Value → aj_H → Prop} {h : aj_H} {mc ms : Nat} {r : Option Value} {hF : aj_H} {deep : Bool}
/-- what put stores, byteRow stores -/
def aj_chr (w s : Int32) : Int32 := aj_nar 3 (((w >>> (s &&& 31)) &&& (Int16.ofInt 255).toInt32).toUInt32 % 65536).toInt32
def aj_byt (w s : Int32) : Int32 := aj_nar 4 ((w.toUInt32 >>> (((Int8.ofInt 8).toInt32 * s).toUInt32 &&& Int32.toUInt32 31)).toInt32).toInt8.toInt32
/-- one byte of put's loop -/
theorem aj_put1 (oi ti : Nat) (fs : List Value) (b : Nat) (f : Nat → Int32) (w s : Int32) (hs : aj_test .lt s 0 = false) (ho : oi < h.length) (ht : ti < h.length) (hne : oi ≠ ti) (hf0 : fs[0]? = some (.ref (tb.length + ti))) (hf1 : 1 < fs.length) (hb : b < 4000)
    (kk : aj_TF aj_rc aj_cls tb aj_mPut false deep call 3 [(2, .int (s + Int32.ofInt (-8))), (0, .ref (tb.length + oi)), (1, .int w)] [] (aj_hp h oi ti 10 3 4000 1 fs (nI (b + 1)) (upd f (nI b).toNatClampNeg (aj_chr w s))) 0 0 0 0 r hF) :
    aj_TF aj_rc aj_cls tb aj_mPut false deep call 3 [(2, .int s), (0, .ref (tb.length + oi)), (1, .int w)] [] (aj_hp h oi ti 10 3 4000 1 fs (nI b) f) 0 0 0 0 r hF := by
  have hk : 0 ≤ 0 ∧ 0 ≤ 0 := ⟨Nat.le_refl _, Nat.le_refl _⟩
  have e1 : ¬ tb.length + oi < tb.length := by omega
  have e2 : ¬ tb.length + ti < tb.length := by omega
  have eo : tb.length + oi - tb.length = oi := by omega
  have et : tb.length + ti - tb.length = ti := by omega
  have hobj : ∀ (v : Int32) (g : Nat → Int32), aj_obj tb (aj_hp h oi ti 10 3 4000 1 fs v g) (tb.length + oi) = some (10, fs.set 1 (.int v)) := fun v g => by
    unfold aj_obj
    rw [if_neg e1, eo, aj_hp_o ho]
  have harr : ∀ (v : Int32) (g : Nat → Int32), aj_arr tb (aj_hp h oi ti 10 3 4000 1 fs v g) (tb.length + ti) = some (3, 4000, .inl g) := fun v g => by
    unfold aj_arr
    rw [if_neg e2, et, aj_hp_t ht hne]
  have hv0 : ∀ v : Int32, (fs.set 1 (.int v))[0]? = some (.ref (tb.length + ti)) := fun v => by simp [List.getElem?_set, hf0]
  have hv1 : ∀ v : Int32, (fs.set 1 (.int v))[1]? = some (.int v) := fun v => by simp [List.getElem?_set, hf1]
  refine aj_tn aj_ctPut hk rfl rfl ?_
  refine aj_tz (tgt := 52) aj_ctPut hk rfl rfl (fun z => by rw [hs] at z; cases z) (fun _ => ?_)
  refine aj_tn aj_ctPut hk rfl rfl ?_
  refine aj_tg aj_ctPut hk rfl rfl (by decide) (hobj _ _) (hv1 _) ?_
  refine aj_tn aj_ctPut hk rfl rfl ?_
  refine aj_tg aj_ctPut hk rfl rfl (by decide) (hobj _ _) (hv0 _) ?_
  refine aj_tl aj_ctPut hk rfl (harr _ _) (by decide) ?_
  refine aj_tc (tgt := 46) aj_ctPut hk rfl rfl (fun z => ?_) (fun _ => ?_)
  · exfalso
    have z : decide ((Int32.ofNat 4000) ≤ nI b) = true := z
    exact nI_ge hb (by decide) (of_decide_eq_true z)
  refine aj_tn aj_ctPut hk rfl rfl ?_
  refine aj_tg aj_ctPut hk rfl rfl (by decide) (hobj _ _) (hv0 _) ?_
  refine aj_tn aj_ctPut hk rfl rfl ?_
  refine aj_tg aj_ctPut hk rfl rfl (by decide) (hobj _ _) (hv1 _) ?_
  refine aj_tn aj_ctPut hk rfl rfl ?_
  refine aj_tn aj_ctPut hk rfl rfl ?_
  refine aj_tn aj_ctPut hk rfl rfl ?_
  refine aj_tn aj_ctPut hk rfl rfl ?_
  refine aj_tn aj_ctPut hk rfl rfl ?_
  refine aj_tn aj_ctPut hk rfl rfl ?_
  refine aj_ts aj_ctPut hk (Or.inr (Or.inl ⟨rfl, rfl⟩)) rfl e2 (by rw [et]; exact aj_hp_t ht hne) (aj_in_nI hb (by omega)) ?_
  rw [et, aj_hp_st hne]
  refine aj_tn aj_ctPut hk rfl rfl ?_
  refine aj_tn aj_ctPut hk rfl rfl ?_
  refine aj_tg aj_ctPut hk rfl rfl (by decide) (hobj _ _) (hv1 _) ?_
  refine aj_tn aj_ctPut hk rfl rfl ?_
  refine aj_tn aj_ctPut hk rfl rfl ?_
  refine aj_tp (q := ("DimShelf", aj_T10, 14, aj_F10)) aj_ctPut hk rfl rfl (by decide) (Or.inl rfl) (hobj _ _) rfl (by simpa using hf1) rfl ?_
  rw [eo, aj_hp_so]
  refine aj_tn aj_ctPut hk rfl rfl ?_
  refine aj_tn aj_ctPut hk rfl rfl ?_
  have e9 : (fun x y : Int32 => x + y) (nI b) (Int32.ofInt 1) = nI (b + 1) := nI_1 b
  rw [e9]
  exact kk
def aj_w4 (ch : Int32 → Int32) (s dl : Int32) (f : Nat → Int32) (b : Nat) : Nat → Int32 := upd (upd (upd (upd f (nI b).toNatClampNeg (ch s)) (nI (b + 1)).toNatClampNeg (ch (s + dl))) (nI (b + 2)).toNatClampNeg (ch (s + dl + dl))) (nI (b + 3)).toNatClampNeg (ch (s + dl + dl + dl))
theorem aj_put_ok (d oi ti : Nat) (fs : List Value) (b : Nat) (f : Nat → Int32) (w : Int32) (ho : oi < h.length) (ht : ti < h.length) (hne : oi ≠ ti) (hf0 : fs[0]? = some (.ref (tb.length + ti))) (hf1 : 1 < fs.length) (hb : b + 4 ≤ 4000) :
    ∃ g, aj_runs aj_rc aj_cls tb aj_mt (d + 1) 17 [.ref (tb.length + oi), .int w] (aj_hp h oi ti 10 3 4000 1 fs (nI b) f) 0 0 none (aj_hp h oi ti 10 3 4000 1 fs (nI (b + 4)) g) := by
  have hk : 0 ≤ 0 ∧ 0 ≤ 0 := ⟨Nat.le_refl _, Nat.le_refl _⟩
  refine ⟨aj_w4 (aj_chr w) (Int8.ofInt 24).toInt32 (Int32.ofInt (-8)) f b, aj_mPut, aj_mPut_at, Nat.le_of_ble_eq_true rfl, ?_⟩
  show aj_TF aj_rc aj_cls tb aj_mPut false true (aj_runs aj_rc aj_cls tb aj_mt d) 0 [(0, .ref (tb.length + oi)), (1, .int w)] [] _ 0 0 0 0 none _
  refine aj_tn aj_ctPut hk rfl rfl ?_
  refine aj_tn aj_ctPut hk rfl rfl ?_
  refine aj_put1 oi ti fs b f w _ rfl ho ht hne hf0 hf1 (by omega) ?_
  refine aj_put1 oi ti fs (b + 1) _ w _ rfl ho ht hne hf0 hf1 (by omega) ?_
  refine aj_put1 oi ti fs (b + 2) _ w _ rfl ho ht hne hf0 hf1 (by omega) ?_
  refine aj_put1 oi ti fs (b + 3) _ w _ rfl ho ht hne hf0 hf1 (by omega) ?_
  refine aj_tn aj_ctPut hk rfl rfl ?_
  refine aj_tz (tgt := 52) aj_ctPut hk rfl rfl (fun _ => ?_) (fun z => by exact absurd z (by decide))
  exact aj_te aj_ctPut rfl rfl
theorem aj_row1 (oi ti : Nat) (fs : List Value) (b : Nat) (f : Nat → Int32) (w s : Int32) (hs : aj_test .lt s 0 = false) (ho : oi < h.length) (ht : ti < h.length) (hne : oi ≠ ti) (hf0 : fs[22]? = some (.ref (tb.length + ti))) (hf1 : 23 < fs.length) (hb : b < 4000)
    (kk : aj_TF aj_rc aj_cls tb aj_mByteRow false deep call 2 [(2, .int (s + Int32.ofInt (-1))), (0, .ref (tb.length + oi)), (1, .int w)] [] (aj_hp h oi ti 11 4 4000 23 fs (nI (b + 1)) (upd f (nI b).toNatClampNeg (aj_byt w s))) 0 0 0 0 r hF) :
    aj_TF aj_rc aj_cls tb aj_mByteRow false deep call 2 [(2, .int s), (0, .ref (tb.length + oi)), (1, .int w)] [] (aj_hp h oi ti 11 4 4000 23 fs (nI b) f) 0 0 0 0 r hF := by
  have hk : 0 ≤ 0 ∧ 0 ≤ 0 := ⟨Nat.le_refl _, Nat.le_refl _⟩
  have e1 : ¬ tb.length + oi < tb.length := by omega
  have e2 : ¬ tb.length + ti < tb.length := by omega
  have eo : tb.length + oi - tb.length = oi := by omega
  have et : tb.length + ti - tb.length = ti := by omega
  have hobj : ∀ (v : Int32) (g : Nat → Int32), aj_obj tb (aj_hp h oi ti 11 4 4000 23 fs v g) (tb.length + oi) = some (11, fs.set 23 (.int v)) := fun v g => by
    unfold aj_obj
    rw [if_neg e1, eo, aj_hp_o ho]
  have hv0 : ∀ v : Int32, (fs.set 23 (.int v))[22]? = some (.ref (tb.length + ti)) := fun v => by simp [List.getElem?_set, hf0]
  have hv1 : ∀ v : Int32, (fs.set 23 (.int v))[23]? = some (.int v) := fun v => by simp [List.getElem?_set, hf1]
  refine aj_tn aj_ctByteRow hk rfl rfl ?_
  refine aj_tz (tgt := 38) aj_ctByteRow hk rfl rfl (fun z => by rw [hs] at z; cases z) (fun _ => ?_)
  refine aj_tn aj_ctByteRow hk rfl rfl ?_
  refine aj_tg aj_ctByteRow hk rfl rfl (by decide) (hobj _ _) (hv0 _) ?_
  refine aj_tn aj_ctByteRow hk rfl rfl ?_
  refine aj_tg aj_ctByteRow hk rfl rfl (by decide) (hobj _ _) (hv1 _) ?_
  refine aj_tn aj_ctByteRow hk rfl rfl ?_
  refine aj_tn aj_ctByteRow hk rfl rfl ?_
  refine aj_tn aj_ctByteRow hk rfl rfl ?_
  refine aj_tn aj_ctByteRow hk rfl rfl ?_
  refine aj_tn aj_ctByteRow hk rfl rfl ?_
  refine aj_tn aj_ctByteRow hk rfl rfl ?_
  refine aj_ts aj_ctByteRow hk (Or.inr (Or.inr (Or.inr ⟨rfl, rfl⟩))) rfl e2 (by rw [et]; exact aj_hp_t ht hne) (aj_in_nI hb (by omega)) ?_
  rw [et, aj_hp_st hne]
  refine aj_tn aj_ctByteRow hk rfl rfl ?_
  refine aj_tn aj_ctByteRow hk rfl rfl ?_
  refine aj_tg aj_ctByteRow hk rfl rfl (by decide) (hobj _ _) (hv1 _) ?_
  refine aj_tn aj_ctByteRow hk rfl rfl ?_
  refine aj_tn aj_ctByteRow hk rfl rfl ?_
  refine aj_tp (q := ("DimShelfModel", aj_T11, 72, aj_F11)) aj_ctByteRow hk rfl rfl (by decide) (Or.inl rfl) (hobj _ _) rfl (by simpa using hf1) rfl ?_
  rw [eo, aj_hp_so]
  refine aj_tn aj_ctByteRow hk rfl rfl ?_
  refine aj_tn aj_ctByteRow hk rfl rfl ?_
  have e9 : (fun x y : Int32 => x + y) (nI b) (Int32.ofInt 1) = nI (b + 1) := nI_1 b
  rw [e9]
  exact kk
theorem aj_row_ok (d oi ti : Nat) (fs : List Value) (b : Nat) (f : Nat → Int32) (w : Int32) (ho : oi < h.length) (ht : ti < h.length) (hne : oi ≠ ti) (hf0 : fs[22]? = some (.ref (tb.length + ti))) (hf1 : 23 < fs.length) (hb : b + 4 ≤ 4000) :
    ∃ g, aj_runs aj_rc aj_cls tb aj_mt (d + 1) 201 [.ref (tb.length + oi), .int w] (aj_hp h oi ti 11 4 4000 23 fs (nI b) f) 0 0 none (aj_hp h oi ti 11 4 4000 23 fs (nI (b + 4)) g) := by
  have hk : 0 ≤ 0 ∧ 0 ≤ 0 := ⟨Nat.le_refl _, Nat.le_refl _⟩
  refine ⟨aj_w4 (aj_byt w) (Int32.ofInt 3) (Int32.ofInt (-1)) f b, aj_mByteRow, aj_mByteRow_at, Nat.le_of_ble_eq_true rfl, ?_⟩
  show aj_TF aj_rc aj_cls tb aj_mByteRow false true (aj_runs aj_rc aj_cls tb aj_mt d) 0 [(0, .ref (tb.length + oi)), (1, .int w)] [] _ 0 0 0 0 none _
  refine aj_tn aj_ctByteRow hk rfl rfl ?_
  refine aj_tn aj_ctByteRow hk rfl rfl ?_
  refine aj_row1 oi ti fs b f w _ rfl ho ht hne hf0 hf1 (by omega) ?_
  refine aj_row1 oi ti fs (b + 1) _ w _ rfl ho ht hne hf0 hf1 (by omega) ?_
  refine aj_row1 oi ti fs (b + 2) _ w _ rfl ho ht hne hf0 hf1 (by omega) ?_
  refine aj_row1 oi ti fs (b + 3) _ w _ rfl ho ht hne hf0 hf1 (by omega) ?_
  refine aj_tn aj_ctByteRow hk rfl rfl ?_
  refine aj_tz (tgt := 38) aj_ctByteRow hk rfl rfl (fun _ => ?_) (fun z => by exact absurd z (by decide))
  exact aj_te aj_ctByteRow rfl rfl
theorem aj_feed_ok (d oi ti : Nat) (fs : List Value) (b : Nat) (f : Nat → Int32) (w1 w2 w3 w4 w5 : Int32) (ho : oi < h.length) (ht : ti < h.length) (hne : oi ≠ ti) (hf0 : fs[0]? = some (.ref (tb.length + ti))) (hf1 : 1 < fs.length) (hb : b + 20 ≤ 4000) :
    ∃ g, aj_runs aj_rc aj_cls tb aj_mt (d + 2) 16 [.ref (tb.length + oi), .int w1, .int w2, .int w3, .int w4, .int w5] (aj_hp h oi ti 10 3 4000 1 fs (nI b) f) 0 0 (some (.int (nI (b + 20)))) (aj_hp h oi ti 10 3 4000 1 fs (nI (b + 20)) g) := by
  have hk : 0 ≤ 0 ∧ 0 ≤ 0 := ⟨Nat.le_refl _, Nat.le_refl _⟩
  have e1 : ¬ tb.length + oi < tb.length := by omega
  have eo : tb.length + oi - tb.length = oi := by omega
  have hobj : ∀ (v : Int32) (g : Nat → Int32), aj_obj tb (aj_hp h oi ti 10 3 4000 1 fs v g) (tb.length + oi) = some (10, fs.set 1 (.int v)) := fun v g => by
    unfold aj_obj
    rw [if_neg e1, eo, aj_hp_o ho]
  have hv1 : ∀ v : Int32, (fs.set 1 (.int v))[1]? = some (.int v) := fun v => by simp [List.getElem?_set, hf1]
  obtain ⟨g1, h1⟩ := aj_put_ok (tb := tb) d oi ti fs b f w1 ho ht hne hf0 hf1 (by omega)
  obtain ⟨g2, h2⟩ := aj_put_ok (tb := tb) d oi ti fs (b + 4) g1 w2 ho ht hne hf0 hf1 (by omega)
  obtain ⟨g3, h3⟩ := aj_put_ok (tb := tb) d oi ti fs (b + 4 + 4) g2 w3 ho ht hne hf0 hf1 (by omega)
  obtain ⟨g4, h4⟩ := aj_put_ok (tb := tb) d oi ti fs (b + 4 + 4 + 4) g3 w4 ho ht hne hf0 hf1 (by omega)
  obtain ⟨g5, h5⟩ := aj_put_ok (tb := tb) d oi ti fs (b + 4 + 4 + 4 + 4) g4 w5 ho ht hne hf0 hf1 (by omega)
  refine ⟨g5, aj_mFeed, aj_mFeed_at, Nat.le_of_ble_eq_true rfl, ?_⟩
  show aj_TF aj_rc aj_cls tb aj_mFeed false true (aj_runs aj_rc aj_cls tb aj_mt (d + 1)) 0 [(0, .ref (tb.length + oi)), (1, .int w1), (2, .int w2), (3, .int w3), (4, .int w4), (5, .int w5)] [] _ 0 0 0 0 _ _
  refine aj_tn aj_ctFeed hk rfl rfl ?_
  refine aj_tg aj_ctFeed hk rfl rfl (by decide) (hobj _ _) (hv1 _) ?_
  refine aj_tn aj_ctFeed hk rfl rfl ?_
  refine aj_tc (tgt := 12) aj_ctFeed hk rfl rfl (fun _ => ?_) (fun z => ?_)
  rotate_left
  · exfalso
    have z : decide (nI b ≤ nI 3980) = false := z
    exact of_decide_eq_false z (nI_le (by omega) (by decide))
  refine aj_tn aj_ctFeed hk rfl rfl ?_
  refine aj_tn aj_ctFeed hk rfl rfl ?_
  refine aj_tiv aj_ctFeed rfl rfl [.int w1] rfl rfl (hobj _ _) rfl (by decide) rfl h1 (by simp [aj_hp_len]) hk ?_
  refine aj_tn aj_ctFeed hk rfl rfl ?_
  refine aj_tn aj_ctFeed hk rfl rfl ?_
  refine aj_tiv aj_ctFeed rfl rfl [.int w2] rfl rfl (hobj _ _) rfl (by decide) rfl h2 (by simp [aj_hp_len]) hk ?_
  refine aj_tn aj_ctFeed hk rfl rfl ?_
  refine aj_tn aj_ctFeed hk rfl rfl ?_
  refine aj_tiv aj_ctFeed rfl rfl [.int w3] rfl rfl (hobj _ _) rfl (by decide) rfl h3 (by simp [aj_hp_len]) hk ?_
  refine aj_tn aj_ctFeed hk rfl rfl ?_
  refine aj_tn aj_ctFeed hk rfl rfl ?_
  refine aj_tiv aj_ctFeed rfl rfl [.int w4] rfl rfl (hobj _ _) rfl (by decide) rfl h4 (by simp [aj_hp_len]) hk ?_
  refine aj_tn aj_ctFeed hk rfl rfl ?_
  refine aj_tn aj_ctFeed hk rfl rfl ?_
  refine aj_tiv aj_ctFeed rfl rfl [.int w5] rfl rfl (hobj _ _) rfl (by decide) rfl h5 (by simp [aj_hp_len]) hk ?_
  refine aj_tn aj_ctFeed hk rfl rfl ?_
  refine aj_tg aj_ctFeed hk rfl rfl (by decide) (hobj _ _) (hv1 _) ?_
  exact aj_te aj_ctFeed rfl rfl
theorem aj_feedM_ok (d oi ti : Nat) (fs : List Value) (b : Nat) (f : Nat → Int32) (w1 w2 w3 w4 w5 : Int32) (ho : oi < h.length) (ht : ti < h.length) (hne : oi ≠ ti) (hf0 : fs[22]? = some (.ref (tb.length + ti))) (hf1 : 23 < fs.length) (hb : b + 20 ≤ 4000) :
    ∃ g, aj_runs aj_rc aj_cls tb aj_mt (d + 2) 200 [.ref (tb.length + oi), .int w1, .int w2, .int w3, .int w4, .int w5] (aj_hp h oi ti 11 4 4000 23 fs (nI b) f) 0 0 (some (.int (nI (b + 20)))) (aj_hp h oi ti 11 4 4000 23 fs (nI (b + 20)) g) := by
  have hk : 0 ≤ 0 ∧ 0 ≤ 0 := ⟨Nat.le_refl _, Nat.le_refl _⟩
  have e1 : ¬ tb.length + oi < tb.length := by omega
  have eo : tb.length + oi - tb.length = oi := by omega
  have hobj : ∀ (v : Int32) (g : Nat → Int32), aj_obj tb (aj_hp h oi ti 11 4 4000 23 fs v g) (tb.length + oi) = some (11, fs.set 23 (.int v)) := fun v g => by
    unfold aj_obj
    rw [if_neg e1, eo, aj_hp_o ho]
  have hv1 : ∀ v : Int32, (fs.set 23 (.int v))[23]? = some (.int v) := fun v => by simp [List.getElem?_set, hf1]
  obtain ⟨g1, h1⟩ := aj_row_ok (tb := tb) d oi ti fs b f w1 ho ht hne hf0 hf1 (by omega)
  obtain ⟨g2, h2⟩ := aj_row_ok (tb := tb) d oi ti fs (b + 4) g1 w2 ho ht hne hf0 hf1 (by omega)
  obtain ⟨g3, h3⟩ := aj_row_ok (tb := tb) d oi ti fs (b + 4 + 4) g2 w3 ho ht hne hf0 hf1 (by omega)
  obtain ⟨g4, h4⟩ := aj_row_ok (tb := tb) d oi ti fs (b + 4 + 4 + 4) g3 w4 ho ht hne hf0 hf1 (by omega)
  obtain ⟨g5, h5⟩ := aj_row_ok (tb := tb) d oi ti fs (b + 4 + 4 + 4 + 4) g4 w5 ho ht hne hf0 hf1 (by omega)
  refine ⟨g5, aj_mFeedM, aj_mFeedM_at, Nat.le_of_ble_eq_true rfl, ?_⟩
  show aj_TF aj_rc aj_cls tb aj_mFeedM false true (aj_runs aj_rc aj_cls tb aj_mt (d + 1)) 0 [(0, .ref (tb.length + oi)), (1, .int w1), (2, .int w2), (3, .int w3), (4, .int w4), (5, .int w5)] [] _ 0 0 0 0 _ _
  refine aj_tn aj_ctFeedM hk rfl rfl ?_
  refine aj_tg aj_ctFeedM hk rfl rfl (by decide) (hobj _ _) (hv1 _) ?_
  refine aj_tn aj_ctFeedM hk rfl rfl ?_
  refine aj_tn aj_ctFeedM hk rfl rfl ?_
  refine aj_tn aj_ctFeedM hk rfl rfl ?_
  refine aj_tc (tgt := 15) aj_ctFeedM hk rfl rfl (fun _ => ?_) (fun z => ?_)
  rotate_left
  · exfalso
    have z : decide (nI b + nI 20 ≤ nI 4000) = false := z
    rw [nI_add] at z
    exact of_decide_eq_false z (nI_le (by omega) (by decide))
  refine aj_tn aj_ctFeedM hk rfl rfl ?_
  refine aj_tn aj_ctFeedM hk rfl rfl ?_
  refine aj_tiv aj_ctFeedM rfl rfl [.int w1] rfl rfl (hobj _ _) rfl (by decide) rfl h1 (by simp [aj_hp_len]) hk ?_
  refine aj_tn aj_ctFeedM hk rfl rfl ?_
  refine aj_tn aj_ctFeedM hk rfl rfl ?_
  refine aj_tiv aj_ctFeedM rfl rfl [.int w2] rfl rfl (hobj _ _) rfl (by decide) rfl h2 (by simp [aj_hp_len]) hk ?_
  refine aj_tn aj_ctFeedM hk rfl rfl ?_
  refine aj_tn aj_ctFeedM hk rfl rfl ?_
  refine aj_tiv aj_ctFeedM rfl rfl [.int w3] rfl rfl (hobj _ _) rfl (by decide) rfl h3 (by simp [aj_hp_len]) hk ?_
  refine aj_tn aj_ctFeedM hk rfl rfl ?_
  refine aj_tn aj_ctFeedM hk rfl rfl ?_
  refine aj_tiv aj_ctFeedM rfl rfl [.int w4] rfl rfl (hobj _ _) rfl (by decide) rfl h4 (by simp [aj_hp_len]) hk ?_
  refine aj_tn aj_ctFeedM hk rfl rfl ?_
  refine aj_tn aj_ctFeedM hk rfl rfl ?_
  refine aj_tiv aj_ctFeedM rfl rfl [.int w5] rfl rfl (hobj _ _) rfl (by decide) rfl h5 (by simp [aj_hp_len]) hk ?_
  refine aj_tn aj_ctFeedM hk rfl rfl ?_
  refine aj_tg aj_ctFeedM hk rfl rfl (by decide) (hobj _ _) (hv1 _) ?_
  exact aj_te aj_ctFeedM rfl rfl
end AJFEED
end
section
/-! THE LAW'S RUNS, FOR ANY SCRIPT -/
def aj_rho (xs : Nat → Int32) : Nat → Int32 := fun j => if j < 100 then xs j else xs (j - 100) &&& 31
theorem aj_rho_ok (xs : Nat → Int32) : (∀ j, j < 100 → aj_rho xs j = xs j) ∧ ∀ j, j < 100 → aj_rho xs (j + 100) = aj_rho xs j &&& 31 := ⟨fun j h => if_pos h, fun j h => by unfold aj_rho; rw [if_neg (by omega), if_pos h, Nat.add_sub_cancel]⟩
theorem aj_tbS_len : aj_tbS.length = 51 := by decide +kernel
theorem aj_tb_len (L : Nat) (xs : Nat → Int32) : (aj_tb L xs).length = 52 := by
  unfold aj_tb
  rw [List.length_append, aj_tbS_len]
  rfl
theorem aj_sT_tb (L : Nat) (xs : Nat → Int32) : aj_sT (aj_tbU L) (aj_tb L xs) := by
  refine ⟨by unfold aj_tb aj_tbU; rw [List.length_append, List.length_append]; rfl, fun r k x hr hk => ?_⟩
  unfold aj_tbU at hr
  unfold aj_tb
  by_cases h : r < aj_tbS.length
  · rw [List.getElem?_append_left h] at hr ⊢
    exact hr
  · rw [List.getElem?_append_right (by omega)] at hr
    cases hz : r - aj_tbS.length with
    | zero =>
      rw [hz] at hr
      cases hr
      exact absurd rfl hk
    | succ n =>
      rw [hz] at hr
      cases hr
theorem aj_sid (L : Nat) (xs : Nat → Int32) : 51 < (aj_tb L xs).length ∧ (aj_tb L xs)[51]? = some (0, L, .inl xs) := by
  refine ⟨by rw [aj_tb_len]; decide, ?_⟩
  unfold aj_tb
  rw [List.getElem?_append_right (by rw [aj_tbS_len]; decide), aj_tbS_len]
  rfl
/-- the law's frame at this place comes to its end with 1 -/
def aj_LTF (L : Nat) (xs : Nat → Int32) (pc : Nat) (lv : aj_V) (st : List Value) (h : aj_H) (kc ks : Nat) : Prop := ∃ hF, aj_TF aj_rc aj_cls (aj_tb L xs) aj_lawM false true (aj_runs aj_rc aj_cls (aj_tb L xs) aj_mt 20) pc lv st h kc ks 98 500000 (some (.int 1)) hF
theorem aj_ctL : aj_ctOK aj_cL aj_lawM.2.1 := by
  unfold aj_lawM
  dsimp only
  exact aj_dkL
theorem aj_calls {kn : List (Nat × Int32)} {xs : Nat → Int32} {L : Nat} (hL : L ≤ 6) (hkn : ∀ q ∈ kn, xs q.1 = q.2) (mi : Nat) (as : List Value) (h : aj_H) (tp : List Int) (r : Option Value) (h' : aj_H) (c1 s1 : Nat) (t1 : List Int) (os : List aj_OS) (hx : aj_callU kn L mi as h tp = some (r, h', c1, s1, t1, os)) (ho : ∀ o ∈ os, aj_osOK (aj_rho xs) o) : aj_runs aj_rc aj_cls (aj_tb L xs) aj_mt 20 mi (as.map (aj_sv (aj_rho xs))) (aj_sH (aj_rho xs) h) c1 s1 (r.map (aj_sv (aj_rho xs))) (aj_sH (aj_rho xs) h') :=
  aj_runsS_ok hkn (aj_sT_tb L xs) (aj_sid L xs) (by omega) (aj_rho_ok xs) aj_cuA_ok 20 mi as h tp r h' c1 s1 t1 os hx ho
theorem aj_frmS_TF {kn : List (Nat × Int32)} {sid L : Nat} {xs ρ : Nat → Int32} {tb tb' : aj_T} (hkn : ∀ q ∈ kn, xs q.1 = q.2) (hT : aj_sT tb' tb) (hsid : sid < tb.length ∧ tb[sid]? = some (0, L, .inl xs)) (hL : L ≤ 100) (hρ : (∀ j, j < 100 → ρ j = xs j) ∧ ∀ j, j < 100 → ρ (j + 100) = ρ j &&& 31) {rc : Nat} {cls : List aj_C} {m : aj_M} {ct : List (Nat × Instr × Nat)} (hct : aj_ctOK ct m.2.1) {isI deep : Bool} {call : Nat → List Value → aj_H → List Int → Option aj_Y} {callP : Nat → List Value → aj_H → Nat → Nat → Option Value → aj_H → Prop}
    (hcall : ∀ mi as h tp r h' c1 s1 t1 os, call mi as h tp = some (r, h', c1, s1, t1, os) → (∀ o ∈ os, aj_osOK ρ o) → callP mi (as.map (aj_sv ρ)) (aj_sH ρ h) c1 s1 (r.map (aj_sv ρ)) (aj_sH ρ h')) {n pc : Nat} {lv : aj_V} {st : List Value} {h : aj_H} {kc ks : Nat} {tp : List Int} {r : Option Value} {hF : aj_H} {c1 s1 : Nat} {t1 : List Int} {os : List aj_OS} (hx : aj_frmS kn sid L rc cls tb' m ct isI deep call n pc lv st h kc ks tp = some (r, hF, c1, s1, t1, os)) (ho : ∀ o ∈ os, aj_osOK ρ o) {ms : Nat} (hs : s1 ≤ ms) : aj_TF rc cls tb m isI deep callP pc (aj_sV ρ lv) (st.map (aj_sv ρ)) (aj_sH ρ h) kc ks c1 ms (r.map (aj_sv ρ)) (aj_sH ρ hF) :=
  ⟨n, (aj_frmS_ok hkn hT hsid hL hρ hct hcall _ _ _ _ _ _ _ _ _ _ _ _ _ _ hx ho).2.2 ms hs⟩
theorem aj_path {kn : List (Nat × Int32)} {tp : List Int} {os : List aj_OS} {xs : Nat → Int32} (h : aj_run2 kn tp = some os) (hkn : ∀ q ∈ kn, xs q.1 = q.2) (ho : ∀ o ∈ os, aj_osOK (aj_rho xs) o) : aj_LTF 6 xs 18 aj_lv0 [] (aj_sH (aj_rho xs) aj_h0) 98 aj_k0 := by
  unfold aj_run2 at h
  split at h
  · rename_i r hF c1 s1 t1 os' hx
    split at h
    · rename_i hq
      obtain ⟨rfl, rfl, hs⟩ := hq
      cases h
      exact ⟨_, aj_frmS_TF (kn := kn) (xs := xs) (ρ := aj_rho xs) hkn (aj_sT_tb 6 xs) (aj_sid 6 xs) (by decide) (aj_rho_ok xs) (m := aj_lawM) aj_ctL (callP := aj_runs aj_rc aj_cls (aj_tb 6 xs) aj_mt 20) (aj_calls (by decide) hkn) hx ho hs⟩
    · cases h
  · cases h
set_option maxRecDepth 1000000 in
theorem aj_k0_le : aj_k0 ≤ 500000 := by
  have h : decide (aj_k0 ≤ 500000) = true := by decide +kernel
  exact of_decide_eq_true h
theorem aj_enter {xs : Nat → Int32} (h : aj_LTF 6 xs 18 aj_lv0 [] (aj_sH (aj_rho xs) aj_h0) 98 aj_k0) : aj_LTF 6 xs 0 [(0, .ref 51)] [] [] 0 0 := by
  obtain ⟨hF, hn⟩ := h
  have hs := aj_s0_e
  unfold aj_s0 at hs
  obtain ⟨-, -, g⟩ := aj_frmT_ok (kn := []) (xs := xs) (ρ := aj_rho xs) (fun q h => absurd h List.not_mem_nil) (aj_sT_tb 6 xs) (aj_sid 6 xs) (by decide) (aj_rho_ok xs) (m := aj_lawM) aj_ctL (callP := aj_runs aj_rc aj_cls (aj_tb 6 xs) aj_mt 20) (aj_calls (by decide) (fun q h => absurd h List.not_mem_nil)) (mc := 98) (ms := 500000) (r := some (.int 1)) (hF := hF) _ _ _ _ _ _ _ _ _ _ _ _ hs (Nat.le_refl _) aj_k0_le hn
  exact ⟨hF, g⟩
/-- a script of less than six ints -/
def aj_ckS (L : Nat) : Bool := match aj_frmS [] 51 L aj_rc aj_cls (aj_tbU L) aj_lawM aj_cL false true (aj_callU [] L) 100000 0 [(0, .ref 51)] [] [] 0 0 [] with
  | some (r, _, c1, s1, _, []) => decide (r = some (.int 1)) && decide (c1 = 98) && decide (s1 ≤ 500000)
  | _ => false
set_option maxRecDepth 1000000 in
theorem aj_short0 : (List.range 6).all aj_ckS = true := by decide +kernel
theorem aj_short {L : Nat} (hL : L < 6) (xs : Nat → Int32) : aj_LTF L xs 0 [(0, .ref 51)] [] [] 0 0 := by
  have h := List.all_eq_true.mp aj_short0 L (List.mem_range.mpr hL)
  unfold aj_ckS at h
  split at h
  · rename_i r hF c1 s1 t1 hx
    simp only [Bool.and_eq_true, decide_eq_true_eq] at h
    obtain ⟨⟨rfl, rfl⟩, hs⟩ := h
    exact ⟨_, aj_frmS_TF (kn := []) (xs := xs) (ρ := aj_rho xs) (fun q h => absurd h List.not_mem_nil) (aj_sT_tb L xs) (aj_sid L xs) (by omega) (aj_rho_ok xs) (m := aj_lawM) aj_ctL (callP := aj_runs aj_rc aj_cls (aj_tb L xs) aj_mt 20) (aj_calls (by omega) (fun q h => absurd h List.not_mem_nil)) hx (fun o ho => absurd ho List.not_mem_nil) hs⟩
  · cases h
end
section
theorem aj_way1A {xs : Nat → Int32} (h0 : (xs 0 &&& 31).toInt = 1) (h1 : (xs 1 < 0)) : aj_LTF 6 xs 18 aj_lv0 [] (aj_sH (aj_rho xs) aj_h0) 98 aj_k0 := by
  refine aj_path (kn := aj_q1A.1) aj_p1A (fun q hq => ?_) (fun o ho => ?_)
  · exact absurd hq List.not_mem_nil
  · rcases List.mem_cons.mp ho with rfl | ho
    · exact h0
    rcases List.mem_cons.mp ho with rfl | ho
    · exact decide_eq_true h1
    rcases List.mem_cons.mp ho with rfl | ho
    · exact decide_eq_true h1
    exact absurd ho List.not_mem_nil
theorem aj_way1B {xs : Nat → Int32} (h0 : (xs 0 &&& 31).toInt = 1) (h1 : ¬ (xs 1 < 0)) (h2 : ¬ (xs 1 ≤ 0)) : aj_LTF 6 xs 18 aj_lv0 [] (aj_sH (aj_rho xs) aj_h0) 98 aj_k0 := by
  refine aj_path (kn := aj_q1B.1) aj_p1B (fun q hq => ?_) (fun o ho => ?_)
  · exact absurd hq List.not_mem_nil
  · rcases List.mem_cons.mp ho with rfl | ho
    · exact h0
    rcases List.mem_cons.mp ho with rfl | ho
    · exact decide_eq_false h1
    rcases List.mem_cons.mp ho with rfl | ho
    · exact decide_eq_false h2
    rcases List.mem_cons.mp ho with rfl | ho
    · exact decide_eq_false h1
    rcases List.mem_cons.mp ho with rfl | ho
    · exact decide_eq_false h2
    exact absurd ho List.not_mem_nil
theorem aj_way1C {xs : Nat → Int32} (h0 : xs 1 = 0) (h1 : (xs 0 &&& 31).toInt = 1) : aj_LTF 6 xs 18 aj_lv0 [] (aj_sH (aj_rho xs) aj_h0) 98 aj_k0 := by
  refine aj_path (kn := aj_q1C.1) aj_p1C (fun q hq => ?_) (fun o ho => ?_)
  · rcases List.mem_cons.mp hq with rfl | hq
    · exact h0
    · exact absurd hq List.not_mem_nil
  · rcases List.mem_cons.mp ho with rfl | ho
    · exact h1
    exact absurd ho List.not_mem_nil
theorem aj_way2 {xs : Nat → Int32} (h0 : (xs 0 &&& 31).toInt = 2) : aj_LTF 6 xs 18 aj_lv0 [] (aj_sH (aj_rho xs) aj_h0) 98 aj_k0 := by
  refine aj_path (kn := aj_q2.1) aj_p2 (fun q hq => ?_) (fun o ho => ?_)
  · exact absurd hq List.not_mem_nil
  · rcases List.mem_cons.mp ho with rfl | ho
    · exact h0
    exact absurd ho List.not_mem_nil
theorem aj_way3 {xs : Nat → Int32} (h0 : (xs 0 &&& 31).toInt = 3) : aj_LTF 6 xs 18 aj_lv0 [] (aj_sH (aj_rho xs) aj_h0) 98 aj_k0 := by
  refine aj_path (kn := aj_q3.1) aj_p3 (fun q hq => ?_) (fun o ho => ?_)
  · exact absurd hq List.not_mem_nil
  · rcases List.mem_cons.mp ho with rfl | ho
    · exact h0
    exact absurd ho List.not_mem_nil
theorem aj_way4 {xs : Nat → Int32} (h0 : (xs 0 &&& 31).toInt = 4) : aj_LTF 6 xs 18 aj_lv0 [] (aj_sH (aj_rho xs) aj_h0) 98 aj_k0 := by
  refine aj_path (kn := aj_q4.1) aj_p4 (fun q hq => ?_) (fun o ho => ?_)
  · exact absurd hq List.not_mem_nil
  · rcases List.mem_cons.mp ho with rfl | ho
    · exact h0
    exact absurd ho List.not_mem_nil
theorem aj_way5 {xs : Nat → Int32} (h0 : (xs 0 &&& 31).toInt = 5) : aj_LTF 6 xs 18 aj_lv0 [] (aj_sH (aj_rho xs) aj_h0) 98 aj_k0 := by
  refine aj_path (kn := aj_q5.1) aj_p5 (fun q hq => ?_) (fun o ho => ?_)
  · exact absurd hq List.not_mem_nil
  · rcases List.mem_cons.mp ho with rfl | ho
    · exact h0
    exact absurd ho List.not_mem_nil
theorem aj_way6 {xs : Nat → Int32} (h0 : (xs 0 &&& 31).toInt = 6) : aj_LTF 6 xs 18 aj_lv0 [] (aj_sH (aj_rho xs) aj_h0) 98 aj_k0 := by
  refine aj_path (kn := aj_q6.1) aj_p6 (fun q hq => ?_) (fun o ho => ?_)
  · exact absurd hq List.not_mem_nil
  · rcases List.mem_cons.mp ho with rfl | ho
    · exact h0
    exact absurd ho List.not_mem_nil
theorem aj_way7 {xs : Nat → Int32} (h0 : (xs 0 &&& 31).toInt = 7) : aj_LTF 6 xs 18 aj_lv0 [] (aj_sH (aj_rho xs) aj_h0) 98 aj_k0 := by
  refine aj_path (kn := aj_q7.1) aj_p7 (fun q hq => ?_) (fun o ho => ?_)
  · exact absurd hq List.not_mem_nil
  · rcases List.mem_cons.mp ho with rfl | ho
    · exact h0
    exact absurd ho List.not_mem_nil
theorem aj_way8n {xs : Nat → Int32} (h0 : (xs 0 &&& 31).toInt = 8) (h1 : (xs 1 < 0)) : aj_LTF 6 xs 18 aj_lv0 [] (aj_sH (aj_rho xs) aj_h0) 98 aj_k0 := by
  refine aj_path (kn := aj_q8n.1) aj_p8n (fun q hq => ?_) (fun o ho => ?_)
  · exact absurd hq List.not_mem_nil
  · rcases List.mem_cons.mp ho with rfl | ho
    · exact h0
    rcases List.mem_cons.mp ho with rfl | ho
    · exact decide_eq_true h1
    rcases List.mem_cons.mp ho with rfl | ho
    · exact decide_eq_true h1
    exact absurd ho List.not_mem_nil
theorem aj_way8bn {xs : Nat → Int32} (h0 : (xs 0 &&& 31).toInt = 8) (h1 : ¬ (xs 1 < 0)) (h2 : ((1 : Int32) ≤ xs 1)) (h3 : (xs 2 < 0)) : aj_LTF 6 xs 18 aj_lv0 [] (aj_sH (aj_rho xs) aj_h0) 98 aj_k0 := by
  refine aj_path (kn := aj_q8bn.1) aj_p8bn (fun q hq => ?_) (fun o ho => ?_)
  · exact absurd hq List.not_mem_nil
  · rcases List.mem_cons.mp ho with rfl | ho
    · exact h0
    rcases List.mem_cons.mp ho with rfl | ho
    · exact decide_eq_false h1
    rcases List.mem_cons.mp ho with rfl | ho
    · exact decide_eq_true h2
    rcases List.mem_cons.mp ho with rfl | ho
    · exact decide_eq_false h1
    rcases List.mem_cons.mp ho with rfl | ho
    · exact decide_eq_true h3
    exact absurd ho List.not_mem_nil
theorem aj_way8bp {xs : Nat → Int32} (h0 : (xs 0 &&& 31).toInt = 8) (h1 : ¬ (xs 1 < 0)) (h2 : ((1 : Int32) ≤ xs 1)) (h3 : ¬ (xs 2 < 0)) : aj_LTF 6 xs 18 aj_lv0 [] (aj_sH (aj_rho xs) aj_h0) 98 aj_k0 := by
  refine aj_path (kn := aj_q8bp.1) aj_p8bp (fun q hq => ?_) (fun o ho => ?_)
  · exact absurd hq List.not_mem_nil
  · rcases List.mem_cons.mp ho with rfl | ho
    · exact h0
    rcases List.mem_cons.mp ho with rfl | ho
    · exact decide_eq_false h1
    rcases List.mem_cons.mp ho with rfl | ho
    · exact decide_eq_true h2
    rcases List.mem_cons.mp ho with rfl | ho
    · exact decide_eq_false h1
    rcases List.mem_cons.mp ho with rfl | ho
    · exact decide_eq_false h3
    rcases List.mem_cons.mp ho with rfl | ho
    · exact decide_eq_false h3
    exact absurd ho List.not_mem_nil
theorem aj_way8zn {xs : Nat → Int32} (h0 : xs 1 = 0) (h1 : (xs 0 &&& 31).toInt = 8) (h2 : (xs 2 < 0)) : aj_LTF 6 xs 18 aj_lv0 [] (aj_sH (aj_rho xs) aj_h0) 98 aj_k0 := by
  refine aj_path (kn := aj_q8zn.1) aj_p8zn (fun q hq => ?_) (fun o ho => ?_)
  · rcases List.mem_cons.mp hq with rfl | hq
    · exact h0
    · exact absurd hq List.not_mem_nil
  · rcases List.mem_cons.mp ho with rfl | ho
    · exact h1
    rcases List.mem_cons.mp ho with rfl | ho
    · exact decide_eq_true h2
    rcases List.mem_cons.mp ho with rfl | ho
    · exact decide_eq_true h2
    exact absurd ho List.not_mem_nil
theorem aj_way8zp {xs : Nat → Int32} (h0 : xs 1 = 0) (h1 : (xs 0 &&& 31).toInt = 8) (h2 : ¬ (xs 2 < 0)) : aj_LTF 6 xs 18 aj_lv0 [] (aj_sH (aj_rho xs) aj_h0) 98 aj_k0 := by
  refine aj_path (kn := aj_q8zp.1) aj_p8zp (fun q hq => ?_) (fun o ho => ?_)
  · rcases List.mem_cons.mp hq with rfl | hq
    · exact h0
    · exact absurd hq List.not_mem_nil
  · rcases List.mem_cons.mp ho with rfl | ho
    · exact h1
    rcases List.mem_cons.mp ho with rfl | ho
    · exact decide_eq_false h2
    rcases List.mem_cons.mp ho with rfl | ho
    · exact decide_eq_false h2
    rcases List.mem_cons.mp ho with rfl | ho
    · exact decide_eq_false h2
    rcases List.mem_cons.mp ho with rfl | ho
    · exact decide_eq_false h2
    exact absurd ho List.not_mem_nil
theorem aj_way9n {xs : Nat → Int32} (h0 : (xs 0 &&& 31).toInt = 9) (h1 : (xs 1 < 0)) : aj_LTF 6 xs 18 aj_lv0 [] (aj_sH (aj_rho xs) aj_h0) 98 aj_k0 := by
  refine aj_path (kn := aj_q9n.1) aj_p9n (fun q hq => ?_) (fun o ho => ?_)
  · exact absurd hq List.not_mem_nil
  · rcases List.mem_cons.mp ho with rfl | ho
    · exact h0
    rcases List.mem_cons.mp ho with rfl | ho
    · exact decide_eq_true h1
    rcases List.mem_cons.mp ho with rfl | ho
    · exact decide_eq_true h1
    exact absurd ho List.not_mem_nil
theorem aj_way9p {xs : Nat → Int32} (h0 : (xs 0 &&& 31).toInt = 9) (h1 : ¬ (xs 1 < 0)) (h2 : ((0 : Int32) ≤ xs 1)) : aj_LTF 6 xs 18 aj_lv0 [] (aj_sH (aj_rho xs) aj_h0) 98 aj_k0 := by
  refine aj_path (kn := aj_q9p.1) aj_p9p (fun q hq => ?_) (fun o ho => ?_)
  · exact absurd hq List.not_mem_nil
  · rcases List.mem_cons.mp ho with rfl | ho
    · exact h0
    rcases List.mem_cons.mp ho with rfl | ho
    · exact decide_eq_false h1
    rcases List.mem_cons.mp ho with rfl | ho
    · exact decide_eq_true h2
    rcases List.mem_cons.mp ho with rfl | ho
    · exact decide_eq_false h1
    rcases List.mem_cons.mp ho with rfl | ho
    · exact decide_eq_true h2
    exact absurd ho List.not_mem_nil
theorem aj_way10n {xs : Nat → Int32} (h0 : (xs 0 &&& 31).toInt = 10) (h1 : (xs 1 < 0)) : aj_LTF 6 xs 18 aj_lv0 [] (aj_sH (aj_rho xs) aj_h0) 98 aj_k0 := by
  refine aj_path (kn := aj_q10n.1) aj_p10n (fun q hq => ?_) (fun o ho => ?_)
  · exact absurd hq List.not_mem_nil
  · rcases List.mem_cons.mp ho with rfl | ho
    · exact h0
    rcases List.mem_cons.mp ho with rfl | ho
    · exact decide_eq_true h1
    rcases List.mem_cons.mp ho with rfl | ho
    · exact decide_eq_true h1
    exact absurd ho List.not_mem_nil
theorem aj_way10p {xs : Nat → Int32} (h0 : (xs 0 &&& 31).toInt = 10) (h1 : ¬ (xs 1 < 0)) (h2 : ((0 : Int32) ≤ xs 1)) : aj_LTF 6 xs 18 aj_lv0 [] (aj_sH (aj_rho xs) aj_h0) 98 aj_k0 := by
  refine aj_path (kn := aj_q10p.1) aj_p10p (fun q hq => ?_) (fun o ho => ?_)
  · exact absurd hq List.not_mem_nil
  · rcases List.mem_cons.mp ho with rfl | ho
    · exact h0
    rcases List.mem_cons.mp ho with rfl | ho
    · exact decide_eq_false h1
    rcases List.mem_cons.mp ho with rfl | ho
    · exact decide_eq_true h2
    rcases List.mem_cons.mp ho with rfl | ho
    · exact decide_eq_false h1
    rcases List.mem_cons.mp ho with rfl | ho
    · exact decide_eq_true h2
    exact absurd ho List.not_mem_nil
theorem aj_way11n {xs : Nat → Int32} (h0 : (xs 0 &&& 31).toInt = 11) (h1 : (xs 1 < 0)) : aj_LTF 6 xs 18 aj_lv0 [] (aj_sH (aj_rho xs) aj_h0) 98 aj_k0 := by
  refine aj_path (kn := aj_q11n.1) aj_p11n (fun q hq => ?_) (fun o ho => ?_)
  · exact absurd hq List.not_mem_nil
  · rcases List.mem_cons.mp ho with rfl | ho
    · exact h0
    rcases List.mem_cons.mp ho with rfl | ho
    · exact decide_eq_true h1
    rcases List.mem_cons.mp ho with rfl | ho
    · exact decide_eq_true h1
    exact absurd ho List.not_mem_nil
theorem aj_way11p {xs : Nat → Int32} (h0 : (xs 0 &&& 31).toInt = 11) (h1 : ¬ (xs 1 < 0)) (h2 : ((0 : Int32) ≤ xs 1)) : aj_LTF 6 xs 18 aj_lv0 [] (aj_sH (aj_rho xs) aj_h0) 98 aj_k0 := by
  refine aj_path (kn := aj_q11p.1) aj_p11p (fun q hq => ?_) (fun o ho => ?_)
  · exact absurd hq List.not_mem_nil
  · rcases List.mem_cons.mp ho with rfl | ho
    · exact h0
    rcases List.mem_cons.mp ho with rfl | ho
    · exact decide_eq_false h1
    rcases List.mem_cons.mp ho with rfl | ho
    · exact decide_eq_true h2
    rcases List.mem_cons.mp ho with rfl | ho
    · exact decide_eq_false h1
    rcases List.mem_cons.mp ho with rfl | ho
    · exact decide_eq_true h2
    exact absurd ho List.not_mem_nil
theorem aj_way15n {xs : Nat → Int32} (h0 : (xs 0 &&& 31).toInt = 15) (h1 : (xs 1 < 0)) : aj_LTF 6 xs 18 aj_lv0 [] (aj_sH (aj_rho xs) aj_h0) 98 aj_k0 := by
  refine aj_path (kn := aj_q15n.1) aj_p15n (fun q hq => ?_) (fun o ho => ?_)
  · exact absurd hq List.not_mem_nil
  · rcases List.mem_cons.mp ho with rfl | ho
    · exact h0
    rcases List.mem_cons.mp ho with rfl | ho
    · exact decide_eq_true h1
    rcases List.mem_cons.mp ho with rfl | ho
    · exact decide_eq_true h1
    exact absurd ho List.not_mem_nil
theorem aj_way15p {xs : Nat → Int32} (h0 : (xs 0 &&& 31).toInt = 15) (h1 : ¬ (xs 1 < 0)) (h2 : ((0 : Int32) ≤ xs 1)) : aj_LTF 6 xs 18 aj_lv0 [] (aj_sH (aj_rho xs) aj_h0) 98 aj_k0 := by
  refine aj_path (kn := aj_q15p.1) aj_p15p (fun q hq => ?_) (fun o ho => ?_)
  · exact absurd hq List.not_mem_nil
  · rcases List.mem_cons.mp ho with rfl | ho
    · exact h0
    rcases List.mem_cons.mp ho with rfl | ho
    · exact decide_eq_false h1
    rcases List.mem_cons.mp ho with rfl | ho
    · exact decide_eq_true h2
    rcases List.mem_cons.mp ho with rfl | ho
    · exact decide_eq_false h1
    rcases List.mem_cons.mp ho with rfl | ho
    · exact decide_eq_true h2
    exact absurd ho List.not_mem_nil
theorem aj_way16n {xs : Nat → Int32} (h0 : (xs 0 &&& 31).toInt = 16) (h1 : (xs 1 < 0)) : aj_LTF 6 xs 18 aj_lv0 [] (aj_sH (aj_rho xs) aj_h0) 98 aj_k0 := by
  refine aj_path (kn := aj_q16n.1) aj_p16n (fun q hq => ?_) (fun o ho => ?_)
  · exact absurd hq List.not_mem_nil
  · rcases List.mem_cons.mp ho with rfl | ho
    · exact h0
    rcases List.mem_cons.mp ho with rfl | ho
    · exact decide_eq_true h1
    rcases List.mem_cons.mp ho with rfl | ho
    · exact decide_eq_true h1
    exact absurd ho List.not_mem_nil
theorem aj_way16p {xs : Nat → Int32} (h0 : (xs 0 &&& 31).toInt = 16) (h1 : ¬ (xs 1 < 0)) (h2 : ((0 : Int32) ≤ xs 1)) : aj_LTF 6 xs 18 aj_lv0 [] (aj_sH (aj_rho xs) aj_h0) 98 aj_k0 := by
  refine aj_path (kn := aj_q16p.1) aj_p16p (fun q hq => ?_) (fun o ho => ?_)
  · exact absurd hq List.not_mem_nil
  · rcases List.mem_cons.mp ho with rfl | ho
    · exact h0
    rcases List.mem_cons.mp ho with rfl | ho
    · exact decide_eq_false h1
    rcases List.mem_cons.mp ho with rfl | ho
    · exact decide_eq_true h2
    rcases List.mem_cons.mp ho with rfl | ho
    · exact decide_eq_false h1
    rcases List.mem_cons.mp ho with rfl | ho
    · exact decide_eq_true h2
    exact absurd ho List.not_mem_nil
theorem aj_way17n {xs : Nat → Int32} (h0 : (xs 0 &&& 31).toInt = 17) (h1 : (xs 1 < 0)) : aj_LTF 6 xs 18 aj_lv0 [] (aj_sH (aj_rho xs) aj_h0) 98 aj_k0 := by
  refine aj_path (kn := aj_q17n.1) aj_p17n (fun q hq => ?_) (fun o ho => ?_)
  · exact absurd hq List.not_mem_nil
  · rcases List.mem_cons.mp ho with rfl | ho
    · exact h0
    rcases List.mem_cons.mp ho with rfl | ho
    · exact decide_eq_true h1
    rcases List.mem_cons.mp ho with rfl | ho
    · exact decide_eq_true h1
    exact absurd ho List.not_mem_nil
theorem aj_way17p {xs : Nat → Int32} (h0 : (xs 0 &&& 31).toInt = 17) (h1 : ¬ (xs 1 < 0)) (h2 : ((0 : Int32) ≤ xs 1)) : aj_LTF 6 xs 18 aj_lv0 [] (aj_sH (aj_rho xs) aj_h0) 98 aj_k0 := by
  refine aj_path (kn := aj_q17p.1) aj_p17p (fun q hq => ?_) (fun o ho => ?_)
  · exact absurd hq List.not_mem_nil
  · rcases List.mem_cons.mp ho with rfl | ho
    · exact h0
    rcases List.mem_cons.mp ho with rfl | ho
    · exact decide_eq_false h1
    rcases List.mem_cons.mp ho with rfl | ho
    · exact decide_eq_true h2
    rcases List.mem_cons.mp ho with rfl | ho
    · exact decide_eq_false h1
    rcases List.mem_cons.mp ho with rfl | ho
    · exact decide_eq_true h2
    exact absurd ho List.not_mem_nil
theorem aj_way12nn {xs : Nat → Int32} (h0 : (xs 0 &&& 31).toInt = 12) (h1 : (xs 1 < 0)) (h2 : (xs 3 < 0)) : aj_LTF 6 xs 18 aj_lv0 [] (aj_sH (aj_rho xs) aj_h0) 98 aj_k0 := by
  refine aj_path (kn := aj_q12nn.1) aj_p12nn (fun q hq => ?_) (fun o ho => ?_)
  · exact absurd hq List.not_mem_nil
  · rcases List.mem_cons.mp ho with rfl | ho
    · exact h0
    rcases List.mem_cons.mp ho with rfl | ho
    · exact decide_eq_true h1
    rcases List.mem_cons.mp ho with rfl | ho
    · exact decide_eq_true h2
    rcases List.mem_cons.mp ho with rfl | ho
    · exact decide_eq_true h1
    exact absurd ho List.not_mem_nil
theorem aj_way12nb {xs : Nat → Int32} (h0 : (xs 0 &&& 31).toInt = 12) (h1 : (xs 1 < 0)) (h2 : ¬ (xs 3 < 0)) (h3 : ((1 : Int32) ≤ xs 3)) : aj_LTF 6 xs 18 aj_lv0 [] (aj_sH (aj_rho xs) aj_h0) 98 aj_k0 := by
  refine aj_path (kn := aj_q12nb.1) aj_p12nb (fun q hq => ?_) (fun o ho => ?_)
  · exact absurd hq List.not_mem_nil
  · rcases List.mem_cons.mp ho with rfl | ho
    · exact h0
    rcases List.mem_cons.mp ho with rfl | ho
    · exact decide_eq_true h1
    rcases List.mem_cons.mp ho with rfl | ho
    · exact decide_eq_false h2
    rcases List.mem_cons.mp ho with rfl | ho
    · exact decide_eq_true h3
    rcases List.mem_cons.mp ho with rfl | ho
    · exact decide_eq_true h1
    exact absurd ho List.not_mem_nil
theorem aj_way12nz {xs : Nat → Int32} (h0 : xs 3 = 0) (h1 : (xs 0 &&& 31).toInt = 12) (h2 : (xs 1 < 0)) : aj_LTF 6 xs 18 aj_lv0 [] (aj_sH (aj_rho xs) aj_h0) 98 aj_k0 := by
  refine aj_path (kn := aj_q12nz.1) aj_p12nz (fun q hq => ?_) (fun o ho => ?_)
  · rcases List.mem_cons.mp hq with rfl | hq
    · exact h0
    · exact absurd hq List.not_mem_nil
  · rcases List.mem_cons.mp ho with rfl | ho
    · exact h1
    rcases List.mem_cons.mp ho with rfl | ho
    · exact decide_eq_true h2
    rcases List.mem_cons.mp ho with rfl | ho
    · exact decide_eq_true h2
    exact absurd ho List.not_mem_nil
theorem aj_way12pn {xs : Nat → Int32} (h0 : (xs 0 &&& 31).toInt = 12) (h1 : ¬ (xs 1 < 0)) (h2 : ((0 : Int32) ≤ xs 1)) (h3 : (xs 3 < 0)) : aj_LTF 6 xs 18 aj_lv0 [] (aj_sH (aj_rho xs) aj_h0) 98 aj_k0 := by
  refine aj_path (kn := aj_q12pn.1) aj_p12pn (fun q hq => ?_) (fun o ho => ?_)
  · exact absurd hq List.not_mem_nil
  · rcases List.mem_cons.mp ho with rfl | ho
    · exact h0
    rcases List.mem_cons.mp ho with rfl | ho
    · exact decide_eq_false h1
    rcases List.mem_cons.mp ho with rfl | ho
    · exact decide_eq_true h2
    rcases List.mem_cons.mp ho with rfl | ho
    · exact decide_eq_true h3
    rcases List.mem_cons.mp ho with rfl | ho
    · exact decide_eq_false h1
    rcases List.mem_cons.mp ho with rfl | ho
    · exact decide_eq_true h2
    exact absurd ho List.not_mem_nil
theorem aj_way12pb {xs : Nat → Int32} (h0 : (xs 0 &&& 31).toInt = 12) (h1 : ¬ (xs 1 < 0)) (h2 : ((0 : Int32) ≤ xs 1)) (h3 : ¬ (xs 3 < 0)) (h4 : ((1 : Int32) ≤ xs 3)) : aj_LTF 6 xs 18 aj_lv0 [] (aj_sH (aj_rho xs) aj_h0) 98 aj_k0 := by
  refine aj_path (kn := aj_q12pb.1) aj_p12pb (fun q hq => ?_) (fun o ho => ?_)
  · exact absurd hq List.not_mem_nil
  · rcases List.mem_cons.mp ho with rfl | ho
    · exact h0
    rcases List.mem_cons.mp ho with rfl | ho
    · exact decide_eq_false h1
    rcases List.mem_cons.mp ho with rfl | ho
    · exact decide_eq_true h2
    rcases List.mem_cons.mp ho with rfl | ho
    · exact decide_eq_false h3
    rcases List.mem_cons.mp ho with rfl | ho
    · exact decide_eq_true h4
    rcases List.mem_cons.mp ho with rfl | ho
    · exact decide_eq_false h1
    rcases List.mem_cons.mp ho with rfl | ho
    · exact decide_eq_true h2
    exact absurd ho List.not_mem_nil
theorem aj_way12pz {xs : Nat → Int32} (h0 : xs 3 = 0) (h1 : (xs 0 &&& 31).toInt = 12) (h2 : ¬ (xs 1 < 0)) (h3 : ((0 : Int32) ≤ xs 1)) : aj_LTF 6 xs 18 aj_lv0 [] (aj_sH (aj_rho xs) aj_h0) 98 aj_k0 := by
  refine aj_path (kn := aj_q12pz.1) aj_p12pz (fun q hq => ?_) (fun o ho => ?_)
  · rcases List.mem_cons.mp hq with rfl | hq
    · exact h0
    · exact absurd hq List.not_mem_nil
  · rcases List.mem_cons.mp ho with rfl | ho
    · exact h1
    rcases List.mem_cons.mp ho with rfl | ho
    · exact decide_eq_false h2
    rcases List.mem_cons.mp ho with rfl | ho
    · exact decide_eq_true h3
    rcases List.mem_cons.mp ho with rfl | ho
    · exact decide_eq_false h2
    rcases List.mem_cons.mp ho with rfl | ho
    · exact decide_eq_true h3
    exact absurd ho List.not_mem_nil
theorem aj_way13nn {xs : Nat → Int32} (h0 : (xs 0 &&& 31).toInt = 13) (h1 : (xs 1 < 0)) (h2 : (xs 2 < 0)) : aj_LTF 6 xs 18 aj_lv0 [] (aj_sH (aj_rho xs) aj_h0) 98 aj_k0 := by
  refine aj_path (kn := aj_q13nn.1) aj_p13nn (fun q hq => ?_) (fun o ho => ?_)
  · exact absurd hq List.not_mem_nil
  · rcases List.mem_cons.mp ho with rfl | ho
    · exact h0
    rcases List.mem_cons.mp ho with rfl | ho
    · exact decide_eq_true h1
    rcases List.mem_cons.mp ho with rfl | ho
    · exact decide_eq_true h2
    rcases List.mem_cons.mp ho with rfl | ho
    · exact decide_eq_true h1
    exact absurd ho List.not_mem_nil
theorem aj_way13nb {xs : Nat → Int32} (h0 : (xs 0 &&& 31).toInt = 13) (h1 : (xs 1 < 0)) (h2 : ¬ (xs 2 < 0)) (h3 : ((1 : Int32) ≤ xs 2)) : aj_LTF 6 xs 18 aj_lv0 [] (aj_sH (aj_rho xs) aj_h0) 98 aj_k0 := by
  refine aj_path (kn := aj_q13nb.1) aj_p13nb (fun q hq => ?_) (fun o ho => ?_)
  · exact absurd hq List.not_mem_nil
  · rcases List.mem_cons.mp ho with rfl | ho
    · exact h0
    rcases List.mem_cons.mp ho with rfl | ho
    · exact decide_eq_true h1
    rcases List.mem_cons.mp ho with rfl | ho
    · exact decide_eq_false h2
    rcases List.mem_cons.mp ho with rfl | ho
    · exact decide_eq_true h3
    rcases List.mem_cons.mp ho with rfl | ho
    · exact decide_eq_true h1
    exact absurd ho List.not_mem_nil
theorem aj_way13nz {xs : Nat → Int32} (h0 : xs 2 = 0) (h1 : (xs 0 &&& 31).toInt = 13) (h2 : (xs 1 < 0)) : aj_LTF 6 xs 18 aj_lv0 [] (aj_sH (aj_rho xs) aj_h0) 98 aj_k0 := by
  refine aj_path (kn := aj_q13nz.1) aj_p13nz (fun q hq => ?_) (fun o ho => ?_)
  · rcases List.mem_cons.mp hq with rfl | hq
    · exact h0
    · exact absurd hq List.not_mem_nil
  · rcases List.mem_cons.mp ho with rfl | ho
    · exact h1
    rcases List.mem_cons.mp ho with rfl | ho
    · exact decide_eq_true h2
    rcases List.mem_cons.mp ho with rfl | ho
    · exact decide_eq_true h2
    exact absurd ho List.not_mem_nil
theorem aj_way13pn {xs : Nat → Int32} (h0 : (xs 0 &&& 31).toInt = 13) (h1 : ¬ (xs 1 < 0)) (h2 : ((0 : Int32) ≤ xs 1)) (h3 : (xs 2 < 0)) : aj_LTF 6 xs 18 aj_lv0 [] (aj_sH (aj_rho xs) aj_h0) 98 aj_k0 := by
  refine aj_path (kn := aj_q13pn.1) aj_p13pn (fun q hq => ?_) (fun o ho => ?_)
  · exact absurd hq List.not_mem_nil
  · rcases List.mem_cons.mp ho with rfl | ho
    · exact h0
    rcases List.mem_cons.mp ho with rfl | ho
    · exact decide_eq_false h1
    rcases List.mem_cons.mp ho with rfl | ho
    · exact decide_eq_true h2
    rcases List.mem_cons.mp ho with rfl | ho
    · exact decide_eq_true h3
    rcases List.mem_cons.mp ho with rfl | ho
    · exact decide_eq_false h1
    rcases List.mem_cons.mp ho with rfl | ho
    · exact decide_eq_true h2
    exact absurd ho List.not_mem_nil
theorem aj_way13pb {xs : Nat → Int32} (h0 : (xs 0 &&& 31).toInt = 13) (h1 : ¬ (xs 1 < 0)) (h2 : ((0 : Int32) ≤ xs 1)) (h3 : ¬ (xs 2 < 0)) (h4 : ((1 : Int32) ≤ xs 2)) : aj_LTF 6 xs 18 aj_lv0 [] (aj_sH (aj_rho xs) aj_h0) 98 aj_k0 := by
  refine aj_path (kn := aj_q13pb.1) aj_p13pb (fun q hq => ?_) (fun o ho => ?_)
  · exact absurd hq List.not_mem_nil
  · rcases List.mem_cons.mp ho with rfl | ho
    · exact h0
    rcases List.mem_cons.mp ho with rfl | ho
    · exact decide_eq_false h1
    rcases List.mem_cons.mp ho with rfl | ho
    · exact decide_eq_true h2
    rcases List.mem_cons.mp ho with rfl | ho
    · exact decide_eq_false h3
    rcases List.mem_cons.mp ho with rfl | ho
    · exact decide_eq_true h4
    rcases List.mem_cons.mp ho with rfl | ho
    · exact decide_eq_false h1
    rcases List.mem_cons.mp ho with rfl | ho
    · exact decide_eq_true h2
    exact absurd ho List.not_mem_nil
theorem aj_way13pz {xs : Nat → Int32} (h0 : xs 2 = 0) (h1 : (xs 0 &&& 31).toInt = 13) (h2 : ¬ (xs 1 < 0)) (h3 : ((0 : Int32) ≤ xs 1)) : aj_LTF 6 xs 18 aj_lv0 [] (aj_sH (aj_rho xs) aj_h0) 98 aj_k0 := by
  refine aj_path (kn := aj_q13pz.1) aj_p13pz (fun q hq => ?_) (fun o ho => ?_)
  · rcases List.mem_cons.mp hq with rfl | hq
    · exact h0
    · exact absurd hq List.not_mem_nil
  · rcases List.mem_cons.mp ho with rfl | ho
    · exact h1
    rcases List.mem_cons.mp ho with rfl | ho
    · exact decide_eq_false h2
    rcases List.mem_cons.mp ho with rfl | ho
    · exact decide_eq_true h3
    rcases List.mem_cons.mp ho with rfl | ho
    · exact decide_eq_false h2
    rcases List.mem_cons.mp ho with rfl | ho
    · exact decide_eq_true h3
    exact absurd ho List.not_mem_nil
theorem aj_way14nn {xs : Nat → Int32} (h0 : (xs 0 &&& 31).toInt = 14) (h1 : (xs 1 < 0)) (h2 : (xs 2 < 0)) : aj_LTF 6 xs 18 aj_lv0 [] (aj_sH (aj_rho xs) aj_h0) 98 aj_k0 := by
  refine aj_path (kn := aj_q14nn.1) aj_p14nn (fun q hq => ?_) (fun o ho => ?_)
  · exact absurd hq List.not_mem_nil
  · rcases List.mem_cons.mp ho with rfl | ho
    · exact h0
    rcases List.mem_cons.mp ho with rfl | ho
    · exact decide_eq_true h1
    rcases List.mem_cons.mp ho with rfl | ho
    · exact decide_eq_true h2
    rcases List.mem_cons.mp ho with rfl | ho
    · exact decide_eq_true h1
    exact absurd ho List.not_mem_nil
theorem aj_way14nb {xs : Nat → Int32} (h0 : (xs 0 &&& 31).toInt = 14) (h1 : (xs 1 < 0)) (h2 : ¬ (xs 2 < 0)) (h3 : ((1 : Int32) ≤ xs 2)) : aj_LTF 6 xs 18 aj_lv0 [] (aj_sH (aj_rho xs) aj_h0) 98 aj_k0 := by
  refine aj_path (kn := aj_q14nb.1) aj_p14nb (fun q hq => ?_) (fun o ho => ?_)
  · exact absurd hq List.not_mem_nil
  · rcases List.mem_cons.mp ho with rfl | ho
    · exact h0
    rcases List.mem_cons.mp ho with rfl | ho
    · exact decide_eq_true h1
    rcases List.mem_cons.mp ho with rfl | ho
    · exact decide_eq_false h2
    rcases List.mem_cons.mp ho with rfl | ho
    · exact decide_eq_true h3
    rcases List.mem_cons.mp ho with rfl | ho
    · exact decide_eq_true h1
    exact absurd ho List.not_mem_nil
theorem aj_way14nz {xs : Nat → Int32} (h0 : xs 2 = 0) (h1 : (xs 0 &&& 31).toInt = 14) (h2 : (xs 1 < 0)) : aj_LTF 6 xs 18 aj_lv0 [] (aj_sH (aj_rho xs) aj_h0) 98 aj_k0 := by
  refine aj_path (kn := aj_q14nz.1) aj_p14nz (fun q hq => ?_) (fun o ho => ?_)
  · rcases List.mem_cons.mp hq with rfl | hq
    · exact h0
    · exact absurd hq List.not_mem_nil
  · rcases List.mem_cons.mp ho with rfl | ho
    · exact h1
    rcases List.mem_cons.mp ho with rfl | ho
    · exact decide_eq_true h2
    rcases List.mem_cons.mp ho with rfl | ho
    · exact decide_eq_true h2
    exact absurd ho List.not_mem_nil
theorem aj_way14pn {xs : Nat → Int32} (h0 : (xs 0 &&& 31).toInt = 14) (h1 : ¬ (xs 1 < 0)) (h2 : ((0 : Int32) ≤ xs 1)) (h3 : (xs 2 < 0)) : aj_LTF 6 xs 18 aj_lv0 [] (aj_sH (aj_rho xs) aj_h0) 98 aj_k0 := by
  refine aj_path (kn := aj_q14pn.1) aj_p14pn (fun q hq => ?_) (fun o ho => ?_)
  · exact absurd hq List.not_mem_nil
  · rcases List.mem_cons.mp ho with rfl | ho
    · exact h0
    rcases List.mem_cons.mp ho with rfl | ho
    · exact decide_eq_false h1
    rcases List.mem_cons.mp ho with rfl | ho
    · exact decide_eq_true h2
    rcases List.mem_cons.mp ho with rfl | ho
    · exact decide_eq_true h3
    rcases List.mem_cons.mp ho with rfl | ho
    · exact decide_eq_false h1
    rcases List.mem_cons.mp ho with rfl | ho
    · exact decide_eq_true h2
    exact absurd ho List.not_mem_nil
theorem aj_way14pb {xs : Nat → Int32} (h0 : (xs 0 &&& 31).toInt = 14) (h1 : ¬ (xs 1 < 0)) (h2 : ((0 : Int32) ≤ xs 1)) (h3 : ¬ (xs 2 < 0)) (h4 : ((1 : Int32) ≤ xs 2)) : aj_LTF 6 xs 18 aj_lv0 [] (aj_sH (aj_rho xs) aj_h0) 98 aj_k0 := by
  refine aj_path (kn := aj_q14pb.1) aj_p14pb (fun q hq => ?_) (fun o ho => ?_)
  · exact absurd hq List.not_mem_nil
  · rcases List.mem_cons.mp ho with rfl | ho
    · exact h0
    rcases List.mem_cons.mp ho with rfl | ho
    · exact decide_eq_false h1
    rcases List.mem_cons.mp ho with rfl | ho
    · exact decide_eq_true h2
    rcases List.mem_cons.mp ho with rfl | ho
    · exact decide_eq_false h3
    rcases List.mem_cons.mp ho with rfl | ho
    · exact decide_eq_true h4
    rcases List.mem_cons.mp ho with rfl | ho
    · exact decide_eq_false h1
    rcases List.mem_cons.mp ho with rfl | ho
    · exact decide_eq_true h2
    exact absurd ho List.not_mem_nil
theorem aj_way14pz {xs : Nat → Int32} (h0 : xs 2 = 0) (h1 : (xs 0 &&& 31).toInt = 14) (h2 : ¬ (xs 1 < 0)) (h3 : ((0 : Int32) ≤ xs 1)) : aj_LTF 6 xs 18 aj_lv0 [] (aj_sH (aj_rho xs) aj_h0) 98 aj_k0 := by
  refine aj_path (kn := aj_q14pz.1) aj_p14pz (fun q hq => ?_) (fun o ho => ?_)
  · rcases List.mem_cons.mp hq with rfl | hq
    · exact h0
    · exact absurd hq List.not_mem_nil
  · rcases List.mem_cons.mp ho with rfl | ho
    · exact h1
    rcases List.mem_cons.mp ho with rfl | ho
    · exact decide_eq_false h2
    rcases List.mem_cons.mp ho with rfl | ho
    · exact decide_eq_true h3
    rcases List.mem_cons.mp ho with rfl | ho
    · exact decide_eq_false h2
    rcases List.mem_cons.mp ho with rfl | ho
    · exact decide_eq_true h3
    exact absurd ho List.not_mem_nil
theorem aj_way18nn {xs : Nat → Int32} (h0 : (xs 0 &&& 31).toInt = 18) (h1 : (xs 1 < 0)) (h2 : (xs 2 < 0)) : aj_LTF 6 xs 18 aj_lv0 [] (aj_sH (aj_rho xs) aj_h0) 98 aj_k0 := by
  refine aj_path (kn := aj_q18nn.1) aj_p18nn (fun q hq => ?_) (fun o ho => ?_)
  · exact absurd hq List.not_mem_nil
  · rcases List.mem_cons.mp ho with rfl | ho
    · exact h0
    rcases List.mem_cons.mp ho with rfl | ho
    · exact decide_eq_true h1
    rcases List.mem_cons.mp ho with rfl | ho
    · exact decide_eq_true h2
    rcases List.mem_cons.mp ho with rfl | ho
    · exact decide_eq_true h1
    exact absurd ho List.not_mem_nil
theorem aj_way18np {xs : Nat → Int32} (h0 : (xs 0 &&& 31).toInt = 18) (h1 : (xs 1 < 0)) (h2 : ¬ (xs 2 < 0)) (h3 : ((0 : Int32) ≤ xs 2)) : aj_LTF 6 xs 18 aj_lv0 [] (aj_sH (aj_rho xs) aj_h0) 98 aj_k0 := by
  refine aj_path (kn := aj_q18np.1) aj_p18np (fun q hq => ?_) (fun o ho => ?_)
  · exact absurd hq List.not_mem_nil
  · rcases List.mem_cons.mp ho with rfl | ho
    · exact h0
    rcases List.mem_cons.mp ho with rfl | ho
    · exact decide_eq_true h1
    rcases List.mem_cons.mp ho with rfl | ho
    · exact decide_eq_false h2
    rcases List.mem_cons.mp ho with rfl | ho
    · exact decide_eq_true h3
    rcases List.mem_cons.mp ho with rfl | ho
    · exact decide_eq_true h1
    exact absurd ho List.not_mem_nil
theorem aj_way18pn {xs : Nat → Int32} (h0 : (xs 0 &&& 31).toInt = 18) (h1 : ¬ (xs 1 < 0)) (h2 : ((0 : Int32) ≤ xs 1)) (h3 : (xs 2 < 0)) : aj_LTF 6 xs 18 aj_lv0 [] (aj_sH (aj_rho xs) aj_h0) 98 aj_k0 := by
  refine aj_path (kn := aj_q18pn.1) aj_p18pn (fun q hq => ?_) (fun o ho => ?_)
  · exact absurd hq List.not_mem_nil
  · rcases List.mem_cons.mp ho with rfl | ho
    · exact h0
    rcases List.mem_cons.mp ho with rfl | ho
    · exact decide_eq_false h1
    rcases List.mem_cons.mp ho with rfl | ho
    · exact decide_eq_true h2
    rcases List.mem_cons.mp ho with rfl | ho
    · exact decide_eq_true h3
    rcases List.mem_cons.mp ho with rfl | ho
    · exact decide_eq_false h1
    rcases List.mem_cons.mp ho with rfl | ho
    · exact decide_eq_true h2
    exact absurd ho List.not_mem_nil
theorem aj_way18pp {xs : Nat → Int32} (h0 : (xs 0 &&& 31).toInt = 18) (h1 : ¬ (xs 1 < 0)) (h2 : ((0 : Int32) ≤ xs 1)) (h3 : ¬ (xs 2 < 0)) (h4 : ((0 : Int32) ≤ xs 2)) : aj_LTF 6 xs 18 aj_lv0 [] (aj_sH (aj_rho xs) aj_h0) 98 aj_k0 := by
  refine aj_path (kn := aj_q18pp.1) aj_p18pp (fun q hq => ?_) (fun o ho => ?_)
  · exact absurd hq List.not_mem_nil
  · rcases List.mem_cons.mp ho with rfl | ho
    · exact h0
    rcases List.mem_cons.mp ho with rfl | ho
    · exact decide_eq_false h1
    rcases List.mem_cons.mp ho with rfl | ho
    · exact decide_eq_true h2
    rcases List.mem_cons.mp ho with rfl | ho
    · exact decide_eq_false h3
    rcases List.mem_cons.mp ho with rfl | ho
    · exact decide_eq_true h4
    rcases List.mem_cons.mp ho with rfl | ho
    · exact decide_eq_false h1
    rcases List.mem_cons.mp ho with rfl | ho
    · exact decide_eq_true h2
    exact absurd ho List.not_mem_nil
theorem aj_way19_0 {xs : Nat → Int32} (h0 : (xs 0 &&& 31).toInt = 19) (h1 : (xs 1).toInt = 0) : aj_LTF 6 xs 18 aj_lv0 [] (aj_sH (aj_rho xs) aj_h0) 98 aj_k0 := by
  refine aj_path (kn := aj_q19_0.1) aj_p19_0 (fun q hq => ?_) (fun o ho => ?_)
  · exact absurd hq List.not_mem_nil
  · rcases List.mem_cons.mp ho with rfl | ho
    · exact h0
    rcases List.mem_cons.mp ho with rfl | ho
    · exact h1
    rcases List.mem_cons.mp ho with rfl | ho
    · exact h1
    exact absurd ho List.not_mem_nil
theorem aj_way19_1 {xs : Nat → Int32} (h0 : (xs 0 &&& 31).toInt = 19) (h1 : (xs 1).toInt = 1) : aj_LTF 6 xs 18 aj_lv0 [] (aj_sH (aj_rho xs) aj_h0) 98 aj_k0 := by
  refine aj_path (kn := aj_q19_1.1) aj_p19_1 (fun q hq => ?_) (fun o ho => ?_)
  · exact absurd hq List.not_mem_nil
  · rcases List.mem_cons.mp ho with rfl | ho
    · exact h0
    rcases List.mem_cons.mp ho with rfl | ho
    · exact h1
    rcases List.mem_cons.mp ho with rfl | ho
    · exact h1
    exact absurd ho List.not_mem_nil
theorem aj_way19_2 {xs : Nat → Int32} (h0 : (xs 0 &&& 31).toInt = 19) (h1 : (xs 1).toInt = 2) : aj_LTF 6 xs 18 aj_lv0 [] (aj_sH (aj_rho xs) aj_h0) 98 aj_k0 := by
  refine aj_path (kn := aj_q19_2.1) aj_p19_2 (fun q hq => ?_) (fun o ho => ?_)
  · exact absurd hq List.not_mem_nil
  · rcases List.mem_cons.mp ho with rfl | ho
    · exact h0
    rcases List.mem_cons.mp ho with rfl | ho
    · exact h1
    rcases List.mem_cons.mp ho with rfl | ho
    · exact h1
    exact absurd ho List.not_mem_nil
theorem aj_way19_3 {xs : Nat → Int32} (h0 : (xs 0 &&& 31).toInt = 19) (h1 : (xs 1).toInt = 3) : aj_LTF 6 xs 18 aj_lv0 [] (aj_sH (aj_rho xs) aj_h0) 98 aj_k0 := by
  refine aj_path (kn := aj_q19_3.1) aj_p19_3 (fun q hq => ?_) (fun o ho => ?_)
  · exact absurd hq List.not_mem_nil
  · rcases List.mem_cons.mp ho with rfl | ho
    · exact h0
    rcases List.mem_cons.mp ho with rfl | ho
    · exact h1
    rcases List.mem_cons.mp ho with rfl | ho
    · exact h1
    exact absurd ho List.not_mem_nil
theorem aj_way19_4 {xs : Nat → Int32} (h0 : (xs 0 &&& 31).toInt = 19) (h1 : (xs 1).toInt = 4) : aj_LTF 6 xs 18 aj_lv0 [] (aj_sH (aj_rho xs) aj_h0) 98 aj_k0 := by
  refine aj_path (kn := aj_q19_4.1) aj_p19_4 (fun q hq => ?_) (fun o ho => ?_)
  · exact absurd hq List.not_mem_nil
  · rcases List.mem_cons.mp ho with rfl | ho
    · exact h0
    rcases List.mem_cons.mp ho with rfl | ho
    · exact h1
    rcases List.mem_cons.mp ho with rfl | ho
    · exact h1
    exact absurd ho List.not_mem_nil
theorem aj_way19_5 {xs : Nat → Int32} (h0 : (xs 0 &&& 31).toInt = 19) (h1 : (xs 1).toInt = 5) : aj_LTF 6 xs 18 aj_lv0 [] (aj_sH (aj_rho xs) aj_h0) 98 aj_k0 := by
  refine aj_path (kn := aj_q19_5.1) aj_p19_5 (fun q hq => ?_) (fun o ho => ?_)
  · exact absurd hq List.not_mem_nil
  · rcases List.mem_cons.mp ho with rfl | ho
    · exact h0
    rcases List.mem_cons.mp ho with rfl | ho
    · exact h1
    rcases List.mem_cons.mp ho with rfl | ho
    · exact h1
    exact absurd ho List.not_mem_nil
theorem aj_way19_6 {xs : Nat → Int32} (h0 : (xs 0 &&& 31).toInt = 19) (h1 : (xs 1).toInt = 6) : aj_LTF 6 xs 18 aj_lv0 [] (aj_sH (aj_rho xs) aj_h0) 98 aj_k0 := by
  refine aj_path (kn := aj_q19_6.1) aj_p19_6 (fun q hq => ?_) (fun o ho => ?_)
  · exact absurd hq List.not_mem_nil
  · rcases List.mem_cons.mp ho with rfl | ho
    · exact h0
    rcases List.mem_cons.mp ho with rfl | ho
    · exact h1
    rcases List.mem_cons.mp ho with rfl | ho
    · exact h1
    exact absurd ho List.not_mem_nil
theorem aj_way19o {xs : Nat → Int32} (h0 : (xs 0 &&& 31).toInt = 19) (h1 : (xs 1).toInt < 0 ∨ 6 < (xs 1).toInt) : aj_LTF 6 xs 18 aj_lv0 [] (aj_sH (aj_rho xs) aj_h0) 98 aj_k0 := by
  refine aj_path (kn := aj_q19o.1) aj_p19o (fun q hq => ?_) (fun o ho => ?_)
  · exact absurd hq List.not_mem_nil
  · rcases List.mem_cons.mp ho with rfl | ho
    · exact h0
    rcases List.mem_cons.mp ho with rfl | ho
    · exact h1
    rcases List.mem_cons.mp ho with rfl | ho
    · exact h1
    exact absurd ho List.not_mem_nil
theorem aj_way20 {xs : Nat → Int32} (h0 : (xs 0 &&& 31).toInt < 0 ∨ 19 < (xs 0 &&& 31).toInt) : aj_LTF 6 xs 18 aj_lv0 [] (aj_sH (aj_rho xs) aj_h0) 98 aj_k0 := by
  refine aj_path (kn := aj_q20.1) aj_p20 (fun q hq => ?_) (fun o ho => ?_)
  · exact absurd hq List.not_mem_nil
  · rcases List.mem_cons.mp ho with rfl | ho
    · exact h0
    exact absurd ho List.not_mem_nil
end
section
/-! the law's way through feed -/
def aj_noU (h : aj_H) : Bool := h.all fun e => match e with
  | .inl _ => true
  | .inr (_, fs) => fs.all fun v => match v with
    | .retAddr _ => false
    | _ => true
theorem aj_noU_ok {h : aj_H} (hh : aj_noU h = true) (ρ : Nat → Int32) : aj_sH ρ h = h := by
  unfold aj_sH
  apply List.ext_getElem?
  intro j
  rw [List.getElem?_map]
  cases hj : h[j]? with
  | none => rfl
  | some e =>
    have h1 := List.all_eq_true.mp hh e (List.mem_of_getElem? hj)
    cases e with
    | inl a => rfl
    | inr o =>
      obtain ⟨ci, fs⟩ := o
      have h2 : fs.all (fun v => match v with | .retAddr _ => false | _ => true) = true := h1
      show some (Sum.inr (ci, fs.map (aj_sv ρ))) = some (Sum.inr (ci, fs))
      congr 3
      apply List.ext_getElem?
      intro k
      rw [List.getElem?_map]
      cases hk : fs[k]? with
      | none => rfl
      | some v =>
        have h3 := List.all_eq_true.mp h2 v (List.mem_of_getElem? hk)
        cases v <;> first | rfl | cases h3
def aj_ckF (h : aj_H) (oi ti ci kd k tk t : Nat) : Bool := match h[oi]?, h[ti]? with
  | some (.inr (c, fs)), some (.inl (kd', n, .inl _)) => decide (c = ci) && decide (fs[tk]? = some (.ref t)) && decide (fs[k]? = some (.int 0)) && decide (kd' = kd) && decide (n = 4000)
  | _, _ => false
theorem aj_ckF_ok {h : aj_H} {oi ti ci kd k tk t : Nat} (hc : aj_ckF h oi ti ci kd k tk t = true) : ∃ (fs : List Value) (f : Nat → Int32), h[oi]? = some (.inr (ci, fs)) ∧ h[ti]? = some (.inl (kd, 4000, .inl f)) ∧ fs[tk]? = some (.ref t) ∧ fs[k]? = some (.int 0) := by
  unfold aj_ckF at hc
  split at hc
  · rename_i c fs kd' n f h1 h2
    simp only [Bool.and_eq_true, decide_eq_true_eq] at hc
    obtain ⟨⟨⟨⟨rfl, h3⟩, h4⟩, rfl⟩, rfl⟩ := hc
    exact ⟨fs, f, h1, h2, h3, h4⟩
  · cases hc
set_option maxRecDepth 1000000 in
theorem aj_h0_facts : (aj_noU aj_h0 && aj_ckF aj_h0 0 1 10 3 1 0 53 && aj_ckF aj_h0 65 86 11 4 23 22 138) = true := by decide +kernel
theorem aj_hp_other {h : aj_H} {oi ti ci kd n k j : Nat} {fs : List Value} {v : Int32} {f : Nat → Int32} (h1 : oi ≠ j) (h2 : ti ≠ j) : (aj_hp h oi ti ci kd n k fs v f)[j]? = h[j]? := by
  unfold aj_hp
  rw [List.getElem?_set, if_neg h1, List.getElem?_set, if_neg h2]
theorem aj_in6 {j : Nat} (h : j < 6) : aj_in (nI j) 6 = true := aj_in_nI h (by omega)
set_option maxRecDepth 100000 in
theorem aj_way0 {xs : Nat → Int32} (hx : (xs 0 &&& 31).toInt = 0) : aj_LTF 6 xs 18 aj_lv0 [] (aj_sH (aj_rho xs) aj_h0) 98 aj_k0 := by
  have hf := aj_h0_facts
  simp only [Bool.and_eq_true] at hf
  obtain ⟨⟨f1, f2⟩, f3⟩ := hf
  rw [aj_noU_ok f1]
  obtain ⟨fs, f, a1, a2, a3, a4⟩ := aj_ckF_ok f2
  obtain ⟨fm, g, b1, b2, b3, b4⟩ := aj_ckF_ok f3
  have l1 := (List.getElem?_eq_some_iff.mp b2).1
  generalize aj_h0 = h at *
  have hk : 98 ≤ 98 ∧ aj_k0 ≤ 500000 := ⟨Nat.le_refl _, aj_k0_le⟩
  generalize aj_k0 = k0 at hk ⊢
  have hl := aj_tb_len 6 xs
  have hs0 : aj_hp h 0 1 10 3 4000 1 fs (nI 0) f = h := aj_hp_id a1 a2 (by rw [a4, nI_0])
  obtain ⟨g1, r1⟩ := aj_feed_ok (tb := aj_tb 6 xs) (h := h) 18 0 1 fs 0 f (xs 1) (xs 2) (xs 3) (xs 4) (xs 5) (by omega) (by omega) (by decide) (by rw [hl]; exact a3) (List.getElem?_eq_some_iff.mp a4).1 (by omega)
  rw [hs0, hl] at r1
  have c1 : (aj_hp h 0 1 10 3 4000 1 fs (nI (0 + 20)) g1)[65]? = some (.inr (11, fm)) := by rw [aj_hp_other (by decide) (by decide)]; exact b1
  have c2 : (aj_hp h 0 1 10 3 4000 1 fs (nI (0 + 20)) g1)[86]? = some (.inl (4, 4000, .inl g)) := by rw [aj_hp_other (by decide) (by decide)]; exact b2
  have hs1 := aj_hp_id c1 c2 (v := nI 0) (k := 23) (by rw [b4, nI_0])
  obtain ⟨g2, r2⟩ := aj_feedM_ok (tb := aj_tb 6 xs) (h := aj_hp h 0 1 10 3 4000 1 fs (nI (0 + 20)) g1) 18 65 86 fm 0 g (xs 1) (xs 2) (xs 3) (xs 4) (xs 5) (by rw [aj_hp_len]; omega) (by rw [aj_hp_len]; omega) (by decide) (by rw [hl]; exact b3) (List.getElem?_eq_some_iff.mp b4).1 (by omega)
  rw [hs1, hl] at r2
  have q1 : aj_runs aj_rc aj_cls (aj_tb 6 xs) aj_mt 20 16 (.ref 52 :: ([.int (xs 5), .int (xs 4), .int (xs 3), .int (xs 2), .int (xs 1)] : List Value).reverse) h 0 0 (some (.int (nI (0 + 20)))) (aj_hp h 0 1 10 3 4000 1 fs (nI (0 + 20)) g1) := by
    have e : ([.int (xs 5), .int (xs 4), .int (xs 3), .int (xs 2), .int (xs 1)] : List Value).reverse = [.int (xs 1), .int (xs 2), .int (xs 3), .int (xs 4), .int (xs 5)] := rfl
    rw [e]
    exact r1
  have q2 : aj_runs aj_rc aj_cls (aj_tb 6 xs) aj_mt 20 200 (.ref 117 :: ([.int (xs 5), .int (xs 4), .int (xs 3), .int (xs 2), .int (xs 1)] : List Value).reverse) (aj_hp h 0 1 10 3 4000 1 fs (nI (0 + 20)) g1) 0 0 (some (.int (nI (0 + 20)))) (aj_hp (aj_hp h 0 1 10 3 4000 1 fs (nI (0 + 20)) g1) 65 86 11 4 4000 23 fm (nI (0 + 20)) g2) := by
    have e : ([.int (xs 5), .int (xs 4), .int (xs 3), .int (xs 2), .int (xs 1)] : List Value).reverse = [.int (xs 1), .int (xs 2), .int (xs 3), .int (xs 4), .int (xs 5)] := rfl
    rw [e]
    exact r2
  have harr : ∀ h : aj_H, aj_arr (aj_tb 6 xs) h 51 = some (0, 6, .inl xs) := fun h => by
    unfold aj_arr
    rw [if_pos (aj_sid 6 xs).1]
    exact (aj_sid 6 xs).2
  have ho1 : aj_obj (aj_tb 6 xs) h 52 = some (10, fs) := by
    unfold aj_obj
    rw [hl, if_neg (by decide)]
    show (match h[0]? with | some (.inr a) => some a | _ => none) = _
    rw [a1]
  have ho2 : aj_obj (aj_tb 6 xs) (aj_hp h 0 1 10 3 4000 1 fs (nI (0 + 20)) g1) 117 = some (11, fm) := by
    unfold aj_obj
    rw [hl, if_neg (by decide)]
    show (match (aj_hp h 0 1 10 3 4000 1 fs (nI (0 + 20)) g1)[65]? with | some (.inr a) => some a | _ => none) = _
    rw [c1]
  refine ⟨aj_hp (aj_hp h 0 1 10 3 4000 1 fs (nI (0 + 20)) g1) 65 86 11 4 4000 23 fm (nI (0 + 20)) g2, ?_⟩
  refine aj_tn aj_ctL hk rfl rfl ?_
  refine aj_tn aj_ctL hk rfl rfl ?_
  refine aj_tl aj_ctL hk rfl (harr _) (by decide) ?_
  refine aj_tn aj_ctL hk rfl rfl ?_
  refine aj_tn aj_ctL hk rfl rfl ?_
  refine aj_tc (tgt := 764) aj_ctL hk rfl rfl (fun z => by exact absurd z (by decide)) (fun _ => ?_)
  refine aj_tn aj_ctL hk rfl rfl ?_
  refine aj_tn aj_ctL hk rfl rfl ?_
  refine aj_ta (kd := 0) aj_ctL hk (Or.inl ⟨rfl, rfl⟩) rfl (harr _) rfl ?_
  refine aj_tn aj_ctL hk rfl rfl ?_
  refine aj_tn aj_ctL hk rfl rfl ?_
  have hx' : ((fun x y : Int32 => x &&& y) (xs (Int32.toNatClampNeg 0)) (Int8.ofInt 31).toInt32).toInt = 0 := hx
  refine aj_tn (pc' := 128) (lv' := aj_lv0) (st' := []) (h' := h) aj_ctL hk rfl ?_ ?_
  · unfold aj_step
    dsimp only
    rw [show (xs (Int32.toNatClampNeg 0) &&& (Int8.ofInt 31).toInt32).toInt = 0 from hx, if_neg (by decide)]
    rfl
  refine aj_tn aj_ctL hk rfl rfl ?_
  refine aj_tn aj_ctL hk rfl rfl ?_
  refine aj_tn aj_ctL hk rfl rfl ?_
  refine aj_tn aj_ctL hk rfl rfl ?_
  refine aj_tn aj_ctL hk rfl rfl ?_
  refine aj_ta (kd := 0) aj_ctL hk (Or.inl ⟨rfl, rfl⟩) rfl (harr _) rfl ?_
  refine aj_tn aj_ctL hk rfl rfl ?_
  refine aj_tn aj_ctL hk rfl rfl ?_
  refine aj_tn aj_ctL hk rfl rfl ?_
  refine aj_tn aj_ctL hk rfl rfl ?_
  refine aj_ta (kd := 0) aj_ctL hk (Or.inl ⟨rfl, rfl⟩) rfl (harr _) rfl ?_
  refine aj_tn aj_ctL hk rfl rfl ?_
  refine aj_tn aj_ctL hk rfl rfl ?_
  refine aj_tn aj_ctL hk rfl rfl ?_
  refine aj_tn aj_ctL hk rfl rfl ?_
  refine aj_ta (kd := 0) aj_ctL hk (Or.inl ⟨rfl, rfl⟩) rfl (harr _) rfl ?_
  refine aj_tn aj_ctL hk rfl rfl ?_
  refine aj_tn aj_ctL hk rfl rfl ?_
  refine aj_tn aj_ctL hk rfl rfl ?_
  refine aj_tn aj_ctL hk rfl rfl ?_
  refine aj_ta (kd := 0) aj_ctL hk (Or.inl ⟨rfl, rfl⟩) rfl (harr _) rfl ?_
  refine aj_tn aj_ctL hk rfl rfl ?_
  refine aj_tn aj_ctL hk rfl rfl ?_
  refine aj_tn aj_ctL hk rfl rfl ?_
  refine aj_tn aj_ctL hk rfl rfl ?_
  refine aj_ta (kd := 0) aj_ctL hk (Or.inl ⟨rfl, rfl⟩) rfl (harr _) rfl ?_
  refine aj_tiv (call := aj_runs aj_rc aj_cls (aj_tb 6 xs) aj_mt 20) (mi := 16) (mc' := 0) (ms' := 0) (r' := some (.int (nI (0 + 20)))) (kc := 98) (ks := k0) (mc := 98) (ms := 500000) aj_ctL rfl rfl [.int (xs 5), .int (xs 4), .int (xs 3), .int (xs 2), .int (xs 1)] rfl rfl ho1 rfl (by decide) rfl q1 ?_ ?_ ?_
  · simp [aj_hp_len]
  · exact hk
  refine aj_tn aj_ctL hk rfl rfl ?_
  refine aj_tn aj_ctL hk rfl rfl ?_
  refine aj_tn aj_ctL hk rfl rfl ?_
  refine aj_tn aj_ctL hk rfl rfl ?_
  refine aj_tn aj_ctL hk rfl rfl ?_
  refine aj_ta (kd := 0) aj_ctL hk (Or.inl ⟨rfl, rfl⟩) rfl (harr _) rfl ?_
  refine aj_tn aj_ctL hk rfl rfl ?_
  refine aj_tn aj_ctL hk rfl rfl ?_
  refine aj_tn aj_ctL hk rfl rfl ?_
  refine aj_tn aj_ctL hk rfl rfl ?_
  refine aj_ta (kd := 0) aj_ctL hk (Or.inl ⟨rfl, rfl⟩) rfl (harr _) rfl ?_
  refine aj_tn aj_ctL hk rfl rfl ?_
  refine aj_tn aj_ctL hk rfl rfl ?_
  refine aj_tn aj_ctL hk rfl rfl ?_
  refine aj_tn aj_ctL hk rfl rfl ?_
  refine aj_ta (kd := 0) aj_ctL hk (Or.inl ⟨rfl, rfl⟩) rfl (harr _) rfl ?_
  refine aj_tn aj_ctL hk rfl rfl ?_
  refine aj_tn aj_ctL hk rfl rfl ?_
  refine aj_tn aj_ctL hk rfl rfl ?_
  refine aj_tn aj_ctL hk rfl rfl ?_
  refine aj_ta (kd := 0) aj_ctL hk (Or.inl ⟨rfl, rfl⟩) rfl (harr _) rfl ?_
  refine aj_tn aj_ctL hk rfl rfl ?_
  refine aj_tn aj_ctL hk rfl rfl ?_
  refine aj_tn aj_ctL hk rfl rfl ?_
  refine aj_tn aj_ctL hk rfl rfl ?_
  refine aj_ta (kd := 0) aj_ctL hk (Or.inl ⟨rfl, rfl⟩) rfl (harr _) rfl ?_
  refine aj_tiv (call := aj_runs aj_rc aj_cls (aj_tb 6 xs) aj_mt 20) (mi := 200) (mc' := 0) (ms' := 0) (r' := some (.int (nI (0 + 20)))) (kc := 98) (ks := k0) (mc := 98) (ms := 500000) aj_ctL rfl rfl [.int (xs 5), .int (xs 4), .int (xs 3), .int (xs 2), .int (xs 1)] rfl rfl ho2 rfl (by decide) rfl q2 ?_ ?_ ?_
  · simp [aj_hp_len]
  · exact hk
  refine aj_tc (tgt := 758) aj_ctL hk rfl rfl (fun _ => ?_) (fun z => by exact absurd z (by decide))
  refine aj_tn aj_ctL hk rfl rfl ?_
  refine aj_tn aj_ctL hk rfl rfl ?_
  refine aj_tn aj_ctL hk rfl rfl ?_
  refine aj_tn aj_ctL hk rfl rfl ?_
  refine aj_tl aj_ctL hk rfl (harr _) (by decide) ?_
  refine aj_tn aj_ctL hk rfl rfl ?_
  refine aj_tn aj_ctL hk rfl rfl ?_
  refine aj_tc (tgt := 764) aj_ctL hk rfl rfl (fun _ => ?_) (fun z => by exact absurd z (by decide))
  refine aj_tn aj_ctL hk rfl rfl ?_
  exact aj_te aj_ctL rfl rfl
end
section
/-! THE PLACES OF WHAT HOLDS AT THE ENTRY (printed by wip/p1/gen_entry.py) -/
def aj_ip : List (Nat × Nat) := [(9, 405), (7, 445), (11, 553), (16, 350), (7, 314), (4, 597), (5, 476), (18, 194), (4, 295), (15, 439), (14, 186), (72, 1549)]
def aj_sp : List (Nat × Nat × Nat) := [(708, 170, 5), (789, 180, 18), (791, 180, 30), (793, 180, 43), (795, 180, 57), (797, 180, 66), (799, 180, 77), (804, 180, 80), (806, 180, 86), (808, 180, 91), (810, 180, 97), (812, 180, 102), (814, 180, 107), (816, 180, 113), (818, 180, 120), (820, 180, 127), (825, 180, 133), (827, 180, 138), (829, 180, 145), (831, 180, 150), (833, 180, 157), (835, 180, 165), (837, 180, 173), (842, 180, 180), (844, 180, 185), (846, 180, 190), (848, 180, 195), (850, 180, 200), (852, 180, 206), (854, 180, 212), (859, 180, 217), (861, 180, 222), (863, 180, 230), (865, 180, 238), (867, 180, 243), (869, 180, 251), (871, 180, 260), (876, 180, 266), (878, 180, 274), (880, 180, 286), (882, 180, 297), (884, 180, 311), (886, 180, 318), (888, 180, 324), (890, 180, 329), (892, 180, 333), (894, 180, 340), (899, 180, 346), (901, 180, 351), (903, 180, 358), (905, 180, 365)]
theorem aj_rcl : aj_cl[aj_rc]? = some ("DimShelf$Rows", aj_T6, 5) := rfl
theorem aj_tbl_len : lw_tbl.length = 2220 ∧ aj_tbS.length = 51 ∧ aj_sf.length = 51 := by decide +kernel
/-! WHAT HOLDS AT THE LAW'S ENTRY -/
theorem aj_D_of {s : State} {args : Array Value} (hts : ∀ w ∈ lw_tbl, w.before args s = true) : ∃ D : va_G, ∀ (ci : Nat) (q : vw_C), aj_cl[ci]? = some q → u_Kn s q.1 q.2.1 q.2.2 (D.1 ci) (D.2 ci) := by
  have hck : (aj_cls.zip aj_ip).all (fun q => decide (lw_tbl[q.2.2]? = some (Cond.instantiable q.1.1 q.2.1))) = true := by decide +kernel
  have hl : aj_cls.length = aj_ip.length := by decide +kernel
  have h : ∀ ci : Nat, ∃ x : ClassId × (Nat → Nat), ∀ q : vw_C, aj_cl[ci]? = some q → u_Kn s q.1 q.2.1 q.2.2 x.1 x.2 := by
    intro ci
    cases hq : aj_cls[ci]? with
    | none => exact ⟨((0 : Nat), fun _ => 0), fun q h => by simp [aj_cl, hq] at h⟩
    | some q' =>
      have hi1 := (List.getElem?_eq_some_iff.mp hq).1
      have h2 : (aj_cls.zip aj_ip)[ci]? = some (q', aj_ip[ci]'(by omega)) := by
        rw [List.getElem?_zip_eq_some]
        exact ⟨hq, List.getElem?_eq_getElem _⟩
      have h3 := of_decide_eq_true (List.all_eq_true.mp hck _ (List.mem_of_getElem? h2))
      obtain ⟨e1, e2, -, -⟩ := aj_clsOK1 ci q' hq
      obtain ⟨cC, iS, hk⟩ := u_known (ws := aj_Tg) (fun w hw => hts w (List.mem_filter.mp hw).1) e2 (hts _ (List.mem_of_getElem? h3))
      refine ⟨(cC, iS), fun q h => ?_⟩
      rw [e1] at h
      cases h
      exact hk
  exact ⟨(fun c => (Classical.choose (h c)).1, fun c => (Classical.choose (h c)).2), fun ci q hq => Classical.choose_spec (h ci) q hq⟩
theorem aj_cA_of {s : State} {args : Array Value} (hts : ∀ w ∈ lw_tbl, w.before args s = true) : ∃ cA : Nat → ClassId, (∀ (k : Nat) (q : ClassId × FieldType), ((List.range 6).map fun k => (cA k, aj_ty "DimShelf$Rows" k))[k]? = some q → ArrOfT s q.1 q.2 ∧ va_RA s q.1 q.2) ∧ va_AO "DimShelf$Rows" s := by
  have hp : lw_tbl[aj_AOp]? = some (Cond.arrayOver (.object "DimShelf$Rows")) := by decide +kernel
  have hao := hts _ (List.mem_of_getElem? hp)
  have h : ∀ k : Nat, ∃ cA : ClassId, ArrOfT s cA (aj_ty "DimShelf$Rows" k) ∧ va_RA s cA (aj_ty "DimShelf$Rows" k) := by
    intro k
    by_cases hk : k < 5
    · obtain ⟨c, kk, comp, h1, h2, h3⟩ := Cond.arrayClass_spec (hts _ (List.mem_filter.mp (aj_arrOK k hk)).1)
      refine ⟨c, fun N z => ⟨(fun k h => by cases h), kk, h2, comp, h3⟩, ?_⟩
      have hk' : k = 0 ∨ k = 1 ∨ k = 2 ∨ k = 3 ∨ k = 4 := by omega
      rcases hk' with rfl | rfl | rfl | rfl | rfl <;> exact h1
    · obtain ⟨comp, c, kk, h1, -, h3, h4, h5⟩ := Cond.arrayOver_spec hao
      have e : aj_ty "DimShelf$Rows" k = .object "DimShelf$Rows" := by
        obtain ⟨j, rfl⟩ : ∃ j, k = j + 5 := ⟨k - 5, by omega⟩
        rfl
      rw [e]
      exact ⟨c, fun N z => ⟨(fun k h => by cases h), kk, h3, comp, h4⟩, kk, comp, h3, h4, h1, h5⟩
  refine ⟨fun k => Classical.choose (h k), fun k q hq => ?_, va_AO.of hao⟩
  rw [List.getElem?_map] at hq
  obtain ⟨j, -, rfl⟩ := Option.map_eq_some_iff.mp hq
  exact Classical.choose_spec (h j)
def aj_G : List Cond := flatC (Jvm.Cond.and given_1 narrow_1)
def aj_stE (q : String × String × String) : Term := .static q.1 q.2.1 q.2.2
/-- the words of one static array, by their places -/
def aj_ckZ (q : (String × String × String) × (Nat × vp_A)) (p : Nat × Nat × Nat) : Bool := decide (lw_tbl[p.1]? = some (.laysStatic q.1.1 q.1.2.1 q.1.2.2)) && decide (lw_tbl[p.2.1]? = some (.initialized q.1.1)) && decide (aj_G[p.2.2]? = some (.arrayOf (aj_stE q.1) (aj_ty "DimShelf$Rows" q.2.1))) && decide (aj_G[p.2.2 + 1]? = some (.eq (.length (aj_stE q.1)) (.int (Int32.ofNat q.2.2.1)))) && decide (q.2.2.1 < 2147483648) && (match q.2.2.2 with
  | .inl f => (List.range q.2.2.1).all fun j => decide (aj_G[p.2.2 + 2 + j]? = some (.eq (.elem (aj_stE q.1) (.int (Int32.ofNat j))) (.int (f j))))
  | .inr (.inl f) => (List.range q.2.2.1).all fun j => decide (aj_G[p.2.2 + 2 + j]? = some (.eq (.elem (aj_stE q.1) (.int (Int32.ofNat j))) (.long (f j))))
  | _ => false)
set_option maxRecDepth 1000000 in
theorem aj_ckZ_all : ((aj_sf.zip aj_tbS).zip aj_sp).all (fun q => aj_ckZ q.1 q.2) = true := by decide +kernel
theorem aj_sp_len : aj_sp.length = 51 := by decide +kernel
theorem aj_Z_one {s : State} {args : Array Value} {A : Nat → Prop} (hts : ∀ w ∈ lw_tbl, w.before args s = true) (hG : ∀ w ∈ aj_G, w.before args s = true) (hA : ∀ a : Nat, a < s.heap.size → ¬ A a) {q : (String × String × String) × (Nat × vp_A)} {p : Nat × Nat × Nat} (h : aj_ckZ q p = true) : ∃ t : Nat, va_Z q.1.1 q.1.2.1 q.1.2.2 (.ref t) A s s.heap ∧ va_T (aj_ty "DimShelf$Rows" q.2.1) t q.2.2.1 (aj_tv q.2.2) A s s.heap := by
  obtain ⟨⟨C, n, d⟩, k, N, x⟩ := q
  unfold aj_ckZ at h
  simp only [Bool.and_eq_true, decide_eq_true_eq] at h
  obtain ⟨⟨⟨⟨⟨h1, h2⟩, h3⟩, h4⟩, h5⟩, h6⟩ := h
  have g := fun (k : Nat) (w : Cond) (e : aj_G[k]? = some w) => hG w (List.mem_of_getElem? e)
  have fin : ∀ {f : Nat → Value}, (∀ j : Nat, j < N → (Term.elem (aj_stE (C, n, d)) (.int (Int32.ofNat j))).eval args s none [] s = some (f j)) → ∃ t : Nat, va_Z C n d (.ref t) A s s.heap ∧ va_T (aj_ty "DimShelf$Rows" k) t N f A s s.heap := by
    intro f hf
    obtain ⟨t, ht, hT⟩ := va_Tof (f := f) (A := A) (N := N) h5 (g _ _ h3) (va_eqt (g _ _ h4)) hf hA
    exact ⟨t, va_Zref (hts _ (List.mem_of_getElem? h1)) (hts _ (List.mem_of_getElem? h2)) ht hA, hT⟩
  rcases x with f | f | f | f | f
  · exact fin (f := fun j => .int (f j)) fun j hj => va_eqt (g _ _ (of_decide_eq_true (List.all_eq_true.mp h6 j (List.mem_range.mpr hj))))
  · exact fin (f := fun j => .long (f j)) fun j hj => va_eqtl (g _ _ (of_decide_eq_true (List.all_eq_true.mp h6 j (List.mem_range.mpr hj))))
  all_goals cases h6
theorem aj_Z1 {s : State} {args : Array Value} {b L : Nat} {xs : Nat → Int32} (hts : ∀ w ∈ lw_tbl, w.before args s = true) (hG : ∀ w ∈ aj_G, w.before args s = true) (hX : va_X b L xs s s.heap) (hb : b < s.heap.size) : ∃ stA : Nat → Nat, stA 51 = b ∧ aj_Z "DimShelf$Rows" (aj_tb L xs) stA aj_sf (fun q => s.heap.size ≤ q) s s.heap := by
  have hA : ∀ a : Nat, a < s.heap.size → ¬ (fun q => s.heap.size ≤ q) a := fun a h1 h2 => by dsimp only at h2; omega
  obtain ⟨-, l2, l3⟩ := aj_tbl_len
  have l4 := aj_sp_len
  have h : ∀ i : Nat, ∃ t : Nat, ∀ (q : String × String × String) (y : Nat × vp_A), aj_sf[i]? = some q → aj_tbS[i]? = some y → va_Z q.1 q.2.1 q.2.2 (.ref t) (fun q => s.heap.size ≤ q) s s.heap ∧ va_T (aj_ty "DimShelf$Rows" y.1) t y.2.1 (aj_tv y.2) (fun q => s.heap.size ≤ q) s s.heap := by
    intro i
    by_cases hi : i < 51
    · have e1 : aj_sf[i]? = some (aj_sf[i]'(by omega)) := List.getElem?_eq_getElem _
      have e2 : aj_tbS[i]? = some (aj_tbS[i]'(by omega)) := List.getElem?_eq_getElem _
      have e3 : aj_sp[i]? = some (aj_sp[i]'(by omega)) := List.getElem?_eq_getElem _
      have e4 : ((aj_sf.zip aj_tbS).zip aj_sp)[i]? = some ((aj_sf[i]'(by omega), aj_tbS[i]'(by omega)), aj_sp[i]'(by omega)) := by
        rw [List.getElem?_zip_eq_some]
        refine ⟨?_, e3⟩
        rw [List.getElem?_zip_eq_some]
        exact ⟨e1, e2⟩
      obtain ⟨t, h1, h2⟩ := aj_Z_one hts hG hA (List.all_eq_true.mp aj_ckZ_all _ (List.mem_of_getElem? e4))
      refine ⟨t, fun q y hq hy => ?_⟩
      rw [e1] at hq
      rw [e2] at hy
      cases hq
      cases hy
      exact ⟨h1, h2⟩
    · refine ⟨0, fun q y hq _ => ?_⟩
      have := (List.getElem?_eq_some_iff.mp hq).1
      omega
  refine ⟨fun i => if i = 51 then b else Classical.choose (h i), if_pos rfl, fun i q hq => ?_, fun i k x hx => ?_⟩
  · have hi := (List.getElem?_eq_some_iff.mp hq).1
    have e : (if i = 51 then b else Classical.choose (h i)) = Classical.choose (h i) := if_neg (by omega)
    show va_Z q.1 q.2.1 q.2.2 (.ref (if i = 51 then b else Classical.choose (h i))) _ s s.heap
    rw [e]
    exact (Classical.choose_spec (h i) q _ hq (List.getElem?_eq_getElem (by omega))).1
  · show va_T (aj_ty "DimShelf$Rows" k) (if i = 51 then b else Classical.choose (h i)) x.1 (aj_tv x) _ s s.heap
    unfold aj_tb at hx
    by_cases hi : i < 51
    · have e : (if i = 51 then b else Classical.choose (h i)) = Classical.choose (h i) := if_neg (by omega)
      rw [e]
      rw [List.getElem?_append_left (by omega)] at hx
      exact (Classical.choose_spec (h i) _ _ (List.getElem?_eq_getElem (by omega)) hx).2
    · rw [List.getElem?_append_right (by omega)] at hx
      cases hz : i - aj_tbS.length with
      | zero =>
        rw [hz] at hx
        cases hx
        rw [if_pos (by omega)]
        obtain ⟨scr, h1, h2, h3, h4, h5⟩ := hX
        exact ⟨scr, h1, h2, h3, Nat.le_of_eq h4.symm, by rw [h4], h5, hA b hb⟩
      | succ n =>
        rw [hz] at hx
        cases hx
end
section
/-! EVERY SCRIPT -/
theorem aj_zb {v : Int32} (h : ¬ v < 0) (h0 : v ≠ 0) : (1 : Int32) ≤ v := by
  rw [Int32.lt_iff_toInt_lt] at h
  rw [Int32.le_iff_toInt_le]
  have h1 : v.toInt ≠ (0 : Int32).toInt := fun e => h0 (Int32.toInt_inj.mp e)
  have e0 : (0 : Int32).toInt = 0 := rfl
  have e1 : (1 : Int32).toInt = 1 := rfl
  omega
theorem aj_zp {v : Int32} (h : ¬ v < 0) : (0 : Int32) ≤ v := by
  rw [Int32.lt_iff_toInt_lt] at h
  rw [Int32.le_iff_toInt_le]
  omega
theorem aj_zl {v : Int32} (h : ¬ v < 0) (h0 : v ≠ 0) : ¬ v ≤ 0 := by
  have h1 := aj_zb h h0
  rw [Int32.le_iff_toInt_le] at *
  have e0 : (0 : Int32).toInt = 0 := rfl
  have e1 : (1 : Int32).toInt = 1 := rfl
  omega
theorem aj_all6 (xs : Nat → Int32) : aj_LTF 6 xs 18 aj_lv0 [] (aj_sH (aj_rho xs) aj_h0) 98 aj_k0 := by
  by_cases ho : (xs 0 &&& 31).toInt < 0 ∨ 19 < (xs 0 &&& 31).toInt
  · exact aj_way20 ho
  · obtain ⟨k, hk⟩ : ∃ k : Nat, (xs 0 &&& 31).toInt = (k : Int) := ⟨(xs 0 &&& 31).toInt.toNat, by omega⟩
    have hk19 : k ≤ 19 := by omega
    have hj : k = 0 ∨ k = 1 ∨ k = 2 ∨ k = 3 ∨ k = 4 ∨ k = 5 ∨ k = 6 ∨ k = 7 ∨ k = 8 ∨ k = 9 ∨ k = 10 ∨ k = 11 ∨ k = 12 ∨ k = 13 ∨ k = 14 ∨ k = 15 ∨ k = 16 ∨ k = 17 ∨ k = 18 ∨ k = 19 := by omega
    have z1 : ¬ xs 1 < 0 → (0 : Int32) ≤ xs 1 := aj_zp
    have z2 : ¬ xs 2 < 0 → (0 : Int32) ≤ xs 2 := aj_zp
    rcases hj with rfl | rfl | rfl | rfl | rfl | rfl | rfl | rfl | rfl | rfl | rfl | rfl | rfl | rfl | rfl | rfl | rfl | rfl | rfl | rfl
    · exact aj_way0 hk
    · by_cases a : xs 1 < 0
      · exact aj_way1A hk a
      · by_cases z : xs 1 = 0
        · exact aj_way1C z hk
        · exact aj_way1B hk a (aj_zl a z)
    · exact aj_way2 hk
    · exact aj_way3 hk
    · exact aj_way4 hk
    · exact aj_way5 hk
    · exact aj_way6 hk
    · exact aj_way7 hk
    · by_cases a : xs 1 < 0
      · exact aj_way8n hk a
      · by_cases z : xs 1 = 0
        · by_cases c : xs 2 < 0
          · exact aj_way8zn z hk c
          · exact aj_way8zp z hk c
        · by_cases c : xs 2 < 0
          · exact aj_way8bn hk a (aj_zb a z) c
          · exact aj_way8bp hk a (aj_zb a z) c
    · by_cases a : xs 1 < 0
      · exact aj_way9n hk a
      · exact aj_way9p hk a (z1 a)
    · by_cases a : xs 1 < 0
      · exact aj_way10n hk a
      · exact aj_way10p hk a (z1 a)
    · by_cases a : xs 1 < 0
      · exact aj_way11n hk a
      · exact aj_way11p hk a (z1 a)
    · by_cases a : xs 1 < 0
      · by_cases z : xs 3 = 0
        · exact aj_way12nz z hk a
        · by_cases c : xs 3 < 0
          · exact aj_way12nn hk a c
          · exact aj_way12nb hk a c (aj_zb c z)
      · by_cases z : xs 3 = 0
        · exact aj_way12pz z hk a (z1 a)
        · by_cases c : xs 3 < 0
          · exact aj_way12pn hk a (z1 a) c
          · exact aj_way12pb hk a (z1 a) c (aj_zb c z)
    · by_cases a : xs 1 < 0
      · by_cases z : xs 2 = 0
        · exact aj_way13nz z hk a
        · by_cases c : xs 2 < 0
          · exact aj_way13nn hk a c
          · exact aj_way13nb hk a c (aj_zb c z)
      · by_cases z : xs 2 = 0
        · exact aj_way13pz z hk a (z1 a)
        · by_cases c : xs 2 < 0
          · exact aj_way13pn hk a (z1 a) c
          · exact aj_way13pb hk a (z1 a) c (aj_zb c z)
    · by_cases a : xs 1 < 0
      · by_cases z : xs 2 = 0
        · exact aj_way14nz z hk a
        · by_cases c : xs 2 < 0
          · exact aj_way14nn hk a c
          · exact aj_way14nb hk a c (aj_zb c z)
      · by_cases z : xs 2 = 0
        · exact aj_way14pz z hk a (z1 a)
        · by_cases c : xs 2 < 0
          · exact aj_way14pn hk a (z1 a) c
          · exact aj_way14pb hk a (z1 a) c (aj_zb c z)
    · by_cases a : xs 1 < 0
      · exact aj_way15n hk a
      · exact aj_way15p hk a (z1 a)
    · by_cases a : xs 1 < 0
      · exact aj_way16n hk a
      · exact aj_way16p hk a (z1 a)
    · by_cases a : xs 1 < 0
      · exact aj_way17n hk a
      · exact aj_way17p hk a (z1 a)
    · by_cases a : xs 1 < 0
      · by_cases c : xs 2 < 0
        · exact aj_way18nn hk a c
        · exact aj_way18np hk a c (z2 c)
      · by_cases c : xs 2 < 0
        · exact aj_way18pn hk a (z1 a) c
        · exact aj_way18pp hk a (z1 a) c (z2 c)
    · by_cases a : (xs 1).toInt < 0 ∨ 6 < (xs 1).toInt
      · exact aj_way19o hk a
      · have hj : (xs 1).toInt = 0 ∨ (xs 1).toInt = 1 ∨ (xs 1).toInt = 2 ∨ (xs 1).toInt = 3 ∨ (xs 1).toInt = 4 ∨ (xs 1).toInt = 5 ∨ (xs 1).toInt = 6 := by omega
        rcases hj with j | j | j | j | j | j | j
        · exact aj_way19_0 hk j
        · exact aj_way19_1 hk j
        · exact aj_way19_2 hk j
        · exact aj_way19_3 hk j
        · exact aj_way19_4 hk j
        · exact aj_way19_5 hk j
        · exact aj_way19_6 hk j
theorem aj_every {L : Nat} (hL : L ≤ 6) (xs : Nat → Int32) : aj_LTF L xs 0 [(0, .ref 51)] [] [] 0 0 := by
  by_cases h : L < 6
  · exact aj_short h xs
  · have : L = 6 := by omega
    subst this
    exact aj_enter (aj_all6 xs)
end
section
/-! THE CLAIM OUT OF ONE WALK OF THE LAW'S BODY. Your part is whole_start (and what it stands on); all else here is the same for every law, but numbers. -/
def R_law : String := "DimShelfLaw"
def lw_P (b : Addr) (xs : List Int32) (args : Array Value) (s : State) : Prop := args = #[.ref b] ∧ s.IntsAt b xs ∧ xs.length ≤ 6 ∧ (Jvm.Cond.and given_1 narrow_1).before args s = true
def lw_Q (_ : Array Value) (s : State) (o : Outcome) (t : State) : Prop := o = .returned (some (.int 1)) ∧ Framed s o t [] 600000 7302250
def lw_Z (below : List Frame) (a : Array Value) (s : State) : State → Prop := fun t => ∃ o, t.status = .running ∧ Ended t below o ∧ lw_Q a s o t
/-- the law's own end, with 1 on the stack, nothing written that was there before, its room as the claim has it -/
theorem lw_ret {p : Program} {l : Launch} {e : Env} {s : State} {m : MethodId} {below : List Frame} {meth : Method} {c : Code} {b : Nat} (hx : p.tables.exec = Jvm.exec) (hb : c.code = code) (hr : meth.sig.returnType = ret) (hlocks : meth.locks = false) {pc : Nat} {H : Heap} {ls : Array Slot} (hdg : decode code pc = .ok (.ireturn, 1)) : W p l e room_1 s m #[Value.ref b] below meth c H [] 600000 7302250 (lw_Z below #[Value.ref b] s) (F0 m pc ls [.int 1]) := by
  intro T hT X
  obtain ⟨fs, hret, hrun, hended, hW, hframe⟩ := X.leave (v := some (.int 1)) (hlocks := hlocks) (fun h => by rw [hr] at h; cases h)
  have hmeth' : T.vm.method? m = some meth := X.method'
  refine ⟨T.setFrames fs, ?_, .returned (some (.int 1)), hrun, hended, rfl, ⟨_, rfl⟩, hW, hframe⟩
  jvm_step X.here [X.here.top, hx, hb, hdg, hmeth', hr, ret, narrow_b1]
  (try refine ⟨rfl, ?_⟩); (try refine ⟨rfl, ?_⟩)
  first | (intro acts; rw [hret _ acts rfl rfl rfl]) | rw [hret _ _ rfl rfl rfl]
  exact Steps.refl _
/-- what holds at the law's entry: the machine, the code, the tables' words (any of lw_tbl by 'hts w (by decide +kernel)'), the script of L ints xs at the cell b, what the Statement gives of the start (any of its parts by flat_of_before) -/
def lw_At (p : Program) (s : State) (m : MethodId) (meth : Method) (c : Code) (b L : Nat) (xs : Nat → Int32) : Prop :=
  p.tables.exec = Jvm.exec ∧ c.code = code ∧ meth.sig.returnType = ret ∧ c.maxLocals = 4 ∧ s.vm.findClass R_law = some m.cls ∧ (∀ w ∈ lw_tbl, w.before #[Value.ref b] s = true) ∧ va_X b L xs s s.heap ∧ b < s.heap.size ∧ meth.locks = false ∧ (Jvm.Cond.and given_1 narrow_1).before #[Value.ref b] s = true
/-- the law's end, at 1 -/
theorem aj_lawEnd {p : Program} {l : Launch} {e : Env} {s : State} {m : MethodId} {below : List Frame} {meth : Method} {c : Code} {b S : Nat} {D : va_G} {cA : Nat → ClassId} {stA : Nat → Nat} {hF : aj_H} (hx : p.tables.exec = Jvm.exec) (hb : c.code = code) (hret : meth.sig.returnType = ret) (hlocks : meth.locks = false) {i : Instr} {pc k slots : Nat} {lv : aj_V} {st : List Value} (hd : decode code pc = .ok (i, 1)) (hk : i = .ireturn ∧ k = 0 ∨ i = .lreturn ∧ k = 1 ∨ i = .areturn ∧ k = 2 ∨ i = .return_ ∧ k = 3) (hr : aj_ret (some .boolean) st k = some (.inr (.inr (some (.int 1))))) (hs : slots ≤ 500000) : aj_Nx D aj_cl cA S s.heap.size stA 4 p l e room_1 s m #[Value.ref b] below meth c (lw_Z below #[Value.ref b] s) 98 slots pc lv st hF := by
  intro ls H locs hl hR
  have h1 : st = [.int 1] ∧ k = 0 := by
    unfold aj_ret at hr
    split at hr
    all_goals first
      | (split at hr
         · rename_i hq
           cases hr
           first | exact ⟨rfl, hq.1⟩ | exact ⟨rfl, hq⟩
         · cases hr
         done)
      | (cases hr; done)
      | (split at hr <;> cases hr; done)
      | skip
  obtain ⟨rfl, rfl⟩ := h1
  have hi : i = .ireturn := by rcases hk with ⟨z, -⟩ | ⟨-, z⟩ | ⟨-, z⟩ | ⟨-, z⟩ <;> first | exact z | exact absurd z (by decide)
  subst hi
  refine va_forget (fun q hq => hR.2.2.2.2 q hq) ?_
  exact W.widen (k := 600000) (n := 7302250) (by decide) (Nat.le_trans hs (by decide)) (lw_ret hx hb hret hlocks hd)
-- ===== YOUR PART BEGINS =====
/-- YOUR PART: from the entry, for every script of at most 6 ints, the law comes to its end with true -/
theorem whole_start {p : Program} {e : Env} {s : State} {m : MethodId} {below : List Frame} {meth : Method} {c : Code} (l : Launch) {b L : Nat} {xs : Nat → Int32} (hL : L ≤ 6) (C0 : lw_At p s m meth c b L xs) : W p l e room_1 s m #[Value.ref b] below meth c s.heap [] 0 0 (lw_Z below #[Value.ref b] s) (entryFrame m ([Value.ref b] : List Value).toArray 4) := by
  obtain ⟨hx, hb, hret, hml, hown, hts, hX, hbl, hlocks, hgv⟩ := C0
  obtain ⟨D, hD⟩ := aj_D_of hts
  obtain ⟨cA, hcA, hao⟩ := aj_cA_of hts
  obtain ⟨stA, hst, hZ⟩ := aj_Z1 hts (flat_of_before _ hgv) hX hbl
  have hN : aj_N aj_nw s := fun w hw => va_Nw.of (aj_onT aj_nwOK1 hw) (hts w (aj_nw_tbl w hw))
  have hC : aj_Cx "DimShelf$Rows" D aj_cl cA (aj_tb L xs) s.heap.size stA aj_sf aj_nw aj_Tg "DimShelfLaw" code 4 p s m #[Value.ref b] c := ⟨hx, hb, hml, hown, fun w hw => hts w (List.mem_filter.mp hw).1, ⟨⟨hD, hcA⟩, hao⟩, hZ, hN, Nat.le_refl _⟩
  obtain ⟨hF, n, hf⟩ := aj_every hL xs
  have hl := lv_entry ([Value.ref b]) (n := 4) (by show 1 ≤ 4; decide)
  rw [lg_entry_eq]
  have ha : lv_args 0 [Value.ref b] = aj_cv (aj_ad (aj_tb L xs).length s.heap.size stA) [(0, .ref 51)] := by
    rw [aj_tb_len]
    show [(0, Value.ref b)] = [(0, Value.ref (aj_ad 52 s.heap.size stA 51))]
    unfold aj_ad
    rw [if_pos (by decide), hst]
  rw [ha] at hl
  have hcall := aj_runs_ok (D := D) (cA := cA) (tb := aj_tb L xs) (base := s.heap.size) (stA := stA) aj_rcl rfl aj_clsOK1 aj_mtOK1 aj_nwOK1 aj_TsOK1 aj_arrOK l 20
  have g := aj_frm_ok (l := l) (e := e) (R := room_1) (below := below) (meth := meth) (Q := lw_Z below #[Value.ref b] s) hC aj_rcl rfl aj_clsOK1 aj_mtOK1 aj_nwOK1 aj_TsOK1 aj_arrOK (mm := aj_lawM) rfl rfl aj_lks_15 (isI := false) (fun z => by cases z) (d := 20) (mc := 98) (ms := 500000) (deep := true) hcall (fun _ => ⟨by decide, by decide⟩) (by decide) (by decide) (r := some (.int 1)) (hF := hF) (fun i pc lv st slots k hd hk hr hs => aj_lawEnd hx hb hret hlocks hd hk hr hs) n 0 [(0, .ref 51)] [] [] 0 0 (Nat.zero_le _) (Nat.zero_le _) hf
  exact g _ s.heap [] hl ⟨rfl, fun k q h => by simp [aj_ws] at h, va_S.rf⟩
-- ===== YOUR PART ENDS =====
set_option maxHeartbeats 4000000 in
theorem lw_walk (l : Launch) (b : Addr) (xs : List Int32) : MetFree l x (headSpec (Jvm.Cond.code x code maxLocals ret :: tables_1) room_1) (lw_P b xs) (fun _ _ _ _ _ => True) lw_Q := by
  refine MetFree.of_bodyS (code := code) (maxLocals := maxLocals) (ret := ret) (by decide) ?_ ?_
  · intro args s m h hn
    obtain ⟨meth, c, h1, h2, h3, h4, h5, h6, -, -⟩ := Cond.code_spec hn (atoms_spec (ws := Jvm.Cond.code x code maxLocals ret :: tables_1) h _ List.mem_cons_self)
    exact ⟨meth, c, h1, h2, h3, h4, h5, h6⟩
  · intro p e s m args below meth c s₁ B hml0 hP _
    obtain ⟨rfl, hx, hbd, hgv⟩ := hP
    obtain ⟨scr, harrAt, hlist, hof, hsmall⟩ := hx
    obtain ⟨hcb, hkn, -, -⟩ := State.arrayAt?_spec harrAt
    have hown : s.vm.findClass R_law = some m.cls := findClass_of_methodNamed B.named
    have hts0 : ∀ c ∈ (Jvm.Cond.code x code maxLocals ret :: tables_1), c.before #[Value.ref b] s = true := atoms_spec (ws := Jvm.Cond.code x code maxLocals ret :: tables_1) B.pre
    have hts : ∀ w ∈ lw_tbl, w.before #[Value.ref b] s = true := k2_hts_sels lw_privs (fun w hw => hts0 w (List.mem_cons_of_mem _ hw)) lw_privs_ok
    have hml : c.maxLocals = 4 := B.maxLocals_eq (hts0 _ List.mem_cons_self)
    have X₀ : Stand p l e room_1 s m #[Value.ref b] below meth c s₁ [] 0 0 := Stand.of_body B
    have hh0 : s₁.heap = s.heap := by rw [B.state]; rfl
    have hsz : scr.slots.size = xs.length := by rw [← Array.length_toList, hlist, List.length_map]
    have hval : ∀ j : Nat, j < xs.length → scr.slots[j]? = some (.int (xs.getD j 0)) := fun j hj => by
      rw [← Array.getElem?_toList, hlist]
      simp [hj]
    have hbl : b < s.heap.size := (Array.getElem?_eq_some_iff.mp hcb).1
    have hX : va_X b xs.length (fun j => xs.getD j 0) s s.heap := ⟨scr, hcb, hof, hkn, hsz, hval⟩
    have K : W p l e room_1 s m #[Value.ref b] below meth c s₁.heap [] 0 0 (lw_Z below #[Value.ref b] s) (entryFrame m ([Value.ref b] : List Value).toArray 4) := by
      rw [hh0]
      exact whole_start l hbd ⟨B.exec, B.bytes, B.returns, hml, hown, hts, hX, hbl, B.notSynchronized, hgv⟩
    obtain ⟨t, a1, o, b1, b2, b3⟩ := K s₁ rfl X₀
    exact ⟨t, o, a1, b1, b2, b3⟩
theorem lw_pre_spec {args : Array Value} {s : State} (h : (Jvm.Cond.and given_1 narrow_1).before args s = true) (hr : rest_1_c.before args s = true) : ∃ (b : Addr) (xs : List Int32), lw_P b xs args s := by
  have hs := flat_of_before _ h
  have hq := flat_of_before _ hr
  have hc : (Cond.count 1).before args s = true := hs _ (by decide +kernel)
  have harr : (Cond.arrayOf (.arg 0) .int).before args s = true := hs _ (by decide +kernel)
  have hle : (Cond.le (.length (.arg 0)) (.int 6)).before args s = true := hs _ (by decide +kernel)
  have hlen : (Cond.isInt (.length (.arg 0))).before args s = true := hq _ (by decide +kernel)
  have hall : (Cond.all (.arg 0) (.isInt (.elem (.arg 0) (.index 0)))).before args s = true := hq _ (by decide +kernel)
  obtain ⟨b, xs, hb, hx⟩ := State.ints_of_pre rfl harr hlen hall
  have hsm : xs.length < 2 ^ 31 := hx.choose_spec.2.2.2
  have hev : (Term.length (.arg 0)).eval args s none [] s = some (.int xs.length.toInt32) := hx.length_eval hb
  have hv := Cond.le_ints hev (show (Term.int 6).eval args s none [] s = some (.int 6) from rfl)
  have hd : xs.length.toInt32 ≤ 6 := by
    simpa [Cond.before, Cond.holds, hv] using hle
  have hN : xs.length ≤ 6 := (Int32.ofNat_le_ofNat hsm (by decide)).mp (show Int32.ofNat xs.length ≤ Int32.ofNat 6 from hd)
  exact ⟨b, xs, Cond.one_arg hc (show args[0]? = some (.ref b) from hb), hx, hN, h⟩
theorem lw_comes (l : Launch) : Comes l x (Jvm.Cond.code x code maxLocals ret :: tables_1) room_1 (fun tb e args s => Calls_1 tb e args s ∧ rest_1 tb e args s ∧ Pre_1 tb e args s)
    (fun _ _ args s o t => lw_Q args s o t) := by
  intro p e ha hc hk s m args below hf hfit hheap happ hpre
  obtain ⟨b, xs, hP⟩ := lw_pre_spec hpre.2.2 hpre.2.1
  obtain ⟨k, o, h1, h2, h3, hQ⟩ := lw_walk l b xs p e ha hc hk s m args below hf ((Spec.applies_iff_loose hf).mp happ).1 hP trivial
  exact ⟨k, o, h1, h2, h3, hQ⟩
theorem lw_frame {s t : State} {o : Outcome} {args : Array Value} (h : Framed s o t [] 600000 7302250) :
    Framed s o t (fieldLocs frame_1_writes args s ++ arrayLocs frame_1_arrays args s ++ staticLocs frame_1_statics s) 600000 7302250 := h
theorem lw_limb (L : Cond) (hL : ∀ (args : Array Value) (s t : State), L.after args s (.returned (some (.int 1))) t = true) :
    ArmFor flags0 classFile x code maxLocals ret World_1 tables_1 room_1 Calls_1 rest_1 Pre_1
      (fun tb e a s o t => postC L tb e a s o t ∧ Framed s o t (fieldLocs frame_1_writes a s ++ arrayLocs frame_1_arrays a s ++ staticLocs frame_1_statics s) 600000 7302250) := by
  intro l _ _ _ p e ha hc hk s m args below hf hfit hheap happ hpre
  obtain ⟨k, o, h1, h2, h3, rfl, hF⟩ := lw_comes l p e ha hc hk s m args below hf hfit hheap happ hpre
  exact ⟨k, _, h1, h2, h3, hL args s _, lw_frame hF⟩
theorem i_vc : Claimed_1_1 ∧ Claimed_1_2 := ⟨lw_limb limb_1_1 (fun args s t => by simp [limb_1_1, Cond.after, Cond.holds, Cond.value]), lw_limb limb_1_2 (fun args s t => Cond.after_iff.mpr (by
  first | (rw [show limb_1_2 = Cond.eq .result (.int 1) from rfl, Cond.eq_ints (x := 1) (y := 1) rfl rfl]; simp; done) | (simp [limb_1_2, Cond.value, Term.eval]; done)))⟩
end
