section
-- ===== PART A: goes FIRST, ahead of the names: the tables' words, and 'selects' of the private methods out of them =====
/-- a private method of a class that the tables say can be made, by its rows of tables_1 -/
def lw_okq (q : MethodName × Nat) : Prop := (q.1.cls ≠ "java/lang/invoke/MethodHandle" ∧ q.1.cls ≠ "java/lang/invoke/VarHandle") ∧ Cond.instantiable q.1.cls q.2 ∈ tables_1 ∧ Cond.privateMethod q.1 ∈ tables_1 ∧ Cond.instanceMethod q.1 ∈ tables_1
theorem lw_p0 : lw_okq (⟨"CornerTax", "finding", "(I)I"⟩, 9) := ⟨⟨by decide +kernel, by decide +kernel⟩, List.mem_of_getElem? (i := 24) (by decide +kernel), List.mem_of_getElem? (i := 272) (by decide +kernel), List.mem_of_getElem? (i := 273) (by decide +kernel)⟩
theorem lw_p1 : lw_okq (⟨"CornerTax", "isHouse", "(I)Z"⟩, 9) := ⟨⟨by decide +kernel, by decide +kernel⟩, List.mem_of_getElem? (i := 24) (by decide +kernel), List.mem_of_getElem? (i := 312) (by decide +kernel), List.mem_of_getElem? (i := 313) (by decide +kernel)⟩
theorem lw_p2 : lw_okq (⟨"CornerTax", "taxOf", "(I)I"⟩, 9) := ⟨⟨by decide +kernel, by decide +kernel⟩, List.mem_of_getElem? (i := 24) (by decide +kernel), List.mem_of_getElem? (i := 332) (by decide +kernel), List.mem_of_getElem? (i := 333) (by decide +kernel)⟩
theorem lw_p3 : lw_okq (⟨"CornerTax$Sights", "addSaved", "(III)V"⟩, 8) := ⟨⟨by decide +kernel, by decide +kernel⟩, List.mem_of_getElem? (i := 143) (by decide +kernel), List.mem_of_getElem? (i := 510) (by decide +kernel), List.mem_of_getElem? (i := 511) (by decide +kernel)⟩
theorem lw_p4 : lw_okq (⟨"CornerTax$Sights", "countLinesThroughSquares", "(I)V"⟩, 8) := ⟨⟨by decide +kernel, by decide +kernel⟩, List.mem_of_getElem? (i := 143) (by decide +kernel), List.mem_of_getElem? (i := 514) (by decide +kernel), List.mem_of_getElem? (i := 515) (by decide +kernel)⟩
theorem lw_p5 : lw_okq (⟨"CornerTax$Sights", "countSquaresOf", "(J)V"⟩, 8) := ⟨⟨by decide +kernel, by decide +kernel⟩, List.mem_of_getElem? (i := 143) (by decide +kernel), List.mem_of_getElem? (i := 518) (by decide +kernel), List.mem_of_getElem? (i := 519) (by decide +kernel)⟩
theorem lw_p6 : lw_okq (⟨"CornerTax", "findPlot", "(I)V"⟩, 9) := ⟨⟨by decide +kernel, by decide +kernel⟩, List.mem_of_getElem? (i := 24) (by decide +kernel), List.mem_of_getElem? (i := 526) (by decide +kernel), List.mem_of_getElem? (i := 527) (by decide +kernel)⟩
theorem lw_p7 : lw_okq (⟨"CornerTax$Sights", "lookAround", "()V"⟩, 8) := ⟨⟨by decide +kernel, by decide +kernel⟩, List.mem_of_getElem? (i := 143) (by decide +kernel), List.mem_of_getElem? (i := 553) (by decide +kernel), List.mem_of_getElem? (i := 554) (by decide +kernel)⟩
theorem lw_p8 : lw_okq (⟨"CornerTax$Sights", "lookAt", "(I)V"⟩, 8) := ⟨⟨by decide +kernel, by decide +kernel⟩, List.mem_of_getElem? (i := 143) (by decide +kernel), List.mem_of_getElem? (i := 561) (by decide +kernel), List.mem_of_getElem? (i := 562) (by decide +kernel)⟩
theorem lw_p9 : lw_okq (⟨"CornerTax$Sights", "widestView", "(JJ)I"⟩, 8) := ⟨⟨by decide +kernel, by decide +kernel⟩, List.mem_of_getElem? (i := 143) (by decide +kernel), List.mem_of_getElem? (i := 565) (by decide +kernel), List.mem_of_getElem? (i := 566) (by decide +kernel)⟩
theorem lw_p10 : lw_okq (⟨"CornerTax", "liveYear", "(I)I"⟩, 9) := ⟨⟨by decide +kernel, by decide +kernel⟩, List.mem_of_getElem? (i := 24) (by decide +kernel), List.mem_of_getElem? (i := 596) (by decide +kernel), List.mem_of_getElem? (i := 597) (by decide +kernel)⟩
theorem lw_p11 : lw_okq (⟨"CornerTax$TownText", "advance", "()V"⟩, 8) := ⟨⟨by decide +kernel, by decide +kernel⟩, List.mem_of_getElem? (i := 180) (by decide +kernel), List.mem_of_getElem? (i := 639) (by decide +kernel), List.mem_of_getElem? (i := 640) (by decide +kernel)⟩
theorem lw_p12 : lw_okq (⟨"CornerTax$TownText", "passLetters", "()V"⟩, 8) := ⟨⟨by decide +kernel, by decide +kernel⟩, List.mem_of_getElem? (i := 180) (by decide +kernel), List.mem_of_getElem? (i := 646) (by decide +kernel), List.mem_of_getElem? (i := 647) (by decide +kernel)⟩
theorem lw_p13 : lw_okq (⟨"CornerTax$TownText", "passDigits", "()V"⟩, 8) := ⟨⟨by decide +kernel, by decide +kernel⟩, List.mem_of_getElem? (i := 180) (by decide +kernel), List.mem_of_getElem? (i := 653) (by decide +kernel), List.mem_of_getElem? (i := 654) (by decide +kernel)⟩
theorem lw_p14 : lw_okq (⟨"CornerTax$TownText", "takesItem", "()Z"⟩, 8) := ⟨⟨by decide +kernel, by decide +kernel⟩, List.mem_of_getElem? (i := 180) (by decide +kernel), List.mem_of_getElem? (i := 658) (by decide +kernel), List.mem_of_getElem? (i := 659) (by decide +kernel)⟩
theorem lw_p15 : lw_okq (⟨"CornerTax$TownText", "isWord", "(Ljava/lang/String;)Z"⟩, 8) := ⟨⟨by decide +kernel, by decide +kernel⟩, List.mem_of_getElem? (i := 180) (by decide +kernel), List.mem_of_getElem? (i := 663) (by decide +kernel), List.mem_of_getElem? (i := 664) (by decide +kernel)⟩
def lw_privs_1 : List (MethodName × Nat) := [(⟨"CornerTax", "finding", "(I)I"⟩, 9), (⟨"CornerTax", "isHouse", "(I)Z"⟩, 9), (⟨"CornerTax", "taxOf", "(I)I"⟩, 9), (⟨"CornerTax$Sights", "addSaved", "(III)V"⟩, 8), (⟨"CornerTax$Sights", "countLinesThroughSquares", "(I)V"⟩, 8), (⟨"CornerTax$Sights", "countSquaresOf", "(J)V"⟩, 8), (⟨"CornerTax", "findPlot", "(I)V"⟩, 9), (⟨"CornerTax$Sights", "lookAround", "()V"⟩, 8), (⟨"CornerTax$Sights", "lookAt", "(I)V"⟩, 8), (⟨"CornerTax$Sights", "widestView", "(JJ)I"⟩, 8), (⟨"CornerTax", "liveYear", "(I)I"⟩, 9), (⟨"CornerTax$TownText", "advance", "()V"⟩, 8), (⟨"CornerTax$TownText", "passLetters", "()V"⟩, 8), (⟨"CornerTax$TownText", "passDigits", "()V"⟩, 8), (⟨"CornerTax$TownText", "takesItem", "()Z"⟩, 8), (⟨"CornerTax$TownText", "isWord", "(Ljava/lang/String;)Z"⟩, 8)]
theorem lw_r1 : ∀ q ∈ lw_privs_1, lw_okq q := List.forall_mem_cons.mpr ⟨lw_p0, List.forall_mem_cons.mpr ⟨lw_p1, List.forall_mem_cons.mpr ⟨lw_p2, List.forall_mem_cons.mpr ⟨lw_p3, List.forall_mem_cons.mpr ⟨lw_p4, List.forall_mem_cons.mpr ⟨lw_p5, List.forall_mem_cons.mpr ⟨lw_p6, List.forall_mem_cons.mpr ⟨lw_p7, List.forall_mem_cons.mpr ⟨lw_p8, List.forall_mem_cons.mpr ⟨lw_p9, List.forall_mem_cons.mpr ⟨lw_p10, List.forall_mem_cons.mpr ⟨lw_p11, List.forall_mem_cons.mpr ⟨lw_p12, List.forall_mem_cons.mpr ⟨lw_p13, List.forall_mem_cons.mpr ⟨lw_p14, List.forall_mem_cons.mpr ⟨lw_p15, fun _ h => absurd h List.not_mem_nil⟩⟩⟩⟩⟩⟩⟩⟩⟩⟩⟩⟩⟩⟩⟩⟩
theorem lw_p16 : lw_okq (⟨"CornerTax$TownText", "takesWealth", "()Z"⟩, 8) := ⟨⟨by decide +kernel, by decide +kernel⟩, List.mem_of_getElem? (i := 180) (by decide +kernel), List.mem_of_getElem? (i := 715) (by decide +kernel), List.mem_of_getElem? (i := 716) (by decide +kernel)⟩
theorem lw_p17 : lw_okq (⟨"CornerTax$TownText", "isNumberWithin", "(II)Z"⟩, 8) := ⟨⟨by decide +kernel, by decide +kernel⟩, List.mem_of_getElem? (i := 180) (by decide +kernel), List.mem_of_getElem? (i := 719) (by decide +kernel), List.mem_of_getElem? (i := 720) (by decide +kernel)⟩
theorem lw_p18 : lw_okq (⟨"CornerTax$TownText", "plainSquare", "()I"⟩, 8) := ⟨⟨by decide +kernel, by decide +kernel⟩, List.mem_of_getElem? (i := 180) (by decide +kernel), List.mem_of_getElem? (i := 723) (by decide +kernel), List.mem_of_getElem? (i := 724) (by decide +kernel)⟩
theorem lw_p19 : lw_okq (⟨"CornerTax$TownText", "kindNamed", "()I"⟩, 8) := ⟨⟨by decide +kernel, by decide +kernel⟩, List.mem_of_getElem? (i := 180) (by decide +kernel), List.mem_of_getElem? (i := 731) (by decide +kernel), List.mem_of_getElem? (i := 732) (by decide +kernel)⟩
theorem lw_p20 : lw_okq (⟨"CornerTax$TownText", "takesHouse", "(I)Z"⟩, 8) := ⟨⟨by decide +kernel, by decide +kernel⟩, List.mem_of_getElem? (i := 180) (by decide +kernel), List.mem_of_getElem? (i := 761) (by decide +kernel), List.mem_of_getElem? (i := 762) (by decide +kernel)⟩
theorem lw_p21 : lw_okq (⟨"CornerTax$TownText", "takesSquares", "(I)Z"⟩, 8) := ⟨⟨by decide +kernel, by decide +kernel⟩, List.mem_of_getElem? (i := 180) (by decide +kernel), List.mem_of_getElem? (i := 767) (by decide +kernel), List.mem_of_getElem? (i := 768) (by decide +kernel)⟩
theorem lw_p22 : lw_okq (⟨"CornerTaxModel", "isSort", "(I)Z"⟩, 26) := ⟨⟨by decide +kernel, by decide +kernel⟩, List.mem_of_getElem? (i := 843) (by decide +kernel), List.mem_of_getElem? (i := 951) (by decide +kernel), List.mem_of_getElem? (i := 952) (by decide +kernel)⟩
theorem lw_p23 : lw_okq (⟨"CornerTaxModel", "stands", "(II)I"⟩, 26) := ⟨⟨by decide +kernel, by decide +kernel⟩, List.mem_of_getElem? (i := 843) (by decide +kernel), List.mem_of_getElem? (i := 955) (by decide +kernel), List.mem_of_getElem? (i := 956) (by decide +kernel)⟩
theorem lw_p24 : lw_okq (⟨"CornerTaxModel", "become", "(II)I"⟩, 26) := ⟨⟨by decide +kernel, by decide +kernel⟩, List.mem_of_getElem? (i := 843) (by decide +kernel), List.mem_of_getElem? (i := 959) (by decide +kernel), List.mem_of_getElem? (i := 960) (by decide +kernel)⟩
theorem lw_p25 : lw_okq (⟨"CornerTaxModel", "finding", "(I)I"⟩, 26) := ⟨⟨by decide +kernel, by decide +kernel⟩, List.mem_of_getElem? (i := 843) (by decide +kernel), List.mem_of_getElem? (i := 964) (by decide +kernel), List.mem_of_getElem? (i := 965) (by decide +kernel)⟩
theorem lw_p26 : lw_okq (⟨"CornerTaxModel", "founded", "(II)I"⟩, 26) := ⟨⟨by decide +kernel, by decide +kernel⟩, List.mem_of_getElem? (i := 843) (by decide +kernel), List.mem_of_getElem? (i := 977) (by decide +kernel), List.mem_of_getElem? (i := 978) (by decide +kernel)⟩
theorem lw_p27 : lw_okq (⟨"CornerTaxModel", "isHouse", "(I)Z"⟩, 26) := ⟨⟨by decide +kernel, by decide +kernel⟩, List.mem_of_getElem? (i := 843) (by decide +kernel), List.mem_of_getElem? (i := 985) (by decide +kernel), List.mem_of_getElem? (i := 986) (by decide +kernel)⟩
theorem lw_p28 : lw_okq (⟨"CornerTaxModel", "houseIs", "(II)I"⟩, 26) := ⟨⟨by decide +kernel, by decide +kernel⟩, List.mem_of_getElem? (i := 843) (by decide +kernel), List.mem_of_getElem? (i := 989) (by decide +kernel), List.mem_of_getElem? (i := 990) (by decide +kernel)⟩
theorem lw_p29 : lw_okq (⟨"CornerTaxModel", "manyOf", "(I)I"⟩, 26) := ⟨⟨by decide +kernel, by decide +kernel⟩, List.mem_of_getElem? (i := 843) (by decide +kernel), List.mem_of_getElem? (i := 993) (by decide +kernel), List.mem_of_getElem? (i := 994) (by decide +kernel)⟩
theorem lw_p30 : lw_okq (⟨"CornerTaxModel", "cornersOf", "(I)I"⟩, 26) := ⟨⟨by decide +kernel, by decide +kernel⟩, List.mem_of_getElem? (i := 843) (by decide +kernel), List.mem_of_getElem? (i := 997) (by decide +kernel), List.mem_of_getElem? (i := 998) (by decide +kernel)⟩
theorem lw_p31 : lw_okq (⟨"CornerTaxModel", "cornerOf", "(II)I"⟩, 26) := ⟨⟨by decide +kernel, by decide +kernel⟩, List.mem_of_getElem? (i := 843) (by decide +kernel), List.mem_of_getElem? (i := 1001) (by decide +kernel), List.mem_of_getElem? (i := 1002) (by decide +kernel)⟩
def lw_privs_2 : List (MethodName × Nat) := [(⟨"CornerTax$TownText", "takesWealth", "()Z"⟩, 8), (⟨"CornerTax$TownText", "isNumberWithin", "(II)Z"⟩, 8), (⟨"CornerTax$TownText", "plainSquare", "()I"⟩, 8), (⟨"CornerTax$TownText", "kindNamed", "()I"⟩, 8), (⟨"CornerTax$TownText", "takesHouse", "(I)Z"⟩, 8), (⟨"CornerTax$TownText", "takesSquares", "(I)Z"⟩, 8), (⟨"CornerTaxModel", "isSort", "(I)Z"⟩, 26), (⟨"CornerTaxModel", "stands", "(II)I"⟩, 26), (⟨"CornerTaxModel", "become", "(II)I"⟩, 26), (⟨"CornerTaxModel", "finding", "(I)I"⟩, 26), (⟨"CornerTaxModel", "founded", "(II)I"⟩, 26), (⟨"CornerTaxModel", "isHouse", "(I)Z"⟩, 26), (⟨"CornerTaxModel", "houseIs", "(II)I"⟩, 26), (⟨"CornerTaxModel", "manyOf", "(I)I"⟩, 26), (⟨"CornerTaxModel", "cornersOf", "(I)I"⟩, 26), (⟨"CornerTaxModel", "cornerOf", "(II)I"⟩, 26)]
theorem lw_r2 : ∀ q ∈ lw_privs_2, lw_okq q := List.forall_mem_cons.mpr ⟨lw_p16, List.forall_mem_cons.mpr ⟨lw_p17, List.forall_mem_cons.mpr ⟨lw_p18, List.forall_mem_cons.mpr ⟨lw_p19, List.forall_mem_cons.mpr ⟨lw_p20, List.forall_mem_cons.mpr ⟨lw_p21, List.forall_mem_cons.mpr ⟨lw_p22, List.forall_mem_cons.mpr ⟨lw_p23, List.forall_mem_cons.mpr ⟨lw_p24, List.forall_mem_cons.mpr ⟨lw_p25, List.forall_mem_cons.mpr ⟨lw_p26, List.forall_mem_cons.mpr ⟨lw_p27, List.forall_mem_cons.mpr ⟨lw_p28, List.forall_mem_cons.mpr ⟨lw_p29, List.forall_mem_cons.mpr ⟨lw_p30, List.forall_mem_cons.mpr ⟨lw_p31, fun _ h => absurd h List.not_mem_nil⟩⟩⟩⟩⟩⟩⟩⟩⟩⟩⟩⟩⟩⟩⟩⟩
theorem lw_p32 : lw_okq (⟨"CornerTaxModel", "standsAt", "(II)I"⟩, 26) := ⟨⟨by decide +kernel, by decide +kernel⟩, List.mem_of_getElem? (i := 843) (by decide +kernel), List.mem_of_getElem? (i := 1005) (by decide +kernel), List.mem_of_getElem? (i := 1006) (by decide +kernel)⟩
theorem lw_p33 : lw_okq (⟨"CornerTaxModel", "taxOf", "(I)I"⟩, 26) := ⟨⟨by decide +kernel, by decide +kernel⟩, List.mem_of_getElem? (i := 843) (by decide +kernel), List.mem_of_getElem? (i := 1009) (by decide +kernel), List.mem_of_getElem? (i := 1010) (by decide +kernel)⟩
theorem lw_p34 : lw_okq (⟨"CornerTaxModel", "allCounts", "(I)I"⟩, 26) := ⟨⟨by decide +kernel, by decide +kernel⟩, List.mem_of_getElem? (i := 843) (by decide +kernel), List.mem_of_getElem? (i := 1013) (by decide +kernel), List.mem_of_getElem? (i := 1014) (by decide +kernel)⟩
theorem lw_p35 : lw_okq (⟨"CornerTaxModel", "countOf", "(II)I"⟩, 26) := ⟨⟨by decide +kernel, by decide +kernel⟩, List.mem_of_getElem? (i := 843) (by decide +kernel), List.mem_of_getElem? (i := 1017) (by decide +kernel), List.mem_of_getElem? (i := 1018) (by decide +kernel)⟩
theorem lw_p36 : lw_okq (⟨"CornerTaxModel", "isRounded", "(II)Z"⟩, 26) := ⟨⟨by decide +kernel, by decide +kernel⟩, List.mem_of_getElem? (i := 843) (by decide +kernel), List.mem_of_getElem? (i := 1021) (by decide +kernel), List.mem_of_getElem? (i := 1022) (by decide +kernel)⟩
theorem lw_p37 : lw_okq (⟨"CornerTaxModel", "seenAt", "(I)J"⟩, 26) := ⟨⟨by decide +kernel, by decide +kernel⟩, List.mem_of_getElem? (i := 843) (by decide +kernel), List.mem_of_getElem? (i := 1025) (by decide +kernel), List.mem_of_getElem? (i := 1026) (by decide +kernel)⟩
theorem lw_p38 : lw_okq (⟨"CornerTaxModel", "findSeen", "()V"⟩, 26) := ⟨⟨by decide +kernel, by decide +kernel⟩, List.mem_of_getElem? (i := 843) (by decide +kernel), List.mem_of_getElem? (i := 1029) (by decide +kernel), List.mem_of_getElem? (i := 1030) (by decide +kernel)⟩
theorem lw_p39 : lw_okq (⟨"CornerTaxModel", "isOpen", "(I)Z"⟩, 26) := ⟨⟨by decide +kernel, by decide +kernel⟩, List.mem_of_getElem? (i := 843) (by decide +kernel), List.mem_of_getElem? (i := 1033) (by decide +kernel), List.mem_of_getElem? (i := 1034) (by decide +kernel)⟩
theorem lw_p40 : lw_okq (⟨"CornerTaxModel", "isClear", "(II)Z"⟩, 26) := ⟨⟨by decide +kernel, by decide +kernel⟩, List.mem_of_getElem? (i := 843) (by decide +kernel), List.mem_of_getElem? (i := 1037) (by decide +kernel), List.mem_of_getElem? (i := 1038) (by decide +kernel)⟩
theorem lw_p41 : lw_okq (⟨"CornerTaxModel", "whoseIs", "(I)I"⟩, 26) := ⟨⟨by decide +kernel, by decide +kernel⟩, List.mem_of_getElem? (i := 843) (by decide +kernel), List.mem_of_getElem? (i := 1053) (by decide +kernel), List.mem_of_getElem? (i := 1054) (by decide +kernel)⟩
theorem lw_p42 : lw_okq (⟨"CornerTaxModel", "ithOf", "(II)I"⟩, 26) := ⟨⟨by decide +kernel, by decide +kernel⟩, List.mem_of_getElem? (i := 843) (by decide +kernel), List.mem_of_getElem? (i := 1084) (by decide +kernel), List.mem_of_getElem? (i := 1085) (by decide +kernel)⟩
theorem lw_p43 : lw_okq (⟨"CornerTaxModel", "rounds", "(II)V"⟩, 26) := ⟨⟨by decide +kernel, by decide +kernel⟩, List.mem_of_getElem? (i := 843) (by decide +kernel), List.mem_of_getElem? (i := 1110) (by decide +kernel), List.mem_of_getElem? (i := 1111) (by decide +kernel)⟩
theorem lw_p44 : lw_okq (⟨"CornerTaxModel", "findSpots", "()I"⟩, 26) := ⟨⟨by decide +kernel, by decide +kernel⟩, List.mem_of_getElem? (i := 843) (by decide +kernel), List.mem_of_getElem? (i := 1142) (by decide +kernel), List.mem_of_getElem? (i := 1143) (by decide +kernel)⟩
theorem lw_p45 : lw_okq (⟨"CornerTaxModel", "newFrom", "(I)I"⟩, 26) := ⟨⟨by decide +kernel, by decide +kernel⟩, List.mem_of_getElem? (i := 843) (by decide +kernel), List.mem_of_getElem? (i := 1146) (by decide +kernel), List.mem_of_getElem? (i := 1147) (by decide +kernel)⟩
theorem lw_p46 : lw_okq (⟨"CornerTaxModel", "yearOf", "(I)I"⟩, 26) := ⟨⟨by decide +kernel, by decide +kernel⟩, List.mem_of_getElem? (i := 843) (by decide +kernel), List.mem_of_getElem? (i := 1166) (by decide +kernel), List.mem_of_getElem? (i := 1167) (by decide +kernel)⟩
theorem lw_p47 : lw_okq (⟨"CornerTaxModel", "bestToRound", "(I)I"⟩, 26) := ⟨⟨by decide +kernel, by decide +kernel⟩, List.mem_of_getElem? (i := 843) (by decide +kernel), List.mem_of_getElem? (i := 1170) (by decide +kernel), List.mem_of_getElem? (i := 1171) (by decide +kernel)⟩
def lw_privs_3 : List (MethodName × Nat) := [(⟨"CornerTaxModel", "standsAt", "(II)I"⟩, 26), (⟨"CornerTaxModel", "taxOf", "(I)I"⟩, 26), (⟨"CornerTaxModel", "allCounts", "(I)I"⟩, 26), (⟨"CornerTaxModel", "countOf", "(II)I"⟩, 26), (⟨"CornerTaxModel", "isRounded", "(II)Z"⟩, 26), (⟨"CornerTaxModel", "seenAt", "(I)J"⟩, 26), (⟨"CornerTaxModel", "findSeen", "()V"⟩, 26), (⟨"CornerTaxModel", "isOpen", "(I)Z"⟩, 26), (⟨"CornerTaxModel", "isClear", "(II)Z"⟩, 26), (⟨"CornerTaxModel", "whoseIs", "(I)I"⟩, 26), (⟨"CornerTaxModel", "ithOf", "(II)I"⟩, 26), (⟨"CornerTaxModel", "rounds", "(II)V"⟩, 26), (⟨"CornerTaxModel", "findSpots", "()I"⟩, 26), (⟨"CornerTaxModel", "newFrom", "(I)I"⟩, 26), (⟨"CornerTaxModel", "yearOf", "(I)I"⟩, 26), (⟨"CornerTaxModel", "bestToRound", "(I)I"⟩, 26)]
theorem lw_r3 : ∀ q ∈ lw_privs_3, lw_okq q := List.forall_mem_cons.mpr ⟨lw_p32, List.forall_mem_cons.mpr ⟨lw_p33, List.forall_mem_cons.mpr ⟨lw_p34, List.forall_mem_cons.mpr ⟨lw_p35, List.forall_mem_cons.mpr ⟨lw_p36, List.forall_mem_cons.mpr ⟨lw_p37, List.forall_mem_cons.mpr ⟨lw_p38, List.forall_mem_cons.mpr ⟨lw_p39, List.forall_mem_cons.mpr ⟨lw_p40, List.forall_mem_cons.mpr ⟨lw_p41, List.forall_mem_cons.mpr ⟨lw_p42, List.forall_mem_cons.mpr ⟨lw_p43, List.forall_mem_cons.mpr ⟨lw_p44, List.forall_mem_cons.mpr ⟨lw_p45, List.forall_mem_cons.mpr ⟨lw_p46, List.forall_mem_cons.mpr ⟨lw_p47, fun _ h => absurd h List.not_mem_nil⟩⟩⟩⟩⟩⟩⟩⟩⟩⟩⟩⟩⟩⟩⟩⟩
theorem lw_p48 : lw_okq (⟨"CornerTaxModel", "next", "()V"⟩, 26) := ⟨⟨by decide +kernel, by decide +kernel⟩, List.mem_of_getElem? (i := 843) (by decide +kernel), List.mem_of_getElem? (i := 1186) (by decide +kernel), List.mem_of_getElem? (i := 1187) (by decide +kernel)⟩
theorem lw_p49 : lw_okq (⟨"CornerTaxModel", "byteAt", "(I)I"⟩, 26) := ⟨⟨by decide +kernel, by decide +kernel⟩, List.mem_of_getElem? (i := 843) (by decide +kernel), List.mem_of_getElem? (i := 1190) (by decide +kernel), List.mem_of_getElem? (i := 1191) (by decide +kernel)⟩
theorem lw_p50 : lw_okq (⟨"CornerTaxModel", "readItem", "()V"⟩, 26) := ⟨⟨by decide +kernel, by decide +kernel⟩, List.mem_of_getElem? (i := 843) (by decide +kernel), List.mem_of_getElem? (i := 1194) (by decide +kernel), List.mem_of_getElem? (i := 1195) (by decide +kernel)⟩
theorem lw_p51 : lw_okq (⟨"CornerTaxModel", "which", "([Ljava/lang/String;)I"⟩, 26) := ⟨⟨by decide +kernel, by decide +kernel⟩, List.mem_of_getElem? (i := 843) (by decide +kernel), List.mem_of_getElem? (i := 1198) (by decide +kernel), List.mem_of_getElem? (i := 1199) (by decide +kernel)⟩
theorem lw_p52 : lw_okq (⟨"CornerTaxModel", "isWord", "(Ljava/lang/String;)Z"⟩, 26) := ⟨⟨by decide +kernel, by decide +kernel⟩, List.mem_of_getElem? (i := 843) (by decide +kernel), List.mem_of_getElem? (i := 1202) (by decide +kernel), List.mem_of_getElem? (i := 1203) (by decide +kernel)⟩
theorem lw_p53 : lw_okq (⟨"CornerTaxModel", "must", "(Z)V"⟩, 26) := ⟨⟨by decide +kernel, by decide +kernel⟩, List.mem_of_getElem? (i := 843) (by decide +kernel), List.mem_of_getElem? (i := 1208) (by decide +kernel), List.mem_of_getElem? (i := 1209) (by decide +kernel)⟩
theorem lw_p54 : lw_okq (⟨"CornerTaxModel", "squares", "()J"⟩, 26) := ⟨⟨by decide +kernel, by decide +kernel⟩, List.mem_of_getElem? (i := 843) (by decide +kernel), List.mem_of_getElem? (i := 1212) (by decide +kernel), List.mem_of_getElem? (i := 1213) (by decide +kernel)⟩
theorem lw_p55 : lw_okq (⟨"CornerTaxModel", "number", "(II)I"⟩, 26) := ⟨⟨by decide +kernel, by decide +kernel⟩, List.mem_of_getElem? (i := 843) (by decide +kernel), List.mem_of_getElem? (i := 1216) (by decide +kernel), List.mem_of_getElem? (i := 1217) (by decide +kernel)⟩
theorem lw_p56 : lw_okq (⟨"CornerTaxModel", "item", "(IIIJ)V"⟩, 26) := ⟨⟨by decide +kernel, by decide +kernel⟩, List.mem_of_getElem? (i := 843) (by decide +kernel), List.mem_of_getElem? (i := 1221) (by decide +kernel), List.mem_of_getElem? (i := 1222) (by decide +kernel)⟩
theorem lw_p57 : lw_okq (⟨"CornerTaxModel", "isSo", "(I)V"⟩, 26) := ⟨⟨by decide +kernel, by decide +kernel⟩, List.mem_of_getElem? (i := 843) (by decide +kernel), List.mem_of_getElem? (i := 1227) (by decide +kernel), List.mem_of_getElem? (i := 1228) (by decide +kernel)⟩
def lw_privs_4 : List (MethodName × Nat) := [(⟨"CornerTaxModel", "next", "()V"⟩, 26), (⟨"CornerTaxModel", "byteAt", "(I)I"⟩, 26), (⟨"CornerTaxModel", "readItem", "()V"⟩, 26), (⟨"CornerTaxModel", "which", "([Ljava/lang/String;)I"⟩, 26), (⟨"CornerTaxModel", "isWord", "(Ljava/lang/String;)Z"⟩, 26), (⟨"CornerTaxModel", "must", "(Z)V"⟩, 26), (⟨"CornerTaxModel", "squares", "()J"⟩, 26), (⟨"CornerTaxModel", "number", "(II)I"⟩, 26), (⟨"CornerTaxModel", "item", "(IIIJ)V"⟩, 26), (⟨"CornerTaxModel", "isSo", "(I)V"⟩, 26)]
theorem lw_r4 : ∀ q ∈ lw_privs_4, lw_okq q := List.forall_mem_cons.mpr ⟨lw_p48, List.forall_mem_cons.mpr ⟨lw_p49, List.forall_mem_cons.mpr ⟨lw_p50, List.forall_mem_cons.mpr ⟨lw_p51, List.forall_mem_cons.mpr ⟨lw_p52, List.forall_mem_cons.mpr ⟨lw_p53, List.forall_mem_cons.mpr ⟨lw_p54, List.forall_mem_cons.mpr ⟨lw_p55, List.forall_mem_cons.mpr ⟨lw_p56, List.forall_mem_cons.mpr ⟨lw_p57, fun _ h => absurd h List.not_mem_nil⟩⟩⟩⟩⟩⟩⟩⟩⟩⟩
def lw_privs : List (MethodName × Nat) := lw_privs_1 ++ (lw_privs_2 ++ (lw_privs_3 ++ (lw_privs_4)))
def lw_tbl : List Cond := k2_sels lw_privs ++ tables_1
theorem lw_privs_ok : ∀ q ∈ lw_privs, lw_okq q := by
  show ∀ q ∈ lw_privs_1 ++ (lw_privs_2 ++ (lw_privs_3 ++ (lw_privs_4))), lw_okq q
  exact List.forall_mem_append.mpr ⟨lw_r1, List.forall_mem_append.mpr ⟨lw_r2, List.forall_mem_append.mpr ⟨lw_r3, lw_r4⟩⟩⟩
end
section
def RX0 : String := "CornerTax$Dear"
def TX0 : u_T := fun k => match k with
  | _ => ("", "", "", false)
def tyX0 : Nat → FieldType := fun k => match k with
  | _ => .int
abbrev wsX00 : List Cond := u_ws RX0 TX0 0
theorem nmX0 : ∀ a, a < 0 → ∀ b, b < 0 → a ≠ b → (TX0 a).2.1 ≠ (TX0 b).2.1 := by decide +kernel
theorem tyX0_ok : ∀ k, k < 0 → parseFieldDescriptor (TX0 k).2.2.1 = some (tyX0 k) := by decide +kernel
abbrev cX0_init : ByteArray := prog_2_method_1_code
def yX0_init : MethodName := ⟨RX0, "<init>", "()V"⟩
abbrev cX0_title : ByteArray := prog_2_method_2_code
def yX0_title : MethodName := ⟨RX0, "title", "()Ljava/lang/String;"⟩
abbrev cX0_isOf : ByteArray := prog_2_method_3_code
def yX0_isOf : MethodName := ⟨RX0, "isOf", "(I)Z"⟩
abbrev cX0_weigh : ByteArray := prog_2_method_4_code
def yX0_weigh : MethodName := ⟨RX0, "weigh", "(ZZI)I"⟩
def RX1 : String := "CornerTax$Free"
def TX1 : u_T := fun k => match k with
  | _ => ("", "", "", false)
def tyX1 : Nat → FieldType := fun k => match k with
  | _ => .int
abbrev wsX10 : List Cond := u_ws RX1 TX1 0
theorem nmX1 : ∀ a, a < 0 → ∀ b, b < 0 → a ≠ b → (TX1 a).2.1 ≠ (TX1 b).2.1 := by decide +kernel
theorem tyX1_ok : ∀ k, k < 0 → parseFieldDescriptor (TX1 k).2.2.1 = some (tyX1 k) := by decide +kernel
abbrev cX1_init : ByteArray := prog_3_method_1_code
def yX1_init : MethodName := ⟨RX1, "<init>", "()V"⟩
abbrev cX1_title : ByteArray := prog_3_method_2_code
def yX1_title : MethodName := ⟨RX1, "title", "()Ljava/lang/String;"⟩
abbrev cX1_isOf : ByteArray := prog_3_method_3_code
def yX1_isOf : MethodName := ⟨RX1, "isOf", "(I)Z"⟩
abbrev cX1_weigh : ByteArray := prog_3_method_4_code
def yX1_weigh : MethodName := ⟨RX1, "weigh", "(ZZI)I"⟩
def RX2 : String := "CornerTax$House"
def TX2 : u_T := fun k => match k with
  | 0 => ("CornerTax$House", "kind", "I", false)
  | 1 => ("CornerTax$House", "rate", "I", false)
  | 2 => ("CornerTax$House", "wealth", "I", false)
  | 3 => ("CornerTax$House", "owed", "I", false)
  | 4 => ("CornerTax$House", "rounded", "[I", true)
  | _ => ("CornerTax$House", "roundedCount", "I", false)
def tyX2 : Nat → FieldType := fun k => match k with
  | 0 => .int
  | 1 => .int
  | 2 => .int
  | 3 => .int
  | 4 => .array .int
  | _ => .int
abbrev wsX20 : List Cond := u_ws RX2 TX2 6
theorem nmX2 : ∀ a, a < 6 → ∀ b, b < 6 → a ≠ b → (TX2 a).2.1 ≠ (TX2 b).2.1 := by decide +kernel
theorem tyX2_ok : ∀ k, k < 6 → parseFieldDescriptor (TX2 k).2.2.1 = some (tyX2 k) := by decide +kernel
abbrev cX2_init : ByteArray := prog_4_method_1_code
def yX2_init : MethodName := ⟨RX2, "<init>", "()V"⟩
abbrev cX2_begin : ByteArray := prog_4_method_2_code
def yX2_begin : MethodName := ⟨RX2, "begin", "(II)V"⟩
abbrev cX2_isRounded : ByteArray := prog_4_method_3_code
def yX2_isRounded : MethodName := ⟨RX2, "isRounded", "(I)Z"⟩
abbrev cX2_addRounded : ByteArray := prog_4_method_4_code
def yX2_addRounded : MethodName := ⟨RX2, "addRounded", "(I)V"⟩
abbrev cX2_become : ByteArray := prog_4_method_5_code
def yX2_become : MethodName := ⟨RX2, "become", "(LCornerTax$House;)V"⟩
def RX3 : String := "CornerTax$Law"
def TX3 : u_T := fun k => match k with
  | _ => ("", "", "", false)
def tyX3 : Nat → FieldType := fun k => match k with
  | _ => .int
abbrev wsX30 : List Cond := u_ws RX3 TX3 0
theorem nmX3 : ∀ a, a < 0 → ∀ b, b < 0 → a ≠ b → (TX3 a).2.1 ≠ (TX3 b).2.1 := by decide +kernel
theorem tyX3_ok : ∀ k, k < 0 → parseFieldDescriptor (TX3 k).2.2.1 = some (tyX3 k) := by decide +kernel
abbrev cX3_init : ByteArray := prog_5_method_1_code
def yX3_init : MethodName := ⟨RX3, "<init>", "()V"⟩
abbrev cX3_title : ByteArray := prog_5_method_2_code
def yX3_title : MethodName := ⟨RX3, "title", "()Ljava/lang/String;"⟩
abbrev cX3_isOf : ByteArray := prog_5_method_3_code
def yX3_isOf : MethodName := ⟨RX3, "isOf", "(I)Z"⟩
abbrev cX3_weigh : ByteArray := prog_5_method_4_code
def yX3_weigh : MethodName := ⟨RX3, "weigh", "(ZZI)I"⟩
def RX4 : String := "CornerTax$Old"
def TX4 : u_T := fun k => match k with
  | _ => ("", "", "", false)
def tyX4 : Nat → FieldType := fun k => match k with
  | _ => .int
abbrev wsX40 : List Cond := u_ws RX4 TX4 0
theorem nmX4 : ∀ a, a < 0 → ∀ b, b < 0 → a ≠ b → (TX4 a).2.1 ≠ (TX4 b).2.1 := by decide +kernel
theorem tyX4_ok : ∀ k, k < 0 → parseFieldDescriptor (TX4 k).2.2.1 = some (tyX4 k) := by decide +kernel
abbrev cX4_init : ByteArray := prog_6_method_1_code
def yX4_init : MethodName := ⟨RX4, "<init>", "()V"⟩
abbrev cX4_title : ByteArray := prog_6_method_2_code
def yX4_title : MethodName := ⟨RX4, "title", "()Ljava/lang/String;"⟩
abbrev cX4_isOf : ByteArray := prog_6_method_3_code
def yX4_isOf : MethodName := ⟨RX4, "isOf", "(I)Z"⟩
abbrev cX4_weigh : ByteArray := prog_6_method_4_code
def yX4_weigh : MethodName := ⟨RX4, "weigh", "(ZZI)I"⟩
def RX5 : String := "CornerTax$Outward"
def TX5 : u_T := fun k => match k with
  | _ => ("", "", "", false)
def tyX5 : Nat → FieldType := fun k => match k with
  | _ => .int
abbrev wsX50 : List Cond := u_ws RX5 TX5 0
theorem nmX5 : ∀ a, a < 0 → ∀ b, b < 0 → a ≠ b → (TX5 a).2.1 ≠ (TX5 b).2.1 := by decide +kernel
theorem tyX5_ok : ∀ k, k < 0 → parseFieldDescriptor (TX5 k).2.2.1 = some (tyX5 k) := by decide +kernel
abbrev cX5_init : ByteArray := prog_7_method_1_code
def yX5_init : MethodName := ⟨RX5, "<init>", "()V"⟩
abbrev cX5_title : ByteArray := prog_7_method_2_code
def yX5_title : MethodName := ⟨RX5, "title", "()Ljava/lang/String;"⟩
abbrev cX5_isOf : ByteArray := prog_7_method_3_code
def yX5_isOf : MethodName := ⟨RX5, "isOf", "(I)Z"⟩
abbrev cX5_weigh : ByteArray := prog_7_method_4_code
def yX5_weigh : MethodName := ⟨RX5, "weigh", "(ZZI)I"⟩
def RX6 : String := "CornerTax$Shared"
def TX6 : u_T := fun k => match k with
  | _ => ("", "", "", false)
def tyX6 : Nat → FieldType := fun k => match k with
  | _ => .int
abbrev wsX60 : List Cond := u_ws RX6 TX6 0
theorem nmX6 : ∀ a, a < 0 → ∀ b, b < 0 → a ≠ b → (TX6 a).2.1 ≠ (TX6 b).2.1 := by decide +kernel
theorem tyX6_ok : ∀ k, k < 0 → parseFieldDescriptor (TX6 k).2.2.1 = some (tyX6 k) := by decide +kernel
abbrev cX6_init : ByteArray := prog_8_method_1_code
def yX6_init : MethodName := ⟨RX6, "<init>", "()V"⟩
abbrev cX6_title : ByteArray := prog_8_method_2_code
def yX6_title : MethodName := ⟨RX6, "title", "()Ljava/lang/String;"⟩
abbrev cX6_isOf : ByteArray := prog_8_method_3_code
def yX6_isOf : MethodName := ⟨RX6, "isOf", "(I)Z"⟩
abbrev cX6_weigh : ByteArray := prog_8_method_4_code
def yX6_weigh : MethodName := ⟨RX6, "weigh", "(ZZI)I"⟩
def RX7 : String := "CornerTax$Sheet"
def TX7 : u_T := fun k => match k with
  | 0 => ("CornerTax$Sheet", "bits", "I", false)
  | 1 => ("CornerTax$Sheet", "size", "I", false)
  | _ => ("CornerTax$Sheet", "numbers", "[J", true)
def tyX7 : Nat → FieldType := fun k => match k with
  | 0 => .int
  | 1 => .int
  | _ => .array .long
abbrev wsX70 : List Cond := u_ws RX7 TX7 3
theorem nmX7 : ∀ a, a < 3 → ∀ b, b < 3 → a ≠ b → (TX7 a).2.1 ≠ (TX7 b).2.1 := by decide +kernel
theorem tyX7_ok : ∀ k, k < 3 → parseFieldDescriptor (TX7 k).2.2.1 = some (tyX7 k) := by decide +kernel
abbrev cX7_init : ByteArray := prog_9_method_1_code
def yX7_init : MethodName := ⟨RX7, "<init>", "()V"⟩
abbrev cX7_isMissing : ByteArray := prog_9_method_2_code
def yX7_isMissing : MethodName := ⟨RX7, "isMissing", "()Z"⟩
abbrev cX7_become : ByteArray := prog_9_method_3_code
def yX7_become : MethodName := ⟨RX7, "become", "(II)V"⟩
abbrev cX7_fitted : ByteArray := prog_9_method_4_code
def yX7_fitted : MethodName := ⟨RX7, "fitted", "(J)J"⟩
abbrev cX7_hasRange : ByteArray := prog_9_method_5_code
def yX7_hasRange : MethodName := ⟨RX7, "hasRange", "(II)Z"⟩
def RX8 : String := "CornerTax$Sights"
def TX8 : u_T := fun k => match k with
  | 0 => ("CornerTax$Sights", "town", "LCornerTax$Town;", true)
  | 1 => ("CornerTax$Sights", "seenBy", "[I", true)
  | 2 => ("CornerTax$Sights", "lost", "[I", true)
  | 3 => ("CornerTax$Sights", "saved", "[I", true)
  | 4 => ("CornerTax$Sights", "views", "[J", true)
  | 5 => ("CornerTax$Sights", "moreViews", "[J", true)
  | 6 => ("CornerTax$Sights", "tour", "[I", true)
  | _ => ("CornerTax$Sights", "tourLength", "I", false)
def tyX8 : Nat → FieldType := fun k => match k with
  | 0 => .object "CornerTax$Town"
  | 1 => .array .int
  | 2 => .array .int
  | 3 => .array .int
  | 4 => .array .long
  | 5 => .array .long
  | 6 => .array .int
  | _ => .int
abbrev wsX80 : List Cond := u_ws RX8 TX8 8
theorem nmX8 : ∀ a, a < 8 → ∀ b, b < 8 → a ≠ b → (TX8 a).2.1 ≠ (TX8 b).2.1 := by decide +kernel
theorem tyX8_ok : ∀ k, k < 8 → parseFieldDescriptor (TX8 k).2.2.1 = some (tyX8 k) := by decide +kernel
abbrev cX8_init : ByteArray := prog_10_method_1_code
def yX8_init : MethodName := ⟨RX8, "<init>", "(LCornerTax$Town;)V"⟩
abbrev cX8_forget : ByteArray := prog_10_method_2_code
def yX8_forget : MethodName := ⟨RX8, "forget", "()V"⟩
abbrev cX8_lineOf : ByteArray := prog_10_method_3_code
def yX8_lineOf : MethodName := ⟨RX8, "lineOf", "(II)J"⟩
abbrev cX8_reaches : ByteArray := prog_10_method_4_code
def yX8_reaches : MethodName := ⟨RX8, "reaches", "(II)Z"⟩
abbrev cX8_isStreet : ByteArray := prog_10_method_5_code
def yX8_isStreet : MethodName := ⟨RX8, "isStreet", "(I)Z"⟩
abbrev cX8_seenFrom : ByteArray := prog_10_method_6_code
def yX8_seenFrom : MethodName := ⟨RX8, "seenFrom", "(I)I"⟩
abbrev cX8_countOf : ByteArray := prog_10_method_7_code
def yX8_countOf : MethodName := ⟨RX8, "countOf", "(II)I"⟩
abbrev cX8_countsOf : ByteArray := prog_10_method_8_code
def yX8_countsOf : MethodName := ⟨RX8, "countsOf", "(I)I"⟩
abbrev cX8_dearestCorner : ByteArray := prog_10_method_9_code
def yX8_dearestCorner : MethodName := ⟨RX8, "dearestCorner", "(I)I"⟩
abbrev cX8_bestShed : ByteArray := prog_10_method_10_code
def yX8_bestShed : MethodName := ⟨RX8, "bestShed", "(I)I"⟩
abbrev cX8_addSaved : ByteArray := prog_10_method_11_code
def yX8_addSaved : MethodName := ⟨RX8, "addSaved", "(III)V"⟩
abbrev cX8_countLinesThroughSquares : ByteArray := prog_10_method_12_code
def yX8_countLinesThroughSquares : MethodName := ⟨RX8, "countLinesThroughSquares", "(I)V"⟩
abbrev cX8_countSquaresOf : ByteArray := prog_10_method_13_code
def yX8_countSquaresOf : MethodName := ⟨RX8, "countSquaresOf", "(J)V"⟩
abbrev cX8_planTour : ByteArray := prog_10_method_14_code
def yX8_planTour : MethodName := ⟨RX8, "planTour", "()V"⟩
abbrev cX8_lookAround : ByteArray := prog_10_method_15_code
def yX8_lookAround : MethodName := ⟨RX8, "lookAround", "()V"⟩
abbrev cX8_lookAt : ByteArray := prog_10_method_16_code
def yX8_lookAt : MethodName := ⟨RX8, "lookAt", "(I)V"⟩
abbrev cX8_widestView : ByteArray := prog_10_method_17_code
def yX8_widestView : MethodName := ⟨RX8, "widestView", "(JJ)I"⟩
def RX9 : String := "CornerTax$Town"
def TX9 : u_T := fun k => match k with
  | 0 => ("CornerTax$Town", "laws", "[LCornerTax$Law;", true)
  | 1 => ("CornerTax$Town", "squares", "[I", true)
  | 2 => ("CornerTax$Town", "houses", "[LCornerTax$House;", true)
  | 3 => ("CornerTax$Town", "built", "I", false)
  | 4 => ("CornerTax$Town", "streets", "J", false)
  | _ => ("CornerTax$Town", "walls", "J", false)
def tyX9 : Nat → FieldType := fun k => match k with
  | 0 => .array (.object "CornerTax$Law")
  | 1 => .array .int
  | 2 => .array (.object "CornerTax$House")
  | 3 => .int
  | 4 => .long
  | _ => .long
abbrev wsX90 : List Cond := u_ws RX9 TX9 6
theorem nmX9 : ∀ a, a < 6 → ∀ b, b < 6 → a ≠ b → (TX9 a).2.1 ≠ (TX9 b).2.1 := by decide +kernel
theorem tyX9_ok : ∀ k, k < 6 → parseFieldDescriptor (TX9 k).2.2.1 = some (tyX9 k) := by decide +kernel
abbrev cX9_init : ByteArray := prog_11_method_1_code
def yX9_init : MethodName := ⟨RX9, "<init>", "([LCornerTax$Law;)V"⟩
abbrev cX9_mayBe : ByteArray := prog_11_method_2_code
def yX9_mayBe : MethodName := ⟨RX9, "mayBe", "(I)Z"⟩
abbrev cX9_lay : ByteArray := prog_11_method_3_code
def yX9_lay : MethodName := ⟨RX9, "lay", "(II)V"⟩
abbrev cX9_build : ByteArray := prog_11_method_4_code
def yX9_build : MethodName := ⟨RX9, "build", "(II)I"⟩
abbrev cX9_lawOf : ByteArray := prog_11_method_5_code
def yX9_lawOf : MethodName := ⟨RX9, "lawOf", "(I)LCornerTax$Law;"⟩
abbrev cX9_squaresThatAre : ByteArray := prog_11_method_6_code
def yX9_squaresThatAre : MethodName := ⟨RX9, "squaresThatAre", "(I)I"⟩
abbrev cX9_squaresOfHouses : ByteArray := prog_11_method_7_code
def yX9_squaresOfHouses : MethodName := ⟨RX9, "squaresOfHouses", "()I"⟩
abbrev cX9_isOf : ByteArray := prog_11_method_8_code
def yX9_isOf : MethodName := ⟨RX9, "isOf", "(III)Z"⟩
abbrev cX9_shapeAt : ByteArray := prog_11_method_9_code
def yX9_shapeAt : MethodName := ⟨RX9, "shapeAt", "(II)I"⟩
abbrev cX9_cornersOf : ByteArray := prog_11_method_10_code
def yX9_cornersOf : MethodName := ⟨RX9, "cornersOf", "(I)I"⟩
abbrev cX9_cornerBehind : ByteArray := prog_11_method_11_code
def yX9_cornerBehind : MethodName := ⟨RX9, "cornerBehind", "(II)I"⟩
abbrev cX9_cornersInCommon : ByteArray := prog_11_method_12_code
def yX9_cornersInCommon : MethodName := ⟨RX9, "cornersInCommon", "(II)I"⟩
abbrev cX9_ownersAt : ByteArray := prog_11_method_13_code
def yX9_ownersAt : MethodName := ⟨RX9, "ownersAt", "(I)I"⟩
abbrev cX9_isLessersCorner : ByteArray := prog_11_method_14_code
def yX9_isLessersCorner : MethodName := ⟨RX9, "isLessersCorner", "(II)Z"⟩
abbrev cX9_countIfSeen : ByteArray := prog_11_method_15_code
def yX9_countIfSeen : MethodName := ⟨RX9, "countIfSeen", "(III)I"⟩
abbrev cX9_become : ByteArray := prog_11_method_16_code
def yX9_become : MethodName := ⟨RX9, "become", "(LCornerTax$Town;)V"⟩
def RX10 : String := "CornerTax$TownText"
def TX10 : u_T := fun k => match k with
  | 0 => ("CornerTax$TownText", "town", "LCornerTax$Town;", true)
  | 1 => ("CornerTax$TownText", "before", "LCornerTax$Town;", true)
  | 2 => ("CornerTax$TownText", "tape", "[I", true)
  | 3 => ("CornerTax$TownText", "length", "I", false)
  | 4 => ("CornerTax$TownText", "start", "I", false)
  | 5 => ("CornerTax$TownText", "end", "I", false)
  | 6 => ("CornerTax$TownText", "token", "I", false)
  | _ => ("CornerTax$TownText", "value", "I", false)
def tyX10 : Nat → FieldType := fun k => match k with
  | 0 => .object "CornerTax$Town"
  | 1 => .object "CornerTax$Town"
  | 2 => .array .int
  | 3 => .int
  | 4 => .int
  | 5 => .int
  | 6 => .int
  | _ => .int
abbrev wsX100 : List Cond := u_ws RX10 TX10 8
theorem nmX10 : ∀ a, a < 8 → ∀ b, b < 8 → a ≠ b → (TX10 a).2.1 ≠ (TX10 b).2.1 := by decide +kernel
theorem tyX10_ok : ∀ k, k < 8 → parseFieldDescriptor (TX10 k).2.2.1 = some (tyX10 k) := by decide +kernel
abbrev cX10_init : ByteArray := prog_12_method_1_code
def yX10_init : MethodName := ⟨RX10, "<init>", "(LCornerTax$Town;LCornerTax$Town;)V"⟩
abbrev cX10_append : ByteArray := prog_12_method_2_code
def yX10_append : MethodName := ⟨RX10, "append", "(I)V"⟩
abbrev cX10_perform : ByteArray := prog_12_method_3_code
def yX10_perform : MethodName := ⟨RX10, "perform", "()I"⟩
abbrev cX10_takesItem : ByteArray := prog_12_method_4_code
def yX10_takesItem : MethodName := ⟨RX10, "takesItem", "()Z"⟩
abbrev cX10_takesSquares : ByteArray := prog_12_method_5_code
def yX10_takesSquares : MethodName := ⟨RX10, "takesSquares", "(I)Z"⟩
abbrev cX10_takesHouse : ByteArray := prog_12_method_6_code
def yX10_takesHouse : MethodName := ⟨RX10, "takesHouse", "(I)Z"⟩
abbrev cX10_takesWealth : ByteArray := prog_12_method_7_code
def yX10_takesWealth : MethodName := ⟨RX10, "takesWealth", "()Z"⟩
abbrev cX10_isNumberWithin : ByteArray := prog_12_method_8_code
def yX10_isNumberWithin : MethodName := ⟨RX10, "isNumberWithin", "(II)Z"⟩
abbrev cX10_plainSquare : ByteArray := prog_12_method_9_code
def yX10_plainSquare : MethodName := ⟨RX10, "plainSquare", "()I"⟩
abbrev cX10_kindNamed : ByteArray := prog_12_method_10_code
def yX10_kindNamed : MethodName := ⟨RX10, "kindNamed", "()I"⟩
abbrev cX10_isWord : ByteArray := prog_12_method_11_code
def yX10_isWord : MethodName := ⟨RX10, "isWord", "(Ljava/lang/String;)Z"⟩
abbrev cX10_advance : ByteArray := prog_12_method_12_code
def yX10_advance : MethodName := ⟨RX10, "advance", "()V"⟩
abbrev cX10_passLetters : ByteArray := prog_12_method_13_code
def yX10_passLetters : MethodName := ⟨RX10, "passLetters", "()V"⟩
abbrev cX10_passDigits : ByteArray := prog_12_method_14_code
def yX10_passDigits : MethodName := ⟨RX10, "passDigits", "()V"⟩
abbrev cX10_isLetter : ByteArray := prog_12_method_15_code
def yX10_isLetter : MethodName := ⟨RX10, "isLetter", "(I)Z"⟩
abbrev cX10_isDigit : ByteArray := prog_12_method_16_code
def yX10_isDigit : MethodName := ⟨RX10, "isDigit", "(I)Z"⟩
def RX11 : String := "CornerTax"
def TX11 : u_T := fun k => match k with
  | 0 => ("CornerTax", "now", "LCornerTax$Town;", true)
  | 1 => ("CornerTax", "kept", "LCornerTax$Town;", true)
  | 2 => ("CornerTax", "isKept", "Z", false)
  | 3 => ("CornerTax", "sights", "LCornerTax$Sights;", true)
  | 4 => ("CornerTax", "text", "LCornerTax$TownText;", true)
  | 5 => ("CornerTax", "sheets", "[LCornerTax$Sheet;", true)
  | 6 => ("CornerTax", "findings", "[I", true)
  | 7 => ("CornerTax", "plotCorners", "[I", true)
  | _ => ("CornerTax", "plotSets", "[I", true)
def tyX11 : Nat → FieldType := fun k => match k with
  | 0 => .object "CornerTax$Town"
  | 1 => .object "CornerTax$Town"
  | 2 => .boolean
  | 3 => .object "CornerTax$Sights"
  | 4 => .object "CornerTax$TownText"
  | 5 => .array (.object "CornerTax$Sheet")
  | 6 => .array .int
  | 7 => .array .int
  | _ => .array .int
abbrev wsX110 : List Cond := u_ws RX11 TX11 9
theorem nmX11 : ∀ a, a < 9 → ∀ b, b < 9 → a ≠ b → (TX11 a).2.1 ≠ (TX11 b).2.1 := by decide +kernel
theorem tyX11_ok : ∀ k, k < 9 → parseFieldDescriptor (TX11 k).2.2.1 = some (tyX11 k) := by decide +kernel
abbrev cX11_init : ByteArray := prog_1_method_1_code
def yX11_init : MethodName := ⟨RX11, "<init>", "()V"⟩
abbrev cX11_square : ByteArray := prog_1_method_2_code
def yX11_square : MethodName := ⟨RX11, "square", "(II)I"⟩
abbrev cX11_at : ByteArray := prog_1_method_3_code
def yX11_at : MethodName := ⟨RX11, "at", "(I)I"⟩
abbrev cX11_house : ByteArray := prog_1_method_4_code
def yX11_house : MethodName := ⟨RX11, "house", "(II)I"⟩
abbrev cX11_of : ByteArray := prog_1_method_5_code
def yX11_of : MethodName := ⟨RX11, "of", "(II)I"⟩
abbrev cX11_set : ByteArray := prog_1_method_6_code
def yX11_set : MethodName := ⟨RX11, "set", "(III)I"⟩
abbrev cX11_turn : ByteArray := prog_1_method_7_code
def yX11_turn : MethodName := ⟨RX11, "turn", "(II)I"⟩
abbrev cX11_as : ByteArray := prog_1_method_8_code
def yX11_as : MethodName := ⟨RX11, "as", "(II)I"⟩
abbrev cX11_corner : ByteArray := prog_1_method_9_code
def yX11_corner : MethodName := ⟨RX11, "corner", "(II)I"⟩
abbrev cX11_ith : ByteArray := prog_1_method_10_code
def yX11_ith : MethodName := ⟨RX11, "ith", "(II)I"⟩
abbrev cX11_sees : ByteArray := prog_1_method_11_code
def yX11_sees : MethodName := ⟨RX11, "sees", "(II)I"⟩
abbrev cX11_seen : ByteArray := prog_1_method_12_code
def yX11_seen : MethodName := ⟨RX11, "seen", "(I)I"⟩
abbrev cX11_counts : ByteArray := prog_1_method_13_code
def yX11_counts : MethodName := ⟨RX11, "counts", "(II)I"⟩
abbrev cX11_whose : ByteArray := prog_1_method_14_code
def yX11_whose : MethodName := ⟨RX11, "whose", "(I)I"⟩
abbrev cX11_round : ByteArray := prog_1_method_15_code
def yX11_round : MethodName := ⟨RX11, "round", "(II)I"⟩
abbrev cX11_pays : ByteArray := prog_1_method_16_code
def yX11_pays : MethodName := ⟨RX11, "pays", "(II)I"⟩
abbrev cX11_shed : ByteArray := prog_1_method_17_code
def yX11_shed : MethodName := ⟨RX11, "shed", "(I)I"⟩
abbrev cX11_plot : ByteArray := prog_1_method_18_code
def yX11_plot : MethodName := ⟨RX11, "plot", "(II)I"⟩
abbrev cX11_spots : ByteArray := prog_1_method_19_code
def yX11_spots : MethodName := ⟨RX11, "spots", "(I)I"⟩
abbrev cX11_yields : ByteArray := prog_1_method_20_code
def yX11_yields : MethodName := ⟨RX11, "yields", "()I"⟩
abbrev cX11_rateFor : ByteArray := prog_1_method_21_code
def yX11_rateFor : MethodName := ⟨RX11, "rateFor", "(I)I"⟩
abbrev cX11_neighbours : ByteArray := prog_1_method_22_code
def yX11_neighbours : MethodName := ⟨RX11, "neighbours", "()I"⟩
abbrev cX11_years : ByteArray := prog_1_method_23_code
def yX11_years : MethodName := ⟨RX11, "years", "(I)I"⟩
abbrev cX11_feed : ByteArray := prog_1_method_24_code
def yX11_feed : MethodName := ⟨RX11, "feed", "(II)I"⟩
abbrev cX11_wipe : ByteArray := prog_1_method_25_code
def yX11_wipe : MethodName := ⟨RX11, "wipe", "()I"⟩
abbrev cX11_town : ByteArray := prog_1_method_26_code
def yX11_town : MethodName := ⟨RX11, "town", "()I"⟩
abbrev cX11_sheet : ByteArray := prog_1_method_27_code
def yX11_sheet : MethodName := ⟨RX11, "sheet", "(III)I"⟩
abbrev cX11_write : ByteArray := prog_1_method_28_code
def yX11_write : MethodName := ⟨RX11, "write", "(IIJ)J"⟩
abbrev cX11_copy : ByteArray := prog_1_method_29_code
def yX11_copy : MethodName := ⟨RX11, "copy", "(IIIII)I"⟩
abbrev cX11_lays : ByteArray := prog_1_method_30_code
def yX11_lays : MethodName := ⟨RX11, "lays", "(II)I"⟩
abbrev cX11_read : ByteArray := prog_1_method_31_code
def yX11_read : MethodName := ⟨RX11, "read", "(II)I"⟩
abbrev cX11_image : ByteArray := prog_1_method_32_code
def yX11_image : MethodName := ⟨RX11, "image", "()I"⟩
abbrev cX11_undo : ByteArray := prog_1_method_33_code
def yX11_undo : MethodName := ⟨RX11, "undo", "()I"⟩
abbrev cX11_tear : ByteArray := prog_1_method_34_code
def yX11_tear : MethodName := ⟨RX11, "tear", "()I"⟩
abbrev cX11_count : ByteArray := prog_1_method_35_code
def yX11_count : MethodName := ⟨RX11, "count", "(I)I"⟩
abbrev cX11_status : ByteArray := prog_1_method_36_code
def yX11_status : MethodName := ⟨RX11, "status", "(I)I"⟩
abbrev cX11_finding : ByteArray := prog_1_method_37_code
def yX11_finding : MethodName := ⟨RX11, "finding", "(I)I"⟩
abbrev cX11_isSquare : ByteArray := prog_1_method_38_code
def yX11_isSquare : MethodName := ⟨RX11, "isSquare", "(I)Z"⟩
abbrev cX11_isPoint : ByteArray := prog_1_method_39_code
def yX11_isPoint : MethodName := ⟨RX11, "isPoint", "(I)Z"⟩
abbrev cX11_isKind : ByteArray := prog_1_method_40_code
def yX11_isKind : MethodName := ⟨RX11, "isKind", "(I)Z"⟩
abbrev cX11_isRate : ByteArray := prog_1_method_41_code
def yX11_isRate : MethodName := ⟨RX11, "isRate", "(I)Z"⟩
abbrev cX11_isWealth : ByteArray := prog_1_method_42_code
def yX11_isWealth : MethodName := ⟨RX11, "isWealth", "(I)Z"⟩
abbrev cX11_isSheet : ByteArray := prog_1_method_43_code
def yX11_isSheet : MethodName := ⟨RX11, "isSheet", "(I)Z"⟩
abbrev cX11_isHouse : ByteArray := prog_1_method_44_code
def yX11_isHouse : MethodName := ⟨RX11, "isHouse", "(I)Z"⟩
abbrev cX11_taxOf : ByteArray := prog_1_method_45_code
def yX11_taxOf : MethodName := ⟨RX11, "taxOf", "(I)I"⟩
abbrev cX11_liveYear : ByteArray := prog_1_method_46_code
def yX11_liveYear : MethodName := ⟨RX11, "liveYear", "(I)I"⟩
abbrev cX11_findPlot : ByteArray := prog_1_method_47_code
def yX11_findPlot : MethodName := ⟨RX11, "findPlot", "(I)V"⟩
abbrev cX11_widened : ByteArray := prog_1_method_48_code
def yX11_widened : MethodName := ⟨RX11, "widened", "(I)I"⟩
abbrev cX11_cornersOfShape : ByteArray := prog_1_method_49_code
def yX11_cornersOfShape : MethodName := ⟨RX11, "cornersOfShape", "(I)I"⟩
abbrev cX11_hangsTogether : ByteArray := prog_1_method_50_code
def yX11_hangsTogether : MethodName := ⟨RX11, "hangsTogether", "(I)Z"⟩
def RX12 : String := "CornerTaxModel"
def TX12 : u_T := fun k => match k with
  | 0 => ("CornerTaxModel", "now", "[I", true)
  | 1 => ("CornerTaxModel", "kept", "[I", true)
  | 2 => ("CornerTaxModel", "isKept", "Z", false)
  | 3 => ("CornerTaxModel", "found", "[I", true)
  | 4 => ("CornerTaxModel", "seenFrom", "[J", true)
  | 5 => ("CornerTaxModel", "isFound", "Z", false)
  | 6 => ("CornerTaxModel", "plotSet", "I", false)
  | 7 => ("CornerTaxModel", "spots", "[I", true)
  | 8 => ("CornerTaxModel", "isLeft", "[Z", true)
  | 9 => ("CornerTaxModel", "tape", "[I", true)
  | 10 => ("CornerTaxModel", "taped", "I", false)
  | 11 => ("CornerTaxModel", "begins", "I", false)
  | 12 => ("CornerTaxModel", "ends", "I", false)
  | 13 => ("CornerTaxModel", "sort", "I", false)
  | 14 => ("CornerTaxModel", "value", "I", false)
  | 15 => ("CornerTaxModel", "isWrong", "Z", false)
  | 16 => ("CornerTaxModel", "sorts", "[Ljava/lang/String;", true)
  | 17 => ("CornerTaxModel", "kinds", "[Ljava/lang/String;", true)
  | 18 => ("CornerTaxModel", "items", "[I", true)
  | 19 => ("CornerTaxModel", "itemSquares", "[J", true)
  | 20 => ("CornerTaxModel", "itemMany", "I", false)
  | 21 => ("CornerTaxModel", "houseMany", "I", false)
  | 22 => ("CornerTaxModel", "widths", "[I", true)
  | 23 => ("CornerTaxModel", "sizes", "[I", true)
  | 24 => ("CornerTaxModel", "numbers", "[J", true)
  | _ => ("CornerTaxModel", "moved", "[J", true)
def tyX12 : Nat → FieldType := fun k => match k with
  | 0 => .array .int
  | 1 => .array .int
  | 2 => .boolean
  | 3 => .array .int
  | 4 => .array .long
  | 5 => .boolean
  | 6 => .int
  | 7 => .array .int
  | 8 => .array .boolean
  | 9 => .array .int
  | 10 => .int
  | 11 => .int
  | 12 => .int
  | 13 => .int
  | 14 => .int
  | 15 => .boolean
  | 16 => .array (.object "java/lang/String")
  | 17 => .array (.object "java/lang/String")
  | 18 => .array .int
  | 19 => .array .long
  | 20 => .int
  | 21 => .int
  | 22 => .array .int
  | 23 => .array .int
  | 24 => .array .long
  | _ => .array .long
abbrev wsX120 : List Cond := u_ws RX12 TX12 26
theorem nmX12 : ∀ a, a < 26 → ∀ b, b < 26 → a ≠ b → (TX12 a).2.1 ≠ (TX12 b).2.1 := by decide +kernel
theorem tyX12_ok : ∀ k, k < 26 → parseFieldDescriptor (TX12 k).2.2.1 = some (tyX12 k) := by decide +kernel
abbrev cX12_init : ByteArray := prog_14_method_1_code
def yX12_init : MethodName := ⟨RX12, "<init>", "()V"⟩
abbrev cX12_finding : ByteArray := prog_14_method_2_code
def yX12_finding : MethodName := ⟨RX12, "finding", "(I)I"⟩
abbrev cX12_within : ByteArray := prog_14_method_3_code
def yX12_within : MethodName := ⟨RX12, "within", "(III)Z"⟩
abbrev cX12_has : ByteArray := prog_14_method_4_code
def yX12_has : MethodName := ⟨RX12, "has", "(II)Z"⟩
abbrev cX12_become : ByteArray := prog_14_method_5_code
def yX12_become : MethodName := ⟨RX12, "become", "(II)I"⟩
abbrev cX12_isSquare : ByteArray := prog_14_method_6_code
def yX12_isSquare : MethodName := ⟨RX12, "isSquare", "(I)Z"⟩
abbrev cX12_isSort : ByteArray := prog_14_method_7_code
def yX12_isSort : MethodName := ⟨RX12, "isSort", "(I)Z"⟩
abbrev cX12_stands : ByteArray := prog_14_method_8_code
def yX12_stands : MethodName := ⟨RX12, "stands", "(II)I"⟩
abbrev cX12_square : ByteArray := prog_14_method_9_code
def yX12_square : MethodName := ⟨RX12, "square", "(II)I"⟩
abbrev cX12_at : ByteArray := prog_14_method_10_code
def yX12_at : MethodName := ⟨RX12, "at", "(I)I"⟩
abbrev cX12_manyOf : ByteArray := prog_14_method_11_code
def yX12_manyOf : MethodName := ⟨RX12, "manyOf", "(I)I"⟩
abbrev cX12_standsAt : ByteArray := prog_14_method_12_code
def yX12_standsAt : MethodName := ⟨RX12, "standsAt", "(II)I"⟩
abbrev cX12_hinders : ByteArray := prog_14_method_13_code
def yX12_hinders : MethodName := ⟨RX12, "hinders", "(I)Z"⟩
abbrev cX12_findSeen : ByteArray := prog_14_method_14_code
def yX12_findSeen : MethodName := ⟨RX12, "findSeen", "()V"⟩
abbrev cX12_isOpen : ByteArray := prog_14_method_15_code
def yX12_isOpen : MethodName := ⟨RX12, "isOpen", "(I)Z"⟩
abbrev cX12_isClear : ByteArray := prog_14_method_16_code
def yX12_isClear : MethodName := ⟨RX12, "isClear", "(II)Z"⟩
abbrev cX12_goesThrough : ByteArray := prog_14_method_17_code
def yX12_goesThrough : MethodName := ⟨RX12, "goesThrough", "(IIIIII)Z"⟩
abbrev cX12_seenAt : ByteArray := prog_14_method_18_code
def yX12_seenAt : MethodName := ⟨RX12, "seenAt", "(I)J"⟩
abbrev cX12_bits : ByteArray := prog_14_method_19_code
def yX12_bits : MethodName := ⟨RX12, "bits", "(J)I"⟩
abbrev cX12_isPoint : ByteArray := prog_14_method_20_code
def yX12_isPoint : MethodName := ⟨RX12, "isPoint", "(I)Z"⟩
abbrev cX12_isHouse : ByteArray := prog_14_method_21_code
def yX12_isHouse : MethodName := ⟨RX12, "isHouse", "(I)Z"⟩
abbrev cX12_houseIs : ByteArray := prog_14_method_22_code
def yX12_houseIs : MethodName := ⟨RX12, "houseIs", "(II)I"⟩
abbrev cX12_founded : ByteArray := prog_14_method_23_code
def yX12_founded : MethodName := ⟨RX12, "founded", "(II)I"⟩
abbrev cX12_house : ByteArray := prog_14_method_24_code
def yX12_house : MethodName := ⟨RX12, "house", "(II)I"⟩
abbrev cX12_of : ByteArray := prog_14_method_25_code
def yX12_of : MethodName := ⟨RX12, "of", "(II)I"⟩
abbrev cX12_set : ByteArray := prog_14_method_26_code
def yX12_set : MethodName := ⟨RX12, "set", "(III)I"⟩
abbrev cX12_turn : ByteArray := prog_14_method_27_code
def yX12_turn : MethodName := ⟨RX12, "turn", "(II)I"⟩
abbrev cX12_above : ByteArray := prog_14_method_28_code
def yX12_above : MethodName := ⟨RX12, "above", "(I)I"⟩
abbrev cX12_as : ByteArray := prog_14_method_29_code
def yX12_as : MethodName := ⟨RX12, "as", "(II)I"⟩
abbrev cX12_cornerOf : ByteArray := prog_14_method_30_code
def yX12_cornerOf : MethodName := ⟨RX12, "cornerOf", "(II)I"⟩
abbrev cX12_cornersOf : ByteArray := prog_14_method_31_code
def yX12_cornersOf : MethodName := ⟨RX12, "cornersOf", "(I)I"⟩
abbrev cX12_corner : ByteArray := prog_14_method_32_code
def yX12_corner : MethodName := ⟨RX12, "corner", "(II)I"⟩
abbrev cX12_ithOf : ByteArray := prog_14_method_33_code
def yX12_ithOf : MethodName := ⟨RX12, "ithOf", "(II)I"⟩
abbrev cX12_ith : ByteArray := prog_14_method_34_code
def yX12_ith : MethodName := ⟨RX12, "ith", "(II)I"⟩
abbrev cX12_sees : ByteArray := prog_14_method_35_code
def yX12_sees : MethodName := ⟨RX12, "sees", "(II)I"⟩
abbrev cX12_seen : ByteArray := prog_14_method_36_code
def yX12_seen : MethodName := ⟨RX12, "seen", "(I)I"⟩
abbrev cX12_isRounded : ByteArray := prog_14_method_37_code
def yX12_isRounded : MethodName := ⟨RX12, "isRounded", "(II)Z"⟩
abbrev cX12_whoseIs : ByteArray := prog_14_method_38_code
def yX12_whoseIs : MethodName := ⟨RX12, "whoseIs", "(I)I"⟩
abbrev cX12_countOf : ByteArray := prog_14_method_39_code
def yX12_countOf : MethodName := ⟨RX12, "countOf", "(II)I"⟩
abbrev cX12_allCounts : ByteArray := prog_14_method_40_code
def yX12_allCounts : MethodName := ⟨RX12, "allCounts", "(I)I"⟩
abbrev cX12_taxOf : ByteArray := prog_14_method_41_code
def yX12_taxOf : MethodName := ⟨RX12, "taxOf", "(I)I"⟩
abbrev cX12_counts : ByteArray := prog_14_method_42_code
def yX12_counts : MethodName := ⟨RX12, "counts", "(II)I"⟩
abbrev cX12_whose : ByteArray := prog_14_method_43_code
def yX12_whose : MethodName := ⟨RX12, "whose", "(I)I"⟩
abbrev cX12_rounds : ByteArray := prog_14_method_44_code
def yX12_rounds : MethodName := ⟨RX12, "rounds", "(II)V"⟩
abbrev cX12_round : ByteArray := prog_14_method_45_code
def yX12_round : MethodName := ⟨RX12, "round", "(II)I"⟩
abbrev cX12_pays : ByteArray := prog_14_method_46_code
def yX12_pays : MethodName := ⟨RX12, "pays", "(II)I"⟩
abbrev cX12_shed : ByteArray := prog_14_method_47_code
def yX12_shed : MethodName := ⟨RX12, "shed", "(I)I"⟩
abbrev cX12_isOnPlot : ByteArray := prog_14_method_48_code
def yX12_isOnPlot : MethodName := ⟨RX12, "isOnPlot", "(III)Z"⟩
abbrev cX12_plotCorners : ByteArray := prog_14_method_49_code
def yX12_plotCorners : MethodName := ⟨RX12, "plotCorners", "(I)I"⟩
abbrev cX12_hangsTogether : ByteArray := prog_14_method_50_code
def yX12_hangsTogether : MethodName := ⟨RX12, "hangsTogether", "(I)Z"⟩
abbrev cX12_plot : ByteArray := prog_14_method_51_code
def yX12_plot : MethodName := ⟨RX12, "plot", "(II)I"⟩
abbrev cX12_newFrom : ByteArray := prog_14_method_52_code
def yX12_newFrom : MethodName := ⟨RX12, "newFrom", "(I)I"⟩
abbrev cX12_findSpots : ByteArray := prog_14_method_53_code
def yX12_findSpots : MethodName := ⟨RX12, "findSpots", "()I"⟩
abbrev cX12_spots : ByteArray := prog_14_method_54_code
def yX12_spots : MethodName := ⟨RX12, "spots", "(I)I"⟩
abbrev cX12_yields : ByteArray := prog_14_method_55_code
def yX12_yields : MethodName := ⟨RX12, "yields", "()I"⟩
abbrev cX12_rateFor : ByteArray := prog_14_method_56_code
def yX12_rateFor : MethodName := ⟨RX12, "rateFor", "(I)I"⟩
abbrev cX12_neighbours : ByteArray := prog_14_method_57_code
def yX12_neighbours : MethodName := ⟨RX12, "neighbours", "()I"⟩
abbrev cX12_bestToRound : ByteArray := prog_14_method_58_code
def yX12_bestToRound : MethodName := ⟨RX12, "bestToRound", "(I)I"⟩
abbrev cX12_yearOf : ByteArray := prog_14_method_59_code
def yX12_yearOf : MethodName := ⟨RX12, "yearOf", "(I)I"⟩
abbrev cX12_years : ByteArray := prog_14_method_60_code
def yX12_years : MethodName := ⟨RX12, "years", "(I)I"⟩
abbrev cX12_feed : ByteArray := prog_14_method_61_code
def yX12_feed : MethodName := ⟨RX12, "feed", "(II)I"⟩
abbrev cX12_wipe : ByteArray := prog_14_method_62_code
def yX12_wipe : MethodName := ⟨RX12, "wipe", "()I"⟩
abbrev cX12_byteAt : ByteArray := prog_14_method_63_code
def yX12_byteAt : MethodName := ⟨RX12, "byteAt", "(I)I"⟩
abbrev cX12_next : ByteArray := prog_14_method_64_code
def yX12_next : MethodName := ⟨RX12, "next", "()V"⟩
abbrev cX12_isWord : ByteArray := prog_14_method_65_code
def yX12_isWord : MethodName := ⟨RX12, "isWord", "(Ljava/lang/String;)Z"⟩
abbrev cX12_must : ByteArray := prog_14_method_66_code
def yX12_must : MethodName := ⟨RX12, "must", "(Z)V"⟩
abbrev cX12_number : ByteArray := prog_14_method_67_code
def yX12_number : MethodName := ⟨RX12, "number", "(II)I"⟩
abbrev cX12_which : ByteArray := prog_14_method_68_code
def yX12_which : MethodName := ⟨RX12, "which", "([Ljava/lang/String;)I"⟩
abbrev cX12_item : ByteArray := prog_14_method_69_code
def yX12_item : MethodName := ⟨RX12, "item", "(IIIJ)V"⟩
abbrev cX12_squares : ByteArray := prog_14_method_70_code
def yX12_squares : MethodName := ⟨RX12, "squares", "()J"⟩
abbrev cX12_readItem : ByteArray := prog_14_method_71_code
def yX12_readItem : MethodName := ⟨RX12, "readItem", "()V"⟩
abbrev cX12_isSo : ByteArray := prog_14_method_72_code
def yX12_isSo : MethodName := ⟨RX12, "isSo", "(I)V"⟩
abbrev cX12_town : ByteArray := prog_14_method_73_code
def yX12_town : MethodName := ⟨RX12, "town", "()I"⟩
abbrev cX12_isSheet : ByteArray := prog_14_method_74_code
def yX12_isSheet : MethodName := ⟨RX12, "isSheet", "(I)Z"⟩
abbrev cX12_cutTo : ByteArray := prog_14_method_75_code
def yX12_cutTo : MethodName := ⟨RX12, "cutTo", "(JI)J"⟩
abbrev cX12_sheet : ByteArray := prog_14_method_76_code
def yX12_sheet : MethodName := ⟨RX12, "sheet", "(III)I"⟩
abbrev cX12_write : ByteArray := prog_14_method_77_code
def yX12_write : MethodName := ⟨RX12, "write", "(IIJ)J"⟩
abbrev cX12_copy : ByteArray := prog_14_method_78_code
def yX12_copy : MethodName := ⟨RX12, "copy", "(IIIII)I"⟩
abbrev cX12_lays : ByteArray := prog_14_method_79_code
def yX12_lays : MethodName := ⟨RX12, "lays", "(II)I"⟩
abbrev cX12_read : ByteArray := prog_14_method_80_code
def yX12_read : MethodName := ⟨RX12, "read", "(II)I"⟩
abbrev cX12_copyRow : ByteArray := prog_14_method_81_code
def yX12_copyRow : MethodName := ⟨RX12, "copyRow", "([I[I)V"⟩
abbrev cX12_image : ByteArray := prog_14_method_82_code
def yX12_image : MethodName := ⟨RX12, "image", "()I"⟩
abbrev cX12_undo : ByteArray := prog_14_method_83_code
def yX12_undo : MethodName := ⟨RX12, "undo", "()I"⟩
abbrev cX12_tear : ByteArray := prog_14_method_84_code
def yX12_tear : MethodName := ⟨RX12, "tear", "()I"⟩
abbrev cX12_count : ByteArray := prog_14_method_85_code
def yX12_count : MethodName := ⟨RX12, "count", "(I)I"⟩
abbrev cX12_status : ByteArray := prog_14_method_86_code
def yX12_status : MethodName := ⟨RX12, "status", "(I)I"⟩
def RJx145de : String := "java/io/Serializable"
def TJx145de : u_T := fun k => match k with
  | _ => ("", "", "", false)
def RJx9f9b0 : String := "java/lang/CharSequence"
def TJx9f9b0 : u_T := fun k => match k with
  | _ => ("", "", "", false)
def RJxb160c : String := "java/lang/Comparable"
def TJxb160c : u_T := fun k => match k with
  | _ => ("", "", "", false)
def RJ6 : String := "java/lang/Integer"
def TJ6 : u_T := fun k => match k with
  | _ => ("", "", "", false)
abbrev cJ6_bitCount_0f7a4 : ByteArray := prog_15_method_49_code
def yJ6_bitCount_0f7a4 : MethodName := ⟨RJ6, "bitCount", "(I)I"⟩
def RJ13 : String := "java/lang/Long"
def TJ13 : u_T := fun k => match k with
  | _ => ("", "", "", false)
abbrev cJ13_bitCount_95d88 : ByteArray := prog_16_method_50_code
def yJ13_bitCount_95d88 : MethodName := ⟨RJ13, "bitCount", "(J)I"⟩
def RJ9 : String := "java/lang/Math"
def TJ9 : u_T := fun k => match k with
  | _ => ("", "", "", false)
abbrev cJ9_abs_0f7a4 : ByteArray := prog_17_method_59_code
def yJ9_abs_0f7a4 : MethodName := ⟨RJ9, "abs", "(I)I"⟩
abbrev cJ9_max_7cf53 : ByteArray := prog_17_method_65_code
def yJ9_max_7cf53 : MethodName := ⟨RJ9, "max", "(II)I"⟩
abbrev cJ9_min_7cf53 : ByteArray := prog_17_method_69_code
def yJ9_min_7cf53 : MethodName := ⟨RJ9, "min", "(II)I"⟩
def RJ0 : String := "java/lang/String"
def TJ0 : u_T := fun k => match k with
  | _ => ("", "", "", false)
abbrev cJ0_length_8abf5 : ByteArray := prog_18_method_54_code
def yJ0_length_8abf5 : MethodName := ⟨RJ0, "length", "()I"⟩
abbrev cJ0_charAt_5068e : ByteArray := prog_18_method_56_code
def yJ0_charAt_5068e : MethodName := ⟨RJ0, "charAt", "(I)C"⟩
abbrev cJ0_coder_7d493 : ByteArray := prog_18_method_152_code
def yJ0_coder_7d493 : MethodName := ⟨RJ0, "coder", "()B"⟩
abbrev cJ0_isLatin1_aae02 : ByteArray := prog_18_method_154_code
def yJ0_isLatin1_aae02 : MethodName := ⟨RJ0, "isLatin1", "()Z"⟩
abbrev cJ0_checkIndex_df160 : ByteArray := prog_18_method_155_code
def yJ0_checkIndex_df160 : MethodName := ⟨RJ0, "checkIndex", "(II)V"⟩
def RJ1 : String := "java/lang/StringLatin1"
def TJ1 : u_T := fun k => match k with
  | _ => ("", "", "", false)
abbrev cJ1_charAt_3b067 : ByteArray := prog_19_method_2_code
def yJ1_charAt_3b067 : MethodName := ⟨RJ1, "charAt", "([BI)C"⟩
def RJ2 : String := "java/lang/StringUTF16"
def TJ2 : u_T := fun k => match k with
  | _ => ("", "", "", false)
abbrev cJ2_getChar_3b067 : ByteArray := prog_20_method_5_code
def yJ2_getChar_3b067 : MethodName := ⟨RJ2, "getChar", "([BI)C"⟩
abbrev cJ2_length_9d52b : ByteArray := prog_20_method_6_code
def yJ2_length_9d52b : MethodName := ⟨RJ2, "length", "([B)I"⟩
abbrev cJ2_charAt_3b067 : ByteArray := prog_20_method_83_code
def yJ2_charAt_3b067 : MethodName := ⟨RJ2, "charAt", "([BI)C"⟩
abbrev cJ2_checkIndex_2214a : ByteArray := prog_20_method_91_code
def yJ2_checkIndex_2214a : MethodName := ⟨RJ2, "checkIndex", "(I[B)V"⟩
def RJ10 : String := "java/lang/System"
def TJ10 : u_T := fun k => match k with
  | _ => ("", "", "", false)
def RJxfd54e : String := "java/lang/constant/Constable"
def TJxfd54e : u_T := fun k => match k with
  | _ => ("", "", "", false)
def RJx3cf43 : String := "java/lang/constant/ConstantDesc"
def TJx3cf43 : u_T := fun k => match k with
  | _ => ("", "", "", false)
def RJ7 : String := "java/util/Arrays"
def TJ7 : u_T := fun k => match k with
  | _ => ("", "", "", false)
abbrev cJ7_fill_d0a16 : ByteArray := prog_22_method_101_code
def yJ7_fill_d0a16 : MethodName := ⟨RJ7, "fill", "([JJ)V"⟩
abbrev cJ7_fill_53178 : ByteArray := prog_22_method_103_code
def yJ7_fill_53178 : MethodName := ⟨RJ7, "fill", "([II)V"⟩
def RJ3 : String := "jdk/internal/util/Preconditions"
def TJ3 : u_T := fun k => match k with
  | _ => ("", "", "", false)
abbrev cJ3_checkIndex_8e157 : ByteArray := prog_23_method_11_code
def yJ3_checkIndex_8e157 : MethodName := ⟨RJ3, "checkIndex", "(IILjava/util/function/BiFunction;)I"⟩
def RL : String := "CornerTaxLaw"
abbrev cL_law : ByteArray := code
def yL_law : MethodName := ⟨RL, "law", "([I)Z"⟩
abbrev vwCl : List vw_C := [(RX0, TX0, 0), (RX1, TX1, 0), (RX2, TX2, 6), (RX3, TX3, 0), (RX4, TX4, 0), (RX5, TX5, 0), (RX6, TX6, 0), (RX7, TX7, 3), (RX8, TX8, 8), (RX9, TX9, 6), (RX10, TX10, 8), (RX11, TX11, 9), (RX12, TX12, 26)]
theorem inX0 : ∀ w ∈ u_ws RX0 TX0 0, w ∈ lw_tbl := by decide +kernel
theorem inX1 : ∀ w ∈ u_ws RX1 TX1 0, w ∈ lw_tbl := by decide +kernel
theorem inX2 : ∀ w ∈ u_ws RX2 TX2 6, w ∈ lw_tbl := by decide +kernel
theorem inX3 : ∀ w ∈ u_ws RX3 TX3 0, w ∈ lw_tbl := by decide +kernel
theorem inX4 : ∀ w ∈ u_ws RX4 TX4 0, w ∈ lw_tbl := by decide +kernel
theorem inX5 : ∀ w ∈ u_ws RX5 TX5 0, w ∈ lw_tbl := by decide +kernel
theorem inX6 : ∀ w ∈ u_ws RX6 TX6 0, w ∈ lw_tbl := by decide +kernel
theorem inX7 : ∀ w ∈ u_ws RX7 TX7 3, w ∈ lw_tbl := by decide +kernel
theorem inX8 : ∀ w ∈ u_ws RX8 TX8 8, w ∈ lw_tbl := by decide +kernel
theorem inX9 : ∀ w ∈ u_ws RX9 TX9 6, w ∈ lw_tbl := by decide +kernel
theorem inX10 : ∀ w ∈ u_ws RX10 TX10 8, w ∈ lw_tbl := by decide +kernel
theorem inX11 : ∀ w ∈ u_ws RX11 TX11 9, w ∈ lw_tbl := by decide +kernel
theorem inX12 : ∀ w ∈ u_ws RX12 TX12 26, w ∈ lw_tbl := by decide +kernel
def al_gt : List Cond := lw_tbl.filter goodWord
theorem al_in {w : Cond} (h : w ∈ lw_tbl) (hg : goodWord w = true) : w ∈ al_gt := List.mem_filter.mpr ⟨h, hg⟩
theorem al_at {w : Cond} (i : Nat) (h : lw_tbl[i]? = some w) (hg : goodWord w = true) : w ∈ al_gt := al_in (List.mem_of_getElem? h) hg
theorem al_gi {ws : List Cond} (h : ∀ w ∈ ws, w ∈ al_gt) : GoodIn al_gt ws := fun w hw => ⟨h w hw, good_of_word (List.mem_filter.mp (h w hw)).2⟩
theorem inG0 : ∀ w ∈ u_ws RX0 TX0 0, w ∈ al_gt := fun w h => al_in (inX0 w h) ((by decide +kernel : ∀ w ∈ u_ws RX0 TX0 0, goodWord w = true) w h)
theorem inG1 : ∀ w ∈ u_ws RX1 TX1 0, w ∈ al_gt := fun w h => al_in (inX1 w h) ((by decide +kernel : ∀ w ∈ u_ws RX1 TX1 0, goodWord w = true) w h)
theorem inG2 : ∀ w ∈ u_ws RX2 TX2 6, w ∈ al_gt := fun w h => al_in (inX2 w h) ((by decide +kernel : ∀ w ∈ u_ws RX2 TX2 6, goodWord w = true) w h)
theorem inG3 : ∀ w ∈ u_ws RX3 TX3 0, w ∈ al_gt := fun w h => al_in (inX3 w h) ((by decide +kernel : ∀ w ∈ u_ws RX3 TX3 0, goodWord w = true) w h)
theorem inG4 : ∀ w ∈ u_ws RX4 TX4 0, w ∈ al_gt := fun w h => al_in (inX4 w h) ((by decide +kernel : ∀ w ∈ u_ws RX4 TX4 0, goodWord w = true) w h)
theorem inG5 : ∀ w ∈ u_ws RX5 TX5 0, w ∈ al_gt := fun w h => al_in (inX5 w h) ((by decide +kernel : ∀ w ∈ u_ws RX5 TX5 0, goodWord w = true) w h)
theorem inG6 : ∀ w ∈ u_ws RX6 TX6 0, w ∈ al_gt := fun w h => al_in (inX6 w h) ((by decide +kernel : ∀ w ∈ u_ws RX6 TX6 0, goodWord w = true) w h)
theorem inG7 : ∀ w ∈ u_ws RX7 TX7 3, w ∈ al_gt := fun w h => al_in (inX7 w h) ((by decide +kernel : ∀ w ∈ u_ws RX7 TX7 3, goodWord w = true) w h)
theorem inG8 : ∀ w ∈ u_ws RX8 TX8 8, w ∈ al_gt := fun w h => al_in (inX8 w h) ((by decide +kernel : ∀ w ∈ u_ws RX8 TX8 8, goodWord w = true) w h)
theorem inG9 : ∀ w ∈ u_ws RX9 TX9 6, w ∈ al_gt := fun w h => al_in (inX9 w h) ((by decide +kernel : ∀ w ∈ u_ws RX9 TX9 6, goodWord w = true) w h)
theorem inG10 : ∀ w ∈ u_ws RX10 TX10 8, w ∈ al_gt := fun w h => al_in (inX10 w h) ((by decide +kernel : ∀ w ∈ u_ws RX10 TX10 8, goodWord w = true) w h)
theorem inG11 : ∀ w ∈ u_ws RX11 TX11 9, w ∈ al_gt := fun w h => al_in (inX11 w h) ((by decide +kernel : ∀ w ∈ u_ws RX11 TX11 9, goodWord w = true) w h)
theorem inG12 : ∀ w ∈ u_ws RX12 TX12 26, w ∈ al_gt := fun w h => al_in (inX12 w h) ((by decide +kernel : ∀ w ∈ u_ws RX12 TX12 26, goodWord w = true) w h)
end
section
/-! THE ABSTRACT MACHINE: states are numbers by place and slot (R: references, I: ints, J: longs); a place is the order of its making. -/
abbrev RR : Type := Nat → Nat → Option Nat
abbrev II : Type := Nat → Nat → Int32
abbrev JJ : Type := Nat → Nat → Int64
abbrev KT : Type := List (Option Value) → List Value → Nat → RR → II → JJ → Prop
abbrev QT : Type := Option Value → Nat → RR → II → JJ → Prop
abbrev FT : Type := Nat → KT
abbrev MD : Type := MethodName × ByteArray × Nat × Option FieldType × Nat × Nat
/-- base, classes' numbers and slots, array classes by kind, the Strings' addresses, their arrays', the script's, a formatter's -/
abbrev TH : Type := Nat × va_G × (Nat → ClassId) × (Nat → Nat) × (Nat → Nat) × Nat × Nat
def th_b (t : TH) : Nat := t.1
def th_D (t : TH) : va_G := t.2.1
def th_c (t : TH) : Nat → ClassId := t.2.2.1
def th_K (t : TH) : Nat → Nat := t.2.2.2.1
def th_V (t : TH) : Nat → Nat := t.2.2.2.2.1
def th_s (t : TH) : Nat := t.2.2.2.2.2.1
def th_f (t : TH) : Nat := t.2.2.2.2.2.2
def al_nth {α : Type} : List α → Nat → α → α
  | [], _, d => d
  | a :: _, 0, _ => a
  | _ :: l, i + 1, d => al_nth l i d
/-- the fields' sorts by class: 0 int, 1 long, 2 reference, 3 boolean -/
def al_ftT : List (List Nat) := [[], [], [0, 0, 0, 0, 2, 0], [], [], [], [], [0, 0, 2], [2, 2, 2, 2, 2, 2, 2, 0], [2, 2, 2, 0, 1, 1], [2, 2, 2, 0, 0, 0, 0, 0], [2, 2, 3, 2, 2, 2, 2, 2, 2], [2, 2, 3, 2, 2, 3, 0, 2, 2, 2, 0, 0, 0, 0, 0, 3, 2, 2, 2, 2, 0, 0, 2, 2, 2, 2]]
def al_ft (ci : Nat) : List Nat := al_nth al_ftT ci []
/-- what is made, in the order of its making: an object of a class, or an array of a sort (0 int, 1 long, 2 boolean, 3 Law, 4 House, 5 Sheet, 6 String) and its length -/
def al_town : List (Nat ⊕ (Nat × Nat)) := [.inl 9, .inr (0, 64), .inr (4, 6), .inl 2, .inr (0, 8), .inl 2, .inr (0, 8), .inl 2, .inr (0, 8), .inl 2, .inr (0, 8), .inl 2, .inr (0, 8), .inl 2, .inr (0, 8)]
def al_skT : List (Nat ⊕ (Nat × Nat)) := [.inl 11, .inr (3, 6), .inl 3, .inl 5, .inl 6, .inl 0, .inl 4, .inl 1,
  .inl 9, .inr (0, 64), .inr (4, 6), .inl 2, .inr (0, 8), .inl 2, .inr (0, 8), .inl 2, .inr (0, 8), .inl 2, .inr (0, 8), .inl 2, .inr (0, 8), .inl 2, .inr (0, 8),
  .inl 9, .inr (0, 64), .inr (4, 6), .inl 2, .inr (0, 8), .inl 2, .inr (0, 8), .inl 2, .inr (0, 8), .inl 2, .inr (0, 8), .inl 2, .inr (0, 8), .inl 2, .inr (0, 8),
  .inl 8, .inr (0, 81), .inr (0, 64), .inr (0, 64), .inr (1, 64), .inr (1, 64), .inr (0, 64),
  .inl 10,
  .inl 9, .inr (0, 64), .inr (4, 6), .inl 2, .inr (0, 8), .inl 2, .inr (0, 8), .inl 2, .inr (0, 8), .inl 2, .inr (0, 8), .inl 2, .inr (0, 8), .inl 2, .inr (0, 8),
  .inr (0, 120),
  .inr (5, 4), .inl 7, .inr (1, 40), .inl 7, .inr (1, 40), .inl 7, .inr (1, 40), .inl 7, .inr (1, 40),
  .inr (0, 7), .inr (0, 13), .inr (0, 13),
  .inl 12, .inr (0, 143), .inr (0, 143), .inr (0, 8), .inr (1, 81), .inr (0, 64), .inr (2, 81), .inr (0, 120), .inr (6, 4), .inr (6, 6), .inr (0, 360), .inr (1, 120), .inr (0, 4), .inr (0, 4), .inr (1, 160), .inr (1, 40)]
def al_sk (p : Nat) : Nat ⊕ (Nat × Nat) := al_nth al_skT p (.inl 100)
def al_szp (p : Nat) : Nat := match al_sk p with
  | .inl ci => (al_ft ci).length
  | .inr a => a.2
def al_sz : Nat → Nat
  | 0 => 0
  | n + 1 => al_sz n + al_szp n
def al_cls (n p : Nat) : Option Nat := match Nat.blt p n with
  | true => (match al_sk p with
    | .inl ci => some ci
    | .inr _ => none)
  | false => none
def al_ark (n p : Nat) : Option (Nat × Nat) := match Nat.blt p n with
  | true => (match al_sk p with
    | .inl _ => none
    | .inr a => some a)
  | false => none
def al_eqb (a b : Nat) (P : Prop) : Prop := match Nat.beq a b with
  | true => P
  | false => False
def al_isC (n p ci : Nat) (P : Prop) : Prop := match al_cls n p with
  | some c => al_eqb c ci P
  | none => False
def al_isA (n p ak : Nat) (P : Nat → Prop) : Prop := match al_ark n p with
  | some a => al_eqb a.1 ak (P a.2)
  | none => False
theorem al_eqb_of {a b : Nat} {P : Prop} (h : al_eqb a b P) : a = b ∧ P := by
  unfold al_eqb at h
  cases e : Nat.beq a b with
  | true => rw [e] at h; exact ⟨Nat.eq_of_beq_eq_true e, h⟩
  | false => rw [e] at h; exact h.elim
theorem al_eqb_in {a : Nat} {P : Prop} (h : P) : al_eqb a a P := by
  unfold al_eqb
  rw [show Nat.beq a a = true from Nat.beq_refl a]
  exact h
theorem al_isC_of {n p ci : Nat} {P : Prop} (h : al_isC n p ci P) : al_cls n p = some ci ∧ P := by
  unfold al_isC at h
  cases e : al_cls n p with
  | none => rw [e] at h; exact h.elim
  | some c =>
    rw [e] at h
    obtain ⟨e1, h2⟩ := al_eqb_of h
    exact ⟨by rw [e1], h2⟩
theorem al_isC_in {n p ci : Nat} {P : Prop} (h : al_cls n p = some ci) (hP : P) : al_isC n p ci P := by
  unfold al_isC
  rw [h]
  exact al_eqb_in hP
theorem al_isA_of {n p ak : Nat} {P : Nat → Prop} (h : al_isA n p ak P) : ∃ len, al_ark n p = some (ak, len) ∧ P len := by
  unfold al_isA at h
  cases e : al_ark n p with
  | none => rw [e] at h; exact h.elim
  | some a =>
    rw [e] at h
    obtain ⟨a1, len⟩ := a
    obtain ⟨h1, h2⟩ := al_eqb_of h
    dsimp only at h1 h2
    exact ⟨len, by rw [h1], h2⟩
theorem al_isA_in {n p ak len : Nat} {P : Nat → Prop} (h : al_ark n p = some (ak, len)) (hP : P len) : al_isA n p ak P := by
  unfold al_isA
  rw [h]
  exact al_eqb_in hP
theorem al_cls_of {n p ci : Nat} (h : al_cls n p = some ci) : p < n ∧ al_sk p = .inl ci := by
  unfold al_cls at h
  cases e : Nat.blt p n with
  | false => rw [e] at h; cases h
  | true =>
    rw [e] at h
    refine ⟨by simpa [Nat.blt_eq] using e, ?_⟩
    cases e2 : al_sk p with
    | inl c => rw [e2] at h; cases h; rfl
    | inr c => rw [e2] at h; cases h
theorem al_ark_of {n p : Nat} {a : Nat × Nat} (h : al_ark n p = some a) : p < n ∧ al_sk p = .inr a := by
  unfold al_ark at h
  cases e : Nat.blt p n with
  | false => rw [e] at h; cases h
  | true =>
    rw [e] at h
    refine ⟨by simpa [Nat.blt_eq] using e, ?_⟩
    cases e2 : al_sk p with
    | inl c => rw [e2] at h; cases h
    | inr c => rw [e2] at h; cases h; rfl
/-- addresses: places below 1000 lie from the base on; 1000 is the script; 2000 and on the Strings -/
def al_ad (t : TH) (k : Nat) : Nat := if k < 1000 then th_b t + k else if k = 1000 then th_s t else if k < 3000 then th_K t (k - 2000) else if k < 4000 then th_V t (k - 3000) else th_f t
def al_tr (t : TH) (v : Value) : Value := match v with
  | .ref k => .ref (al_ad t k)
  | .int x => .int x
  | .long x => .long x
  | .float x => .float x
  | .double x => .double x
  | .null => .null
  | .retAddr x => .retAddr x
theorem al_tr_cat (t : TH) (v : Value) : (al_tr t v).category = v.category := by cases v <;> rfl
def al_up {α : Type} (f : Nat → Nat → α) (p j : Nat) (v : α) : Nat → Nat → α := fun q r => if q = p then (if r = j then v else f q r) else f q r
theorem al_up_s {α : Type} {f : Nat → Nat → α} {p j : Nat} {v : α} : al_up f p j v p j = v := by simp [al_up]
theorem al_up_p {α : Type} {f : Nat → Nat → α} {p j q r : Nat} {v : α} (h : q ≠ p) : al_up f p j v q r = f q r := by simp [al_up, h]
theorem al_up_j {α : Type} {f : Nat → Nat → α} {p j q r : Nat} {v : α} (h : r ≠ j) : al_up f p j v q r = f q r := by simp [al_up, h]
theorem al_up_row {α : Type} {f : Nat → Nat → α} {p j q : Nat} {v : α} (h : q ≠ p) : al_up f p j v q = f q := by funext r; exact al_up_p h
/-- a value of a field -/
def al_fv (t : TH) (R : RR) (I : II) (J : JJ) (p ty k : Nat) : Value := match ty with
  | 1 => .long (J p k)
  | 2 => va_rf ((R p k).map (al_ad t))
  | _ => .int (I p k)
def al_fs (t : TH) (R : RR) (I : II) (J : JJ) (p : Nat) : List Nat → Nat → List Value
  | [], _ => []
  | y :: ys, k => al_fv t R I J p y k :: al_fs t R I J p ys (k + 1)
def al_ar (t : TH) (R : RR) (I : II) (J : JJ) (p ak len : Nat) : vp_A := (len, match ak with
  | 0 => .inl (I p)
  | 1 => .inr (.inl (J p))
  | 2 => .inl (I p)
  | _ => .inr (.inr (.inr (.inr (fun j => (R p j).map (al_ad t))))))
def al_ce (t : TH) (R : RR) (I : II) (J : JJ) (p : Nat) : va_E := match al_sk p with
  | .inl ci => .inr (ci, al_fs t R I J p (al_ft ci) 0)
  | .inr a => .inl (th_c t a.1, al_ar t R I J p a.1 a.2)
def al_ws (t : TH) (n : Nat) (R : RR) (I : II) (J : JJ) : va_W := (List.range n).map (fun p => (th_b t + p, al_ce t R I J p))
def al_A (t : TH) : Nat → Prop := fun q => th_b t ≤ q
def al_tys (t : TH) : List (ClassId × FieldType) := [(th_c t 0, .int), (th_c t 1, .long), (th_c t 2, .boolean), (th_c t 3, .object RX3), (th_c t 4, .object RX2), (th_c t 5, .object RX7), (th_c t 6, .object "java/lang/String")]
theorem al_fs_get (t : TH) (R : RR) (I : II) (J : JJ) (p : Nat) : ∀ (f : List Nat) (k j : Nat), (al_fs t R I J p f k)[j]? = (f[j]?).map (fun y => al_fv t R I J p y (k + j))
  | [], k, j => by simp [al_fs]
  | y :: ys, k, 0 => by simp [al_fs]
  | y :: ys, k, j + 1 => by
    rw [al_fs, List.getElem?_cons_succ, List.getElem?_cons_succ, al_fs_get t R I J p ys (k + 1) j, show k + 1 + j = k + (j + 1) by omega]
theorem al_fs_len (t : TH) (R : RR) (I : II) (J : JJ) (p : Nat) : ∀ (f : List Nat) (k : Nat), (al_fs t R I J p f k).length = f.length
  | [], _ => rfl
  | y :: ys, k => by simp [al_fs, al_fs_len t R I J p ys (k + 1)]
theorem al_ws_get (t : TH) (n : Nat) (R : RR) (I : II) (J : JJ) {p : Nat} (h : p < n) : (al_ws t n R I J)[p]? = some (th_b t + p, al_ce t R I J p) := by
  simp [al_ws, h]
theorem al_ws_some {t : TH} {n : Nat} {R : RR} {I : II} {J : JJ} {p : Nat} {q : Nat × va_E} (h : (al_ws t n R I J)[p]? = some q) : p < n ∧ q = (th_b t + p, al_ce t R I J p) := by
  unfold al_ws at h
  by_cases hp : p < n
  · rw [List.getElem?_map, List.getElem?_range hp] at h
    exact ⟨hp, (Option.some.inj h).symm⟩
  · rw [List.getElem?_eq_none (by simp; omega)] at h
    cases h
theorem al_ws_D (t : TH) (n : Nat) (R : RR) (I : II) (J : JJ) : va_D (al_A t) (al_ws t n R I J) := by
  refine ⟨fun i j p q hi hj e => ?_, fun k q hk => ?_⟩
  · obtain ⟨-, rfl⟩ := al_ws_some hi
    obtain ⟨-, rfl⟩ := al_ws_some hj
    dsimp only at e
    omega
  · obtain ⟨-, rfl⟩ := al_ws_some hk
    exact Nat.le_add_right _ _
theorem al_ws_set {t : TH} {n : Nat} {R R' : RR} {I I' : II} {J J' : JJ} {p : Nat} {x : va_E} (hp : p < n) (hx : al_ce t R' I' J' p = x) (ho : ∀ q, q ≠ p → al_ce t R' I' J' q = al_ce t R I J q) : (al_ws t n R I J).set p (th_b t + p, x) = al_ws t n R' I' J' := by
  apply List.ext_getElem?
  intro k
  by_cases hk : k = p
  · subst hk
    rw [List.getElem?_set_self (by simp [al_ws]; omega), al_ws_get _ _ _ _ _ hp, hx]
  · rw [List.getElem?_set_ne (Ne.symm hk)]
    by_cases hn : k < n
    · rw [al_ws_get _ _ _ _ _ hn, al_ws_get _ _ _ _ _ hn, ho k hk]
    · rw [List.getElem?_eq_none (by simp [al_ws]; omega), List.getElem?_eq_none (by simp [al_ws]; omega)]
/-- a field written: the list of the fields with it set -/
theorem al_fs_set {t : TH} {R R' : RR} {I I' : II} {J J' : JJ} {p : Nat} {v : Value} : ∀ {f : List Nat} {k j ty : Nat}, f[j]? = some ty → al_fv t R' I' J' p ty (k + j) = v → (∀ i y, i ≠ k + j → al_fv t R' I' J' p y i = al_fv t R I J p y i) → (al_fs t R I J p f k).set j v = al_fs t R' I' J' p f k := by
  intro f k j ty hj hv ho
  apply List.ext_getElem?
  intro i
  have hjl : j < f.length := (List.getElem?_eq_some_iff.mp hj).1
  by_cases hi : i = j
  · subst hi
    rw [List.getElem?_set_self (by rw [al_fs_len]; exact hjl), al_fs_get, hj]
    simp [hv]
  · rw [List.getElem?_set_ne (Ne.symm hi), al_fs_get, al_fs_get]
    congr 1
    funext y
    exact (ho (k + i) y (by omega)).symm
theorem al_fs_eq {t : TH} {R R' : RR} {I I' : II} {J J' : JJ} {p : Nat} (f : List Nat) (k : Nat) (hR : R' p = R p) (hI : I' p = I p) (hJ : J' p = J p) : al_fs t R' I' J' p f k = al_fs t R I J p f k := by
  apply List.ext_getElem?
  intro i
  rw [al_fs_get, al_fs_get]
  congr 1
  funext y
  simp only [al_fv, hR, hI, hJ]
theorem al_ce_eq {t : TH} {R R' : RR} {I I' : II} {J J' : JJ} {p : Nat} (hR : R' p = R p) (hI : I' p = I p) (hJ : J' p = J p) : al_ce t R' I' J' p = al_ce t R I J p := by
  unfold al_ce
  cases al_sk p with
  | inl ci => simp only [al_fs_eq (al_ft ci) 0 hR hI hJ]
  | inr a => simp only [al_ar, hR, hI, hJ]
end
section
/-! LOCALS, by continuation, so that lists stay written out -/
def al_gL : List (Option Value) → Nat → (Value → Prop) → Prop
  | [], _, _ => False
  | none :: _, 0, _ => False
  | some v :: _, 0, k => k v
  | _ :: L, i + 1, k => al_gL L i k
/-- the slot ahead of a store: a long there is gone -/
def al_gd (a : Option Value) (i : Nat) (k : Option Value → Prop) : Prop := match i with
  | 0 => (match a with
    | none => k none
    | some (.long _) => k none
    | some (.double _) => k none
    | some v => k (some v))
  | _ + 1 => k a
def al_sL : List (Option Value) → Nat → Value → (List (Option Value) → Prop) → Prop
  | [], _, _, _ => False
  | _ :: L, 0, v, k => k (some v :: L)
  | a :: L, i + 1, v, k => al_gd a i (fun a' => al_sL L i v (fun L' => k (a' :: L')))
def al_sJ : List (Option Value) → Nat → Value → (List (Option Value) → Prop) → Prop
  | [], _, _, _ => False
  | _ :: _ :: L, 0, v, k => k (some v :: none :: L)
  | [_], 0, _, _ => False
  | a :: L, i + 1, v, k => al_gd a i (fun a' => al_sJ L i v (fun L' => k (a' :: L')))
def al_le : List (Option Value) → List (Option Value) → Prop
  | [], _ => True
  | none :: L', _ :: L => al_le L' L
  | none :: _, [] => False
  | some v :: L', w :: L => w = some v ∧ al_le L' L
  | some _ :: _, [] => False
def al_cs : List Value → Nat
  | [] => 0
  | .long _ :: r => 2 + al_cs r
  | .double _ :: r => 2 + al_cs r
  | _ :: r => 1 + al_cs r
def al_r8 (r : List Value) (P : Prop) : Prop := match Nat.ble (al_cs r) 8 with
  | true => P
  | false => False
def al_pop : Nat → List Value → List Value → (List Value → List Value → Prop) → Prop
  | 0, st, acc, k => k acc st
  | m + 1, v :: st, acc, k => al_pop m st (v :: acc) k
  | _ + 1, [], _, _ => False
def al_Wd0 (t : TH) (U : State) (H : Heap) : Prop := va_K (th_D t) vwCl (al_tys t) U
/-! OPERATIONS: each turns 'what must hold behind it' into 'what must hold ahead of it' -/
def o_iload (i : Nat) (k : KT) : KT := fun L st n R I J => al_gL L i (fun v => match v with
  | .int x => k L (.int x :: st) n R I J
  | _ => False)
def o_lload (i : Nat) (k : KT) : KT := fun L st n R I J => al_gL L i (fun v => match v with
  | .long x => k L (.long x :: st) n R I J
  | _ => False)
def o_aload (i : Nat) (k : KT) : KT := fun L st n R I J => al_gL L i (fun v => match v with
  | .ref x => k L (.ref x :: st) n R I J
  | _ => False)
def o_istore (i : Nat) (k : KT) : KT := fun L st n R I J => match st with
  | .int x :: r => al_sL L i (.int x) (fun L' => k L' r n R I J)
  | _ => False
def o_astore (i : Nat) (k : KT) : KT := fun L st n R I J => match st with
  | .ref x :: r => al_sL L i (.ref x) (fun L' => k L' r n R I J)
  | _ => False
def o_lstore (i : Nat) (k : KT) : KT := fun L st n R I J => match st with
  | .long x :: r => al_sJ L i (.long x) (fun L' => k L' r n R I J)
  | _ => False
def o_iinc (i : Nat) (d : Int32) (k : KT) : KT := fun L st n R I J => al_gL L i (fun v => match v with
  | .int x => al_sL L i (.int (x + d)) (fun L' => k L' st n R I J)
  | _ => False)
def o_ic (v : Int32) (k : KT) : KT := fun L st n R I J => k L (.int v :: st) n R I J
def o_lc (v : Int64) (k : KT) : KT := fun L st n R I J => k L (.long v :: st) n R I J
def o_sc (j : Nat) (k : KT) : KT := fun L st n R I J => k L (.ref (2000 + j) :: st) n R I J
def o_ii (f : Int32 → Int32 → Int32) (k : KT) : KT := fun L st n R I J => match st with
  | .int y :: .int x :: r => k L (.int (f x y) :: r) n R I J
  | _ => False
def o_i1 (f : Int32 → Int32) (k : KT) : KT := fun L st n R I J => match st with
  | .int x :: r => k L (.int (f x) :: r) n R I J
  | _ => False
def o_ll (f : Int64 → Int64 → Int64) (k : KT) : KT := fun L st n R I J => match st with
  | .long y :: .long x :: r => k L (.long (f x y) :: r) n R I J
  | _ => False
def o_li (f : Int64 → Int32 → Int64) (k : KT) : KT := fun L st n R I J => match st with
  | .int y :: .long x :: r => k L (.long (f x y) :: r) n R I J
  | _ => False
def o_dv (f : Int32 → Int32 → Int32) (k : KT) : KT := fun L st n R I J => match st with
  | .int y :: .int x :: r => (¬ y = 0) ∧ k L (.int (f x y) :: r) n R I J
  | _ => False
def o_i2l (k : KT) : KT := fun L st n R I J => match st with
  | .int x :: r => k L (.long x.toInt64 :: r) n R I J
  | _ => False
def o_l2i (k : KT) : KT := fun L st n R I J => match st with
  | .long x :: r => k L (.int x.toInt32 :: r) n R I J
  | _ => False
def o_lcmp (k : KT) : KT := fun L st n R I J => match st with
  | .long y :: .long x :: r => k L (.int (lg_cmp x y) :: r) n R I J
  | _ => False
def o_dup (k : KT) : KT := fun L st n R I J => match st with
  | .int x :: r => k L (.int x :: .int x :: r) n R I J
  | .ref x :: r => k L (.ref x :: .ref x :: r) n R I J
  | _ => False
def o_dup2 (k : KT) : KT := fun L st n R I J => match st with
  | .int x :: .ref y :: r => k L (.int x :: .ref y :: .int x :: .ref y :: r) n R I J
  | _ => False
def o_pop (k : KT) : KT := fun L st n R I J => match st with
  | .int _ :: r => k L r n R I J
  | _ => False
def o_if1 (cnd : Int32 → Prop) (kt k : KT) : KT := fun L st n R I J => match st with
  | .int x :: r => (cnd x → kt L r n R I J) ∧ (¬ cnd x → k L r n R I J)
  | _ => False
def o_if2 (cnd : Int32 → Int32 → Prop) (kt k : KT) : KT := fun L st n R I J => match st with
  | .int y :: .int x :: r => (cnd x y → kt L r n R I J) ∧ (¬ cnd x y → k L r n R I J)
  | _ => False
def o_ifn (kt k : KT) : KT := fun L st n R I J => match st with
  | .int x :: r => (¬ x = 0 → kt L r n R I J) ∧ (x = 0 → k L r n R I J)
  | _ => False
def o_icn (kt k : KT) : KT := fun L st n R I J => match st with
  | .int y :: .int x :: r => (¬ x = y → kt L r n R I J) ∧ (x = y → k L r n R I J)
  | _ => False
def o_tsw : Int32 → List KT → KT → KT
  | _, [], d => fun L st n R I J => match st with
    | .int _ :: r => d L r n R I J
    | _ => False
  | a, k0 :: ks, d => fun L st n R I J => match st with
    | .int x :: r => (x = a → k0 L r n R I J) ∧ (¬ x = a → o_tsw (a + 1) ks d L (.int x :: r) n R I J)
    | _ => False
def o_getI (ci j : Nat) (k : KT) : KT := fun L st n R I J => match st with
  | .ref p :: r => al_isC n p ci (k L (.int (I p j) :: r) n R I J)
  | _ => False
def o_getJ (ci j : Nat) (k : KT) : KT := fun L st n R I J => match st with
  | .ref p :: r => al_isC n p ci (k L (.long (J p j) :: r) n R I J)
  | _ => False
def al_rk (v : Option Nat) (k : Nat → Prop) : Prop := match v with
  | some q => k q
  | none => False
def o_getR (ci j : Nat) (k : KT) : KT := fun L st n R I J => match st with
  | .ref p :: r => al_isC n p ci (al_rk (R p j) (fun q => k L (.ref q :: r) n R I J))
  | _ => False
def o_putI (ci j : Nat) (k : KT) : KT := fun L st n R I J => match st with
  | .int v :: .ref p :: r => al_isC n p ci (k L r n R (al_up I p j v) J)
  | _ => False
def o_putZ (ci j : Nat) (k : KT) : KT := fun L st n R I J => match st with
  | .int v :: .ref p :: r => al_isC n p ci ((v = 0 ∨ v = 1) ∧ k L r n R (al_up I p j v) J)
  | _ => False
def o_putJ (ci j : Nat) (k : KT) : KT := fun L st n R I J => match st with
  | .long v :: .ref p :: r => al_isC n p ci (k L r n R I (al_up J p j v))
  | _ => False
def o_putR (ci j : Nat) (k : KT) : KT := fun L st n R I J => match st with
  | .ref q :: .ref p :: r => al_isC n p ci (k L r n (al_up R p j (some q)) I J)
  | _ => False
def o_iald (k : KT) : KT := fun L st n R I J => match st with
  | .int i :: .ref p :: r => al_isA n p 0 (fun len => ∃ j : Nat, j < len ∧ i = nI j ∧ k L (.int (I p j) :: r) n R I J)
  | _ => False
def o_zald (k : KT) : KT := fun L st n R I J => match st with
  | .int i :: .ref p :: r => al_isA n p 2 (fun len => ∃ j : Nat, j < len ∧ i = nI j ∧ k L (.int (I p j) :: r) n R I J)
  | _ => False
def o_lald (k : KT) : KT := fun L st n R I J => match st with
  | .int i :: .ref p :: r => al_isA n p 1 (fun len => ∃ j : Nat, j < len ∧ i = nI j ∧ k L (.long (J p j) :: r) n R I J)
  | _ => False
def o_aald (ak : Nat) (k : KT) : KT := fun L st n R I J => match st with
  | .int i :: .ref p :: r => al_isA n p ak (fun len => ∃ j : Nat, j < len ∧ i = nI j ∧ al_rk (R p j) (fun q => k L (.ref q :: r) n R I J))
  | _ => False
def o_iast (k : KT) : KT := fun L st n R I J => match st with
  | .int v :: .int i :: .ref p :: r => al_isA n p 0 (fun len => ∃ j : Nat, j < len ∧ i = nI j ∧ k L r n R (al_up I p j v) J)
  | _ => False
def o_zast (k : KT) : KT := fun L st n R I J => match st with
  | .int v :: .int i :: .ref p :: r => al_isA n p 2 (fun len => ∃ j : Nat, j < len ∧ i = nI j ∧ (v = 0 ∨ v = 1) ∧ k L r n R (al_up I p j v) J)
  | _ => False
def o_last (k : KT) : KT := fun L st n R I J => match st with
  | .long v :: .int i :: .ref p :: r => al_isA n p 1 (fun len => ∃ j : Nat, j < len ∧ i = nI j ∧ k L r n R I (al_up J p j v))
  | _ => False
def o_aast (ak ci : Nat) (k : KT) : KT := fun L st n R I J => match st with
  | .ref q :: .int i :: .ref p :: r => al_isA n p ak (fun len => ∃ j : Nat, j < len ∧ i = nI j ∧ al_isC n q ci (k L r n (al_up R p j (some q)) I J))
  | _ => False
def al_st (q : Nat) : Prop := 2000 ≤ q ∧ q < 2013
def o_sast (k : KT) : KT := fun L st n R I J => match st with
  | .ref q :: .int i :: .ref p :: r => al_isA n p 6 (fun len => ∃ j : Nat, j < len ∧ i = nI j ∧ al_st q ∧ k L r n (al_up R p j (some q)) I J)
  | _ => False
def o_alen (ak : Nat) (k : KT) : KT := fun L st n R I J => match st with
  | .ref p :: r => al_isA n p ak (fun len => k L (.int (nI len) :: r) n R I J)
  | _ => False
def o_slen (LS : Nat) (k : KT) : KT := fun L st n R I J => match st with
  | .ref p :: r => p = 1000 ∧ k L (.int (nI LS) :: r) n R I J
  | _ => False
def o_sld (LS : Nat) (xs : Nat → Int32) (k : KT) : KT := fun L st n R I J => match st with
  | .int i :: .ref p :: r => p = 1000 ∧ ∃ j : Nat, j < LS ∧ i = nI j ∧ k L (.int (xs j) :: r) n R I J
  | _ => False
def al_new (n ci : Nat) (R : RR) (I : II) (J : JJ) : Prop := al_sk n = .inl ci ∧ (∀ j, R n j = none) ∧ (∀ j, I n j = 0) ∧ ∀ j, J n j = 0
def o_new (ne ci : Nat) (k : KT) : KT := fun L st n R I J => n < ne ∧ al_new n ci R I J ∧ k L (.ref n :: st) (n + 1) R I J
def o_newa (ne ak len : Nat) (k : KT) : KT := fun L st n R I J => match st with
  | .int x :: r => x = nI len ∧ n < ne ∧ al_sk n = .inr (ak, len) ∧ ((∀ j, R n j = none) ∧ (∀ j, I n j = 0) ∧ ∀ j, J n j = 0) ∧ k L (.ref n :: r) (n + 1) R I J
  | _ => False
def o_oinit (k : KT) : KT := fun L st n R I J => match st with
  | .ref _ :: r => al_r8 r (k L r n R I J)
  | _ => False
def o_mmax (k : KT) : KT := fun L st n R I J => match st with
  | .int y :: .int x :: r => al_r8 r (k L (.int (if x < y then y else x) :: r) n R I J)
  | _ => False
def o_mmin (k : KT) : KT := fun L st n R I J => match st with
  | .int y :: .int x :: r => al_r8 r (k L (.int (if y < x then y else x) :: r) n R I J)
  | _ => False
def o_mabs (k : KT) : KT := fun L st n R I J => match st with
  | .int x :: r => al_r8 r (k L (.int (if 0 ≤ x then x else 0 - x) :: r) n R I J)
  | _ => False
def al_cpy {α : Type} (f : Nat → Nat → α) (p q sp dp n : Nat) : Nat → Nat → α := fun a j => if a = q then (if dp ≤ j ∧ j < dp + n then f p (sp + (j - dp)) else f a j) else f a j
def o_cpyI (k : KT) : KT := fun L st n R I J => match st with
  | .int c :: .int dp :: .ref q :: .int sp :: .ref p :: r => al_r8 r (al_isA n p 0 (fun len => al_isA n q 0 (fun len2 => ∃ c' dp' sp' : Nat, c = nI c' ∧ dp = nI dp' ∧ sp = nI sp' ∧ sp' + c' ≤ len ∧ dp' + c' ≤ len2 ∧ k L r n R (al_cpy I p q sp' dp' c') J)))
  | _ => False
def o_cpyJ (k : KT) : KT := fun L st n R I J => match st with
  | .int c :: .int dp :: .ref q :: .int sp :: .ref p :: r => al_r8 r (al_isA n p 1 (fun len => al_isA n q 1 (fun len2 => ∃ c' dp' sp' : Nat, c = nI c' ∧ dp = nI dp' ∧ sp = nI sp' ∧ sp' + c' ≤ len ∧ dp' + c' ≤ len2 ∧ k L r n R I (al_cpy J p q sp' dp' c'))))
  | _ => False
def o_iret (Q : QT) : KT := fun _ st n R I J => match st with
  | [.int v] => Q (some (.int v)) n R I J
  | _ => False
def o_zret (Q : QT) : KT := fun _ st n R I J => match st with
  | [.int v] => (v = 0 ∨ v = 1) ∧ Q (some (.int v)) n R I J
  | _ => False
def o_lret (Q : QT) : KT := fun _ st n R I J => match st with
  | [.long v] => Q (some (.long v)) n R I J
  | _ => False
def o_aret (Q : QT) : KT := fun _ st n R I J => match st with
  | [.ref v] => Q (some (.ref v)) n R I J
  | _ => False
def o_vret (Q : QT) : KT := fun _ st n R I J => match st with
  | [] => Q none n R I J
  | _ => False
def o_cret (ne : Nat) (Q : QT) : KT := fun _ st n R I J => match st with
  | [] => n = ne ∧ Q none n R I J
  | _ => False
end
section
/-! WHAT HOLDS OF THE MACHINE: Strings, classes, locals, the world -/
def al_len : List Nat := [6, 6, 4, 4, 3, 7, 6, 4, 3, 4, 4, 2, 2]
def al_byt : List (List Int32) := [[103, 114, 111, 117, 110, 100], [115, 116, 114, 101, 101, 116], [115, 104, 101, 100], [116, 114, 101, 101], [108, 97, 119], [111, 117, 116, 119, 97, 114, 100], [115, 104, 97, 114, 101, 100], [100, 101, 97, 114], [111, 108, 100], [102, 114, 101, 101], [114, 105, 99, 104], [111, 110], [116, 111]]
def al_sr : List (String × Nat × String × Nat) := [("CornerTax$TownText", 48, "rich", 10), ("CornerTax$TownText", 102, "ground", 0), ("CornerTax$TownText", 104, "street", 1), ("CornerTax$TownText", 106, "shed", 2), ("CornerTax$TownText", 108, "tree", 3), ("CornerTax$Dear", 7, "dear", 7), ("CornerTax$Free", 7, "free", 9), ("CornerTax$Old", 7, "old", 8), ("CornerTax$Outward", 7, "outward", 5), ("CornerTax$Shared", 7, "shared", 6), ("CornerTax$Law", 7, "law", 4), ("CornerTax$TownText", 68, "on", 11), ("CornerTax$TownText", 87, "to", 12), ("CornerTaxModel", 35, "ground", 0), ("CornerTaxModel", 37, "street", 1), ("CornerTaxModel", 39, "shed", 2), ("CornerTaxModel", 41, "tree", 3), ("CornerTaxModel", 47, "law", 4), ("CornerTaxModel", 49, "outward", 5), ("CornerTaxModel", 51, "shared", 6), ("CornerTaxModel", 53, "dear", 7), ("CornerTaxModel", 55, "old", 8), ("CornerTaxModel", 57, "free", 9), ("CornerTaxModel", 270, "to", 12), ("CornerTaxModel", 287, "on", 11), ("CornerTaxModel", 289, "rich", 10)]
def al_Str (t : TH) (U : State) (H : Heap) : Prop := ∀ i, i < 13 → va_O "java/lang/String" (th_K t i) (al_A t) U H ∧ va_OF "java/lang/String" "coder" "B" (.int 0) (th_K t i) (al_A t) U H ∧ va_OF "java/lang/String" "value" "[B" (.ref (th_V t i)) (th_K t i) (al_A t) U H ∧ va_T .byte (th_V t i) (al_len.getD i 0) (fun j => .int ((al_byt.getD i []).getD j 0)) (al_A t) U H
def al_Ref (t : TH) (U : State) : Prop := ∀ q ∈ al_sr, vk_R q.1 q.2.1 q.2.2.1 (th_K t q.2.2.2) U
def al_St (t : TH) (U : State) (H : Heap) : Prop := va_K (th_D t) vwCl (al_tys t) U ∧ al_Str t U H ∧ al_Ref t U ∧ va_Z "java/lang/String" "COMPACT_STRINGS" "Z" (.int 1) (al_A t) U H ∧ (va_Z "jdk/internal/util/Preconditions" "SIOOBE_FORMATTER" "Ljava/util/function/BiFunction;" .null (al_A t) U H ∨ va_Z "jdk/internal/util/Preconditions" "SIOOBE_FORMATTER" "Ljava/util/function/BiFunction;" (.ref (th_f t)) (al_A t) U H)
theorem al_St.kept {t : TH} {U : State} {H H1 : Heap} (h : al_St t U H) (hq : ∀ a : Nat, a < H.size → ¬ al_A t a → H1[a]? = H[a]?) : al_St t U H1 :=
  ⟨h.1, fun i hi => ⟨(h.2.1 i hi).1.kept hq, (h.2.1 i hi).2.1.kept hq, (h.2.1 i hi).2.2.1.kept hq, (h.2.1 i hi).2.2.2.kept hq⟩, h.2.2.1, h.2.2.2.1.kept hq, h.2.2.2.2.elim (fun q => Or.inl (q.kept hq)) (fun q => Or.inr (q.kept hq))⟩
theorem al_St.warm {t : TH} {s U : State} {H : Heap} (hW : s.WarmedH U.vm) (h : al_St t s H) : al_St t U H :=
  ⟨va_K.moved hW.alike h.1, fun i hi => ⟨va_O.moved hW.alike (h.2.1 i hi).1, va_OF.moved hW.alike (h.2.1 i hi).2.1, va_OF.moved hW.alike (h.2.1 i hi).2.2.1, va_T.moved hW.alike (h.2.1 i hi).2.2.2⟩, fun q hq => vk_R.warm hW (h.2.2.1 q hq), va_Z.moved hW.alike h.2.2.2.1, h.2.2.2.2.elim (fun q => Or.inl (va_Z.moved hW.alike q)) (fun q => Or.inr (va_Z.moved hW.alike q))⟩
theorem al_St.same {t : TH} {s U : State} {H : Heap} (hv : U.vm = s.vm) (h : al_St t s H) : al_St t U H := by
  have ha : s.vm.Alike U.vm := by rw [hv]; exact Vm.Alike.refl _
  exact ⟨va_K.moved ha h.1, fun i hi => ⟨va_O.moved ha (h.2.1 i hi).1, va_OF.moved ha (h.2.1 i hi).2.1, va_OF.moved ha (h.2.1 i hi).2.2.1, va_T.moved ha (h.2.1 i hi).2.2.2⟩, fun q hq => vk_R.same hv (h.2.2.1 q hq), va_Z.moved ha h.2.2.2.1, h.2.2.2.2.elim (fun q => Or.inl (va_Z.moved ha q)) (fun q => Or.inr (va_Z.moved ha q))⟩
def al_Wd (t : TH) (n : Nat) (R : RR) (I : II) (J : JJ) (U : State) : Prop := (n < 90 → U.heap.size = th_b t + n) ∧ th_b t ≤ U.heap.size ∧ va_P (th_D t) vwCl (al_ws t n R I J) U.heap ∧ al_St t U U.heap
def al_pr (t : TH) : Nat → List (Option Value) → List (Nat × Value)
  | _, [] => []
  | k, none :: L => al_pr t (k + 1) L
  | k, some v :: L => (k, al_tr t v) :: al_pr t (k + 1) L
def al_rl (t : TH) (ls : Array Slot) (nL : Nat) (L : List (Option Value)) : Prop := lv_has ls nL (al_pr t 0 L)
theorem al_pr_get (t : TH) : ∀ (L : List (Option Value)) (k i : Nat) (v : Value), L[i]? = some (some v) → (k + i, al_tr t v) ∈ al_pr t k L
  | [], k, i, v, h => by simp at h
  | none :: L, k, 0, v, h => by simp at h
  | some w :: L, k, 0, v, h => by
    simp at h
    subst h
    exact List.mem_cons_self
  | none :: L, k, i + 1, v, h => by
    rw [List.getElem?_cons_succ] at h
    have := al_pr_get t L (k + 1) i v h
    rw [show k + (i + 1) = k + 1 + i by omega]
    exact this
  | some w :: L, k, i + 1, v, h => by
    rw [List.getElem?_cons_succ] at h
    have := al_pr_get t L (k + 1) i v h
    rw [show k + (i + 1) = k + 1 + i by omega]
    exact List.mem_cons_of_mem _ this
theorem al_pr_mem (t : TH) : ∀ (L : List (Option Value)) (k : Nat) (q : Nat × Value), q ∈ al_pr t k L → ∃ i v, L[i]? = some (some v) ∧ q = (k + i, al_tr t v)
  | [], k, q, h => by simp [al_pr] at h
  | none :: L, k, q, h => by
    obtain ⟨i, v, h1, h2⟩ := al_pr_mem t L (k + 1) q h
    exact ⟨i + 1, v, by rw [List.getElem?_cons_succ]; exact h1, by rw [h2, show k + 1 + i = k + (i + 1) by omega]⟩
  | some w :: L, k, q, h => by
    rcases List.mem_cons.mp h with rfl | h
    · exact ⟨0, w, rfl, rfl⟩
    · obtain ⟨i, v, h1, h2⟩ := al_pr_mem t L (k + 1) q h
      exact ⟨i + 1, v, by rw [List.getElem?_cons_succ]; exact h1, by rw [h2, show k + 1 + i = k + (i + 1) by omega]⟩
theorem al_rl.at {t : TH} {ls : Array Slot} {nL : Nat} {L : List (Option Value)} (h : al_rl t ls nL L) {i : Nat} {v : Value} (hi : L[i]? = some (some v)) : ls[i]? = some (.val (al_tr t v)) := by
  have := h.2.2 _ (al_pr_get t L 0 i v hi)
  simpa using this
theorem al_gL_of : ∀ {L : List (Option Value)} {i : Nat} {k : Value → Prop}, al_gL L i k → ∃ v, L[i]? = some (some v) ∧ k v
  | [], _, _, h => h.elim
  | none :: _, 0, _, h => h.elim
  | some v :: _, 0, _, h => ⟨v, rfl, h⟩
  | none :: L, i + 1, k, h => by
    obtain ⟨v, h1, h2⟩ := al_gL_of (L := L) (i := i) (k := k) h
    exact ⟨v, by rw [List.getElem?_cons_succ]; exact h1, h2⟩
  | some w :: L, i + 1, k, h => by
    obtain ⟨v, h1, h2⟩ := al_gL_of (L := L) (i := i) (k := k) h
    exact ⟨v, by rw [List.getElem?_cons_succ]; exact h1, h2⟩
theorem al_gd_of {a : Option Value} {i : Nat} {k : Option Value → Prop} (h : al_gd a i k) : ∃ a', k a' ∧ ∀ w, a' = some w → a = some w ∧ ¬ (i = 0 ∧ w.category = 2) := by
  cases i with
  | succ i => exact ⟨a, h, fun w hw => ⟨hw, by omega⟩⟩
  | zero =>
    cases a with
    | none => exact ⟨none, h, fun w hw => by cases hw⟩
    | some v =>
      cases v with
      | long x => exact ⟨none, h, fun w hw => by cases hw⟩
      | double x => exact ⟨none, h, fun w hw => by cases hw⟩
      | int x => exact ⟨_, h, fun w hw => by cases hw; exact ⟨rfl, by simp [Value.category]⟩⟩
      | float x => exact ⟨_, h, fun w hw => by cases hw; exact ⟨rfl, by simp [Value.category]⟩⟩
      | null => exact ⟨_, h, fun w hw => by cases hw; exact ⟨rfl, by simp [Value.category]⟩⟩
      | ref x => exact ⟨_, h, fun w hw => by cases hw; exact ⟨rfl, by simp [Value.category]⟩⟩
      | retAddr x => exact ⟨_, h, fun w hw => by cases hw; exact ⟨rfl, by simp [Value.category]⟩⟩
theorem al_sL_of : ∀ {L : List (Option Value)} {i : Nat} {v : Value} {k : List (Option Value) → Prop}, al_sL L i v k → ∃ L', k L' ∧ ∀ j w, L'[j]? = some (some w) → (j = i ∧ w = v) ∨ (j ≠ i ∧ L[j]? = some (some w) ∧ ¬ (j + 1 = i ∧ w.category = 2))
  | [], _, _, _, h => h.elim
  | a :: L, 0, v, k, h => by
    refine ⟨some v :: L, h, fun j w hj => ?_⟩
    cases j with
    | zero => simp at hj; exact Or.inl ⟨rfl, hj.symm⟩
    | succ j => exact Or.inr ⟨by omega, by rw [List.getElem?_cons_succ] at hj ⊢; exact hj, by omega⟩
  | a :: L, i + 1, v, k, h => by
    obtain ⟨a', h1, h2⟩ := al_gd_of (a := a) (i := i) (k := fun a' => al_sL L i v (fun L' => k (a' :: L'))) h
    obtain ⟨L', h3, h4⟩ := al_sL_of (L := L) (i := i) (v := v) (k := fun L' => k (a' :: L')) h1
    refine ⟨a' :: L', h3, fun j w hj => ?_⟩
    cases j with
    | zero =>
      simp at hj
      obtain ⟨e1, e2⟩ := h2 w hj
      exact Or.inr ⟨by omega, by rw [e1]; rfl, by rintro ⟨q1, q2⟩; exact e2 ⟨by omega, q2⟩⟩
    | succ j =>
      rw [List.getElem?_cons_succ] at hj
      rcases h4 j w hj with ⟨e1, e2⟩ | ⟨e1, e2, e3⟩
      · exact Or.inl ⟨by omega, e2⟩
      · exact Or.inr ⟨by omega, by rw [List.getElem?_cons_succ]; exact e2, by rintro ⟨q1, q2⟩; exact e3 ⟨by omega, q2⟩⟩
theorem al_sJ_of : ∀ {L : List (Option Value)} {i : Nat} {v : Value} {k : List (Option Value) → Prop}, al_sJ L i v k → ∃ L', k L' ∧ ∀ j w, L'[j]? = some (some w) → (j = i ∧ w = v) ∨ (j ≠ i ∧ j ≠ i + 1 ∧ L[j]? = some (some w) ∧ ¬ (j + 1 = i ∧ w.category = 2))
  | [], _, _, _, h => by simp [al_sJ] at h
  | [a], 0, v, k, h => by simp [al_sJ] at h
  | a :: b :: L, 0, v, k, h => by
    refine ⟨some v :: none :: L, h, fun j w hj => ?_⟩
    match j, hj with
    | 0, hj => simp at hj; exact Or.inl ⟨rfl, hj.symm⟩
    | 1, hj => simp at hj
    | j + 2, hj => exact Or.inr ⟨by omega, by omega, by rw [List.getElem?_cons_succ, List.getElem?_cons_succ] at hj ⊢; exact hj, by omega⟩
  | a :: L, i + 1, v, k, h => by
    obtain ⟨a', h1, h2⟩ := al_gd_of (a := a) (i := i) (k := fun a' => al_sJ L i v (fun L' => k (a' :: L'))) (by
      cases L with
      | nil => exact h
      | cons b L => exact h)
    obtain ⟨L', h3, h4⟩ := al_sJ_of (L := L) (i := i) (v := v) (k := fun L' => k (a' :: L')) h1
    refine ⟨a' :: L', h3, fun j w hj => ?_⟩
    cases j with
    | zero =>
      simp at hj
      obtain ⟨e1, e2⟩ := h2 w hj
      exact Or.inr ⟨by omega, by omega, by rw [e1]; rfl, by rintro ⟨q1, q2⟩; exact e2 ⟨by omega, q2⟩⟩
    | succ j =>
      rw [List.getElem?_cons_succ] at hj
      rcases h4 j w hj with ⟨e1, e2⟩ | ⟨e1, e0, e2, e3⟩
      · exact Or.inl ⟨by omega, e2⟩
      · exact Or.inr ⟨by omega, by omega, by rw [List.getElem?_cons_succ]; exact e2, by rintro ⟨q1, q2⟩; exact e3 ⟨by omega, q2⟩⟩
theorem al_rl.st1 {t : TH} {ls ls' : Array Slot} {nL i : Nat} {L L' : List (Option Value)} {v : Value} (hl : lv_has ls' nL ((i, al_tr t v) :: (al_pr t 0 L).filter (fun q => !(q.1 == i) && !(q.1 + 1 == i && q.2.category == 2)))) (h : ∀ j w, L'[j]? = some (some w) → (j = i ∧ w = v) ∨ (j ≠ i ∧ L[j]? = some (some w) ∧ ¬ (j + 1 = i ∧ w.category = 2))) : al_rl t ls' nL L' := by
  refine ⟨hl.1, hl.2.1, fun q hq => ?_⟩
  obtain ⟨j, w, h1, rfl⟩ := al_pr_mem t L' 0 q hq
  rcases h j w h1 with ⟨rfl, rfl⟩ | ⟨e1, e2, e3⟩
  · have := hl.2.2 _ List.mem_cons_self
    simpa using this
  · have h2 := al_pr_get t L 0 j w e2
    refine hl.2.2 _ (List.mem_cons_of_mem _ (List.mem_filter.mpr ⟨h2, ?_⟩))
    have e4 : (al_tr t w).category = w.category := al_tr_cat t w
    simp only [Nat.zero_add, e4]
    simp only [Bool.and_eq_true, Bool.not_eq_true', beq_eq_false_iff_ne, ne_eq, Bool.and_eq_false_iff]
    refine ⟨e1, ?_⟩
    by_cases q1 : j + 1 = i
    · exact Or.inr (fun q2 => e3 ⟨q1, q2⟩)
    · exact Or.inl q1
theorem al_rl.st2 {t : TH} {ls ls' : Array Slot} {nL i : Nat} {L L' : List (Option Value)} {v : Value} (hl : lv_has ls' nL ((i, al_tr t v) :: (al_pr t 0 L).filter (fun q => !(q.1 == i) && (!(q.1 == i + 1) && !(q.1 + 1 == i && q.2.category == 2))))) (h : ∀ j w, L'[j]? = some (some w) → (j = i ∧ w = v) ∨ (j ≠ i ∧ j ≠ i + 1 ∧ L[j]? = some (some w) ∧ ¬ (j + 1 = i ∧ w.category = 2))) : al_rl t ls' nL L' := by
  refine ⟨hl.1, hl.2.1, fun q hq => ?_⟩
  obtain ⟨j, w, h1, rfl⟩ := al_pr_mem t L' 0 q hq
  rcases h j w h1 with ⟨rfl, rfl⟩ | ⟨e1, e0, e2, e3⟩
  · have := hl.2.2 _ List.mem_cons_self
    simpa using this
  · have h2 := al_pr_get t L 0 j w e2
    refine hl.2.2 _ (List.mem_cons_of_mem _ (List.mem_filter.mpr ⟨h2, ?_⟩))
    have e4 : (al_tr t w).category = w.category := al_tr_cat t w
    simp only [Nat.zero_add, e4]
    simp only [Bool.and_eq_true, Bool.not_eq_true', beq_eq_false_iff_ne, ne_eq, Bool.and_eq_false_iff]
    refine ⟨e1, e0, ?_⟩
    by_cases q1 : j + 1 = i
    · exact Or.inr (fun q2 => e3 ⟨q1, q2⟩)
    · exact Or.inl q1
theorem al_le_of : ∀ {L' L : List (Option Value)}, al_le L' L → ∀ (j : Nat) (w : Value), L'[j]? = some (some w) → L[j]? = some (some w)
  | [], _, _, j, w, hj => by simp at hj
  | none :: L', [], h, _, _, _ => h.elim
  | some v :: L', [], h, _, _, _ => h.elim
  | none :: L', a :: L, h, 0, w, hj => by simp at hj
  | none :: L', a :: L, h, j + 1, w, hj => by
    rw [List.getElem?_cons_succ] at hj ⊢
    exact al_le_of (L' := L') (L := L) h j w hj
  | some v :: L', a :: L, h, 0, w, hj => by
    simp at hj
    subst hj
    rw [h.1]
    rfl
  | some v :: L', a :: L, h, j + 1, w, hj => by
    rw [List.getElem?_cons_succ] at hj ⊢
    exact al_le_of (L' := L') (L := L) h.2 j w hj
theorem al_rl.le {t : TH} {ls : Array Slot} {nL : Nat} {L L' : List (Option Value)} (h : al_rl t ls nL L) (hle : al_le L' L) : al_rl t ls nL L' := by
  refine ⟨h.1, h.2.1, fun q hq => ?_⟩
  obtain ⟨j, w, h1, rfl⟩ := al_pr_mem t L' 0 q hq
  exact h.2.2 _ (al_pr_get t L 0 j w (al_le_of hle j w h1))
theorem al_cs_eq (t : TH) : ∀ r : List Value, ((r.map (al_tr t)).map fun v => v.category).sum = al_cs r
  | [] => rfl
  | v :: r => by
    rw [List.map_cons, List.map_cons, List.sum_cons, al_cs_eq t r, al_tr_cat]
    cases v <;> rfl
theorem al_r8_of {r : List Value} {P : Prop} (h : al_r8 r P) : al_cs r ≤ 8 ∧ P := by
  unfold al_r8 at h
  cases e : Nat.ble (al_cs r) 8 with
  | true => rw [e] at h; exact ⟨Nat.le_of_ble_eq_true e, h⟩
  | false => rw [e] at h; exact h.elim
theorem al_rk_of {v : Option Nat} {k : Nat → Prop} (h : al_rk v k) : ∃ q, v = some q ∧ k q := by
  cases v with
  | none => exact h.elim
  | some q => exact ⟨q, rfl, h⟩
theorem al_pop_of : ∀ {m : Nat} {st acc : List Value} {k : List Value → List Value → Prop}, al_pop m st acc k → ∃ as r, st = as.reverse ++ r ∧ as.length = m ∧ k (as ++ acc) r
  | 0, st, acc, k, h => ⟨[], st, by simp, rfl, by simpa [al_pop] using h⟩
  | m + 1, [], acc, k, h => by simp [al_pop] at h
  | m + 1, v :: st, acc, k, h => by
    obtain ⟨as, r, h1, h2, h3⟩ := al_pop_of (m := m) (st := st) (acc := v :: acc) (k := k) h
    exact ⟨as ++ [v], r, by simp [h1], by simp [h2], by simpa using h3⟩
end
section
/-! THE FRAME OF ONE METHOD: F pc L st n R I J says that the machine, in a state that holds these, comes to its end -/
def al_F (p : Program) (l : Launch) (e : Env) (s : State) (m : MethodId) (args : Array Value) (below : List Frame) (meth : Method) (c : Code) (Rm : Room) (nL : Nat) (t : TH) (n0 ne : Nat) (Q0 : State → Prop) : FT := fun pc L st n R I J =>
  ∀ (H : Heap) (locs : List Loc) (ls : Array Slot), n0 ≤ n → n ≤ ne → (n < 90 → H.size = th_b t + n) → va_P (th_D t) vwCl (al_ws t n R I J) H → va_S (al_A t) s.heap H locs → al_rl t ls nL L → W p l e Rm s m args below meth c H locs (n - n0) (al_sz n - al_sz n0) Q0 (F0 m pc ls (st.map (al_tr t)))
def al_Cx (F : FT) (p : Program) (l : Launch) (e : Env) (s : State) (m : MethodId) (args : Array Value) (below : List Frame) (meth : Method) (c : Code) (Rm : Room) (cc : ByteArray) (nL : Nat) (own : String) (t : TH) (fr lo n0 ne : Nat) (Q0 : State → Prop) : Prop :=
  F = al_F p l e s m args below meth c Rm nL t n0 ne Q0 ∧ p.tables.exec = Jvm.exec ∧ c.code = cc ∧ c.maxLocals = nL ∧ s.vm.findClass own = some m.cls ∧ (∀ w ∈ al_gt, w.before args s = true) ∧ meth.locks = false ∧ al_St t s s.heap ∧ fr ≤ Rm.frames ∧ lo ≤ Rm.locals ∧ ne - n0 ≤ Rm.cells ∧ al_sz ne - al_sz n0 ≤ Rm.slots ∧ n0 ≤ ne ∧ ne ≤ 90 ∧ th_b t ≤ s.heap.size
def al_Ok (F : FT) (k : KT) (pc : Nat) : Prop := ∀ L st n R I J, k L st n R I J → F pc L st n R I J
theorem al_sz_mono : ∀ {a b : Nat}, a ≤ b → al_sz a ≤ al_sz b := by
  intro a b h
  induction b with
  | zero => rw [Nat.le_zero.mp h]; exact Nat.le_refl _
  | succ b ih =>
    rcases Nat.lt_or_ge a (b + 1) with q | q
    · exact Nat.le_trans (ih (by omega)) (Nat.le_add_right _ _)
    · rw [show a = b + 1 by omega]; exact Nat.le_refl _
theorem al_adp (t : TH) {q n : Nat} (h : q < n) (hn : n ≤ 90) : al_ad t q = th_b t + q := by
  unfold al_ad
  rw [if_pos (by omega)]
theorem al_obj {t : TH} {n : Nat} {R : RR} {I : II} {J : JJ} {q ci : Nat} (hq : al_cls n q = some ci) : (al_ws t n R I J)[q]? = some (th_b t + q, .inr (ci, al_fs t R I J q (al_ft ci) 0)) := by
  obtain ⟨h1, h2⟩ := al_cls_of hq
  rw [al_ws_get _ _ _ _ _ h1]
  simp only [al_ce, h2]
theorem al_arr {t : TH} {n : Nat} {R : RR} {I : II} {J : JJ} {q ak len : Nat} (hq : al_ark n q = some (ak, len)) : (al_ws t n R I J)[q]? = some (th_b t + q, .inl (th_c t ak, al_ar t R I J q ak len)) := by
  obtain ⟨h1, h2⟩ := al_ark_of hq
  rw [al_ws_get _ _ _ _ _ h1]
  simp only [al_ce, h2]
theorem al_upd {t : TH} {n : Nat} {R R' : RR} {I I' : II} {J J' : JJ} {q : Nat} {H H1 : Heap} (hP : va_P (th_D t) vwCl (al_ws t n R I J) H) (hqn : q < n) (hce : va_at (th_D t) vwCl (th_b t + q, al_ce t R' I' J' q) H1) (ho : ∀ x, x ≠ q → R' x = R x ∧ I' x = I x ∧ J' x = J x) (oq : ∀ a : Nat, a ≠ th_b t + q → H1[a]? = H[a]?) : va_P (th_D t) vwCl (al_ws t n R' I' J') H1 := by
  rw [← al_ws_set (R := R) (I := I) (J := J) hqn rfl (fun x hx => al_ce_eq (ho x hx).1 (ho x hx).2.1 (ho x hx).2.2)]
  exact hP.set (al_ws_D t n R I J) (al_ws_get t n R I J hqn) hce oq
theorem al_in_of {i : Int32} {j len : Nat} (h : i = nI j) (hj : j < len) (hl : len < 2 ^ 31) : vp_in i len ∧ i.toNatClampNeg = j := by
  subst h
  exact ⟨vp_in_nI hj hl, nI_clamp (by omega)⟩
theorem al_lens : ∀ p, p < 90 → al_szp p < 2 ^ 31 := by decide +kernel
theorem al_len_lt {n q ak len : Nat} (h : al_ark n q = some (ak, len)) (hn : n ≤ 90) : len < 2 ^ 31 := by
  obtain ⟨h1, h2⟩ := al_ark_of h
  have := al_lens q (by omega)
  simp only [al_szp, h2] at this
  exact this
section ALA
variable {F : FT} {p : Program} {l : Launch} {e : Env} {s : State} {m : MethodId} {args : Array Value} {below : List Frame} {meth : Method} {c : Code} {Rm : Room} {cc : ByteArray} {nL : Nat} {own : String} {t : TH} {fr lo n0 ne : Nat} {Q0 : State → Prop} {k : KT} {pc : Nat}
theorem S_wk (C : al_Cx F p l e s m args below meth c Rm cc nL own t fr lo n0 ne Q0) {L L' : List (Option Value)} {st : List Value} {n : Nat} {R : RR} {I : II} {J : JJ} (hle : al_le L' L) (h : F pc L' st n R I J) : F pc L st n R I J := by
  obtain ⟨rfl, -⟩ := C
  intro H locs ls h1 h2 hz hP hS hL
  exact h H locs ls h1 h2 hz hP hS (hL.le hle)
theorem S_iload_n (C : al_Cx F p l e s m args below meth c Rm cc nL own t fr lo n0 ne Q0) {kk : Fin 4} {i : Nat} (hd : decode cc pc = .ok (.iload_n kk, 1)) (hi : (kk : Nat) = i) (h : al_Ok F k (pc + 1)) : al_Ok F (o_iload i k) pc := by
  obtain ⟨rfl, hx, hb, hml, hown, hts, hlk, hSt, hfr, hlo, hce, hsl, hne, h90, hsz⟩ := C
  intro L st n R I J hk H locs ls h1 h2 hz hP hS hL
  obtain ⟨v, hv, hk⟩ := al_gL_of hk
  cases v with
  | int x => exact lv_iload_n hx hb hd hi (hL.at hv) (h _ _ _ _ _ _ hk H locs ls h1 h2 hz hP hS hL)
  | _ => exact hk.elim
theorem S_iload (C : al_Cx F p l e s m args below meth c Rm cc nL own t fr lo n0 ne Q0) {i : Nat} (hd : decode cc pc = .ok (.iload i, 2)) (h : al_Ok F k (pc + 2)) : al_Ok F (o_iload i k) pc := by
  obtain ⟨rfl, hx, hb, hml, hown, hts, hlk, hSt, hfr, hlo, hce, hsl, hne, h90, hsz⟩ := C
  intro L st n R I J hk H locs ls h1 h2 hz hP hS hL
  obtain ⟨v, hv, hk⟩ := al_gL_of hk
  cases v with
  | int x => exact lv_iload hx hb hd (hL.at hv) (h _ _ _ _ _ _ hk H locs ls h1 h2 hz hP hS hL)
  | _ => exact hk.elim
theorem S_lload_n (C : al_Cx F p l e s m args below meth c Rm cc nL own t fr lo n0 ne Q0) {kk : Fin 4} {i : Nat} (hd : decode cc pc = .ok (.lload_n kk, 1)) (hi : (kk : Nat) = i) (h : al_Ok F k (pc + 1)) : al_Ok F (o_lload i k) pc := by
  obtain ⟨rfl, hx, hb, hml, hown, hts, hlk, hSt, hfr, hlo, hce, hsl, hne, h90, hsz⟩ := C
  intro L st n R I J hk H locs ls h1 h2 hz hP hS hL
  obtain ⟨v, hv, hk⟩ := al_gL_of hk
  cases v with
  | long x => exact lv_lload_n hx hb hd hi (hL.at hv) (h _ _ _ _ _ _ hk H locs ls h1 h2 hz hP hS hL)
  | _ => exact hk.elim
theorem S_lload (C : al_Cx F p l e s m args below meth c Rm cc nL own t fr lo n0 ne Q0) {i : Nat} (hd : decode cc pc = .ok (.lload i, 2)) (h : al_Ok F k (pc + 2)) : al_Ok F (o_lload i k) pc := by
  obtain ⟨rfl, hx, hb, hml, hown, hts, hlk, hSt, hfr, hlo, hce, hsl, hne, h90, hsz⟩ := C
  intro L st n R I J hk H locs ls h1 h2 hz hP hS hL
  obtain ⟨v, hv, hk⟩ := al_gL_of hk
  cases v with
  | long x => exact lv_lload hx hb hd (hL.at hv) (h _ _ _ _ _ _ hk H locs ls h1 h2 hz hP hS hL)
  | _ => exact hk.elim
theorem S_aload_n (C : al_Cx F p l e s m args below meth c Rm cc nL own t fr lo n0 ne Q0) {kk : Fin 4} {i : Nat} (hd : decode cc pc = .ok (.aload_n kk, 1)) (hi : (kk : Nat) = i) (h : al_Ok F k (pc + 1)) : al_Ok F (o_aload i k) pc := by
  obtain ⟨rfl, hx, hb, hml, hown, hts, hlk, hSt, hfr, hlo, hce, hsl, hne, h90, hsz⟩ := C
  intro L st n R I J hk H locs ls h1 h2 hz hP hS hL
  obtain ⟨v, hv, hk⟩ := al_gL_of hk
  cases v with
  | ref x => exact lv_aload_n hx hb hd hi (hL.at hv) (h _ _ _ _ _ _ hk H locs ls h1 h2 hz hP hS hL)
  | _ => exact hk.elim
theorem S_aload (C : al_Cx F p l e s m args below meth c Rm cc nL own t fr lo n0 ne Q0) {i : Nat} (hd : decode cc pc = .ok (.aload i, 2)) (h : al_Ok F k (pc + 2)) : al_Ok F (o_aload i k) pc := by
  obtain ⟨rfl, hx, hb, hml, hown, hts, hlk, hSt, hfr, hlo, hce, hsl, hne, h90, hsz⟩ := C
  intro L st n R I J hk H locs ls h1 h2 hz hP hS hL
  obtain ⟨v, hv, hk⟩ := al_gL_of hk
  cases v with
  | ref x => exact lv_aload hx hb hd (hL.at hv) (h _ _ _ _ _ _ hk H locs ls h1 h2 hz hP hS hL)
  | _ => exact hk.elim
theorem S_istore_n (C : al_Cx F p l e s m args below meth c Rm cc nL own t fr lo n0 ne Q0) {kk : Fin 4} {i : Nat} (hd : decode cc pc = .ok (.istore_n kk, 1)) (hi : (kk : Nat) = i) (hn : i < nL) (h : al_Ok F k (pc + 1)) : al_Ok F (o_istore i k) pc := by
  obtain ⟨rfl, hx, hb, hml, hown, hts, hlk, hSt, hfr, hlo, hce, hsl, hne, h90, hsz⟩ := C
  intro L st n R I J hk H locs ls h1 h2 hz hP hS hL
  match st, hk with
  | .int x :: r, hk =>
    obtain ⟨L', hk, hrel⟩ := al_sL_of hk
    exact lv_istore_n hx hb hd hi hL hn rfl (fun ls' hl => h _ _ _ _ _ _ hk H locs ls' h1 h2 hz hP hS (al_rl.st1 (ls := ls) (v := .int x) hl hrel))
theorem S_istore (C : al_Cx F p l e s m args below meth c Rm cc nL own t fr lo n0 ne Q0) {i : Nat} (hd : decode cc pc = .ok (.istore i, 2)) (hn : i < nL) (h : al_Ok F k (pc + 2)) : al_Ok F (o_istore i k) pc := by
  obtain ⟨rfl, hx, hb, hml, hown, hts, hlk, hSt, hfr, hlo, hce, hsl, hne, h90, hsz⟩ := C
  intro L st n R I J hk H locs ls h1 h2 hz hP hS hL
  match st, hk with
  | .int x :: r, hk =>
    obtain ⟨L', hk, hrel⟩ := al_sL_of hk
    exact lv_istore hx hb hd hL hn rfl (fun ls' hl => h _ _ _ _ _ _ hk H locs ls' h1 h2 hz hP hS (al_rl.st1 (ls := ls) (v := .int x) hl hrel))
theorem S_astore_n (C : al_Cx F p l e s m args below meth c Rm cc nL own t fr lo n0 ne Q0) {kk : Fin 4} {i : Nat} (hd : decode cc pc = .ok (.astore_n kk, 1)) (hi : (kk : Nat) = i) (hn : i < nL) (h : al_Ok F k (pc + 1)) : al_Ok F (o_astore i k) pc := by
  obtain ⟨rfl, hx, hb, hml, hown, hts, hlk, hSt, hfr, hlo, hce, hsl, hne, h90, hsz⟩ := C
  intro L st n R I J hk H locs ls h1 h2 hz hP hS hL
  match st, hk with
  | .ref x :: r, hk =>
    obtain ⟨L', hk, hrel⟩ := al_sL_of hk
    exact lv_astore_n hx hb hd hi hL hn rfl (fun ls' hl => h _ _ _ _ _ _ hk H locs ls' h1 h2 hz hP hS (al_rl.st1 (ls := ls) (v := .ref x) hl hrel))
theorem S_astore (C : al_Cx F p l e s m args below meth c Rm cc nL own t fr lo n0 ne Q0) {i : Nat} (hd : decode cc pc = .ok (.astore i, 2)) (hn : i < nL) (h : al_Ok F k (pc + 2)) : al_Ok F (o_astore i k) pc := by
  obtain ⟨rfl, hx, hb, hml, hown, hts, hlk, hSt, hfr, hlo, hce, hsl, hne, h90, hsz⟩ := C
  intro L st n R I J hk H locs ls h1 h2 hz hP hS hL
  match st, hk with
  | .ref x :: r, hk =>
    obtain ⟨L', hk, hrel⟩ := al_sL_of hk
    exact lv_astore hx hb hd hL hn rfl (fun ls' hl => h _ _ _ _ _ _ hk H locs ls' h1 h2 hz hP hS (al_rl.st1 (ls := ls) (v := .ref x) hl hrel))
theorem S_lstore_n (C : al_Cx F p l e s m args below meth c Rm cc nL own t fr lo n0 ne Q0) {kk : Fin 4} {i : Nat} (hd : decode cc pc = .ok (.lstore_n kk, 1)) (hi : (kk : Nat) = i) (hn : i + 1 < nL) (h : al_Ok F k (pc + 1)) : al_Ok F (o_lstore i k) pc := by
  obtain ⟨rfl, hx, hb, hml, hown, hts, hlk, hSt, hfr, hlo, hce, hsl, hne, h90, hsz⟩ := C
  intro L st n R I J hk H locs ls h1 h2 hz hP hS hL
  match st, hk with
  | .long x :: r, hk =>
    obtain ⟨L', hk, hrel⟩ := al_sJ_of hk
    exact lv_lstore_n hx hb hd hi hL hn rfl (fun ls' hl => h _ _ _ _ _ _ hk H locs ls' h1 h2 hz hP hS (al_rl.st2 (ls := ls) (v := .long x) hl hrel))
theorem S_lstore (C : al_Cx F p l e s m args below meth c Rm cc nL own t fr lo n0 ne Q0) {i : Nat} (hd : decode cc pc = .ok (.lstore i, 2)) (hn : i + 1 < nL) (h : al_Ok F k (pc + 2)) : al_Ok F (o_lstore i k) pc := by
  obtain ⟨rfl, hx, hb, hml, hown, hts, hlk, hSt, hfr, hlo, hce, hsl, hne, h90, hsz⟩ := C
  intro L st n R I J hk H locs ls h1 h2 hz hP hS hL
  match st, hk with
  | .long x :: r, hk =>
    obtain ⟨L', hk, hrel⟩ := al_sJ_of hk
    exact lv_lstore hx hb hd hL hn rfl (fun ls' hl => h _ _ _ _ _ _ hk H locs ls' h1 h2 hz hP hS (al_rl.st2 (ls := ls) (v := .long x) hl hrel))
theorem S_iinc (C : al_Cx F p l e s m args below meth c Rm cc nL own t fr lo n0 ne Q0) {i : Nat} {z : Int} {d : Int32} (hd : decode cc pc = .ok (.iinc i z, 3)) (hz0 : Int32.ofInt z = d) (hn : i < nL) (h : al_Ok F k (pc + 3)) : al_Ok F (o_iinc i d k) pc := by
  obtain ⟨rfl, hx, hb, hml, hown, hts, hlk, hSt, hfr, hlo, hce, hsl, hne, h90, hsz⟩ := C
  intro L st n R I J hk H locs ls h1 h2 hz hP hS hL
  obtain ⟨v, hv, hk⟩ := al_gL_of hk
  cases v with
  | int x =>
    obtain ⟨L', hk, hrel⟩ := al_sL_of hk
    obtain ⟨kp, hkp⟩ := List.getElem?_of_mem (al_pr_get t L 0 i (.int x) hv)
    rw [Nat.zero_add] at hkp
    exact lv_iinc (v := x + d) hx hb hd hL hkp (by rw [hz0]) hn rfl (fun ls' hl => h _ _ _ _ _ _ hk H locs ls' h1 h2 hz hP hS (al_rl.st1 (ls := ls) (v := .int (x + d)) hl hrel))
  | _ => exact hk.elim
theorem S_iconst (C : al_Cx F p l e s m args below meth c Rm cc nL own t fr lo n0 ne Q0) {z : Int} {v : Int32} (hd : decode cc pc = .ok (.iconst z, 1)) (hv : Int32.ofInt z = v) (h : al_Ok F k (pc + 1)) : al_Ok F (o_ic v k) pc := by
  obtain ⟨rfl, hx, hb, hml, hown, hts, hlk, hSt, hfr, hlo, hce, hsl, hne, h90, hsz⟩ := C
  intro L st n R I J hk H locs ls h1 h2 hz hP hS hL
  exact lv_iconst hx hb hd hv (h _ _ _ _ _ _ hk H locs ls h1 h2 hz hP hS hL)
theorem S_bipush (C : al_Cx F p l e s m args below meth c Rm cc nL own t fr lo n0 ne Q0) {z : Int} {v : Int32} (hd : decode cc pc = .ok (.bipush z, 2)) (hv : (Int8.ofInt z).toInt32 = v) (h : al_Ok F k (pc + 2)) : al_Ok F (o_ic v k) pc := by
  obtain ⟨rfl, hx, hb, hml, hown, hts, hlk, hSt, hfr, hlo, hce, hsl, hne, h90, hsz⟩ := C
  intro L st n R I J hk H locs ls h1 h2 hz hP hS hL
  exact lv_bipush hx hb hd hv (h _ _ _ _ _ _ hk H locs ls h1 h2 hz hP hS hL)
theorem S_sipush (C : al_Cx F p l e s m args below meth c Rm cc nL own t fr lo n0 ne Q0) {z : Int} {v : Int32} (hd : decode cc pc = .ok (.sipush z, 3)) (hv : (Int16.ofInt z).toInt32 = v) (h : al_Ok F k (pc + 3)) : al_Ok F (o_ic v k) pc := by
  obtain ⟨rfl, hx, hb, hml, hown, hts, hlk, hSt, hfr, hlo, hce, hsl, hne, h90, hsz⟩ := C
  intro L st n R I J hk H locs ls h1 h2 hz hP hS hL
  exact lv_sipush hx hb hd hv (h _ _ _ _ _ _ hk H locs ls h1 h2 hz hP hS hL)
theorem S_ldc (C : al_Cx F p l e s m args below meth c Rm cc nL own t fr lo n0 ne Q0) {index : Nat} {v : Int32} (hd : decode cc pc = .ok (.ldc index, 2)) (hw : Cond.constant own index v ∈ al_gt) (h : al_Ok F k (pc + 2)) : al_Ok F (o_ic v k) pc := by
  obtain ⟨rfl, hx, hb, hml, hown, hts, hlk, hSt, hfr, hlo, hce, hsl, hne, h90, hsz⟩ := C
  intro L st n R I J hk H locs ls h1 h2 hz hP hS hL
  exact lv_ldc hx hb hown (hts _ hw) hd (h _ _ _ _ _ _ hk H locs ls h1 h2 hz hP hS hL)
theorem S_ldcw (C : al_Cx F p l e s m args below meth c Rm cc nL own t fr lo n0 ne Q0) {index : Nat} {v : Int32} (hd : decode cc pc = .ok (.ldc_w index, 3)) (hw : Cond.constant own index v ∈ al_gt) (h : al_Ok F k (pc + 3)) : al_Ok F (o_ic v k) pc := by
  obtain ⟨rfl, hx, hb, hml, hown, hts, hlk, hSt, hfr, hlo, hce, hsl, hne, h90, hsz⟩ := C
  intro L st n R I J hk H locs ls h1 h2 hz hP hS hL
  exact lv_ldcw hx hb hown (hts _ hw) hd (h _ _ _ _ _ _ hk H locs ls h1 h2 hz hP hS hL)
theorem S_ldc2 (C : al_Cx F p l e s m args below meth c Rm cc nL own t fr lo n0 ne Q0) {index : Nat} {v : Int64} (hd : decode cc pc = .ok (.ldc2_w index, 3)) (hw : Cond.constantLong own index v ∈ al_gt) (h : al_Ok F k (pc + 3)) : al_Ok F (o_lc v k) pc := by
  obtain ⟨rfl, hx, hb, hml, hown, hts, hlk, hSt, hfr, hlo, hce, hsl, hne, h90, hsz⟩ := C
  intro L st n R I J hk H locs ls h1 h2 hz hP hS hL
  exact lv_ldc2 hx hb hown (hts _ hw) hd (h _ _ _ _ _ _ hk H locs ls h1 h2 hz hP hS hL)
theorem S_lconst (C : al_Cx F p l e s m args below meth c Rm cc nL own t fr lo n0 ne Q0) {z : Fin 2} {v : Int64} (hd : decode cc pc = .ok (.lconst z, 1)) (hv : Int64.ofNat (z : Nat) = v) (h : al_Ok F k (pc + 1)) : al_Ok F (o_lc v k) pc := by
  obtain ⟨rfl, hx, hb, hml, hown, hts, hlk, hSt, hfr, hlo, hce, hsl, hne, h90, hsz⟩ := C
  intro L st n R I J hk H locs ls h1 h2 hz hP hS hL
  exact lv_lconst hx hb hd hv (h _ _ _ _ _ _ hk H locs ls h1 h2 hz hP hS hL)
theorem S_ldcS (C : al_Cx F p l e s m args below meth c Rm cc nL own t fr lo n0 ne Q0) {index j : Nat} {tx : String} (hj : j < 13) (hd : decode cc pc = .ok (.ldc index, 2)) (hw : (own, index, tx, j) ∈ al_sr) (h : al_Ok F k (pc + 2)) : al_Ok F (o_sc j k) pc := by
  obtain ⟨rfl, hx, hb, hml, hown, hts, hlk, hSt, hfr, hlo, hce, hsl, hne, h90, hsz⟩ := C
  intro L st n R I J hk H locs ls h1 h2 hz hP hS hL
  have e : al_tr t (.ref (2000 + j)) = .ref (th_K t j) := by
    show Value.ref (al_ad t (2000 + j)) = _
    unfold al_ad
    rw [if_neg (by omega), if_neg (by omega), if_pos (by omega), Nat.add_sub_cancel_left]
  have h9 := h _ _ _ _ _ _ hk H locs ls h1 h2 hz hP hS hL
  rw [List.map_cons, e] at h9
  exact va_ldcS hx hb hown (hSt.2.2.1 _ hw) hd h9
theorem S_iadd (C : al_Cx F p l e s m args below meth c Rm cc nL own t fr lo n0 ne Q0) (hd : decode cc pc = .ok (.iadd, 1)) (h : al_Ok F k (pc + 1)) : al_Ok F (o_ii (fun x y => x + y) k) pc := by
  obtain ⟨rfl, hx, hb, hml, hown, hts, hlk, hSt, hfr, hlo, hce, hsl, hne, h90, hsz⟩ := C
  intro L st n R I J hk H locs ls h1 h2 hz hP hS hL
  match st, hk with
  | .int y :: .int x :: r, hk => exact lv_iadd hx hb hd (h _ _ _ _ _ _ hk H locs ls h1 h2 hz hP hS hL)
theorem S_isub (C : al_Cx F p l e s m args below meth c Rm cc nL own t fr lo n0 ne Q0) (hd : decode cc pc = .ok (.isub, 1)) (h : al_Ok F k (pc + 1)) : al_Ok F (o_ii (fun x y => x - y) k) pc := by
  obtain ⟨rfl, hx, hb, hml, hown, hts, hlk, hSt, hfr, hlo, hce, hsl, hne, h90, hsz⟩ := C
  intro L st n R I J hk H locs ls h1 h2 hz hP hS hL
  match st, hk with
  | .int y :: .int x :: r, hk => exact lv_isub hx hb hd (h _ _ _ _ _ _ hk H locs ls h1 h2 hz hP hS hL)
theorem S_imul (C : al_Cx F p l e s m args below meth c Rm cc nL own t fr lo n0 ne Q0) (hd : decode cc pc = .ok (.imul, 1)) (h : al_Ok F k (pc + 1)) : al_Ok F (o_ii (fun x y => x * y) k) pc := by
  obtain ⟨rfl, hx, hb, hml, hown, hts, hlk, hSt, hfr, hlo, hce, hsl, hne, h90, hsz⟩ := C
  intro L st n R I J hk H locs ls h1 h2 hz hP hS hL
  match st, hk with
  | .int y :: .int x :: r, hk => exact lv_imul hx hb hd (h _ _ _ _ _ _ hk H locs ls h1 h2 hz hP hS hL)
theorem S_iand (C : al_Cx F p l e s m args below meth c Rm cc nL own t fr lo n0 ne Q0) (hd : decode cc pc = .ok (.iand, 1)) (h : al_Ok F k (pc + 1)) : al_Ok F (o_ii (fun x y => x &&& y) k) pc := by
  obtain ⟨rfl, hx, hb, hml, hown, hts, hlk, hSt, hfr, hlo, hce, hsl, hne, h90, hsz⟩ := C
  intro L st n R I J hk H locs ls h1 h2 hz hP hS hL
  match st, hk with
  | .int y :: .int x :: r, hk => exact lv_iand hx hb hd (h _ _ _ _ _ _ hk H locs ls h1 h2 hz hP hS hL)
theorem S_ior (C : al_Cx F p l e s m args below meth c Rm cc nL own t fr lo n0 ne Q0) (hd : decode cc pc = .ok (.ior, 1)) (h : al_Ok F k (pc + 1)) : al_Ok F (o_ii (fun x y => x ||| y) k) pc := by
  obtain ⟨rfl, hx, hb, hml, hown, hts, hlk, hSt, hfr, hlo, hce, hsl, hne, h90, hsz⟩ := C
  intro L st n R I J hk H locs ls h1 h2 hz hP hS hL
  match st, hk with
  | .int y :: .int x :: r, hk => exact lv_ior hx hb hd (h _ _ _ _ _ _ hk H locs ls h1 h2 hz hP hS hL)
theorem S_ixor (C : al_Cx F p l e s m args below meth c Rm cc nL own t fr lo n0 ne Q0) (hd : decode cc pc = .ok (.ixor, 1)) (h : al_Ok F k (pc + 1)) : al_Ok F (o_ii (fun x y => x ^^^ y) k) pc := by
  obtain ⟨rfl, hx, hb, hml, hown, hts, hlk, hSt, hfr, hlo, hce, hsl, hne, h90, hsz⟩ := C
  intro L st n R I J hk H locs ls h1 h2 hz hP hS hL
  match st, hk with
  | .int y :: .int x :: r, hk => exact lv_ixor hx hb hd (h _ _ _ _ _ _ hk H locs ls h1 h2 hz hP hS hL)
theorem S_ishl (C : al_Cx F p l e s m args below meth c Rm cc nL own t fr lo n0 ne Q0) (hd : decode cc pc = .ok (.ishl, 1)) (h : al_Ok F k (pc + 1)) : al_Ok F (o_ii (fun x y => x <<< (y &&& 31)) k) pc := by
  obtain ⟨rfl, hx, hb, hml, hown, hts, hlk, hSt, hfr, hlo, hce, hsl, hne, h90, hsz⟩ := C
  intro L st n R I J hk H locs ls h1 h2 hz hP hS hL
  match st, hk with
  | .int y :: .int x :: r, hk => exact lv_ishl hx hb hd (h _ _ _ _ _ _ hk H locs ls h1 h2 hz hP hS hL)
theorem S_ishr (C : al_Cx F p l e s m args below meth c Rm cc nL own t fr lo n0 ne Q0) (hd : decode cc pc = .ok (.ishr, 1)) (h : al_Ok F k (pc + 1)) : al_Ok F (o_ii (fun x y => x >>> (y &&& 31)) k) pc := by
  obtain ⟨rfl, hx, hb, hml, hown, hts, hlk, hSt, hfr, hlo, hce, hsl, hne, h90, hsz⟩ := C
  intro L st n R I J hk H locs ls h1 h2 hz hP hS hL
  match st, hk with
  | .int y :: .int x :: r, hk => exact lv_ishr hx hb hd (h _ _ _ _ _ _ hk H locs ls h1 h2 hz hP hS hL)
theorem S_iushr (C : al_Cx F p l e s m args below meth c Rm cc nL own t fr lo n0 ne Q0) (hd : decode cc pc = .ok (.iushr, 1)) (h : al_Ok F k (pc + 1)) : al_Ok F (o_ii (fun x y => (x.toUInt32 >>> (y.toUInt32 &&& Int32.toUInt32 31)).toInt32) k) pc := by
  obtain ⟨rfl, hx, hb, hml, hown, hts, hlk, hSt, hfr, hlo, hce, hsl, hne, h90, hsz⟩ := C
  intro L st n R I J hk H locs ls h1 h2 hz hP hS hL
  match st, hk with
  | .int y :: .int x :: r, hk => exact lv_iushr hx hb hd rfl (h _ _ _ _ _ _ hk H locs ls h1 h2 hz hP hS hL)
theorem S_idiv (C : al_Cx F p l e s m args below meth c Rm cc nL own t fr lo n0 ne Q0) (hd : decode cc pc = .ok (.idiv, 1)) (h : al_Ok F k (pc + 1)) : al_Ok F (o_dv (fun x y => x / y) k) pc := by
  obtain ⟨rfl, hx, hb, hml, hown, hts, hlk, hSt, hfr, hlo, hce, hsl, hne, h90, hsz⟩ := C
  intro L st n R I J hk H locs ls h1 h2 hz hP hS hL
  match st, hk with
  | .int y :: .int x :: r, hk =>
    obtain ⟨hy, hk⟩ := hk
    exact lv_idiv hx hb hd hy (h _ _ _ _ _ _ hk H locs ls h1 h2 hz hP hS hL)
theorem S_irem (C : al_Cx F p l e s m args below meth c Rm cc nL own t fr lo n0 ne Q0) (hd : decode cc pc = .ok (.irem, 1)) (h : al_Ok F k (pc + 1)) : al_Ok F (o_dv (fun x y => x - x / y * y) k) pc := by
  obtain ⟨rfl, hx, hb, hml, hown, hts, hlk, hSt, hfr, hlo, hce, hsl, hne, h90, hsz⟩ := C
  intro L st n R I J hk H locs ls h1 h2 hz hP hS hL
  match st, hk with
  | .int y :: .int x :: r, hk =>
    obtain ⟨hy, hk⟩ := hk
    exact lv_irem hx hb hd hy (h _ _ _ _ _ _ hk H locs ls h1 h2 hz hP hS hL)
theorem S_ineg (C : al_Cx F p l e s m args below meth c Rm cc nL own t fr lo n0 ne Q0) (hd : decode cc pc = .ok (.ineg, 1)) (h : al_Ok F k (pc + 1)) : al_Ok F (o_i1 (fun x => -x) k) pc := by
  obtain ⟨rfl, hx, hb, hml, hown, hts, hlk, hSt, hfr, hlo, hce, hsl, hne, h90, hsz⟩ := C
  intro L st n R I J hk H locs ls h1 h2 hz hP hS hL
  match st, hk with
  | .int x :: r, hk => exact lv_ineg hx hb hd (h _ _ _ _ _ _ hk H locs ls h1 h2 hz hP hS hL)
theorem S_i2b (C : al_Cx F p l e s m args below meth c Rm cc nL own t fr lo n0 ne Q0) (hd : decode cc pc = .ok (.i2b, 1)) (h : al_Ok F k (pc + 1)) : al_Ok F (o_i1 (fun x => x.toInt8.toInt32) k) pc := by
  obtain ⟨rfl, hx, hb, hml, hown, hts, hlk, hSt, hfr, hlo, hce, hsl, hne, h90, hsz⟩ := C
  intro L st n R I J hk H locs ls h1 h2 hz hP hS hL
  match st, hk with
  | .int x :: r, hk => exact lv_i2b hx hb hd rfl (h _ _ _ _ _ _ hk H locs ls h1 h2 hz hP hS hL)
theorem S_i2s (C : al_Cx F p l e s m args below meth c Rm cc nL own t fr lo n0 ne Q0) (hd : decode cc pc = .ok (.i2s, 1)) (h : al_Ok F k (pc + 1)) : al_Ok F (o_i1 (fun x => x.toInt16.toInt32) k) pc := by
  obtain ⟨rfl, hx, hb, hml, hown, hts, hlk, hSt, hfr, hlo, hce, hsl, hne, h90, hsz⟩ := C
  intro L st n R I J hk H locs ls h1 h2 hz hP hS hL
  match st, hk with
  | .int x :: r, hk => exact lv_i2s hx hb hd rfl (h _ _ _ _ _ _ hk H locs ls h1 h2 hz hP hS hL)
theorem S_ladd (C : al_Cx F p l e s m args below meth c Rm cc nL own t fr lo n0 ne Q0) (hd : decode cc pc = .ok (.ladd, 1)) (h : al_Ok F k (pc + 1)) : al_Ok F (o_ll (fun x y => x + y) k) pc := by
  obtain ⟨rfl, hx, hb, hml, hown, hts, hlk, hSt, hfr, hlo, hce, hsl, hne, h90, hsz⟩ := C
  intro L st n R I J hk H locs ls h1 h2 hz hP hS hL
  match st, hk with
  | .long y :: .long x :: r, hk => exact lv_ladd hx hb hd (h _ _ _ _ _ _ hk H locs ls h1 h2 hz hP hS hL)
theorem S_lsub (C : al_Cx F p l e s m args below meth c Rm cc nL own t fr lo n0 ne Q0) (hd : decode cc pc = .ok (.lsub, 1)) (h : al_Ok F k (pc + 1)) : al_Ok F (o_ll (fun x y => x - y) k) pc := by
  obtain ⟨rfl, hx, hb, hml, hown, hts, hlk, hSt, hfr, hlo, hce, hsl, hne, h90, hsz⟩ := C
  intro L st n R I J hk H locs ls h1 h2 hz hP hS hL
  match st, hk with
  | .long y :: .long x :: r, hk => exact lv_lsub hx hb hd (h _ _ _ _ _ _ hk H locs ls h1 h2 hz hP hS hL)
theorem S_land (C : al_Cx F p l e s m args below meth c Rm cc nL own t fr lo n0 ne Q0) (hd : decode cc pc = .ok (.land, 1)) (h : al_Ok F k (pc + 1)) : al_Ok F (o_ll (fun x y => x &&& y) k) pc := by
  obtain ⟨rfl, hx, hb, hml, hown, hts, hlk, hSt, hfr, hlo, hce, hsl, hne, h90, hsz⟩ := C
  intro L st n R I J hk H locs ls h1 h2 hz hP hS hL
  match st, hk with
  | .long y :: .long x :: r, hk => exact lv_land hx hb hd (h _ _ _ _ _ _ hk H locs ls h1 h2 hz hP hS hL)
theorem S_lor (C : al_Cx F p l e s m args below meth c Rm cc nL own t fr lo n0 ne Q0) (hd : decode cc pc = .ok (.lor, 1)) (h : al_Ok F k (pc + 1)) : al_Ok F (o_ll (fun x y => x ||| y) k) pc := by
  obtain ⟨rfl, hx, hb, hml, hown, hts, hlk, hSt, hfr, hlo, hce, hsl, hne, h90, hsz⟩ := C
  intro L st n R I J hk H locs ls h1 h2 hz hP hS hL
  match st, hk with
  | .long y :: .long x :: r, hk => exact lv_lor hx hb hd (h _ _ _ _ _ _ hk H locs ls h1 h2 hz hP hS hL)
theorem S_lxor (C : al_Cx F p l e s m args below meth c Rm cc nL own t fr lo n0 ne Q0) (hd : decode cc pc = .ok (.lxor, 1)) (h : al_Ok F k (pc + 1)) : al_Ok F (o_ll (fun x y => x ^^^ y) k) pc := by
  obtain ⟨rfl, hx, hb, hml, hown, hts, hlk, hSt, hfr, hlo, hce, hsl, hne, h90, hsz⟩ := C
  intro L st n R I J hk H locs ls h1 h2 hz hP hS hL
  match st, hk with
  | .long y :: .long x :: r, hk => exact lv_lxor hx hb hd (h _ _ _ _ _ _ hk H locs ls h1 h2 hz hP hS hL)
theorem S_lshl (C : al_Cx F p l e s m args below meth c Rm cc nL own t fr lo n0 ne Q0) (hd : decode cc pc = .ok (.lshl, 1)) (h : al_Ok F k (pc + 1)) : al_Ok F (o_li (fun x y => x <<< (y.toInt64 &&& 63)) k) pc := by
  obtain ⟨rfl, hx, hb, hml, hown, hts, hlk, hSt, hfr, hlo, hce, hsl, hne, h90, hsz⟩ := C
  intro L st n R I J hk H locs ls h1 h2 hz hP hS hL
  match st, hk with
  | .int y :: .long x :: r, hk => exact lv_lshl hx hb hd rfl (h _ _ _ _ _ _ hk H locs ls h1 h2 hz hP hS hL)
theorem S_lshr (C : al_Cx F p l e s m args below meth c Rm cc nL own t fr lo n0 ne Q0) (hd : decode cc pc = .ok (.lshr, 1)) (h : al_Ok F k (pc + 1)) : al_Ok F (o_li (fun x y => x >>> (y.toInt64 &&& 63)) k) pc := by
  obtain ⟨rfl, hx, hb, hml, hown, hts, hlk, hSt, hfr, hlo, hce, hsl, hne, h90, hsz⟩ := C
  intro L st n R I J hk H locs ls h1 h2 hz hP hS hL
  match st, hk with
  | .int y :: .long x :: r, hk => exact lv_lshr hx hb hd rfl (h _ _ _ _ _ _ hk H locs ls h1 h2 hz hP hS hL)
theorem S_lushr (C : al_Cx F p l e s m args below meth c Rm cc nL own t fr lo n0 ne Q0) (hd : decode cc pc = .ok (.lushr, 1)) (h : al_Ok F k (pc + 1)) : al_Ok F (o_li (fun x y => (x.toUInt64 >>> (y.toInt64.toUInt64 &&& Int64.toUInt64 63)).toInt64) k) pc := by
  obtain ⟨rfl, hx, hb, hml, hown, hts, hlk, hSt, hfr, hlo, hce, hsl, hne, h90, hsz⟩ := C
  intro L st n R I J hk H locs ls h1 h2 hz hP hS hL
  match st, hk with
  | .int y :: .long x :: r, hk => exact lv_lushr hx hb hd rfl (h _ _ _ _ _ _ hk H locs ls h1 h2 hz hP hS hL)
theorem S_i2l (C : al_Cx F p l e s m args below meth c Rm cc nL own t fr lo n0 ne Q0) (hd : decode cc pc = .ok (.i2l, 1)) (h : al_Ok F k (pc + 1)) : al_Ok F (o_i2l k) pc := by
  obtain ⟨rfl, hx, hb, hml, hown, hts, hlk, hSt, hfr, hlo, hce, hsl, hne, h90, hsz⟩ := C
  intro L st n R I J hk H locs ls h1 h2 hz hP hS hL
  match st, hk with
  | .int x :: r, hk => exact lv_i2l hx hb hd rfl (h _ _ _ _ _ _ hk H locs ls h1 h2 hz hP hS hL)
theorem S_l2i (C : al_Cx F p l e s m args below meth c Rm cc nL own t fr lo n0 ne Q0) (hd : decode cc pc = .ok (.l2i, 1)) (h : al_Ok F k (pc + 1)) : al_Ok F (o_l2i k) pc := by
  obtain ⟨rfl, hx, hb, hml, hown, hts, hlk, hSt, hfr, hlo, hce, hsl, hne, h90, hsz⟩ := C
  intro L st n R I J hk H locs ls h1 h2 hz hP hS hL
  match st, hk with
  | .long x :: r, hk => exact lv_l2i hx hb hd rfl (h _ _ _ _ _ _ hk H locs ls h1 h2 hz hP hS hL)
theorem S_lcmp (C : al_Cx F p l e s m args below meth c Rm cc nL own t fr lo n0 ne Q0) (hd : decode cc pc = .ok (.lcmp, 1)) (h : al_Ok F k (pc + 1)) : al_Ok F (o_lcmp k) pc := by
  obtain ⟨rfl, hx, hb, hml, hown, hts, hlk, hSt, hfr, hlo, hce, hsl, hne, h90, hsz⟩ := C
  intro L st n R I J hk H locs ls h1 h2 hz hP hS hL
  match st, hk with
  | .long y :: .long x :: r, hk => exact W.lcmp hx hb hd (h _ _ _ _ _ _ hk H locs ls h1 h2 hz hP hS hL)
theorem S_dup (C : al_Cx F p l e s m args below meth c Rm cc nL own t fr lo n0 ne Q0) (hd : decode cc pc = .ok (.dup, 1)) (h : al_Ok F k (pc + 1)) : al_Ok F (o_dup k) pc := by
  obtain ⟨rfl, hx, hb, hml, hown, hts, hlk, hSt, hfr, hlo, hce, hsl, hne, h90, hsz⟩ := C
  intro L st n R I J hk H locs ls h1 h2 hz hP hS hL
  match st, hk with
  | .int x :: r, hk => exact lv_dup hx hb hd rfl (h _ _ _ _ _ _ hk H locs ls h1 h2 hz hP hS hL)
  | .ref x :: r, hk => exact lv_dup hx hb hd rfl (h _ _ _ _ _ _ hk H locs ls h1 h2 hz hP hS hL)
theorem S_dup2 (C : al_Cx F p l e s m args below meth c Rm cc nL own t fr lo n0 ne Q0) (hd : decode cc pc = .ok (.dup2, 1)) (h : al_Ok F k (pc + 1)) : al_Ok F (o_dup2 k) pc := by
  obtain ⟨rfl, hx, hb, hml, hown, hts, hlk, hSt, hfr, hlo, hce, hsl, hne, h90, hsz⟩ := C
  intro L st n R I J hk H locs ls h1 h2 hz hP hS hL
  match st, hk with
  | .int x :: .ref y :: r, hk => exact lv_dup2_11 hx hb hd rfl rfl (h _ _ _ _ _ _ hk H locs ls h1 h2 hz hP hS hL)
theorem S_pop (C : al_Cx F p l e s m args below meth c Rm cc nL own t fr lo n0 ne Q0) (hd : decode cc pc = .ok (.pop, 1)) (h : al_Ok F k (pc + 1)) : al_Ok F (o_pop k) pc := by
  obtain ⟨rfl, hx, hb, hml, hown, hts, hlk, hSt, hfr, hlo, hce, hsl, hne, h90, hsz⟩ := C
  intro L st n R I J hk H locs ls h1 h2 hz hP hS hL
  match st, hk with
  | .int x :: r, hk => exact lv_pop hx hb hd rfl (h _ _ _ _ _ _ hk H locs ls h1 h2 hz hP hS hL)
theorem S_ifeq (C : al_Cx F p l e s m args below meth c Rm cc nL own t fr lo n0 ne Q0) {off : Int} {tgt : Nat} (hd : decode cc pc = .ok (.ifCond .eq off, 3)) (ht : (pc : Int) + off = (tgt : Int)) (h : al_Ok F k (pc + 3)) : al_Ok F (o_if1 (fun x => x = 0) (F tgt) k) pc := by
  obtain ⟨rfl, hx, hb, hml, hown, hts, hlk, hSt, hfr, hlo, hce, hsl, hne, h90, hsz⟩ := C
  intro L st n R I J hk H locs ls h1 h2 hz hP hS hL
  match st, hk with
  | .int x :: r, hk => exact lv_if_eq hx hb hd ht (fun q => hk.1 q H locs ls h1 h2 hz hP hS hL) (fun q => h _ _ _ _ _ _ (hk.2 q) H locs ls h1 h2 hz hP hS hL)
theorem S_icmpeq (C : al_Cx F p l e s m args below meth c Rm cc nL own t fr lo n0 ne Q0) {off : Int} {tgt : Nat} (hd : decode cc pc = .ok (.if_icmp .eq off, 3)) (ht : (pc : Int) + off = (tgt : Int)) (h : al_Ok F k (pc + 3)) : al_Ok F (o_if2 (fun x y => x = y) (F tgt) k) pc := by
  obtain ⟨rfl, hx, hb, hml, hown, hts, hlk, hSt, hfr, hlo, hce, hsl, hne, h90, hsz⟩ := C
  intro L st n R I J hk H locs ls h1 h2 hz hP hS hL
  match st, hk with
  | .int y :: .int x :: r, hk => exact lv_icmp_eq hx hb hd ht (fun q => hk.1 q H locs ls h1 h2 hz hP hS hL) (fun q => h _ _ _ _ _ _ (hk.2 q) H locs ls h1 h2 hz hP hS hL)
theorem S_ifne (C : al_Cx F p l e s m args below meth c Rm cc nL own t fr lo n0 ne Q0) {off : Int} {tgt : Nat} (hd : decode cc pc = .ok (.ifCond .ne off, 3)) (ht : (pc : Int) + off = (tgt : Int)) (h : al_Ok F k (pc + 3)) : al_Ok F (o_ifn (F tgt) k) pc := by
  obtain ⟨rfl, hx, hb, hml, hown, hts, hlk, hSt, hfr, hlo, hce, hsl, hne, h90, hsz⟩ := C
  intro L st n R I J hk H locs ls h1 h2 hz hP hS hL
  match st, hk with
  | .int x :: r, hk => exact lv_if_ne hx hb hd ht (fun q => hk.1 q H locs ls h1 h2 hz hP hS hL) (fun q => h _ _ _ _ _ _ (hk.2 q) H locs ls h1 h2 hz hP hS hL)
theorem S_icmpne (C : al_Cx F p l e s m args below meth c Rm cc nL own t fr lo n0 ne Q0) {off : Int} {tgt : Nat} (hd : decode cc pc = .ok (.if_icmp .ne off, 3)) (ht : (pc : Int) + off = (tgt : Int)) (h : al_Ok F k (pc + 3)) : al_Ok F (o_icn (F tgt) k) pc := by
  obtain ⟨rfl, hx, hb, hml, hown, hts, hlk, hSt, hfr, hlo, hce, hsl, hne, h90, hsz⟩ := C
  intro L st n R I J hk H locs ls h1 h2 hz hP hS hL
  match st, hk with
  | .int y :: .int x :: r, hk => exact lv_icmp_ne hx hb hd ht (fun q => hk.1 q H locs ls h1 h2 hz hP hS hL) (fun q => h _ _ _ _ _ _ (hk.2 q) H locs ls h1 h2 hz hP hS hL)
theorem S_iflt (C : al_Cx F p l e s m args below meth c Rm cc nL own t fr lo n0 ne Q0) {off : Int} {tgt : Nat} (hd : decode cc pc = .ok (.ifCond .lt off, 3)) (ht : (pc : Int) + off = (tgt : Int)) (h : al_Ok F k (pc + 3)) : al_Ok F (o_if1 (fun x => x < 0) (F tgt) k) pc := by
  obtain ⟨rfl, hx, hb, hml, hown, hts, hlk, hSt, hfr, hlo, hce, hsl, hne, h90, hsz⟩ := C
  intro L st n R I J hk H locs ls h1 h2 hz hP hS hL
  match st, hk with
  | .int x :: r, hk => exact lv_if_lt hx hb hd ht (fun q => hk.1 q H locs ls h1 h2 hz hP hS hL) (fun q => h _ _ _ _ _ _ (hk.2 q) H locs ls h1 h2 hz hP hS hL)
theorem S_icmplt (C : al_Cx F p l e s m args below meth c Rm cc nL own t fr lo n0 ne Q0) {off : Int} {tgt : Nat} (hd : decode cc pc = .ok (.if_icmp .lt off, 3)) (ht : (pc : Int) + off = (tgt : Int)) (h : al_Ok F k (pc + 3)) : al_Ok F (o_if2 (fun x y => x < y) (F tgt) k) pc := by
  obtain ⟨rfl, hx, hb, hml, hown, hts, hlk, hSt, hfr, hlo, hce, hsl, hne, h90, hsz⟩ := C
  intro L st n R I J hk H locs ls h1 h2 hz hP hS hL
  match st, hk with
  | .int y :: .int x :: r, hk => exact lv_icmp_lt hx hb hd ht (fun q => hk.1 q H locs ls h1 h2 hz hP hS hL) (fun q => h _ _ _ _ _ _ (hk.2 q) H locs ls h1 h2 hz hP hS hL)
theorem S_ifge (C : al_Cx F p l e s m args below meth c Rm cc nL own t fr lo n0 ne Q0) {off : Int} {tgt : Nat} (hd : decode cc pc = .ok (.ifCond .ge off, 3)) (ht : (pc : Int) + off = (tgt : Int)) (h : al_Ok F k (pc + 3)) : al_Ok F (o_if1 (fun x => 0 ≤ x) (F tgt) k) pc := by
  obtain ⟨rfl, hx, hb, hml, hown, hts, hlk, hSt, hfr, hlo, hce, hsl, hne, h90, hsz⟩ := C
  intro L st n R I J hk H locs ls h1 h2 hz hP hS hL
  match st, hk with
  | .int x :: r, hk => exact lv_if_ge hx hb hd ht (fun q => hk.1 q H locs ls h1 h2 hz hP hS hL) (fun q => h _ _ _ _ _ _ (hk.2 q) H locs ls h1 h2 hz hP hS hL)
theorem S_icmpge (C : al_Cx F p l e s m args below meth c Rm cc nL own t fr lo n0 ne Q0) {off : Int} {tgt : Nat} (hd : decode cc pc = .ok (.if_icmp .ge off, 3)) (ht : (pc : Int) + off = (tgt : Int)) (h : al_Ok F k (pc + 3)) : al_Ok F (o_if2 (fun x y => y ≤ x) (F tgt) k) pc := by
  obtain ⟨rfl, hx, hb, hml, hown, hts, hlk, hSt, hfr, hlo, hce, hsl, hne, h90, hsz⟩ := C
  intro L st n R I J hk H locs ls h1 h2 hz hP hS hL
  match st, hk with
  | .int y :: .int x :: r, hk => exact lv_icmp_ge hx hb hd ht (fun q => hk.1 q H locs ls h1 h2 hz hP hS hL) (fun q => h _ _ _ _ _ _ (hk.2 q) H locs ls h1 h2 hz hP hS hL)
theorem S_ifgt (C : al_Cx F p l e s m args below meth c Rm cc nL own t fr lo n0 ne Q0) {off : Int} {tgt : Nat} (hd : decode cc pc = .ok (.ifCond .gt off, 3)) (ht : (pc : Int) + off = (tgt : Int)) (h : al_Ok F k (pc + 3)) : al_Ok F (o_if1 (fun x => 0 < x) (F tgt) k) pc := by
  obtain ⟨rfl, hx, hb, hml, hown, hts, hlk, hSt, hfr, hlo, hce, hsl, hne, h90, hsz⟩ := C
  intro L st n R I J hk H locs ls h1 h2 hz hP hS hL
  match st, hk with
  | .int x :: r, hk => exact lv_if_gt hx hb hd ht (fun q => hk.1 q H locs ls h1 h2 hz hP hS hL) (fun q => h _ _ _ _ _ _ (hk.2 q) H locs ls h1 h2 hz hP hS hL)
theorem S_icmpgt (C : al_Cx F p l e s m args below meth c Rm cc nL own t fr lo n0 ne Q0) {off : Int} {tgt : Nat} (hd : decode cc pc = .ok (.if_icmp .gt off, 3)) (ht : (pc : Int) + off = (tgt : Int)) (h : al_Ok F k (pc + 3)) : al_Ok F (o_if2 (fun x y => y < x) (F tgt) k) pc := by
  obtain ⟨rfl, hx, hb, hml, hown, hts, hlk, hSt, hfr, hlo, hce, hsl, hne, h90, hsz⟩ := C
  intro L st n R I J hk H locs ls h1 h2 hz hP hS hL
  match st, hk with
  | .int y :: .int x :: r, hk => exact lv_icmp_gt hx hb hd ht (fun q => hk.1 q H locs ls h1 h2 hz hP hS hL) (fun q => h _ _ _ _ _ _ (hk.2 q) H locs ls h1 h2 hz hP hS hL)
theorem S_ifle (C : al_Cx F p l e s m args below meth c Rm cc nL own t fr lo n0 ne Q0) {off : Int} {tgt : Nat} (hd : decode cc pc = .ok (.ifCond .le off, 3)) (ht : (pc : Int) + off = (tgt : Int)) (h : al_Ok F k (pc + 3)) : al_Ok F (o_if1 (fun x => x ≤ 0) (F tgt) k) pc := by
  obtain ⟨rfl, hx, hb, hml, hown, hts, hlk, hSt, hfr, hlo, hce, hsl, hne, h90, hsz⟩ := C
  intro L st n R I J hk H locs ls h1 h2 hz hP hS hL
  match st, hk with
  | .int x :: r, hk => exact lv_if_le hx hb hd ht (fun q => hk.1 q H locs ls h1 h2 hz hP hS hL) (fun q => h _ _ _ _ _ _ (hk.2 q) H locs ls h1 h2 hz hP hS hL)
theorem S_icmple (C : al_Cx F p l e s m args below meth c Rm cc nL own t fr lo n0 ne Q0) {off : Int} {tgt : Nat} (hd : decode cc pc = .ok (.if_icmp .le off, 3)) (ht : (pc : Int) + off = (tgt : Int)) (h : al_Ok F k (pc + 3)) : al_Ok F (o_if2 (fun x y => x ≤ y) (F tgt) k) pc := by
  obtain ⟨rfl, hx, hb, hml, hown, hts, hlk, hSt, hfr, hlo, hce, hsl, hne, h90, hsz⟩ := C
  intro L st n R I J hk H locs ls h1 h2 hz hP hS hL
  match st, hk with
  | .int y :: .int x :: r, hk => exact lv_icmp_le hx hb hd ht (fun q => hk.1 q H locs ls h1 h2 hz hP hS hL) (fun q => h _ _ _ _ _ _ (hk.2 q) H locs ls h1 h2 hz hP hS hL)
theorem S_goto (C : al_Cx F p l e s m args below meth c Rm cc nL own t fr lo n0 ne Q0) {off : Int} {tgt : Nat} (hd : decode cc pc = .ok (.goto off, 3)) (ht : (pc : Int) + off = (tgt : Int)) : al_Ok F (F tgt) pc := by
  obtain ⟨rfl, hx, hb, hml, hown, hts, hlk, hSt, hfr, hlo, hce, hsl, hne, h90, hsz⟩ := C
  intro L st n R I J hk H locs ls h1 h2 hz hP hS hL
  exact lv_goto hx hb hd ht (hk H locs ls h1 h2 hz hP hS hL)
end ALA
end
section
theorem al_cea {t : TH} {R : RR} {I : II} {J : JJ} {q : Nat} {ak len : Nat} (h : al_sk q = .inr (ak, len)) : al_ce t R I J q = .inl (th_c t ak, al_ar t R I J q ak len) := by simp only [al_ce, h]
theorem al_ceo {t : TH} {R : RR} {I : II} {J : JJ} {q : Nat} {ci : Nat} (h : al_sk q = .inl ci) : al_ce t R I J q = .inr (ci, al_fs t R I J q (al_ft ci) 0) := by simp only [al_ce, h]
theorem al_only {α : Type} {f : Nat → Nat → α} {q j : Nat} {v : α} : ∀ x, x ≠ q → al_up f q j v x = f x := fun _ h => al_up_row h
section ALB
variable {F : FT} {p : Program} {l : Launch} {e : Env} {s : State} {m : MethodId} {args : Array Value} {below : List Frame} {meth : Method} {c : Code} {Rm : Room} {cc : ByteArray} {nL : Nat} {own : String} {t : TH} {fr lo n0 ne : Nat} {Q0 : State → Prop} {k : KT} {pc : Nat}
/-- a field is written (not a final one) -/
theorem al_put {H : Heap} {locs : List Loc} {ls : Array Slot} {cells slots : Nat} {n : Nat} {R R' : RR} {I I' : II} {J J' : JJ} {rest : List Value} (hx : p.tables.exec = Jvm.exec) (hb : c.code = cc) {Cn : String} {T : u_T} {N ci index q j : Nat} (hts : ∀ w ∈ al_gt, w.before args s = true) (hin : ∀ w ∈ u_ws Cn T N, w ∈ al_gt) (ty0 : Nat → FieldType) (hty : ∀ k, k < N → parseFieldDescriptor (T k).2.2.1 = some (ty0 k)) (hnm : ∀ a, a < N → ∀ b, b < N → a ≠ b → (T a).2.1 ≠ (T b).2.1) (hown : s.vm.findClass own = some m.cls) (hK : va_K (th_D t) vwCl (al_tys t) s) (hP : va_P (th_D t) vwCl (al_ws t n R I J) H) (hS0 : va_S (al_A t) s.heap H locs) (hq : al_cls n q = some ci) (hc : vwCl[ci]? = some (Cn, T, N)) (hj : j < N) (hlink : Cond.fieldLink own index (T j).1 (T j).2.1 (T j).2.2.1 ∈ al_gt) (hfin : (T j).2.2.2 = false) {fty : FieldType} {v : Value} (hd0 : parseFieldDescriptor (T j).2.2.1 = some fty) (hn : narrow fty v = v) (hfit : fits fty v = true) (hl : j < (al_ft ci).length)
    (hset : (al_fs t R I J q (al_ft ci) 0).set j v = al_fs t R' I' J' q (al_ft ci) 0) (ho : ∀ x, x ≠ q → R' x = R x ∧ I' x = I x ∧ J' x = J x)
    (hdg : decode cc pc = .ok (.putfield index, 3)) (kk : ∀ (H1 : Heap) (locs1 : List Loc), H1.size = H.size → va_P (th_D t) vwCl (al_ws t n R' I' J') H1 → va_S (al_A t) s.heap H1 locs1 → W p l e Rm s m args below meth c H1 locs1 cells slots Q0 (F0 m (pc + 3) ls rest)) : W p l e Rm s m args below meth c H locs cells slots Q0 (F0 m pc ls (v :: .ref (th_b t + q) :: rest)) := by
  obtain ⟨hqn, hsk⟩ := al_cls_of hq
  have hap := va_apart (own := own) hts hin ty0 hty hnm hK hc
  obtain ⟨r, h1, cell, q1, q2, q3, q4⟩ := hP q _ (al_obj hq)
  have hr : r = (Cn, T, N) := Option.some.inj (h1.symm.trans hc)
  subst hr
  obtain ⟨hSl, hfc, kC, hkC, hkind⟩ := hK.1 ci _ hc
  obtain ⟨cf, kf, fi, f, hi, hsl⟩ := hSl j hj
  have hlay := hts _ (hin _ (u_in_lay hj))
  unfold u_lay at hlay
  rw [if_neg (by rw [hfin]; decide)] at hlay
  have hst := (u_facts hfc hkC (u_lays hts hin hj) hi).1
  have h6 := u_store hfc hkC hkind hlay hi hd0 hn hfit
  refine W.putK hx hb (f := f) ⟨hown, hts _ hlink, ⟨_, _, _, hi⟩, hst⟩ (by rw [q2]; exact h6) q1 q3 (by rw [hsl]; exact k2_hasslot (q4 j hj)) rfl rfl hdg fun H' e1 e2 e3 => ?_
  rw [hsl] at e1 ⊢
  refine kk H' _ e2 (al_upd hP hqn ?_ ho e3) (hS0.put e2 e3 (Nat.le_add_right _ _))
  rw [al_ceo hsk, ← hset]
  exact ⟨_, hc, t_OB.to (V := updV (vp_V (al_fs t R I J q (al_ft ci) 0)) j v) ⟨_, e1, q2, q3, t_set q4 hap hj v⟩ (fun j' _ => vp_updV_set (by rw [al_fs_len]; exact hl) v j')⟩
/-- a final field is written, in a constructor -/
theorem al_putF {H : Heap} {locs : List Loc} {ls : Array Slot} {cells slots : Nat} {n : Nat} {R R' : RR} {I I' : II} {J J' : JJ} {rest : List Value} (hx : p.tables.exec = Jvm.exec) (hb : c.code = cc) {Cn : String} {T : u_T} {N ci index q j : Nat} (hts : ∀ w ∈ al_gt, w.before args s = true) (hin : ∀ w ∈ u_ws Cn T N, w ∈ al_gt) (ty0 : Nat → FieldType) (hty : ∀ k, k < N → parseFieldDescriptor (T k).2.2.1 = some (ty0 k)) (hnm : ∀ a, a < N → ∀ b, b < N → a ≠ b → (T a).2.1 ≠ (T b).2.1) (hown : s.vm.findClass own = some m.cls) (hK : va_K (th_D t) vwCl (al_tys t) s) (hP : va_P (th_D t) vwCl (al_ws t n R I J) H) (hS0 : va_S (al_A t) s.heap H locs) (hq : al_cls n q = some ci) (hc : vwCl[ci]? = some (Cn, T, N)) (hj : j < N) (hlink : Cond.fieldLink own index (T j).1 (T j).2.1 (T j).2.2.1 ∈ al_gt) (hfin : (T j).2.2.2 = true) (hin2 : meth.name = "<init>") (hdecl : (T j).1 = own) {fty : FieldType} {v : Value} (hd0 : parseFieldDescriptor (T j).2.2.1 = some fty) (hn : narrow fty v = v) (hfit : fits fty v = true) (hl : j < (al_ft ci).length)
    (hset : (al_fs t R I J q (al_ft ci) 0).set j v = al_fs t R' I' J' q (al_ft ci) 0) (ho : ∀ x, x ≠ q → R' x = R x ∧ I' x = I x ∧ J' x = J x)
    (hdg : decode cc pc = .ok (.putfield index, 3)) (kk : ∀ (H1 : Heap) (locs1 : List Loc), H1.size = H.size → va_P (th_D t) vwCl (al_ws t n R' I' J') H1 → va_S (al_A t) s.heap H1 locs1 → W p l e Rm s m args below meth c H1 locs1 cells slots Q0 (F0 m (pc + 3) ls rest)) : W p l e Rm s m args below meth c H locs cells slots Q0 (F0 m pc ls (v :: .ref (th_b t + q) :: rest)) := by
  obtain ⟨hqn, hsk⟩ := al_cls_of hq
  have hap := va_apart (own := own) hts hin ty0 hty hnm hK hc
  obtain ⟨r, h1, cell, q1, q2, q3, q4⟩ := hP q _ (al_obj hq)
  have hr : r = (Cn, T, N) := Option.some.inj (h1.symm.trans hc)
  subst hr
  obtain ⟨hSl, hfc, kC, hkC, hkind⟩ := hK.1 ci _ hc
  obtain ⟨cf, kf, fi, f, hi, hsl⟩ := hSl j hj
  have hlay := hts _ (hin _ (u_in_lay hj))
  unfold u_lay at hlay
  rw [if_pos hfin] at hlay
  have hst := (u_facts hfc hkC (u_lays hts hin hj) hi).1
  have hcf : m.cls = cf := by
    obtain ⟨_, _, c', _, _, _, -, -, hf', -, -, -, hown2, -⟩ := Cond.laysFinal_spec hlay
    have e1 : c' = cf := by have := hi.symm.trans hf'; simp at this; exact this.1.symm
    rw [hdecl] at hown2
    rw [← e1]; exact Option.some.inj (hown.symm.trans hown2)
  have h6 := u_fits hfc hkC hkind (Or.inr hlay) hi hd0 hn hfit
  refine W.putFinK hx hb hown (hts _ hlink) hi hst hcf hin2 (by rw [q2]; exact h6) q1 q3 (by rw [hsl]; exact k2_hasslot (q4 j hj)) rfl rfl hdg fun H' e1 e2 e3 => ?_
  rw [hsl] at e1 ⊢
  refine kk H' _ e2 (al_upd hP hqn ?_ ho e3) (hS0.put e2 e3 (Nat.le_add_right _ _))
  rw [al_ceo hsk, ← hset]
  exact ⟨_, hc, t_OB.to (V := updV (vp_V (al_fs t R I J q (al_ft ci) 0)) j v) ⟨_, e1, q2, q3, t_set q4 hap hj v⟩ (fun j' _ => vp_updV_set (by rw [al_fs_len]; exact hl) v j')⟩
theorem S_getI (C : al_Cx F p l e s m args below meth c Rm cc nL own t fr lo n0 ne Q0) {Cn : String} {T : u_T} {N ci index j : Nat} (hin : ∀ w ∈ u_ws Cn T N, w ∈ al_gt) (hc : vwCl[ci]? = some (Cn, T, N)) (hj : j < N) (hf : (al_ft ci)[j]? = some 0) (hw : Cond.fieldLink own index (T j).1 (T j).2.1 (T j).2.2.1 ∈ al_gt) (hd : decode cc pc = .ok (.getfield index, 3)) (h : al_Ok F k (pc + 3)) : al_Ok F (o_getI ci j k) pc := by
  obtain ⟨rfl, hx, hb, hml, hown, hts, hlk, hSt, hfr, hlo, hce, hsl, hne, h90, hsz⟩ := C
  intro L st n R I J hk H locs ls h1 h2 hz hP hS hL
  match st, hk with
  | .ref q :: r, hk =>
    obtain ⟨hq, hk⟩ := al_isC_of hk
    have ea := al_adp t (al_cls_of hq).1 (Nat.le_trans h2 h90)
    show W p l e Rm s m args below meth c H locs _ _ Q0 (F0 m pc ls (.ref (al_ad t q) :: r.map (al_tr t)))
    rw [ea]
    exact va_get (D := th_D t) (ref := (T j).1) (v := .int (I q j)) hx hb hts hin hown hSt.1 hP q (al_obj hq) hc j hj (hts _ hw) (fun _ h9 => h9) (by rw [al_fs_get, hf, Nat.zero_add]; rfl) hd (h _ _ _ _ _ _ hk H locs ls h1 h2 hz hP hS hL)
theorem S_getZ (C : al_Cx F p l e s m args below meth c Rm cc nL own t fr lo n0 ne Q0) {Cn : String} {T : u_T} {N ci index j : Nat} (hin : ∀ w ∈ u_ws Cn T N, w ∈ al_gt) (hc : vwCl[ci]? = some (Cn, T, N)) (hj : j < N) (hf : (al_ft ci)[j]? = some 3) (hw : Cond.fieldLink own index (T j).1 (T j).2.1 (T j).2.2.1 ∈ al_gt) (hd : decode cc pc = .ok (.getfield index, 3)) (h : al_Ok F k (pc + 3)) : al_Ok F (o_getI ci j k) pc := by
  obtain ⟨rfl, hx, hb, hml, hown, hts, hlk, hSt, hfr, hlo, hce, hsl, hne, h90, hsz⟩ := C
  intro L st n R I J hk H locs ls h1 h2 hz hP hS hL
  match st, hk with
  | .ref q :: r, hk =>
    obtain ⟨hq, hk⟩ := al_isC_of hk
    have ea := al_adp t (al_cls_of hq).1 (Nat.le_trans h2 h90)
    show W p l e Rm s m args below meth c H locs _ _ Q0 (F0 m pc ls (.ref (al_ad t q) :: r.map (al_tr t)))
    rw [ea]
    exact va_get (D := th_D t) (ref := (T j).1) (v := .int (I q j)) hx hb hts hin hown hSt.1 hP q (al_obj hq) hc j hj (hts _ hw) (fun _ h9 => h9) (by rw [al_fs_get, hf, Nat.zero_add]; rfl) hd (h _ _ _ _ _ _ hk H locs ls h1 h2 hz hP hS hL)
theorem S_getJ (C : al_Cx F p l e s m args below meth c Rm cc nL own t fr lo n0 ne Q0) {Cn : String} {T : u_T} {N ci index j : Nat} (hin : ∀ w ∈ u_ws Cn T N, w ∈ al_gt) (hc : vwCl[ci]? = some (Cn, T, N)) (hj : j < N) (hf : (al_ft ci)[j]? = some 1) (hw : Cond.fieldLink own index (T j).1 (T j).2.1 (T j).2.2.1 ∈ al_gt) (hd : decode cc pc = .ok (.getfield index, 3)) (h : al_Ok F k (pc + 3)) : al_Ok F (o_getJ ci j k) pc := by
  obtain ⟨rfl, hx, hb, hml, hown, hts, hlk, hSt, hfr, hlo, hce, hsl, hne, h90, hsz⟩ := C
  intro L st n R I J hk H locs ls h1 h2 hz hP hS hL
  match st, hk with
  | .ref q :: r, hk =>
    obtain ⟨hq, hk⟩ := al_isC_of hk
    have ea := al_adp t (al_cls_of hq).1 (Nat.le_trans h2 h90)
    show W p l e Rm s m args below meth c H locs _ _ Q0 (F0 m pc ls (.ref (al_ad t q) :: r.map (al_tr t)))
    rw [ea]
    exact va_get (D := th_D t) (ref := (T j).1) (v := .long (J q j)) hx hb hts hin hown hSt.1 hP q (al_obj hq) hc j hj (hts _ hw) (fun _ h9 => h9) (by rw [al_fs_get, hf, Nat.zero_add]; rfl) hd (h _ _ _ _ _ _ hk H locs ls h1 h2 hz hP hS hL)
theorem S_getR (C : al_Cx F p l e s m args below meth c Rm cc nL own t fr lo n0 ne Q0) {Cn : String} {T : u_T} {N ci index j : Nat} (hin : ∀ w ∈ u_ws Cn T N, w ∈ al_gt) (hc : vwCl[ci]? = some (Cn, T, N)) (hj : j < N) (hf : (al_ft ci)[j]? = some 2) (hw : Cond.fieldLink own index (T j).1 (T j).2.1 (T j).2.2.1 ∈ al_gt) (hd : decode cc pc = .ok (.getfield index, 3)) (h : al_Ok F k (pc + 3)) : al_Ok F (o_getR ci j k) pc := by
  obtain ⟨rfl, hx, hb, hml, hown, hts, hlk, hSt, hfr, hlo, hce, hsl, hne, h90, hsz⟩ := C
  intro L st n R I J hk H locs ls h1 h2 hz hP hS hL
  match st, hk with
  | .ref q :: r, hk =>
    obtain ⟨hq, hk⟩ := al_isC_of hk
    obtain ⟨q2, hR, hk⟩ := al_rk_of hk
    have ea := al_adp t (al_cls_of hq).1 (Nat.le_trans h2 h90)
    show W p l e Rm s m args below meth c H locs _ _ Q0 (F0 m pc ls (.ref (al_ad t q) :: r.map (al_tr t)))
    rw [ea]
    exact va_get (D := th_D t) (ref := (T j).1) (v := .ref (al_ad t q2)) hx hb hts hin hown hSt.1 hP q (al_obj hq) hc j hj (hts _ hw) (fun _ h9 => h9) (by rw [al_fs_get, hf, Nat.zero_add]; show some (va_rf ((R q j).map (al_ad t))) = _; rw [hR]; rfl) hd (h _ _ _ _ _ _ hk H locs ls h1 h2 hz hP hS hL)
theorem S_putI (C : al_Cx F p l e s m args below meth c Rm cc nL own t fr lo n0 ne Q0) {Cn : String} {T : u_T} {N ci index j : Nat} (hin : ∀ w ∈ u_ws Cn T N, w ∈ al_gt) (hc : vwCl[ci]? = some (Cn, T, N)) (hj : j < N) (ty0 : Nat → FieldType) (hty : ∀ k, k < N → parseFieldDescriptor (T k).2.2.1 = some (ty0 k)) (hnm : ∀ a, a < N → ∀ b, b < N → a ≠ b → (T a).2.1 ≠ (T b).2.1) (hf : (al_ft ci)[j]? = some 0) (hfin : (T j).2.2.2 = false) (hd0 : parseFieldDescriptor (T j).2.2.1 = some .int) (hw : Cond.fieldLink own index (T j).1 (T j).2.1 (T j).2.2.1 ∈ al_gt) (hd : decode cc pc = .ok (.putfield index, 3)) (h : al_Ok F k (pc + 3)) : al_Ok F (o_putI ci j k) pc := by
  obtain ⟨rfl, hx, hb, hml, hown, hts, hlk, hSt, hfr, hlo, hce, hsl, hne, h90, hsz⟩ := C
  intro L st n R I J hk H locs ls h1 h2 hz hP hS hL
  match st, hk with
  | .int v :: .ref q :: r, hk =>
    obtain ⟨hq, hk⟩ := al_isC_of hk
    have ea := al_adp t (al_cls_of hq).1 (Nat.le_trans h2 h90)
    show W p l e Rm s m args below meth c H locs _ _ Q0 (F0 m pc ls (.int v :: .ref (al_ad t q) :: r.map (al_tr t)))
    rw [ea]
    refine al_put (R' := R) (I' := al_up I q j v) (J' := J) (v := .int v) hx hb hts hin ty0 hty hnm hown hSt.1 hP hS hq hc hj hw hfin hd0 rfl rfl (List.getElem?_eq_some_iff.mp hf).1 (al_fs_set hf ?_ ?_) (fun x hx9 => ⟨rfl, al_up_row hx9, rfl⟩) hd (fun H1 locs1 z hP hS => h _ _ _ _ _ _ hk H1 locs1 ls h1 h2 (fun h9 => z.trans (hz h9)) hP hS hL)
    · show Value.int (al_up _ q j v q (0 + j)) = _
      rw [Nat.zero_add, al_up_s]
    · intro i y hi
      rw [Nat.zero_add] at hi
      simp only [al_fv, al_up_j hi]
theorem S_putZ (C : al_Cx F p l e s m args below meth c Rm cc nL own t fr lo n0 ne Q0) {Cn : String} {T : u_T} {N ci index j : Nat} (hin : ∀ w ∈ u_ws Cn T N, w ∈ al_gt) (hc : vwCl[ci]? = some (Cn, T, N)) (hj : j < N) (ty0 : Nat → FieldType) (hty : ∀ k, k < N → parseFieldDescriptor (T k).2.2.1 = some (ty0 k)) (hnm : ∀ a, a < N → ∀ b, b < N → a ≠ b → (T a).2.1 ≠ (T b).2.1) (hf : (al_ft ci)[j]? = some 3) (hfin : (T j).2.2.2 = false) (hd0 : parseFieldDescriptor (T j).2.2.1 = some .boolean) (hw : Cond.fieldLink own index (T j).1 (T j).2.1 (T j).2.2.1 ∈ al_gt) (hd : decode cc pc = .ok (.putfield index, 3)) (h : al_Ok F k (pc + 3)) : al_Ok F (o_putZ ci j k) pc := by
  obtain ⟨rfl, hx, hb, hml, hown, hts, hlk, hSt, hfr, hlo, hce, hsl, hne, h90, hsz⟩ := C
  intro L st n R I J hk H locs ls h1 h2 hz hP hS hL
  match st, hk with
  | .int v :: .ref q :: r, hk =>
    obtain ⟨hq, hk⟩ := al_isC_of hk
    obtain ⟨hv, hk⟩ := hk
    have ea := al_adp t (al_cls_of hq).1 (Nat.le_trans h2 h90)
    show W p l e Rm s m args below meth c H locs _ _ Q0 (F0 m pc ls (.int v :: .ref (al_ad t q) :: r.map (al_tr t)))
    rw [ea]
    refine al_put (R' := R) (I' := al_up I q j v) (J' := J) (v := .int v) hx hb hts hin ty0 hty hnm hown hSt.1 hP hS hq hc hj hw hfin hd0 (by rcases hv with rfl | rfl <;> rfl) (by rcases hv with rfl | rfl <;> rfl) (List.getElem?_eq_some_iff.mp hf).1 (al_fs_set hf ?_ ?_) (fun x hx9 => ⟨rfl, al_up_row hx9, rfl⟩) hd (fun H1 locs1 z hP hS => h _ _ _ _ _ _ hk H1 locs1 ls h1 h2 (fun h9 => z.trans (hz h9)) hP hS hL)
    · show Value.int (al_up _ q j v q (0 + j)) = _
      rw [Nat.zero_add, al_up_s]
    · intro i y hi
      rw [Nat.zero_add] at hi
      simp only [al_fv, al_up_j hi]
theorem S_putJ (C : al_Cx F p l e s m args below meth c Rm cc nL own t fr lo n0 ne Q0) {Cn : String} {T : u_T} {N ci index j : Nat} (hin : ∀ w ∈ u_ws Cn T N, w ∈ al_gt) (hc : vwCl[ci]? = some (Cn, T, N)) (hj : j < N) (ty0 : Nat → FieldType) (hty : ∀ k, k < N → parseFieldDescriptor (T k).2.2.1 = some (ty0 k)) (hnm : ∀ a, a < N → ∀ b, b < N → a ≠ b → (T a).2.1 ≠ (T b).2.1) (hf : (al_ft ci)[j]? = some 1) (hfin : (T j).2.2.2 = false) (hd0 : parseFieldDescriptor (T j).2.2.1 = some .long) (hw : Cond.fieldLink own index (T j).1 (T j).2.1 (T j).2.2.1 ∈ al_gt) (hd : decode cc pc = .ok (.putfield index, 3)) (h : al_Ok F k (pc + 3)) : al_Ok F (o_putJ ci j k) pc := by
  obtain ⟨rfl, hx, hb, hml, hown, hts, hlk, hSt, hfr, hlo, hce, hsl, hne, h90, hsz⟩ := C
  intro L st n R I J hk H locs ls h1 h2 hz hP hS hL
  match st, hk with
  | .long v :: .ref q :: r, hk =>
    obtain ⟨hq, hk⟩ := al_isC_of hk
    have ea := al_adp t (al_cls_of hq).1 (Nat.le_trans h2 h90)
    show W p l e Rm s m args below meth c H locs _ _ Q0 (F0 m pc ls (.long v :: .ref (al_ad t q) :: r.map (al_tr t)))
    rw [ea]
    refine al_put (R' := R) (I' := I) (J' := al_up J q j v) (v := .long v) hx hb hts hin ty0 hty hnm hown hSt.1 hP hS hq hc hj hw hfin hd0 rfl rfl (List.getElem?_eq_some_iff.mp hf).1 (al_fs_set hf ?_ ?_) (fun x hx9 => ⟨rfl, rfl, al_up_row hx9⟩) hd (fun H1 locs1 z hP hS => h _ _ _ _ _ _ hk H1 locs1 ls h1 h2 (fun h9 => z.trans (hz h9)) hP hS hL)
    · show Value.long (al_up _ q j v q (0 + j)) = _
      rw [Nat.zero_add, al_up_s]
    · intro i y hi
      rw [Nat.zero_add] at hi
      simp only [al_fv, al_up_j hi]
theorem S_putR (C : al_Cx F p l e s m args below meth c Rm cc nL own t fr lo n0 ne Q0) {Cn : String} {T : u_T} {N ci index j : Nat} (hin : ∀ w ∈ u_ws Cn T N, w ∈ al_gt) (hc : vwCl[ci]? = some (Cn, T, N)) (hj : j < N) (ty0 : Nat → FieldType) (hty : ∀ k, k < N → parseFieldDescriptor (T k).2.2.1 = some (ty0 k)) (hnm : ∀ a, a < N → ∀ b, b < N → a ≠ b → (T a).2.1 ≠ (T b).2.1) {fty : FieldType} (hf : (al_ft ci)[j]? = some 2) (hfin : (T j).2.2.2 = true) (hd0 : parseFieldDescriptor (T j).2.2.1 = some fty) (hft : (∃ nm, fty = .object nm) ∨ ∃ ft, fty = .array ft) (hi0 : meth.name = "<init>") (hdecl : (T j).1 = own) (hw : Cond.fieldLink own index (T j).1 (T j).2.1 (T j).2.2.1 ∈ al_gt) (hd : decode cc pc = .ok (.putfield index, 3)) (h : al_Ok F k (pc + 3)) : al_Ok F (o_putR ci j k) pc := by
  obtain ⟨rfl, hx, hb, hml, hown, hts, hlk, hSt, hfr, hlo, hce, hsl, hne, h90, hsz⟩ := C
  intro L st n R I J hk H locs ls h1 h2 hz hP hS hL
  match st, hk with
  | .ref v :: .ref q :: r, hk =>
    obtain ⟨hq, hk⟩ := al_isC_of hk
    have ea := al_adp t (al_cls_of hq).1 (Nat.le_trans h2 h90)
    show W p l e Rm s m args below meth c H locs _ _ Q0 (F0 m pc ls (.ref (al_ad t v) :: .ref (al_ad t q) :: r.map (al_tr t)))
    rw [ea]
    refine al_putF (R' := al_up R q j (some v)) (I' := I) (J' := J) (v := .ref (al_ad t v)) hx hb hts hin ty0 hty hnm hown hSt.1 hP hS hq hc hj hw hfin hi0 hdecl hd0 (by rcases hft with ⟨nm, rfl⟩ | ⟨ft, rfl⟩ <;> rfl) (by rcases hft with ⟨nm, rfl⟩ | ⟨ft, rfl⟩ <;> rfl) (List.getElem?_eq_some_iff.mp hf).1 (al_fs_set hf ?_ ?_) (fun x hx9 => ⟨al_up_row hx9, rfl, rfl⟩) hd (fun H1 locs1 z hP hS => h _ _ _ _ _ _ hk H1 locs1 ls h1 h2 (fun h9 => z.trans (hz h9)) hP hS hL)
    · show va_rf ((al_up R q j (some v) q (0 + j)).map (al_ad t)) = _
      rw [Nat.zero_add, al_up_s]
      rfl
    · intro i y hi
      rw [Nat.zero_add] at hi
      simp only [al_fv, al_up_j hi]
theorem S_iald (C : al_Cx F p l e s m args below meth c Rm cc nL own t fr lo n0 ne Q0) (hd : decode cc pc = .ok (.iaload, 1)) (h : al_Ok F k (pc + 1)) : al_Ok F (o_iald k) pc := by
  obtain ⟨rfl, hx, hb, hml, hown, hts, hlk, hSt, hfr, hlo, hce, hsl, hne, h90, hsz⟩ := C
  intro L st n R I J hk H locs ls h1 h2 hz hP hS hL
  match st, hk with
  | .int i :: .ref q :: r, hk =>
    dsimp only [o_iald] at hk
    obtain ⟨len, hq, j, hj, hi, hk⟩ := al_isA_of hk
    obtain ⟨hin, hcl⟩ := al_in_of hi hj (al_len_lt hq (Nat.le_trans h2 h90))
    have ea := al_adp t (al_ark_of hq).1 (Nat.le_trans h2 h90)
    show W p l e Rm s m args below meth c H locs _ _ Q0 (F0 m pc ls (.int i :: .ref (al_ad t q) :: r.map (al_tr t)))
    rw [ea]
    exact va_iald hx hb hSt.1 hP q 0 (al_arr hq) rfl hin hd (by rw [hcl]; exact (h _ _ _ _ _ _ hk H locs ls h1 h2 hz hP hS hL))
theorem S_zald (C : al_Cx F p l e s m args below meth c Rm cc nL own t fr lo n0 ne Q0) (hd : decode cc pc = .ok (.baload, 1)) (h : al_Ok F k (pc + 1)) : al_Ok F (o_zald k) pc := by
  obtain ⟨rfl, hx, hb, hml, hown, hts, hlk, hSt, hfr, hlo, hce, hsl, hne, h90, hsz⟩ := C
  intro L st n R I J hk H locs ls h1 h2 hz hP hS hL
  match st, hk with
  | .int i :: .ref q :: r, hk =>
    dsimp only [o_zald] at hk
    obtain ⟨len, hq, j, hj, hi, hk⟩ := al_isA_of hk
    obtain ⟨hin, hcl⟩ := al_in_of hi hj (al_len_lt hq (Nat.le_trans h2 h90))
    have ea := al_adp t (al_ark_of hq).1 (Nat.le_trans h2 h90)
    show W p l e Rm s m args below meth c H locs _ _ Q0 (F0 m pc ls (.int i :: .ref (al_ad t q) :: r.map (al_tr t)))
    rw [ea]
    exact va_zald hx hb hSt.1 hP q 2 (al_arr hq) rfl hin hd (by rw [hcl]; exact (h _ _ _ _ _ _ hk H locs ls h1 h2 hz hP hS hL))
theorem S_lald (C : al_Cx F p l e s m args below meth c Rm cc nL own t fr lo n0 ne Q0) (hd : decode cc pc = .ok (.laload, 1)) (h : al_Ok F k (pc + 1)) : al_Ok F (o_lald k) pc := by
  obtain ⟨rfl, hx, hb, hml, hown, hts, hlk, hSt, hfr, hlo, hce, hsl, hne, h90, hsz⟩ := C
  intro L st n R I J hk H locs ls h1 h2 hz hP hS hL
  match st, hk with
  | .int i :: .ref q :: r, hk =>
    dsimp only [o_lald] at hk
    obtain ⟨len, hq, j, hj, hi, hk⟩ := al_isA_of hk
    obtain ⟨hin, hcl⟩ := al_in_of hi hj (al_len_lt hq (Nat.le_trans h2 h90))
    have ea := al_adp t (al_ark_of hq).1 (Nat.le_trans h2 h90)
    show W p l e Rm s m args below meth c H locs _ _ Q0 (F0 m pc ls (.int i :: .ref (al_ad t q) :: r.map (al_tr t)))
    rw [ea]
    exact va_lald hx hb hSt.1 hP q 1 (al_arr hq) rfl hin hd (by rw [hcl]; exact (h _ _ _ _ _ _ hk H locs ls h1 h2 hz hP hS hL))
theorem S_aald (C : al_Cx F p l e s m args below meth c Rm cc nL own t fr lo n0 ne Q0) {ak : Nat} {Cn : String} (hak : ∀ (t : TH) (R : RR) (I : II) (J : JJ) (q len : Nat), al_ar t R I J q ak len = (len, .inr (.inr (.inr (.inr (fun j => (R q j).map (al_ad t))))))) (hty : ∀ t : TH, (al_tys t)[ak]? = some (th_c t ak, .object Cn)) (hd : decode cc pc = .ok (.aaload, 1)) (h : al_Ok F k (pc + 1)) : al_Ok F (o_aald ak k) pc := by
  obtain ⟨rfl, hx, hb, hml, hown, hts, hlk, hSt, hfr, hlo, hce, hsl, hne, h90, hsz⟩ := C
  intro L st n R I J hk H locs ls h1 h2 hz hP hS hL
  match st, hk with
  | .int i :: .ref q :: r, hk =>
    dsimp only [o_aald] at hk
    obtain ⟨len, hq, j, hj, hi, hk⟩ := al_isA_of hk
    obtain ⟨q2, hR, hk⟩ := al_rk_of hk
    obtain ⟨hin, hcl⟩ := al_in_of hi hj (al_len_lt hq (Nat.le_trans h2 h90))
    have ea := al_adp t (al_ark_of hq).1 (Nat.le_trans h2 h90)
    show W p l e Rm s m args below meth c H locs _ _ Q0 (F0 m pc ls (.int i :: .ref (al_ad t q) :: r.map (al_tr t)))
    rw [ea]
    have har := al_arr (t := t) (R := R) (I := I) (J := J) hq
    rw [hak] at har
    exact va_aldq hx hb hSt.1 hP q ak har (hty t) hin hd (by rw [hcl, hR]; exact (h _ _ _ _ _ _ hk H locs ls h1 h2 hz hP hS hL))
theorem S_iast (C : al_Cx F p l e s m args below meth c Rm cc nL own t fr lo n0 ne Q0) (hd : decode cc pc = .ok (.iastore, 1)) (h : al_Ok F k (pc + 1)) : al_Ok F (o_iast k) pc := by
  obtain ⟨rfl, hx, hb, hml, hown, hts, hlk, hSt, hfr, hlo, hce, hsl, hne, h90, hsz⟩ := C
  intro L st n R I J hk H locs ls h1 h2 hz hP hS hL
  match st, hk with
  | .int v :: .int i :: .ref q :: r, hk =>
    dsimp only [o_iast] at hk
    obtain ⟨len, hq, j, hj, hi, hk⟩ := al_isA_of hk
    obtain ⟨hin, hcl⟩ := al_in_of hi hj (al_len_lt hq (Nat.le_trans h2 h90))
    obtain ⟨hqn, hsk⟩ := al_ark_of hq
    have ea := al_adp t hqn (Nat.le_trans h2 h90)
    show W p l e Rm s m args below meth c H locs _ _ Q0 (F0 m pc ls (.int v :: .int i :: .ref (al_ad t q) :: r.map (al_tr t)))
    rw [ea]
    refine W.iast hx hb (hP q _ (al_arr hq)) ((hSt.1.2 0 _ rfl).1 len (fun j => .int (I q j))) (fun q => by cases q) (by show ¬ (i < 0 ∨ (arrV _ _ _).slots.size ≤ _); rw [arrV_size]; exact hin) rfl rfl hd fun H1 e1 z oq => ?_
    refine h _ _ _ _ _ _ hk H1 _ ls h1 h2 (fun h9 => z.trans (hz h9)) (al_upd (R := R) (I := I) (J := J) hP hqn ?_ (fun x hx9 => ⟨rfl, al_up_row hx9, rfl⟩) oq) (hS.put z oq (Nat.le_add_right _ _)) hL
    rw [al_cea hsk]
    show H1[th_b t + q]? = some (arrV (th_c t 0) len (fun j' => .int (al_up I q j v q j')))
    rw [e1]
    show some ((arrV (th_c t 0) len (fun j' => .int (I q j'))).setSlot _ _) = _
    rw [arrV_store, hcl]
    congr 2
    funext x
    by_cases hxj : x = j
    · subst hxj
      simp [updV, al_up_s]
    · simp [updV, hxj, al_up_j hxj]
theorem S_last (C : al_Cx F p l e s m args below meth c Rm cc nL own t fr lo n0 ne Q0) (hd : decode cc pc = .ok (.lastore, 1)) (h : al_Ok F k (pc + 1)) : al_Ok F (o_last k) pc := by
  obtain ⟨rfl, hx, hb, hml, hown, hts, hlk, hSt, hfr, hlo, hce, hsl, hne, h90, hsz⟩ := C
  intro L st n R I J hk H locs ls h1 h2 hz hP hS hL
  match st, hk with
  | .long v :: .int i :: .ref q :: r, hk =>
    dsimp only [o_last] at hk
    obtain ⟨len, hq, j, hj, hi, hk⟩ := al_isA_of hk
    obtain ⟨hin, hcl⟩ := al_in_of hi hj (al_len_lt hq (Nat.le_trans h2 h90))
    obtain ⟨hqn, hsk⟩ := al_ark_of hq
    have ea := al_adp t hqn (Nat.le_trans h2 h90)
    show W p l e Rm s m args below meth c H locs _ _ Q0 (F0 m pc ls (.long v :: .int i :: .ref (al_ad t q) :: r.map (al_tr t)))
    rw [ea]
    refine W.last hx hb (hP q _ (al_arr hq)) ((hSt.1.2 1 _ rfl).1 len (fun j => .long (J q j))) (fun q => by cases q) (by show ¬ (i < 0 ∨ (arrV _ _ _).slots.size ≤ _); rw [arrV_size]; exact hin) rfl rfl hd fun H1 e1 z oq => ?_
    refine h _ _ _ _ _ _ hk H1 _ ls h1 h2 (fun h9 => z.trans (hz h9)) (al_upd (R := R) (I := I) (J := J) hP hqn ?_ (fun x hx9 => ⟨rfl, rfl, al_up_row hx9⟩) oq) (hS.put z oq (Nat.le_add_right _ _)) hL
    rw [al_cea hsk]
    show H1[th_b t + q]? = some (arrV (th_c t 1) len (fun j' => .long (al_up J q j v q j')))
    rw [e1]
    show some ((arrV (th_c t 1) len (fun j' => .long (J q j'))).setSlot _ _) = _
    rw [arrV_store, hcl]
    congr 2
    funext x
    by_cases hxj : x = j
    · subst hxj
      simp [updV, al_up_s]
    · simp [updV, hxj, al_up_j hxj]
theorem S_zast (C : al_Cx F p l e s m args below meth c Rm cc nL own t fr lo n0 ne Q0) (hd : decode cc pc = .ok (.bastore, 1)) (h : al_Ok F k (pc + 1)) : al_Ok F (o_zast k) pc := by
  obtain ⟨rfl, hx, hb, hml, hown, hts, hlk, hSt, hfr, hlo, hce, hsl, hne, h90, hsz⟩ := C
  intro L st n R I J hk H locs ls h1 h2 hz hP hS hL
  match st, hk with
  | .int v :: .int i :: .ref q :: r, hk =>
    dsimp only [o_zast] at hk
    obtain ⟨len, hq, j, hj, hi, hv, hk⟩ := al_isA_of hk
    obtain ⟨hin, hcl⟩ := al_in_of hi hj (al_len_lt hq (Nat.le_trans h2 h90))
    obtain ⟨hqn, hsk⟩ := al_ark_of hq
    have ea := al_adp t hqn (Nat.le_trans h2 h90)
    show W p l e Rm s m args below meth c H locs _ _ Q0 (F0 m pc ls (.int v :: .int i :: .ref (al_ad t q) :: r.map (al_tr t)))
    rw [ea]
    refine W.zast hx hb (hP q _ (al_arr hq)) ((hSt.1.2 2 _ rfl).1 len (fun j => .int (I q j))) (fun q => by cases q) (by show ¬ (i < 0 ∨ (arrV _ _ _).slots.size ≤ _); rw [arrV_size]; exact hin) rfl rfl hd fun H1 e1 z oq => ?_
    refine h _ _ _ _ _ _ hk H1 _ ls h1 h2 (fun h9 => z.trans (hz h9)) (al_upd (R := R) (I := I) (J := J) hP hqn ?_ (fun x hx9 => ⟨rfl, al_up_row hx9, rfl⟩) oq) (hS.put z oq (Nat.le_add_right _ _)) hL
    rw [show narrow .boolean (.int v) = .int v from by rcases hv with rfl | rfl <;> rfl] at e1
    rw [al_cea hsk]
    show H1[th_b t + q]? = some (arrV (th_c t 2) len (fun j' => .int (al_up I q j v q j')))
    rw [e1]
    show some ((arrV (th_c t 2) len (fun j' => .int (I q j'))).setSlot _ _) = _
    rw [arrV_store, hcl]
    congr 2
    funext x
    by_cases hxj : x = j
    · subst hxj
      simp [updV, al_up_s]
    · simp [updV, hxj, al_up_j hxj]
theorem S_alen (C : al_Cx F p l e s m args below meth c Rm cc nL own t fr lo n0 ne Q0) {ak : Nat} {ty : FieldType} (hty : ∀ t : TH, (al_tys t)[ak]? = some (th_c t ak, ty)) (hd : decode cc pc = .ok (.arraylength, 1)) (h : al_Ok F k (pc + 1)) : al_Ok F (o_alen ak k) pc := by
  obtain ⟨rfl, hx, hb, hml, hown, hts, hlk, hSt, hfr, hlo, hce, hsl, hne, h90, hsz⟩ := C
  intro L st n R I J hk H locs ls h1 h2 hz hP hS hL
  match st, hk with
  | .ref q :: r, hk =>
    dsimp only [o_alen] at hk
    obtain ⟨len, hq, hk⟩ := al_isA_of hk
    have ea := al_adp t (al_ark_of hq).1 (Nat.le_trans h2 h90)
    show W p l e Rm s m args below meth c H locs _ _ Q0 (F0 m pc ls (.ref (al_ad t q) :: r.map (al_tr t)))
    rw [ea]
    exact va_alen (v := nI len) hx hb hSt.1 hP q ak (al_arr hq) (hty t) rfl hd (h _ _ _ _ _ _ hk H locs ls h1 h2 hz hP hS hL)
theorem S_mmax (C : al_Cx F p l e s m args below meth c Rm cc nL own t fr lo n0 ne Q0) {index : Nat} (hw : Cond.methodLink own index Lib.Math.max.name ∈ al_gt) (hw2 : Cond.static Lib.Math.max.name ∈ al_gt) (hw3 : Cond.initialized "java/lang/Math" ∈ al_gt) (hw4 : Cond.code Lib.Math.max.name Lib.Math.max.code 2 (some .int) ∈ al_gt) (hfr1 : 1 ≤ fr) (hlo1 : 21 ≤ lo) (hd : decode cc pc = .ok (.invokestatic index, 3)) (h : al_Ok F k (pc + 3)) : al_Ok F (o_mmax k) pc := by
  obtain ⟨rfl, hx, hb, hml, hown, hts, hlk, hSt, hfr, hlo, hce, hsl, hne, h90, hsz⟩ := C
  intro L st n R I J hk H locs ls h1 h2 hz hP hS hL
  match st, hk with
  | .int y :: .int x :: r, hk =>
    obtain ⟨h8, hk⟩ := al_r8_of hk
    exact va_mmax hx hb (by rw [hml]; exact hL.1.symm) hown (hts _ hw) (hts _ hw2) (hts _ hw3) (hts _ hw4) (by omega) (by rw [al_cs_eq]; omega) (by omega) (by have := al_sz_mono h1; have := al_sz_mono h2; omega) hd (h _ _ _ _ _ _ hk H locs ls h1 h2 hz hP hS hL)
theorem S_mmin (C : al_Cx F p l e s m args below meth c Rm cc nL own t fr lo n0 ne Q0) {index : Nat} (hw : Cond.methodLink own index Lib.Math.min.name ∈ al_gt) (hw2 : Cond.static Lib.Math.min.name ∈ al_gt) (hw3 : Cond.initialized "java/lang/Math" ∈ al_gt) (hw4 : Cond.code Lib.Math.min.name Lib.Math.min.code 2 (some .int) ∈ al_gt) (hfr1 : 1 ≤ fr) (hlo1 : 21 ≤ lo) (hd : decode cc pc = .ok (.invokestatic index, 3)) (h : al_Ok F k (pc + 3)) : al_Ok F (o_mmin k) pc := by
  obtain ⟨rfl, hx, hb, hml, hown, hts, hlk, hSt, hfr, hlo, hce, hsl, hne, h90, hsz⟩ := C
  intro L st n R I J hk H locs ls h1 h2 hz hP hS hL
  match st, hk with
  | .int y :: .int x :: r, hk =>
    obtain ⟨h8, hk⟩ := al_r8_of hk
    exact va_mmin hx hb (by rw [hml]; exact hL.1.symm) hown (hts _ hw) (hts _ hw2) (hts _ hw3) (hts _ hw4) (by omega) (by rw [al_cs_eq]; omega) (by omega) (by have := al_sz_mono h1; have := al_sz_mono h2; omega) hd (h _ _ _ _ _ _ hk H locs ls h1 h2 hz hP hS hL)
theorem S_mabs (C : al_Cx F p l e s m args below meth c Rm cc nL own t fr lo n0 ne Q0) {index : Nat} (hw : Cond.methodLink own index Lib.Math.abs.name ∈ al_gt) (hw2 : Cond.static Lib.Math.abs.name ∈ al_gt) (hw3 : Cond.initialized "java/lang/Math" ∈ al_gt) (hw4 : Cond.code Lib.Math.abs.name Lib.Math.abs.code 1 (some .int) ∈ al_gt) (hfr1 : 1 ≤ fr) (hlo1 : 21 ≤ lo) (hd : decode cc pc = .ok (.invokestatic index, 3)) (h : al_Ok F k (pc + 3)) : al_Ok F (o_mabs k) pc := by
  obtain ⟨rfl, hx, hb, hml, hown, hts, hlk, hSt, hfr, hlo, hce, hsl, hne, h90, hsz⟩ := C
  intro L st n R I J hk H locs ls h1 h2 hz hP hS hL
  match st, hk with
  | .int x :: r, hk =>
    obtain ⟨h8, hk⟩ := al_r8_of hk
    exact va_mabs hx hb (by rw [hml]; exact hL.1.symm) hown (hts _ hw) (hts _ hw2) (hts _ hw3) (hts _ hw4) (by omega) (by rw [al_cs_eq]; omega) (by omega) (by have := al_sz_mono h1; have := al_sz_mono h2; omega) hd (h _ _ _ _ _ _ hk H locs ls h1 h2 hz hP hS hL)
end ALB
end
section
/-! CONTRACTS AND CALLS -/
def al_post (t : TH) (Q : QT) (nn : Nat) : Array Value → State → Outcome → State → Prop := fun _ st oc s' => ∃ (v : Option Value) (R' : RR) (I' : II) (J' : JJ), oc = .returned (v.map (al_tr t)) ∧ Q v nn R' I' J' ∧ al_Wd t nn R' I' J' s' ∧ va_F (al_A t) st s'
/-- the contract of a method at abstract arguments and state: it returns, with Q of its answer and the state then; dn cells are new -/
def CT (μ : MD) (dn : Nat) (av : List Value) (n : Nat) (R : RR) (I : II) (J : JJ) (Q : QT) : Prop := ∀ (l : Launch) (t : TH),
  Met l μ.1 (Cond.code μ.1 μ.2.1 μ.2.2.1 μ.2.2.2.1 :: al_gt) { frames := μ.2.2.2.2.1, cells := dn, slots := al_sz (n + dn) - al_sz n, locals := μ.2.2.2.2.2 } (va_Pc (av.map (al_tr t)) (al_Wd t n R I J)) (al_post t Q (n + dn)) dn (al_sz (n + dn) - al_sz n) (al_A t)
theorem CT.mono {μ : MD} {dn : Nat} {av : List Value} {n : Nat} {R : RR} {I : II} {J : JJ} {Q Q' : QT} (h : CT μ dn av n R I J Q) (hQ : ∀ v R' I' J', Q v (n + dn) R' I' J' → Q' v (n + dn) R' I' J') : CT μ dn av n R I J Q' := by
  intro l t p e ha hc hk s m args below hf hsp hP hK
  obtain ⟨k, o, h1, h2, h3, ⟨⟨v, R', I', J', q1, q2, q3, q4⟩, h5⟩⟩ := h l t p e ha hc hk s m args below hf hsp hP hK
  exact ⟨k, o, h1, h2, h3, ⟨⟨v, R', I', J', q1, hQ _ _ _ _ q2, q3, q4⟩, h5⟩⟩
def al_pu (v : Option Value) (r : List Value) (K : List Value → Prop) : Prop := match v with
  | some x => K (x :: r)
  | none => K r
def al_hd (av : List Value) (K : Nat → Prop) : Prop := match av with
  | .ref q :: _ => K q
  | _ => False
/-- a call on an object of a known class; a static one; a constructor's -/
def o_cV (ci : Nat) (μ : MD) (na : Nat) (k : KT) : KT := fun L st n R I J => al_pop na st [] (fun av r => al_hd av (fun q => al_isC n q ci (al_r8 r (CT μ 0 av n R I J (fun v n' R' I' J' => al_pu v r (fun st' => k L st' n' R' I' J'))))))
def o_cS (μ : MD) (na : Nat) (k : KT) : KT := fun L st n R I J => al_pop na st [] (fun av r => al_r8 r (CT μ 0 av n R I J (fun v n' R' I' J' => al_pu v r (fun st' => k L st' n' R' I' J'))))
def o_cI (ne : Nat) (μ : MD) (dn na : Nat) (k : KT) : KT := fun L st n R I J => n + dn ≤ ne ∧ al_pop na st [] (fun av r => al_hd av (fun _ => al_r8 r (CT μ dn av n R I J (fun v n' R' I' J' => al_pu v r (fun st' => k L st' n' R' I' J')))))
/-- a call of a text's own method -/
def o_cT (μ : MD) (na : Nat) (k : KT) : KT := fun L st n R I J => al_pop na st [] (fun av r => al_hd av (fun q => (2000 ≤ q ∧ q < 2013) ∧ al_r8 r (CT μ 0 av n R I J (fun v n' R' I' J' => al_pu v r (fun st' => k L st' n' R' I' J')))))
/-- a call that the receiver's class decides: of the six laws (classes 0 Dear, 1 Free, 3 Law, 4 Old, 5 Outward, 6 Shared) -/
def o_cU (f : Nat → MD) (na : Nat) (k : KT) : KT := fun L st n R I J => al_pop na st [] (fun av r => al_hd av (fun q => al_rk (al_cls n q) (fun ci => (ci < 7 ∧ ci ≠ 2) ∧ al_r8 r (CT (f ci) 0 av n R I J (fun v n' R' I' J' => al_pu v r (fun st' => k L st' n' R' I' J'))))))
theorem al_hd_of {av : List Value} {K : Nat → Prop} (h : al_hd av K) : ∃ q As, av = .ref q :: As ∧ K q := by
  unfold al_hd at h
  match av, h with
  | .ref q :: As, h => exact ⟨q, As, rfl, h⟩
theorem al_blind (vs : List Value) (t : TH) (n : Nat) (R : RR) (I : II) (J : JJ) : FrameBlind (va_Pc vs (al_Wd t n R I J)) := by
  intro a U g mk h
  obtain ⟨h1, h2, h3, h4, h5⟩ := h
  exact ⟨h1, h2, h3, h4, al_St.same (s := U) rfl h5⟩
section ALC
variable {F : FT} {p : Program} {l : Launch} {e : Env} {s : State} {m : MethodId} {args : Array Value} {below : List Frame} {meth : Method} {c : Code} {Rm : Room} {cc : ByteArray} {nL : Nat} {own : String} {t : TH} {fr lo n0 ne : Nat} {Q0 : State → Prop} {k : KT} {pc : Nat}
theorem al_go {H : Heap} {locs : List Loc} {ls : Array Slot} {cells slots mc ms nn : Nat} {st0 rest : List Value} {Q : QT} {a9 : Array Value} (hr : va_Run p l e Rm s m args below meth c H locs cells slots mc ms (F0 m pc ls st0) rest (al_post t Q nn a9) (al_A t)) (hS : va_S (al_A t) s.heap H locs)
    (kk : ∀ (v : Option Value) (R' : RR) (I' : II) (J' : JJ) (H1 : Heap) (locs1 : List Loc), Q v nn R' I' J' → (nn < 90 → H1.size = th_b t + nn) → va_P (th_D t) vwCl (al_ws t nn R' I' J') H1 → va_S (al_A t) s.heap H1 locs1 → W p l e Rm s m args below meth c H1 locs1 (cells + mc) (slots + ms) Q0 (F0 m (pc + 3) ls ((v.map (al_tr t)).toList ++ rest))) : W p l e Rm s m args below meth c H locs cells slots Q0 (F0 m pc ls st0) := by
  intro T hT X
  obtain ⟨v, st₀, t', T', L, h0, X', hL, e1, e2, ⟨v', R', I', J', hv, hq, ⟨w1, w2, w3, w4⟩, hF1, hF2⟩, st⟩ := hr T hT X
  cases hv
  rw [h0] at hF1 hF2
  obtain ⟨t2, a1, b1⟩ := kk v' R' I' J' T'.heap (locs ++ L) hq (fun h => by rw [e1]; exact w1 h) (by rw [e1]; exact w3)
    ⟨Nat.le_trans hS.1 (by rw [e1]; exact hF1), fun q g1 g2 => by rw [e1, hF2 q (Nat.lt_of_lt_of_le g1 hS.1) g2]; exact hS.2.1 q g1 g2, fun q hq => by
      rcases List.mem_append.mp hq with h | h
      · exact hS.2.2 q h
      · exact hL q h⟩ T' rfl X'
  exact ⟨t2, st t2 a1, b1⟩
theorem al_pre {H : Heap} {locs : List Loc} {n : Nat} {R : RR} {I : II} {J : JJ} {vs : List Value} (hSt : al_St t s s.heap) (hsz : th_b t ≤ s.heap.size) (hz : n < 90 → H.size = th_b t + n) (hP : va_P (th_D t) vwCl (al_ws t n R I J) H) (hS : va_S (al_A t) s.heap H locs) : ∀ U : State, U.heap = H → s.WarmedH U.vm → va_Pc vs (al_Wd t n R I J) vs.toArray U := by
  intro U hU hW
  refine ⟨rfl, fun h => by rw [hU]; exact hz h, by rw [hU]; exact Nat.le_trans hsz hS.1, by rw [hU]; exact hP, ?_⟩
  rw [hU]
  exact (hSt.kept hS.2.1).warm hW
theorem al_pu_go {H1 : Heap} {locs1 : List Loc} {ls : Array Slot} {cells slots : Nat} {v : Option Value} {r : List Value} {K : List Value → Prop} (hk : al_pu v r K) (h : ∀ st', K st' → W p l e Rm s m args below meth c H1 locs1 cells slots Q0 (F0 m pc ls (st'.map (al_tr t)))) : W p l e Rm s m args below meth c H1 locs1 cells slots Q0 (F0 m pc ls ((v.map (al_tr t)).toList ++ r.map (al_tr t))) := by
  cases v with
  | none => exact h r hk
  | some x => exact h (x :: r) hk
/-- what the tables say of a method that is called on its own class's objects -/
def al_okV (μ : MD) (na : Nat) : Prop := Cond.code μ.1 μ.2.1 μ.2.2.1 μ.2.2.2.1 ∈ al_gt ∧ Cond.instanceMethod μ.1 ∈ al_gt ∧ Cond.selects μ.1.cls μ.1 μ.1 ∈ al_gt ∧ Cond.initialized μ.1.cls ∈ al_gt ∧ μ.1.cls ≠ "java/lang/invoke/MethodHandle" ∧ μ.1.cls ≠ "java/lang/invoke/VarHandle" ∧ (parseMethodDescriptor μ.1.desc).map (fun d => d.parameters.length) = some na
def al_okS (μ : MD) (na : Nat) : Prop := Cond.code μ.1 μ.2.1 μ.2.2.1 μ.2.2.2.1 ∈ al_gt ∧ Cond.static μ.1 ∈ al_gt ∧ Cond.initialized μ.1.cls ∈ al_gt ∧ μ.1.cls ≠ "java/lang/invoke/MethodHandle" ∧ μ.1.cls ≠ "java/lang/invoke/VarHandle" ∧ (parseMethodDescriptor μ.1.desc).map (fun d => d.parameters.length) = some na
def al_okI (μ : MD) (na : Nat) : Prop := Cond.code μ.1 μ.2.1 μ.2.2.1 μ.2.2.2.1 ∈ al_gt ∧ Cond.instanceMethod μ.1 ∈ al_gt ∧ Cond.initialized μ.1.cls ∈ al_gt ∧ μ.1.cls ≠ "java/lang/invoke/MethodHandle" ∧ μ.1.cls ≠ "java/lang/invoke/VarHandle" ∧ (parseMethodDescriptor μ.1.desc).map (fun d => d.parameters.length) = some na ∧ μ.1.name = "<init>" ∧ μ.2.2.2.1 = none
theorem al_wsub {μ : MD} (h : Cond.code μ.1 μ.2.1 μ.2.2.1 μ.2.2.2.1 ∈ al_gt) : ∀ w ∈ (Cond.code μ.1 μ.2.1 μ.2.2.1 μ.2.2.2.1 :: al_gt), w ∈ al_gt := fun w hw => by
  rcases List.mem_cons.mp hw with rfl | hw
  · exact h
  · exact hw
theorem S_cV (C : al_Cx F p l e s m args below meth c Rm cc nL own t fr lo n0 ne Q0) {μ : MD} {na index ci N : Nat} {T : u_T} (ok : al_okV μ na) (hc : vwCl[ci]? = some (μ.1.cls, T, N)) (hw : Cond.methodLink own index μ.1 ∈ al_gt) (hR1 : μ.2.2.2.2.1 + 1 ≤ fr) (hR2 : 8 + (μ.2.2.1 + 11) + μ.2.2.2.2.2 ≤ lo) (hd : decode cc pc = .ok (.invokevirtual index, 3)) (h : al_Ok F k (pc + 3)) : al_Ok F (o_cV ci μ (na + 1) k) pc := by
  obtain ⟨rfl, hx, hb, hml, hown, hts, hlk, hSt, hfr, hlo, hce, hsl, hne, h90, hsz⟩ := C
  intro L st n R I J hk H locs ls h1 h2 hz hP hS hL
  obtain ⟨as, r, rfl, hlen, hk⟩ := al_pop_of hk
  rw [List.append_nil] at hk
  obtain ⟨q, As, rfl, hk⟩ := al_hd_of hk
  obtain ⟨hq, hk⟩ := al_isC_of hk
  obtain ⟨h8, hk⟩ := al_r8_of hk
  have ea := al_adp t (al_cls_of hq).1 (Nat.le_trans h2 h90)
  obtain ⟨o1, o2, o3, o4, o5, o6, o7⟩ := ok
  have hrec := va_recv hSt.1 hP (ci := ci) (q0 := q) hc (al_obj hq)
  have hrun := va_runV (As := As.map (al_tr t)) (rest := r.map (al_tr t)) (b := al_ad t q) (g := F0 m pc ls (((Value.ref q :: As).reverse ++ r).map (al_tr t))) (R := Rm) (cells := n - n0) (slots := al_sz n - al_sz n0) (locs := locs) (H := H) (below := below) (meth := meth) (e := e) ⟨hx, hb, hml, hown, hts⟩ (hk l t) (cwV na hts (al_gi (fun w h9 => by
      unfold wsV at h9
      rcases List.mem_append.mp h9 with h9 | h9
      · simp only [List.mem_cons, List.not_mem_nil, or_false] at h9
        rcases h9 with rfl | rfl | rfl | rfl
        · exact hw
        · exact o2
        · exact o3
        · exact o4
      · exact al_wsub o1 w h9)) rfl rfl rfl ⟨rfl, o5, o6, o7⟩ ⟨Nat.le_trans hR1 hfr, Nat.le_trans hR2 hlo⟩) ⟨al_blind _ _ _ _ _ _, by rw [ea]; exact hrec, al_pre hSt hsz hz hP hS⟩ rfl (by simp at hlen ⊢; exact hlen) hL.1 (by simp [List.map_reverse]; rfl) (lv_room (by rw [al_cs_eq]; exact h8)) hd ⟨by show n - n0 + 0 ≤ _; omega, by
        have := al_sz_mono h1
        have := al_sz_mono h2
        show al_sz n - al_sz n0 + (al_sz (n + 0) - al_sz n) ≤ _
        rw [Nat.add_zero]
        omega⟩
  refine al_go hrun hS (fun v R' I' J' H1 locs1 hq9 hz9 hP9 hS9 => ?_)
  refine W.cs (cells' := n - n0) (slots' := al_sz n - al_sz n0) (Nat.add_zero _) (by rw [Nat.add_zero, Nat.sub_self, Nat.add_zero]) ?_
  exact al_pu_go hq9 (fun st' hk' => h _ _ _ _ _ _ hk' H1 locs1 ls h1 h2 hz9 hP9 hS9 hL)
theorem S_cS (C : al_Cx F p l e s m args below meth c Rm cc nL own t fr lo n0 ne Q0) {μ : MD} {na index : Nat} (ok : al_okS μ na) (hw : Cond.methodLink own index μ.1 ∈ al_gt) (hR1 : μ.2.2.2.2.1 + 1 ≤ fr) (hR2 : 8 + (μ.2.2.1 + 11) + μ.2.2.2.2.2 ≤ lo) (hd : decode cc pc = .ok (.invokestatic index, 3)) (h : al_Ok F k (pc + 3)) : al_Ok F (o_cS μ na k) pc := by
  obtain ⟨rfl, hx, hb, hml, hown, hts, hlk, hSt, hfr, hlo, hce, hsl, hne, h90, hsz⟩ := C
  intro L st n R I J hk H locs ls h1 h2 hz hP hS hL
  obtain ⟨as, r, rfl, hlen, hk⟩ := al_pop_of hk
  rw [List.append_nil] at hk
  obtain ⟨h8, hk⟩ := al_r8_of hk
  obtain ⟨o1, o2, o4, o5, o6, o7⟩ := ok
  have hrun := va_runS (As := as.map (al_tr t)) (rest := r.map (al_tr t)) (g := F0 m pc ls ((as.reverse ++ r).map (al_tr t))) (R := Rm) (cells := n - n0) (slots := al_sz n - al_sz n0) (locs := locs) (H := H) (below := below) (meth := meth) (e := e) ⟨hx, hb, hml, hown, hts⟩ (hk l t) (va_cwS na hts (al_gi (fun w h9 => by
      unfold va_wsS at h9
      rcases List.mem_append.mp h9 with h9 | h9
      · simp only [List.mem_cons, List.not_mem_nil, or_false] at h9
        rcases h9 with rfl | rfl | rfl
        · exact hw
        · exact o2
        · exact o4
      · exact al_wsub o1 w h9)) rfl rfl rfl ⟨o5, o6, o7⟩ ⟨Nat.le_trans hR1 hfr, Nat.le_trans hR2 hlo⟩) ⟨al_blind _ _ _ _ _ _, al_pre hSt hsz hz hP hS⟩ rfl (by simp; exact hlen) hL.1 (by simp [List.map_reverse]) (lv_room (by rw [al_cs_eq]; exact h8)) hd ⟨by show n - n0 + 0 ≤ _; omega, by
        have := al_sz_mono h1
        have := al_sz_mono h2
        show al_sz n - al_sz n0 + (al_sz (n + 0) - al_sz n) ≤ _
        rw [Nat.add_zero]
        omega⟩
  refine al_go hrun hS (fun v R' I' J' H1 locs1 hq9 hz9 hP9 hS9 => ?_)
  refine W.cs (cells' := n - n0) (slots' := al_sz n - al_sz n0) (Nat.add_zero _) (by rw [Nat.add_zero, Nat.sub_self, Nat.add_zero]) ?_
  exact al_pu_go hq9 (fun st' hk' => h _ _ _ _ _ _ hk' H1 locs1 ls h1 h2 hz9 hP9 hS9 hL)
theorem S_cI (C : al_Cx F p l e s m args below meth c Rm cc nL own t fr lo n0 ne Q0) {μ : MD} {na index dn : Nat} (ok : al_okI μ na) (hw : Cond.methodLink own index μ.1 ∈ al_gt) (hR1 : μ.2.2.2.2.1 + 1 ≤ fr) (hR2 : 8 + (μ.2.2.1 + 11) + μ.2.2.2.2.2 ≤ lo) (hd : decode cc pc = .ok (.invokespecial index, 3)) (h : al_Ok F k (pc + 3)) : al_Ok F (o_cI ne μ dn (na + 1) k) pc := by
  obtain ⟨rfl, hx, hb, hml, hown, hts, hlk, hSt, hfr, hlo, hce, hsl, hne, h90, hsz⟩ := C
  intro L st n R I J hk H locs ls h1 h2 hz hP hS hL
  obtain ⟨hdn, hk⟩ := hk
  obtain ⟨as, r, rfl, hlen, hk⟩ := al_pop_of hk
  rw [List.append_nil] at hk
  obtain ⟨q, As, rfl, hk⟩ := al_hd_of hk
  obtain ⟨h8, hk⟩ := al_r8_of hk
  obtain ⟨o1, o2, o4, o5, o6, o7, o8, o9⟩ := ok
  have m1 := al_sz_mono h1
  have m2 := al_sz_mono hdn
  have m3 := al_sz_mono (Nat.le_add_right n dn)
  have hrun := va_runI (As := As.map (al_tr t)) (rest := r.map (al_tr t)) (b := al_ad t q) (g := F0 m pc ls (((Value.ref q :: As).reverse ++ r).map (al_tr t))) (R := Rm) (cells := n - n0) (slots := al_sz n - al_sz n0) (locs := locs) (H := H) (below := below) (meth := meth) (e := e) ⟨hx, hb, hml, hown, hts⟩ (hk l t) (cwI na hts (al_gi (al_wsub o1)) (by rw [o9]) rfl rfl (hts _ o4) (hts _ hw) (hts _ o2) o8 ⟨o5, o6, o7⟩ ⟨Nat.le_trans hR1 hfr, Nat.le_trans hR2 hlo⟩) ⟨al_blind _ _ _ _ _ _, al_pre hSt hsz hz hP hS⟩ rfl (by simp at hlen ⊢; exact hlen) hL.1 (by simp [List.map_reverse]; rfl) (lv_room (by rw [al_cs_eq]; exact h8)) hd ⟨by omega, by omega⟩
  refine al_go hrun hS (fun v R' I' J' H1 locs1 hq9 hz9 hP9 hS9 => ?_)
  refine W.cs (cells' := n + dn - n0) (slots' := al_sz (n + dn) - al_sz n0) (by omega) (by omega) ?_
  exact al_pu_go hq9 (fun st' hk' => h _ _ _ _ _ _ hk' H1 locs1 ls (by omega) hdn hz9 hP9 hS9 hL)
/-! ends -/
theorem al_ret {Q : QT} {H : Heap} {locs : List Loc} {n : Nat} {R : RR} {I : II} {J : JJ} {v : Option Value} (hSt : al_St t s s.heap) (hsz : th_b t ≤ s.heap.size) (hz : n < 90 → H.size = th_b t + n) (hP : va_P (th_D t) vwCl (al_ws t n R I J) H) (hS : va_S (al_A t) s.heap H locs) (hk : Q v n R I J) : ∀ t' : State, t'.heap = H → s.WarmedH t'.vm → al_post t Q n args s (.returned (v.map (al_tr t))) t' := by
  intro t' ht hW
  refine ⟨v, R, I, J, rfl, hk, ⟨fun h => by rw [ht]; exact hz h, by rw [ht]; exact Nat.le_trans hsz hS.1, by rw [ht]; exact hP, ?_⟩, hS.F ht⟩
  rw [ht]
  exact (hSt.kept hS.2.1).warm hW
theorem S_iret (C : al_Cx F p l e s m args below meth c Rm cc nL own t fr lo ne ne Q0) {Q : QT} (hQ : Q0 = MQ below (al_post t Q ne) args s (ne - ne) (al_sz ne - al_sz ne) (al_A t)) (hr : meth.sig.returnType = some .int) (hd : decode cc pc = .ok (.ireturn, 1)) : al_Ok F (o_iret Q) pc := by
  obtain ⟨rfl, hx, hb, hml, hown, hts, hlk, hSt, hfr, hlo, hce, hsl, hne, h90, hsz⟩ := C
  intro L st n R I J hk H locs ls h1 h2 hz hP hS hL
  obtain rfl : n = ne := by omega
  match st, hk with
  | [.int v], hk =>
    rw [hQ]
    exact W.iret hx hb hr (al_ret (v := some (.int v)) hSt hsz hz hP hS hk) hS.2.2 hd hlk
theorem S_zret (C : al_Cx F p l e s m args below meth c Rm cc nL own t fr lo ne ne Q0) {Q : QT} (hQ : Q0 = MQ below (al_post t Q ne) args s (ne - ne) (al_sz ne - al_sz ne) (al_A t)) (hr : meth.sig.returnType = some .boolean) (hd : decode cc pc = .ok (.ireturn, 1)) : al_Ok F (o_zret Q) pc := by
  obtain ⟨rfl, hx, hb, hml, hown, hts, hlk, hSt, hfr, hlo, hce, hsl, hne, h90, hsz⟩ := C
  intro L st n R I J hk H locs ls h1 h2 hz hP hS hL
  obtain rfl : n = ne := by omega
  match st, hk with
  | [.int v], hk =>
    rw [hQ]
    obtain ⟨hv, hk⟩ := hk
    exact W.zret (ty := .boolean) hx hb hr (by rcases hv with rfl | rfl <;> rfl) (al_ret (v := some (.int v)) hSt hsz hz hP hS hk) hS.2.2 hd hlk
theorem S_lret (C : al_Cx F p l e s m args below meth c Rm cc nL own t fr lo ne ne Q0) {Q : QT} (hQ : Q0 = MQ below (al_post t Q ne) args s (ne - ne) (al_sz ne - al_sz ne) (al_A t)) (hr : meth.sig.returnType = some .long) (hd : decode cc pc = .ok (.lreturn, 1)) : al_Ok F (o_lret Q) pc := by
  obtain ⟨rfl, hx, hb, hml, hown, hts, hlk, hSt, hfr, hlo, hce, hsl, hne, h90, hsz⟩ := C
  intro L st n R I J hk H locs ls h1 h2 hz hP hS hL
  obtain rfl : n = ne := by omega
  match st, hk with
  | [.long v], hk =>
    rw [hQ]
    exact W.lret hx hb hr (al_ret (v := some (.long v)) hSt hsz hz hP hS hk) hS.2.2 hd hlk
theorem S_aret (C : al_Cx F p l e s m args below meth c Rm cc nL own t fr lo ne ne Q0) {Q : QT} {cn : String} (hQ : Q0 = MQ below (al_post t Q ne) args s (ne - ne) (al_sz ne - al_sz ne) (al_A t)) (hr : meth.sig.returnType = some (.object cn)) (hd : decode cc pc = .ok (.areturn, 1)) : al_Ok F (o_aret Q) pc := by
  obtain ⟨rfl, hx, hb, hml, hown, hts, hlk, hSt, hfr, hlo, hce, hsl, hne, h90, hsz⟩ := C
  intro L st n R I J hk H locs ls h1 h2 hz hP hS hL
  obtain rfl : n = ne := by omega
  match st, hk with
  | [.ref v], hk =>
    rw [hQ]
    exact W.aret hx hb hr (Or.inl ⟨_, rfl⟩) (Or.inr ⟨_, rfl⟩) (al_ret (v := some (.ref v)) hSt hsz hz hP hS hk) hS.2.2 hd hlk
theorem S_vret (C : al_Cx F p l e s m args below meth c Rm cc nL own t fr lo ne ne Q0) {Q : QT} (hQ : Q0 = MQ below (al_post t Q ne) args s (ne - ne) (al_sz ne - al_sz ne) (al_A t)) (hr : meth.sig.returnType = none) (hd : decode cc pc = .ok (.return_, 1)) : al_Ok F (o_vret Q) pc := by
  obtain ⟨rfl, hx, hb, hml, hown, hts, hlk, hSt, hfr, hlo, hce, hsl, hne, h90, hsz⟩ := C
  intro L st n R I J hk H locs ls h1 h2 hz hP hS hL
  obtain rfl : n = ne := by omega
  match st, hk with
  | [], hk =>
    rw [hQ]
    exact W.vret hx hb hr (al_ret (v := none) hSt hsz hz hP hS hk) hS.2.2 hd hlk
theorem S_cret (C : al_Cx F p l e s m args below meth c Rm cc nL own t fr lo n0 ne Q0) {Q : QT} (hQ : Q0 = MQ below (al_post t Q ne) args s (ne - n0) (al_sz ne - al_sz n0) (al_A t)) (hr : meth.sig.returnType = none) (hd : decode cc pc = .ok (.return_, 1)) : al_Ok F (o_cret ne Q) pc := by
  obtain ⟨rfl, hx, hb, hml, hown, hts, hlk, hSt, hfr, hlo, hce, hsl, hne, h90, hsz⟩ := C
  intro L st n R I J hk H locs ls h1 h2 hz hP hS hL
  match st, hk with
  | [], hk =>
    obtain ⟨e9, hk9⟩ := hk
    subst e9
    rw [hQ]
    exact W.vret hx hb hr (al_ret (v := none) hSt hsz hz hP hS hk9) hS.2.2 hd hlk
end ALC
/-- a method's contract out of a walk of its body; F is the machine at a place of the body -/
theorem CT.of {μ : MD} {dn : Nat} {av : List Value} {n : Nat} {R : RR} {I : II} {J : JJ} {Q : QT} {L : List (Option Value)} (hy : plainName μ.1.cls = true) (h90 : n + dn ≤ 90) (hL : ∀ t : TH, al_pr t 0 L = lv_args 0 (av.map (al_tr t))) (hlen : ∀ t : TH, (lg_sl (av.map (al_tr t))).length ≤ μ.2.2.1)
    (body : ∀ (F : FT) (p : Program) (l : Launch) (e : Env) (s : State) (m : MethodId) (args : Array Value) (below : List Frame) (meth : Method) (c : Code) (Rm : Room) (t : TH) (Q0 : State → Prop), al_Cx F p l e s m args below meth c Rm μ.2.1 μ.2.2.1 μ.1.cls t μ.2.2.2.2.1 μ.2.2.2.2.2 n (n + dn) Q0 → Q0 = MQ below (al_post t Q (n + dn)) args s (n + dn - n) (al_sz (n + dn) - al_sz n) (al_A t) → meth.sig.returnType = μ.2.2.2.1 → meth.name = μ.1.name → F 0 L [] n R I J) : CT μ dn av n R I J Q := by
  intro l t
  refine Met.ofW (cc := μ.2.1) (maxL := μ.2.2.1) (ret := μ.2.2.2.1) hy rfl ?_
  intro p e s m args below meth c s₁ B hml hv
  obtain ⟨rfl, hv1, hv2, hv3, hv4⟩ := hv
  have hts0 := atoms_spec (ws := Cond.code μ.1 μ.2.1 μ.2.2.1 μ.2.2.2.1 :: al_gt) B.pre
  have hb0 := body _ p l e s m _ below meth c ({ frames := μ.2.2.2.2.1, cells := dn, slots := al_sz (n + dn) - al_sz n, locals := μ.2.2.2.2.2 } : Room) t _ ⟨rfl, B.exec, B.bytes, hml, findClass_of_methodNamed B.named, fun w h => hts0 w (List.mem_cons_of_mem _ h), B.notSynchronized, hv4, Nat.le_refl _, Nat.le_refl _, by show n + dn - n ≤ dn; omega, Nat.le_refl _, Nat.le_add_right _ _, h90, hv2⟩ rfl B.returns (name_of_methodNamed B.named B.method).1
  have hl := lv_entry (av.map (al_tr t)) (n := μ.2.2.1) (hlen t)
  rw [lg_entry_eq]
  rw [← hL t] at hl
  have h9 := hb0 s.heap [] _ (Nat.le_refl _) (Nat.le_add_right _ _) hv1 hv3 va_S.rf hl
  rw [Nat.sub_self, Nat.sub_self, Nat.add_sub_cancel_left] at h9
  exact h9
end
section
def al_Wk (F : FT) : Prop := ∀ (pc : Nat) (L L' : List (Option Value)) (st : List Value) (n : Nat) (R : RR) (I : II) (J : JJ), al_le L' L → F pc L' st n R I J → F pc L st n R I J
def al_dv (y : Nat) : Value := match y with
  | 1 => .long 0
  | 2 => .null
  | _ => .int 0
/-- a call of a method of the class above, on any object of a known class -/
def o_cW (μ : MD) (na : Nat) (k : KT) : KT := fun L st n R I J => al_pop na st [] (fun av r => al_hd av (fun q => al_rk (al_cls n q) (fun ci => ci < 13 ∧ al_r8 r (CT μ 0 av n R I J (fun v n' R' I' J' => al_pu v r (fun st' => k L st' n' R' I' J'))))))
theorem al_ws_push {t : TH} {n : Nat} {R : RR} {I : II} {J : JJ} {H H1 : Heap} (hP : va_P (th_D t) vwCl (al_ws t n R I J) H) (hz : H.size = th_b t + n) (o1 : ∀ q : Nat, q < th_b t + n → H1[q]? = H[q]?) (hn : va_at (th_D t) vwCl (th_b t + n, al_ce t R I J n) H1) : va_P (th_D t) vwCl (al_ws t (n + 1) R I J) H1 := by
  intro k q hk
  obtain ⟨h1, rfl⟩ := al_ws_some hk
  by_cases h2 : k = n
  · subst h2
    exact hn
  · exact (hP k _ (al_ws_get t n R I J (by omega))).kept (o1 _ (by show th_b t + k < _; omega))
theorem al_cpy_row {α : Type} {f : Nat → Nat → α} {p q sp dp n x : Nat} (h : x ≠ q) : al_cpy f p q sp dp n x = f x := by
  funext j
  simp [al_cpy, h]
theorem al_cpy_at {α : Type} {f : Nat → Nat → α} {p q sp dp n : Nat} : al_cpy f p q sp dp n q = va_cpy (f p) (f q) sp dp n := by
  funext j
  simp [al_cpy, va_cpy]
theorem al_str_ad (t : TH) {v : Nat} (h : al_st v) : al_ad t v = th_K t (v - 2000) ∧ v - 2000 < 13 := by
  obtain ⟨h1, h2⟩ := h
  refine ⟨?_, by omega⟩
  unfold al_ad
  rw [if_neg (by omega), if_neg (by omega), if_pos (by omega)]
section ALD
variable {F : FT} {p : Program} {l : Launch} {e : Env} {s : State} {m : MethodId} {args : Array Value} {below : List Frame} {meth : Method} {c : Code} {Rm : Room} {cc : ByteArray} {nL : Nat} {own : String} {t : TH} {fr lo n0 ne : Nat} {Q0 : State → Prop} {k : KT} {pc : Nat}
theorem S_new (C : al_Cx F p l e s m args below meth c Rm cc nL own t fr lo n0 ne Q0) {Cn : String} {T : u_T} {N ci index : Nat} (hin : ∀ w ∈ u_ws Cn T N, w ∈ al_gt) (hc : vwCl[ci]? = some (Cn, T, N)) (hN : (al_ft ci).length = N) (ty : Nat → FieldType) (hty : ∀ k, k < N → parseFieldDescriptor (T k).2.2.1 = some (ty k)) (hdf : ∀ j, j < N → defaultValue (ty j) = al_dv ((al_ft ci).getD j 0)) (hw1 : Cond.classLink own index Cn ∈ al_gt) (hw2 : Cond.instantiable Cn N ∈ al_gt) (hw3 : Cond.initialized Cn ∈ al_gt) (hd : decode cc pc = .ok (.new index, 3)) (h : al_Ok F k (pc + 3)) : al_Ok F (o_new ne ci k) pc := by
  obtain ⟨rfl, hx, hb, hml, hown, hts, hlk, hSt, hfr, hlo, hce, hsl, hne, h90, hsz⟩ := C
  intro L st n R I J hk H locs ls h1 h2 hz hP hS hL
  obtain ⟨hlt, ⟨hsk, hR, hI, hJ⟩, hk⟩ := hk
  have hz := hz (by omega)
  have hKn := hSt.1.1 ci _ hc
  have m0 : al_sz (n + 1) = al_sz n + N := by
    show al_sz n + al_szp n = _
    simp only [al_szp, hsk, hN]
  have m1 := al_sz_mono h1
  have m2 := al_sz_mono (show n + 1 ≤ ne by omega)
  refine W.newcK hx hb hown (hts _ hw1) (hts _ hw2) (hts _ hw3) rfl hd (by omega) (by omega) hKn.2.1 hz fun H1 kC hkC e1 z1 o1 => ?_
  refine W.cs (cells' := n + 1 - n0) (slots' := al_sz (n + 1) - al_sz n0) (by omega) (by omega) ?_
  have ea : al_ad t n = th_b t + n := al_adp t (Nat.lt_succ_self n) (by omega)
  have h9 := h _ _ _ _ _ _ hk H1 locs ls (by omega) (by omega) (fun _ => by rw [z1]; omega) (al_ws_push hP hz o1 ?_) ⟨Nat.le_trans hS.1 (by omega), fun x g1 g2 => (o1 x (by have := hS.1; omega)).trans (hS.2.1 x g1 g2), hS.2.2⟩ hL
  · rw [List.map_cons] at h9
    show W p l e Rm s m args below meth c H1 locs _ _ Q0 (F0 m (pc + 3) ls (.ref (th_b t + n) :: st.map (al_tr t)))
    rw [← ea]
    exact h9
  · rw [al_ceo hsk]
    refine ⟨_, hc, (u_born ty hts hin hKn hkC e1 hty).to (fun j hj => ?_)⟩
    have hjl : j < (al_ft ci).length := by omega
    show defaultValue (ty j) = (al_fs t R I J n (al_ft ci) 0).getD j .null
    rw [hdf j hj, List.getD_eq_getElem?_getD, List.getD_eq_getElem?_getD, al_fs_get, List.getElem?_eq_getElem hjl]
    simp only [Option.getD_some, Option.map_some, Nat.zero_add]
    generalize (al_ft ci)[j] = y
    match y with
    | 0 => simp [al_dv, al_fv, hI]
    | 1 => simp [al_dv, al_fv, hJ]
    | 2 => simp [al_dv, al_fv, hR, va_rf]
    | y + 3 => simp [al_dv, al_fv, hI]
theorem al_newarr {H H1 : Heap} {locs : List Loc} {ls : Array Slot} {L : List (Option Value)} {st : List Value} {n d : Nat} {R : RR} {I : II} {J : JJ} {ak len : Nat} {f : Nat → Value} (hsk : al_sk n = .inr (ak, len)) (hz : H.size = th_b t + n) (h90 : ne ≤ 90) (h1 : n0 ≤ n) (hlt : n < ne) (hP : va_P (th_D t) vwCl (al_ws t n R I J) H) (hS : va_S (al_A t) s.heap H locs) (hL : al_rl t ls nL L) (z1 : H1.size = th_b t + n + 1) (o1 : ∀ q : Nat, q < th_b t + n → H1[q]? = H[q]?) (e1 : H1[th_b t + n]? = some (arrV (th_c t ak) len f)) (hv : vp_cell (th_c t ak) (al_ar t R I J n ak len) = arrV (th_c t ak) len f)
    (h9 : al_F p l e s m args below meth c Rm nL t n0 ne Q0 (pc + d) L (.ref n :: st) (n + 1) R I J) : W p l e Rm s m args below meth c H1 locs (n - n0 + 1) (al_sz n - al_sz n0 + len) Q0 (F0 m (pc + d) ls (.ref (th_b t + n) :: st.map (al_tr t))) := by
  have m0 : al_sz (n + 1) = al_sz n + len := by
    show al_sz n + al_szp n = _
    simp only [al_szp, hsk]
  have m1 := al_sz_mono h1
  have ea : al_ad t n = th_b t + n := al_adp t (Nat.lt_succ_self n) (by omega)
  have h8 := h9 H1 locs ls (by omega) (by omega) (fun _ => by rw [z1]; omega) (al_ws_push hP hz o1 (by rw [al_cea hsk]; show H1[th_b t + n]? = some (vp_cell _ _); rw [e1, hv])) ⟨Nat.le_trans hS.1 (by omega), fun x g1 g2 => (o1 x (by have := hS.1; omega)).trans (hS.2.1 x g1 g2), hS.2.2⟩ hL
  rw [List.map_cons] at h8
  refine W.cs (cells' := n + 1 - n0) (slots' := al_sz (n + 1) - al_sz n0) (by omega) (by omega) ?_
  rw [← ea]
  exact h8
theorem S_newa0 (C : al_Cx F p l e s m args below meth c Rm cc nL own t fr lo n0 ne Q0) {len : Nat} (hw : Cond.arrayClass .int ∈ al_gt) (hd : decode cc pc = .ok (.newarray .int, 2)) (h : al_Ok F k (pc + 2)) : al_Ok F (o_newa ne 0 len k) pc := by
  obtain ⟨rfl, hx, hb, hml, hown, hts, hlk, hSt, hfr, hlo, hce, hsl, hne, h90, hsz⟩ := C
  intro L st n R I J hk H locs ls h1 h2 hz hP hS hL
  match st, hk with
  | .int x :: r, hk =>
    obtain ⟨rfl, hlt, hsk, ⟨hR, hI, hJ⟩, hk⟩ := hk
    have hz := hz (by omega)
    have hl : len < 2 ^ 16 := by
      have h3 := (by decide +kernel : ∀ p, p < 90 → al_szp p < 2 ^ 16) n (by omega)
      simp only [al_szp, hsk] at h3
      exact h3
    have m0 : al_sz (n + 1) = al_sz n + len := by
      show al_sz n + al_szp n = _
      simp only [al_szp, hsk]
    have m1 := al_sz_mono h1
    have m2 := al_sz_mono (show n + 1 ≤ ne by omega)
    refine va_newaK (atype := .int) hx hb (hts _ hw) (g := F0 m pc ls (.int (nI len) :: r.map (al_tr t))) rfl hd rfl (nI_pos (by omega)) (nI_clamp (by omega)) (Nat.le_trans (Nat.mul_le_mul (Nat.le_of_lt hl) (by decide : componentBytes (newarray.typeOf .int) ≤ 8)) (by decide)) (by omega) (by omega) hz fun H1 cA e1 z1 o1 hAr hNm => ?_
    have hcA : cA = th_c t 0 := Option.some.inj (hNm.symm.trans (hSt.1.2 0 _ rfl).2)
    subst hcA
    exact al_newarr (d := 2) hsk hz h90 h1 hlt hP hS hL z1 o1 e1 (by
      rw [show al_ar t R I J n 0 len = (len, .inl (I n)) from rfl, vp_cell_i]
      congr 1
      funext j
      rw [hI]
      rfl) (h _ _ _ _ _ _ hk)
theorem S_newa1 (C : al_Cx F p l e s m args below meth c Rm cc nL own t fr lo n0 ne Q0) {len : Nat} (hw : Cond.arrayClass .long ∈ al_gt) (hd : decode cc pc = .ok (.newarray .long, 2)) (h : al_Ok F k (pc + 2)) : al_Ok F (o_newa ne 1 len k) pc := by
  obtain ⟨rfl, hx, hb, hml, hown, hts, hlk, hSt, hfr, hlo, hce, hsl, hne, h90, hsz⟩ := C
  intro L st n R I J hk H locs ls h1 h2 hz hP hS hL
  match st, hk with
  | .int x :: r, hk =>
    obtain ⟨rfl, hlt, hsk, ⟨hR, hI, hJ⟩, hk⟩ := hk
    have hz := hz (by omega)
    have hl : len < 2 ^ 16 := by
      have h3 := (by decide +kernel : ∀ p, p < 90 → al_szp p < 2 ^ 16) n (by omega)
      simp only [al_szp, hsk] at h3
      exact h3
    have m0 : al_sz (n + 1) = al_sz n + len := by
      show al_sz n + al_szp n = _
      simp only [al_szp, hsk]
    have m1 := al_sz_mono h1
    have m2 := al_sz_mono (show n + 1 ≤ ne by omega)
    refine va_newaK (atype := .long) hx hb (hts _ hw) (g := F0 m pc ls (.int (nI len) :: r.map (al_tr t))) rfl hd rfl (nI_pos (by omega)) (nI_clamp (by omega)) (Nat.le_trans (Nat.mul_le_mul (Nat.le_of_lt hl) (by decide : componentBytes (newarray.typeOf .long) ≤ 8)) (by decide)) (by omega) (by omega) hz fun H1 cA e1 z1 o1 hAr hNm => ?_
    have hcA : cA = th_c t 1 := Option.some.inj (hNm.symm.trans (hSt.1.2 1 _ rfl).2)
    subst hcA
    exact al_newarr (d := 2) hsk hz h90 h1 hlt hP hS hL z1 o1 e1 (by
      rw [show al_ar t R I J n 1 len = (len, .inr (.inl (J n))) from rfl, vp_cell_l]
      congr 1
      funext j
      rw [hJ]
      rfl) (h _ _ _ _ _ _ hk)
theorem S_newa2 (C : al_Cx F p l e s m args below meth c Rm cc nL own t fr lo n0 ne Q0) {len : Nat} (hw : Cond.arrayClass .boolean ∈ al_gt) (hd : decode cc pc = .ok (.newarray .boolean, 2)) (h : al_Ok F k (pc + 2)) : al_Ok F (o_newa ne 2 len k) pc := by
  obtain ⟨rfl, hx, hb, hml, hown, hts, hlk, hSt, hfr, hlo, hce, hsl, hne, h90, hsz⟩ := C
  intro L st n R I J hk H locs ls h1 h2 hz hP hS hL
  match st, hk with
  | .int x :: r, hk =>
    obtain ⟨rfl, hlt, hsk, ⟨hR, hI, hJ⟩, hk⟩ := hk
    have hz := hz (by omega)
    have hl : len < 2 ^ 16 := by
      have h3 := (by decide +kernel : ∀ p, p < 90 → al_szp p < 2 ^ 16) n (by omega)
      simp only [al_szp, hsk] at h3
      exact h3
    have m0 : al_sz (n + 1) = al_sz n + len := by
      show al_sz n + al_szp n = _
      simp only [al_szp, hsk]
    have m1 := al_sz_mono h1
    have m2 := al_sz_mono (show n + 1 ≤ ne by omega)
    refine va_newaK (atype := .boolean) hx hb (hts _ hw) (g := F0 m pc ls (.int (nI len) :: r.map (al_tr t))) rfl hd rfl (nI_pos (by omega)) (nI_clamp (by omega)) (Nat.le_trans (Nat.mul_le_mul (Nat.le_of_lt hl) (by decide : componentBytes (newarray.typeOf .boolean) ≤ 8)) (by decide)) (by omega) (by omega) hz fun H1 cA e1 z1 o1 hAr hNm => ?_
    have hcA : cA = th_c t 2 := Option.some.inj (hNm.symm.trans (hSt.1.2 2 _ rfl).2)
    subst hcA
    exact al_newarr (d := 2) hsk hz h90 h1 hlt hP hS hL z1 o1 e1 (by
      rw [show al_ar t R I J n 2 len = (len, .inl (I n)) from rfl, vp_cell_i]
      congr 1
      funext j
      rw [hI]
      rfl) (h _ _ _ _ _ _ hk)
theorem S_anewa (C : al_Cx F p l e s m args below meth c Rm cc nL own t fr lo n0 ne Q0) {ak len index : Nat} {Cn : String} (hak : ∀ (t : TH) (R : RR) (I : II) (J : JJ) (q len : Nat), al_ar t R I J q ak len = (len, .inr (.inr (.inr (.inr (fun j => (R q j).map (al_ad t))))))) (hty : ∀ t : TH, (al_tys t)[ak]? = some (th_c t ak, .object Cn)) (hw1 : Cond.classLink own index Cn ∈ al_gt) (hw2 : Cond.arrayOver (.object Cn) ∈ al_gt) (hd : decode cc pc = .ok (.anewarray index, 3)) (h : al_Ok F k (pc + 3)) : al_Ok F (o_newa ne ak len k) pc := by
  obtain ⟨rfl, hx, hb, hml, hown, hts, hlk, hSt, hfr, hlo, hce, hsl, hne, h90, hsz⟩ := C
  intro L st n R I J hk H locs ls h1 h2 hz hP hS hL
  match st, hk with
  | .int x :: r, hk =>
    obtain ⟨rfl, hlt, hsk, ⟨hR, hI, hJ⟩, hk⟩ := hk
    have hz := hz (by omega)
    have hl : len < 2 ^ 16 := by
      have h3 := (by decide +kernel : ∀ p, p < 90 → al_szp p < 2 ^ 16) n (by omega)
      simp only [al_szp, hsk] at h3
      exact h3
    have hcl : (nI len).toNatClampNeg = len := nI_clamp (by omega)
    have m0 : al_sz (n + 1) = al_sz n + len := by
      show al_sz n + al_szp n = _
      simp only [al_szp, hsk]
    have m1 := al_sz_mono h1
    have m2 := al_sz_mono (show n + 1 ≤ ne by omega)
    refine W.anew hx hb hown (hts _ hw1) (hts _ hw2) (g := F0 m pc ls (.int (nI len) :: r.map (al_tr t))) rfl hd rfl (nI_pos (by omega)) (by rw [hcl]; omega) (by omega) (by rw [hcl]; omega) fun cA kA comp g1 g2 g3 g4 => ?_
    obtain ⟨kA', comp', q1, q2, q3, q4⟩ := (hSt.1.2 ak _ (hty t)).2
    have hcA : cA = th_c t ak := Option.some.inj (g1.symm.trans q4)
    subst hcA
    rw [hcl, hz, arrV_new]
    exact al_newarr (d := 3) (f := fun _ => .null) hsk hz h90 h1 hlt hP hS hL (by simp [hz]) (fun q hq => by rw [Array.getElem?_push, if_neg (by omega)]) (by rw [Array.getElem?_push, if_pos hz.symm]) (by
      rw [hak, vp_cell_q]
      congr 1
      funext j
      simp [hR, va_rf]) (h _ _ _ _ _ _ hk)
/-- a reference is stored in an array of references -/
theorem al_aast {H : Heap} {locs : List Loc} {ls : Array Slot} {cells slots n : Nat} {R : RR} {I : II} {J : JJ} {rest : List Value} {ak len q j v : Nat} {i : Int32} {Cn : String} (hx : p.tables.exec = Jvm.exec) (hb : c.code = cc) (hak : ∀ (t : TH) (R : RR) (I : II) (J : JJ) (q len : Nat), al_ar t R I J q ak len = (len, .inr (.inr (.inr (.inr (fun j => (R q j).map (al_ad t))))))) (hty : ∀ t : TH, (al_tys t)[ak]? = some (th_c t ak, .object Cn)) (hK : va_K (th_D t) vwCl (al_tys t) s) (hP : va_P (th_D t) vwCl (al_ws t n R I J) H) (hS : va_S (al_A t) s.heap H locs) (hq : al_ark n q = some (ak, len)) (hn : n ≤ 90) (hj : j < len) (hi : i = nI j) (hany : va_Any Cn s H (al_ad t v)) (hd : decode cc pc = .ok (.aastore, 1))
    (kk : ∀ (H1 : Heap) (locs1 : List Loc), H1.size = H.size → va_P (th_D t) vwCl (al_ws t n (al_up R q j (some v)) I J) H1 → va_S (al_A t) s.heap H1 locs1 → W p l e Rm s m args below meth c H1 locs1 cells slots Q0 (F0 m (pc + 1) ls rest)) : W p l e Rm s m args below meth c H locs cells slots Q0 (F0 m pc ls (.ref (al_ad t v) :: .int i :: .ref (th_b t + q) :: rest)) := by
  obtain ⟨hqn, hsk⟩ := al_ark_of hq
  obtain ⟨hin, hcl⟩ := al_in_of hi hj (al_len_lt hq hn)
  have hlt : i.toNatClampNeg < len := by omega
  have h0 : ¬ i < 0 := fun q => hin (Or.inl q)
  obtain ⟨cellV, g1, g3, ⟨kC, hkC⟩, hasg⟩ := hany
  obtain ⟨kA, comp, k1, k2, k3, -⟩ := (hK.2 ak _ (hty t)).2
  obtain ⟨kE, hkE, -⟩ := Vm.findClass_spec k3
  have har := al_arr (t := t) (R := R) (I := I) (J := J) hq
  rw [hak] at har
  refine W.aast hx hb (hP q _ har) (fun q h => by cases h) (fun h => by cases h) k1 k2 rfl hkE ⟨h0, by show _ < (arrV _ _ _).slots.size; rw [arrV_size]; exact hlt⟩ g1 (fun q h => by rw [h] at g3; cases g3) hkC (hasg _ k3) rfl rfl hd fun H1 e z oq => ?_
  refine kk H1 _ z (al_upd (R := R) (I := I) (J := J) hP hqn ?_ (fun x hx9 => ⟨al_up_row hx9, rfl, rfl⟩) oq) (hS.put z oq (Nat.le_add_right _ _))
  rw [al_cea hsk, hak]
  show H1[th_b t + q]? = some (vp_cell _ _)
  rw [e]
  show some ((arrV (th_c t ak) len (fun j' => va_rf ((R q j').map (al_ad t)))).setSlot _ _) = _
  rw [vp_cell_q, arrV_store, hcl]
  congr 2
  funext x
  by_cases hxj : x = j
  · subst hxj
    simp [updV, al_up_s, va_rf]
  · simp [updV, hxj, al_up_j hxj]
theorem S_aast (C : al_Cx F p l e s m args below meth c Rm cc nL own t fr lo n0 ne Q0) {ak ci N : Nat} {Cn Cv : String} {T : u_T} (hak : ∀ (t : TH) (R : RR) (I : II) (J : JJ) (q len : Nat), al_ar t R I J q ak len = (len, .inr (.inr (.inr (.inr (fun j => (R q j).map (al_ad t))))))) (hty : ∀ t : TH, (al_tys t)[ak]? = some (th_c t ak, .object Cn)) (hc : vwCl[ci]? = some (Cv, T, N)) (hasg : (∀ w ∈ al_gt, w.before args s = true) → ∀ comp c0 : ClassId, s.vm.findClass Cn = some comp → s.vm.findClass Cv = some c0 → s.vm.assignable c0 comp = true) (hd : decode cc pc = .ok (.aastore, 1)) (h : al_Ok F k (pc + 1)) : al_Ok F (o_aast ak ci k) pc := by
  obtain ⟨rfl, hx, hb, hml, hown, hts, hlk, hSt, hfr, hlo, hce, hsl, hne, h90, hsz⟩ := C
  intro L st n R I J hk H locs ls h1 h2 hz hP hS hL
  match st, hk with
  | .ref v :: .int i :: .ref q :: r, hk =>
    dsimp only [o_aast] at hk
    obtain ⟨len, hq, j, hj, hi, hk⟩ := al_isA_of hk
    obtain ⟨hv, hk⟩ := al_isC_of hk
    have ea := al_adp t (al_ark_of hq).1 (Nat.le_trans h2 h90)
    have ev := al_adp t (al_cls_of hv).1 (Nat.le_trans h2 h90)
    show W p l e Rm s m args below meth c H locs _ _ Q0 (F0 m pc ls (.ref (al_ad t v) :: .int i :: .ref (al_ad t q) :: r.map (al_tr t)))
    rw [ea]
    exact al_aast hx hb hak hty hSt.1 hP hS hq (Nat.le_trans h2 h90) hj hi (by rw [ev]; exact va_rAny hSt.1 hP (al_obj hv) hc (hasg hts)) hd (fun H1 locs1 z hP hS => h _ _ _ _ _ _ hk H1 locs1 ls h1 h2 (fun h9 => z.trans (hz h9)) hP hS hL)
theorem S_sast (C : al_Cx F p l e s m args below meth c Rm cc nL own t fr lo n0 ne Q0) (hd : decode cc pc = .ok (.aastore, 1)) (h : al_Ok F k (pc + 1)) : al_Ok F (o_sast k) pc := by
  obtain ⟨rfl, hx, hb, hml, hown, hts, hlk, hSt, hfr, hlo, hce, hsl, hne, h90, hsz⟩ := C
  intro L st n R I J hk H locs ls h1 h2 hz hP hS hL
  match st, hk with
  | .ref v :: .int i :: .ref q :: r, hk =>
    dsimp only [o_sast] at hk
    obtain ⟨len, hq, j, hj, hi, hv, hk⟩ := al_isA_of hk
    obtain ⟨ev, hv13⟩ := al_str_ad t hv
    have ea := al_adp t (al_ark_of hq).1 (Nat.le_trans h2 h90)
    show W p l e Rm s m args below meth c H locs _ _ Q0 (F0 m pc ls (.ref (al_ad t v) :: .int i :: .ref (al_ad t q) :: r.map (al_tr t)))
    rw [ea]
    refine al_aast hx hb (fun _ _ _ _ _ _ => rfl) (fun _ => rfl) hSt.1 hP hS hq (Nat.le_trans h2 h90) hj hi ?_ hd (fun H1 locs1 z hP hS => h _ _ _ _ _ _ hk H1 locs1 ls h1 h2 (fun h9 => z.trans (hz h9)) hP hS hL)
    rw [ev]
    obtain ⟨cell, c1, c2, c3, -⟩ := (hSt.2.1 _ hv13).1.kept hS.2.1
    obtain ⟨kC, hkC, -⟩ := Vm.findClass_spec c3
    exact ⟨cell, c1, c2, ⟨kC, hkC⟩, fun comp hcomp => by rw [Option.some.inj (hcomp.symm.trans c3)]; exact va_asg _ _⟩
theorem S_oinit (C : al_Cx F p l e s m args below meth c Rm cc nL own t fr lo n0 ne Q0) {index : Nat} (hw1 : Cond.methodLink own index Lib.objectInit ∈ al_gt) (hw2 : Cond.instanceMethod Lib.objectInit ∈ al_gt) (hw3 : Cond.code Lib.objectInit ⟨#[0xb1]⟩ 1 none ∈ al_gt) (hfr1 : 1 ≤ fr) (hlo1 : 20 ≤ lo) (hd : decode cc pc = .ok (.invokespecial index, 3)) (h : al_Ok F k (pc + 3)) : al_Ok F (o_oinit k) pc := by
  obtain ⟨rfl, hx, hb, hml, hown, hts, hlk, hSt, hfr, hlo, hce, hsl, hne, h90, hsz⟩ := C
  intro L st n R I J hk H locs ls h1 h2 hz hP hS hL
  match st, hk with
  | .ref v :: r, hk =>
    obtain ⟨h8, hk⟩ := al_r8_of hk
    exact W.objInit hx hb hown (hts _ hw1) (hts _ hw2) (hts _ hw3) (g := F0 m pc ls (.ref (al_ad t v) :: r.map (al_tr t))) rfl (by rw [hml]; exact hL.1) rfl hd (by omega) (by have := lv_room (m := m) (pc := pc) (ls := ls) (rest := []) (st := r.map (al_tr t)) (by rw [al_cs_eq]; exact h8); show 2 * 0 + _ + 12 ≤ _; rw [al_cs_eq]; omega) (h _ _ _ _ _ _ hk H locs ls h1 h2 hz hP hS hL)
theorem al_tsw_of : ∀ {ks : List KT} {a x : Int32} {d : KT} {L : List (Option Value)} {r : List Value} {n : Nat} {R : RR} {I : II} {J : JJ}, o_tsw a ks d L (.int x :: r) n R I J → (∃ (i : Nat) (k0 : KT), ks[i]? = some k0 ∧ x = a + nI i ∧ k0 L r n R I J) ∨ ((∀ i, i < ks.length → ¬ x = a + nI i) ∧ d L r n R I J)
  | [], a, x, d, L, r, n, R, I, J, h => Or.inr ⟨fun i hi => absurd hi (by simp), h⟩
  | k0 :: ks, a, x, d, L, r, n, R, I, J, h => by
    by_cases hx : x = a
    · exact Or.inl ⟨0, k0, rfl, by rw [nI_0, Int32.add_zero]; exact hx, h.1 hx⟩
    · rcases al_tsw_of (h.2 hx) with ⟨i, k1, g1, g2, g3⟩ | ⟨g1, g2⟩
      · exact Or.inl ⟨i + 1, k1, by rw [List.getElem?_cons_succ]; exact g1, by rw [g2, nI_succ, Int32.add_assoc, Int32.add_comm 1 (nI i)], g3⟩
      · refine Or.inr ⟨fun i hi => ?_, g2⟩
        cases i with
        | zero => rw [nI_0, Int32.add_zero]; exact hx
        | succ i => rw [nI_succ, Int32.add_comm (nI i) 1, ← Int32.add_assoc]; exact g1 i (by simpa using hi)
theorem S_tsw (C : al_Cx F p l e s m args below meth c Rm cc nL own t fr lo n0 ne Q0) {dflt lo1 hi1 : Int} {offs : Array Int} {len lo0 d : Nat} {tg : List Nat} (hd : decode cc pc = .ok (.tableswitch dflt lo1 hi1 offs, len)) (hlo0 : lo1 = (lo0 : Int)) (hhi : hi1 + 1 = (lo0 + tg.length : Nat)) (ho : offs.toList = tg.map (fun x : Nat => (x : Int) - (pc : Int))) (hdf : (pc : Int) + dflt = (d : Int)) (hbig : lo0 + tg.length < 1000) : al_Ok F (o_tsw (nI lo0) (tg.map F) (F d)) pc := by
  obtain ⟨rfl, hx, hb, hml, hown, hts, hlk, hSt, hfr, hlo, hce, hsl, hne, h90, hsz⟩ := C
  intro L st n R I J hk H locs ls h1 h2 hz hP hS hL
  match st, hk with
  | [], hk => cases tg <;> exact hk.elim
  | .long x :: r, hk => cases tg <;> exact hk.elim
  | .float x :: r, hk => cases tg <;> exact hk.elim
  | .double x :: r, hk => cases tg <;> exact hk.elim
  | .null :: r, hk => cases tg <;> exact hk.elim
  | .ref x :: r, hk => cases tg <;> exact hk.elim
  | .retAddr x :: r, hk => cases tg <;> exact hk.elim
  | .int x :: r, hk =>
    rcases al_tsw_of hk with ⟨i, k0, g1, g2, g3⟩ | ⟨g1, g3⟩
    · rw [List.getElem?_map] at g1
      cases hti : tg[i]? with
      | none => rw [hti] at g1; cases g1
      | some tt =>
        rw [hti] at g1
        cases g1
        have hil : i < tg.length := (List.getElem?_eq_some_iff.mp hti).1
        have hxv : x.toInt = ((lo0 + i : Nat) : Int) := by
          rw [g2, nI_add, nI_toInt (by omega)]
        refine lv_tableIn (off := (tt : Int) - (pc : Int)) (tgt := tt) hx hb hd (by rw [hxv]; omega) (by rw [hxv]; omega) ?_ (by omega) (g3 H locs ls h1 h2 hz hP hS hL)
        rw [← Array.getElem?_toList, ho, List.getElem?_map, show (x.toInt - lo1).toNat = i by rw [hxv]; omega, hti]
        rfl
    · refine lv_tableOut (tgt := d) hx hb hd ?_ hdf (g3 H locs ls h1 h2 hz hP hS hL)
      by_cases q1 : x.toInt < lo1
      · exact Or.inl q1
      · by_cases q2 : hi1 < x.toInt
        · exact Or.inr q2
        · exfalso
          have e1 : x = nI x.toInt.toNat := by
            rw [← Int32.toInt_inj, nI_toInt (by omega)]
            omega
          refine g1 (x.toInt.toNat - lo0) (by rw [List.length_map]; omega) ?_
          rw [nI_add, show lo0 + (x.toInt.toNat - lo0) = x.toInt.toNat by omega]
          exact e1
theorem S_cpyI (C : al_Cx F p l e s m args below meth c Rm cc nL own t fr lo n0 ne Q0) {index : Nat} (hn90 : n0 = 90) (hw : Cond.methodLink own index arraycopyName ∈ al_gt) (hw2 : Cond.native arraycopyName ∈ al_gt) (hw3 : Cond.static arraycopyName ∈ al_gt) (hw4 : Cond.initialized "java/lang/System" ∈ al_gt) (hfr1 : 1 ≤ fr) (hlo1 : 26 ≤ lo) (hd : decode cc pc = .ok (.invokestatic index, 3)) (h : al_Ok F k (pc + 3)) : al_Ok F (o_cpyI k) pc := by
  obtain ⟨rfl, hx, hb, hml, hown, hts, hlk, hSt, hfr, hlo, hce, hsl, hne, h90, hsz⟩ := C
  intro L st n R I J hk H locs ls h1 h2 hz hP hS hL
  match st, hk with
  | .int cn :: .int dpn :: .ref q :: .int spn :: .ref q0 :: r, hk =>
    dsimp only [o_cpyI] at hk
    obtain ⟨h8, hk⟩ := al_r8_of hk
    obtain ⟨len, hq0, hk⟩ := al_isA_of hk
    obtain ⟨len2, hq, c0, dp, sp, rfl, rfl, rfl, b1, b2, hk⟩ := al_isA_of hk
    have hl1 := al_len_lt hq0 (Nat.le_trans h2 h90)
    have hl2 := al_len_lt hq (Nat.le_trans h2 h90)
    obtain ⟨hqn, hsk⟩ := al_ark_of hq
    have ea := al_adp t hqn (Nat.le_trans h2 h90)
    have ea0 := al_adp t (al_ark_of hq0).1 (Nat.le_trans h2 h90)
    show W p l e Rm s m args below meth c H locs _ _ Q0 (F0 m pc ls (.int (nI c0) :: .int (nI dp) :: .ref (al_ad t q) :: .int (nI sp) :: .ref (al_ad t q0) :: r.map (al_tr t)))
    rw [ea, ea0]
    have ec : (nI c0).toNatClampNeg = c0 := nI_clamp (by omega)
    have ed : (nI dp).toNatClampNeg = dp := nI_clamp (by omega)
    have es : (nI sp).toNatClampNeg = sp := nI_clamp (by omega)
    refine va_copyi (ty := .int) hx hb (by rw [hml]; exact hL.1.symm) hown (hts _ hw) (hts _ hw2) (hts _ hw3) (hts _ hw4) hSt.1 hP (al_ws_D t n R I J) hS q0 q 0 0 (al_arr hq0) (al_arr hq) rfl rfl rfl (nI_pos (by omega)) (nI_pos (by omega)) (nI_pos (by omega)) (by rw [ec, es]; exact b1) (by rw [ec, ed]; exact b2) (fun _ _ => rfl) (by omega) (by rw [al_cs_eq, (by decide +kernel : nativeFrameWords "java/lang/System" "arraycopy" 5 = 7)]; omega) hd (fun H1 locs1 hP1 _ hS1 => ?_)
    rw [ec, ed, es] at hP1
    refine h _ _ _ _ _ _ hk H1 locs1 ls h1 h2 (fun h9 => absurd h9 (by omega)) ?_ hS1 hL
    rw [← al_ws_set (R := R) (I := I) (J := J) (x := (.inl (th_c t 0, len2, .inl (va_cpy (I q0) (I q) sp dp c0)))) hqn ?_ ?_]
    · exact hP1
    · rw [al_cea hsk]
      show Sum.inl (th_c t 0, al_ar t R (al_cpy I q0 q sp dp c0) (J) q 0 len2) = _
      simp only [al_ar, al_cpy_at]
    · intro x hx9
      exact al_ce_eq rfl (al_cpy_row hx9) rfl
theorem S_cpyJ (C : al_Cx F p l e s m args below meth c Rm cc nL own t fr lo n0 ne Q0) {index : Nat} (hn90 : n0 = 90) (hw : Cond.methodLink own index arraycopyName ∈ al_gt) (hw2 : Cond.native arraycopyName ∈ al_gt) (hw3 : Cond.static arraycopyName ∈ al_gt) (hw4 : Cond.initialized "java/lang/System" ∈ al_gt) (hfr1 : 1 ≤ fr) (hlo1 : 26 ≤ lo) (hd : decode cc pc = .ok (.invokestatic index, 3)) (h : al_Ok F k (pc + 3)) : al_Ok F (o_cpyJ k) pc := by
  obtain ⟨rfl, hx, hb, hml, hown, hts, hlk, hSt, hfr, hlo, hce, hsl, hne, h90, hsz⟩ := C
  intro L st n R I J hk H locs ls h1 h2 hz hP hS hL
  match st, hk with
  | .int cn :: .int dpn :: .ref q :: .int spn :: .ref q0 :: r, hk =>
    dsimp only [o_cpyJ] at hk
    obtain ⟨h8, hk⟩ := al_r8_of hk
    obtain ⟨len, hq0, hk⟩ := al_isA_of hk
    obtain ⟨len2, hq, c0, dp, sp, rfl, rfl, rfl, b1, b2, hk⟩ := al_isA_of hk
    have hl1 := al_len_lt hq0 (Nat.le_trans h2 h90)
    have hl2 := al_len_lt hq (Nat.le_trans h2 h90)
    obtain ⟨hqn, hsk⟩ := al_ark_of hq
    have ea := al_adp t hqn (Nat.le_trans h2 h90)
    have ea0 := al_adp t (al_ark_of hq0).1 (Nat.le_trans h2 h90)
    show W p l e Rm s m args below meth c H locs _ _ Q0 (F0 m pc ls (.int (nI c0) :: .int (nI dp) :: .ref (al_ad t q) :: .int (nI sp) :: .ref (al_ad t q0) :: r.map (al_tr t)))
    rw [ea, ea0]
    have ec : (nI c0).toNatClampNeg = c0 := nI_clamp (by omega)
    have ed : (nI dp).toNatClampNeg = dp := nI_clamp (by omega)
    have es : (nI sp).toNatClampNeg = sp := nI_clamp (by omega)
    refine va_copyl (ty := .long) hx hb (by rw [hml]; exact hL.1.symm) hown (hts _ hw) (hts _ hw2) (hts _ hw3) (hts _ hw4) hSt.1 hP (al_ws_D t n R I J) hS q0 q 1 1 (al_arr hq0) (al_arr hq) rfl rfl rfl (nI_pos (by omega)) (nI_pos (by omega)) (nI_pos (by omega)) (by rw [ec, es]; exact b1) (by rw [ec, ed]; exact b2) (fun _ _ => rfl) (by omega) (by rw [al_cs_eq, (by decide +kernel : nativeFrameWords "java/lang/System" "arraycopy" 5 = 7)]; omega) hd (fun H1 locs1 hP1 _ hS1 => ?_)
    rw [ec, ed, es] at hP1
    refine h _ _ _ _ _ _ hk H1 locs1 ls h1 h2 (fun h9 => absurd h9 (by omega)) ?_ hS1 hL
    rw [← al_ws_set (R := R) (I := I) (J := J) (x := (.inl (th_c t 1, len2, .inr (.inl (va_cpy (J q0) (J q) sp dp c0))))) hqn ?_ ?_]
    · exact hP1
    · rw [al_cea hsk]
      show Sum.inl (th_c t 1, al_ar t R (I) (al_cpy J q0 q sp dp c0) q 1 len2) = _
      simp only [al_ar, al_cpy_at]
    · intro x hx9
      exact al_ce_eq rfl rfl (al_cpy_row hx9)
end ALD
end
section
/-! CALLS THAT A CLASS DECIDES, OF THE CLASS ABOVE, OF A STRING; THE SCRIPT -/
theorem al_cls13 : ∀ ci, ci < 13 → ∃ r, vwCl[ci]? = some r := fun ci h => ⟨_, List.getElem?_eq_getElem (show ci < vwCl.length from h)⟩
section ALE
variable {F : FT} {p : Program} {l : Launch} {e : Env} {s : State} {m : MethodId} {args : Array Value} {below : List Frame} {meth : Method} {c : Code} {Rm : Room} {cc : ByteArray} {nL : Nat} {own : String} {t : TH} {fr lo n0 ne : Nat} {Q0 : State → Prop} {k : KT} {pc : Nat}
/-- what the tables say of a law's own method, called as the first law's -/
def al_okU (x : MethodName) (μ : MD) (Cv : String) (na : Nat) : Prop := Cond.code μ.1 μ.2.1 μ.2.2.1 μ.2.2.2.1 ∈ al_gt ∧ Cond.instanceMethod μ.1 ∈ al_gt ∧ Cond.selects Cv x μ.1 ∈ al_gt ∧ Cond.initialized μ.1.cls ∈ al_gt ∧ (parseMethodDescriptor x.desc).map (fun d => d.parameters.length) = some na
theorem S_cU (C : al_Cx F p l e s m args below meth c Rm cc nL own t fr lo n0 ne Q0) {x : MethodName} {f : Nat → MD} {na index maxR maxF : Nat} {b0 : ByteArray} {m0 : Nat} {r0 : Option FieldType} (ok : ∀ ci, ci < 7 ∧ ci ≠ 2 → ∃ Cv T N, vwCl[ci]? = some (Cv, T, N) ∧ al_okU x (f ci) Cv na ∧ (f ci).2.2.2.2.1 + 1 ≤ maxF ∧ 8 + ((f ci).2.2.1 + 11) + (f ci).2.2.2.2.2 ≤ maxR) (hsame : Cond.sameMethod x.cls x.cls x.name x.desc ∈ al_gt) (hix : Cond.instanceMethod x ∈ al_gt) (hcx : Cond.code x b0 m0 r0 ∈ al_gt) (hnx : x.cls ≠ "java/lang/invoke/MethodHandle" ∧ x.cls ≠ "java/lang/invoke/VarHandle") (hw : Cond.methodLink own index x ∈ al_gt) (hR1 : maxF ≤ fr) (hR2 : maxR ≤ lo) (hd : decode cc pc = .ok (.invokevirtual index, 3)) (h : al_Ok F k (pc + 3)) : al_Ok F (o_cU f (na + 1) k) pc := by
  obtain ⟨rfl, hx, hb, hml, hown, hts, hlk, hSt, hfr, hlo, hce, hsl, hne, h90, hsz⟩ := C
  intro L st n R I J hk H locs ls h1 h2 hz hP hS hL
  obtain ⟨as, r, rfl, hlen, hk⟩ := al_pop_of hk
  rw [List.append_nil] at hk
  obtain ⟨q, As, rfl, hk⟩ := al_hd_of hk
  obtain ⟨ci, hq, hci, hk⟩ := al_rk_of hk
  obtain ⟨h8, hk⟩ := al_r8_of hk
  have ea := al_adp t (al_cls_of hq).1 (Nat.le_trans h2 h90)
  obtain ⟨Cv, T, N, hc, ⟨o1, o2, o3, o4, o7⟩, b1, b2⟩ := ok ci hci
  have hrec := va_recv hSt.1 hP (ci := ci) (q0 := q) hc (al_obj hq)
  have hrun := va_runU (As := As.map (al_tr t)) (rest := r.map (al_tr t)) (b := al_ad t q) (g := F0 m pc ls (((Value.ref q :: As).reverse ++ r).map (al_tr t))) (R := Rm) (cells := n - n0) (slots := al_sz n - al_sz n0) (locs := locs) (H := H) (below := below) (meth := meth) (e := e) (owner := x.cls) ⟨hx, hb, hml, hown, hts⟩ (hk l t) (va_cwO na hts (al_gi (fun w h9 => by
      unfold va_wsO at h9
      rcases List.mem_append.mp h9 with h9 | h9
      · simp only [List.mem_cons, List.not_mem_nil, or_false] at h9
        rcases h9 with rfl | rfl | rfl | rfl | rfl | rfl
        · exact hw
        · exact hsame
        · exact hix
        · exact o3
        · exact o2
        · exact o4
      · exact al_wsub o1 w h9)) rfl rfl rfl hcx ⟨hnx.1, hnx.2, o7⟩ ⟨Nat.le_trans b1 (Nat.le_trans hR1 hfr), Nat.le_trans b2 (Nat.le_trans hR2 hlo)⟩) ⟨al_blind _ _ _ _ _ _, by rw [ea]; exact hrec, al_pre hSt hsz hz hP hS⟩ rfl (by simp at hlen ⊢; exact hlen) hL.1 (by simp [List.map_reverse]; rfl) (lv_room (by rw [al_cs_eq]; exact h8)) hd ⟨by show n - n0 + 0 ≤ _; omega, by
        have := al_sz_mono h1
        have := al_sz_mono h2
        show al_sz n - al_sz n0 + (al_sz (n + 0) - al_sz n) ≤ _
        rw [Nat.add_zero]
        omega⟩
  refine al_go hrun hS (fun v R' I' J' H1 locs1 hq9 hz9 hP9 hS9 => ?_)
  refine W.cs (cells' := n - n0) (slots' := al_sz n - al_sz n0) (Nat.add_zero _) (by rw [Nat.add_zero, Nat.sub_self, Nat.add_zero]) ?_
  exact al_pu_go hq9 (fun st' hk' => h _ _ _ _ _ _ hk' H1 locs1 ls h1 h2 hz9 hP9 hS9 hL)

/-- a call of the class above's method -/
theorem S_cSU (C : al_Cx F p l e s m args below meth c Rm cc nL own t fr lo n0 ne Q0) {μ : MD} {na index : Nat} (ok : al_okV μ na) (hsame : Cond.sameMethod μ.1.cls μ.1.cls μ.1.name μ.1.desc ∈ al_gt) (hsup : Cond.superclass own μ.1.cls ∈ al_gt) (hni : μ.1.name ≠ "<init>") (hw : Cond.methodLink own index μ.1 ∈ al_gt) (hR1 : μ.2.2.2.2.1 + 1 ≤ fr) (hR2 : 8 + (μ.2.2.1 + 11) + μ.2.2.2.2.2 ≤ lo) (hd : decode cc pc = .ok (.invokespecial index, 3)) (h : al_Ok F k (pc + 3)) : al_Ok F (o_cW μ (na + 1) k) pc := by
  obtain ⟨rfl, hx, hb, hml, hown, hts, hlk, hSt, hfr, hlo, hce, hsl, hne, h90, hsz⟩ := C
  intro L st n R I J hk H locs ls h1 h2 hz hP hS hL
  obtain ⟨as, r, rfl, hlen, hk⟩ := al_pop_of hk
  rw [List.append_nil] at hk
  obtain ⟨q, As, rfl, hk⟩ := al_hd_of hk
  obtain ⟨ci, hq, hci, hk⟩ := al_rk_of hk
  obtain ⟨h8, hk⟩ := al_r8_of hk
  have ea := al_adp t (al_cls_of hq).1 (Nat.le_trans h2 h90)
  obtain ⟨⟨Cv, T, N⟩, hc⟩ := al_cls13 ci hci
  obtain ⟨o1, o2, o3, o4, o5, o6, o7⟩ := ok
  have hrec := va_recv hSt.1 hP (ci := ci) (q0 := q) hc (al_obj hq)
  have hat := (hSt.1.1 ci _ hc).2
  have hrun := va_runSU (As := As.map (al_tr t)) (rest := r.map (al_tr t)) (b := al_ad t q) (g := F0 m pc ls (((Value.ref q :: As).reverse ++ r).map (al_tr t))) (R := Rm) (cells := n - n0) (slots := al_sz n - al_sz n0) (locs := locs) (H := H) (below := below) (meth := meth) (e := e) hat ⟨hx, hb, hml, hown, hts⟩ (hk l t) (va_cwSU na hts (al_gi (fun w h9 => by
      unfold va_wsSU at h9
      rcases List.mem_append.mp h9 with h9 | h9
      · simp only [List.mem_cons, List.not_mem_nil, or_false] at h9
        rcases h9 with rfl | rfl | rfl | rfl | rfl
        · exact hw
        · exact hsame
        · exact hsup
        · exact o2
        · exact o4
      · exact al_wsub o1 w h9)) rfl rfl rfl ⟨hni, o7⟩ ⟨Nat.le_trans hR1 hfr, Nat.le_trans hR2 hlo⟩) ⟨al_blind _ _ _ _ _ _, by rw [ea]; exact hrec, al_pre hSt hsz hz hP hS⟩ rfl (by simp at hlen ⊢; exact hlen) hL.1 (by simp [List.map_reverse]; rfl) (lv_room (by rw [al_cs_eq]; exact h8)) hd ⟨by show n - n0 + 0 ≤ _; omega, by
        have := al_sz_mono h1
        have := al_sz_mono h2
        show al_sz n - al_sz n0 + (al_sz (n + 0) - al_sz n) ≤ _
        rw [Nat.add_zero]
        omega⟩
  refine al_go hrun hS (fun v R' I' J' H1 locs1 hq9 hz9 hP9 hS9 => ?_)
  refine W.cs (cells' := n - n0) (slots' := al_sz n - al_sz n0) (Nat.add_zero _) (by rw [Nat.add_zero, Nat.sub_self, Nat.add_zero]) ?_
  exact al_pu_go hq9 (fun st' hk' => h _ _ _ _ _ _ hk' H1 locs1 ls h1 h2 hz9 hP9 hS9 hL)

theorem S_cT (C : al_Cx F p l e s m args below meth c Rm cc nL own t fr lo n0 ne Q0) {μ : MD} {na index : Nat} (ok : al_okV μ na) (hst : μ.1.cls = "java/lang/String") (hw : Cond.methodLink own index μ.1 ∈ al_gt) (hR1 : μ.2.2.2.2.1 + 1 ≤ fr) (hR2 : 8 + (μ.2.2.1 + 11) + μ.2.2.2.2.2 ≤ lo) (hd : decode cc pc = .ok (.invokevirtual index, 3)) (h : al_Ok F k (pc + 3)) : al_Ok F (o_cT μ (na + 1) k) pc := by
  obtain ⟨rfl, hx, hb, hml, hown, hts, hlk, hSt, hfr, hlo, hce, hsl, hne, h90, hsz⟩ := C
  intro L st n R I J hk H locs ls h1 h2 hz hP hS hL
  obtain ⟨as, r, rfl, hlen, hk⟩ := al_pop_of hk
  rw [List.append_nil] at hk
  obtain ⟨q, As, rfl, hk⟩ := al_hd_of hk
  obtain ⟨hq, hk⟩ := hk
  obtain ⟨h8, hk⟩ := al_r8_of hk
  obtain ⟨ea, hq13⟩ := al_str_ad t (v := q) hq
  obtain ⟨o1, o2, o3, o4, o5, o6, o7⟩ := ok
  have hrec : ∃ cell : Cell, H[th_K t (q - 2000)]? = some cell ∧ cell.vm.isStatics = false ∧ s.vm.findClass μ.1.cls = some cell.cls := by
    obtain ⟨cell, c1, c2, c3, -⟩ := (hSt.2.1 _ hq13).1.kept hS.2.1
    rw [hst]
    exact ⟨cell, c1, c2, c3⟩
  have hrun := va_runV (As := As.map (al_tr t)) (rest := r.map (al_tr t)) (b := al_ad t q) (g := F0 m pc ls (((Value.ref q :: As).reverse ++ r).map (al_tr t))) (R := Rm) (cells := n - n0) (slots := al_sz n - al_sz n0) (locs := locs) (H := H) (below := below) (meth := meth) (e := e) ⟨hx, hb, hml, hown, hts⟩ (hk l t) (cwV na hts (al_gi (fun w h9 => by
      unfold wsV at h9
      rcases List.mem_append.mp h9 with h9 | h9
      · simp only [List.mem_cons, List.not_mem_nil, or_false] at h9
        rcases h9 with rfl | rfl | rfl | rfl
        · exact hw
        · exact o2
        · exact o3
        · exact o4
      · exact al_wsub o1 w h9)) rfl rfl rfl ⟨rfl, o5, o6, o7⟩ ⟨Nat.le_trans hR1 hfr, Nat.le_trans hR2 hlo⟩) ⟨al_blind _ _ _ _ _ _, by rw [ea]; exact hrec, al_pre hSt hsz hz hP hS⟩ rfl (by simp at hlen ⊢; exact hlen) hL.1 (by simp [List.map_reverse]; rfl) (lv_room (by rw [al_cs_eq]; exact h8)) hd ⟨by show n - n0 + 0 ≤ _; omega, by
        have := al_sz_mono h1
        have := al_sz_mono h2
        show al_sz n - al_sz n0 + (al_sz (n + 0) - al_sz n) ≤ _
        rw [Nat.add_zero]
        omega⟩
  refine al_go hrun hS (fun v R' I' J' H1 locs1 hq9 hz9 hP9 hS9 => ?_)
  refine W.cs (cells' := n - n0) (slots' := al_sz n - al_sz n0) (Nat.add_zero _) (by rw [Nat.add_zero, Nat.sub_self, Nat.add_zero]) ?_
  exact al_pu_go hq9 (fun st' hk' => h _ _ _ _ _ _ hk' H1 locs1 ls h1 h2 hz9 hP9 hS9 hL)

theorem S_slen (C : al_Cx F p l e s m args below meth c Rm cc nL own t fr lo n0 ne Q0) {LS : Nat} {xs : Nat → Int32} (hX : va_X (th_s t) LS xs s s.heap ∧ th_s t < s.heap.size ∧ th_s t < th_b t) (hd : decode cc pc = .ok (.arraylength, 1)) (h : al_Ok F k (pc + 1)) : al_Ok F (o_slen LS k) pc := by
  obtain ⟨rfl, hx, hb, hml, hown, hts, hlk, hSt, hfr, hlo, hce, hsl, hne, h90, hsz⟩ := C
  intro L st n R I J hk H locs ls h1 h2 hz hP hS hL
  match st, hk with
  | .ref q :: r, hk =>
    obtain ⟨hq, hk⟩ := hk
    subst hq
    exact va_slen hx hb hX.1 hX.2.1 (Nat.not_le.mpr hX.2.2) hS hd (h _ _ _ _ _ _ hk H locs ls h1 h2 hz hP hS hL)
theorem S_sld (C : al_Cx F p l e s m args below meth c Rm cc nL own t fr lo n0 ne Q0) {LS : Nat} {xs : Nat → Int32} (hX : va_X (th_s t) LS xs s s.heap ∧ th_s t < s.heap.size ∧ th_s t < th_b t) (hLS : LS < 2 ^ 31) (hd : decode cc pc = .ok (.iaload, 1)) (h : al_Ok F k (pc + 1)) : al_Ok F (o_sld LS xs k) pc := by
  obtain ⟨rfl, hx, hb, hml, hown, hts, hlk, hSt, hfr, hlo, hce, hsl, hne, h90, hsz⟩ := C
  intro L st n R I J hk H locs ls h1 h2 hz hP hS hL
  match st, hk with
  | .int i :: .ref q :: r, hk =>
    obtain ⟨hq, j, hj, hi, hk⟩ := hk
    subst hq
    obtain ⟨hin, hcl⟩ := al_in_of hi hj hLS
    exact va_sld hx hb hX.1 hX.2.1 (Nat.not_le.mpr hX.2.2) hS hin hd (by rw [hcl]; exact (h _ _ _ _ _ _ hk H locs ls h1 h2 hz hP hS hL))
end ALE
end
section
/-! OPERATIONS OF THE STRINGS' OWN METHODS; what never runs -/
def al_sv (q : Nat) : Prop := 3000 ≤ q ∧ q < 3013
def o_bad : KT := fun _ _ _ _ _ _ => False
def o_sV (k : KT) : KT := fun L st n R I J => match st with
  | .ref q :: r => al_st q ∧ k L (.ref (q + 1000) :: r) n R I J
  | _ => False
def o_sC (k : KT) : KT := fun L st n R I J => match st with
  | .ref q :: r => al_st q ∧ k L (.int 0 :: r) n R I J
  | _ => False
def o_bl (k : KT) : KT := fun L st n R I J => match st with
  | .ref q :: r => al_sv q ∧ k L (.int (nI (al_len.getD (q - 3000) 0)) :: r) n R I J
  | _ => False
def o_bb (k : KT) : KT := fun L st n R I J => match st with
  | .int i :: .ref q :: r => al_sv q ∧ ∃ j : Nat, j < al_len.getD (q - 3000) 0 ∧ i = nI j ∧ k L (.int ((al_byt.getD (q - 3000) []).getD j 0) :: r) n R I J
  | _ => False
def o_gC (k : KT) : KT := fun L st n R I J => k L (.int 1 :: st) n R I J
def o_gF (k : KT) : KT := fun L st n R I J => k L (.null :: st) n R I J ∧ k L (.ref 4000 :: st) n R I J
def o_nret (ty : FieldType) (Q : QT) : KT := fun _ st n R I J => match st with
  | [.int v] => narrow ty (.int v) = .int v ∧ Q (some (.int v)) n R I J
  | _ => False
theorem al_cast {s : State} {args : Array Value} {Cv Cn : String} (h : (Cond.castable Cv Cn).before args s = true) {comp c0 : ClassId} (e1 : s.vm.findClass Cn = some comp) (e2 : s.vm.findClass Cv = some c0) : s.vm.assignable c0 comp = true := by
  obtain ⟨c1, t1, f1, f2, f3⟩ := Cond.castable_spec h
  cases e2.symm.trans f1
  cases e1.symm.trans f2
  exact f3
theorem al_same {s : State} {Cn : String} {comp c0 : ClassId} (e1 : s.vm.findClass Cn = some comp) (e2 : s.vm.findClass Cn = some c0) : s.vm.assignable c0 comp = true := by
  cases e1.symm.trans e2
  exact va_asg _ _
theorem al_sv_of {q : Nat} (h : al_st q) : al_sv (q + 1000) := by
  obtain ⟨h1, h2⟩ := h
  exact ⟨by omega, by omega⟩
theorem al_sv_ad (t : TH) {q : Nat} (h : al_sv q) : al_ad t q = th_V t (q - 3000) ∧ q - 3000 < 13 := by
  obtain ⟨h1, h2⟩ := h
  refine ⟨?_, by omega⟩
  unfold al_ad
  rw [if_neg (by omega), if_neg (by omega), if_neg (by omega), if_pos (by omega)]
theorem al_len13 : ∀ i, i < 13 → al_len.getD i 0 < 2 ^ 31 := by decide +kernel
section ALG
variable {F : FT} {p : Program} {l : Launch} {e : Env} {s : State} {m : MethodId} {args : Array Value} {below : List Frame} {meth : Method} {c : Code} {Rm : Room} {cc : ByteArray} {nL : Nat} {own : String} {t : TH} {fr lo n0 ne : Nat} {Q0 : State → Prop} {k : KT} {pc : Nat}
theorem S_bad (pc : Nat) : al_Ok F o_bad pc := fun _ _ _ _ _ _ h => h.elim
theorem S_i2c (C : al_Cx F p l e s m args below meth c Rm cc nL own t fr lo n0 ne Q0) (hd : decode cc pc = .ok (.i2c, 1)) (h : al_Ok F k (pc + 1)) : al_Ok F (o_i1 (fun x => (x.toUInt32 % 65536).toInt32) k) pc := by
  obtain ⟨rfl, hx, hb, hml, hown, hts, hlk, hSt, hfr, hlo, hce, hsl, hne, h90, hsz⟩ := C
  intro L st n R I J hk H locs ls h1 h2 hz hP hS hL
  match st, hk with
  | .int x :: r, hk => exact lv_i2c hx hb hd rfl (h _ _ _ _ _ _ hk H locs ls h1 h2 hz hP hS hL)
theorem S_sV (C : al_Cx F p l e s m args below meth c Rm cc nL own t fr lo n0 ne Q0) {index : Nat} (hw : Cond.fieldLink own index "java/lang/String" "value" "[B" ∈ al_gt) (hd : decode cc pc = .ok (.getfield index, 3)) (h : al_Ok F k (pc + 3)) : al_Ok F (o_sV k) pc := by
  obtain ⟨rfl, hx, hb, hml, hown, hts, hlk, hSt, hfr, hlo, hce, hsl, hne, h90, hsz⟩ := C
  intro L st n R I J hk H locs ls h1 h2 hz hP hS hL
  match st, hk with
  | .ref q :: r, hk =>
    obtain ⟨hq, hk⟩ := hk
    obtain ⟨ea, h13⟩ := al_str_ad t hq
    obtain ⟨ev, -⟩ := al_sv_ad t (al_sv_of hq)
    have h9 := (h _ _ _ _ _ _ hk H locs ls h1 h2 hz hP hS hL)
    show W p l e Rm s m args below meth c H locs _ _ Q0 (F0 m pc ls (.ref (al_ad t q) :: r.map (al_tr t)))
    rw [ea]
    refine vk_getf (v := .ref (al_ad t (q + 1000))) hx hb (by rw [ev, Nat.add_sub_add_right q 1000 2000]; exact (hSt.2.1 _ h13).2.2.1) hS hown (hts _ hw) (fun _ h9 => h9) hd h9
theorem S_sC (C : al_Cx F p l e s m args below meth c Rm cc nL own t fr lo n0 ne Q0) {index : Nat} (hw : Cond.fieldLink own index "java/lang/String" "coder" "B" ∈ al_gt) (hd : decode cc pc = .ok (.getfield index, 3)) (h : al_Ok F k (pc + 3)) : al_Ok F (o_sC k) pc := by
  obtain ⟨rfl, hx, hb, hml, hown, hts, hlk, hSt, hfr, hlo, hce, hsl, hne, h90, hsz⟩ := C
  intro L st n R I J hk H locs ls h1 h2 hz hP hS hL
  match st, hk with
  | .ref q :: r, hk =>
    obtain ⟨hq, hk⟩ := hk
    obtain ⟨ea, h13⟩ := al_str_ad t hq
    show W p l e Rm s m args below meth c H locs _ _ Q0 (F0 m pc ls (.ref (al_ad t q) :: r.map (al_tr t)))
    rw [ea]
    exact vk_getf hx hb (hSt.2.1 _ h13).2.1 hS hown (hts _ hw) (fun _ h9 => h9) hd (h _ _ _ _ _ _ hk H locs ls h1 h2 hz hP hS hL)
theorem S_bl (C : al_Cx F p l e s m args below meth c Rm cc nL own t fr lo n0 ne Q0) (hd : decode cc pc = .ok (.arraylength, 1)) (h : al_Ok F k (pc + 1)) : al_Ok F (o_bl k) pc := by
  obtain ⟨rfl, hx, hb, hml, hown, hts, hlk, hSt, hfr, hlo, hce, hsl, hne, h90, hsz⟩ := C
  intro L st n R I J hk H locs ls h1 h2 hz hP hS hL
  match st, hk with
  | .ref q :: r, hk =>
    obtain ⟨hq, hk⟩ := hk
    obtain ⟨ea, h13⟩ := al_sv_ad t hq
    show W p l e Rm s m args below meth c H locs _ _ Q0 (F0 m pc ls (.ref (al_ad t q) :: r.map (al_tr t)))
    rw [ea]
    exact va_tlen hx hb (hSt.2.1 _ h13).2.2.2 hS rfl hd (h _ _ _ _ _ _ hk H locs ls h1 h2 hz hP hS hL)
theorem S_bb (C : al_Cx F p l e s m args below meth c Rm cc nL own t fr lo n0 ne Q0) (hd : decode cc pc = .ok (.baload, 1)) (h : al_Ok F k (pc + 1)) : al_Ok F (o_bb k) pc := by
  obtain ⟨rfl, hx, hb, hml, hown, hts, hlk, hSt, hfr, hlo, hce, hsl, hne, h90, hsz⟩ := C
  intro L st n R I J hk H locs ls h1 h2 hz hP hS hL
  match st, hk with
  | .int i :: .ref q :: r, hk =>
    obtain ⟨hq, j, hj, hi, hk⟩ := hk
    obtain ⟨ea, h13⟩ := al_sv_ad t hq
    obtain ⟨hin, hcl⟩ := al_in_of hi hj (al_len13 _ h13)
    show W p l e Rm s m args below meth c H locs _ _ Q0 (F0 m pc ls (.int i :: .ref (al_ad t q) :: r.map (al_tr t)))
    rw [ea]
    exact va_tb hx hb (hSt.2.1 _ h13).2.2.2 hS hin rfl hd (by rw [hcl]; exact (h _ _ _ _ _ _ hk H locs ls h1 h2 hz hP hS hL))
theorem S_gC (C : al_Cx F p l e s m args below meth c Rm cc nL own t fr lo n0 ne Q0) {index : Nat} (hw : Cond.fieldLink own index "java/lang/String" "COMPACT_STRINGS" "Z" ∈ al_gt) (hd : decode cc pc = .ok (.getstatic index, 3)) (h : al_Ok F k (pc + 3)) : al_Ok F (o_gC k) pc := by
  obtain ⟨rfl, hx, hb, hml, hown, hts, hlk, hSt, hfr, hlo, hce, hsl, hne, h90, hsz⟩ := C
  intro L st n R I J hk H locs ls h1 h2 hz hP hS hL
  exact va_gets hx hb hSt.2.2.2.1 hS hown (hts _ hw) (fun _ h9 => h9) hd (h _ _ _ _ _ _ hk H locs ls h1 h2 hz hP hS hL)
theorem S_gF (C : al_Cx F p l e s m args below meth c Rm cc nL own t fr lo n0 ne Q0) {index : Nat} (hw : Cond.fieldLink own index "jdk/internal/util/Preconditions" "SIOOBE_FORMATTER" "Ljava/util/function/BiFunction;" ∈ al_gt) (hd : decode cc pc = .ok (.getstatic index, 3)) (h : al_Ok F k (pc + 3)) : al_Ok F (o_gF k) pc := by
  obtain ⟨rfl, hx, hb, hml, hown, hts, hlk, hSt, hfr, hlo, hce, hsl, hne, h90, hsz⟩ := C
  intro L st n R I J hk H locs ls h1 h2 hz hP hS hL
  rcases hSt.2.2.2.2 with hq | hq
  · exact va_gets hx hb hq hS hown (hts _ hw) (fun _ h9 => h9) hd (h _ _ _ _ _ _ hk.1 H locs ls h1 h2 hz hP hS hL)
  · exact va_gets hx hb hq hS hown (hts _ hw) (fun _ h9 => h9) hd (h _ _ _ _ _ _ hk.2 H locs ls h1 h2 hz hP hS hL)
theorem S_nret (C : al_Cx F p l e s m args below meth c Rm cc nL own t fr lo ne ne Q0) {Q : QT} {ty : FieldType} (hQ : Q0 = MQ below (al_post t Q ne) args s (ne - ne) (al_sz ne - al_sz ne) (al_A t)) (hr : meth.sig.returnType = some ty) (hd : decode cc pc = .ok (.ireturn, 1)) : al_Ok F (o_nret ty Q) pc := by
  obtain ⟨rfl, hx, hb, hml, hown, hts, hlk, hSt, hfr, hlo, hce, hsl, hne, h90, hsz⟩ := C
  intro L st n R I J hk H locs ls h1 h2 hz hP hS hL
  obtain rfl : n = ne := by omega
  match st, hk with
  | [.int v], hk =>
    rw [hQ]
    obtain ⟨hv, hk⟩ := hk
    exact W.zret (ty := ty) hx hb hr hv (al_ret (v := some (.int v)) hSt hsz hz hP hS hk) hS.2.2 hd hlk
end ALG
end
