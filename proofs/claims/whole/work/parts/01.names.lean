-- ===== PART A: goes FIRST, ahead of the names: the tables' words, and 'selects' of the private methods out of them =====
/-- a private method of a class that the tables say can be made, by its rows of tables_1 -/
def lw_okq (q : MethodName × Nat) : Prop := (q.1.cls ≠ "java/lang/invoke/MethodHandle" ∧ q.1.cls ≠ "java/lang/invoke/VarHandle") ∧ Cond.instantiable q.1.cls q.2 ∈ tables_1 ∧ Cond.privateMethod q.1 ∈ tables_1 ∧ Cond.instanceMethod q.1 ∈ tables_1
theorem lw_p0 : lw_okq (⟨"HeaviestLightest", "refuse", "(I)I"⟩, 13) := ⟨⟨by decide +kernel, by decide +kernel⟩, List.mem_of_getElem? (i := 16) (by decide +kernel), List.mem_of_getElem? (i := 283) (by decide +kernel), List.mem_of_getElem? (i := 284) (by decide +kernel)⟩
theorem lw_p1 : lw_okq (⟨"HeaviestLightest$Reader", "faultOfForm", "(I)I"⟩, 3) := ⟨⟨by decide +kernel, by decide +kernel⟩, List.mem_of_getElem? (i := 91) (by decide +kernel), List.mem_of_getElem? (i := 303) (by decide +kernel), List.mem_of_getElem? (i := 304) (by decide +kernel)⟩
theorem lw_p2 : lw_okq (⟨"HeaviestLightest$Reader", "carryOut", "(II)Z"⟩, 3) := ⟨⟨by decide +kernel, by decide +kernel⟩, List.mem_of_getElem? (i := 91) (by decide +kernel), List.mem_of_getElem? (i := 320) (by decide +kernel), List.mem_of_getElem? (i := 321) (by decide +kernel)⟩
theorem lw_p3 : lw_okq (⟨"HeaviestLightest$Reader", "digitAt", "(I)I"⟩, 3) := ⟨⟨by decide +kernel, by decide +kernel⟩, List.mem_of_getElem? (i := 91) (by decide +kernel), List.mem_of_getElem? (i := 324) (by decide +kernel), List.mem_of_getElem? (i := 325) (by decide +kernel)⟩
theorem lw_p4 : lw_okq (⟨"HeaviestLightest$Reader", "beginAnew", "(I)Z"⟩, 3) := ⟨⟨by decide +kernel, by decide +kernel⟩, List.mem_of_getElem? (i := 91) (by decide +kernel), List.mem_of_getElem? (i := 328) (by decide +kernel), List.mem_of_getElem? (i := 329) (by decide +kernel)⟩
theorem lw_p5 : lw_okq (⟨"HeaviestLightest$Reader", "putWeight", "(II)Z"⟩, 3) := ⟨⟨by decide +kernel, by decide +kernel⟩, List.mem_of_getElem? (i := 91) (by decide +kernel), List.mem_of_getElem? (i := 333) (by decide +kernel), List.mem_of_getElem? (i := 334) (by decide +kernel)⟩
theorem lw_p6 : lw_okq (⟨"HeaviestLightest$Reader", "putScale", "(II)Z"⟩, 3) := ⟨⟨by decide +kernel, by decide +kernel⟩, List.mem_of_getElem? (i := 91) (by decide +kernel), List.mem_of_getElem? (i := 349) (by decide +kernel), List.mem_of_getElem? (i := 350) (by decide +kernel)⟩
theorem lw_p7 : lw_okq (⟨"HeaviestLightest$Reader", "putWeighing", "(III)Z"⟩, 3) := ⟨⟨by decide +kernel, by decide +kernel⟩, List.mem_of_getElem? (i := 91) (by decide +kernel), List.mem_of_getElem? (i := 364) (by decide +kernel), List.mem_of_getElem? (i := 365) (by decide +kernel)⟩
theorem lw_p8 : lw_okq (⟨"HeaviestLightest$Reader", "putLiking", "(II)Z"⟩, 3) := ⟨⟨by decide +kernel, by decide +kernel⟩, List.mem_of_getElem? (i := 91) (by decide +kernel), List.mem_of_getElem? (i := 380) (by decide +kernel), List.mem_of_getElem? (i := 381) (by decide +kernel)⟩
theorem lw_p9 : lw_okq (⟨"HeaviestLightest$Reader", "putComparison", "(II)Z"⟩, 3) := ⟨⟨by decide +kernel, by decide +kernel⟩, List.mem_of_getElem? (i := 91) (by decide +kernel), List.mem_of_getElem? (i := 392) (by decide +kernel), List.mem_of_getElem? (i := 393) (by decide +kernel)⟩
theorem lw_p10 : lw_okq (⟨"HeaviestLightest$Barn", "byWeights", "(III)I"⟩, 12) := ⟨⟨by decide +kernel, by decide +kernel⟩, List.mem_of_getElem? (i := 24) (by decide +kernel), List.mem_of_getElem? (i := 430) (by decide +kernel), List.mem_of_getElem? (i := 431) (by decide +kernel)⟩
theorem lw_p11 : lw_okq (⟨"HeaviestLightest$Known", "learnTurned", "(LHeaviestLightest$Barn;I)V"⟩, 4) := ⟨⟨by decide +kernel, by decide +kernel⟩, List.mem_of_getElem? (i := 110) (by decide +kernel), List.mem_of_getElem? (i := 462) (by decide +kernel), List.mem_of_getElem? (i := 463) (by decide +kernel)⟩
theorem lw_p12 : lw_okq (⟨"HeaviestLightest$Known", "follow", "()V"⟩, 4) := ⟨⟨by decide +kernel, by decide +kernel⟩, List.mem_of_getElem? (i := 110) (by decide +kernel), List.mem_of_getElem? (i := 467) (by decide +kernel), List.mem_of_getElem? (i := 468) (by decide +kernel)⟩
theorem lw_p13 : lw_okq (⟨"HeaviestLightest$Known", "leastFree", "(I)I"⟩, 4) := ⟨⟨by decide +kernel, by decide +kernel⟩, List.mem_of_getElem? (i := 110) (by decide +kernel), List.mem_of_getElem? (i := 493) (by decide +kernel), List.mem_of_getElem? (i := 494) (by decide +kernel)⟩
theorem lw_p14 : lw_okq (⟨"HeaviestLightest$Known", "isOpen", "(II)Z"⟩, 4) := ⟨⟨by decide +kernel, by decide +kernel⟩, List.mem_of_getElem? (i := 110) (by decide +kernel), List.mem_of_getElem? (i := 506) (by decide +kernel), List.mem_of_getElem? (i := 507) (by decide +kernel)⟩
theorem lw_p15 : lw_okq (⟨"HeaviestLightest$Known", "ordersWithAhead", "(II)I"⟩, 4) := ⟨⟨by decide +kernel, by decide +kernel⟩, List.mem_of_getElem? (i := 110) (by decide +kernel), List.mem_of_getElem? (i := 510) (by decide +kernel), List.mem_of_getElem? (i := 511) (by decide +kernel)⟩
def lw_privs_1 : List (MethodName × Nat) := [(⟨"HeaviestLightest", "refuse", "(I)I"⟩, 13), (⟨"HeaviestLightest$Reader", "faultOfForm", "(I)I"⟩, 3), (⟨"HeaviestLightest$Reader", "carryOut", "(II)Z"⟩, 3), (⟨"HeaviestLightest$Reader", "digitAt", "(I)I"⟩, 3), (⟨"HeaviestLightest$Reader", "beginAnew", "(I)Z"⟩, 3), (⟨"HeaviestLightest$Reader", "putWeight", "(II)Z"⟩, 3), (⟨"HeaviestLightest$Reader", "putScale", "(II)Z"⟩, 3), (⟨"HeaviestLightest$Reader", "putWeighing", "(III)Z"⟩, 3), (⟨"HeaviestLightest$Reader", "putLiking", "(II)Z"⟩, 3), (⟨"HeaviestLightest$Reader", "putComparison", "(II)Z"⟩, 3), (⟨"HeaviestLightest$Barn", "byWeights", "(III)I"⟩, 12), (⟨"HeaviestLightest$Known", "learnTurned", "(LHeaviestLightest$Barn;I)V"⟩, 4), (⟨"HeaviestLightest$Known", "follow", "()V"⟩, 4), (⟨"HeaviestLightest$Known", "leastFree", "(I)I"⟩, 4), (⟨"HeaviestLightest$Known", "isOpen", "(II)Z"⟩, 4), (⟨"HeaviestLightest$Known", "ordersWithAhead", "(II)I"⟩, 4)]
theorem lw_r1 : ∀ q ∈ lw_privs_1, lw_okq q := List.forall_mem_cons.mpr ⟨lw_p0, List.forall_mem_cons.mpr ⟨lw_p1, List.forall_mem_cons.mpr ⟨lw_p2, List.forall_mem_cons.mpr ⟨lw_p3, List.forall_mem_cons.mpr ⟨lw_p4, List.forall_mem_cons.mpr ⟨lw_p5, List.forall_mem_cons.mpr ⟨lw_p6, List.forall_mem_cons.mpr ⟨lw_p7, List.forall_mem_cons.mpr ⟨lw_p8, List.forall_mem_cons.mpr ⟨lw_p9, List.forall_mem_cons.mpr ⟨lw_p10, List.forall_mem_cons.mpr ⟨lw_p11, List.forall_mem_cons.mpr ⟨lw_p12, List.forall_mem_cons.mpr ⟨lw_p13, List.forall_mem_cons.mpr ⟨lw_p14, List.forall_mem_cons.mpr ⟨lw_p15, fun _ h => absurd h List.not_mem_nil⟩⟩⟩⟩⟩⟩⟩⟩⟩⟩⟩⟩⟩⟩⟩⟩
theorem lw_p16 : lw_okq (⟨"HeaviestLightest", "refusalOfWanted", "(I)I"⟩, 13) := ⟨⟨by decide +kernel, by decide +kernel⟩, List.mem_of_getElem? (i := 16) (by decide +kernel), List.mem_of_getElem? (i := 538) (by decide +kernel), List.mem_of_getElem? (i := 539) (by decide +kernel)⟩
theorem lw_p17 : lw_okq (⟨"HeaviestLightest$Wants", "fitting", "(LHeaviestLightest$Known;)I"⟩, 7) := ⟨⟨by decide +kernel, by decide +kernel⟩, List.mem_of_getElem? (i := 132) (by decide +kernel), List.mem_of_getElem? (i := 546) (by decide +kernel), List.mem_of_getElem? (i := 547) (by decide +kernel)⟩
theorem lw_p18 : lw_okq (⟨"HeaviestLightest$Wants", "layOut", "(I)V"⟩, 7) := ⟨⟨by decide +kernel, by decide +kernel⟩, List.mem_of_getElem? (i := 132) (by decide +kernel), List.mem_of_getElem? (i := 550) (by decide +kernel), List.mem_of_getElem? (i := 551) (by decide +kernel)⟩
theorem lw_p19 : lw_okq (⟨"HeaviestLightest$Wants", "isOrder", "(I)Z"⟩, 7) := ⟨⟨by decide +kernel, by decide +kernel⟩, List.mem_of_getElem? (i := 132) (by decide +kernel), List.mem_of_getElem? (i := 557) (by decide +kernel), List.mem_of_getElem? (i := 558) (by decide +kernel)⟩
theorem lw_p20 : lw_okq (⟨"HeaviestLightest$Wants", "noteOrder", "(I)V"⟩, 7) := ⟨⟨by decide +kernel, by decide +kernel⟩, List.mem_of_getElem? (i := 132) (by decide +kernel), List.mem_of_getElem? (i := 561) (by decide +kernel), List.mem_of_getElem? (i := 562) (by decide +kernel)⟩
theorem lw_p21 : lw_okq (⟨"HeaviestLightest$Wants", "answerOf", "(II)I"⟩, 7) := ⟨⟨by decide +kernel, by decide +kernel⟩, List.mem_of_getElem? (i := 132) (by decide +kernel), List.mem_of_getElem? (i := 565) (by decide +kernel), List.mem_of_getElem? (i := 566) (by decide +kernel)⟩
theorem lw_p22 : lw_okq (⟨"HeaviestLightest$Wants", "isTold", "(II)Z"⟩, 7) := ⟨⟨by decide +kernel, by decide +kernel⟩, List.mem_of_getElem? (i := 132) (by decide +kernel), List.mem_of_getElem? (i := 570) (by decide +kernel), List.mem_of_getElem? (i := 571) (by decide +kernel)⟩
theorem lw_p23 : lw_okq (⟨"HeaviestLightest$Wants", "indexOf", "(II)I"⟩, 7) := ⟨⟨by decide +kernel, by decide +kernel⟩, List.mem_of_getElem? (i := 132) (by decide +kernel), List.mem_of_getElem? (i := 585) (by decide +kernel), List.mem_of_getElem? (i := 586) (by decide +kernel)⟩
theorem lw_p24 : lw_okq (⟨"HeaviestLightest$Plans", "bothOneBehindTheOther", "()V"⟩, 10) := ⟨⟨by decide +kernel, by decide +kernel⟩, List.mem_of_getElem? (i := 160) (by decide +kernel), List.mem_of_getElem? (i := 620) (by decide +kernel), List.mem_of_getElem? (i := 621) (by decide +kernel)⟩
theorem lw_p25 : lw_okq (⟨"HeaviestLightest$Plans", "heaviestOf", "([II)I"⟩, 10) := ⟨⟨by decide +kernel, by decide +kernel⟩, List.mem_of_getElem? (i := 160) (by decide +kernel), List.mem_of_getElem? (i := 624) (by decide +kernel), List.mem_of_getElem? (i := 625) (by decide +kernel)⟩
theorem lw_p26 : lw_okq (⟨"HeaviestLightest$Plans", "isHeavier", "(II)Z"⟩, 10) := ⟨⟨by decide +kernel, by decide +kernel⟩, List.mem_of_getElem? (i := 160) (by decide +kernel), List.mem_of_getElem? (i := 628) (by decide +kernel), List.mem_of_getElem? (i := 629) (by decide +kernel)⟩
theorem lw_p27 : lw_okq (⟨"HeaviestLightest$Plans", "lightestOf", "([II)I"⟩, 10) := ⟨⟨by decide +kernel, by decide +kernel⟩, List.mem_of_getElem? (i := 160) (by decide +kernel), List.mem_of_getElem? (i := 632) (by decide +kernel), List.mem_of_getElem? (i := 633) (by decide +kernel)⟩
theorem lw_p28 : lw_okq (⟨"HeaviestLightest$Plans", "tellTwo", "(II)V"⟩, 10) := ⟨⟨by decide +kernel, by decide +kernel⟩, List.mem_of_getElem? (i := 160) (by decide +kernel), List.mem_of_getElem? (i := 636) (by decide +kernel), List.mem_of_getElem? (i := 637) (by decide +kernel)⟩
theorem lw_p29 : lw_okq (⟨"HeaviestLightest$Plans", "bothByTwos", "()V"⟩, 10) := ⟨⟨by decide +kernel, by decide +kernel⟩, List.mem_of_getElem? (i := 160) (by decide +kernel), List.mem_of_getElem? (i := 640) (by decide +kernel), List.mem_of_getElem? (i := 641) (by decide +kernel)⟩
theorem lw_p30 : lw_okq (⟨"HeaviestLightest$Plans", "cup", "()V"⟩, 10) := ⟨⟨by decide +kernel, by decide +kernel⟩, List.mem_of_getElem? (i := 160) (by decide +kernel), List.mem_of_getElem? (i := 644) (by decide +kernel), List.mem_of_getElem? (i := 645) (by decide +kernel)⟩
theorem lw_p31 : lw_okq (⟨"HeaviestLightest$Plans", "playRound", "(I)I"⟩, 10) := ⟨⟨by decide +kernel, by decide +kernel⟩, List.mem_of_getElem? (i := 160) (by decide +kernel), List.mem_of_getElem? (i := 648) (by decide +kernel), List.mem_of_getElem? (i := 649) (by decide +kernel)⟩
def lw_privs_2 : List (MethodName × Nat) := [(⟨"HeaviestLightest", "refusalOfWanted", "(I)I"⟩, 13), (⟨"HeaviestLightest$Wants", "fitting", "(LHeaviestLightest$Known;)I"⟩, 7), (⟨"HeaviestLightest$Wants", "layOut", "(I)V"⟩, 7), (⟨"HeaviestLightest$Wants", "isOrder", "(I)Z"⟩, 7), (⟨"HeaviestLightest$Wants", "noteOrder", "(I)V"⟩, 7), (⟨"HeaviestLightest$Wants", "answerOf", "(II)I"⟩, 7), (⟨"HeaviestLightest$Wants", "isTold", "(II)Z"⟩, 7), (⟨"HeaviestLightest$Wants", "indexOf", "(II)I"⟩, 7), (⟨"HeaviestLightest$Plans", "bothOneBehindTheOther", "()V"⟩, 10), (⟨"HeaviestLightest$Plans", "heaviestOf", "([II)I"⟩, 10), (⟨"HeaviestLightest$Plans", "isHeavier", "(II)Z"⟩, 10), (⟨"HeaviestLightest$Plans", "lightestOf", "([II)I"⟩, 10), (⟨"HeaviestLightest$Plans", "tellTwo", "(II)V"⟩, 10), (⟨"HeaviestLightest$Plans", "bothByTwos", "()V"⟩, 10), (⟨"HeaviestLightest$Plans", "cup", "()V"⟩, 10), (⟨"HeaviestLightest$Plans", "playRound", "(I)I"⟩, 10)]
theorem lw_r2 : ∀ q ∈ lw_privs_2, lw_okq q := List.forall_mem_cons.mpr ⟨lw_p16, List.forall_mem_cons.mpr ⟨lw_p17, List.forall_mem_cons.mpr ⟨lw_p18, List.forall_mem_cons.mpr ⟨lw_p19, List.forall_mem_cons.mpr ⟨lw_p20, List.forall_mem_cons.mpr ⟨lw_p21, List.forall_mem_cons.mpr ⟨lw_p22, List.forall_mem_cons.mpr ⟨lw_p23, List.forall_mem_cons.mpr ⟨lw_p24, List.forall_mem_cons.mpr ⟨lw_p25, List.forall_mem_cons.mpr ⟨lw_p26, List.forall_mem_cons.mpr ⟨lw_p27, List.forall_mem_cons.mpr ⟨lw_p28, List.forall_mem_cons.mpr ⟨lw_p29, List.forall_mem_cons.mpr ⟨lw_p30, List.forall_mem_cons.mpr ⟨lw_p31, fun _ h => absurd h List.not_mem_nil⟩⟩⟩⟩⟩⟩⟩⟩⟩⟩⟩⟩⟩⟩⟩⟩
theorem lw_p32 : lw_okq (⟨"HeaviestLightest$Plans", "insert", "(II)V"⟩, 10) := ⟨⟨by decide +kernel, by decide +kernel⟩, List.mem_of_getElem? (i := 160) (by decide +kernel), List.mem_of_getElem? (i := 652) (by decide +kernel), List.mem_of_getElem? (i := 653) (by decide +kernel)⟩
theorem lw_p33 : lw_okq (⟨"HeaviestLightest$Plans", "placeFor", "(III)I"⟩, 10) := ⟨⟨by decide +kernel, by decide +kernel⟩, List.mem_of_getElem? (i := 160) (by decide +kernel), List.mem_of_getElem? (i := 656) (by decide +kernel), List.mem_of_getElem? (i := 657) (by decide +kernel)⟩
theorem lw_p34 : lw_okq (⟨"HeaviestLightest$Plans", "join", "(III)V"⟩, 10) := ⟨⟨by decide +kernel, by decide +kernel⟩, List.mem_of_getElem? (i := 160) (by decide +kernel), List.mem_of_getElem? (i := 663) (by decide +kernel), List.mem_of_getElem? (i := 664) (by decide +kernel)⟩
theorem lw_p35 : lw_okq (⟨"HeaviestLightest$Net", "unsortedWith", "(III)I"⟩, 2) := ⟨⟨by decide +kernel, by decide +kernel⟩, List.mem_of_getElem? (i := 197) (by decide +kernel), List.mem_of_getElem? (i := 738) (by decide +kernel), List.mem_of_getElem? (i := 739) (by decide +kernel)⟩
theorem lw_p36 : lw_okq (⟨"HeaviestLightest$Likings", "turnedWith", "(II)I"⟩, 3) := ⟨⟨by decide +kernel, by decide +kernel⟩, List.mem_of_getElem? (i := 210) (by decide +kernel), List.mem_of_getElem? (i := 767) (by decide +kernel), List.mem_of_getElem? (i := 768) (by decide +kernel)⟩
theorem lw_p37 : lw_okq (⟨"HeaviestLightest$Likings", "leastBest", "(I)I"⟩, 3) := ⟨⟨by decide +kernel, by decide +kernel⟩, List.mem_of_getElem? (i := 210) (by decide +kernel), List.mem_of_getElem? (i := 781) (by decide +kernel), List.mem_of_getElem? (i := 782) (by decide +kernel)⟩
theorem lw_p38 : lw_okq (⟨"HeaviestLightest$Seeds", "drawBelow99", "()I"⟩, 2) := ⟨⟨by decide +kernel, by decide +kernel⟩, List.mem_of_getElem? (i := 226) (by decide +kernel), List.mem_of_getElem? (i := 823) (by decide +kernel), List.mem_of_getElem? (i := 824) (by decide +kernel)⟩
theorem lw_p39 : lw_okq (⟨"HeaviestLightestModel", "begin", "(I)V"⟩, 49) := ⟨⟨by decide +kernel, by decide +kernel⟩, List.mem_of_getElem? (i := 853) (by decide +kernel), List.mem_of_getElem? (i := 859) (by decide +kernel), List.mem_of_getElem? (i := 860) (by decide +kernel)⟩
theorem lw_p40 : lw_okq (⟨"HeaviestLightestModel", "refuse", "(I)I"⟩, 49) := ⟨⟨by decide +kernel, by decide +kernel⟩, List.mem_of_getElem? (i := 853) (by decide +kernel), List.mem_of_getElem? (i := 1015) (by decide +kernel), List.mem_of_getElem? (i := 1016) (by decide +kernel)⟩
theorem lw_p41 : lw_okq (⟨"HeaviestLightestModel", "readStatement", "()V"⟩, 49) := ⟨⟨by decide +kernel, by decide +kernel⟩, List.mem_of_getElem? (i := 853) (by decide +kernel), List.mem_of_getElem? (i := 1023) (by decide +kernel), List.mem_of_getElem? (i := 1024) (by decide +kernel)⟩
theorem lw_p42 : lw_okq (⟨"HeaviestLightestModel", "here", "()I"⟩, 49) := ⟨⟨by decide +kernel, by decide +kernel⟩, List.mem_of_getElem? (i := 853) (by decide +kernel), List.mem_of_getElem? (i := 1027) (by decide +kernel), List.mem_of_getElem? (i := 1028) (by decide +kernel)⟩
theorem lw_p43 : lw_okq (⟨"HeaviestLightestModel", "readDigit", "()I"⟩, 49) := ⟨⟨by decide +kernel, by decide +kernel⟩, List.mem_of_getElem? (i := 853) (by decide +kernel), List.mem_of_getElem? (i := 1031) (by decide +kernel), List.mem_of_getElem? (i := 1032) (by decide +kernel)⟩
theorem lw_p44 : lw_okq (⟨"HeaviestLightestModel", "carryAll", "([IZ)V"⟩, 49) := ⟨⟨by decide +kernel, by decide +kernel⟩, List.mem_of_getElem? (i := 853) (by decide +kernel), List.mem_of_getElem? (i := 1040) (by decide +kernel), List.mem_of_getElem? (i := 1041) (by decide +kernel)⟩
theorem lw_p45 : lw_okq (⟨"HeaviestLightestModel", "carry", "(I)I"⟩, 49) := ⟨⟨by decide +kernel, by decide +kernel⟩, List.mem_of_getElem? (i := 853) (by decide +kernel), List.mem_of_getElem? (i := 1044) (by decide +kernel), List.mem_of_getElem? (i := 1045) (by decide +kernel)⟩
theorem lw_p46 : lw_okq (⟨"HeaviestLightestModel", "comes", "(I)Z"⟩, 49) := ⟨⟨by decide +kernel, by decide +kernel⟩, List.mem_of_getElem? (i := 853) (by decide +kernel), List.mem_of_getElem? (i := 1048) (by decide +kernel), List.mem_of_getElem? (i := 1049) (by decide +kernel)⟩
theorem lw_p47 : lw_okq (⟨"HeaviestLightestModel", "isStone", "(I)Z"⟩, 49) := ⟨⟨by decide +kernel, by decide +kernel⟩, List.mem_of_getElem? (i := 853) (by decide +kernel), List.mem_of_getElem? (i := 1054) (by decide +kernel), List.mem_of_getElem? (i := 1055) (by decide +kernel)⟩
def lw_privs_3 : List (MethodName × Nat) := [(⟨"HeaviestLightest$Plans", "insert", "(II)V"⟩, 10), (⟨"HeaviestLightest$Plans", "placeFor", "(III)I"⟩, 10), (⟨"HeaviestLightest$Plans", "join", "(III)V"⟩, 10), (⟨"HeaviestLightest$Net", "unsortedWith", "(III)I"⟩, 2), (⟨"HeaviestLightest$Likings", "turnedWith", "(II)I"⟩, 3), (⟨"HeaviestLightest$Likings", "leastBest", "(I)I"⟩, 3), (⟨"HeaviestLightest$Seeds", "drawBelow99", "()I"⟩, 2), (⟨"HeaviestLightestModel", "begin", "(I)V"⟩, 49), (⟨"HeaviestLightestModel", "refuse", "(I)I"⟩, 49), (⟨"HeaviestLightestModel", "readStatement", "()V"⟩, 49), (⟨"HeaviestLightestModel", "here", "()I"⟩, 49), (⟨"HeaviestLightestModel", "readDigit", "()I"⟩, 49), (⟨"HeaviestLightestModel", "carryAll", "([IZ)V"⟩, 49), (⟨"HeaviestLightestModel", "carry", "(I)I"⟩, 49), (⟨"HeaviestLightestModel", "comes", "(I)Z"⟩, 49), (⟨"HeaviestLightestModel", "isStone", "(I)Z"⟩, 49)]
theorem lw_r3 : ∀ q ∈ lw_privs_3, lw_okq q := List.forall_mem_cons.mpr ⟨lw_p32, List.forall_mem_cons.mpr ⟨lw_p33, List.forall_mem_cons.mpr ⟨lw_p34, List.forall_mem_cons.mpr ⟨lw_p35, List.forall_mem_cons.mpr ⟨lw_p36, List.forall_mem_cons.mpr ⟨lw_p37, List.forall_mem_cons.mpr ⟨lw_p38, List.forall_mem_cons.mpr ⟨lw_p39, List.forall_mem_cons.mpr ⟨lw_p40, List.forall_mem_cons.mpr ⟨lw_p41, List.forall_mem_cons.mpr ⟨lw_p42, List.forall_mem_cons.mpr ⟨lw_p43, List.forall_mem_cons.mpr ⟨lw_p44, List.forall_mem_cons.mpr ⟨lw_p45, List.forall_mem_cons.mpr ⟨lw_p46, List.forall_mem_cons.mpr ⟨lw_p47, fun _ h => absurd h List.not_mem_nil⟩⟩⟩⟩⟩⟩⟩⟩⟩⟩⟩⟩⟩⟩⟩⟩
theorem lw_p48 : lw_okq (⟨"HeaviestLightestModel", "noteComes", "(III)Z"⟩, 49) := ⟨⟨by decide +kernel, by decide +kernel⟩, List.mem_of_getElem? (i := 853) (by decide +kernel), List.mem_of_getElem? (i := 1058) (by decide +kernel), List.mem_of_getElem? (i := 1059) (by decide +kernel)⟩
theorem lw_p49 : lw_okq (⟨"HeaviestLightestModel", "areTwo", "(II)Z"⟩, 49) := ⟨⟨by decide +kernel, by decide +kernel⟩, List.mem_of_getElem? (i := 853) (by decide +kernel), List.mem_of_getElem? (i := 1062) (by decide +kernel), List.mem_of_getElem? (i := 1063) (by decide +kernel)⟩
theorem lw_p50 : lw_okq (⟨"HeaviestLightestModel", "note", "(III)V"⟩, 49) := ⟨⟨by decide +kernel, by decide +kernel⟩, List.mem_of_getElem? (i := 853) (by decide +kernel), List.mem_of_getElem? (i := 1066) (by decide +kernel), List.mem_of_getElem? (i := 1067) (by decide +kernel)⟩
theorem lw_p51 : lw_okq (⟨"HeaviestLightestModel", "prefer", "(II)V"⟩, 49) := ⟨⟨by decide +kernel, by decide +kernel⟩, List.mem_of_getElem? (i := 853) (by decide +kernel), List.mem_of_getElem? (i := 1070) (by decide +kernel), List.mem_of_getElem? (i := 1071) (by decide +kernel)⟩
theorem lw_p52 : lw_okq (⟨"HeaviestLightestModel", "comparisonComes", "(II)Z"⟩, 49) := ⟨⟨by decide +kernel, by decide +kernel⟩, List.mem_of_getElem? (i := 853) (by decide +kernel), List.mem_of_getElem? (i := 1074) (by decide +kernel), List.mem_of_getElem? (i := 1075) (by decide +kernel)⟩
theorem lw_p53 : lw_okq (⟨"HeaviestLightestModel", "toldOf", "(III)I"⟩, 49) := ⟨⟨by decide +kernel, by decide +kernel⟩, List.mem_of_getElem? (i := 853) (by decide +kernel), List.mem_of_getElem? (i := 1106) (by decide +kernel), List.mem_of_getElem? (i := 1107) (by decide +kernel)⟩
theorem lw_p54 : lw_okq (⟨"HeaviestLightestModel", "know", "(I)V"⟩, 49) := ⟨⟨by decide +kernel, by decide +kernel⟩, List.mem_of_getElem? (i := 853) (by decide +kernel), List.mem_of_getElem? (i := 1129) (by decide +kernel), List.mem_of_getElem? (i := 1130) (by decide +kernel)⟩
theorem lw_p55 : lw_okq (⟨"HeaviestLightestModel", "closeOver", "()V"⟩, 49) := ⟨⟨by decide +kernel, by decide +kernel⟩, List.mem_of_getElem? (i := 853) (by decide +kernel), List.mem_of_getElem? (i := 1133) (by decide +kernel), List.mem_of_getElem? (i := 1134) (by decide +kernel)⟩
theorem lw_p56 : lw_okq (⟨"HeaviestLightestModel", "ringBits", "()I"⟩, 49) := ⟨⟨by decide +kernel, by decide +kernel⟩, List.mem_of_getElem? (i := 853) (by decide +kernel), List.mem_of_getElem? (i := 1141) (by decide +kernel), List.mem_of_getElem? (i := 1142) (by decide +kernel)⟩
theorem lw_p57 : lw_okq (⟨"HeaviestLightestModel", "isOver", "(II)Z"⟩, 49) := ⟨⟨by decide +kernel, by decide +kernel⟩, List.mem_of_getElem? (i := 853) (by decide +kernel), List.mem_of_getElem? (i := 1145) (by decide +kernel), List.mem_of_getElem? (i := 1146) (by decide +kernel)⟩
theorem lw_p58 : lw_okq (⟨"HeaviestLightestModel", "findOrders", "()V"⟩, 49) := ⟨⟨by decide +kernel, by decide +kernel⟩, List.mem_of_getElem? (i := 853) (by decide +kernel), List.mem_of_getElem? (i := 1161) (by decide +kernel), List.mem_of_getElem? (i := 1162) (by decide +kernel)⟩
theorem lw_p59 : lw_okq (⟨"HeaviestLightestModel", "codes", "()I"⟩, 49) := ⟨⟨by decide +kernel, by decide +kernel⟩, List.mem_of_getElem? (i := 853) (by decide +kernel), List.mem_of_getElem? (i := 1165) (by decide +kernel), List.mem_of_getElem? (i := 1166) (by decide +kernel)⟩
theorem lw_p60 : lw_okq (⟨"HeaviestLightestModel", "layOrder", "(I)Z"⟩, 49) := ⟨⟨by decide +kernel, by decide +kernel⟩, List.mem_of_getElem? (i := 853) (by decide +kernel), List.mem_of_getElem? (i := 1169) (by decide +kernel), List.mem_of_getElem? (i := 1170) (by decide +kernel)⟩
theorem lw_p61 : lw_okq (⟨"HeaviestLightestModel", "fits", "()Z"⟩, 49) := ⟨⟨by decide +kernel, by decide +kernel⟩, List.mem_of_getElem? (i := 853) (by decide +kernel), List.mem_of_getElem? (i := 1173) (by decide +kernel), List.mem_of_getElem? (i := 1174) (by decide +kernel)⟩
theorem lw_p62 : lw_okq (⟨"HeaviestLightestModel", "countAhead", "()V"⟩, 49) := ⟨⟨by decide +kernel, by decide +kernel⟩, List.mem_of_getElem? (i := 853) (by decide +kernel), List.mem_of_getElem? (i := 1177) (by decide +kernel), List.mem_of_getElem? (i := 1178) (by decide +kernel)⟩
theorem lw_p63 : lw_okq (⟨"HeaviestLightestModel", "wrongWanted", "(I)I"⟩, 49) := ⟨⟨by decide +kernel, by decide +kernel⟩, List.mem_of_getElem? (i := 853) (by decide +kernel), List.mem_of_getElem? (i := 1189) (by decide +kernel), List.mem_of_getElem? (i := 1190) (by decide +kernel)⟩
def lw_privs_4 : List (MethodName × Nat) := [(⟨"HeaviestLightestModel", "noteComes", "(III)Z"⟩, 49), (⟨"HeaviestLightestModel", "areTwo", "(II)Z"⟩, 49), (⟨"HeaviestLightestModel", "note", "(III)V"⟩, 49), (⟨"HeaviestLightestModel", "prefer", "(II)V"⟩, 49), (⟨"HeaviestLightestModel", "comparisonComes", "(II)Z"⟩, 49), (⟨"HeaviestLightestModel", "toldOf", "(III)I"⟩, 49), (⟨"HeaviestLightestModel", "know", "(I)V"⟩, 49), (⟨"HeaviestLightestModel", "closeOver", "()V"⟩, 49), (⟨"HeaviestLightestModel", "ringBits", "()I"⟩, 49), (⟨"HeaviestLightestModel", "isOver", "(II)Z"⟩, 49), (⟨"HeaviestLightestModel", "findOrders", "()V"⟩, 49), (⟨"HeaviestLightestModel", "codes", "()I"⟩, 49), (⟨"HeaviestLightestModel", "layOrder", "(I)Z"⟩, 49), (⟨"HeaviestLightestModel", "fits", "()Z"⟩, 49), (⟨"HeaviestLightestModel", "countAhead", "()V"⟩, 49), (⟨"HeaviestLightestModel", "wrongWanted", "(I)I"⟩, 49)]
theorem lw_r4 : ∀ q ∈ lw_privs_4, lw_okq q := List.forall_mem_cons.mpr ⟨lw_p48, List.forall_mem_cons.mpr ⟨lw_p49, List.forall_mem_cons.mpr ⟨lw_p50, List.forall_mem_cons.mpr ⟨lw_p51, List.forall_mem_cons.mpr ⟨lw_p52, List.forall_mem_cons.mpr ⟨lw_p53, List.forall_mem_cons.mpr ⟨lw_p54, List.forall_mem_cons.mpr ⟨lw_p55, List.forall_mem_cons.mpr ⟨lw_p56, List.forall_mem_cons.mpr ⟨lw_p57, List.forall_mem_cons.mpr ⟨lw_p58, List.forall_mem_cons.mpr ⟨lw_p59, List.forall_mem_cons.mpr ⟨lw_p60, List.forall_mem_cons.mpr ⟨lw_p61, List.forall_mem_cons.mpr ⟨lw_p62, List.forall_mem_cons.mpr ⟨lw_p63, fun _ h => absurd h List.not_mem_nil⟩⟩⟩⟩⟩⟩⟩⟩⟩⟩⟩⟩⟩⟩⟩⟩
theorem lw_p64 : lw_okq (⟨"HeaviestLightestModel", "areAgreed", "(I)Z"⟩, 49) := ⟨⟨by decide +kernel, by decide +kernel⟩, List.mem_of_getElem? (i := 853) (by decide +kernel), List.mem_of_getElem? (i := 1193) (by decide +kernel), List.mem_of_getElem? (i := 1194) (by decide +kernel)⟩
theorem lw_p65 : lw_okq (⟨"HeaviestLightestModel", "wantedIn", "(I)I"⟩, 49) := ⟨⟨by decide +kernel, by decide +kernel⟩, List.mem_of_getElem? (i := 853) (by decide +kernel), List.mem_of_getElem? (i := 1197) (by decide +kernel), List.mem_of_getElem? (i := 1198) (by decide +kernel)⟩
theorem lw_p66 : lw_okq (⟨"HeaviestLightestModel", "knownBits", "()I"⟩, 49) := ⟨⟨by decide +kernel, by decide +kernel⟩, List.mem_of_getElem? (i := 853) (by decide +kernel), List.mem_of_getElem? (i := 1205) (by decide +kernel), List.mem_of_getElem? (i := 1206) (by decide +kernel)⟩
theorem lw_p67 : lw_okq (⟨"HeaviestLightestModel", "solveAll", "(I)V"⟩, 49) := ⟨⟨by decide +kernel, by decide +kernel⟩, List.mem_of_getElem? (i := 853) (by decide +kernel), List.mem_of_getElem? (i := 1212) (by decide +kernel), List.mem_of_getElem? (i := 1213) (by decide +kernel)⟩
theorem lw_p68 : lw_okq (⟨"HeaviestLightestModel", "isWhole", "(I)Z"⟩, 49) := ⟨⟨by decide +kernel, by decide +kernel⟩, List.mem_of_getElem? (i := 853) (by decide +kernel), List.mem_of_getElem? (i := 1219) (by decide +kernel), List.mem_of_getElem? (i := 1220) (by decide +kernel)⟩
theorem lw_p69 : lw_okq (⟨"HeaviestLightestModel", "layKnown", "(I)V"⟩, 49) := ⟨⟨by decide +kernel, by decide +kernel⟩, List.mem_of_getElem? (i := 853) (by decide +kernel), List.mem_of_getElem? (i := 1223) (by decide +kernel), List.mem_of_getElem? (i := 1224) (by decide +kernel)⟩
theorem lw_p70 : lw_okq (⟨"HeaviestLightestModel", "solve", "(II)V"⟩, 49) := ⟨⟨by decide +kernel, by decide +kernel⟩, List.mem_of_getElem? (i := 853) (by decide +kernel), List.mem_of_getElem? (i := 1227) (by decide +kernel), List.mem_of_getElem? (i := 1228) (by decide +kernel)⟩
theorem lw_p71 : lw_okq (⟨"HeaviestLightestModel", "withAbove", "(III)I"⟩, 49) := ⟨⟨by decide +kernel, by decide +kernel⟩, List.mem_of_getElem? (i := 853) (by decide +kernel), List.mem_of_getElem? (i := 1232) (by decide +kernel), List.mem_of_getElem? (i := 1233) (by decide +kernel)⟩
theorem lw_p72 : lw_okq (⟨"HeaviestLightestModel", "planBy", "(I)V"⟩, 49) := ⟨⟨by decide +kernel, by decide +kernel⟩, List.mem_of_getElem? (i := 853) (by decide +kernel), List.mem_of_getElem? (i := 1248) (by decide +kernel), List.mem_of_getElem? (i := 1249) (by decide +kernel)⟩
theorem lw_p73 : lw_okq (⟨"HeaviestLightestModel", "planOne", "()V"⟩, 49) := ⟨⟨by decide +kernel, by decide +kernel⟩, List.mem_of_getElem? (i := 853) (by decide +kernel), List.mem_of_getElem? (i := 1252) (by decide +kernel), List.mem_of_getElem? (i := 1253) (by decide +kernel)⟩
theorem lw_p74 : lw_okq (⟨"HeaviestLightestModel", "endOf", "(IZ)I"⟩, 49) := ⟨⟨by decide +kernel, by decide +kernel⟩, List.mem_of_getElem? (i := 853) (by decide +kernel), List.mem_of_getElem? (i := 1256) (by decide +kernel), List.mem_of_getElem? (i := 1257) (by decide +kernel)⟩
theorem lw_p75 : lw_okq (⟨"HeaviestLightestModel", "isHeavier", "(II)Z"⟩, 49) := ⟨⟨by decide +kernel, by decide +kernel⟩, List.mem_of_getElem? (i := 853) (by decide +kernel), List.mem_of_getElem? (i := 1260) (by decide +kernel), List.mem_of_getElem? (i := 1261) (by decide +kernel)⟩
theorem lw_p76 : lw_okq (⟨"HeaviestLightestModel", "planPairs", "()V"⟩, 49) := ⟨⟨by decide +kernel, by decide +kernel⟩, List.mem_of_getElem? (i := 853) (by decide +kernel), List.mem_of_getElem? (i := 1264) (by decide +kernel), List.mem_of_getElem? (i := 1265) (by decide +kernel)⟩
theorem lw_p77 : lw_okq (⟨"HeaviestLightestModel", "planCup", "()V"⟩, 49) := ⟨⟨by decide +kernel, by decide +kernel⟩, List.mem_of_getElem? (i := 853) (by decide +kernel), List.mem_of_getElem? (i := 1268) (by decide +kernel), List.mem_of_getElem? (i := 1269) (by decide +kernel)⟩
theorem lw_p78 : lw_okq (⟨"HeaviestLightestModel", "planAll", "(I)V"⟩, 49) := ⟨⟨by decide +kernel, by decide +kernel⟩, List.mem_of_getElem? (i := 853) (by decide +kernel), List.mem_of_getElem? (i := 1272) (by decide +kernel), List.mem_of_getElem? (i := 1273) (by decide +kernel)⟩
theorem lw_p79 : lw_okq (⟨"HeaviestLightestModel", "insertAll", "(II)V"⟩, 49) := ⟨⟨by decide +kernel, by decide +kernel⟩, List.mem_of_getElem? (i := 853) (by decide +kernel), List.mem_of_getElem? (i := 1276) (by decide +kernel), List.mem_of_getElem? (i := 1277) (by decide +kernel)⟩
def lw_privs_5 : List (MethodName × Nat) := [(⟨"HeaviestLightestModel", "areAgreed", "(I)Z"⟩, 49), (⟨"HeaviestLightestModel", "wantedIn", "(I)I"⟩, 49), (⟨"HeaviestLightestModel", "knownBits", "()I"⟩, 49), (⟨"HeaviestLightestModel", "solveAll", "(I)V"⟩, 49), (⟨"HeaviestLightestModel", "isWhole", "(I)Z"⟩, 49), (⟨"HeaviestLightestModel", "layKnown", "(I)V"⟩, 49), (⟨"HeaviestLightestModel", "solve", "(II)V"⟩, 49), (⟨"HeaviestLightestModel", "withAbove", "(III)I"⟩, 49), (⟨"HeaviestLightestModel", "planBy", "(I)V"⟩, 49), (⟨"HeaviestLightestModel", "planOne", "()V"⟩, 49), (⟨"HeaviestLightestModel", "endOf", "(IZ)I"⟩, 49), (⟨"HeaviestLightestModel", "isHeavier", "(II)Z"⟩, 49), (⟨"HeaviestLightestModel", "planPairs", "()V"⟩, 49), (⟨"HeaviestLightestModel", "planCup", "()V"⟩, 49), (⟨"HeaviestLightestModel", "planAll", "(I)V"⟩, 49), (⟨"HeaviestLightestModel", "insertAll", "(II)V"⟩, 49)]
theorem lw_r5 : ∀ q ∈ lw_privs_5, lw_okq q := List.forall_mem_cons.mpr ⟨lw_p64, List.forall_mem_cons.mpr ⟨lw_p65, List.forall_mem_cons.mpr ⟨lw_p66, List.forall_mem_cons.mpr ⟨lw_p67, List.forall_mem_cons.mpr ⟨lw_p68, List.forall_mem_cons.mpr ⟨lw_p69, List.forall_mem_cons.mpr ⟨lw_p70, List.forall_mem_cons.mpr ⟨lw_p71, List.forall_mem_cons.mpr ⟨lw_p72, List.forall_mem_cons.mpr ⟨lw_p73, List.forall_mem_cons.mpr ⟨lw_p74, List.forall_mem_cons.mpr ⟨lw_p75, List.forall_mem_cons.mpr ⟨lw_p76, List.forall_mem_cons.mpr ⟨lw_p77, List.forall_mem_cons.mpr ⟨lw_p78, List.forall_mem_cons.mpr ⟨lw_p79, fun _ h => absurd h List.not_mem_nil⟩⟩⟩⟩⟩⟩⟩⟩⟩⟩⟩⟩⟩⟩⟩⟩
theorem lw_p80 : lw_okq (⟨"HeaviestLightestModel", "planMerge", "(I)V"⟩, 49) := ⟨⟨by decide +kernel, by decide +kernel⟩, List.mem_of_getElem? (i := 853) (by decide +kernel), List.mem_of_getElem? (i := 1280) (by decide +kernel), List.mem_of_getElem? (i := 1281) (by decide +kernel)⟩
theorem lw_p81 : lw_okq (⟨"HeaviestLightestModel", "mergeRows", "(II)V"⟩, 49) := ⟨⟨by decide +kernel, by decide +kernel⟩, List.mem_of_getElem? (i := 853) (by decide +kernel), List.mem_of_getElem? (i := 1284) (by decide +kernel), List.mem_of_getElem? (i := 1285) (by decide +kernel)⟩
theorem lw_p82 : lw_okq (⟨"HeaviestLightestModel", "gapWith", "(II)I"⟩, 49) := ⟨⟨by decide +kernel, by decide +kernel⟩, List.mem_of_getElem? (i := 853) (by decide +kernel), List.mem_of_getElem? (i := 1304) (by decide +kernel), List.mem_of_getElem? (i := 1305) (by decide +kernel)⟩
theorem lw_p83 : lw_okq (⟨"HeaviestLightestModel", "passAll", "(I)I"⟩, 49) := ⟨⟨by decide +kernel, by decide +kernel⟩, List.mem_of_getElem? (i := 853) (by decide +kernel), List.mem_of_getElem? (i := 1308) (by decide +kernel), List.mem_of_getElem? (i := 1309) (by decide +kernel)⟩
theorem lw_p84 : lw_okq (⟨"HeaviestLightestModel", "passOne", "(III)I"⟩, 49) := ⟨⟨by decide +kernel, by decide +kernel⟩, List.mem_of_getElem? (i := 853) (by decide +kernel), List.mem_of_getElem? (i := 1312) (by decide +kernel), List.mem_of_getElem? (i := 1313) (by decide +kernel)⟩
theorem lw_p85 : lw_okq (⟨"HeaviestLightestModel", "isLiked", "(II)Z"⟩, 49) := ⟨⟨by decide +kernel, by decide +kernel⟩, List.mem_of_getElem? (i := 853) (by decide +kernel), List.mem_of_getElem? (i := 1343) (by decide +kernel), List.mem_of_getElem? (i := 1344) (by decide +kernel)⟩
theorem lw_p86 : lw_okq (⟨"HeaviestLightestModel", "isLoop", "(III)Z"⟩, 49) := ⟨⟨by decide +kernel, by decide +kernel⟩, List.mem_of_getElem? (i := 853) (by decide +kernel), List.mem_of_getElem? (i := 1351) (by decide +kernel), List.mem_of_getElem? (i := 1352) (by decide +kernel)⟩
theorem lw_p87 : lw_okq (⟨"HeaviestLightestModel", "against", "()I"⟩, 49) := ⟨⟨by decide +kernel, by decide +kernel⟩, List.mem_of_getElem? (i := 853) (by decide +kernel), List.mem_of_getElem? (i := 1359) (by decide +kernel), List.mem_of_getElem? (i := 1360) (by decide +kernel)⟩
def lw_privs_6 : List (MethodName × Nat) := [(⟨"HeaviestLightestModel", "planMerge", "(I)V"⟩, 49), (⟨"HeaviestLightestModel", "mergeRows", "(II)V"⟩, 49), (⟨"HeaviestLightestModel", "gapWith", "(II)I"⟩, 49), (⟨"HeaviestLightestModel", "passAll", "(I)I"⟩, 49), (⟨"HeaviestLightestModel", "passOne", "(III)I"⟩, 49), (⟨"HeaviestLightestModel", "isLiked", "(II)Z"⟩, 49), (⟨"HeaviestLightestModel", "isLoop", "(III)Z"⟩, 49), (⟨"HeaviestLightestModel", "against", "()I"⟩, 49)]
theorem lw_r6 : ∀ q ∈ lw_privs_6, lw_okq q := List.forall_mem_cons.mpr ⟨lw_p80, List.forall_mem_cons.mpr ⟨lw_p81, List.forall_mem_cons.mpr ⟨lw_p82, List.forall_mem_cons.mpr ⟨lw_p83, List.forall_mem_cons.mpr ⟨lw_p84, List.forall_mem_cons.mpr ⟨lw_p85, List.forall_mem_cons.mpr ⟨lw_p86, List.forall_mem_cons.mpr ⟨lw_p87, fun _ h => absurd h List.not_mem_nil⟩⟩⟩⟩⟩⟩⟩⟩
def lw_privs : List (MethodName × Nat) := lw_privs_1 ++ (lw_privs_2 ++ (lw_privs_3 ++ (lw_privs_4 ++ (lw_privs_5 ++ (lw_privs_6)))))
def lw_tbl : List Cond := k2_sels lw_privs ++ tables_1
theorem lw_privs_ok : ∀ q ∈ lw_privs, lw_okq q := by
  show ∀ q ∈ lw_privs_1 ++ (lw_privs_2 ++ (lw_privs_3 ++ (lw_privs_4 ++ (lw_privs_5 ++ (lw_privs_6))))), lw_okq q
  exact List.forall_mem_append.mpr ⟨lw_r1, List.forall_mem_append.mpr ⟨lw_r2, List.forall_mem_append.mpr ⟨lw_r3, List.forall_mem_append.mpr ⟨lw_r4, List.forall_mem_append.mpr ⟨lw_r5, lw_r6⟩⟩⟩⟩⟩
-- ===== end of PART A; then your names; then what follows =====
def RX0 : String := "HeaviestLightest$Barn"
def TX0 : u_T := fun k => match k with
  | 0 => ("HeaviestLightest$Barn", "stones", "I", false)
  | 1 => ("HeaviestLightest$Barn", "weights", "[I", true)
  | 2 => ("HeaviestLightest$Barn", "scaleKind", "I", false)
  | 3 => ("HeaviestLightest$Barn", "scaleFigure", "I", false)
  | 4 => ("HeaviestLightest$Barn", "weighings", "I", false)
  | 5 => ("HeaviestLightest$Barn", "firsts", "[I", true)
  | 6 => ("HeaviestLightest$Barn", "seconds", "[I", true)
  | 7 => ("HeaviestLightest$Barn", "tolds", "[I", true)
  | 8 => ("HeaviestLightest$Barn", "comparisons", "I", false)
  | 9 => ("HeaviestLightest$Barn", "lessers", "[I", true)
  | 10 => ("HeaviestLightest$Barn", "greaters", "[I", true)
  | _ => ("HeaviestLightest$Barn", "liked", "[I", true)
def tyX0 : Nat → FieldType := fun k => match k with
  | 0 => .int
  | 1 => .array .int
  | 2 => .int
  | 3 => .int
  | 4 => .int
  | 5 => .array .int
  | 6 => .array .int
  | 7 => .array .int
  | 8 => .int
  | 9 => .array .int
  | 10 => .array .int
  | _ => .array .int
theorem nmX0 : ∀ a, a < 12 → ∀ b, b < 12 → a ≠ b → (TX0 a).2.1 ≠ (TX0 b).2.1 := by decide +kernel
theorem tyX0_ok : ∀ k, k < 12 → parseFieldDescriptor (TX0 k).2.2.1 = some (tyX0 k) := by decide +kernel
abbrev cX0_init : ByteArray := prog_2_method_1_code
def yX0_init : MethodName := ⟨RX0, "<init>", "()V"⟩
abbrev cX0_begin : ByteArray := prog_2_method_2_code
def yX0_begin : MethodName := ⟨RX0, "begin", "(I)V"⟩
abbrev cX0_takeFrom : ByteArray := prog_2_method_3_code
def yX0_takeFrom : MethodName := ⟨RX0, "takeFrom", "(LHeaviestLightest$Barn;)V"⟩
abbrev cX0_isStone : ByteArray := prog_2_method_4_code
def yX0_isStone : MethodName := ⟨RX0, "isStone", "(I)Z"⟩
abbrev cX0_areTwo : ByteArray := prog_2_method_5_code
def yX0_areTwo : MethodName := ⟨RX0, "areTwo", "(II)Z"⟩
abbrev cX0_refusalOfWeight : ByteArray := prog_2_method_6_code
def yX0_refusalOfWeight : MethodName := ⟨RX0, "refusalOfWeight", "(II)I"⟩
abbrev cX0_changeWeight : ByteArray := prog_2_method_7_code
def yX0_changeWeight : MethodName := ⟨RX0, "changeWeight", "(II)I"⟩
abbrev cX0_refusalOfScale : ByteArray := prog_2_method_8_code
def yX0_refusalOfScale : MethodName := ⟨RX0, "refusalOfScale", "(II)I"⟩
abbrev cX0_changeScale : ByteArray := prog_2_method_9_code
def yX0_changeScale : MethodName := ⟨RX0, "changeScale", "(II)I"⟩
abbrev cX0_refusalOfWeighing : ByteArray := prog_2_method_10_code
def yX0_refusalOfWeighing : MethodName := ⟨RX0, "refusalOfWeighing", "(II)I"⟩
abbrev cX0_write : ByteArray := prog_2_method_11_code
def yX0_write : MethodName := ⟨RX0, "write", "(III)V"⟩
abbrev cX0_refusalOfComparison : ByteArray := prog_2_method_12_code
def yX0_refusalOfComparison : MethodName := ⟨RX0, "refusalOfComparison", "(II)I"⟩
abbrev cX0_addComparison : ByteArray := prog_2_method_13_code
def yX0_addComparison : MethodName := ⟨RX0, "addComparison", "(II)I"⟩
abbrev cX0_turnLiking : ByteArray := prog_2_method_14_code
def yX0_turnLiking : MethodName := ⟨RX0, "turnLiking", "(II)I"⟩
abbrev cX0_allLikings : ByteArray := prog_2_method_15_code
def yX0_allLikings : MethodName := ⟨RX0, "allLikings", "()I"⟩
abbrev cX0_allWeights : ByteArray := prog_2_method_16_code
def yX0_allWeights : MethodName := ⟨RX0, "allWeights", "()I"⟩
abbrev cX0_answer : ByteArray := prog_2_method_17_code
def yX0_answer : MethodName := ⟨RX0, "answer", "(III)I"⟩
abbrev cX0_byWeights : ByteArray := prog_2_method_18_code
def yX0_byWeights : MethodName := ⟨RX0, "byWeights", "(III)I"⟩
abbrev cX0_otherWay : ByteArray := prog_2_method_19_code
def yX0_otherWay : MethodName := ⟨RX0, "otherWay", "(I)I"⟩
abbrev cX0_firstWrong : ByteArray := prog_2_method_20_code
def yX0_firstWrong : MethodName := ⟨RX0, "firstWrong", "([II)I"⟩
def RX1 : String := "HeaviestLightest$Known"
def TX1 : u_T := fun k => match k with
  | 0 => ("HeaviestLightest$Known", "stones", "I", false)
  | 1 => ("HeaviestLightest$Known", "over", "[I", true)
  | 2 => ("HeaviestLightest$Known", "under", "[I", true)
  | _ => ("HeaviestLightest$Known", "ways", "[I", true)
def tyX1 : Nat → FieldType := fun k => match k with
  | 0 => .int
  | 1 => .array .int
  | 2 => .array .int
  | _ => .array .int
theorem nmX1 : ∀ a, a < 4 → ∀ b, b < 4 → a ≠ b → (TX1 a).2.1 ≠ (TX1 b).2.1 := by decide +kernel
theorem tyX1_ok : ∀ k, k < 4 → parseFieldDescriptor (TX1 k).2.2.1 = some (tyX1 k) := by decide +kernel
abbrev cX1_init : ByteArray := prog_3_method_1_code
def yX1_init : MethodName := ⟨RX1, "<init>", "()V"⟩
abbrev cX1_learn : ByteArray := prog_3_method_2_code
def yX1_learn : MethodName := ⟨RX1, "learn", "(LHeaviestLightest$Barn;)V"⟩
abbrev cX1_learnTurned : ByteArray := prog_3_method_3_code
def yX1_learnTurned : MethodName := ⟨RX1, "learnTurned", "(LHeaviestLightest$Barn;I)V"⟩
abbrev cX1_follow : ByteArray := prog_3_method_4_code
def yX1_follow : MethodName := ⟨RX1, "follow", "()V"⟩
abbrev cX1_ringedStones : ByteArray := prog_3_method_5_code
def yX1_ringedStones : MethodName := ⟨RX1, "ringedStones", "()I"⟩
abbrev cX1_liesOf : ByteArray := prog_3_method_6_code
def yX1_liesOf : MethodName := ⟨RX1, "liesOf", "(LHeaviestLightest$Barn;)I"⟩
abbrev cX1_isOpen : ByteArray := prog_3_method_7_code
def yX1_isOpen : MethodName := ⟨RX1, "isOpen", "(II)Z"⟩
abbrev cX1_openPairs : ByteArray := prog_3_method_8_code
def yX1_openPairs : MethodName := ⟨RX1, "openPairs", "()I"⟩
abbrev cX1_allOrders : ByteArray := prog_3_method_9_code
def yX1_allOrders : MethodName := ⟨RX1, "allOrders", "()I"⟩
abbrev cX1_ordersWithAhead : ByteArray := prog_3_method_10_code
def yX1_ordersWithAhead : MethodName := ⟨RX1, "ordersWithAhead", "(II)I"⟩
abbrev cX1_stoneOfFirst : ByteArray := prog_3_method_11_code
def yX1_stoneOfFirst : MethodName := ⟨RX1, "stoneOfFirst", "(I)I"⟩
abbrev cX1_leastFree : ByteArray := prog_3_method_12_code
def yX1_leastFree : MethodName := ⟨RX1, "leastFree", "(I)I"⟩
abbrev cX1_halving : ByteArray := prog_3_method_13_code
def yX1_halving : MethodName := ⟨RX1, "halving", "(Z)I"⟩
def RX2 : String := "HeaviestLightest$Law"
def TX2 : u_T := fun k => match k with
  | _ => ("", "", "", false)
def tyX2 : Nat → FieldType := fun k => match k with
  | _ => .int
theorem nmX2 : ∀ a, a < 0 → ∀ b, b < 0 → a ≠ b → (TX2 a).2.1 ≠ (TX2 b).2.1 := by decide +kernel
theorem tyX2_ok : ∀ k, k < 0 → parseFieldDescriptor (TX2 k).2.2.1 = some (tyX2 k) := by decide +kernel
abbrev cX2_bound : ByteArray := prog_4_method_2_code
def yX2_bound : MethodName := ⟨RX2, "bound", "(II)I"⟩
abbrev cX2_halvings : ByteArray := prog_4_method_3_code
def yX2_halvings : MethodName := ⟨RX2, "halvings", "(I)I"⟩
abbrev cX2_byInsert : ByteArray := prog_4_method_4_code
def yX2_byInsert : MethodName := ⟨RX2, "byInsert", "(I)I"⟩
abbrev cX2_byOrders : ByteArray := prog_4_method_5_code
def yX2_byOrders : MethodName := ⟨RX2, "byOrders", "(I)I"⟩
def RX3 : String := "HeaviestLightest$Likings"
def TX3 : u_T := fun k => match k with
  | 0 => ("HeaviestLightest$Likings", "stones", "I", false)
  | 1 => ("HeaviestLightest$Likings", "likers", "[I", true)
  | _ => ("HeaviestLightest$Likings", "turned", "[I", true)
def tyX3 : Nat → FieldType := fun k => match k with
  | 0 => .int
  | 1 => .array .int
  | _ => .array .int
theorem nmX3 : ∀ a, a < 3 → ∀ b, b < 3 → a ≠ b → (TX3 a).2.1 ≠ (TX3 b).2.1 := by decide +kernel
theorem tyX3_ok : ∀ k, k < 3 → parseFieldDescriptor (TX3 k).2.2.1 = some (tyX3 k) := by decide +kernel
abbrev cX3_init : ByteArray := prog_5_method_1_code
def yX3_init : MethodName := ⟨RX3, "<init>", "()V"⟩
abbrev cX3_ringsOfThree : ByteArray := prog_5_method_2_code
def yX3_ringsOfThree : MethodName := ⟨RX3, "ringsOfThree", "(LHeaviestLightest$Barn;)I"⟩
abbrev cX3_isRing : ByteArray := prog_5_method_3_code
def yX3_isRing : MethodName := ⟨RX3, "isRing", "([IIII)Z"⟩
abbrev cX3_reckon : ByteArray := prog_5_method_4_code
def yX3_reckon : MethodName := ⟨RX3, "reckon", "(LHeaviestLightest$Barn;)V"⟩
abbrev cX3_turnedWith : ByteArray := prog_5_method_5_code
def yX3_turnedWith : MethodName := ⟨RX3, "turnedWith", "(II)I"⟩
abbrev cX3_fewestTurned : ByteArray := prog_5_method_6_code
def yX3_fewestTurned : MethodName := ⟨RX3, "fewestTurned", "()I"⟩
abbrev cX3_stoneOfFirst : ByteArray := prog_5_method_7_code
def yX3_stoneOfFirst : MethodName := ⟨RX3, "stoneOfFirst", "(I)I"⟩
abbrev cX3_leastBest : ByteArray := prog_5_method_8_code
def yX3_leastBest : MethodName := ⟨RX3, "leastBest", "(I)I"⟩
def RX4 : String := "HeaviestLightest$Net"
def TX4 : u_T := fun k => match k with
  | 0 => ("HeaviestLightest$Net", "places", "[I", true)
  | _ => ("HeaviestLightest$Net", "outcomes", "[I", true)
def tyX4 : Nat → FieldType := fun k => match k with
  | 0 => .array .int
  | _ => .array .int
theorem nmX4 : ∀ a, a < 2 → ∀ b, b < 2 → a ≠ b → (TX4 a).2.1 ≠ (TX4 b).2.1 := by decide +kernel
theorem tyX4_ok : ∀ k, k < 2 → parseFieldDescriptor (TX4 k).2.2.1 = some (tyX4 k) := by decide +kernel
abbrev cX4_init : ByteArray := prog_6_method_1_code
def yX4_init : MethodName := ⟨RX4, "<init>", "()V"⟩
abbrev cX4_compared : ByteArray := prog_6_method_2_code
def yX4_compared : MethodName := ⟨RX4, "compared", "(III)I"⟩
abbrev cX4_isInOrder : ByteArray := prog_6_method_3_code
def yX4_isInOrder : MethodName := ⟨RX4, "isInOrder", "(I)Z"⟩
abbrev cX4_unsortedRows : ByteArray := prog_6_method_4_code
def yX4_unsortedRows : MethodName := ⟨RX4, "unsortedRows", "(LHeaviestLightest$Barn;)I"⟩
abbrev cX4_idleOnes : ByteArray := prog_6_method_5_code
def yX4_idleOnes : MethodName := ⟨RX4, "idleOnes", "(LHeaviestLightest$Barn;)I"⟩
abbrev cX4_mendingOne : ByteArray := prog_6_method_6_code
def yX4_mendingOne : MethodName := ⟨RX4, "mendingOne", "(LHeaviestLightest$Barn;)I"⟩
abbrev cX4_unsortedWith : ByteArray := prog_6_method_7_code
def yX4_unsortedWith : MethodName := ⟨RX4, "unsortedWith", "(III)I"⟩
abbrev cX4_fewestRounds : ByteArray := prog_6_method_8_code
def yX4_fewestRounds : MethodName := ⟨RX4, "fewestRounds", "(LHeaviestLightest$Barn;)I"⟩
abbrev cX4_stoneBehind : ByteArray := prog_6_method_9_code
def yX4_stoneBehind : MethodName := ⟨RX4, "stoneBehind", "(LHeaviestLightest$Barn;I)I"⟩
def RX5 : String := "HeaviestLightest$Plans"
def TX5 : u_T := fun k => match k with
  | 0 => ("HeaviestLightest$Plans", "weights", "[I", true)
  | 1 => ("HeaviestLightest$Plans", "stones", "I", false)
  | 2 => ("HeaviestLightest$Plans", "weighings", "I", false)
  | 3 => ("HeaviestLightest$Plans", "told", "[I", true)
  | 4 => ("HeaviestLightest$Plans", "toldSize", "I", false)
  | 5 => ("HeaviestLightest$Plans", "spare", "[I", true)
  | 6 => ("HeaviestLightest$Plans", "left", "[I", true)
  | 7 => ("HeaviestLightest$Plans", "winners", "[I", true)
  | 8 => ("HeaviestLightest$Plans", "losers", "[I", true)
  | _ => ("HeaviestLightest$Plans", "matches", "I", false)
def tyX5 : Nat → FieldType := fun k => match k with
  | 0 => .array .int
  | 1 => .int
  | 2 => .int
  | 3 => .array .int
  | 4 => .int
  | 5 => .array .int
  | 6 => .array .int
  | 7 => .array .int
  | 8 => .array .int
  | _ => .int
theorem nmX5 : ∀ a, a < 10 → ∀ b, b < 10 → a ≠ b → (TX5 a).2.1 ≠ (TX5 b).2.1 := by decide +kernel
theorem tyX5_ok : ∀ k, k < 10 → parseFieldDescriptor (TX5 k).2.2.1 = some (tyX5 k) := by decide +kernel
abbrev cX5_init : ByteArray := prog_7_method_1_code
def yX5_init : MethodName := ⟨RX5, "<init>", "()V"⟩
abbrev cX5_carryOut : ByteArray := prog_7_method_2_code
def yX5_carryOut : MethodName := ⟨RX5, "carryOut", "(I[II)I"⟩
abbrev cX5_stoneAt : ByteArray := prog_7_method_3_code
def yX5_stoneAt : MethodName := ⟨RX5, "stoneAt", "(I)I"⟩
abbrev cX5_isHeavier : ByteArray := prog_7_method_4_code
def yX5_isHeavier : MethodName := ⟨RX5, "isHeavier", "(II)Z"⟩
abbrev cX5_tellTwo : ByteArray := prog_7_method_5_code
def yX5_tellTwo : MethodName := ⟨RX5, "tellTwo", "(II)V"⟩
abbrev cX5_heaviestOf : ByteArray := prog_7_method_6_code
def yX5_heaviestOf : MethodName := ⟨RX5, "heaviestOf", "([II)I"⟩
abbrev cX5_lightestOf : ByteArray := prog_7_method_7_code
def yX5_lightestOf : MethodName := ⟨RX5, "lightestOf", "([II)I"⟩
abbrev cX5_bothOneBehindTheOther : ByteArray := prog_7_method_8_code
def yX5_bothOneBehindTheOther : MethodName := ⟨RX5, "bothOneBehindTheOther", "()V"⟩
abbrev cX5_bothByTwos : ByteArray := prog_7_method_9_code
def yX5_bothByTwos : MethodName := ⟨RX5, "bothByTwos", "()V"⟩
abbrev cX5_cup : ByteArray := prog_7_method_10_code
def yX5_cup : MethodName := ⟨RX5, "cup", "()V"⟩
abbrev cX5_playRound : ByteArray := prog_7_method_11_code
def yX5_playRound : MethodName := ⟨RX5, "playRound", "(I)I"⟩
abbrev cX5_insert : ByteArray := prog_7_method_12_code
def yX5_insert : MethodName := ⟨RX5, "insert", "(II)V"⟩
abbrev cX5_placeFor : ByteArray := prog_7_method_13_code
def yX5_placeFor : MethodName := ⟨RX5, "placeFor", "(III)I"⟩
abbrev cX5_merge : ByteArray := prog_7_method_14_code
def yX5_merge : MethodName := ⟨RX5, "merge", "(LHeaviestLightest$Plans;IIII)V"⟩
abbrev cX5_join : ByteArray := prog_7_method_15_code
def yX5_join : MethodName := ⟨RX5, "join", "(III)V"⟩
def RX6 : String := "HeaviestLightest$Reader"
def TX6 : u_T := fun k => match k with
  | 0 => ("HeaviestLightest$Reader", "letters", "[I", true)
  | 1 => ("HeaviestLightest$Reader", "size", "I", false)
  | _ => ("HeaviestLightest$Reader", "trial", "LHeaviestLightest$Barn;", true)
def tyX6 : Nat → FieldType := fun k => match k with
  | 0 => .array .int
  | 1 => .int
  | _ => .object "HeaviestLightest$Barn"
theorem nmX6 : ∀ a, a < 3 → ∀ b, b < 3 → a ≠ b → (TX6 a).2.1 ≠ (TX6 b).2.1 := by decide +kernel
theorem tyX6_ok : ∀ k, k < 3 → parseFieldDescriptor (TX6 k).2.2.1 = some (tyX6 k) := by decide +kernel
abbrev cX6_init : ByteArray := prog_8_method_1_code
def yX6_init : MethodName := ⟨RX6, "<init>", "()V"⟩
abbrev cX6_isFull : ByteArray := prog_8_method_2_code
def yX6_isFull : MethodName := ⟨RX6, "isFull", "()Z"⟩
abbrev cX6_take : ByteArray := prog_8_method_3_code
def yX6_take : MethodName := ⟨RX6, "take", "(I)I"⟩
abbrev cX6_read : ByteArray := prog_8_method_4_code
def yX6_read : MethodName := ⟨RX6, "read", "(LHeaviestLightest$Barn;)I"⟩
abbrev cX6_faultOfForm : ByteArray := prog_8_method_5_code
def yX6_faultOfForm : MethodName := ⟨RX6, "faultOfForm", "(I)I"⟩
abbrev cX6_mostDigits : ByteArray := prog_8_method_6_code
def yX6_mostDigits : MethodName := ⟨RX6, "mostDigits", "(I)I"⟩
abbrev cX6_leastDigits : ByteArray := prog_8_method_7_code
def yX6_leastDigits : MethodName := ⟨RX6, "leastDigits", "(I)I"⟩
abbrev cX6_digitAt : ByteArray := prog_8_method_8_code
def yX6_digitAt : MethodName := ⟨RX6, "digitAt", "(I)I"⟩
abbrev cX6_carryOut : ByteArray := prog_8_method_9_code
def yX6_carryOut : MethodName := ⟨RX6, "carryOut", "(II)Z"⟩
abbrev cX6_beginAnew : ByteArray := prog_8_method_10_code
def yX6_beginAnew : MethodName := ⟨RX6, "beginAnew", "(I)Z"⟩
abbrev cX6_putWeight : ByteArray := prog_8_method_11_code
def yX6_putWeight : MethodName := ⟨RX6, "putWeight", "(II)Z"⟩
abbrev cX6_putScale : ByteArray := prog_8_method_12_code
def yX6_putScale : MethodName := ⟨RX6, "putScale", "(II)Z"⟩
abbrev cX6_putWeighing : ByteArray := prog_8_method_13_code
def yX6_putWeighing : MethodName := ⟨RX6, "putWeighing", "(III)Z"⟩
abbrev cX6_putLiking : ByteArray := prog_8_method_14_code
def yX6_putLiking : MethodName := ⟨RX6, "putLiking", "(II)Z"⟩
abbrev cX6_putComparison : ByteArray := prog_8_method_15_code
def yX6_putComparison : MethodName := ⟨RX6, "putComparison", "(II)Z"⟩
def RX7 : String := "HeaviestLightest$Seeds"
def TX7 : u_T := fun k => match k with
  | 0 => ("HeaviestLightest$Seeds", "drawn", "[I", true)
  | _ => ("HeaviestLightest$Seeds", "z", "I", false)
def tyX7 : Nat → FieldType := fun k => match k with
  | 0 => .array .int
  | _ => .int
theorem nmX7 : ∀ a, a < 2 → ∀ b, b < 2 → a ≠ b → (TX7 a).2.1 ≠ (TX7 b).2.1 := by decide +kernel
theorem tyX7_ok : ∀ k, k < 2 → parseFieldDescriptor (TX7 k).2.2.1 = some (tyX7 k) := by decide +kernel
abbrev cX7_init : ByteArray := prog_9_method_1_code
def yX7_init : MethodName := ⟨RX7, "<init>", "()V"⟩
abbrev cX7_weighingsOf : ByteArray := prog_9_method_2_code
def yX7_weighingsOf : MethodName := ⟨RX7, "weighingsOf", "(LHeaviestLightest$Plans;IIII)I"⟩
abbrev cX7_drawBelow99 : ByteArray := prog_9_method_3_code
def yX7_drawBelow99 : MethodName := ⟨RX7, "drawBelow99", "()I"⟩
def RX8 : String := "HeaviestLightest$Wants"
def TX8 : u_T := fun k => match k with
  | 0 => ("HeaviestLightest$Wants", "stones", "I", false)
  | 1 => ("HeaviestLightest$Wants", "orders", "I", false)
  | 2 => ("HeaviestLightest$Wants", "order", "[I", true)
  | 3 => ("HeaviestLightest$Wants", "ahead", "[I", true)
  | 4 => ("HeaviestLightest$Wants", "answers", "[I", true)
  | 5 => ("HeaviestLightest$Wants", "atWorst", "[I", true)
  | _ => ("HeaviestLightest$Wants", "together", "[I", true)
def tyX8 : Nat → FieldType := fun k => match k with
  | 0 => .int
  | 1 => .int
  | 2 => .array .int
  | 3 => .array .int
  | 4 => .array .int
  | 5 => .array .int
  | _ => .array .int
theorem nmX8 : ∀ a, a < 7 → ∀ b, b < 7 → a ≠ b → (TX8 a).2.1 ≠ (TX8 b).2.1 := by decide +kernel
theorem tyX8_ok : ∀ k, k < 7 → parseFieldDescriptor (TX8 k).2.2.1 = some (tyX8 k) := by decide +kernel
abbrev cX8_init : ByteArray := prog_10_method_1_code
def yX8_init : MethodName := ⟨RX8, "<init>", "()V"⟩
abbrev cX8_tellsAlready : ByteArray := prog_10_method_2_code
def yX8_tellsAlready : MethodName := ⟨RX8, "tellsAlready", "(LHeaviestLightest$Known;I)Z"⟩
abbrev cX8_fewestAtWorst : ByteArray := prog_10_method_3_code
def yX8_fewestAtWorst : MethodName := ⟨RX8, "fewestAtWorst", "(LHeaviestLightest$Known;I)I"⟩
abbrev cX8_leastMean : ByteArray := prog_10_method_4_code
def yX8_leastMean : MethodName := ⟨RX8, "leastMean", "(LHeaviestLightest$Known;IZ)I"⟩
abbrev cX8_commonDivisor : ByteArray := prog_10_method_5_code
def yX8_commonDivisor : MethodName := ⟨RX8, "commonDivisor", "(II)I"⟩
abbrev cX8_fitting : ByteArray := prog_10_method_6_code
def yX8_fitting : MethodName := ⟨RX8, "fitting", "(LHeaviestLightest$Known;)I"⟩
abbrev cX8_layOut : ByteArray := prog_10_method_7_code
def yX8_layOut : MethodName := ⟨RX8, "layOut", "(I)V"⟩
abbrev cX8_isOrder : ByteArray := prog_10_method_8_code
def yX8_isOrder : MethodName := ⟨RX8, "isOrder", "(I)Z"⟩
abbrev cX8_noteOrder : ByteArray := prog_10_method_9_code
def yX8_noteOrder : MethodName := ⟨RX8, "noteOrder", "(I)V"⟩
abbrev cX8_answerOf : ByteArray := prog_10_method_10_code
def yX8_answerOf : MethodName := ⟨RX8, "answerOf", "(II)I"⟩
abbrev cX8_isTold : ByteArray := prog_10_method_11_code
def yX8_isTold : MethodName := ⟨RX8, "isTold", "(II)Z"⟩
abbrev cX8_indexOf : ByteArray := prog_10_method_12_code
def yX8_indexOf : MethodName := ⟨RX8, "indexOf", "(II)I"⟩
abbrev cX8_solve : ByteArray := prog_10_method_13_code
def yX8_solve : MethodName := ⟨RX8, "solve", "(LHeaviestLightest$Wants;III)I"⟩
def RX9 : String := "HeaviestLightest"
def TX9 : u_T := fun k => match k with
  | 0 => ("HeaviestLightest", "now", "LHeaviestLightest$Barn;", true)
  | 1 => ("HeaviestLightest", "image", "LHeaviestLightest$Barn;", true)
  | 2 => ("HeaviestLightest", "imageTaken", "Z", false)
  | 3 => ("HeaviestLightest", "reader", "LHeaviestLightest$Reader;", true)
  | 4 => ("HeaviestLightest", "known", "LHeaviestLightest$Known;", true)
  | 5 => ("HeaviestLightest", "wants", "LHeaviestLightest$Wants;", true)
  | 6 => ("HeaviestLightest", "plans", "LHeaviestLightest$Plans;", true)
  | 7 => ("HeaviestLightest", "net", "LHeaviestLightest$Net;", true)
  | 8 => ("HeaviestLightest", "likings", "LHeaviestLightest$Likings;", true)
  | 9 => ("HeaviestLightest", "seedings", "LHeaviestLightest$Seeds;", true)
  | 10 => ("HeaviestLightest", "numbers", "[I", true)
  | 11 => ("HeaviestLightest", "numbersSize", "I", false)
  | _ => ("HeaviestLightest", "refusals", "[I", true)
def tyX9 : Nat → FieldType := fun k => match k with
  | 0 => .object "HeaviestLightest$Barn"
  | 1 => .object "HeaviestLightest$Barn"
  | 2 => .boolean
  | 3 => .object "HeaviestLightest$Reader"
  | 4 => .object "HeaviestLightest$Known"
  | 5 => .object "HeaviestLightest$Wants"
  | 6 => .object "HeaviestLightest$Plans"
  | 7 => .object "HeaviestLightest$Net"
  | 8 => .object "HeaviestLightest$Likings"
  | 9 => .object "HeaviestLightest$Seeds"
  | 10 => .array .int
  | 11 => .int
  | _ => .array .int
theorem nmX9 : ∀ a, a < 13 → ∀ b, b < 13 → a ≠ b → (TX9 a).2.1 ≠ (TX9 b).2.1 := by decide +kernel
theorem tyX9_ok : ∀ k, k < 13 → parseFieldDescriptor (TX9 k).2.2.1 = some (tyX9 k) := by decide +kernel
abbrev cX9_init : ByteArray := prog_1_method_1_code
def yX9_init : MethodName := ⟨RX9, "<init>", "()V"⟩
abbrev cX9_feed : ByteArray := prog_1_method_2_code
def yX9_feed : MethodName := ⟨RX9, "feed", "(I)I"⟩
abbrev cX9_barn : ByteArray := prog_1_method_3_code
def yX9_barn : MethodName := ⟨RX9, "barn", "()I"⟩
abbrev cX9_weight : ByteArray := prog_1_method_4_code
def yX9_weight : MethodName := ⟨RX9, "weight", "(I)I"⟩
abbrev cX9_set : ByteArray := prog_1_method_5_code
def yX9_set : MethodName := ⟨RX9, "set", "(II)I"⟩
abbrev cX9_scale : ByteArray := prog_1_method_6_code
def yX9_scale : MethodName := ⟨RX9, "scale", "(II)I"⟩
abbrev cX9_would : ByteArray := prog_1_method_7_code
def yX9_would : MethodName := ⟨RX9, "would", "(II)I"⟩
abbrev cX9_weigh : ByteArray := prog_1_method_8_code
def yX9_weigh : MethodName := ⟨RX9, "weigh", "(II)I"⟩
abbrev cX9_book : ByteArray := prog_1_method_9_code
def yX9_book : MethodName := ⟨RX9, "book", "(I)I"⟩
abbrev cX9_strike : ByteArray := prog_1_method_10_code
def yX9_strike : MethodName := ⟨RX9, "strike", "()I"⟩
abbrev cX9_above : ByteArray := prog_1_method_11_code
def yX9_above : MethodName := ⟨RX9, "above", "(I)I"⟩
abbrev cX9_ringed : ByteArray := prog_1_method_12_code
def yX9_ringed : MethodName := ⟨RX9, "ringed", "()I"⟩
abbrev cX9_orders : ByteArray := prog_1_method_13_code
def yX9_orders : MethodName := ⟨RX9, "orders", "(I)I"⟩
abbrev cX9_next : ByteArray := prog_1_method_14_code
def yX9_next : MethodName := ⟨RX9, "next", "(I)I"⟩
abbrev cX9_lies : ByteArray := prog_1_method_15_code
def yX9_lies : MethodName := ⟨RX9, "lies", "()I"⟩
abbrev cX9_open : ByteArray := prog_1_method_16_code
def yX9_open : MethodName := ⟨RX9, "open", "()I"⟩
abbrev cX9_tells : ByteArray := prog_1_method_17_code
def yX9_tells : MethodName := ⟨RX9, "tells", "(I)I"⟩
abbrev cX9_worst : ByteArray := prog_1_method_18_code
def yX9_worst : MethodName := ⟨RX9, "worst", "(I)I"⟩
abbrev cX9_mean : ByteArray := prog_1_method_19_code
def yX9_mean : MethodName := ⟨RX9, "mean", "(II)J"⟩
abbrev cX9_plan : ByteArray := prog_1_method_20_code
def yX9_plan : MethodName := ⟨RX9, "plan", "(I)I"⟩
abbrev cX9_found : ByteArray := prog_1_method_21_code
def yX9_found : MethodName := ⟨RX9, "found", "(II)I"⟩
abbrev cX9_compare : ByteArray := prog_1_method_22_code
def yX9_compare : MethodName := ⟨RX9, "compare", "(II)I"⟩
abbrev cX9_clear : ByteArray := prog_1_method_23_code
def yX9_clear : MethodName := ⟨RX9, "clear", "()I"⟩
abbrev cX9_sorts : ByteArray := prog_1_method_24_code
def yX9_sorts : MethodName := ⟨RX9, "sorts", "()I"⟩
abbrev cX9_gap : ByteArray := prog_1_method_25_code
def yX9_gap : MethodName := ⟨RX9, "gap", "()I"⟩
abbrev cX9_rounds : ByteArray := prog_1_method_26_code
def yX9_rounds : MethodName := ⟨RX9, "rounds", "()I"⟩
abbrev cX9_through : ByteArray := prog_1_method_27_code
def yX9_through : MethodName := ⟨RX9, "through", "(I)I"⟩
abbrev cX9_idle : ByteArray := prog_1_method_28_code
def yX9_idle : MethodName := ⟨RX9, "idle", "()I"⟩
abbrev cX9_mends : ByteArray := prog_1_method_29_code
def yX9_mends : MethodName := ⟨RX9, "mends", "()I"⟩
abbrev cX9_like : ByteArray := prog_1_method_30_code
def yX9_like : MethodName := ⟨RX9, "like", "(II)I"⟩
abbrev cX9_loops : ByteArray := prog_1_method_31_code
def yX9_loops : MethodName := ⟨RX9, "loops", "()I"⟩
abbrev cX9_turns : ByteArray := prog_1_method_32_code
def yX9_turns : MethodName := ⟨RX9, "turns", "(I)I"⟩
abbrev cX9_law : ByteArray := prog_1_method_33_code
def yX9_law : MethodName := ⟨RX9, "law", "(II)I"⟩
abbrev cX9_row : ByteArray := prog_1_method_34_code
def yX9_row : MethodName := ⟨RX9, "row", "(I)I"⟩
abbrev cX9_judge : ByteArray := prog_1_method_35_code
def yX9_judge : MethodName := ⟨RX9, "judge", "()I"⟩
abbrev cX9_seeds : ByteArray := prog_1_method_36_code
def yX9_seeds : MethodName := ⟨RX9, "seeds", "(III)I"⟩
abbrev cX9_image : ByteArray := prog_1_method_37_code
def yX9_image : MethodName := ⟨RX9, "image", "()I"⟩
abbrev cX9_restore : ByteArray := prog_1_method_38_code
def yX9_restore : MethodName := ⟨RX9, "restore", "()I"⟩
abbrev cX9_count : ByteArray := prog_1_method_39_code
def yX9_count : MethodName := ⟨RX9, "count", "(I)I"⟩
abbrev cX9_refuse : ByteArray := prog_1_method_40_code
def yX9_refuse : MethodName := ⟨RX9, "refuse", "(I)I"⟩
abbrev cX9_refusalOfWanted : ByteArray := prog_1_method_41_code
def yX9_refusalOfWanted : MethodName := ⟨RX9, "refusalOfWanted", "(I)I"⟩
abbrev cX9_isKind : ByteArray := prog_1_method_42_code
def yX9_isKind : MethodName := ⟨RX9, "isKind", "(I)Z"⟩
abbrev cX9_hasBit : ByteArray := prog_1_method_43_code
def yX9_hasBit : MethodName := ⟨RX9, "hasBit", "(II)Z"⟩
def RX10 : String := "HeaviestLightestModel"
def TX10 : u_T := fun k => match k with
  | 0 => ("HeaviestLightestModel", "stones", "I", false)
  | 1 => ("HeaviestLightestModel", "scaleKind", "I", false)
  | 2 => ("HeaviestLightestModel", "scaleFigure", "I", false)
  | 3 => ("HeaviestLightestModel", "weighings", "I", false)
  | 4 => ("HeaviestLightestModel", "comparisons", "I", false)
  | 5 => ("HeaviestLightestModel", "weights", "[I", true)
  | 6 => ("HeaviestLightestModel", "bookA", "[I", true)
  | 7 => ("HeaviestLightestModel", "bookB", "[I", true)
  | 8 => ("HeaviestLightestModel", "bookTold", "[I", true)
  | 9 => ("HeaviestLightestModel", "liked", "[I", true)
  | 10 => ("HeaviestLightestModel", "netA", "[I", true)
  | 11 => ("HeaviestLightestModel", "netB", "[I", true)
  | 12 => ("HeaviestLightestModel", "thrown", "I", false)
  | 13 => ("HeaviestLightestModel", "refusals", "[I", true)
  | 14 => ("HeaviestLightestModel", "letters", "[I", true)
  | 15 => ("HeaviestLightestModel", "letterMany", "I", false)
  | 16 => ("HeaviestLightestModel", "at", "I", false)
  | 17 => ("HeaviestLightestModel", "isBad", "Z", false)
  | 18 => ("HeaviestLightestModel", "statements", "I", false)
  | 19 => ("HeaviestLightestModel", "placeIn", "[I", true)
  | 20 => ("HeaviestLightestModel", "letterOf", "[I", true)
  | 21 => ("HeaviestLightestModel", "told", "[I", true)
  | 22 => ("HeaviestLightestModel", "kept", "[I", true)
  | 23 => ("HeaviestLightestModel", "imaged", "[I", true)
  | 24 => ("HeaviestLightestModel", "hasImage", "Z", false)
  | 25 => ("HeaviestLightestModel", "place0", "I", false)
  | 26 => ("HeaviestLightestModel", "isTaking", "Z", false)
  | 27 => ("HeaviestLightestModel", "keptIn", "[I", false)
  | 28 => ("HeaviestLightestModel", "over", "[I", true)
  | 29 => ("HeaviestLightestModel", "order", "[I", true)
  | 30 => ("HeaviestLightestModel", "orderMany", "I", false)
  | 31 => ("HeaviestLightestModel", "firstCode", "I", false)
  | 32 => ("HeaviestLightestModel", "ahead", "[I", true)
  | 33 => ("HeaviestLightestModel", "worsts", "[I", true)
  | 34 => ("HeaviestLightestModel", "totals", "[I", true)
  | 35 => ("HeaviestLightestModel", "fitMany", "I", false)
  | 36 => ("HeaviestLightestModel", "weighed", "I", false)
  | 37 => ("HeaviestLightestModel", "line", "[I", true)
  | 38 => ("HeaviestLightestModel", "finds", "[I", true)
  | 39 => ("HeaviestLightestModel", "findMany", "I", false)
  | 40 => ("HeaviestLightestModel", "lighter", "[I", true)
  | 41 => ("HeaviestLightestModel", "winners", "[I", true)
  | 42 => ("HeaviestLightestModel", "losers", "[I", true)
  | 43 => ("HeaviestLightestModel", "rowFrom", "[I", true)
  | 44 => ("HeaviestLightestModel", "rowSize", "[I", true)
  | 45 => ("HeaviestLightestModel", "changed", "I", false)
  | 46 => ("HeaviestLightestModel", "rounds0", "[I", true)
  | 47 => ("HeaviestLightestModel", "row", "[I", true)
  | _ => ("HeaviestLightestModel", "rowMany", "I", false)
def tyX10 : Nat → FieldType := fun k => match k with
  | 0 => .int
  | 1 => .int
  | 2 => .int
  | 3 => .int
  | 4 => .int
  | 5 => .array .int
  | 6 => .array .int
  | 7 => .array .int
  | 8 => .array .int
  | 9 => .array .int
  | 10 => .array .int
  | 11 => .array .int
  | 12 => .int
  | 13 => .array .int
  | 14 => .array .int
  | 15 => .int
  | 16 => .int
  | 17 => .boolean
  | 18 => .int
  | 19 => .array .int
  | 20 => .array .int
  | 21 => .array .int
  | 22 => .array .int
  | 23 => .array .int
  | 24 => .boolean
  | 25 => .int
  | 26 => .boolean
  | 27 => .array .int
  | 28 => .array .int
  | 29 => .array .int
  | 30 => .int
  | 31 => .int
  | 32 => .array .int
  | 33 => .array .int
  | 34 => .array .int
  | 35 => .int
  | 36 => .int
  | 37 => .array .int
  | 38 => .array .int
  | 39 => .int
  | 40 => .array .int
  | 41 => .array .int
  | 42 => .array .int
  | 43 => .array .int
  | 44 => .array .int
  | 45 => .int
  | 46 => .array .int
  | 47 => .array .int
  | _ => .int
theorem nmX10 : ∀ a, a < 49 → ∀ b, b < 49 → a ≠ b → (TX10 a).2.1 ≠ (TX10 b).2.1 := by decide +kernel
theorem tyX10_ok : ∀ k, k < 49 → parseFieldDescriptor (TX10 k).2.2.1 = some (tyX10 k) := by decide +kernel
abbrev cX10_init : ByteArray := prog_12_method_1_code
def yX10_init : MethodName := ⟨RX10, "<init>", "()V"⟩
abbrev cX10_in : ByteArray := prog_12_method_3_code
def yX10_in : MethodName := ⟨RX10, "in", "(JJJ)Z"⟩
abbrev cX10_begin : ByteArray := prog_12_method_4_code
def yX10_begin : MethodName := ⟨RX10, "begin", "(I)V"⟩
abbrev cX10_refuse : ByteArray := prog_12_method_5_code
def yX10_refuse : MethodName := ⟨RX10, "refuse", "(I)I"⟩
abbrev cX10_isStone : ByteArray := prog_12_method_6_code
def yX10_isStone : MethodName := ⟨RX10, "isStone", "(I)Z"⟩
abbrev cX10_areTwo : ByteArray := prog_12_method_7_code
def yX10_areTwo : MethodName := ⟨RX10, "areTwo", "(II)Z"⟩
abbrev cX10_wrongNumber : ByteArray := prog_12_method_8_code
def yX10_wrongNumber : MethodName := ⟨RX10, "wrongNumber", "(III)I"⟩
abbrev cX10_ones : ByteArray := prog_12_method_9_code
def yX10_ones : MethodName := ⟨RX10, "ones", "(I)I"⟩
abbrev cX10_signOf : ByteArray := prog_12_method_10_code
def yX10_signOf : MethodName := ⟨RX10, "signOf", "(II)I"⟩
abbrev cX10_toldOf : ByteArray := prog_12_method_11_code
def yX10_toldOf : MethodName := ⟨RX10, "toldOf", "(III)I"⟩
abbrev cX10_note : ByteArray := prog_12_method_12_code
def yX10_note : MethodName := ⟨RX10, "note", "(III)V"⟩
abbrev cX10_feed : ByteArray := prog_12_method_13_code
def yX10_feed : MethodName := ⟨RX10, "feed", "(I)I"⟩
abbrev cX10_here : ByteArray := prog_12_method_14_code
def yX10_here : MethodName := ⟨RX10, "here", "()I"⟩
abbrev cX10_readDigit : ByteArray := prog_12_method_15_code
def yX10_readDigit : MethodName := ⟨RX10, "readDigit", "()I"⟩
abbrev cX10_readStatement : ByteArray := prog_12_method_16_code
def yX10_readStatement : MethodName := ⟨RX10, "readStatement", "()V"⟩
abbrev cX10_noteComes : ByteArray := prog_12_method_17_code
def yX10_noteComes : MethodName := ⟨RX10, "noteComes", "(III)Z"⟩
abbrev cX10_comparisonComes : ByteArray := prog_12_method_18_code
def yX10_comparisonComes : MethodName := ⟨RX10, "comparisonComes", "(II)Z"⟩
abbrev cX10_prefer : ByteArray := prog_12_method_19_code
def yX10_prefer : MethodName := ⟨RX10, "prefer", "(II)V"⟩
abbrev cX10_comes : ByteArray := prog_12_method_20_code
def yX10_comes : MethodName := ⟨RX10, "comes", "(I)Z"⟩
abbrev cX10_barn : ByteArray := prog_12_method_21_code
def yX10_barn : MethodName := ⟨RX10, "barn", "()I"⟩
abbrev cX10_carry : ByteArray := prog_12_method_22_code
def yX10_carry : MethodName := ⟨RX10, "carry", "(I)I"⟩
abbrev cX10_carryAll : ByteArray := prog_12_method_23_code
def yX10_carryAll : MethodName := ⟨RX10, "carryAll", "([IZ)V"⟩
abbrev cX10_image : ByteArray := prog_12_method_24_code
def yX10_image : MethodName := ⟨RX10, "image", "()I"⟩
abbrev cX10_restore : ByteArray := prog_12_method_25_code
def yX10_restore : MethodName := ⟨RX10, "restore", "()I"⟩
abbrev cX10_weight : ByteArray := prog_12_method_26_code
def yX10_weight : MethodName := ⟨RX10, "weight", "(I)I"⟩
abbrev cX10_set : ByteArray := prog_12_method_27_code
def yX10_set : MethodName := ⟨RX10, "set", "(II)I"⟩
abbrev cX10_scale : ByteArray := prog_12_method_28_code
def yX10_scale : MethodName := ⟨RX10, "scale", "(II)I"⟩
abbrev cX10_would : ByteArray := prog_12_method_29_code
def yX10_would : MethodName := ⟨RX10, "would", "(II)I"⟩
abbrev cX10_weigh : ByteArray := prog_12_method_30_code
def yX10_weigh : MethodName := ⟨RX10, "weigh", "(II)I"⟩
abbrev cX10_book : ByteArray := prog_12_method_31_code
def yX10_book : MethodName := ⟨RX10, "book", "(I)I"⟩
abbrev cX10_strike : ByteArray := prog_12_method_32_code
def yX10_strike : MethodName := ⟨RX10, "strike", "()I"⟩
abbrev cX10_closeOver : ByteArray := prog_12_method_33_code
def yX10_closeOver : MethodName := ⟨RX10, "closeOver", "()V"⟩
abbrev cX10_know : ByteArray := prog_12_method_34_code
def yX10_know : MethodName := ⟨RX10, "know", "(I)V"⟩
abbrev cX10_isOver : ByteArray := prog_12_method_35_code
def yX10_isOver : MethodName := ⟨RX10, "isOver", "(II)Z"⟩
abbrev cX10_ringBits : ByteArray := prog_12_method_36_code
def yX10_ringBits : MethodName := ⟨RX10, "ringBits", "()I"⟩
abbrev cX10_above : ByteArray := prog_12_method_37_code
def yX10_above : MethodName := ⟨RX10, "above", "(I)I"⟩
abbrev cX10_ringed : ByteArray := prog_12_method_38_code
def yX10_ringed : MethodName := ⟨RX10, "ringed", "()I"⟩
abbrev cX10_lies : ByteArray := prog_12_method_39_code
def yX10_lies : MethodName := ⟨RX10, "lies", "()I"⟩
abbrev cX10_open : ByteArray := prog_12_method_40_code
def yX10_open : MethodName := ⟨RX10, "open", "()I"⟩
abbrev cX10_codes : ByteArray := prog_12_method_41_code
def yX10_codes : MethodName := ⟨RX10, "codes", "()I"⟩
abbrev cX10_layOrder : ByteArray := prog_12_method_42_code
def yX10_layOrder : MethodName := ⟨RX10, "layOrder", "(I)Z"⟩
abbrev cX10_fits : ByteArray := prog_12_method_43_code
def yX10_fits : MethodName := ⟨RX10, "fits", "()Z"⟩
abbrev cX10_findOrders : ByteArray := prog_12_method_44_code
def yX10_findOrders : MethodName := ⟨RX10, "findOrders", "()V"⟩
abbrev cX10_countAhead : ByteArray := prog_12_method_45_code
def yX10_countAhead : MethodName := ⟨RX10, "countAhead", "()V"⟩
abbrev cX10_orders : ByteArray := prog_12_method_46_code
def yX10_orders : MethodName := ⟨RX10, "orders", "(I)I"⟩
abbrev cX10_next : ByteArray := prog_12_method_47_code
def yX10_next : MethodName := ⟨RX10, "next", "(I)I"⟩
abbrev cX10_bitOf : ByteArray := prog_12_method_48_code
def yX10_bitOf : MethodName := ⟨RX10, "bitOf", "(II)I"⟩
abbrev cX10_knownBits : ByteArray := prog_12_method_49_code
def yX10_knownBits : MethodName := ⟨RX10, "knownBits", "()I"⟩
abbrev cX10_layKnown : ByteArray := prog_12_method_50_code
def yX10_layKnown : MethodName := ⟨RX10, "layKnown", "(I)V"⟩
abbrev cX10_wantedIn : ByteArray := prog_12_method_51_code
def yX10_wantedIn : MethodName := ⟨RX10, "wantedIn", "(I)I"⟩
abbrev cX10_areAgreed : ByteArray := prog_12_method_52_code
def yX10_areAgreed : MethodName := ⟨RX10, "areAgreed", "(I)Z"⟩
abbrev cX10_withAbove : ByteArray := prog_12_method_53_code
def yX10_withAbove : MethodName := ⟨RX10, "withAbove", "(III)I"⟩
abbrev cX10_solve : ByteArray := prog_12_method_54_code
def yX10_solve : MethodName := ⟨RX10, "solve", "(II)V"⟩
abbrev cX10_isWhole : ByteArray := prog_12_method_55_code
def yX10_isWhole : MethodName := ⟨RX10, "isWhole", "(I)Z"⟩
abbrev cX10_solveAll : ByteArray := prog_12_method_56_code
def yX10_solveAll : MethodName := ⟨RX10, "solveAll", "(I)V"⟩
abbrev cX10_onesOf : ByteArray := prog_12_method_57_code
def yX10_onesOf : MethodName := ⟨RX10, "onesOf", "(I)I"⟩
abbrev cX10_wrongWanted : ByteArray := prog_12_method_58_code
def yX10_wrongWanted : MethodName := ⟨RX10, "wrongWanted", "(I)I"⟩
abbrev cX10_tells : ByteArray := prog_12_method_59_code
def yX10_tells : MethodName := ⟨RX10, "tells", "(I)I"⟩
abbrev cX10_worst : ByteArray := prog_12_method_60_code
def yX10_worst : MethodName := ⟨RX10, "worst", "(I)I"⟩
abbrev cX10_divisor : ByteArray := prog_12_method_61_code
def yX10_divisor : MethodName := ⟨RX10, "divisor", "(II)I"⟩
abbrev cX10_mean : ByteArray := prog_12_method_62_code
def yX10_mean : MethodName := ⟨RX10, "mean", "(II)J"⟩
abbrev cX10_isHeavier : ByteArray := prog_12_method_63_code
def yX10_isHeavier : MethodName := ⟨RX10, "isHeavier", "(II)Z"⟩
abbrev cX10_endOf : ByteArray := prog_12_method_64_code
def yX10_endOf : MethodName := ⟨RX10, "endOf", "(IZ)I"⟩
abbrev cX10_planOne : ByteArray := prog_12_method_65_code
def yX10_planOne : MethodName := ⟨RX10, "planOne", "()V"⟩
abbrev cX10_planPairs : ByteArray := prog_12_method_66_code
def yX10_planPairs : MethodName := ⟨RX10, "planPairs", "()V"⟩
abbrev cX10_planCup : ByteArray := prog_12_method_67_code
def yX10_planCup : MethodName := ⟨RX10, "planCup", "()V"⟩
abbrev cX10_insertAll : ByteArray := prog_12_method_68_code
def yX10_insertAll : MethodName := ⟨RX10, "insertAll", "(II)V"⟩
abbrev cX10_mergeRows : ByteArray := prog_12_method_69_code
def yX10_mergeRows : MethodName := ⟨RX10, "mergeRows", "(II)V"⟩
abbrev cX10_planMerge : ByteArray := prog_12_method_70_code
def yX10_planMerge : MethodName := ⟨RX10, "planMerge", "(I)V"⟩
abbrev cX10_planAll : ByteArray := prog_12_method_71_code
def yX10_planAll : MethodName := ⟨RX10, "planAll", "(I)V"⟩
abbrev cX10_planBy : ByteArray := prog_12_method_72_code
def yX10_planBy : MethodName := ⟨RX10, "planBy", "(I)V"⟩
abbrev cX10_plan : ByteArray := prog_12_method_73_code
def yX10_plan : MethodName := ⟨RX10, "plan", "(I)I"⟩
abbrev cX10_found : ByteArray := prog_12_method_74_code
def yX10_found : MethodName := ⟨RX10, "found", "(II)I"⟩
abbrev cX10_compare : ByteArray := prog_12_method_75_code
def yX10_compare : MethodName := ⟨RX10, "compare", "(II)I"⟩
abbrev cX10_clear : ByteArray := prog_12_method_76_code
def yX10_clear : MethodName := ⟨RX10, "clear", "()I"⟩
abbrev cX10_passOne : ByteArray := prog_12_method_77_code
def yX10_passOne : MethodName := ⟨RX10, "passOne", "(III)I"⟩
abbrev cX10_passAll : ByteArray := prog_12_method_78_code
def yX10_passAll : MethodName := ⟨RX10, "passAll", "(I)I"⟩
abbrev cX10_isInOrder : ByteArray := prog_12_method_79_code
def yX10_isInOrder : MethodName := ⟨RX10, "isInOrder", "(I)Z"⟩
abbrev cX10_gapWith : ByteArray := prog_12_method_80_code
def yX10_gapWith : MethodName := ⟨RX10, "gapWith", "(II)I"⟩
abbrev cX10_sorts : ByteArray := prog_12_method_81_code
def yX10_sorts : MethodName := ⟨RX10, "sorts", "()I"⟩
abbrev cX10_gap : ByteArray := prog_12_method_82_code
def yX10_gap : MethodName := ⟨RX10, "gap", "()I"⟩
abbrev cX10_rounds : ByteArray := prog_12_method_83_code
def yX10_rounds : MethodName := ⟨RX10, "rounds", "()I"⟩
abbrev cX10_through : ByteArray := prog_12_method_84_code
def yX10_through : MethodName := ⟨RX10, "through", "(I)I"⟩
abbrev cX10_idle : ByteArray := prog_12_method_85_code
def yX10_idle : MethodName := ⟨RX10, "idle", "()I"⟩
abbrev cX10_mends : ByteArray := prog_12_method_86_code
def yX10_mends : MethodName := ⟨RX10, "mends", "()I"⟩
abbrev cX10_isLiked : ByteArray := prog_12_method_87_code
def yX10_isLiked : MethodName := ⟨RX10, "isLiked", "(II)Z"⟩
abbrev cX10_like : ByteArray := prog_12_method_88_code
def yX10_like : MethodName := ⟨RX10, "like", "(II)I"⟩
abbrev cX10_isLoop : ByteArray := prog_12_method_89_code
def yX10_isLoop : MethodName := ⟨RX10, "isLoop", "(III)Z"⟩
abbrev cX10_loops : ByteArray := prog_12_method_90_code
def yX10_loops : MethodName := ⟨RX10, "loops", "()I"⟩
abbrev cX10_against : ByteArray := prog_12_method_91_code
def yX10_against : MethodName := ⟨RX10, "against", "()I"⟩
abbrev cX10_turns : ByteArray := prog_12_method_92_code
def yX10_turns : MethodName := ⟨RX10, "turns", "(I)I"⟩
abbrev cX10_halvings : ByteArray := prog_12_method_93_code
def yX10_halvings : MethodName := ⟨RX10, "halvings", "(I)I"⟩
abbrev cX10_byInsert : ByteArray := prog_12_method_94_code
def yX10_byInsert : MethodName := ⟨RX10, "byInsert", "(I)I"⟩
abbrev cX10_byOrders : ByteArray := prog_12_method_95_code
def yX10_byOrders : MethodName := ⟨RX10, "byOrders", "(I)I"⟩
abbrev cX10_law : ByteArray := prog_12_method_96_code
def yX10_law : MethodName := ⟨RX10, "law", "(II)I"⟩
abbrev cX10_row : ByteArray := prog_12_method_97_code
def yX10_row : MethodName := ⟨RX10, "row", "(I)I"⟩
abbrev cX10_judge : ByteArray := prog_12_method_98_code
def yX10_judge : MethodName := ⟨RX10, "judge", "()I"⟩
abbrev cX10_seeds : ByteArray := prog_12_method_99_code
def yX10_seeds : MethodName := ⟨RX10, "seeds", "(III)I"⟩
abbrev cX10_count : ByteArray := prog_12_method_100_code
def yX10_count : MethodName := ⟨RX10, "count", "(I)I"⟩
def RJ6 : String := "java/lang/Integer"
abbrev cJ6_bitCount_0f7a4 : ByteArray := prog_13_method_49_code
def yJ6_bitCount_0f7a4 : MethodName := ⟨RJ6, "bitCount", "(I)I"⟩
def RJ9 : String := "java/lang/Math"
abbrev cJ9_abs_0f7a4 : ByteArray := prog_14_method_59_code
def yJ9_abs_0f7a4 : MethodName := ⟨RJ9, "abs", "(I)I"⟩
abbrev cJ9_max_7cf53 : ByteArray := prog_14_method_65_code
def yJ9_max_7cf53 : MethodName := ⟨RJ9, "max", "(II)I"⟩
abbrev cJ9_min_7cf53 : ByteArray := prog_14_method_69_code
def yJ9_min_7cf53 : MethodName := ⟨RJ9, "min", "(II)I"⟩
def RJ10 : String := "java/lang/System"
def RL : String := "HeaviestLightestLaw"
abbrev cL_law : ByteArray := code
def yL_law : MethodName := ⟨RL, "law", "([I)Z"⟩
abbrev vwCl : List vw_C := [(RX0, TX0, 12), (RX1, TX1, 4), (RX3, TX3, 3), (RX4, TX4, 2), (RX5, TX5, 10), (RX6, TX6, 3), (RX7, TX7, 2), (RX8, TX8, 7), (RX9, TX9, 13), (RX10, TX10, 49)]
