-- ===== PART A: goes FIRST, ahead of the names: the tables' words, and 'selects' of the private methods out of them =====
/-- a private method of a class that the tables say can be made, by its rows of tables_1 -/
def lw_okq (q : MethodName × Nat) : Prop := (q.1.cls ≠ "java/lang/invoke/MethodHandle" ∧ q.1.cls ≠ "java/lang/invoke/VarHandle") ∧ Cond.instantiable q.1.cls q.2 ∈ tables_1 ∧ Cond.privateMethod q.1 ∈ tables_1 ∧ Cond.instanceMethod q.1 ∈ tables_1
theorem lw_p0 : lw_okq (⟨"BridgeStrip", "putBytes", "(I)V"⟩, 15) := ⟨⟨by decide +kernel, by decide +kernel⟩, List.mem_of_getElem? (i := 27) (by decide +kernel), List.mem_of_getElem? (i := 550) (by decide +kernel), List.mem_of_getElem? (i := 551) (by decide +kernel)⟩
theorem lw_p1 : lw_okq (⟨"BridgeStrip", "refuse", "(I)I"⟩, 15) := ⟨⟨by decide +kernel, by decide +kernel⟩, List.mem_of_getElem? (i := 27) (by decide +kernel), List.mem_of_getElem? (i := 558) (by decide +kernel), List.mem_of_getElem? (i := 559) (by decide +kernel)⟩
theorem lw_p2 : lw_okq (⟨"BridgeStrip$Reader", "step", "()V"⟩, 13) := ⟨⟨by decide +kernel, by decide +kernel⟩, List.mem_of_getElem? (i := 202) (by decide +kernel), List.mem_of_getElem? (i := 573) (by decide +kernel), List.mem_of_getElem? (i := 574) (by decide +kernel)⟩
theorem lw_p3 : lw_okq (⟨"BridgeStrip$Reader", "stepOverWord", "()V"⟩, 13) := ⟨⟨by decide +kernel, by decide +kernel⟩, List.mem_of_getElem? (i := 202) (by decide +kernel), List.mem_of_getElem? (i := 577) (by decide +kernel), List.mem_of_getElem? (i := 578) (by decide +kernel)⟩
theorem lw_p4 : lw_okq (⟨"BridgeStrip$Reader", "stepOverWhole", "()V"⟩, 13) := ⟨⟨by decide +kernel, by decide +kernel⟩, List.mem_of_getElem? (i := 202) (by decide +kernel), List.mem_of_getElem? (i := 581) (by decide +kernel), List.mem_of_getElem? (i := 582) (by decide +kernel)⟩
theorem lw_p5 : lw_okq (⟨"BridgeStrip$Reader", "readLine", "()Z"⟩, 13) := ⟨⟨by decide +kernel, by decide +kernel⟩, List.mem_of_getElem? (i := 202) (by decide +kernel), List.mem_of_getElem? (i := 585) (by decide +kernel), List.mem_of_getElem? (i := 586) (by decide +kernel)⟩
theorem lw_p6 : lw_okq (⟨"BridgeStrip$Reader", "sees", "(Ljava/lang/String;)Z"⟩, 13) := ⟨⟨by decide +kernel, by decide +kernel⟩, List.mem_of_getElem? (i := 202) (by decide +kernel), List.mem_of_getElem? (i := 589) (by decide +kernel), List.mem_of_getElem? (i := 590) (by decide +kernel)⟩
theorem lw_p7 : lw_okq (⟨"BridgeStrip$Reader", "readLaw", "()Z"⟩, 13) := ⟨⟨by decide +kernel, by decide +kernel⟩, List.mem_of_getElem? (i := 202) (by decide +kernel), List.mem_of_getElem? (i := 593) (by decide +kernel), List.mem_of_getElem? (i := 594) (by decide +kernel)⟩
theorem lw_p8 : lw_okq (⟨"BridgeStrip$Reader", "fail", "(I)Z"⟩, 13) := ⟨⟨by decide +kernel, by decide +kernel⟩, List.mem_of_getElem? (i := 202) (by decide +kernel), List.mem_of_getElem? (i := 601) (by decide +kernel), List.mem_of_getElem? (i := 602) (by decide +kernel)⟩
theorem lw_p9 : lw_okq (⟨"BridgeStrip$Reader", "failAt", "(II)Z"⟩, 13) := ⟨⟨by decide +kernel, by decide +kernel⟩, List.mem_of_getElem? (i := 202) (by decide +kernel), List.mem_of_getElem? (i := 605) (by decide +kernel), List.mem_of_getElem? (i := 606) (by decide +kernel)⟩
theorem lw_p10 : lw_okq (⟨"BridgeStrip$Reader", "use", "(I)I"⟩, 13) := ⟨⟨by decide +kernel, by decide +kernel⟩, List.mem_of_getElem? (i := 202) (by decide +kernel), List.mem_of_getElem? (i := 609) (by decide +kernel), List.mem_of_getElem? (i := 610) (by decide +kernel)⟩
theorem lw_p11 : lw_okq (⟨"BridgeStrip$Reader", "isName", "()Z"⟩, 13) := ⟨⟨by decide +kernel, by decide +kernel⟩, List.mem_of_getElem? (i := 202) (by decide +kernel), List.mem_of_getElem? (i := 613) (by decide +kernel), List.mem_of_getElem? (i := 614) (by decide +kernel)⟩
theorem lw_p12 : lw_okq (⟨"BridgeStrip$Reader", "goBy", "(Ljava/lang/String;)Z"⟩, 13) := ⟨⟨by decide +kernel, by decide +kernel⟩, List.mem_of_getElem? (i := 202) (by decide +kernel), List.mem_of_getElem? (i := 624) (by decide +kernel), List.mem_of_getElem? (i := 625) (by decide +kernel)⟩
theorem lw_p13 : lw_okq (⟨"BridgeStrip$Reader", "number", "(II)I"⟩, 13) := ⟨⟨by decide +kernel, by decide +kernel⟩, List.mem_of_getElem? (i := 202) (by decide +kernel), List.mem_of_getElem? (i := 629) (by decide +kernel), List.mem_of_getElem? (i := 630) (by decide +kernel)⟩
theorem lw_p14 : lw_okq (⟨"BridgeStrip$Reader", "readName", "(I)Z"⟩, 13) := ⟨⟨by decide +kernel, by decide +kernel⟩, List.mem_of_getElem? (i := 202) (by decide +kernel), List.mem_of_getElem? (i := 637) (by decide +kernel), List.mem_of_getElem? (i := 638) (by decide +kernel)⟩
theorem lw_p15 : lw_okq (⟨"BridgeStrip$Reader", "readRoad", "()Z"⟩, 13) := ⟨⟨by decide +kernel, by decide +kernel⟩, List.mem_of_getElem? (i := 202) (by decide +kernel), List.mem_of_getElem? (i := 651) (by decide +kernel), List.mem_of_getElem? (i := 652) (by decide +kernel)⟩
def lw_privs_1 : List (MethodName × Nat) := [(⟨"BridgeStrip", "putBytes", "(I)V"⟩, 15), (⟨"BridgeStrip", "refuse", "(I)I"⟩, 15), (⟨"BridgeStrip$Reader", "step", "()V"⟩, 13), (⟨"BridgeStrip$Reader", "stepOverWord", "()V"⟩, 13), (⟨"BridgeStrip$Reader", "stepOverWhole", "()V"⟩, 13), (⟨"BridgeStrip$Reader", "readLine", "()Z"⟩, 13), (⟨"BridgeStrip$Reader", "sees", "(Ljava/lang/String;)Z"⟩, 13), (⟨"BridgeStrip$Reader", "readLaw", "()Z"⟩, 13), (⟨"BridgeStrip$Reader", "fail", "(I)Z"⟩, 13), (⟨"BridgeStrip$Reader", "failAt", "(II)Z"⟩, 13), (⟨"BridgeStrip$Reader", "use", "(I)I"⟩, 13), (⟨"BridgeStrip$Reader", "isName", "()Z"⟩, 13), (⟨"BridgeStrip$Reader", "goBy", "(Ljava/lang/String;)Z"⟩, 13), (⟨"BridgeStrip$Reader", "number", "(II)I"⟩, 13), (⟨"BridgeStrip$Reader", "readName", "(I)Z"⟩, 13), (⟨"BridgeStrip$Reader", "readRoad", "()Z"⟩, 13)]
theorem lw_r1 : ∀ q ∈ lw_privs_1, lw_okq q := List.forall_mem_cons.mpr ⟨lw_p0, List.forall_mem_cons.mpr ⟨lw_p1, List.forall_mem_cons.mpr ⟨lw_p2, List.forall_mem_cons.mpr ⟨lw_p3, List.forall_mem_cons.mpr ⟨lw_p4, List.forall_mem_cons.mpr ⟨lw_p5, List.forall_mem_cons.mpr ⟨lw_p6, List.forall_mem_cons.mpr ⟨lw_p7, List.forall_mem_cons.mpr ⟨lw_p8, List.forall_mem_cons.mpr ⟨lw_p9, List.forall_mem_cons.mpr ⟨lw_p10, List.forall_mem_cons.mpr ⟨lw_p11, List.forall_mem_cons.mpr ⟨lw_p12, List.forall_mem_cons.mpr ⟨lw_p13, List.forall_mem_cons.mpr ⟨lw_p14, List.forall_mem_cons.mpr ⟨lw_p15, fun _ h => absurd h List.not_mem_nil⟩⟩⟩⟩⟩⟩⟩⟩⟩⟩⟩⟩⟩⟩⟩⟩
theorem lw_p16 : lw_okq (⟨"BridgeStrip$Reader", "readPost", "()Z"⟩, 13) := ⟨⟨by decide +kernel, by decide +kernel⟩, List.mem_of_getElem? (i := 202) (by decide +kernel), List.mem_of_getElem? (i := 665) (by decide +kernel), List.mem_of_getElem? (i := 666) (by decide +kernel)⟩
theorem lw_p17 : lw_okq (⟨"BridgeStrip$Reader", "readGift", "()Z"⟩, 13) := ⟨⟨by decide +kernel, by decide +kernel⟩, List.mem_of_getElem? (i := 202) (by decide +kernel), List.mem_of_getElem? (i := 678) (by decide +kernel), List.mem_of_getElem? (i := 679) (by decide +kernel)⟩
theorem lw_p18 : lw_okq (⟨"BridgeStrip$Reader", "readCase", "()Z"⟩, 13) := ⟨⟨by decide +kernel, by decide +kernel⟩, List.mem_of_getElem? (i := 202) (by decide +kernel), List.mem_of_getElem? (i := 691) (by decide +kernel), List.mem_of_getElem? (i := 692) (by decide +kernel)⟩
theorem lw_p19 : lw_okq (⟨"BridgeStrip", "beginAnew", "()V"⟩, 15) := ⟨⟨by decide +kernel, by decide +kernel⟩, List.mem_of_getElem? (i := 27) (by decide +kernel), List.mem_of_getElem? (i := 706) (by decide +kernel), List.mem_of_getElem? (i := 707) (by decide +kernel)⟩
theorem lw_p20 : lw_okq (⟨"BridgeStrip", "grant", "(I)I"⟩, 15) := ⟨⟨by decide +kernel, by decide +kernel⟩, List.mem_of_getElem? (i := 27) (by decide +kernel), List.mem_of_getElem? (i := 722) (by decide +kernel), List.mem_of_getElem? (i := 723) (by decide +kernel)⟩
theorem lw_p21 : lw_okq (⟨"BridgeStrip", "rulingRefusal", "(IIIII)I"⟩, 15) := ⟨⟨by decide +kernel, by decide +kernel⟩, List.mem_of_getElem? (i := 27) (by decide +kernel), List.mem_of_getElem? (i := 746) (by decide +kernel), List.mem_of_getElem? (i := 747) (by decide +kernel)⟩
theorem lw_p22 : lw_okq (⟨"BridgeStrip", "isPaperSort", "(II)Z"⟩, 15) := ⟨⟨by decide +kernel, by decide +kernel⟩, List.mem_of_getElem? (i := 27) (by decide +kernel), List.mem_of_getElem? (i := 754) (by decide +kernel), List.mem_of_getElem? (i := 755) (by decide +kernel)⟩
theorem lw_p23 : lw_okq (⟨"BridgeStrip", "decline", "(I)Z"⟩, 15) := ⟨⟨by decide +kernel, by decide +kernel⟩, List.mem_of_getElem? (i := 27) (by decide +kernel), List.mem_of_getElem? (i := 816) (by decide +kernel), List.mem_of_getElem? (i := 817) (by decide +kernel)⟩
theorem lw_p24 : lw_okq (⟨"BridgeStrip$People", "lasts", "(II)Z"⟩, 7) := ⟨⟨by decide +kernel, by decide +kernel⟩, List.mem_of_getElem? (i := 312) (by decide +kernel), List.mem_of_getElem? (i := 833) (by decide +kernel), List.mem_of_getElem? (i := 834) (by decide +kernel)⟩
theorem lw_p25 : lw_okq (⟨"BridgeStrip", "travelRefusal", "(III)I"⟩, 15) := ⟨⟨by decide +kernel, by decide +kernel⟩, List.mem_of_getElem? (i := 27) (by decide +kernel), List.mem_of_getElem? (i := 864) (by decide +kernel), List.mem_of_getElem? (i := 865) (by decide +kernel)⟩
theorem lw_p26 : lw_okq (⟨"BridgeStrip$Ways", "begin", "(II)V"⟩, 7) := ⟨⟨by decide +kernel, by decide +kernel⟩, List.mem_of_getElem? (i := 349) (by decide +kernel), List.mem_of_getElem? (i := 872) (by decide +kernel), List.mem_of_getElem? (i := 873) (by decide +kernel)⟩
theorem lw_p27 : lw_okq (⟨"BridgeStrip$Ways", "soonestUnsettled", "(I)I"⟩, 7) := ⟨⟨by decide +kernel, by decide +kernel⟩, List.mem_of_getElem? (i := 349) (by decide +kernel), List.mem_of_getElem? (i := 877) (by decide +kernel), List.mem_of_getElem? (i := 878) (by decide +kernel)⟩
theorem lw_p28 : lw_okq (⟨"BridgeStrip$Ways", "comingDay", "(LBridgeStrip$Book;III)I"⟩, 7) := ⟨⟨by decide +kernel, by decide +kernel⟩, List.mem_of_getElem? (i := 349) (by decide +kernel), List.mem_of_getElem? (i := 885) (by decide +kernel), List.mem_of_getElem? (i := 886) (by decide +kernel)⟩
theorem lw_p29 : lw_okq (⟨"BridgeStrip$Ways", "openingBehind", "(LBridgeStrip$Book;III)I"⟩, 7) := ⟨⟨by decide +kernel, by decide +kernel⟩, List.mem_of_getElem? (i := 349) (by decide +kernel), List.mem_of_getElem? (i := 890) (by decide +kernel), List.mem_of_getElem? (i := 891) (by decide +kernel)⟩
theorem lw_p30 : lw_okq (⟨"BridgeStrip$Ways", "offerDay", "(III)V"⟩, 7) := ⟨⟨by decide +kernel, by decide +kernel⟩, List.mem_of_getElem? (i := 349) (by decide +kernel), List.mem_of_getElem? (i := 909) (by decide +kernel), List.mem_of_getElem? (i := 910) (by decide +kernel)⟩
theorem lw_p31 : lw_okq (⟨"BridgeStrip", "grantWay", "(I)I"⟩, 15) := ⟨⟨by decide +kernel, by decide +kernel⟩, List.mem_of_getElem? (i := 27) (by decide +kernel), List.mem_of_getElem? (i := 913) (by decide +kernel), List.mem_of_getElem? (i := 914) (by decide +kernel)⟩
def lw_privs_2 : List (MethodName × Nat) := [(⟨"BridgeStrip$Reader", "readPost", "()Z"⟩, 13), (⟨"BridgeStrip$Reader", "readGift", "()Z"⟩, 13), (⟨"BridgeStrip$Reader", "readCase", "()Z"⟩, 13), (⟨"BridgeStrip", "beginAnew", "()V"⟩, 15), (⟨"BridgeStrip", "grant", "(I)I"⟩, 15), (⟨"BridgeStrip", "rulingRefusal", "(IIIII)I"⟩, 15), (⟨"BridgeStrip", "isPaperSort", "(II)Z"⟩, 15), (⟨"BridgeStrip", "decline", "(I)Z"⟩, 15), (⟨"BridgeStrip$People", "lasts", "(II)Z"⟩, 7), (⟨"BridgeStrip", "travelRefusal", "(III)I"⟩, 15), (⟨"BridgeStrip$Ways", "begin", "(II)V"⟩, 7), (⟨"BridgeStrip$Ways", "soonestUnsettled", "(I)I"⟩, 7), (⟨"BridgeStrip$Ways", "comingDay", "(LBridgeStrip$Book;III)I"⟩, 7), (⟨"BridgeStrip$Ways", "openingBehind", "(LBridgeStrip$Book;III)I"⟩, 7), (⟨"BridgeStrip$Ways", "offerDay", "(III)V"⟩, 7), (⟨"BridgeStrip", "grantWay", "(I)I"⟩, 15)]
theorem lw_r2 : ∀ q ∈ lw_privs_2, lw_okq q := List.forall_mem_cons.mpr ⟨lw_p16, List.forall_mem_cons.mpr ⟨lw_p17, List.forall_mem_cons.mpr ⟨lw_p18, List.forall_mem_cons.mpr ⟨lw_p19, List.forall_mem_cons.mpr ⟨lw_p20, List.forall_mem_cons.mpr ⟨lw_p21, List.forall_mem_cons.mpr ⟨lw_p22, List.forall_mem_cons.mpr ⟨lw_p23, List.forall_mem_cons.mpr ⟨lw_p24, List.forall_mem_cons.mpr ⟨lw_p25, List.forall_mem_cons.mpr ⟨lw_p26, List.forall_mem_cons.mpr ⟨lw_p27, List.forall_mem_cons.mpr ⟨lw_p28, List.forall_mem_cons.mpr ⟨lw_p29, List.forall_mem_cons.mpr ⟨lw_p30, List.forall_mem_cons.mpr ⟨lw_p31, fun _ h => absurd h List.not_mem_nil⟩⟩⟩⟩⟩⟩⟩⟩⟩⟩⟩⟩⟩⟩⟩⟩
theorem lw_p32 : lw_okq (⟨"BridgeStrip$Ways", "meetPosts", "(LBridgeStrip$Book;II)V"⟩, 7) := ⟨⟨by decide +kernel, by decide +kernel⟩, List.mem_of_getElem? (i := 349) (by decide +kernel), List.mem_of_getElem? (i := 926) (by decide +kernel), List.mem_of_getElem? (i := 927) (by decide +kernel)⟩
theorem lw_p33 : lw_okq (⟨"BridgeStrip$Ways", "openRoads", "(LBridgeStrip$Book;III)V"⟩, 7) := ⟨⟨by decide +kernel, by decide +kernel⟩, List.mem_of_getElem? (i := 349) (by decide +kernel), List.mem_of_getElem? (i := 930) (by decide +kernel), List.mem_of_getElem? (i := 931) (by decide +kernel)⟩
theorem lw_p34 : lw_okq (⟨"BridgeStrip$Ways", "lowerEnds", "(LBridgeStrip$Roads;I)V"⟩, 7) := ⟨⟨by decide +kernel, by decide +kernel⟩, List.mem_of_getElem? (i := 349) (by decide +kernel), List.mem_of_getElem? (i := 935) (by decide +kernel), List.mem_of_getElem? (i := 936) (by decide +kernel)⟩
theorem lw_p35 : lw_okq (⟨"BridgeStrip", "personDayRefusal", "(II)I"⟩, 15) := ⟨⟨by decide +kernel, by decide +kernel⟩, List.mem_of_getElem? (i := 27) (by decide +kernel), List.mem_of_getElem? (i := 943) (by decide +kernel), List.mem_of_getElem? (i := 944) (by decide +kernel)⟩
theorem lw_p36 : lw_okq (⟨"BridgeStrip$Ways", "reachWith", "(LBridgeStrip$Book;IIII)I"⟩, 7) := ⟨⟨by decide +kernel, by decide +kernel⟩, List.mem_of_getElem? (i := 349) (by decide +kernel), List.mem_of_getElem? (i := 951) (by decide +kernel), List.mem_of_getElem? (i := 952) (by decide +kernel)⟩
theorem lw_p37 : lw_okq (⟨"BridgeStrip$Loads", "findFitting", "(LBridgeStrip$Book;I)V"⟩, 7) := ⟨⟨by decide +kernel, by decide +kernel⟩, List.mem_of_getElem? (i := 379) (by decide +kernel), List.mem_of_getElem? (i := 988) (by decide +kernel), List.mem_of_getElem? (i := 989) (by decide +kernel)⟩
theorem lw_p38 : lw_okq (⟨"BridgeStrip$Loads", "costOf", "(I)I"⟩, 7) := ⟨⟨by decide +kernel, by decide +kernel⟩, List.mem_of_getElem? (i := 379) (by decide +kernel), List.mem_of_getElem? (i := 994) (by decide +kernel), List.mem_of_getElem? (i := 995) (by decide +kernel)⟩
theorem lw_p39 : lw_okq (⟨"BridgeStrip$Loads", "carries", "(LBridgeStrip$Book;III)Z"⟩, 7) := ⟨⟨by decide +kernel, by decide +kernel⟩, List.mem_of_getElem? (i := 379) (by decide +kernel), List.mem_of_getElem? (i := 999) (by decide +kernel), List.mem_of_getElem? (i := 1000) (by decide +kernel)⟩
theorem lw_p40 : lw_okq (⟨"BridgeStrip$Gifts", "dueDay", "(ILBridgeStrip$People;III)I"⟩, 9) := ⟨⟨by decide +kernel, by decide +kernel⟩, List.mem_of_getElem? (i := 123) (by decide +kernel), List.mem_of_getElem? (i := 1018) (by decide +kernel), List.mem_of_getElem? (i := 1019) (by decide +kernel)⟩
theorem lw_p41 : lw_okq (⟨"BridgeStrip$Gifts", "caseDay", "(ILBridgeStrip$People;III)I"⟩, 9) := ⟨⟨by decide +kernel, by decide +kernel⟩, List.mem_of_getElem? (i := 123) (by decide +kernel), List.mem_of_getElem? (i := 1022) (by decide +kernel), List.mem_of_getElem? (i := 1023) (by decide +kernel)⟩
theorem lw_p42 : lw_okq (⟨"BridgeStrip$Treaty", "foesOf", "(I)I"⟩, 9) := ⟨⟨by decide +kernel, by decide +kernel⟩, List.mem_of_getElem? (i := 441) (by decide +kernel), List.mem_of_getElem? (i := 1100) (by decide +kernel), List.mem_of_getElem? (i := 1101) (by decide +kernel)⟩
theorem lw_p43 : lw_okq (⟨"BridgeStrip$Treaty", "choose", "(III)V"⟩, 9) := ⟨⟨by decide +kernel, by decide +kernel⟩, List.mem_of_getElem? (i := 441) (by decide +kernel), List.mem_of_getElem? (i := 1104) (by decide +kernel), List.mem_of_getElem? (i := 1105) (by decide +kernel)⟩
theorem lw_p44 : lw_okq (⟨"BridgeStrip$Treaty", "keepTried", "(I)V"⟩, 9) := ⟨⟨by decide +kernel, by decide +kernel⟩, List.mem_of_getElem? (i := 441) (by decide +kernel), List.mem_of_getElem? (i := 1108) (by decide +kernel), List.mem_of_getElem? (i := 1109) (by decide +kernel)⟩
theorem lw_p45 : lw_okq (⟨"BridgeStrip$Treaty", "countFree", "(II)I"⟩, 9) := ⟨⟨by decide +kernel, by decide +kernel⟩, List.mem_of_getElem? (i := 441) (by decide +kernel), List.mem_of_getElem? (i := 1112) (by decide +kernel), List.mem_of_getElem? (i := 1113) (by decide +kernel)⟩
theorem lw_p46 : lw_okq (⟨"BridgeStrip$Treaty", "mayStand", "(II)Z"⟩, 9) := ⟨⟨by decide +kernel, by decide +kernel⟩, List.mem_of_getElem? (i := 441) (by decide +kernel), List.mem_of_getElem? (i := 1116) (by decide +kernel), List.mem_of_getElem? (i := 1117) (by decide +kernel)⟩
theorem lw_p47 : lw_okq (⟨"java/lang/Throwable", "fillInStackTrace", "(I)Ljava/lang/Throwable;"⟩, 6) := ⟨⟨by decide +kernel, by decide +kernel⟩, List.mem_of_getElem? (i := 1206) (by decide +kernel), List.mem_of_getElem? (i := 1204) (by decide +kernel), List.mem_of_getElem? (i := 1205) (by decide +kernel)⟩
def lw_privs_3 : List (MethodName × Nat) := [(⟨"BridgeStrip$Ways", "meetPosts", "(LBridgeStrip$Book;II)V"⟩, 7), (⟨"BridgeStrip$Ways", "openRoads", "(LBridgeStrip$Book;III)V"⟩, 7), (⟨"BridgeStrip$Ways", "lowerEnds", "(LBridgeStrip$Roads;I)V"⟩, 7), (⟨"BridgeStrip", "personDayRefusal", "(II)I"⟩, 15), (⟨"BridgeStrip$Ways", "reachWith", "(LBridgeStrip$Book;IIII)I"⟩, 7), (⟨"BridgeStrip$Loads", "findFitting", "(LBridgeStrip$Book;I)V"⟩, 7), (⟨"BridgeStrip$Loads", "costOf", "(I)I"⟩, 7), (⟨"BridgeStrip$Loads", "carries", "(LBridgeStrip$Book;III)Z"⟩, 7), (⟨"BridgeStrip$Gifts", "dueDay", "(ILBridgeStrip$People;III)I"⟩, 9), (⟨"BridgeStrip$Gifts", "caseDay", "(ILBridgeStrip$People;III)I"⟩, 9), (⟨"BridgeStrip$Treaty", "foesOf", "(I)I"⟩, 9), (⟨"BridgeStrip$Treaty", "choose", "(III)V"⟩, 9), (⟨"BridgeStrip$Treaty", "keepTried", "(I)V"⟩, 9), (⟨"BridgeStrip$Treaty", "countFree", "(II)I"⟩, 9), (⟨"BridgeStrip$Treaty", "mayStand", "(II)Z"⟩, 9), (⟨"java/lang/Throwable", "fillInStackTrace", "(I)Ljava/lang/Throwable;"⟩, 6)]
theorem lw_r3 : ∀ q ∈ lw_privs_3, lw_okq q := List.forall_mem_cons.mpr ⟨lw_p32, List.forall_mem_cons.mpr ⟨lw_p33, List.forall_mem_cons.mpr ⟨lw_p34, List.forall_mem_cons.mpr ⟨lw_p35, List.forall_mem_cons.mpr ⟨lw_p36, List.forall_mem_cons.mpr ⟨lw_p37, List.forall_mem_cons.mpr ⟨lw_p38, List.forall_mem_cons.mpr ⟨lw_p39, List.forall_mem_cons.mpr ⟨lw_p40, List.forall_mem_cons.mpr ⟨lw_p41, List.forall_mem_cons.mpr ⟨lw_p42, List.forall_mem_cons.mpr ⟨lw_p43, List.forall_mem_cons.mpr ⟨lw_p44, List.forall_mem_cons.mpr ⟨lw_p45, List.forall_mem_cons.mpr ⟨lw_p46, List.forall_mem_cons.mpr ⟨lw_p47, fun _ h => absurd h List.not_mem_nil⟩⟩⟩⟩⟩⟩⟩⟩⟩⟩⟩⟩⟩⟩⟩⟩
theorem lw_p48 : lw_okq (⟨"BridgeStripModel", "refused", "(I)I"⟩, 53) := ⟨⟨by decide +kernel, by decide +kernel⟩, List.mem_of_getElem? (i := 1240) (by decide +kernel), List.mem_of_getElem? (i := 1447) (by decide +kernel), List.mem_of_getElem? (i := 1448) (by decide +kernel)⟩
theorem lw_p49 : lw_okq (⟨"BridgeStripModel", "begins", "(I)V"⟩, 53) := ⟨⟨by decide +kernel, by decide +kernel⟩, List.mem_of_getElem? (i := 1240) (by decide +kernel), List.mem_of_getElem? (i := 1451) (by decide +kernel), List.mem_of_getElem? (i := 1452) (by decide +kernel)⟩
theorem lw_p50 : lw_okq (⟨"BridgeStripModel", "next", "()V"⟩, 53) := ⟨⟨by decide +kernel, by decide +kernel⟩, List.mem_of_getElem? (i := 1240) (by decide +kernel), List.mem_of_getElem? (i := 1575) (by decide +kernel), List.mem_of_getElem? (i := 1576) (by decide +kernel)⟩
theorem lw_p51 : lw_okq (⟨"BridgeStripModel", "byteAt", "(I)I"⟩, 53) := ⟨⟨by decide +kernel, by decide +kernel⟩, List.mem_of_getElem? (i := 1240) (by decide +kernel), List.mem_of_getElem? (i := 1579) (by decide +kernel), List.mem_of_getElem? (i := 1580) (by decide +kernel)⟩
theorem lw_p52 : lw_okq (⟨"BridgeStripModel", "readBook", "()V"⟩, 53) := ⟨⟨by decide +kernel, by decide +kernel⟩, List.mem_of_getElem? (i := 1240) (by decide +kernel), List.mem_of_getElem? (i := 1590) (by decide +kernel), List.mem_of_getElem? (i := 1591) (by decide +kernel)⟩
theorem lw_p53 : lw_okq (⟨"BridgeStripModel", "isWord", "(Ljava/lang/String;)Z"⟩, 53) := ⟨⟨by decide +kernel, by decide +kernel⟩, List.mem_of_getElem? (i := 1240) (by decide +kernel), List.mem_of_getElem? (i := 1595) (by decide +kernel), List.mem_of_getElem? (i := 1596) (by decide +kernel)⟩
theorem lw_p54 : lw_okq (⟨"BridgeStripModel", "readThing", "(II)V"⟩, 53) := ⟨⟨by decide +kernel, by decide +kernel⟩, List.mem_of_getElem? (i := 1240) (by decide +kernel), List.mem_of_getElem? (i := 1604) (by decide +kernel), List.mem_of_getElem? (i := 1605) (by decide +kernel)⟩
theorem lw_p55 : lw_okq (⟨"BridgeStripModel", "stop", "(I)LBridgeStripModel$Stop;"⟩, 53) := ⟨⟨by decide +kernel, by decide +kernel⟩, List.mem_of_getElem? (i := 1240) (by decide +kernel), List.mem_of_getElem? (i := 1608) (by decide +kernel), List.mem_of_getElem? (i := 1609) (by decide +kernel)⟩
theorem lw_p56 : lw_okq (⟨"BridgeStripModel", "isName", "()Z"⟩, 53) := ⟨⟨by decide +kernel, by decide +kernel⟩, List.mem_of_getElem? (i := 1240) (by decide +kernel), List.mem_of_getElem? (i := 1612) (by decide +kernel), List.mem_of_getElem? (i := 1613) (by decide +kernel)⟩
theorem lw_p57 : lw_okq (⟨"BridgeStripModel", "readRoad", "()V"⟩, 53) := ⟨⟨by decide +kernel, by decide +kernel⟩, List.mem_of_getElem? (i := 1240) (by decide +kernel), List.mem_of_getElem? (i := 1629) (by decide +kernel), List.mem_of_getElem? (i := 1630) (by decide +kernel)⟩
theorem lw_p58 : lw_okq (⟨"BridgeStripModel", "readTold", "(I)I"⟩, 53) := ⟨⟨by decide +kernel, by decide +kernel⟩, List.mem_of_getElem? (i := 1240) (by decide +kernel), List.mem_of_getElem? (i := 1633) (by decide +kernel), List.mem_of_getElem? (i := 1634) (by decide +kernel)⟩
theorem lw_p59 : lw_okq (⟨"BridgeStripModel", "needWord", "(Ljava/lang/String;)V"⟩, 53) := ⟨⟨by decide +kernel, by decide +kernel⟩, List.mem_of_getElem? (i := 1240) (by decide +kernel), List.mem_of_getElem? (i := 1638) (by decide +kernel), List.mem_of_getElem? (i := 1639) (by decide +kernel)⟩
theorem lw_p60 : lw_okq (⟨"BridgeStripModel", "readWhole", "(II)I"⟩, 53) := ⟨⟨by decide +kernel, by decide +kernel⟩, List.mem_of_getElem? (i := 1240) (by decide +kernel), List.mem_of_getElem? (i := 1642) (by decide +kernel), List.mem_of_getElem? (i := 1643) (by decide +kernel)⟩
theorem lw_p61 : lw_okq (⟨"BridgeStripModel", "readLaw", "(I)V"⟩, 53) := ⟨⟨by decide +kernel, by decide +kernel⟩, List.mem_of_getElem? (i := 1240) (by decide +kernel), List.mem_of_getElem? (i := 1651) (by decide +kernel), List.mem_of_getElem? (i := 1652) (by decide +kernel)⟩
theorem lw_p62 : lw_okq (⟨"BridgeStripModel", "readGift", "()V"⟩, 53) := ⟨⟨by decide +kernel, by decide +kernel⟩, List.mem_of_getElem? (i := 1240) (by decide +kernel), List.mem_of_getElem? (i := 1660) (by decide +kernel), List.mem_of_getElem? (i := 1661) (by decide +kernel)⟩
theorem lw_p63 : lw_okq (⟨"BridgeStripModel", "readCase", "(I)V"⟩, 53) := ⟨⟨by decide +kernel, by decide +kernel⟩, List.mem_of_getElem? (i := 1240) (by decide +kernel), List.mem_of_getElem? (i := 1665) (by decide +kernel), List.mem_of_getElem? (i := 1666) (by decide +kernel)⟩
def lw_privs_4 : List (MethodName × Nat) := [(⟨"BridgeStripModel", "refused", "(I)I"⟩, 53), (⟨"BridgeStripModel", "begins", "(I)V"⟩, 53), (⟨"BridgeStripModel", "next", "()V"⟩, 53), (⟨"BridgeStripModel", "byteAt", "(I)I"⟩, 53), (⟨"BridgeStripModel", "readBook", "()V"⟩, 53), (⟨"BridgeStripModel", "isWord", "(Ljava/lang/String;)Z"⟩, 53), (⟨"BridgeStripModel", "readThing", "(II)V"⟩, 53), (⟨"BridgeStripModel", "stop", "(I)LBridgeStripModel$Stop;"⟩, 53), (⟨"BridgeStripModel", "isName", "()Z"⟩, 53), (⟨"BridgeStripModel", "readRoad", "()V"⟩, 53), (⟨"BridgeStripModel", "readTold", "(I)I"⟩, 53), (⟨"BridgeStripModel", "needWord", "(Ljava/lang/String;)V"⟩, 53), (⟨"BridgeStripModel", "readWhole", "(II)I"⟩, 53), (⟨"BridgeStripModel", "readLaw", "(I)V"⟩, 53), (⟨"BridgeStripModel", "readGift", "()V"⟩, 53), (⟨"BridgeStripModel", "readCase", "(I)V"⟩, 53)]
theorem lw_r4 : ∀ q ∈ lw_privs_4, lw_okq q := List.forall_mem_cons.mpr ⟨lw_p48, List.forall_mem_cons.mpr ⟨lw_p49, List.forall_mem_cons.mpr ⟨lw_p50, List.forall_mem_cons.mpr ⟨lw_p51, List.forall_mem_cons.mpr ⟨lw_p52, List.forall_mem_cons.mpr ⟨lw_p53, List.forall_mem_cons.mpr ⟨lw_p54, List.forall_mem_cons.mpr ⟨lw_p55, List.forall_mem_cons.mpr ⟨lw_p56, List.forall_mem_cons.mpr ⟨lw_p57, List.forall_mem_cons.mpr ⟨lw_p58, List.forall_mem_cons.mpr ⟨lw_p59, List.forall_mem_cons.mpr ⟨lw_p60, List.forall_mem_cons.mpr ⟨lw_p61, List.forall_mem_cons.mpr ⟨lw_p62, List.forall_mem_cons.mpr ⟨lw_p63, fun _ h => absurd h List.not_mem_nil⟩⟩⟩⟩⟩⟩⟩⟩⟩⟩⟩⟩⟩⟩⟩⟩
theorem lw_p64 : lw_okq (⟨"BridgeStripModel", "wrong", "(LBridgeStripModel$Stop;)I"⟩, 53) := ⟨⟨by decide +kernel, by decide +kernel⟩, List.mem_of_getElem? (i := 1240) (by decide +kernel), List.mem_of_getElem? (i := 1672) (by decide +kernel), List.mem_of_getElem? (i := 1673) (by decide +kernel)⟩
theorem lw_p65 : lw_okq (⟨"BridgeStripModel", "done", "(I)I"⟩, 53) := ⟨⟨by decide +kernel, by decide +kernel⟩, List.mem_of_getElem? (i := 1240) (by decide +kernel), List.mem_of_getElem? (i := 1676) (by decide +kernel), List.mem_of_getElem? (i := 1677) (by decide +kernel)⟩
theorem lw_p66 : lw_okq (⟨"BridgeStripModel", "readLaws", "()V"⟩, 53) := ⟨⟨by decide +kernel, by decide +kernel⟩, List.mem_of_getElem? (i := 1240) (by decide +kernel), List.mem_of_getElem? (i := 1684) (by decide +kernel), List.mem_of_getElem? (i := 1685) (by decide +kernel)⟩
theorem lw_p67 : lw_okq (⟨"BridgeStripModel", "isOf", "(II)Z"⟩, 53) := ⟨⟨by decide +kernel, by decide +kernel⟩, List.mem_of_getElem? (i := 1240) (by decide +kernel), List.mem_of_getElem? (i := 1704) (by decide +kernel), List.mem_of_getElem? (i := 1705) (by decide +kernel)⟩
theorem lw_p68 : lw_okq (⟨"BridgeStripModel", "lawOf", "(IIIII)I"⟩, 53) := ⟨⟨by decide +kernel, by decide +kernel⟩, List.mem_of_getElem? (i := 1240) (by decide +kernel), List.mem_of_getElem? (i := 1711) (by decide +kernel), List.mem_of_getElem? (i := 1712) (by decide +kernel)⟩
theorem lw_p69 : lw_okq (⟨"BridgeStripModel", "comes", "(I)I"⟩, 53) := ⟨⟨by decide +kernel, by decide +kernel⟩, List.mem_of_getElem? (i := 1240) (by decide +kernel), List.mem_of_getElem? (i := 1723) (by decide +kernel), List.mem_of_getElem? (i := 1724) (by decide +kernel)⟩
theorem lw_p70 : lw_okq (⟨"BridgeStripModel", "isPerson", "(I)Z"⟩, 53) := ⟨⟨by decide +kernel, by decide +kernel⟩, List.mem_of_getElem? (i := 1240) (by decide +kernel), List.mem_of_getElem? (i := 1731) (by decide +kernel), List.mem_of_getElem? (i := 1732) (by decide +kernel)⟩
theorem lw_p71 : lw_okq (⟨"BridgeStripModel", "gives", "(IIIII)V"⟩, 53) := ⟨⟨by decide +kernel, by decide +kernel⟩, List.mem_of_getElem? (i := 1240) (by decide +kernel), List.mem_of_getElem? (i := 1735) (by decide +kernel), List.mem_of_getElem? (i := 1736) (by decide +kernel)⟩
theorem lw_p72 : lw_okq (⟨"BridgeStripModel", "denied", "(I)Z"⟩, 53) := ⟨⟨by decide +kernel, by decide +kernel⟩, List.mem_of_getElem? (i := 1240) (by decide +kernel), List.mem_of_getElem? (i := 1747) (by decide +kernel), List.mem_of_getElem? (i := 1748) (by decide +kernel)⟩
theorem lw_p73 : lw_okq (⟨"BridgeStripModel", "granted", "()Z"⟩, 53) := ⟨⟨by decide +kernel, by decide +kernel⟩, List.mem_of_getElem? (i := 1240) (by decide +kernel), List.mem_of_getElem? (i := 1751) (by decide +kernel), List.mem_of_getElem? (i := 1752) (by decide +kernel)⟩
theorem lw_p74 : lw_okq (⟨"BridgeStripModel", "goodIn", "(III)I"⟩, 53) := ⟨⟨by decide +kernel, by decide +kernel⟩, List.mem_of_getElem? (i := 1240) (by decide +kernel), List.mem_of_getElem? (i := 1759) (by decide +kernel), List.mem_of_getElem? (i := 1760) (by decide +kernel)⟩
theorem lw_p75 : lw_okq (⟨"BridgeStripModel", "has", "(IIII)Z"⟩, 53) := ⟨⟨by decide +kernel, by decide +kernel⟩, List.mem_of_getElem? (i := 1240) (by decide +kernel), List.mem_of_getElem? (i := 1763) (by decide +kernel), List.mem_of_getElem? (i := 1764) (by decide +kernel)⟩
theorem lw_p76 : lw_okq (⟨"BridgeStripModel", "isTaken", "(IIII)Z"⟩, 53) := ⟨⟨by decide +kernel, by decide +kernel⟩, List.mem_of_getElem? (i := 1240) (by decide +kernel), List.mem_of_getElem? (i := 1767) (by decide +kernel), List.mem_of_getElem? (i := 1768) (by decide +kernel)⟩
theorem lw_p77 : lw_okq (⟨"BridgeStripModel", "isOpen", "(III)Z"⟩, 53) := ⟨⟨by decide +kernel, by decide +kernel⟩, List.mem_of_getElem? (i := 1240) (by decide +kernel), List.mem_of_getElem? (i := 1779) (by decide +kernel), List.mem_of_getElem? (i := 1780) (by decide +kernel)⟩
theorem lw_p78 : lw_okq (⟨"BridgeStripModel", "goes", "(II)V"⟩, 53) := ⟨⟨by decide +kernel, by decide +kernel⟩, List.mem_of_getElem? (i := 1240) (by decide +kernel), List.mem_of_getElem? (i := 1787) (by decide +kernel), List.mem_of_getElem? (i := 1788) (by decide +kernel)⟩
theorem lw_p79 : lw_okq (⟨"BridgeStripModel", "end", "(IZ)I"⟩, 53) := ⟨⟨by decide +kernel, by decide +kernel⟩, List.mem_of_getElem? (i := 1240) (by decide +kernel), List.mem_of_getElem? (i := 1791) (by decide +kernel), List.mem_of_getElem? (i := 1792) (by decide +kernel)⟩
def lw_privs_5 : List (MethodName × Nat) := [(⟨"BridgeStripModel", "wrong", "(LBridgeStripModel$Stop;)I"⟩, 53), (⟨"BridgeStripModel", "done", "(I)I"⟩, 53), (⟨"BridgeStripModel", "readLaws", "()V"⟩, 53), (⟨"BridgeStripModel", "isOf", "(II)Z"⟩, 53), (⟨"BridgeStripModel", "lawOf", "(IIIII)I"⟩, 53), (⟨"BridgeStripModel", "comes", "(I)I"⟩, 53), (⟨"BridgeStripModel", "isPerson", "(I)Z"⟩, 53), (⟨"BridgeStripModel", "gives", "(IIIII)V"⟩, 53), (⟨"BridgeStripModel", "denied", "(I)Z"⟩, 53), (⟨"BridgeStripModel", "granted", "()Z"⟩, 53), (⟨"BridgeStripModel", "goodIn", "(III)I"⟩, 53), (⟨"BridgeStripModel", "has", "(IIII)Z"⟩, 53), (⟨"BridgeStripModel", "isTaken", "(IIII)Z"⟩, 53), (⟨"BridgeStripModel", "isOpen", "(III)Z"⟩, 53), (⟨"BridgeStripModel", "goes", "(II)V"⟩, 53), (⟨"BridgeStripModel", "end", "(IZ)I"⟩, 53)]
theorem lw_r5 : ∀ q ∈ lw_privs_5, lw_okq q := List.forall_mem_cons.mpr ⟨lw_p64, List.forall_mem_cons.mpr ⟨lw_p65, List.forall_mem_cons.mpr ⟨lw_p66, List.forall_mem_cons.mpr ⟨lw_p67, List.forall_mem_cons.mpr ⟨lw_p68, List.forall_mem_cons.mpr ⟨lw_p69, List.forall_mem_cons.mpr ⟨lw_p70, List.forall_mem_cons.mpr ⟨lw_p71, List.forall_mem_cons.mpr ⟨lw_p72, List.forall_mem_cons.mpr ⟨lw_p73, List.forall_mem_cons.mpr ⟨lw_p74, List.forall_mem_cons.mpr ⟨lw_p75, List.forall_mem_cons.mpr ⟨lw_p76, List.forall_mem_cons.mpr ⟨lw_p77, List.forall_mem_cons.mpr ⟨lw_p78, List.forall_mem_cons.mpr ⟨lw_p79, fun _ h => absurd h List.not_mem_nil⟩⟩⟩⟩⟩⟩⟩⟩⟩⟩⟩⟩⟩⟩⟩⟩
theorem lw_p80 : lw_okq (⟨"BridgeStripModel", "comesBy", "(III)I"⟩, 53) := ⟨⟨by decide +kernel, by decide +kernel⟩, List.mem_of_getElem? (i := 1240) (by decide +kernel), List.mem_of_getElem? (i := 1795) (by decide +kernel), List.mem_of_getElem? (i := 1796) (by decide +kernel)⟩
theorem lw_p81 : lw_okq (⟨"BridgeStripModel", "pays", "(II)V"⟩, 53) := ⟨⟨by decide +kernel, by decide +kernel⟩, List.mem_of_getElem? (i := 1240) (by decide +kernel), List.mem_of_getElem? (i := 1804) (by decide +kernel), List.mem_of_getElem? (i := 1805) (by decide +kernel)⟩
theorem lw_p82 : lw_okq (⟨"BridgeStripModel", "reached", "(II)I"⟩, 53) := ⟨⟨by decide +kernel, by decide +kernel⟩, List.mem_of_getElem? (i := 1240) (by decide +kernel), List.mem_of_getElem? (i := 1812) (by decide +kernel), List.mem_of_getElem? (i := 1813) (by decide +kernel)⟩
theorem lw_p83 : lw_okq (⟨"BridgeStripModel", "stampsOf", "(II)I"⟩, 53) := ⟨⟨by decide +kernel, by decide +kernel⟩, List.mem_of_getElem? (i := 1240) (by decide +kernel), List.mem_of_getElem? (i := 1828) (by decide +kernel), List.mem_of_getElem? (i := 1829) (by decide +kernel)⟩
theorem lw_p84 : lw_okq (⟨"BridgeStripModel", "isCarried", "(III)Z"⟩, 53) := ⟨⟨by decide +kernel, by decide +kernel⟩, List.mem_of_getElem? (i := 1240) (by decide +kernel), List.mem_of_getElem? (i := 1835) (by decide +kernel), List.mem_of_getElem? (i := 1836) (by decide +kernel)⟩
theorem lw_p85 : lw_okq (⟨"BridgeStripModel", "giftDay", "(III)I"⟩, 53) := ⟨⟨by decide +kernel, by decide +kernel⟩, List.mem_of_getElem? (i := 1240) (by decide +kernel), List.mem_of_getElem? (i := 1847) (by decide +kernel), List.mem_of_getElem? (i := 1848) (by decide +kernel)⟩
theorem lw_p86 : lw_okq (⟨"BridgeStripModel", "hasFrom", "(III)I"⟩, 53) := ⟨⟨by decide +kernel, by decide +kernel⟩, List.mem_of_getElem? (i := 1240) (by decide +kernel), List.mem_of_getElem? (i := 1851) (by decide +kernel), List.mem_of_getElem? (i := 1852) (by decide +kernel)⟩
theorem lw_p87 : lw_okq (⟨"BridgeStripModel", "lastsNow", "(III)Z"⟩, 53) := ⟨⟨by decide +kernel, by decide +kernel⟩, List.mem_of_getElem? (i := 1240) (by decide +kernel), List.mem_of_getElem? (i := 1855) (by decide +kernel), List.mem_of_getElem? (i := 1856) (by decide +kernel)⟩
theorem lw_p88 : lw_okq (⟨"BridgeStripModel", "binding", "(IIII)I"⟩, 53) := ⟨⟨by decide +kernel, by decide +kernel⟩, List.mem_of_getElem? (i := 1240) (by decide +kernel), List.mem_of_getElem? (i := 1868) (by decide +kernel), List.mem_of_getElem? (i := 1869) (by decide +kernel)⟩
theorem lw_p89 : lw_okq (⟨"BridgeStripModel", "best", "()I"⟩, 53) := ⟨⟨by decide +kernel, by decide +kernel⟩, List.mem_of_getElem? (i := 1240) (by decide +kernel), List.mem_of_getElem? (i := 1889) (by decide +kernel), List.mem_of_getElem? (i := 1890) (by decide +kernel)⟩
theorem lw_p90 : lw_okq (⟨"BridgeStripModel", "isQuiet", "()Z"⟩, 53) := ⟨⟨by decide +kernel, by decide +kernel⟩, List.mem_of_getElem? (i := 1240) (by decide +kernel), List.mem_of_getElem? (i := 1893) (by decide +kernel), List.mem_of_getElem? (i := 1894) (by decide +kernel)⟩
theorem lw_p91 : lw_okq (⟨"BridgeStripModel", "turns", "()Z"⟩, 53) := ⟨⟨by decide +kernel, by decide +kernel⟩, List.mem_of_getElem? (i := 1240) (by decide +kernel), List.mem_of_getElem? (i := 1897) (by decide +kernel), List.mem_of_getElem? (i := 1898) (by decide +kernel)⟩
theorem lw_p92 : lw_okq (⟨"BridgeStripModel", "roadTo", "(II)I"⟩, 53) := ⟨⟨by decide +kernel, by decide +kernel⟩, List.mem_of_getElem? (i := 1240) (by decide +kernel), List.mem_of_getElem? (i := 1926) (by decide +kernel), List.mem_of_getElem? (i := 1927) (by decide +kernel)⟩
def lw_privs_6 : List (MethodName × Nat) := [(⟨"BridgeStripModel", "comesBy", "(III)I"⟩, 53), (⟨"BridgeStripModel", "pays", "(II)V"⟩, 53), (⟨"BridgeStripModel", "reached", "(II)I"⟩, 53), (⟨"BridgeStripModel", "stampsOf", "(II)I"⟩, 53), (⟨"BridgeStripModel", "isCarried", "(III)Z"⟩, 53), (⟨"BridgeStripModel", "giftDay", "(III)I"⟩, 53), (⟨"BridgeStripModel", "hasFrom", "(III)I"⟩, 53), (⟨"BridgeStripModel", "lastsNow", "(III)Z"⟩, 53), (⟨"BridgeStripModel", "binding", "(IIII)I"⟩, 53), (⟨"BridgeStripModel", "best", "()I"⟩, 53), (⟨"BridgeStripModel", "isQuiet", "()Z"⟩, 53), (⟨"BridgeStripModel", "turns", "()Z"⟩, 53), (⟨"BridgeStripModel", "roadTo", "(II)I"⟩, 53)]
theorem lw_r6 : ∀ q ∈ lw_privs_6, lw_okq q := List.forall_mem_cons.mpr ⟨lw_p80, List.forall_mem_cons.mpr ⟨lw_p81, List.forall_mem_cons.mpr ⟨lw_p82, List.forall_mem_cons.mpr ⟨lw_p83, List.forall_mem_cons.mpr ⟨lw_p84, List.forall_mem_cons.mpr ⟨lw_p85, List.forall_mem_cons.mpr ⟨lw_p86, List.forall_mem_cons.mpr ⟨lw_p87, List.forall_mem_cons.mpr ⟨lw_p88, List.forall_mem_cons.mpr ⟨lw_p89, List.forall_mem_cons.mpr ⟨lw_p90, List.forall_mem_cons.mpr ⟨lw_p91, List.forall_mem_cons.mpr ⟨lw_p92, fun _ h => absurd h List.not_mem_nil⟩⟩⟩⟩⟩⟩⟩⟩⟩⟩⟩⟩⟩
def lw_privs : List (MethodName × Nat) := lw_privs_1 ++ (lw_privs_2 ++ (lw_privs_3 ++ (lw_privs_4 ++ (lw_privs_5 ++ (lw_privs_6)))))
def lw_tbl : List Cond := k2_sels lw_privs ++ tables_1
theorem lw_privs_ok : ∀ q ∈ lw_privs, lw_okq q := by
  show ∀ q ∈ lw_privs_1 ++ (lw_privs_2 ++ (lw_privs_3 ++ (lw_privs_4 ++ (lw_privs_5 ++ (lw_privs_6))))), lw_okq q
  exact List.forall_mem_append.mpr ⟨lw_r1, List.forall_mem_append.mpr ⟨lw_r2, List.forall_mem_append.mpr ⟨lw_r3, List.forall_mem_append.mpr ⟨lw_r4, List.forall_mem_append.mpr ⟨lw_r5, lw_r6⟩⟩⟩⟩⟩

/-! ===== BEGIN words of one list among another's, by their places ===== -/
theorem goodIn_r {big : List Cond} (ws : List Cond) (ps : List Nat) (hp : ws = ps.filterMap (fun i => big[i]?)) (h : ws.all goodWord = true) : GoodIn big ws := by
  intro w hw
  have h1 := List.all_eq_true.mp h w hw
  rw [hp] at hw
  obtain ⟨i, -, hi⟩ := List.mem_filterMap.mp hw
  have hm : w ∈ big := by first | exact List.mem_of_getElem? hi | exact List.getElem?_mem hi
  exact ⟨hm, good_of_word h1⟩
theorem goodIn_app {big a b : List Cond} (ha : GoodIn big a) (hb : GoodIn big b) : GoodIn big (a ++ b) := fun w h => (List.mem_append.mp h).elim (ha w) (hb w)
theorem goodIn_ca {big a b : List Cond} {c : Cond} (ha : GoodIn big (c :: a)) (hb : GoodIn big b) : GoodIn big (c :: (a ++ b)) := fun w h => (List.mem_cons.mp h).elim (fun e => ha w (List.mem_cons.mpr (Or.inl e))) (fun h => (List.mem_append.mp h).elim (fun h => ha w (List.mem_cons.mpr (Or.inr h))) (hb w))
theorem goodIn_sub {big ws : List Cond} (hm : ∀ w ∈ ws, w ∈ big) (h : ws.all goodWord = true) : GoodIn big ws := fun w hw => ⟨hm w hw, good_of_word (List.all_eq_true.mp h w hw)⟩
def RX0 : String := "BridgeStrip$Book"
def TX0 : u_T := fun k => match k with
  | 0 => ("BridgeStrip$Book", "told", "[I", true)
  | 1 => ("BridgeStrip$Book", "name", "[J", true)
  | 2 => ("BridgeStrip$Book", "sort", "[I", true)
  | 3 => ("BridgeStrip$Book", "number", "[I", true)
  | 4 => ("BridgeStrip$Book", "names", "I", false)
  | 5 => ("BridgeStrip$Book", "roads", "LBridgeStrip$Roads;", true)
  | 6 => ("BridgeStrip$Book", "laws", "LBridgeStrip$Laws;", true)
  | _ => ("BridgeStrip$Book", "gifts", "LBridgeStrip$Gifts;", true)
def tyX0 : Nat → FieldType := fun k => match k with
  | 0 => .array .int
  | 1 => .array .long
  | 2 => .array .int
  | 3 => .array .int
  | 4 => .int
  | 5 => .object "BridgeStrip$Roads"
  | 6 => .object "BridgeStrip$Laws"
  | _ => .object "BridgeStrip$Gifts"
abbrev wsX00 : List Cond := u_ws RX0 TX0 8
theorem nmX0 : ∀ a, a < 8 → ∀ b, b < 8 → a ≠ b → (TX0 a).2.1 ≠ (TX0 b).2.1 := by decide +kernel
theorem tyX0_ok : ∀ k, k < 8 → parseFieldDescriptor (TX0 k).2.2.1 = some (tyX0 k) := by decide +kernel
abbrev cX0_init : ByteArray := prog_2_method_1_code
def yX0_init : MethodName := ⟨RX0, "<init>", "()V"⟩
abbrev cX0_clear : ByteArray := prog_2_method_2_code
def yX0_clear : MethodName := ⟨RX0, "clear", "()V"⟩
abbrev cX0_has : ByteArray := prog_2_method_3_code
def yX0_has : MethodName := ⟨RX0, "has", "(II)Z"⟩
abbrev cX0_hasRoom : ByteArray := prog_2_method_4_code
def yX0_hasRoom : MethodName := ⟨RX0, "hasRoom", "(I)Z"⟩
abbrev cX0_tell : ByteArray := prog_2_method_5_code
def yX0_tell : MethodName := ⟨RX0, "tell", "(JI)V"⟩
abbrev cX0_find : ByteArray := prog_2_method_6_code
def yX0_find : MethodName := ⟨RX0, "find", "(J)I"⟩
def RX1 : String := "BridgeStrip$Court"
def TX1 : u_T := fun k => match k with
  | 0 => ("BridgeStrip$Court", "kind", "[I", true)
  | 1 => ("BridgeStrip$Court", "office", "[I", true)
  | 2 => ("BridgeStrip$Court", "person", "[I", true)
  | 3 => ("BridgeStrip$Court", "matter", "[I", true)
  | 4 => ("BridgeStrip$Court", "value", "[I", true)
  | 5 => ("BridgeStrip$Court", "since", "[I", true)
  | 6 => ("BridgeStrip$Court", "byLand", "[I", true)
  | _ => ("BridgeStrip$Court", "count", "I", false)
def tyX1 : Nat → FieldType := fun k => match k with
  | 0 => .array .int
  | 1 => .array .int
  | 2 => .array .int
  | 3 => .array .int
  | 4 => .array .int
  | 5 => .array .int
  | 6 => .array .int
  | _ => .int
abbrev wsX10 : List Cond := u_ws RX1 TX1 8
theorem nmX1 : ∀ a, a < 8 → ∀ b, b < 8 → a ≠ b → (TX1 a).2.1 ≠ (TX1 b).2.1 := by decide +kernel
theorem tyX1_ok : ∀ k, k < 8 → parseFieldDescriptor (TX1 k).2.2.1 = some (tyX1 k) := by decide +kernel
abbrev cX1_init : ByteArray := prog_3_method_1_code
def yX1_init : MethodName := ⟨RX1, "<init>", "()V"⟩
abbrev cX1_isMatter : ByteArray := prog_3_method_2_code
def yX1_isMatter : MethodName := ⟨RX1, "isMatter", "(I)Z"⟩
abbrev cX1_add : ByteArray := prog_3_method_3_code
def yX1_add : MethodName := ⟨RX1, "add", "(IIIIII)I"⟩
abbrev cX1_bindingValue : ByteArray := prog_3_method_4_code
def yX1_bindingValue : MethodName := ⟨RX1, "bindingValue", "(IIIILBridgeStrip$Laws;)I"⟩
abbrev cX1_countUnlike : ByteArray := prog_3_method_5_code
def yX1_countUnlike : MethodName := ⟨RX1, "countUnlike", "(IIILBridgeStrip$Book;)I"⟩
def RX2 : String := "BridgeStrip$Gifts"
def TX2 : u_T := fun k => match k with
  | 0 => ("BridgeStrip$Gifts", "kind", "[I", true)
  | 1 => ("BridgeStrip$Gifts", "office", "[I", true)
  | 2 => ("BridgeStrip$Gifts", "after", "[I", true)
  | 3 => ("BridgeStrip$Gifts", "cases", "[I", true)
  | 4 => ("BridgeStrip$Gifts", "caseSort", "[I", true)
  | 5 => ("BridgeStrip$Gifts", "caseSubject", "[I", true)
  | 6 => ("BridgeStrip$Gifts", "caseOffice", "[I", true)
  | 7 => ("BridgeStrip$Gifts", "past", "[Z", true)
  | _ => ("BridgeStrip$Gifts", "count", "I", false)
def tyX2 : Nat → FieldType := fun k => match k with
  | 0 => .array .int
  | 1 => .array .int
  | 2 => .array .int
  | 3 => .array .int
  | 4 => .array .int
  | 5 => .array .int
  | 6 => .array .int
  | 7 => .array .boolean
  | _ => .int
abbrev wsX20 : List Cond := u_ws RX2 TX2 9
theorem nmX2 : ∀ a, a < 9 → ∀ b, b < 9 → a ≠ b → (TX2 a).2.1 ≠ (TX2 b).2.1 := by decide +kernel
theorem tyX2_ok : ∀ k, k < 9 → parseFieldDescriptor (TX2 k).2.2.1 = some (tyX2 k) := by decide +kernel
abbrev cX2_init : ByteArray := prog_4_method_1_code
def yX2_init : MethodName := ⟨RX2, "<init>", "()V"⟩
abbrev cX2_hasRoom : ByteArray := prog_4_method_2_code
def yX2_hasRoom : MethodName := ⟨RX2, "hasRoom", "()Z"⟩
abbrev cX2_add : ByteArray := prog_4_method_3_code
def yX2_add : MethodName := ⟨RX2, "add", "(III)V"⟩
abbrev cX2_lastHasCaseRoom : ByteArray := prog_4_method_4_code
def yX2_lastHasCaseRoom : MethodName := ⟨RX2, "lastHasCaseRoom", "()Z"⟩
abbrev cX2_addCaseToLast : ByteArray := prog_4_method_5_code
def yX2_addCaseToLast : MethodName := ⟨RX2, "addCaseToLast", "(III)V"⟩
abbrev cX2_giveAll : ByteArray := prog_4_method_6_code
def yX2_giveAll : MethodName := ⟨RX2, "giveAll", "(LBridgeStrip$People;III)V"⟩
abbrev cX2_dueDay : ByteArray := prog_4_method_7_code
def yX2_dueDay : MethodName := ⟨RX2, "dueDay", "(ILBridgeStrip$People;III)I"⟩
abbrev cX2_caseDay : ByteArray := prog_4_method_8_code
def yX2_caseDay : MethodName := ⟨RX2, "caseDay", "(ILBridgeStrip$People;III)I"⟩
def RX3 : String := "BridgeStrip$Laws"
def TX3 : u_T := fun k => match k with
  | 0 => ("BridgeStrip$Laws", "land", "[I", true)
  | 1 => ("BridgeStrip$Laws", "kind", "[I", true)
  | 2 => ("BridgeStrip$Laws", "office", "[I", true)
  | 3 => ("BridgeStrip$Laws", "accepting", "[Z", true)
  | 4 => ("BridgeStrip$Laws", "since", "[I", true)
  | 5 => ("BridgeStrip$Laws", "until", "[I", true)
  | 6 => ("BridgeStrip$Laws", "known", "[I", true)
  | _ => ("BridgeStrip$Laws", "count", "I", false)
def tyX3 : Nat → FieldType := fun k => match k with
  | 0 => .array .int
  | 1 => .array .int
  | 2 => .array .int
  | 3 => .array .boolean
  | 4 => .array .int
  | 5 => .array .int
  | 6 => .array .int
  | _ => .int
abbrev wsX30 : List Cond := u_ws RX3 TX3 8
theorem nmX3 : ∀ a, a < 8 → ∀ b, b < 8 → a ≠ b → (TX3 a).2.1 ≠ (TX3 b).2.1 := by decide +kernel
theorem tyX3_ok : ∀ k, k < 8 → parseFieldDescriptor (TX3 k).2.2.1 = some (tyX3 k) := by decide +kernel
abbrev cX3_init : ByteArray := prog_5_method_1_code
def yX3_init : MethodName := ⟨RX3, "<init>", "()V"⟩
abbrev cX3_hasRoom : ByteArray := prog_5_method_2_code
def yX3_hasRoom : MethodName := ⟨RX3, "hasRoom", "()Z"⟩
abbrev cX3_add : ByteArray := prog_5_method_3_code
def yX3_add : MethodName := ⟨RX3, "add", "(IIIZIII)V"⟩
abbrev cX3_ruling : ByteArray := prog_5_method_4_code
def yX3_ruling : MethodName := ⟨RX3, "ruling", "(IIIII)I"⟩
abbrev cX3_saysTakes : ByteArray := prog_5_method_5_code
def yX3_saysTakes : MethodName := ⟨RX3, "saysTakes", "(I)Z"⟩
abbrev cX3_acceptOn : ByteArray := prog_5_method_6_code
def yX3_acceptOn : MethodName := ⟨RX3, "acceptOn", "(IIII)Z"⟩
abbrev cX3_changeBehind : ByteArray := prog_5_method_7_code
def yX3_changeBehind : MethodName := ⟨RX3, "changeBehind", "(III)I"⟩
abbrev cX3_sooner : ByteArray := prog_5_method_8_code
def yX3_sooner : MethodName := ⟨RX3, "sooner", "(III)I"⟩
def RX4 : String := "BridgeStrip$Ledger"
def TX4 : u_T := fun k => match k with
  | 0 => ("BridgeStrip$Ledger", "name", "[I", true)
  | 1 => ("BridgeStrip$Ledger", "price", "[I", true)
  | 2 => ("BridgeStrip$Ledger", "debt", "[J", true)
  | _ => ("BridgeStrip$Ledger", "count", "I", false)
def tyX4 : Nat → FieldType := fun k => match k with
  | 0 => .array .int
  | 1 => .array .int
  | 2 => .array .long
  | _ => .int
abbrev wsX40 : List Cond := u_ws RX4 TX4 4
theorem nmX4 : ∀ a, a < 4 → ∀ b, b < 4 → a ≠ b → (TX4 a).2.1 ≠ (TX4 b).2.1 := by decide +kernel
theorem tyX4_ok : ∀ k, k < 4 → parseFieldDescriptor (TX4 k).2.2.1 = some (tyX4 k) := by decide +kernel
abbrev cX4_init : ByteArray := prog_6_method_1_code
def yX4_init : MethodName := ⟨RX4, "<init>", "()V"⟩
abbrev cX4_clear : ByteArray := prog_6_method_2_code
def yX4_clear : MethodName := ⟨RX4, "clear", "()V"⟩
abbrev cX4_has : ByteArray := prog_6_method_3_code
def yX4_has : MethodName := ⟨RX4, "has", "(I)Z"⟩
abbrev cX4_add : ByteArray := prog_6_method_4_code
def yX4_add : MethodName := ⟨RX4, "add", "(II)I"⟩
abbrev cX4_charge : ByteArray := prog_6_method_5_code
def yX4_charge : MethodName := ⟨RX4, "charge", "(II)J"⟩
def RX5 : String := "BridgeStrip$Loads"
def TX5 : u_T := fun k => match k with
  | 0 => ("BridgeStrip$Loads", "kind", "[I", true)
  | 1 => ("BridgeStrip$Loads", "office", "[I", true)
  | 2 => ("BridgeStrip$Loads", "coin", "[I", true)
  | 3 => ("BridgeStrip$Loads", "fitting", "[I", true)
  | 4 => ("BridgeStrip$Loads", "roadOpen", "[Z", true)
  | 5 => ("BridgeStrip$Loads", "count", "I", false)
  | _ => ("BridgeStrip$Loads", "bought", "I", false)
def tyX5 : Nat → FieldType := fun k => match k with
  | 0 => .array .int
  | 1 => .array .int
  | 2 => .array .int
  | 3 => .array .int
  | 4 => .array .boolean
  | 5 => .int
  | _ => .int
abbrev wsX50 : List Cond := u_ws RX5 TX5 7
theorem nmX5 : ∀ a, a < 7 → ∀ b, b < 7 → a ≠ b → (TX5 a).2.1 ≠ (TX5 b).2.1 := by decide +kernel
theorem tyX5_ok : ∀ k, k < 7 → parseFieldDescriptor (TX5 k).2.2.1 = some (tyX5 k) := by decide +kernel
abbrev cX5_init : ByteArray := prog_7_method_1_code
def yX5_init : MethodName := ⟨RX5, "<init>", "()V"⟩
abbrev cX5_clear : ByteArray := prog_7_method_2_code
def yX5_clear : MethodName := ⟨RX5, "clear", "()V"⟩
abbrev cX5_add : ByteArray := prog_7_method_3_code
def yX5_add : MethodName := ⟨RX5, "add", "(III)I"⟩
abbrev cX5_buy : ByteArray := prog_7_method_4_code
def yX5_buy : MethodName := ⟨RX5, "buy", "(LBridgeStrip$Book;III)I"⟩
abbrev cX5_findFitting : ByteArray := prog_7_method_5_code
def yX5_findFitting : MethodName := ⟨RX5, "findFitting", "(LBridgeStrip$Book;I)V"⟩
abbrev cX5_costOf : ByteArray := prog_7_method_6_code
def yX5_costOf : MethodName := ⟨RX5, "costOf", "(I)I"⟩
abbrev cX5_carries : ByteArray := prog_7_method_7_code
def yX5_carries : MethodName := ⟨RX5, "carries", "(LBridgeStrip$Book;III)Z"⟩
def RX6 : String := "BridgeStrip$People"
def TX6 : u_T := fun k => match k with
  | 0 => ("BridgeStrip$People", "place", "[I", true)
  | 1 => ("BridgeStrip$People", "papers", "[I", true)
  | 2 => ("BridgeStrip$People", "kind", "[I", true)
  | 3 => ("BridgeStrip$People", "office", "[I", true)
  | 4 => ("BridgeStrip$People", "from", "[I", true)
  | 5 => ("BridgeStrip$People", "to", "[I", true)
  | _ => ("BridgeStrip$People", "count", "I", false)
def tyX6 : Nat → FieldType := fun k => match k with
  | 0 => .array .int
  | 1 => .array .int
  | 2 => .array .int
  | 3 => .array .int
  | 4 => .array .int
  | 5 => .array .int
  | _ => .int
abbrev wsX60 : List Cond := u_ws RX6 TX6 7
theorem nmX6 : ∀ a, a < 7 → ∀ b, b < 7 → a ≠ b → (TX6 a).2.1 ≠ (TX6 b).2.1 := by decide +kernel
theorem tyX6_ok : ∀ k, k < 7 → parseFieldDescriptor (TX6 k).2.2.1 = some (tyX6 k) := by decide +kernel
abbrev cX6_init : ByteArray := prog_8_method_1_code
def yX6_init : MethodName := ⟨RX6, "<init>", "()V"⟩
abbrev cX6_has : ByteArray := prog_8_method_2_code
def yX6_has : MethodName := ⟨RX6, "has", "(I)Z"⟩
abbrev cX6_hasRoom : ByteArray := prog_8_method_3_code
def yX6_hasRoom : MethodName := ⟨RX6, "hasRoom", "()Z"⟩
abbrev cX6_add : ByteArray := prog_8_method_4_code
def yX6_add : MethodName := ⟨RX6, "add", "(I)I"⟩
abbrev cX6_firstPaper : ByteArray := prog_8_method_5_code
def yX6_firstPaper : MethodName := ⟨RX6, "firstPaper", "(I)I"⟩
abbrev cX6_endOfPapers : ByteArray := prog_8_method_6_code
def yX6_endOfPapers : MethodName := ⟨RX6, "endOfPapers", "(I)I"⟩
abbrev cX6_hasPaperRoom : ByteArray := prog_8_method_7_code
def yX6_hasPaperRoom : MethodName := ⟨RX6, "hasPaperRoom", "(I)Z"⟩
abbrev cX6_give : ByteArray := prog_8_method_8_code
def yX6_give : MethodName := ⟨RX6, "give", "(IIIII)V"⟩
abbrev cX6_lasts : ByteArray := prog_8_method_9_code
def yX6_lasts : MethodName := ⟨RX6, "lasts", "(II)Z"⟩
abbrev cX6_hasLasting : ByteArray := prog_8_method_10_code
def yX6_hasLasting : MethodName := ⟨RX6, "hasLasting", "(III)Z"⟩
abbrev cX6_hasGood : ByteArray := prog_8_method_11_code
def yX6_hasGood : MethodName := ⟨RX6, "hasGood", "(IIIILBridgeStrip$Laws;)Z"⟩
abbrev cX6_goodLands : ByteArray := prog_8_method_12_code
def yX6_goodLands : MethodName := ⟨RX6, "goodLands", "(IIILBridgeStrip$Book;)I"⟩
abbrev cX6_dayHad : ByteArray := prog_8_method_13_code
def yX6_dayHad : MethodName := ⟨RX6, "dayHad", "(IIII)I"⟩
abbrev cX6_beginningBehind : ByteArray := prog_8_method_14_code
def yX6_beginningBehind : MethodName := ⟨RX6, "beginningBehind", "(III)I"⟩
def RX7 : String := "BridgeStrip$Reader"
def TX7 : u_T := fun k => match k with
  | 0 => ("BridgeStrip$Reader", "fault", "I", false)
  | 1 => ("BridgeStrip$Reader", "faultPlace", "I", false)
  | 2 => ("BridgeStrip$Reader", "reserved", "[J", true)
  | 3 => ("BridgeStrip$Reader", "text", "[B", true)
  | 4 => ("BridgeStrip$Reader", "end", "I", false)
  | 5 => ("BridgeStrip$Reader", "book", "LBridgeStrip$Book;", false)
  | 6 => ("BridgeStrip$Reader", "knownFrom", "I", false)
  | 7 => ("BridgeStrip$Reader", "lawsAlone", "Z", false)
  | 8 => ("BridgeStrip$Reader", "token", "I", false)
  | 9 => ("BridgeStrip$Reader", "start", "I", false)
  | 10 => ("BridgeStrip$Reader", "next", "I", false)
  | 11 => ("BridgeStrip$Reader", "word", "J", false)
  | _ => ("BridgeStrip$Reader", "whole", "I", false)
def tyX7 : Nat → FieldType := fun k => match k with
  | 0 => .int
  | 1 => .int
  | 2 => .array .long
  | 3 => .array .byte
  | 4 => .int
  | 5 => .object "BridgeStrip$Book"
  | 6 => .int
  | 7 => .boolean
  | 8 => .int
  | 9 => .int
  | 10 => .int
  | 11 => .long
  | _ => .int
abbrev wsX70 : List Cond := u_ws RX7 TX7 13
theorem nmX7 : ∀ a, a < 13 → ∀ b, b < 13 → a ≠ b → (TX7 a).2.1 ≠ (TX7 b).2.1 := by decide +kernel
theorem tyX7_ok : ∀ k, k < 13 → parseFieldDescriptor (TX7 k).2.2.1 = some (tyX7 k) := by decide +kernel
abbrev cX7_init : ByteArray := prog_9_method_1_code
def yX7_init : MethodName := ⟨RX7, "<init>", "([BLBridgeStrip$Book;)V"⟩
abbrev cX7_read : ByteArray := prog_9_method_2_code
def yX7_read : MethodName := ⟨RX7, "read", "(ILBridgeStrip$Book;ZI)Z"⟩
abbrev cX7_readLine : ByteArray := prog_9_method_3_code
def yX7_readLine : MethodName := ⟨RX7, "readLine", "()Z"⟩
abbrev cX7_readName : ByteArray := prog_9_method_4_code
def yX7_readName : MethodName := ⟨RX7, "readName", "(I)Z"⟩
abbrev cX7_readRoad : ByteArray := prog_9_method_5_code
def yX7_readRoad : MethodName := ⟨RX7, "readRoad", "()Z"⟩
abbrev cX7_readPost : ByteArray := prog_9_method_6_code
def yX7_readPost : MethodName := ⟨RX7, "readPost", "()Z"⟩
abbrev cX7_readLaw : ByteArray := prog_9_method_7_code
def yX7_readLaw : MethodName := ⟨RX7, "readLaw", "()Z"⟩
abbrev cX7_readGift : ByteArray := prog_9_method_8_code
def yX7_readGift : MethodName := ⟨RX7, "readGift", "()Z"⟩
abbrev cX7_readCase : ByteArray := prog_9_method_9_code
def yX7_readCase : MethodName := ⟨RX7, "readCase", "()Z"⟩
abbrev cX7_use : ByteArray := prog_9_method_10_code
def yX7_use : MethodName := ⟨RX7, "use", "(I)I"⟩
abbrev cX7_number : ByteArray := prog_9_method_11_code
def yX7_number : MethodName := ⟨RX7, "number", "(II)I"⟩
abbrev cX7_goBy : ByteArray := prog_9_method_12_code
def yX7_goBy : MethodName := ⟨RX7, "goBy", "(Ljava/lang/String;)Z"⟩
abbrev cX7_sees : ByteArray := prog_9_method_13_code
def yX7_sees : MethodName := ⟨RX7, "sees", "(Ljava/lang/String;)Z"⟩
abbrev cX7_isName : ByteArray := prog_9_method_14_code
def yX7_isName : MethodName := ⟨RX7, "isName", "()Z"⟩
abbrev cX7_numberOf : ByteArray := prog_9_method_15_code
def yX7_numberOf : MethodName := ⟨RX7, "numberOf", "(Ljava/lang/String;)J"⟩
abbrev cX7_step : ByteArray := prog_9_method_16_code
def yX7_step : MethodName := ⟨RX7, "step", "()V"⟩
abbrev cX7_stepOverWord : ByteArray := prog_9_method_17_code
def yX7_stepOverWord : MethodName := ⟨RX7, "stepOverWord", "()V"⟩
abbrev cX7_stepOverWhole : ByteArray := prog_9_method_18_code
def yX7_stepOverWhole : MethodName := ⟨RX7, "stepOverWhole", "()V"⟩
abbrev cX7_fail : ByteArray := prog_9_method_19_code
def yX7_fail : MethodName := ⟨RX7, "fail", "(I)Z"⟩
abbrev cX7_failAt : ByteArray := prog_9_method_20_code
def yX7_failAt : MethodName := ⟨RX7, "failAt", "(II)Z"⟩
def RX8 : String := "BridgeStrip$Roads"
def TX8 : u_T := fun k => match k with
  | 0 => ("BridgeStrip$Roads", "one", "[I", true)
  | 1 => ("BridgeStrip$Roads", "other", "[I", true)
  | 2 => ("BridgeStrip$Roads", "days", "[I", true)
  | 3 => ("BridgeStrip$Roads", "coin", "[I", true)
  | 4 => ("BridgeStrip$Roads", "posts", "[I", true)
  | 5 => ("BridgeStrip$Roads", "asked", "[I", true)
  | 6 => ("BridgeStrip$Roads", "asking", "[I", true)
  | _ => ("BridgeStrip$Roads", "count", "I", false)
def tyX8 : Nat → FieldType := fun k => match k with
  | 0 => .array .int
  | 1 => .array .int
  | 2 => .array .int
  | 3 => .array .int
  | 4 => .array .int
  | 5 => .array .int
  | 6 => .array .int
  | _ => .int
abbrev wsX80 : List Cond := u_ws RX8 TX8 8
theorem nmX8 : ∀ a, a < 8 → ∀ b, b < 8 → a ≠ b → (TX8 a).2.1 ≠ (TX8 b).2.1 := by decide +kernel
theorem tyX8_ok : ∀ k, k < 8 → parseFieldDescriptor (TX8 k).2.2.1 = some (tyX8 k) := by decide +kernel
abbrev cX8_init : ByteArray := prog_10_method_1_code
def yX8_init : MethodName := ⟨RX8, "<init>", "()V"⟩
abbrev cX8_hasRoom : ByteArray := prog_10_method_2_code
def yX8_hasRoom : MethodName := ⟨RX8, "hasRoom", "()Z"⟩
abbrev cX8_add : ByteArray := prog_10_method_3_code
def yX8_add : MethodName := ⟨RX8, "add", "(IIII)V"⟩
abbrev cX8_lastHasPostRoom : ByteArray := prog_10_method_4_code
def yX8_lastHasPostRoom : MethodName := ⟨RX8, "lastHasPostRoom", "()Z"⟩
abbrev cX8_addPostToLast : ByteArray := prog_10_method_5_code
def yX8_addPostToLast : MethodName := ⟨RX8, "addPostToLast", "(II)V"⟩
abbrev cX8_across : ByteArray := prog_10_method_6_code
def yX8_across : MethodName := ⟨RX8, "across", "(II)I"⟩
def RX9 : String := "BridgeStrip$Treaty"
def TX9 : u_T := fun k => match k with
  | 0 => ("BridgeStrip$Treaty", "clauses", "[I", true)
  | 1 => ("BridgeStrip$Treaty", "words", "[I", true)
  | 2 => ("BridgeStrip$Treaty", "foes", "[I", true)
  | 3 => ("BridgeStrip$Treaty", "barred", "[I", true)
  | 4 => ("BridgeStrip$Treaty", "tried", "[I", true)
  | 5 => ("BridgeStrip$Treaty", "chosen", "[I", true)
  | 6 => ("BridgeStrip$Treaty", "most", "I", false)
  | 7 => ("BridgeStrip$Treaty", "quarrels", "I", false)
  | _ => ("BridgeStrip$Treaty", "stale", "Z", false)
def tyX9 : Nat → FieldType := fun k => match k with
  | 0 => .array .int
  | 1 => .array .int
  | 2 => .array .int
  | 3 => .array .int
  | 4 => .array .int
  | 5 => .array .int
  | 6 => .int
  | 7 => .int
  | _ => .boolean
abbrev wsX90 : List Cond := u_ws RX9 TX9 9
theorem nmX9 : ∀ a, a < 9 → ∀ b, b < 9 → a ≠ b → (TX9 a).2.1 ≠ (TX9 b).2.1 := by decide +kernel
theorem tyX9_ok : ∀ k, k < 9 → parseFieldDescriptor (TX9 k).2.2.1 = some (tyX9 k) := by decide +kernel
abbrev cX9_init : ByteArray := prog_11_method_1_code
def yX9_init : MethodName := ⟨RX9, "<init>", "()V"⟩
abbrev cX9_clear : ByteArray := prog_11_method_2_code
def yX9_clear : MethodName := ⟨RX9, "clear", "()V"⟩
abbrev cX9_isThing : ByteArray := prog_11_method_3_code
def yX9_isThing : MethodName := ⟨RX9, "isThing", "(I)Z"⟩
abbrev cX9_isWord : ByteArray := prog_11_method_4_code
def yX9_isWord : MethodName := ⟨RX9, "isWord", "(I)Z"⟩
abbrev cX9_hasClauseRoom : ByteArray := prog_11_method_5_code
def yX9_hasClauseRoom : MethodName := ⟨RX9, "hasClauseRoom", "(I)Z"⟩
abbrev cX9_addClause : ByteArray := prog_11_method_6_code
def yX9_addClause : MethodName := ⟨RX9, "addClause", "(II)I"⟩
abbrev cX9_addQuarrel : ByteArray := prog_11_method_7_code
def yX9_addQuarrel : MethodName := ⟨RX9, "addQuarrel", "(II)I"⟩
abbrev cX9_settle : ByteArray := prog_11_method_8_code
def yX9_settle : MethodName := ⟨RX9, "settle", "()V"⟩
abbrev cX9_foesOf : ByteArray := prog_11_method_9_code
def yX9_foesOf : MethodName := ⟨RX9, "foesOf", "(I)I"⟩
abbrev cX9_choose : ByteArray := prog_11_method_10_code
def yX9_choose : MethodName := ⟨RX9, "choose", "(III)V"⟩
abbrev cX9_mayStand : ByteArray := prog_11_method_11_code
def yX9_mayStand : MethodName := ⟨RX9, "mayStand", "(II)Z"⟩
abbrev cX9_countFree : ByteArray := prog_11_method_12_code
def yX9_countFree : MethodName := ⟨RX9, "countFree", "(II)I"⟩
abbrev cX9_keepTried : ByteArray := prog_11_method_13_code
def yX9_keepTried : MethodName := ⟨RX9, "keepTried", "(I)V"⟩
def RX10 : String := "BridgeStrip$Ways"
def TX10 : u_T := fun k => match k with
  | 0 => ("BridgeStrip$Ways", "people", "LBridgeStrip$People;", true)
  | 1 => ("BridgeStrip$Ways", "least", "[I", true)
  | 2 => ("BridgeStrip$Ways", "trail", "[I", true)
  | 3 => ("BridgeStrip$Ways", "by", "[I", true)
  | 4 => ("BridgeStrip$Ways", "settled", "[Z", true)
  | 5 => ("BridgeStrip$Ways", "postMet", "[Z", true)
  | _ => ("BridgeStrip$Ways", "roadOpen", "[Z", true)
def tyX10 : Nat → FieldType := fun k => match k with
  | 0 => .object "BridgeStrip$People"
  | 1 => .array .int
  | 2 => .array .int
  | 3 => .array .int
  | 4 => .array .boolean
  | 5 => .array .boolean
  | _ => .array .boolean
abbrev wsX100 : List Cond := u_ws RX10 TX10 7
theorem nmX10 : ∀ a, a < 7 → ∀ b, b < 7 → a ≠ b → (TX10 a).2.1 ≠ (TX10 b).2.1 := by decide +kernel
theorem tyX10_ok : ∀ k, k < 7 → parseFieldDescriptor (TX10 k).2.2.1 = some (tyX10 k) := by decide +kernel
abbrev cX10_init : ByteArray := prog_12_method_1_code
def yX10_init : MethodName := ⟨RX10, "<init>", "(LBridgeStrip$People;)V"⟩
abbrev cX10_isOpen : ByteArray := prog_12_method_2_code
def yX10_isOpen : MethodName := ⟨RX10, "isOpen", "(LBridgeStrip$Book;III)Z"⟩
abbrev cX10_findDays : ByteArray := prog_12_method_3_code
def yX10_findDays : MethodName := ⟨RX10, "findDays", "(LBridgeStrip$Book;II)V"⟩
abbrev cX10_offerDay : ByteArray := prog_12_method_4_code
def yX10_offerDay : MethodName := ⟨RX10, "offerDay", "(III)V"⟩
abbrev cX10_begin : ByteArray := prog_12_method_5_code
def yX10_begin : MethodName := ⟨RX10, "begin", "(II)V"⟩
abbrev cX10_soonestUnsettled : ByteArray := prog_12_method_6_code
def yX10_soonestUnsettled : MethodName := ⟨RX10, "soonestUnsettled", "(I)I"⟩
abbrev cX10_comingDay : ByteArray := prog_12_method_7_code
def yX10_comingDay : MethodName := ⟨RX10, "comingDay", "(LBridgeStrip$Book;III)I"⟩
abbrev cX10_openingBehind : ByteArray := prog_12_method_8_code
def yX10_openingBehind : MethodName := ⟨RX10, "openingBehind", "(LBridgeStrip$Book;III)I"⟩
abbrev cX10_trace : ByteArray := prog_12_method_9_code
def yX10_trace : MethodName := ⟨RX10, "trace", "(LBridgeStrip$Roads;I)I"⟩
abbrev cX10_findCoins : ByteArray := prog_12_method_10_code
def yX10_findCoins : MethodName := ⟨RX10, "findCoins", "(LBridgeStrip$Book;II)V"⟩
abbrev cX10_lowerEnds : ByteArray := prog_12_method_11_code
def yX10_lowerEnds : MethodName := ⟨RX10, "lowerEnds", "(LBridgeStrip$Roads;I)V"⟩
abbrev cX10_countReach : ByteArray := prog_12_method_12_code
def yX10_countReach : MethodName := ⟨RX10, "countReach", "(LBridgeStrip$Book;II)I"⟩
abbrev cX10_bestOpener : ByteArray := prog_12_method_13_code
def yX10_bestOpener : MethodName := ⟨RX10, "bestOpener", "(LBridgeStrip$Book;II)I"⟩
abbrev cX10_meetPosts : ByteArray := prog_12_method_14_code
def yX10_meetPosts : MethodName := ⟨RX10, "meetPosts", "(LBridgeStrip$Book;II)V"⟩
abbrev cX10_openRoads : ByteArray := prog_12_method_15_code
def yX10_openRoads : MethodName := ⟨RX10, "openRoads", "(LBridgeStrip$Book;III)V"⟩
abbrev cX10_reachWith : ByteArray := prog_12_method_16_code
def yX10_reachWith : MethodName := ⟨RX10, "reachWith", "(LBridgeStrip$Book;IIII)I"⟩
abbrev cX10_spread : ByteArray := prog_12_method_17_code
def yX10_spread : MethodName := ⟨RX10, "spread", "(LBridgeStrip$Book;[ZI)I"⟩
def RX11 : String := "BridgeStrip"
def TX11 : u_T := fun k => match k with
  | 0 => ("BridgeStrip", "tape", "[B", true)
  | 1 => ("BridgeStrip", "tapeLength", "I", false)
  | 2 => ("BridgeStrip", "now", "LBridgeStrip$Book;", false)
  | 3 => ("BridgeStrip", "spare", "LBridgeStrip$Book;", false)
  | 4 => ("BridgeStrip", "reader", "LBridgeStrip$Reader;", true)
  | 5 => ("BridgeStrip", "hasBook", "Z", false)
  | 6 => ("BridgeStrip", "today", "I", false)
  | 7 => ("BridgeStrip", "people", "LBridgeStrip$People;", true)
  | 8 => ("BridgeStrip", "ways", "LBridgeStrip$Ways;", true)
  | 9 => ("BridgeStrip", "loads", "LBridgeStrip$Loads;", true)
  | 10 => ("BridgeStrip", "court", "LBridgeStrip$Court;", true)
  | 11 => ("BridgeStrip", "treaty", "LBridgeStrip$Treaty;", true)
  | 12 => ("BridgeStrip", "ledger", "LBridgeStrip$Ledger;", true)
  | 13 => ("BridgeStrip", "trouble", "I", false)
  | _ => ("BridgeStrip", "latestFault", "I", false)
def tyX11 : Nat → FieldType := fun k => match k with
  | 0 => .array .byte
  | 1 => .int
  | 2 => .object "BridgeStrip$Book"
  | 3 => .object "BridgeStrip$Book"
  | 4 => .object "BridgeStrip$Reader"
  | 5 => .boolean
  | 6 => .int
  | 7 => .object "BridgeStrip$People"
  | 8 => .object "BridgeStrip$Ways"
  | 9 => .object "BridgeStrip$Loads"
  | 10 => .object "BridgeStrip$Court"
  | 11 => .object "BridgeStrip$Treaty"
  | 12 => .object "BridgeStrip$Ledger"
  | 13 => .int
  | _ => .int
abbrev wsX110 : List Cond := u_ws RX11 TX11 15
theorem nmX11 : ∀ a, a < 15 → ∀ b, b < 15 → a ≠ b → (TX11 a).2.1 ≠ (TX11 b).2.1 := by decide +kernel
theorem tyX11_ok : ∀ k, k < 15 → parseFieldDescriptor (TX11 k).2.2.1 = some (tyX11 k) := by decide +kernel
abbrev cX11_init : ByteArray := prog_1_method_1_code
def yX11_init : MethodName := ⟨RX11, "<init>", "()V"⟩
abbrev cX11_feed : ByteArray := prog_1_method_2_code
def yX11_feed : MethodName := ⟨RX11, "feed", "(IIIII)I"⟩
abbrev cX11_putBytes : ByteArray := prog_1_method_3_code
def yX11_putBytes : MethodName := ⟨RX11, "putBytes", "(I)V"⟩
abbrev cX11_book : ByteArray := prog_1_method_4_code
def yX11_book : MethodName := ⟨RX11, "book", "(I)I"⟩
abbrev cX11_beginAnew : ByteArray := prog_1_method_5_code
def yX11_beginAnew : MethodName := ⟨RX11, "beginAnew", "()V"⟩
abbrev cX11_laws : ByteArray := prog_1_method_6_code
def yX11_laws : MethodName := ⟨RX11, "laws", "(I)I"⟩
abbrev cX11_fault : ByteArray := prog_1_method_7_code
def yX11_fault : MethodName := ⟨RX11, "fault", "()I"⟩
abbrev cX11_where : ByteArray := prog_1_method_8_code
def yX11_where : MethodName := ⟨RX11, "where", "()I"⟩
abbrev cX11_pass : ByteArray := prog_1_method_9_code
def yX11_pass : MethodName := ⟨RX11, "pass", "(I)I"⟩
abbrev cX11_takes : ByteArray := prog_1_method_10_code
def yX11_takes : MethodName := ⟨RX11, "takes", "(IIIII)I"⟩
abbrev cX11_why : ByteArray := prog_1_method_11_code
def yX11_why : MethodName := ⟨RX11, "why", "(IIIII)I"⟩
abbrev cX11_rulingRefusal : ByteArray := prog_1_method_12_code
def yX11_rulingRefusal : MethodName := ⟨RX11, "rulingRefusal", "(IIIII)I"⟩
abbrev cX11_person : ByteArray := prog_1_method_13_code
def yX11_person : MethodName := ⟨RX11, "person", "(I)I"⟩
abbrev cX11_paper : ByteArray := prog_1_method_14_code
def yX11_paper : MethodName := ⟨RX11, "paper", "(IIIII)I"⟩
abbrev cX11_held : ByteArray := prog_1_method_15_code
def yX11_held : MethodName := ⟨RX11, "held", "(III)I"⟩
abbrev cX11_move : ByteArray := prog_1_method_16_code
def yX11_move : MethodName := ⟨RX11, "move", "(II)Z"⟩
abbrev cX11_is : ByteArray := prog_1_method_17_code
def yX11_is : MethodName := ⟨RX11, "is", "(III)I"⟩
abbrev cX11_nowhere : ByteArray := prog_1_method_18_code
def yX11_nowhere : MethodName := ⟨RX11, "nowhere", "(II)I"⟩
abbrev cX11_open : ByteArray := prog_1_method_19_code
def yX11_open : MethodName := ⟨RX11, "open", "(III)I"⟩
abbrev cX11_first : ByteArray := prog_1_method_20_code
def yX11_first : MethodName := ⟨RX11, "first", "(III)I"⟩
abbrev cX11_cheap : ByteArray := prog_1_method_21_code
def yX11_cheap : MethodName := ⟨RX11, "cheap", "(III)I"⟩
abbrev cX11_travelRefusal : ByteArray := prog_1_method_22_code
def yX11_travelRefusal : MethodName := ⟨RX11, "travelRefusal", "(III)I"⟩
abbrev cX11_grantWay : ByteArray := prog_1_method_23_code
def yX11_grantWay : MethodName := ⟨RX11, "grantWay", "(I)I"⟩
abbrev cX11_reach : ByteArray := prog_1_method_24_code
def yX11_reach : MethodName := ⟨RX11, "reach", "(II)I"⟩
abbrev cX11_opener : ByteArray := prog_1_method_25_code
def yX11_opener : MethodName := ⟨RX11, "opener", "(II)I"⟩
abbrev cX11_personDayRefusal : ByteArray := prog_1_method_26_code
def yX11_personDayRefusal : MethodName := ⟨RX11, "personDayRefusal", "(II)I"⟩
abbrev cX11_stamp : ByteArray := prog_1_method_27_code
def yX11_stamp : MethodName := ⟨RX11, "stamp", "(III)I"⟩
abbrev cX11_least : ByteArray := prog_1_method_28_code
def yX11_least : MethodName := ⟨RX11, "least", "(III)I"⟩
abbrev cX11_bought : ByteArray := prog_1_method_29_code
def yX11_bought : MethodName := ⟨RX11, "bought", "()I"⟩
abbrev cX11_child : ByteArray := prog_1_method_30_code
def yX11_child : MethodName := ⟨RX11, "child", "(I)I"⟩
abbrev cX11_judge : ByteArray := prog_1_method_31_code
def yX11_judge : MethodName := ⟨RX11, "judge", "(IIIII)I"⟩
abbrev cX11_binds : ByteArray := prog_1_method_32_code
def yX11_binds : MethodName := ⟨RX11, "binds", "(IIII)I"⟩
abbrev cX11_unlike : ByteArray := prog_1_method_33_code
def yX11_unlike : MethodName := ⟨RX11, "unlike", "(III)I"⟩
abbrev cX11_clause : ByteArray := prog_1_method_34_code
def yX11_clause : MethodName := ⟨RX11, "clause", "(II)I"⟩
abbrev cX11_quarrel : ByteArray := prog_1_method_35_code
def yX11_quarrel : MethodName := ⟨RX11, "quarrel", "(II)I"⟩
abbrev cX11_signed : ByteArray := prog_1_method_36_code
def yX11_signed : MethodName := ⟨RX11, "signed", "()I"⟩
abbrev cX11_signs : ByteArray := prog_1_method_37_code
def yX11_signs : MethodName := ⟨RX11, "signs", "(I)I"⟩
abbrev cX11_contract : ByteArray := prog_1_method_38_code
def yX11_contract : MethodName := ⟨RX11, "contract", "(II)I"⟩
abbrev cX11_burn : ByteArray := prog_1_method_39_code
def yX11_burn : MethodName := ⟨RX11, "burn", "(II)J"⟩
abbrev cX11_rename : ByteArray := prog_1_method_40_code
def yX11_rename : MethodName := ⟨RX11, "rename", "(II)Z"⟩
abbrev cX11_owed : ByteArray := prog_1_method_41_code
def yX11_owed : MethodName := ⟨RX11, "owed", "(I)J"⟩
abbrev cX11_led : ByteArray := prog_1_method_42_code
def yX11_led : MethodName := ⟨RX11, "led", "(IIII)I"⟩
abbrev cX11_count : ByteArray := prog_1_method_43_code
def yX11_count : MethodName := ⟨RX11, "count", "(I)I"⟩
abbrev cX11_trouble : ByteArray := prog_1_method_44_code
def yX11_trouble : MethodName := ⟨RX11, "trouble", "()I"⟩
abbrev cX11_grant : ByteArray := prog_1_method_45_code
def yX11_grant : MethodName := ⟨RX11, "grant", "(I)I"⟩
abbrev cX11_refuse : ByteArray := prog_1_method_46_code
def yX11_refuse : MethodName := ⟨RX11, "refuse", "(I)I"⟩
abbrev cX11_decline : ByteArray := prog_1_method_47_code
def yX11_decline : MethodName := ⟨RX11, "decline", "(I)Z"⟩
abbrev cX11_isPaperSort : ByteArray := prog_1_method_48_code
def yX11_isPaperSort : MethodName := ⟨RX11, "isPaperSort", "(II)Z"⟩
abbrev cX11_isDay : ByteArray := prog_1_method_49_code
def yX11_isDay : MethodName := ⟨RX11, "isDay", "(I)Z"⟩
def RX12 : String := "BridgeStripModel$Book"
def TX12 : u_T := fun k => match k with
  | 0 => ("BridgeStripModel$Book", "name", "[J", true)
  | 1 => ("BridgeStripModel$Book", "sort", "[I", true)
  | 2 => ("BridgeStripModel$Book", "number", "[I", true)
  | 3 => ("BridgeStripModel$Book", "many", "[I", true)
  | 4 => ("BridgeStripModel$Book", "names", "I", false)
  | 5 => ("BridgeStripModel$Book", "roads", "I", false)
  | 6 => ("BridgeStripModel$Book", "laws", "I", false)
  | 7 => ("BridgeStripModel$Book", "gifts", "I", false)
  | 8 => ("BridgeStripModel$Book", "one", "[I", true)
  | 9 => ("BridgeStripModel$Book", "other", "[I", true)
  | 10 => ("BridgeStripModel$Book", "days", "[I", true)
  | 11 => ("BridgeStripModel$Book", "coin", "[I", true)
  | 12 => ("BridgeStripModel$Book", "posts", "[I", true)
  | 13 => ("BridgeStripModel$Book", "postKind", "[I", true)
  | 14 => ("BridgeStripModel$Book", "postLand", "[I", true)
  | 15 => ("BridgeStripModel$Book", "lawLand", "[I", true)
  | 16 => ("BridgeStripModel$Book", "lawKind", "[I", true)
  | 17 => ("BridgeStripModel$Book", "lawOffice", "[I", true)
  | 18 => ("BridgeStripModel$Book", "since", "[I", true)
  | 19 => ("BridgeStripModel$Book", "until", "[I", true)
  | 20 => ("BridgeStripModel$Book", "knownFrom", "[I", true)
  | 21 => ("BridgeStripModel$Book", "isTaking", "[Z", true)
  | 22 => ("BridgeStripModel$Book", "giftKind", "[I", true)
  | 23 => ("BridgeStripModel$Book", "giftOffice", "[I", true)
  | 24 => ("BridgeStripModel$Book", "after", "[I", true)
  | 25 => ("BridgeStripModel$Book", "cases", "[I", true)
  | 26 => ("BridgeStripModel$Book", "caseSort", "[I", true)
  | 27 => ("BridgeStripModel$Book", "caseOne", "[I", true)
  | _ => ("BridgeStripModel$Book", "caseOffice", "[I", true)
def tyX12 : Nat → FieldType := fun k => match k with
  | 0 => .array .long
  | 1 => .array .int
  | 2 => .array .int
  | 3 => .array .int
  | 4 => .int
  | 5 => .int
  | 6 => .int
  | 7 => .int
  | 8 => .array .int
  | 9 => .array .int
  | 10 => .array .int
  | 11 => .array .int
  | 12 => .array .int
  | 13 => .array .int
  | 14 => .array .int
  | 15 => .array .int
  | 16 => .array .int
  | 17 => .array .int
  | 18 => .array .int
  | 19 => .array .int
  | 20 => .array .int
  | 21 => .array .boolean
  | 22 => .array .int
  | 23 => .array .int
  | 24 => .array .int
  | 25 => .array .int
  | 26 => .array .int
  | 27 => .array .int
  | _ => .array .int
abbrev wsX120 : List Cond := u_ws RX12 TX12 29
theorem nmX12 : ∀ a, a < 29 → ∀ b, b < 29 → a ≠ b → (TX12 a).2.1 ≠ (TX12 b).2.1 := by decide +kernel
theorem tyX12_ok : ∀ k, k < 29 → parseFieldDescriptor (TX12 k).2.2.1 = some (tyX12 k) := by decide +kernel
abbrev cX12_init : ByteArray := prog_15_method_1_code
def yX12_init : MethodName := ⟨RX12, "<init>", "()V"⟩
abbrev cX12_find : ByteArray := prog_15_method_2_code
def yX12_find : MethodName := ⟨RX12, "find", "(J)I"⟩
def RX13 : String := "BridgeStripModel$Stop"
def TX13 : u_T := fun k => match k with
  | 0 => ("java/lang/Throwable", "cause", "Ljava/lang/Throwable;", false)
  | 1 => ("java/lang/Throwable", "stackTrace", "[Ljava/lang/StackTraceElement;", false)
  | 2 => ("java/lang/Throwable", "suppressedExceptions", "Ljava/util/List;", false)
  | 3 => ("java/lang/Throwable", "detailMessage", "Ljava/lang/String;", false)
  | 4 => ("java/lang/Throwable", "backtrace", "Ljava/lang/Object;", false)
  | 5 => ("java/lang/Throwable", "depth", "I", false)
  | 6 => ("BridgeStripModel$Stop", "kind", "I", false)
  | _ => ("BridgeStripModel$Stop", "place", "I", false)
def tyX13 : Nat → FieldType := fun k => match k with
  | 0 => .object "java/lang/Throwable"
  | 1 => .array (.object "java/lang/StackTraceElement")
  | 2 => .object "java/util/List"
  | 3 => .object "java/lang/String"
  | 4 => .object "java/lang/Object"
  | 5 => .int
  | 6 => .int
  | _ => .int
abbrev wsX130 : List Cond := u_ws RX13 TX13 8
theorem nmX13 : ∀ a, a < 8 → ∀ b, b < 8 → a ≠ b → (TX13 a).2.1 ≠ (TX13 b).2.1 := by decide +kernel
theorem tyX13_ok : ∀ k, k < 8 → parseFieldDescriptor (TX13 k).2.2.1 = some (tyX13 k) := by decide +kernel
abbrev cX13_init : ByteArray := prog_16_method_1_code
def yX13_init : MethodName := ⟨RX13, "<init>", "()V"⟩
def RX14 : String := "BridgeStripModel"
def TX14 : u_T := fun k => match k with
  | 0 => ("BridgeStripModel", "thrown", "I", false)
  | 1 => ("BridgeStripModel", "trouble", "I", false)
  | 2 => ("BridgeStripModel", "where", "I", false)
  | 3 => ("BridgeStripModel", "fault", "I", false)
  | 4 => ("BridgeStripModel", "book", "LBridgeStripModel$Book;", false)
  | 5 => ("BridgeStripModel", "fresh", "LBridgeStripModel$Book;", false)
  | 6 => ("BridgeStripModel", "stop", "LBridgeStripModel$Stop;", true)
  | 7 => ("BridgeStripModel", "tape", "[B", true)
  | 8 => ("BridgeStripModel", "taped", "I", false)
  | 9 => ("BridgeStripModel", "size", "I", false)
  | 10 => ("BridgeStripModel", "at", "I", false)
  | 11 => ("BridgeStripModel", "sort", "I", false)
  | 12 => ("BridgeStripModel", "place", "I", false)
  | 13 => ("BridgeStripModel", "number", "I", false)
  | 14 => ("BridgeStripModel", "word", "J", false)
  | 15 => ("BridgeStripModel", "today", "I", false)
  | 16 => ("BridgeStripModel", "persons", "I", false)
  | 17 => ("BridgeStripModel", "placeOf", "[I", true)
  | 18 => ("BridgeStripModel", "papers", "[I", true)
  | 19 => ("BridgeStripModel", "paperKind", "[I", true)
  | 20 => ("BridgeStripModel", "paperOffice", "[I", true)
  | 21 => ("BridgeStripModel", "paperFrom", "[I", true)
  | 22 => ("BridgeStripModel", "paperTo", "[I", true)
  | 23 => ("BridgeStripModel", "owes", "[J", true)
  | 24 => ("BridgeStripModel", "moreKind", "I", false)
  | 25 => ("BridgeStripModel", "moreOffice", "I", false)
  | 26 => ("BridgeStripModel", "early", "[I", true)
  | 27 => ("BridgeStripModel", "isPast", "[Z", true)
  | 28 => ("BridgeStripModel", "coins", "[I", true)
  | 29 => ("BridgeStripModel", "stamps", "I", false)
  | 30 => ("BridgeStripModel", "bought", "I", false)
  | 31 => ("BridgeStripModel", "stampKind", "[I", true)
  | 32 => ("BridgeStripModel", "stampOffice", "[I", true)
  | 33 => ("BridgeStripModel", "stampCoin", "[I", true)
  | 34 => ("BridgeStripModel", "postTakes", "[I", true)
  | 35 => ("BridgeStripModel", "judgments", "I", false)
  | 36 => ("BridgeStripModel", "judgeKind", "[I", true)
  | 37 => ("BridgeStripModel", "judgeOffice", "[I", true)
  | 38 => ("BridgeStripModel", "judged", "[I", true)
  | 39 => ("BridgeStripModel", "matterOf", "[I", true)
  | 40 => ("BridgeStripModel", "valueOf", "[I", true)
  | 41 => ("BridgeStripModel", "judgedFrom", "[I", true)
  | 42 => ("BridgeStripModel", "quarrels", "I", false)
  | 43 => ("BridgeStripModel", "clauses", "[I", true)
  | 44 => ("BridgeStripModel", "words", "[I", true)
  | 45 => ("BridgeStripModel", "quarrelOne", "[I", true)
  | 46 => ("BridgeStripModel", "quarrelTwo", "[I", true)
  | 47 => ("BridgeStripModel", "pick", "[I", true)
  | 48 => ("BridgeStripModel", "best", "[I", true)
  | 49 => ("BridgeStripModel", "contracts", "I", false)
  | 50 => ("BridgeStripModel", "named", "[I", true)
  | 51 => ("BridgeStripModel", "price", "[I", true)
  | _ => ("BridgeStripModel", "back", "[I", true)
def tyX14 : Nat → FieldType := fun k => match k with
  | 0 => .int
  | 1 => .int
  | 2 => .int
  | 3 => .int
  | 4 => .object "BridgeStripModel$Book"
  | 5 => .object "BridgeStripModel$Book"
  | 6 => .object "BridgeStripModel$Stop"
  | 7 => .array .byte
  | 8 => .int
  | 9 => .int
  | 10 => .int
  | 11 => .int
  | 12 => .int
  | 13 => .int
  | 14 => .long
  | 15 => .int
  | 16 => .int
  | 17 => .array .int
  | 18 => .array .int
  | 19 => .array .int
  | 20 => .array .int
  | 21 => .array .int
  | 22 => .array .int
  | 23 => .array .long
  | 24 => .int
  | 25 => .int
  | 26 => .array .int
  | 27 => .array .boolean
  | 28 => .array .int
  | 29 => .int
  | 30 => .int
  | 31 => .array .int
  | 32 => .array .int
  | 33 => .array .int
  | 34 => .array .int
  | 35 => .int
  | 36 => .array .int
  | 37 => .array .int
  | 38 => .array .int
  | 39 => .array .int
  | 40 => .array .int
  | 41 => .array .int
  | 42 => .int
  | 43 => .array .int
  | 44 => .array .int
  | 45 => .array .int
  | 46 => .array .int
  | 47 => .array .int
  | 48 => .array .int
  | 49 => .int
  | 50 => .array .int
  | 51 => .array .int
  | _ => .array .int
abbrev wsX140 : List Cond := u_ws RX14 TX14 53
theorem nmX14 : ∀ a, a < 53 → ∀ b, b < 53 → a ≠ b → (TX14 a).2.1 ≠ (TX14 b).2.1 := by decide +kernel
theorem tyX14_ok : ∀ k, k < 53 → parseFieldDescriptor (TX14 k).2.2.1 = some (tyX14 k) := by decide +kernel
abbrev cX14_init : ByteArray := prog_14_method_1_code
def yX14_init : MethodName := ⟨RX14, "<init>", "()V"⟩
abbrev cX14_thrown : ByteArray := prog_14_method_2_code
def yX14_thrown : MethodName := ⟨RX14, "thrown", "()I"⟩
abbrev cX14_refused : ByteArray := prog_14_method_3_code
def yX14_refused : MethodName := ⟨RX14, "refused", "(I)I"⟩
abbrev cX14_denied : ByteArray := prog_14_method_4_code
def yX14_denied : MethodName := ⟨RX14, "denied", "(I)Z"⟩
abbrev cX14_done : ByteArray := prog_14_method_5_code
def yX14_done : MethodName := ⟨RX14, "done", "(I)I"⟩
abbrev cX14_granted : ByteArray := prog_14_method_6_code
def yX14_granted : MethodName := ⟨RX14, "granted", "()Z"⟩
abbrev cX14_in : ByteArray := prog_14_method_7_code
def yX14_in : MethodName := ⟨RX14, "in", "(III)Z"⟩
abbrev cX14_stop : ByteArray := prog_14_method_8_code
def yX14_stop : MethodName := ⟨RX14, "stop", "(I)LBridgeStripModel$Stop;"⟩
abbrev cX14_byteAt : ByteArray := prog_14_method_9_code
def yX14_byteAt : MethodName := ⟨RX14, "byteAt", "(I)I"⟩
abbrev cX14_isLetter : ByteArray := prog_14_method_10_code
def yX14_isLetter : MethodName := ⟨RX14, "isLetter", "(I)Z"⟩
abbrev cX14_isDigit : ByteArray := prog_14_method_11_code
def yX14_isDigit : MethodName := ⟨RX14, "isDigit", "(I)Z"⟩
abbrev cX14_wordOf : ByteArray := prog_14_method_12_code
def yX14_wordOf : MethodName := ⟨RX14, "wordOf", "(Ljava/lang/String;)J"⟩
abbrev cX14_next : ByteArray := prog_14_method_13_code
def yX14_next : MethodName := ⟨RX14, "next", "()V"⟩
abbrev cX14_isWord : ByteArray := prog_14_method_14_code
def yX14_isWord : MethodName := ⟨RX14, "isWord", "(Ljava/lang/String;)Z"⟩
abbrev cX14_isName : ByteArray := prog_14_method_15_code
def yX14_isName : MethodName := ⟨RX14, "isName", "()Z"⟩
abbrev cX14_needWord : ByteArray := prog_14_method_16_code
def yX14_needWord : MethodName := ⟨RX14, "needWord", "(Ljava/lang/String;)V"⟩
abbrev cX14_readWhole : ByteArray := prog_14_method_17_code
def yX14_readWhole : MethodName := ⟨RX14, "readWhole", "(II)I"⟩
abbrev cX14_readTold : ByteArray := prog_14_method_18_code
def yX14_readTold : MethodName := ⟨RX14, "readTold", "(I)I"⟩
abbrev cX14_readBook : ByteArray := prog_14_method_19_code
def yX14_readBook : MethodName := ⟨RX14, "readBook", "()V"⟩
abbrev cX14_readLaws : ByteArray := prog_14_method_20_code
def yX14_readLaws : MethodName := ⟨RX14, "readLaws", "()V"⟩
abbrev cX14_readThing : ByteArray := prog_14_method_21_code
def yX14_readThing : MethodName := ⟨RX14, "readThing", "(II)V"⟩
abbrev cX14_readRoad : ByteArray := prog_14_method_22_code
def yX14_readRoad : MethodName := ⟨RX14, "readRoad", "()V"⟩
abbrev cX14_readLaw : ByteArray := prog_14_method_23_code
def yX14_readLaw : MethodName := ⟨RX14, "readLaw", "(I)V"⟩
abbrev cX14_readGift : ByteArray := prog_14_method_24_code
def yX14_readGift : MethodName := ⟨RX14, "readGift", "()V"⟩
abbrev cX14_readCase : ByteArray := prog_14_method_25_code
def yX14_readCase : MethodName := ⟨RX14, "readCase", "(I)V"⟩
abbrev cX14_feed : ByteArray := prog_14_method_26_code
def yX14_feed : MethodName := ⟨RX14, "feed", "(IIIII)I"⟩
abbrev cX14_begins : ByteArray := prog_14_method_27_code
def yX14_begins : MethodName := ⟨RX14, "begins", "(I)V"⟩
abbrev cX14_wrong : ByteArray := prog_14_method_28_code
def yX14_wrong : MethodName := ⟨RX14, "wrong", "(LBridgeStripModel$Stop;)I"⟩
abbrev cX14_book : ByteArray := prog_14_method_29_code
def yX14_book : MethodName := ⟨RX14, "book", "(I)I"⟩
abbrev cX14_laws : ByteArray := prog_14_method_30_code
def yX14_laws : MethodName := ⟨RX14, "laws", "(I)I"⟩
abbrev cX14_fault : ByteArray := prog_14_method_31_code
def yX14_fault : MethodName := ⟨RX14, "fault", "()I"⟩
abbrev cX14_where : ByteArray := prog_14_method_32_code
def yX14_where : MethodName := ⟨RX14, "where", "()I"⟩
abbrev cX14_isDay : ByteArray := prog_14_method_33_code
def yX14_isDay : MethodName := ⟨RX14, "isDay", "(I)Z"⟩
abbrev cX14_isOf : ByteArray := prog_14_method_34_code
def yX14_isOf : MethodName := ⟨RX14, "isOf", "(II)Z"⟩
abbrev cX14_pass : ByteArray := prog_14_method_35_code
def yX14_pass : MethodName := ⟨RX14, "pass", "(I)I"⟩
abbrev cX14_lawOf : ByteArray := prog_14_method_36_code
def yX14_lawOf : MethodName := ⟨RX14, "lawOf", "(IIIII)I"⟩
abbrev cX14_isTaken : ByteArray := prog_14_method_37_code
def yX14_isTaken : MethodName := ⟨RX14, "isTaken", "(IIII)Z"⟩
abbrev cX14_takes : ByteArray := prog_14_method_38_code
def yX14_takes : MethodName := ⟨RX14, "takes", "(IIIII)I"⟩
abbrev cX14_why : ByteArray := prog_14_method_39_code
def yX14_why : MethodName := ⟨RX14, "why", "(IIIII)I"⟩
abbrev cX14_isPerson : ByteArray := prog_14_method_40_code
def yX14_isPerson : MethodName := ⟨RX14, "isPerson", "(I)Z"⟩
abbrev cX14_comes : ByteArray := prog_14_method_41_code
def yX14_comes : MethodName := ⟨RX14, "comes", "(I)I"⟩
abbrev cX14_person : ByteArray := prog_14_method_42_code
def yX14_person : MethodName := ⟨RX14, "person", "(I)I"⟩
abbrev cX14_gives : ByteArray := prog_14_method_43_code
def yX14_gives : MethodName := ⟨RX14, "gives", "(IIIII)V"⟩
abbrev cX14_paper : ByteArray := prog_14_method_44_code
def yX14_paper : MethodName := ⟨RX14, "paper", "(IIIII)I"⟩
abbrev cX14_held : ByteArray := prog_14_method_45_code
def yX14_held : MethodName := ⟨RX14, "held", "(III)I"⟩
abbrev cX14_move : ByteArray := prog_14_method_46_code
def yX14_move : MethodName := ⟨RX14, "move", "(II)Z"⟩
abbrev cX14_has : ByteArray := prog_14_method_47_code
def yX14_has : MethodName := ⟨RX14, "has", "(IIII)Z"⟩
abbrev cX14_goodIn : ByteArray := prog_14_method_48_code
def yX14_goodIn : MethodName := ⟨RX14, "goodIn", "(III)I"⟩
abbrev cX14_is : ByteArray := prog_14_method_49_code
def yX14_is : MethodName := ⟨RX14, "is", "(III)I"⟩
abbrev cX14_nowhere : ByteArray := prog_14_method_50_code
def yX14_nowhere : MethodName := ⟨RX14, "nowhere", "(II)I"⟩
abbrev cX14_isOpen : ByteArray := prog_14_method_51_code
def yX14_isOpen : MethodName := ⟨RX14, "isOpen", "(III)Z"⟩
abbrev cX14_open : ByteArray := prog_14_method_52_code
def yX14_open : MethodName := ⟨RX14, "open", "(III)I"⟩
abbrev cX14_end : ByteArray := prog_14_method_53_code
def yX14_end : MethodName := ⟨RX14, "end", "(IZ)I"⟩
abbrev cX14_comesBy : ByteArray := prog_14_method_54_code
def yX14_comesBy : MethodName := ⟨RX14, "comesBy", "(III)I"⟩
abbrev cX14_goes : ByteArray := prog_14_method_55_code
def yX14_goes : MethodName := ⟨RX14, "goes", "(II)V"⟩
abbrev cX14_first : ByteArray := prog_14_method_56_code
def yX14_first : MethodName := ⟨RX14, "first", "(III)I"⟩
abbrev cX14_pays : ByteArray := prog_14_method_57_code
def yX14_pays : MethodName := ⟨RX14, "pays", "(II)V"⟩
abbrev cX14_cheap : ByteArray := prog_14_method_58_code
def yX14_cheap : MethodName := ⟨RX14, "cheap", "(III)I"⟩
abbrev cX14_reached : ByteArray := prog_14_method_59_code
def yX14_reached : MethodName := ⟨RX14, "reached", "(II)I"⟩
abbrev cX14_reach : ByteArray := prog_14_method_60_code
def yX14_reach : MethodName := ⟨RX14, "reach", "(II)I"⟩
abbrev cX14_opener : ByteArray := prog_14_method_61_code
def yX14_opener : MethodName := ⟨RX14, "opener", "(II)I"⟩
abbrev cX14_stamp : ByteArray := prog_14_method_62_code
def yX14_stamp : MethodName := ⟨RX14, "stamp", "(III)I"⟩
abbrev cX14_stampsOf : ByteArray := prog_14_method_63_code
def yX14_stampsOf : MethodName := ⟨RX14, "stampsOf", "(II)I"⟩
abbrev cX14_isCarried : ByteArray := prog_14_method_64_code
def yX14_isCarried : MethodName := ⟨RX14, "isCarried", "(III)Z"⟩
abbrev cX14_bits : ByteArray := prog_14_method_65_code
def yX14_bits : MethodName := ⟨RX14, "bits", "(I)I"⟩
abbrev cX14_least : ByteArray := prog_14_method_66_code
def yX14_least : MethodName := ⟨RX14, "least", "(III)I"⟩
abbrev cX14_bought : ByteArray := prog_14_method_67_code
def yX14_bought : MethodName := ⟨RX14, "bought", "()I"⟩
abbrev cX14_hasFrom : ByteArray := prog_14_method_68_code
def yX14_hasFrom : MethodName := ⟨RX14, "hasFrom", "(III)I"⟩
abbrev cX14_lastsNow : ByteArray := prog_14_method_69_code
def yX14_lastsNow : MethodName := ⟨RX14, "lastsNow", "(III)Z"⟩
abbrev cX14_giftDay : ByteArray := prog_14_method_70_code
def yX14_giftDay : MethodName := ⟨RX14, "giftDay", "(III)I"⟩
abbrev cX14_child : ByteArray := prog_14_method_71_code
def yX14_child : MethodName := ⟨RX14, "child", "(I)I"⟩
abbrev cX14_judge : ByteArray := prog_14_method_72_code
def yX14_judge : MethodName := ⟨RX14, "judge", "(IIIII)I"⟩
abbrev cX14_binding : ByteArray := prog_14_method_73_code
def yX14_binding : MethodName := ⟨RX14, "binding", "(IIII)I"⟩
abbrev cX14_binds : ByteArray := prog_14_method_74_code
def yX14_binds : MethodName := ⟨RX14, "binds", "(IIII)I"⟩
abbrev cX14_unlike : ByteArray := prog_14_method_75_code
def yX14_unlike : MethodName := ⟨RX14, "unlike", "(III)I"⟩
abbrev cX14_clause : ByteArray := prog_14_method_76_code
def yX14_clause : MethodName := ⟨RX14, "clause", "(II)I"⟩
abbrev cX14_quarrel : ByteArray := prog_14_method_77_code
def yX14_quarrel : MethodName := ⟨RX14, "quarrel", "(II)I"⟩
abbrev cX14_isQuiet : ByteArray := prog_14_method_78_code
def yX14_isQuiet : MethodName := ⟨RX14, "isQuiet", "()Z"⟩
abbrev cX14_turns : ByteArray := prog_14_method_79_code
def yX14_turns : MethodName := ⟨RX14, "turns", "()Z"⟩
abbrev cX14_best : ByteArray := prog_14_method_80_code
def yX14_best : MethodName := ⟨RX14, "best", "()I"⟩
abbrev cX14_signed : ByteArray := prog_14_method_81_code
def yX14_signed : MethodName := ⟨RX14, "signed", "()I"⟩
abbrev cX14_signs : ByteArray := prog_14_method_82_code
def yX14_signs : MethodName := ⟨RX14, "signs", "(I)I"⟩
abbrev cX14_contract : ByteArray := prog_14_method_83_code
def yX14_contract : MethodName := ⟨RX14, "contract", "(II)I"⟩
abbrev cX14_burn : ByteArray := prog_14_method_84_code
def yX14_burn : MethodName := ⟨RX14, "burn", "(II)J"⟩
abbrev cX14_rename : ByteArray := prog_14_method_85_code
def yX14_rename : MethodName := ⟨RX14, "rename", "(II)Z"⟩
abbrev cX14_owed : ByteArray := prog_14_method_86_code
def yX14_owed : MethodName := ⟨RX14, "owed", "(I)J"⟩
abbrev cX14_roadTo : ByteArray := prog_14_method_87_code
def yX14_roadTo : MethodName := ⟨RX14, "roadTo", "(II)I"⟩
abbrev cX14_led : ByteArray := prog_14_method_88_code
def yX14_led : MethodName := ⟨RX14, "led", "(IIII)I"⟩
abbrev cX14_count : ByteArray := prog_14_method_89_code
def yX14_count : MethodName := ⟨RX14, "count", "(I)I"⟩
abbrev cX14_trouble : ByteArray := prog_14_method_90_code
def yX14_trouble : MethodName := ⟨RX14, "trouble", "()I"⟩
def RJ6 : String := "java/lang/Integer"
def TJ6 : u_T := fun k => match k with
  | _ => ("", "", "", false)
def tyJ6 : Nat → FieldType := fun k => match k with
  | _ => .int
abbrev wsJ60 : List Cond := u_ws RJ6 TJ6 0
theorem nmJ6 : ∀ a, a < 0 → ∀ b, b < 0 → a ≠ b → (TJ6 a).2.1 ≠ (TJ6 b).2.1 := by decide +kernel
theorem tyJ6_ok : ∀ k, k < 0 → parseFieldDescriptor (TJ6 k).2.2.1 = some (tyJ6 k) := by decide +kernel
abbrev cJ6_bitCount_0f7a4 : ByteArray := prog_18_method_49_code
def yJ6_bitCount_0f7a4 : MethodName := ⟨RJ6, "bitCount", "(I)I"⟩
def RJ9 : String := "java/lang/Math"
def TJ9 : u_T := fun k => match k with
  | _ => ("", "", "", false)
def tyJ9 : Nat → FieldType := fun k => match k with
  | _ => .int
abbrev wsJ90 : List Cond := u_ws RJ9 TJ9 0
theorem nmJ9 : ∀ a, a < 0 → ∀ b, b < 0 → a ≠ b → (TJ9 a).2.1 ≠ (TJ9 b).2.1 := by decide +kernel
theorem tyJ9_ok : ∀ k, k < 0 → parseFieldDescriptor (TJ9 k).2.2.1 = some (tyJ9 k) := by decide +kernel
abbrev cJ9_max_7cf53 : ByteArray := prog_19_method_65_code
def yJ9_max_7cf53 : MethodName := ⟨RJ9, "max", "(II)I"⟩
abbrev cJ9_min_7cf53 : ByteArray := prog_19_method_69_code
def yJ9_min_7cf53 : MethodName := ⟨RJ9, "min", "(II)I"⟩
def RJ0 : String := "java/lang/String"
def TJ0 : u_T := fun k => match k with
  | _ => ("", "", "", false)
def tyJ0 : Nat → FieldType := fun k => match k with
  | _ => .int
abbrev wsJ00 : List Cond := u_ws RJ0 TJ0 0
theorem nmJ0 : ∀ a, a < 0 → ∀ b, b < 0 → a ≠ b → (TJ0 a).2.1 ≠ (TJ0 b).2.1 := by decide +kernel
theorem tyJ0_ok : ∀ k, k < 0 → parseFieldDescriptor (TJ0 k).2.2.1 = some (tyJ0 k) := by decide +kernel
abbrev cJ0_length_8abf5 : ByteArray := prog_21_method_54_code
def yJ0_length_8abf5 : MethodName := ⟨RJ0, "length", "()I"⟩
abbrev cJ0_charAt_5068e : ByteArray := prog_21_method_56_code
def yJ0_charAt_5068e : MethodName := ⟨RJ0, "charAt", "(I)C"⟩
abbrev cJ0_coder_7d493 : ByteArray := prog_21_method_152_code
def yJ0_coder_7d493 : MethodName := ⟨RJ0, "coder", "()B"⟩
abbrev cJ0_isLatin1_aae02 : ByteArray := prog_21_method_154_code
def yJ0_isLatin1_aae02 : MethodName := ⟨RJ0, "isLatin1", "()Z"⟩
abbrev cJ0_checkIndex_df160 : ByteArray := prog_21_method_155_code
def yJ0_checkIndex_df160 : MethodName := ⟨RJ0, "checkIndex", "(II)V"⟩
def RJ1 : String := "java/lang/StringLatin1"
def TJ1 : u_T := fun k => match k with
  | _ => ("", "", "", false)
def tyJ1 : Nat → FieldType := fun k => match k with
  | _ => .int
abbrev wsJ10 : List Cond := u_ws RJ1 TJ1 0
theorem nmJ1 : ∀ a, a < 0 → ∀ b, b < 0 → a ≠ b → (TJ1 a).2.1 ≠ (TJ1 b).2.1 := by decide +kernel
theorem tyJ1_ok : ∀ k, k < 0 → parseFieldDescriptor (TJ1 k).2.2.1 = some (tyJ1 k) := by decide +kernel
abbrev cJ1_charAt_3b067 : ByteArray := prog_22_method_2_code
def yJ1_charAt_3b067 : MethodName := ⟨RJ1, "charAt", "([BI)C"⟩
def RJ2 : String := "java/lang/StringUTF16"
def TJ2 : u_T := fun k => match k with
  | _ => ("", "", "", false)
def tyJ2 : Nat → FieldType := fun k => match k with
  | _ => .int
abbrev wsJ20 : List Cond := u_ws RJ2 TJ2 0
theorem nmJ2 : ∀ a, a < 0 → ∀ b, b < 0 → a ≠ b → (TJ2 a).2.1 ≠ (TJ2 b).2.1 := by decide +kernel
theorem tyJ2_ok : ∀ k, k < 0 → parseFieldDescriptor (TJ2 k).2.2.1 = some (tyJ2 k) := by decide +kernel
abbrev cJ2_getChar_3b067 : ByteArray := prog_23_method_5_code
def yJ2_getChar_3b067 : MethodName := ⟨RJ2, "getChar", "([BI)C"⟩
abbrev cJ2_length_9d52b : ByteArray := prog_23_method_6_code
def yJ2_length_9d52b : MethodName := ⟨RJ2, "length", "([B)I"⟩
abbrev cJ2_charAt_3b067 : ByteArray := prog_23_method_83_code
def yJ2_charAt_3b067 : MethodName := ⟨RJ2, "charAt", "([BI)C"⟩
abbrev cJ2_checkIndex_2214a : ByteArray := prog_23_method_91_code
def yJ2_checkIndex_2214a : MethodName := ⟨RJ2, "checkIndex", "(I[B)V"⟩
def RJ3 : String := "jdk/internal/util/Preconditions"
def TJ3 : u_T := fun k => match k with
  | _ => ("", "", "", false)
def tyJ3 : Nat → FieldType := fun k => match k with
  | _ => .int
abbrev wsJ30 : List Cond := u_ws RJ3 TJ3 0
theorem nmJ3 : ∀ a, a < 0 → ∀ b, b < 0 → a ≠ b → (TJ3 a).2.1 ≠ (TJ3 b).2.1 := by decide +kernel
theorem tyJ3_ok : ∀ k, k < 0 → parseFieldDescriptor (TJ3 k).2.2.1 = some (tyJ3 k) := by decide +kernel
abbrev cJ3_checkIndex_8e157 : ByteArray := prog_26_method_11_code
def yJ3_checkIndex_8e157 : MethodName := ⟨RJ3, "checkIndex", "(IILjava/util/function/BiFunction;)I"⟩
def RL : String := "BridgeStripLaw"
abbrev cL_led : ByteArray := method_3_code
def yL_led : MethodName := ⟨RL, "led", "(LBridgeStrip;IIII[J)I"⟩
abbrev cL_law : ByteArray := code
def yL_law : MethodName := ⟨RL, "law", "([I)Z"⟩
abbrev vwCl : List vw_C := [(RX0, TX0, 8), (RX1, TX1, 8), (RX2, TX2, 9), (RX3, TX3, 8), (RX4, TX4, 4), (RX5, TX5, 7), (RX6, TX6, 7), (RX7, TX7, 13), (RX8, TX8, 8), (RX9, TX9, 9), (RX10, TX10, 7), (RX11, TX11, 15), (RX12, TX12, 29), (RX13, TX13, 8), (RX14, TX14, 53)]
