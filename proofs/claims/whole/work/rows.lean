section
-- ===== PART A: goes FIRST, ahead of the names: the tables' words, and 'selects' of the private methods out of them =====
/-- a private method of a class that the tables say can be made, by its rows of tables_1 -/
def lw_okq (q : MethodName × Nat) : Prop := (q.1.cls ≠ "java/lang/invoke/MethodHandle" ∧ q.1.cls ≠ "java/lang/invoke/VarHandle") ∧ Cond.instantiable q.1.cls q.2 ∈ tables_1 ∧ Cond.privateMethod q.1 ∈ tables_1 ∧ Cond.instanceMethod q.1 ∈ tables_1
theorem lw_p0 : lw_okq (⟨"BridgeStrip", "putBytes", "(I)V"⟩, 15) := ⟨⟨by decide +kernel, by decide +kernel⟩, List.mem_of_getElem? (i := 27) (by decide +kernel), List.mem_of_getElem? (i := 550) (by decide +kernel), List.mem_of_getElem? (i := 551) (by decide +kernel)⟩
theorem lw_p1 : lw_okq (⟨"BridgeStrip", "refuse", "(I)I"⟩, 15) := ⟨⟨by decide +kernel, by decide +kernel⟩, List.mem_of_getElem? (i := 27) (by decide +kernel), List.mem_of_getElem? (i := 558) (by decide +kernel), List.mem_of_getElem? (i := 559) (by decide +kernel)⟩
theorem lw_p2 : lw_okq (⟨"BridgeStrip$Reader", "step", "()V"⟩, 13) := ⟨⟨by decide +kernel, by decide +kernel⟩, List.mem_of_getElem? (i := 202) (by decide +kernel), List.mem_of_getElem? (i := 573) (by decide +kernel), List.mem_of_getElem? (i := 574) (by decide +kernel)⟩
theorem lw_p3 : lw_okq (⟨"BridgeStrip$Reader", "stepOverWord", "()V"⟩, 13) := ⟨⟨by decide +kernel, by decide +kernel⟩, List.mem_of_getElem? (i := 202) (by decide +kernel), List.mem_of_getElem? (i := 577) (by decide +kernel), List.mem_of_getElem? (i := 578) (by decide +kernel)⟩
theorem lw_p4 : lw_okq (⟨"BridgeStrip$Reader", "stepOverWhole", "()V"⟩, 13) := ⟨⟨by decide +kernel, by decide +kernel⟩, List.mem_of_getElem? (i := 202) (by decide +kernel), List.mem_of_getElem? (i := 581) (by decide +kernel), List.mem_of_getElem? (i := 582) (by decide +kernel)⟩
theorem lw_p5 : lw_okq (⟨"BridgeStrip$Reader", "readLine", "()Z"⟩, 13) := ⟨⟨by decide +kernel, by decide +kernel⟩, List.mem_of_getElem? (i := 202) (by decide +kernel), List.mem_of_getElem? (i := 585) (by decide +kernel), List.mem_of_getElem? (i := 586) (by decide +kernel)⟩
theorem lw_p6 : lw_okq (⟨"BridgeStrip$Reader", "sees", "(Ljava/lang/String;)Z"⟩, 13) := ⟨⟨by decide +kernel, by decide +kernel⟩, List.mem_of_getElem? (i := 202) (by decide +kernel), List.mem_of_getElem? (i := 589) (by decide +kernel), List.mem_of_getElem? (i := 590) (by decide +kernel)⟩
theorem lw_p7 : lw_okq (⟨"BridgeStrip$Reader", "readLaw", "()Z"⟩, 13) := ⟨⟨by decide +kernel, by decide +kernel⟩, List.mem_of_getElem? (i := 202) (by decide +kernel), List.mem_of_getElem? (i := 593) (by decide +kernel), List.mem_of_getElem? (i := 594) (by decide +kernel)⟩
theorem lw_p8 : lw_okq (⟨"BridgeStrip$Reader", "fail", "(I)Z"⟩, 13) := ⟨⟨by decide +kernel, by decide +kernel⟩, List.mem_of_getElem? (i := 202) (by decide +kernel), List.mem_of_getElem? (i := 601) (by decide +kernel), List.mem_of_getElem? (i := 602) (by decide +kernel)⟩
theorem lw_p9 : lw_okq (⟨"BridgeStrip$Reader", "failAt", "(II)Z"⟩, 13) := ⟨⟨by decide +kernel, by decide +kernel⟩, List.mem_of_getElem? (i := 202) (by decide +kernel), List.mem_of_getElem? (i := 605) (by decide +kernel), List.mem_of_getElem? (i := 606) (by decide +kernel)⟩
theorem lw_p10 : lw_okq (⟨"BridgeStrip$Reader", "use", "(I)I"⟩, 13) := ⟨⟨by decide +kernel, by decide +kernel⟩, List.mem_of_getElem? (i := 202) (by decide +kernel), List.mem_of_getElem? (i := 609) (by decide +kernel), List.mem_of_getElem? (i := 610) (by decide +kernel)⟩
theorem lw_p11 : lw_okq (⟨"BridgeStrip$Reader", "isName", "()Z"⟩, 13) := ⟨⟨by decide +kernel, by decide +kernel⟩, List.mem_of_getElem? (i := 202) (by decide +kernel), List.mem_of_getElem? (i := 613) (by decide +kernel), List.mem_of_getElem? (i := 614) (by decide +kernel)⟩
theorem lw_p12 : lw_okq (⟨"BridgeStrip$Reader", "goBy", "(Ljava/lang/String;)Z"⟩, 13) := ⟨⟨by decide +kernel, by decide +kernel⟩, List.mem_of_getElem? (i := 202) (by decide +kernel), List.mem_of_getElem? (i := 624) (by decide +kernel), List.mem_of_getElem? (i := 625) (by decide +kernel)⟩
theorem lw_p13 : lw_okq (⟨"BridgeStrip$Reader", "number", "(II)I"⟩, 13) := ⟨⟨by decide +kernel, by decide +kernel⟩, List.mem_of_getElem? (i := 202) (by decide +kernel), List.mem_of_getElem? (i := 629) (by decide +kernel), List.mem_of_getElem? (i := 630) (by decide +kernel)⟩
theorem lw_p14 : lw_okq (⟨"BridgeStrip$Reader", "readName", "(I)Z"⟩, 13) := ⟨⟨by decide +kernel, by decide +kernel⟩, List.mem_of_getElem? (i := 202) (by decide +kernel), List.mem_of_getElem? (i := 637) (by decide +kernel), List.mem_of_getElem? (i := 638) (by decide +kernel)⟩
theorem lw_p15 : lw_okq (⟨"BridgeStrip$Reader", "readRoad", "()Z"⟩, 13) := ⟨⟨by decide +kernel, by decide +kernel⟩, List.mem_of_getElem? (i := 202) (by decide +kernel), List.mem_of_getElem? (i := 651) (by decide +kernel), List.mem_of_getElem? (i := 652) (by decide +kernel)⟩
def lw_privs_1 : List (MethodName × Nat) := [(⟨"BridgeStrip", "putBytes", "(I)V"⟩, 15), (⟨"BridgeStrip", "refuse", "(I)I"⟩, 15), (⟨"BridgeStrip$Reader", "step", "()V"⟩, 13), (⟨"BridgeStrip$Reader", "stepOverWord", "()V"⟩, 13), (⟨"BridgeStrip$Reader", "stepOverWhole", "()V"⟩, 13), (⟨"BridgeStrip$Reader", "readLine", "()Z"⟩, 13), (⟨"BridgeStrip$Reader", "sees", "(Ljava/lang/String;)Z"⟩, 13), (⟨"BridgeStrip$Reader", "readLaw", "()Z"⟩, 13), (⟨"BridgeStrip$Reader", "fail", "(I)Z"⟩, 13), (⟨"BridgeStrip$Reader", "failAt", "(II)Z"⟩, 13), (⟨"BridgeStrip$Reader", "use", "(I)I"⟩, 13), (⟨"BridgeStrip$Reader", "isName", "()Z"⟩, 13), (⟨"BridgeStrip$Reader", "goBy", "(Ljava/lang/String;)Z"⟩, 13), (⟨"BridgeStrip$Reader", "number", "(II)I"⟩, 13), (⟨"BridgeStrip$Reader", "readName", "(I)Z"⟩, 13), (⟨"BridgeStrip$Reader", "readRoad", "()Z"⟩, 13)]
theorem lw_r1 : ∀ q ∈ lw_privs_1, lw_okq q := List.forall_mem_cons.mpr ⟨lw_p0, List.forall_mem_cons.mpr ⟨lw_p1, List.forall_mem_cons.mpr ⟨lw_p2, List.forall_mem_cons.mpr ⟨lw_p3, List.forall_mem_cons.mpr ⟨lw_p4, List.forall_mem_cons.mpr ⟨lw_p5, List.forall_mem_cons.mpr ⟨lw_p6, List.forall_mem_cons.mpr ⟨lw_p7, List.forall_mem_cons.mpr ⟨lw_p8, List.forall_mem_cons.mpr ⟨lw_p9, List.forall_mem_cons.mpr ⟨lw_p10, List.forall_mem_cons.mpr ⟨lw_p11, List.forall_mem_cons.mpr ⟨lw_p12, List.forall_mem_cons.mpr ⟨lw_p13, List.forall_mem_cons.mpr ⟨lw_p14, List.forall_mem_cons.mpr ⟨lw_p15, fun _ h => absurd h List.not_mem_nil⟩⟩⟩⟩⟩⟩⟩⟩⟩⟩⟩⟩⟩⟩⟩⟩
theorem lw_p16 : lw_okq (⟨"BridgeStrip$Reader", "readPost", "()Z"⟩, 13) := ⟨⟨by decide +kernel, by decide +kernel⟩, List.mem_of_getElem? (i := 202) (by decide +kernel), List.mem_of_getElem? (i := 665) (by decide +kernel), List.mem_of_getElem? (i := 666) (by decide +kernel)⟩
theorem lw_p17 : lw_okq (⟨"BridgeStrip$Reader", "readGift", "()Z"⟩, 13) := ⟨⟨by decide +kernel, by decide +kernel⟩, List.mem_of_getElem? (i := 202) (by decide +kernel), List.mem_of_getElem? (i := 678) (by decide +kernel), List.mem_of_getElem? (i := 679) (by decide +kernel)⟩
theorem lw_p18 : lw_okq (⟨"BridgeStrip$Reader", "readCase", "()Z"⟩, 13) := ⟨⟨by decide +kernel, by decide +kernel⟩, List.mem_of_getElem? (i := 202) (by decide +kernel), List.mem_of_getElem? (i := 691) (by decide +kernel), List.mem_of_getElem? (i := 692) (by decide +kernel)⟩
theorem lw_p19 : lw_okq (⟨"BridgeStrip", "beginAnew", "()V"⟩, 15) := ⟨⟨by decide +kernel, by decide +kernel⟩, List.mem_of_getElem? (i := 27) (by decide +kernel), List.mem_of_getElem? (i := 706) (by decide +kernel), List.mem_of_getElem? (i := 707) (by decide +kernel)⟩
theorem lw_p20 : lw_okq (⟨"BridgeStrip", "grant", "(I)I"⟩, 15) := ⟨⟨by decide +kernel, by decide +kernel⟩, List.mem_of_getElem? (i := 27) (by decide +kernel), List.mem_of_getElem? (i := 722) (by decide +kernel), List.mem_of_getElem? (i := 723) (by decide +kernel)⟩
theorem lw_p21 : lw_okq (⟨"BridgeStrip", "rulingRefusal", "(IIIII)I"⟩, 15) := ⟨⟨by decide +kernel, by decide +kernel⟩, List.mem_of_getElem? (i := 27) (by decide +kernel), List.mem_of_getElem? (i := 746) (by decide +kernel), List.mem_of_getElem? (i := 747) (by decide +kernel)⟩
theorem lw_p22 : lw_okq (⟨"BridgeStrip", "isPaperSort", "(II)Z"⟩, 15) := ⟨⟨by decide +kernel, by decide +kernel⟩, List.mem_of_getElem? (i := 27) (by decide +kernel), List.mem_of_getElem? (i := 754) (by decide +kernel), List.mem_of_getElem? (i := 755) (by decide +kernel)⟩
theorem lw_p23 : lw_okq (⟨"BridgeStrip", "decline", "(I)Z"⟩, 15) := ⟨⟨by decide +kernel, by decide +kernel⟩, List.mem_of_getElem? (i := 27) (by decide +kernel), List.mem_of_getElem? (i := 816) (by decide +kernel), List.mem_of_getElem? (i := 817) (by decide +kernel)⟩
theorem lw_p24 : lw_okq (⟨"BridgeStrip$People", "lasts", "(II)Z"⟩, 7) := ⟨⟨by decide +kernel, by decide +kernel⟩, List.mem_of_getElem? (i := 312) (by decide +kernel), List.mem_of_getElem? (i := 833) (by decide +kernel), List.mem_of_getElem? (i := 834) (by decide +kernel)⟩
theorem lw_p25 : lw_okq (⟨"BridgeStrip", "travelRefusal", "(III)I"⟩, 15) := ⟨⟨by decide +kernel, by decide +kernel⟩, List.mem_of_getElem? (i := 27) (by decide +kernel), List.mem_of_getElem? (i := 864) (by decide +kernel), List.mem_of_getElem? (i := 865) (by decide +kernel)⟩
theorem lw_p26 : lw_okq (⟨"BridgeStrip$Ways", "begin", "(II)V"⟩, 7) := ⟨⟨by decide +kernel, by decide +kernel⟩, List.mem_of_getElem? (i := 349) (by decide +kernel), List.mem_of_getElem? (i := 872) (by decide +kernel), List.mem_of_getElem? (i := 873) (by decide +kernel)⟩
theorem lw_p27 : lw_okq (⟨"BridgeStrip$Ways", "soonestUnsettled", "(I)I"⟩, 7) := ⟨⟨by decide +kernel, by decide +kernel⟩, List.mem_of_getElem? (i := 349) (by decide +kernel), List.mem_of_getElem? (i := 877) (by decide +kernel), List.mem_of_getElem? (i := 878) (by decide +kernel)⟩
theorem lw_p28 : lw_okq (⟨"BridgeStrip$Ways", "comingDay", "(LBridgeStrip$Book;III)I"⟩, 7) := ⟨⟨by decide +kernel, by decide +kernel⟩, List.mem_of_getElem? (i := 349) (by decide +kernel), List.mem_of_getElem? (i := 885) (by decide +kernel), List.mem_of_getElem? (i := 886) (by decide +kernel)⟩
theorem lw_p29 : lw_okq (⟨"BridgeStrip$Ways", "openingBehind", "(LBridgeStrip$Book;III)I"⟩, 7) := ⟨⟨by decide +kernel, by decide +kernel⟩, List.mem_of_getElem? (i := 349) (by decide +kernel), List.mem_of_getElem? (i := 890) (by decide +kernel), List.mem_of_getElem? (i := 891) (by decide +kernel)⟩
theorem lw_p30 : lw_okq (⟨"BridgeStrip$Ways", "offerDay", "(III)V"⟩, 7) := ⟨⟨by decide +kernel, by decide +kernel⟩, List.mem_of_getElem? (i := 349) (by decide +kernel), List.mem_of_getElem? (i := 909) (by decide +kernel), List.mem_of_getElem? (i := 910) (by decide +kernel)⟩
theorem lw_p31 : lw_okq (⟨"BridgeStrip", "grantWay", "(I)I"⟩, 15) := ⟨⟨by decide +kernel, by decide +kernel⟩, List.mem_of_getElem? (i := 27) (by decide +kernel), List.mem_of_getElem? (i := 913) (by decide +kernel), List.mem_of_getElem? (i := 914) (by decide +kernel)⟩
def lw_privs_2 : List (MethodName × Nat) := [(⟨"BridgeStrip$Reader", "readPost", "()Z"⟩, 13), (⟨"BridgeStrip$Reader", "readGift", "()Z"⟩, 13), (⟨"BridgeStrip$Reader", "readCase", "()Z"⟩, 13), (⟨"BridgeStrip", "beginAnew", "()V"⟩, 15), (⟨"BridgeStrip", "grant", "(I)I"⟩, 15), (⟨"BridgeStrip", "rulingRefusal", "(IIIII)I"⟩, 15), (⟨"BridgeStrip", "isPaperSort", "(II)Z"⟩, 15), (⟨"BridgeStrip", "decline", "(I)Z"⟩, 15), (⟨"BridgeStrip$People", "lasts", "(II)Z"⟩, 7), (⟨"BridgeStrip", "travelRefusal", "(III)I"⟩, 15), (⟨"BridgeStrip$Ways", "begin", "(II)V"⟩, 7), (⟨"BridgeStrip$Ways", "soonestUnsettled", "(I)I"⟩, 7), (⟨"BridgeStrip$Ways", "comingDay", "(LBridgeStrip$Book;III)I"⟩, 7), (⟨"BridgeStrip$Ways", "openingBehind", "(LBridgeStrip$Book;III)I"⟩, 7), (⟨"BridgeStrip$Ways", "offerDay", "(III)V"⟩, 7), (⟨"BridgeStrip", "grantWay", "(I)I"⟩, 15)]
theorem lw_r2 : ∀ q ∈ lw_privs_2, lw_okq q := List.forall_mem_cons.mpr ⟨lw_p16, List.forall_mem_cons.mpr ⟨lw_p17, List.forall_mem_cons.mpr ⟨lw_p18, List.forall_mem_cons.mpr ⟨lw_p19, List.forall_mem_cons.mpr ⟨lw_p20, List.forall_mem_cons.mpr ⟨lw_p21, List.forall_mem_cons.mpr ⟨lw_p22, List.forall_mem_cons.mpr ⟨lw_p23, List.forall_mem_cons.mpr ⟨lw_p24, List.forall_mem_cons.mpr ⟨lw_p25, List.forall_mem_cons.mpr ⟨lw_p26, List.forall_mem_cons.mpr ⟨lw_p27, List.forall_mem_cons.mpr ⟨lw_p28, List.forall_mem_cons.mpr ⟨lw_p29, List.forall_mem_cons.mpr ⟨lw_p30, List.forall_mem_cons.mpr ⟨lw_p31, fun _ h => absurd h List.not_mem_nil⟩⟩⟩⟩⟩⟩⟩⟩⟩⟩⟩⟩⟩⟩⟩⟩
theorem lw_p32 : lw_okq (⟨"BridgeStrip$Ways", "meetPosts", "(LBridgeStrip$Book;II)V"⟩, 7) := ⟨⟨by decide +kernel, by decide +kernel⟩, List.mem_of_getElem? (i := 349) (by decide +kernel), List.mem_of_getElem? (i := 926) (by decide +kernel), List.mem_of_getElem? (i := 927) (by decide +kernel)⟩
theorem lw_p33 : lw_okq (⟨"BridgeStrip$Ways", "openRoads", "(LBridgeStrip$Book;III)V"⟩, 7) := ⟨⟨by decide +kernel, by decide +kernel⟩, List.mem_of_getElem? (i := 349) (by decide +kernel), List.mem_of_getElem? (i := 930) (by decide +kernel), List.mem_of_getElem? (i := 931) (by decide +kernel)⟩
theorem lw_p34 : lw_okq (⟨"BridgeStrip$Ways", "lowerEnds", "(LBridgeStrip$Roads;I)V"⟩, 7) := ⟨⟨by decide +kernel, by decide +kernel⟩, List.mem_of_getElem? (i := 349) (by decide +kernel), List.mem_of_getElem? (i := 935) (by decide +kernel), List.mem_of_getElem? (i := 936) (by decide +kernel)⟩
theorem lw_p35 : lw_okq (⟨"BridgeStrip", "personDayRefusal", "(II)I"⟩, 15) := ⟨⟨by decide +kernel, by decide +kernel⟩, List.mem_of_getElem? (i := 27) (by decide +kernel), List.mem_of_getElem? (i := 943) (by decide +kernel), List.mem_of_getElem? (i := 944) (by decide +kernel)⟩
theorem lw_p36 : lw_okq (⟨"BridgeStrip$Ways", "reachWith", "(LBridgeStrip$Book;IIII)I"⟩, 7) := ⟨⟨by decide +kernel, by decide +kernel⟩, List.mem_of_getElem? (i := 349) (by decide +kernel), List.mem_of_getElem? (i := 951) (by decide +kernel), List.mem_of_getElem? (i := 952) (by decide +kernel)⟩
theorem lw_p37 : lw_okq (⟨"BridgeStrip$Loads", "findFitting", "(LBridgeStrip$Book;I)V"⟩, 7) := ⟨⟨by decide +kernel, by decide +kernel⟩, List.mem_of_getElem? (i := 379) (by decide +kernel), List.mem_of_getElem? (i := 988) (by decide +kernel), List.mem_of_getElem? (i := 989) (by decide +kernel)⟩
theorem lw_p38 : lw_okq (⟨"BridgeStrip$Loads", "costOf", "(I)I"⟩, 7) := ⟨⟨by decide +kernel, by decide +kernel⟩, List.mem_of_getElem? (i := 379) (by decide +kernel), List.mem_of_getElem? (i := 994) (by decide +kernel), List.mem_of_getElem? (i := 995) (by decide +kernel)⟩
theorem lw_p39 : lw_okq (⟨"BridgeStrip$Loads", "carries", "(LBridgeStrip$Book;III)Z"⟩, 7) := ⟨⟨by decide +kernel, by decide +kernel⟩, List.mem_of_getElem? (i := 379) (by decide +kernel), List.mem_of_getElem? (i := 999) (by decide +kernel), List.mem_of_getElem? (i := 1000) (by decide +kernel)⟩
theorem lw_p40 : lw_okq (⟨"BridgeStrip$Gifts", "dueDay", "(ILBridgeStrip$People;III)I"⟩, 9) := ⟨⟨by decide +kernel, by decide +kernel⟩, List.mem_of_getElem? (i := 123) (by decide +kernel), List.mem_of_getElem? (i := 1018) (by decide +kernel), List.mem_of_getElem? (i := 1019) (by decide +kernel)⟩
theorem lw_p41 : lw_okq (⟨"BridgeStrip$Gifts", "caseDay", "(ILBridgeStrip$People;III)I"⟩, 9) := ⟨⟨by decide +kernel, by decide +kernel⟩, List.mem_of_getElem? (i := 123) (by decide +kernel), List.mem_of_getElem? (i := 1022) (by decide +kernel), List.mem_of_getElem? (i := 1023) (by decide +kernel)⟩
theorem lw_p42 : lw_okq (⟨"BridgeStrip$Treaty", "foesOf", "(I)I"⟩, 9) := ⟨⟨by decide +kernel, by decide +kernel⟩, List.mem_of_getElem? (i := 441) (by decide +kernel), List.mem_of_getElem? (i := 1100) (by decide +kernel), List.mem_of_getElem? (i := 1101) (by decide +kernel)⟩
theorem lw_p43 : lw_okq (⟨"BridgeStrip$Treaty", "choose", "(III)V"⟩, 9) := ⟨⟨by decide +kernel, by decide +kernel⟩, List.mem_of_getElem? (i := 441) (by decide +kernel), List.mem_of_getElem? (i := 1104) (by decide +kernel), List.mem_of_getElem? (i := 1105) (by decide +kernel)⟩
theorem lw_p44 : lw_okq (⟨"BridgeStrip$Treaty", "keepTried", "(I)V"⟩, 9) := ⟨⟨by decide +kernel, by decide +kernel⟩, List.mem_of_getElem? (i := 441) (by decide +kernel), List.mem_of_getElem? (i := 1108) (by decide +kernel), List.mem_of_getElem? (i := 1109) (by decide +kernel)⟩
theorem lw_p45 : lw_okq (⟨"BridgeStrip$Treaty", "countFree", "(II)I"⟩, 9) := ⟨⟨by decide +kernel, by decide +kernel⟩, List.mem_of_getElem? (i := 441) (by decide +kernel), List.mem_of_getElem? (i := 1112) (by decide +kernel), List.mem_of_getElem? (i := 1113) (by decide +kernel)⟩
theorem lw_p46 : lw_okq (⟨"BridgeStrip$Treaty", "mayStand", "(II)Z"⟩, 9) := ⟨⟨by decide +kernel, by decide +kernel⟩, List.mem_of_getElem? (i := 441) (by decide +kernel), List.mem_of_getElem? (i := 1116) (by decide +kernel), List.mem_of_getElem? (i := 1117) (by decide +kernel)⟩
theorem lw_p47 : lw_okq (⟨"java/lang/Throwable", "fillInStackTrace", "(I)Ljava/lang/Throwable;"⟩, 6) := ⟨⟨by decide +kernel, by decide +kernel⟩, List.mem_of_getElem? (i := 1206) (by decide +kernel), List.mem_of_getElem? (i := 1204) (by decide +kernel), List.mem_of_getElem? (i := 1205) (by decide +kernel)⟩
def lw_privs_3 : List (MethodName × Nat) := [(⟨"BridgeStrip$Ways", "meetPosts", "(LBridgeStrip$Book;II)V"⟩, 7), (⟨"BridgeStrip$Ways", "openRoads", "(LBridgeStrip$Book;III)V"⟩, 7), (⟨"BridgeStrip$Ways", "lowerEnds", "(LBridgeStrip$Roads;I)V"⟩, 7), (⟨"BridgeStrip", "personDayRefusal", "(II)I"⟩, 15), (⟨"BridgeStrip$Ways", "reachWith", "(LBridgeStrip$Book;IIII)I"⟩, 7), (⟨"BridgeStrip$Loads", "findFitting", "(LBridgeStrip$Book;I)V"⟩, 7), (⟨"BridgeStrip$Loads", "costOf", "(I)I"⟩, 7), (⟨"BridgeStrip$Loads", "carries", "(LBridgeStrip$Book;III)Z"⟩, 7), (⟨"BridgeStrip$Gifts", "dueDay", "(ILBridgeStrip$People;III)I"⟩, 9), (⟨"BridgeStrip$Gifts", "caseDay", "(ILBridgeStrip$People;III)I"⟩, 9), (⟨"BridgeStrip$Treaty", "foesOf", "(I)I"⟩, 9), (⟨"BridgeStrip$Treaty", "choose", "(III)V"⟩, 9), (⟨"BridgeStrip$Treaty", "keepTried", "(I)V"⟩, 9), (⟨"BridgeStrip$Treaty", "countFree", "(II)I"⟩, 9), (⟨"BridgeStrip$Treaty", "mayStand", "(II)Z"⟩, 9), (⟨"java/lang/Throwable", "fillInStackTrace", "(I)Ljava/lang/Throwable;"⟩, 6)]
theorem lw_r3 : ∀ q ∈ lw_privs_3, lw_okq q := List.forall_mem_cons.mpr ⟨lw_p32, List.forall_mem_cons.mpr ⟨lw_p33, List.forall_mem_cons.mpr ⟨lw_p34, List.forall_mem_cons.mpr ⟨lw_p35, List.forall_mem_cons.mpr ⟨lw_p36, List.forall_mem_cons.mpr ⟨lw_p37, List.forall_mem_cons.mpr ⟨lw_p38, List.forall_mem_cons.mpr ⟨lw_p39, List.forall_mem_cons.mpr ⟨lw_p40, List.forall_mem_cons.mpr ⟨lw_p41, List.forall_mem_cons.mpr ⟨lw_p42, List.forall_mem_cons.mpr ⟨lw_p43, List.forall_mem_cons.mpr ⟨lw_p44, List.forall_mem_cons.mpr ⟨lw_p45, List.forall_mem_cons.mpr ⟨lw_p46, List.forall_mem_cons.mpr ⟨lw_p47, fun _ h => absurd h List.not_mem_nil⟩⟩⟩⟩⟩⟩⟩⟩⟩⟩⟩⟩⟩⟩⟩⟩
theorem lw_p48 : lw_okq (⟨"BridgeStripModel", "refused", "(I)I"⟩, 53) := ⟨⟨by decide +kernel, by decide +kernel⟩, List.mem_of_getElem? (i := 1240) (by decide +kernel), List.mem_of_getElem? (i := 1447) (by decide +kernel), List.mem_of_getElem? (i := 1448) (by decide +kernel)⟩
theorem lw_p49 : lw_okq (⟨"BridgeStripModel", "begins", "(I)V"⟩, 53) := ⟨⟨by decide +kernel, by decide +kernel⟩, List.mem_of_getElem? (i := 1240) (by decide +kernel), List.mem_of_getElem? (i := 1451) (by decide +kernel), List.mem_of_getElem? (i := 1452) (by decide +kernel)⟩
theorem lw_p50 : lw_okq (⟨"BridgeStripModel", "next", "()V"⟩, 53) := ⟨⟨by decide +kernel, by decide +kernel⟩, List.mem_of_getElem? (i := 1240) (by decide +kernel), List.mem_of_getElem? (i := 1575) (by decide +kernel), List.mem_of_getElem? (i := 1576) (by decide +kernel)⟩
theorem lw_p51 : lw_okq (⟨"BridgeStripModel", "byteAt", "(I)I"⟩, 53) := ⟨⟨by decide +kernel, by decide +kernel⟩, List.mem_of_getElem? (i := 1240) (by decide +kernel), List.mem_of_getElem? (i := 1579) (by decide +kernel), List.mem_of_getElem? (i := 1580) (by decide +kernel)⟩
theorem lw_p52 : lw_okq (⟨"BridgeStripModel", "readBook", "()V"⟩, 53) := ⟨⟨by decide +kernel, by decide +kernel⟩, List.mem_of_getElem? (i := 1240) (by decide +kernel), List.mem_of_getElem? (i := 1590) (by decide +kernel), List.mem_of_getElem? (i := 1591) (by decide +kernel)⟩
theorem lw_p53 : lw_okq (⟨"BridgeStripModel", "isWord", "(Ljava/lang/String;)Z"⟩, 53) := ⟨⟨by decide +kernel, by decide +kernel⟩, List.mem_of_getElem? (i := 1240) (by decide +kernel), List.mem_of_getElem? (i := 1595) (by decide +kernel), List.mem_of_getElem? (i := 1596) (by decide +kernel)⟩
theorem lw_p54 : lw_okq (⟨"BridgeStripModel", "readThing", "(II)V"⟩, 53) := ⟨⟨by decide +kernel, by decide +kernel⟩, List.mem_of_getElem? (i := 1240) (by decide +kernel), List.mem_of_getElem? (i := 1604) (by decide +kernel), List.mem_of_getElem? (i := 1605) (by decide +kernel)⟩
theorem lw_p55 : lw_okq (⟨"BridgeStripModel", "stop", "(I)LBridgeStripModel$Stop;"⟩, 53) := ⟨⟨by decide +kernel, by decide +kernel⟩, List.mem_of_getElem? (i := 1240) (by decide +kernel), List.mem_of_getElem? (i := 1608) (by decide +kernel), List.mem_of_getElem? (i := 1609) (by decide +kernel)⟩
theorem lw_p56 : lw_okq (⟨"BridgeStripModel", "isName", "()Z"⟩, 53) := ⟨⟨by decide +kernel, by decide +kernel⟩, List.mem_of_getElem? (i := 1240) (by decide +kernel), List.mem_of_getElem? (i := 1612) (by decide +kernel), List.mem_of_getElem? (i := 1613) (by decide +kernel)⟩
theorem lw_p57 : lw_okq (⟨"BridgeStripModel", "readRoad", "()V"⟩, 53) := ⟨⟨by decide +kernel, by decide +kernel⟩, List.mem_of_getElem? (i := 1240) (by decide +kernel), List.mem_of_getElem? (i := 1629) (by decide +kernel), List.mem_of_getElem? (i := 1630) (by decide +kernel)⟩
theorem lw_p58 : lw_okq (⟨"BridgeStripModel", "readTold", "(I)I"⟩, 53) := ⟨⟨by decide +kernel, by decide +kernel⟩, List.mem_of_getElem? (i := 1240) (by decide +kernel), List.mem_of_getElem? (i := 1633) (by decide +kernel), List.mem_of_getElem? (i := 1634) (by decide +kernel)⟩
theorem lw_p59 : lw_okq (⟨"BridgeStripModel", "needWord", "(Ljava/lang/String;)V"⟩, 53) := ⟨⟨by decide +kernel, by decide +kernel⟩, List.mem_of_getElem? (i := 1240) (by decide +kernel), List.mem_of_getElem? (i := 1638) (by decide +kernel), List.mem_of_getElem? (i := 1639) (by decide +kernel)⟩
theorem lw_p60 : lw_okq (⟨"BridgeStripModel", "readWhole", "(II)I"⟩, 53) := ⟨⟨by decide +kernel, by decide +kernel⟩, List.mem_of_getElem? (i := 1240) (by decide +kernel), List.mem_of_getElem? (i := 1642) (by decide +kernel), List.mem_of_getElem? (i := 1643) (by decide +kernel)⟩
theorem lw_p61 : lw_okq (⟨"BridgeStripModel", "readLaw", "(I)V"⟩, 53) := ⟨⟨by decide +kernel, by decide +kernel⟩, List.mem_of_getElem? (i := 1240) (by decide +kernel), List.mem_of_getElem? (i := 1651) (by decide +kernel), List.mem_of_getElem? (i := 1652) (by decide +kernel)⟩
theorem lw_p62 : lw_okq (⟨"BridgeStripModel", "readGift", "()V"⟩, 53) := ⟨⟨by decide +kernel, by decide +kernel⟩, List.mem_of_getElem? (i := 1240) (by decide +kernel), List.mem_of_getElem? (i := 1660) (by decide +kernel), List.mem_of_getElem? (i := 1661) (by decide +kernel)⟩
theorem lw_p63 : lw_okq (⟨"BridgeStripModel", "readCase", "(I)V"⟩, 53) := ⟨⟨by decide +kernel, by decide +kernel⟩, List.mem_of_getElem? (i := 1240) (by decide +kernel), List.mem_of_getElem? (i := 1665) (by decide +kernel), List.mem_of_getElem? (i := 1666) (by decide +kernel)⟩
def lw_privs_4 : List (MethodName × Nat) := [(⟨"BridgeStripModel", "refused", "(I)I"⟩, 53), (⟨"BridgeStripModel", "begins", "(I)V"⟩, 53), (⟨"BridgeStripModel", "next", "()V"⟩, 53), (⟨"BridgeStripModel", "byteAt", "(I)I"⟩, 53), (⟨"BridgeStripModel", "readBook", "()V"⟩, 53), (⟨"BridgeStripModel", "isWord", "(Ljava/lang/String;)Z"⟩, 53), (⟨"BridgeStripModel", "readThing", "(II)V"⟩, 53), (⟨"BridgeStripModel", "stop", "(I)LBridgeStripModel$Stop;"⟩, 53), (⟨"BridgeStripModel", "isName", "()Z"⟩, 53), (⟨"BridgeStripModel", "readRoad", "()V"⟩, 53), (⟨"BridgeStripModel", "readTold", "(I)I"⟩, 53), (⟨"BridgeStripModel", "needWord", "(Ljava/lang/String;)V"⟩, 53), (⟨"BridgeStripModel", "readWhole", "(II)I"⟩, 53), (⟨"BridgeStripModel", "readLaw", "(I)V"⟩, 53), (⟨"BridgeStripModel", "readGift", "()V"⟩, 53), (⟨"BridgeStripModel", "readCase", "(I)V"⟩, 53)]
theorem lw_r4 : ∀ q ∈ lw_privs_4, lw_okq q := List.forall_mem_cons.mpr ⟨lw_p48, List.forall_mem_cons.mpr ⟨lw_p49, List.forall_mem_cons.mpr ⟨lw_p50, List.forall_mem_cons.mpr ⟨lw_p51, List.forall_mem_cons.mpr ⟨lw_p52, List.forall_mem_cons.mpr ⟨lw_p53, List.forall_mem_cons.mpr ⟨lw_p54, List.forall_mem_cons.mpr ⟨lw_p55, List.forall_mem_cons.mpr ⟨lw_p56, List.forall_mem_cons.mpr ⟨lw_p57, List.forall_mem_cons.mpr ⟨lw_p58, List.forall_mem_cons.mpr ⟨lw_p59, List.forall_mem_cons.mpr ⟨lw_p60, List.forall_mem_cons.mpr ⟨lw_p61, List.forall_mem_cons.mpr ⟨lw_p62, List.forall_mem_cons.mpr ⟨lw_p63, fun _ h => absurd h List.not_mem_nil⟩⟩⟩⟩⟩⟩⟩⟩⟩⟩⟩⟩⟩⟩⟩⟩
theorem lw_p64 : lw_okq (⟨"BridgeStripModel", "wrong", "(LBridgeStripModel$Stop;)I"⟩, 53) := ⟨⟨by decide +kernel, by decide +kernel⟩, List.mem_of_getElem? (i := 1240) (by decide +kernel), List.mem_of_getElem? (i := 1672) (by decide +kernel), List.mem_of_getElem? (i := 1673) (by decide +kernel)⟩
theorem lw_p65 : lw_okq (⟨"BridgeStripModel", "done", "(I)I"⟩, 53) := ⟨⟨by decide +kernel, by decide +kernel⟩, List.mem_of_getElem? (i := 1240) (by decide +kernel), List.mem_of_getElem? (i := 1676) (by decide +kernel), List.mem_of_getElem? (i := 1677) (by decide +kernel)⟩
theorem lw_p66 : lw_okq (⟨"BridgeStripModel", "readLaws", "()V"⟩, 53) := ⟨⟨by decide +kernel, by decide +kernel⟩, List.mem_of_getElem? (i := 1240) (by decide +kernel), List.mem_of_getElem? (i := 1684) (by decide +kernel), List.mem_of_getElem? (i := 1685) (by decide +kernel)⟩
theorem lw_p67 : lw_okq (⟨"BridgeStripModel", "isOf", "(II)Z"⟩, 53) := ⟨⟨by decide +kernel, by decide +kernel⟩, List.mem_of_getElem? (i := 1240) (by decide +kernel), List.mem_of_getElem? (i := 1704) (by decide +kernel), List.mem_of_getElem? (i := 1705) (by decide +kernel)⟩
theorem lw_p68 : lw_okq (⟨"BridgeStripModel", "lawOf", "(IIIII)I"⟩, 53) := ⟨⟨by decide +kernel, by decide +kernel⟩, List.mem_of_getElem? (i := 1240) (by decide +kernel), List.mem_of_getElem? (i := 1711) (by decide +kernel), List.mem_of_getElem? (i := 1712) (by decide +kernel)⟩
theorem lw_p69 : lw_okq (⟨"BridgeStripModel", "comes", "(I)I"⟩, 53) := ⟨⟨by decide +kernel, by decide +kernel⟩, List.mem_of_getElem? (i := 1240) (by decide +kernel), List.mem_of_getElem? (i := 1723) (by decide +kernel), List.mem_of_getElem? (i := 1724) (by decide +kernel)⟩
theorem lw_p70 : lw_okq (⟨"BridgeStripModel", "isPerson", "(I)Z"⟩, 53) := ⟨⟨by decide +kernel, by decide +kernel⟩, List.mem_of_getElem? (i := 1240) (by decide +kernel), List.mem_of_getElem? (i := 1731) (by decide +kernel), List.mem_of_getElem? (i := 1732) (by decide +kernel)⟩
theorem lw_p71 : lw_okq (⟨"BridgeStripModel", "gives", "(IIIII)V"⟩, 53) := ⟨⟨by decide +kernel, by decide +kernel⟩, List.mem_of_getElem? (i := 1240) (by decide +kernel), List.mem_of_getElem? (i := 1735) (by decide +kernel), List.mem_of_getElem? (i := 1736) (by decide +kernel)⟩
theorem lw_p72 : lw_okq (⟨"BridgeStripModel", "denied", "(I)Z"⟩, 53) := ⟨⟨by decide +kernel, by decide +kernel⟩, List.mem_of_getElem? (i := 1240) (by decide +kernel), List.mem_of_getElem? (i := 1747) (by decide +kernel), List.mem_of_getElem? (i := 1748) (by decide +kernel)⟩
theorem lw_p73 : lw_okq (⟨"BridgeStripModel", "granted", "()Z"⟩, 53) := ⟨⟨by decide +kernel, by decide +kernel⟩, List.mem_of_getElem? (i := 1240) (by decide +kernel), List.mem_of_getElem? (i := 1751) (by decide +kernel), List.mem_of_getElem? (i := 1752) (by decide +kernel)⟩
theorem lw_p74 : lw_okq (⟨"BridgeStripModel", "goodIn", "(III)I"⟩, 53) := ⟨⟨by decide +kernel, by decide +kernel⟩, List.mem_of_getElem? (i := 1240) (by decide +kernel), List.mem_of_getElem? (i := 1759) (by decide +kernel), List.mem_of_getElem? (i := 1760) (by decide +kernel)⟩
theorem lw_p75 : lw_okq (⟨"BridgeStripModel", "has", "(IIII)Z"⟩, 53) := ⟨⟨by decide +kernel, by decide +kernel⟩, List.mem_of_getElem? (i := 1240) (by decide +kernel), List.mem_of_getElem? (i := 1763) (by decide +kernel), List.mem_of_getElem? (i := 1764) (by decide +kernel)⟩
theorem lw_p76 : lw_okq (⟨"BridgeStripModel", "isTaken", "(IIII)Z"⟩, 53) := ⟨⟨by decide +kernel, by decide +kernel⟩, List.mem_of_getElem? (i := 1240) (by decide +kernel), List.mem_of_getElem? (i := 1767) (by decide +kernel), List.mem_of_getElem? (i := 1768) (by decide +kernel)⟩
theorem lw_p77 : lw_okq (⟨"BridgeStripModel", "isOpen", "(III)Z"⟩, 53) := ⟨⟨by decide +kernel, by decide +kernel⟩, List.mem_of_getElem? (i := 1240) (by decide +kernel), List.mem_of_getElem? (i := 1779) (by decide +kernel), List.mem_of_getElem? (i := 1780) (by decide +kernel)⟩
theorem lw_p78 : lw_okq (⟨"BridgeStripModel", "goes", "(II)V"⟩, 53) := ⟨⟨by decide +kernel, by decide +kernel⟩, List.mem_of_getElem? (i := 1240) (by decide +kernel), List.mem_of_getElem? (i := 1787) (by decide +kernel), List.mem_of_getElem? (i := 1788) (by decide +kernel)⟩
theorem lw_p79 : lw_okq (⟨"BridgeStripModel", "end", "(IZ)I"⟩, 53) := ⟨⟨by decide +kernel, by decide +kernel⟩, List.mem_of_getElem? (i := 1240) (by decide +kernel), List.mem_of_getElem? (i := 1791) (by decide +kernel), List.mem_of_getElem? (i := 1792) (by decide +kernel)⟩
def lw_privs_5 : List (MethodName × Nat) := [(⟨"BridgeStripModel", "wrong", "(LBridgeStripModel$Stop;)I"⟩, 53), (⟨"BridgeStripModel", "done", "(I)I"⟩, 53), (⟨"BridgeStripModel", "readLaws", "()V"⟩, 53), (⟨"BridgeStripModel", "isOf", "(II)Z"⟩, 53), (⟨"BridgeStripModel", "lawOf", "(IIIII)I"⟩, 53), (⟨"BridgeStripModel", "comes", "(I)I"⟩, 53), (⟨"BridgeStripModel", "isPerson", "(I)Z"⟩, 53), (⟨"BridgeStripModel", "gives", "(IIIII)V"⟩, 53), (⟨"BridgeStripModel", "denied", "(I)Z"⟩, 53), (⟨"BridgeStripModel", "granted", "()Z"⟩, 53), (⟨"BridgeStripModel", "goodIn", "(III)I"⟩, 53), (⟨"BridgeStripModel", "has", "(IIII)Z"⟩, 53), (⟨"BridgeStripModel", "isTaken", "(IIII)Z"⟩, 53), (⟨"BridgeStripModel", "isOpen", "(III)Z"⟩, 53), (⟨"BridgeStripModel", "goes", "(II)V"⟩, 53), (⟨"BridgeStripModel", "end", "(IZ)I"⟩, 53)]
theorem lw_r5 : ∀ q ∈ lw_privs_5, lw_okq q := List.forall_mem_cons.mpr ⟨lw_p64, List.forall_mem_cons.mpr ⟨lw_p65, List.forall_mem_cons.mpr ⟨lw_p66, List.forall_mem_cons.mpr ⟨lw_p67, List.forall_mem_cons.mpr ⟨lw_p68, List.forall_mem_cons.mpr ⟨lw_p69, List.forall_mem_cons.mpr ⟨lw_p70, List.forall_mem_cons.mpr ⟨lw_p71, List.forall_mem_cons.mpr ⟨lw_p72, List.forall_mem_cons.mpr ⟨lw_p73, List.forall_mem_cons.mpr ⟨lw_p74, List.forall_mem_cons.mpr ⟨lw_p75, List.forall_mem_cons.mpr ⟨lw_p76, List.forall_mem_cons.mpr ⟨lw_p77, List.forall_mem_cons.mpr ⟨lw_p78, List.forall_mem_cons.mpr ⟨lw_p79, fun _ h => absurd h List.not_mem_nil⟩⟩⟩⟩⟩⟩⟩⟩⟩⟩⟩⟩⟩⟩⟩⟩
theorem lw_p80 : lw_okq (⟨"BridgeStripModel", "comesBy", "(III)I"⟩, 53) := ⟨⟨by decide +kernel, by decide +kernel⟩, List.mem_of_getElem? (i := 1240) (by decide +kernel), List.mem_of_getElem? (i := 1795) (by decide +kernel), List.mem_of_getElem? (i := 1796) (by decide +kernel)⟩
theorem lw_p81 : lw_okq (⟨"BridgeStripModel", "pays", "(II)V"⟩, 53) := ⟨⟨by decide +kernel, by decide +kernel⟩, List.mem_of_getElem? (i := 1240) (by decide +kernel), List.mem_of_getElem? (i := 1804) (by decide +kernel), List.mem_of_getElem? (i := 1805) (by decide +kernel)⟩
theorem lw_p82 : lw_okq (⟨"BridgeStripModel", "reached", "(II)I"⟩, 53) := ⟨⟨by decide +kernel, by decide +kernel⟩, List.mem_of_getElem? (i := 1240) (by decide +kernel), List.mem_of_getElem? (i := 1812) (by decide +kernel), List.mem_of_getElem? (i := 1813) (by decide +kernel)⟩
theorem lw_p83 : lw_okq (⟨"BridgeStripModel", "stampsOf", "(II)I"⟩, 53) := ⟨⟨by decide +kernel, by decide +kernel⟩, List.mem_of_getElem? (i := 1240) (by decide +kernel), List.mem_of_getElem? (i := 1828) (by decide +kernel), List.mem_of_getElem? (i := 1829) (by decide +kernel)⟩
theorem lw_p84 : lw_okq (⟨"BridgeStripModel", "isCarried", "(III)Z"⟩, 53) := ⟨⟨by decide +kernel, by decide +kernel⟩, List.mem_of_getElem? (i := 1240) (by decide +kernel), List.mem_of_getElem? (i := 1835) (by decide +kernel), List.mem_of_getElem? (i := 1836) (by decide +kernel)⟩
theorem lw_p85 : lw_okq (⟨"BridgeStripModel", "giftDay", "(III)I"⟩, 53) := ⟨⟨by decide +kernel, by decide +kernel⟩, List.mem_of_getElem? (i := 1240) (by decide +kernel), List.mem_of_getElem? (i := 1847) (by decide +kernel), List.mem_of_getElem? (i := 1848) (by decide +kernel)⟩
theorem lw_p86 : lw_okq (⟨"BridgeStripModel", "hasFrom", "(III)I"⟩, 53) := ⟨⟨by decide +kernel, by decide +kernel⟩, List.mem_of_getElem? (i := 1240) (by decide +kernel), List.mem_of_getElem? (i := 1851) (by decide +kernel), List.mem_of_getElem? (i := 1852) (by decide +kernel)⟩
theorem lw_p87 : lw_okq (⟨"BridgeStripModel", "lastsNow", "(III)Z"⟩, 53) := ⟨⟨by decide +kernel, by decide +kernel⟩, List.mem_of_getElem? (i := 1240) (by decide +kernel), List.mem_of_getElem? (i := 1855) (by decide +kernel), List.mem_of_getElem? (i := 1856) (by decide +kernel)⟩
theorem lw_p88 : lw_okq (⟨"BridgeStripModel", "binding", "(IIII)I"⟩, 53) := ⟨⟨by decide +kernel, by decide +kernel⟩, List.mem_of_getElem? (i := 1240) (by decide +kernel), List.mem_of_getElem? (i := 1868) (by decide +kernel), List.mem_of_getElem? (i := 1869) (by decide +kernel)⟩
theorem lw_p89 : lw_okq (⟨"BridgeStripModel", "best", "()I"⟩, 53) := ⟨⟨by decide +kernel, by decide +kernel⟩, List.mem_of_getElem? (i := 1240) (by decide +kernel), List.mem_of_getElem? (i := 1889) (by decide +kernel), List.mem_of_getElem? (i := 1890) (by decide +kernel)⟩
theorem lw_p90 : lw_okq (⟨"BridgeStripModel", "isQuiet", "()Z"⟩, 53) := ⟨⟨by decide +kernel, by decide +kernel⟩, List.mem_of_getElem? (i := 1240) (by decide +kernel), List.mem_of_getElem? (i := 1893) (by decide +kernel), List.mem_of_getElem? (i := 1894) (by decide +kernel)⟩
theorem lw_p91 : lw_okq (⟨"BridgeStripModel", "turns", "()Z"⟩, 53) := ⟨⟨by decide +kernel, by decide +kernel⟩, List.mem_of_getElem? (i := 1240) (by decide +kernel), List.mem_of_getElem? (i := 1897) (by decide +kernel), List.mem_of_getElem? (i := 1898) (by decide +kernel)⟩
theorem lw_p92 : lw_okq (⟨"BridgeStripModel", "roadTo", "(II)I"⟩, 53) := ⟨⟨by decide +kernel, by decide +kernel⟩, List.mem_of_getElem? (i := 1240) (by decide +kernel), List.mem_of_getElem? (i := 1926) (by decide +kernel), List.mem_of_getElem? (i := 1927) (by decide +kernel)⟩
def lw_privs_6 : List (MethodName × Nat) := [(⟨"BridgeStripModel", "comesBy", "(III)I"⟩, 53), (⟨"BridgeStripModel", "pays", "(II)V"⟩, 53), (⟨"BridgeStripModel", "reached", "(II)I"⟩, 53), (⟨"BridgeStripModel", "stampsOf", "(II)I"⟩, 53), (⟨"BridgeStripModel", "isCarried", "(III)Z"⟩, 53), (⟨"BridgeStripModel", "giftDay", "(III)I"⟩, 53), (⟨"BridgeStripModel", "hasFrom", "(III)I"⟩, 53), (⟨"BridgeStripModel", "lastsNow", "(III)Z"⟩, 53), (⟨"BridgeStripModel", "binding", "(IIII)I"⟩, 53), (⟨"BridgeStripModel", "best", "()I"⟩, 53), (⟨"BridgeStripModel", "isQuiet", "()Z"⟩, 53), (⟨"BridgeStripModel", "turns", "()Z"⟩, 53), (⟨"BridgeStripModel", "roadTo", "(II)I"⟩, 53)]
theorem lw_r6 : ∀ q ∈ lw_privs_6, lw_okq q := List.forall_mem_cons.mpr ⟨lw_p80, List.forall_mem_cons.mpr ⟨lw_p81, List.forall_mem_cons.mpr ⟨lw_p82, List.forall_mem_cons.mpr ⟨lw_p83, List.forall_mem_cons.mpr ⟨lw_p84, List.forall_mem_cons.mpr ⟨lw_p85, List.forall_mem_cons.mpr ⟨lw_p86, List.forall_mem_cons.mpr ⟨lw_p87, List.forall_mem_cons.mpr ⟨lw_p88, List.forall_mem_cons.mpr ⟨lw_p89, List.forall_mem_cons.mpr ⟨lw_p90, List.forall_mem_cons.mpr ⟨lw_p91, List.forall_mem_cons.mpr ⟨lw_p92, fun _ h => absurd h List.not_mem_nil⟩⟩⟩⟩⟩⟩⟩⟩⟩⟩⟩⟩⟩
def lw_privs : List (MethodName × Nat) := lw_privs_1 ++ (lw_privs_2 ++ (lw_privs_3 ++ (lw_privs_4 ++ (lw_privs_5 ++ (lw_privs_6)))))
def lw_tbl : List Cond := k2_sels lw_privs ++ tables_1
theorem lw_privs_ok : ∀ q ∈ lw_privs, lw_okq q := by
  show ∀ q ∈ lw_privs_1 ++ (lw_privs_2 ++ (lw_privs_3 ++ (lw_privs_4 ++ (lw_privs_5 ++ (lw_privs_6))))), lw_okq q
  exact List.forall_mem_append.mpr ⟨lw_r1, List.forall_mem_append.mpr ⟨lw_r2, List.forall_mem_append.mpr ⟨lw_r3, List.forall_mem_append.mpr ⟨lw_r4, List.forall_mem_append.mpr ⟨lw_r5, lw_r6⟩⟩⟩⟩⟩

/-! ===== BEGIN words of one list among another's, by their places ===== -/
theorem goodIn_r {big : List Cond} (ws : List Cond) (ps : List Nat) (hp : ws = ps.filterMap (fun i => big[i]?)) (h : ws.all goodWord = true) : GoodIn big ws := by
  intro w hw
  have h1 := List.all_eq_true.mp h w hw
  rw [hp] at hw
  obtain ⟨i, -, hi⟩ := List.mem_filterMap.mp hw
  have hm : w ∈ big := by first | exact List.mem_of_getElem? hi | exact List.getElem?_mem hi
  exact ⟨hm, good_of_word h1⟩
theorem goodIn_app {big a b : List Cond} (ha : GoodIn big a) (hb : GoodIn big b) : GoodIn big (a ++ b) := fun w h => (List.mem_append.mp h).elim (ha w) (hb w)
theorem goodIn_ca {big a b : List Cond} {c : Cond} (ha : GoodIn big (c :: a)) (hb : GoodIn big b) : GoodIn big (c :: (a ++ b)) := fun w h => (List.mem_cons.mp h).elim (fun e => ha w (List.mem_cons.mpr (Or.inl e))) (fun h => (List.mem_append.mp h).elim (fun h => ha w (List.mem_cons.mpr (Or.inr h))) (hb w))
theorem goodIn_sub {big ws : List Cond} (hm : ∀ w ∈ ws, w ∈ big) (h : ws.all goodWord = true) : GoodIn big ws := fun w hw => ⟨hm w hw, good_of_word (List.all_eq_true.mp h w hw)⟩
def RX0 : String := "BridgeStrip$Book"
def TX0 : u_T := fun k => match k with
  | 0 => ("BridgeStrip$Book", "told", "[I", true)
  | 1 => ("BridgeStrip$Book", "name", "[J", true)
  | 2 => ("BridgeStrip$Book", "sort", "[I", true)
  | 3 => ("BridgeStrip$Book", "number", "[I", true)
  | 4 => ("BridgeStrip$Book", "names", "I", false)
  | 5 => ("BridgeStrip$Book", "roads", "LBridgeStrip$Roads;", true)
  | 6 => ("BridgeStrip$Book", "laws", "LBridgeStrip$Laws;", true)
  | _ => ("BridgeStrip$Book", "gifts", "LBridgeStrip$Gifts;", true)
def tyX0 : Nat → FieldType := fun k => match k with
  | 0 => .array .int
  | 1 => .array .long
  | 2 => .array .int
  | 3 => .array .int
  | 4 => .int
  | 5 => .object "BridgeStrip$Roads"
  | 6 => .object "BridgeStrip$Laws"
  | _ => .object "BridgeStrip$Gifts"
abbrev wsX00 : List Cond := u_ws RX0 TX0 8
theorem nmX0 : ∀ a, a < 8 → ∀ b, b < 8 → a ≠ b → (TX0 a).2.1 ≠ (TX0 b).2.1 := by decide +kernel
theorem tyX0_ok : ∀ k, k < 8 → parseFieldDescriptor (TX0 k).2.2.1 = some (tyX0 k) := by decide +kernel
abbrev cX0_init : ByteArray := prog_2_method_1_code
def yX0_init : MethodName := ⟨RX0, "<init>", "()V"⟩
abbrev cX0_clear : ByteArray := prog_2_method_2_code
def yX0_clear : MethodName := ⟨RX0, "clear", "()V"⟩
abbrev cX0_has : ByteArray := prog_2_method_3_code
def yX0_has : MethodName := ⟨RX0, "has", "(II)Z"⟩
abbrev cX0_hasRoom : ByteArray := prog_2_method_4_code
def yX0_hasRoom : MethodName := ⟨RX0, "hasRoom", "(I)Z"⟩
abbrev cX0_tell : ByteArray := prog_2_method_5_code
def yX0_tell : MethodName := ⟨RX0, "tell", "(JI)V"⟩
abbrev cX0_find : ByteArray := prog_2_method_6_code
def yX0_find : MethodName := ⟨RX0, "find", "(J)I"⟩
def RX1 : String := "BridgeStrip$Court"
def TX1 : u_T := fun k => match k with
  | 0 => ("BridgeStrip$Court", "kind", "[I", true)
  | 1 => ("BridgeStrip$Court", "office", "[I", true)
  | 2 => ("BridgeStrip$Court", "person", "[I", true)
  | 3 => ("BridgeStrip$Court", "matter", "[I", true)
  | 4 => ("BridgeStrip$Court", "value", "[I", true)
  | 5 => ("BridgeStrip$Court", "since", "[I", true)
  | 6 => ("BridgeStrip$Court", "byLand", "[I", true)
  | _ => ("BridgeStrip$Court", "count", "I", false)
def tyX1 : Nat → FieldType := fun k => match k with
  | 0 => .array .int
  | 1 => .array .int
  | 2 => .array .int
  | 3 => .array .int
  | 4 => .array .int
  | 5 => .array .int
  | 6 => .array .int
  | _ => .int
abbrev wsX10 : List Cond := u_ws RX1 TX1 8
theorem nmX1 : ∀ a, a < 8 → ∀ b, b < 8 → a ≠ b → (TX1 a).2.1 ≠ (TX1 b).2.1 := by decide +kernel
theorem tyX1_ok : ∀ k, k < 8 → parseFieldDescriptor (TX1 k).2.2.1 = some (tyX1 k) := by decide +kernel
abbrev cX1_init : ByteArray := prog_3_method_1_code
def yX1_init : MethodName := ⟨RX1, "<init>", "()V"⟩
abbrev cX1_isMatter : ByteArray := prog_3_method_2_code
def yX1_isMatter : MethodName := ⟨RX1, "isMatter", "(I)Z"⟩
abbrev cX1_add : ByteArray := prog_3_method_3_code
def yX1_add : MethodName := ⟨RX1, "add", "(IIIIII)I"⟩
abbrev cX1_bindingValue : ByteArray := prog_3_method_4_code
def yX1_bindingValue : MethodName := ⟨RX1, "bindingValue", "(IIIILBridgeStrip$Laws;)I"⟩
abbrev cX1_countUnlike : ByteArray := prog_3_method_5_code
def yX1_countUnlike : MethodName := ⟨RX1, "countUnlike", "(IIILBridgeStrip$Book;)I"⟩
def RX2 : String := "BridgeStrip$Gifts"
def TX2 : u_T := fun k => match k with
  | 0 => ("BridgeStrip$Gifts", "kind", "[I", true)
  | 1 => ("BridgeStrip$Gifts", "office", "[I", true)
  | 2 => ("BridgeStrip$Gifts", "after", "[I", true)
  | 3 => ("BridgeStrip$Gifts", "cases", "[I", true)
  | 4 => ("BridgeStrip$Gifts", "caseSort", "[I", true)
  | 5 => ("BridgeStrip$Gifts", "caseSubject", "[I", true)
  | 6 => ("BridgeStrip$Gifts", "caseOffice", "[I", true)
  | 7 => ("BridgeStrip$Gifts", "past", "[Z", true)
  | _ => ("BridgeStrip$Gifts", "count", "I", false)
def tyX2 : Nat → FieldType := fun k => match k with
  | 0 => .array .int
  | 1 => .array .int
  | 2 => .array .int
  | 3 => .array .int
  | 4 => .array .int
  | 5 => .array .int
  | 6 => .array .int
  | 7 => .array .boolean
  | _ => .int
abbrev wsX20 : List Cond := u_ws RX2 TX2 9
theorem nmX2 : ∀ a, a < 9 → ∀ b, b < 9 → a ≠ b → (TX2 a).2.1 ≠ (TX2 b).2.1 := by decide +kernel
theorem tyX2_ok : ∀ k, k < 9 → parseFieldDescriptor (TX2 k).2.2.1 = some (tyX2 k) := by decide +kernel
abbrev cX2_init : ByteArray := prog_4_method_1_code
def yX2_init : MethodName := ⟨RX2, "<init>", "()V"⟩
abbrev cX2_hasRoom : ByteArray := prog_4_method_2_code
def yX2_hasRoom : MethodName := ⟨RX2, "hasRoom", "()Z"⟩
abbrev cX2_add : ByteArray := prog_4_method_3_code
def yX2_add : MethodName := ⟨RX2, "add", "(III)V"⟩
abbrev cX2_lastHasCaseRoom : ByteArray := prog_4_method_4_code
def yX2_lastHasCaseRoom : MethodName := ⟨RX2, "lastHasCaseRoom", "()Z"⟩
abbrev cX2_addCaseToLast : ByteArray := prog_4_method_5_code
def yX2_addCaseToLast : MethodName := ⟨RX2, "addCaseToLast", "(III)V"⟩
abbrev cX2_giveAll : ByteArray := prog_4_method_6_code
def yX2_giveAll : MethodName := ⟨RX2, "giveAll", "(LBridgeStrip$People;III)V"⟩
abbrev cX2_dueDay : ByteArray := prog_4_method_7_code
def yX2_dueDay : MethodName := ⟨RX2, "dueDay", "(ILBridgeStrip$People;III)I"⟩
abbrev cX2_caseDay : ByteArray := prog_4_method_8_code
def yX2_caseDay : MethodName := ⟨RX2, "caseDay", "(ILBridgeStrip$People;III)I"⟩
def RX3 : String := "BridgeStrip$Laws"
def TX3 : u_T := fun k => match k with
  | 0 => ("BridgeStrip$Laws", "land", "[I", true)
  | 1 => ("BridgeStrip$Laws", "kind", "[I", true)
  | 2 => ("BridgeStrip$Laws", "office", "[I", true)
  | 3 => ("BridgeStrip$Laws", "accepting", "[Z", true)
  | 4 => ("BridgeStrip$Laws", "since", "[I", true)
  | 5 => ("BridgeStrip$Laws", "until", "[I", true)
  | 6 => ("BridgeStrip$Laws", "known", "[I", true)
  | _ => ("BridgeStrip$Laws", "count", "I", false)
def tyX3 : Nat → FieldType := fun k => match k with
  | 0 => .array .int
  | 1 => .array .int
  | 2 => .array .int
  | 3 => .array .boolean
  | 4 => .array .int
  | 5 => .array .int
  | 6 => .array .int
  | _ => .int
abbrev wsX30 : List Cond := u_ws RX3 TX3 8
theorem nmX3 : ∀ a, a < 8 → ∀ b, b < 8 → a ≠ b → (TX3 a).2.1 ≠ (TX3 b).2.1 := by decide +kernel
theorem tyX3_ok : ∀ k, k < 8 → parseFieldDescriptor (TX3 k).2.2.1 = some (tyX3 k) := by decide +kernel
abbrev cX3_init : ByteArray := prog_5_method_1_code
def yX3_init : MethodName := ⟨RX3, "<init>", "()V"⟩
abbrev cX3_hasRoom : ByteArray := prog_5_method_2_code
def yX3_hasRoom : MethodName := ⟨RX3, "hasRoom", "()Z"⟩
abbrev cX3_add : ByteArray := prog_5_method_3_code
def yX3_add : MethodName := ⟨RX3, "add", "(IIIZIII)V"⟩
abbrev cX3_ruling : ByteArray := prog_5_method_4_code
def yX3_ruling : MethodName := ⟨RX3, "ruling", "(IIIII)I"⟩
abbrev cX3_saysTakes : ByteArray := prog_5_method_5_code
def yX3_saysTakes : MethodName := ⟨RX3, "saysTakes", "(I)Z"⟩
abbrev cX3_acceptOn : ByteArray := prog_5_method_6_code
def yX3_acceptOn : MethodName := ⟨RX3, "acceptOn", "(IIII)Z"⟩
abbrev cX3_changeBehind : ByteArray := prog_5_method_7_code
def yX3_changeBehind : MethodName := ⟨RX3, "changeBehind", "(III)I"⟩
abbrev cX3_sooner : ByteArray := prog_5_method_8_code
def yX3_sooner : MethodName := ⟨RX3, "sooner", "(III)I"⟩
def RX4 : String := "BridgeStrip$Ledger"
def TX4 : u_T := fun k => match k with
  | 0 => ("BridgeStrip$Ledger", "name", "[I", true)
  | 1 => ("BridgeStrip$Ledger", "price", "[I", true)
  | 2 => ("BridgeStrip$Ledger", "debt", "[J", true)
  | _ => ("BridgeStrip$Ledger", "count", "I", false)
def tyX4 : Nat → FieldType := fun k => match k with
  | 0 => .array .int
  | 1 => .array .int
  | 2 => .array .long
  | _ => .int
abbrev wsX40 : List Cond := u_ws RX4 TX4 4
theorem nmX4 : ∀ a, a < 4 → ∀ b, b < 4 → a ≠ b → (TX4 a).2.1 ≠ (TX4 b).2.1 := by decide +kernel
theorem tyX4_ok : ∀ k, k < 4 → parseFieldDescriptor (TX4 k).2.2.1 = some (tyX4 k) := by decide +kernel
abbrev cX4_init : ByteArray := prog_6_method_1_code
def yX4_init : MethodName := ⟨RX4, "<init>", "()V"⟩
abbrev cX4_clear : ByteArray := prog_6_method_2_code
def yX4_clear : MethodName := ⟨RX4, "clear", "()V"⟩
abbrev cX4_has : ByteArray := prog_6_method_3_code
def yX4_has : MethodName := ⟨RX4, "has", "(I)Z"⟩
abbrev cX4_add : ByteArray := prog_6_method_4_code
def yX4_add : MethodName := ⟨RX4, "add", "(II)I"⟩
abbrev cX4_charge : ByteArray := prog_6_method_5_code
def yX4_charge : MethodName := ⟨RX4, "charge", "(II)J"⟩
def RX5 : String := "BridgeStrip$Loads"
def TX5 : u_T := fun k => match k with
  | 0 => ("BridgeStrip$Loads", "kind", "[I", true)
  | 1 => ("BridgeStrip$Loads", "office", "[I", true)
  | 2 => ("BridgeStrip$Loads", "coin", "[I", true)
  | 3 => ("BridgeStrip$Loads", "fitting", "[I", true)
  | 4 => ("BridgeStrip$Loads", "roadOpen", "[Z", true)
  | 5 => ("BridgeStrip$Loads", "count", "I", false)
  | _ => ("BridgeStrip$Loads", "bought", "I", false)
def tyX5 : Nat → FieldType := fun k => match k with
  | 0 => .array .int
  | 1 => .array .int
  | 2 => .array .int
  | 3 => .array .int
  | 4 => .array .boolean
  | 5 => .int
  | _ => .int
abbrev wsX50 : List Cond := u_ws RX5 TX5 7
theorem nmX5 : ∀ a, a < 7 → ∀ b, b < 7 → a ≠ b → (TX5 a).2.1 ≠ (TX5 b).2.1 := by decide +kernel
theorem tyX5_ok : ∀ k, k < 7 → parseFieldDescriptor (TX5 k).2.2.1 = some (tyX5 k) := by decide +kernel
abbrev cX5_init : ByteArray := prog_7_method_1_code
def yX5_init : MethodName := ⟨RX5, "<init>", "()V"⟩
abbrev cX5_clear : ByteArray := prog_7_method_2_code
def yX5_clear : MethodName := ⟨RX5, "clear", "()V"⟩
abbrev cX5_add : ByteArray := prog_7_method_3_code
def yX5_add : MethodName := ⟨RX5, "add", "(III)I"⟩
abbrev cX5_buy : ByteArray := prog_7_method_4_code
def yX5_buy : MethodName := ⟨RX5, "buy", "(LBridgeStrip$Book;III)I"⟩
abbrev cX5_findFitting : ByteArray := prog_7_method_5_code
def yX5_findFitting : MethodName := ⟨RX5, "findFitting", "(LBridgeStrip$Book;I)V"⟩
abbrev cX5_costOf : ByteArray := prog_7_method_6_code
def yX5_costOf : MethodName := ⟨RX5, "costOf", "(I)I"⟩
abbrev cX5_carries : ByteArray := prog_7_method_7_code
def yX5_carries : MethodName := ⟨RX5, "carries", "(LBridgeStrip$Book;III)Z"⟩
def RX6 : String := "BridgeStrip$People"
def TX6 : u_T := fun k => match k with
  | 0 => ("BridgeStrip$People", "place", "[I", true)
  | 1 => ("BridgeStrip$People", "papers", "[I", true)
  | 2 => ("BridgeStrip$People", "kind", "[I", true)
  | 3 => ("BridgeStrip$People", "office", "[I", true)
  | 4 => ("BridgeStrip$People", "from", "[I", true)
  | 5 => ("BridgeStrip$People", "to", "[I", true)
  | _ => ("BridgeStrip$People", "count", "I", false)
def tyX6 : Nat → FieldType := fun k => match k with
  | 0 => .array .int
  | 1 => .array .int
  | 2 => .array .int
  | 3 => .array .int
  | 4 => .array .int
  | 5 => .array .int
  | _ => .int
abbrev wsX60 : List Cond := u_ws RX6 TX6 7
theorem nmX6 : ∀ a, a < 7 → ∀ b, b < 7 → a ≠ b → (TX6 a).2.1 ≠ (TX6 b).2.1 := by decide +kernel
theorem tyX6_ok : ∀ k, k < 7 → parseFieldDescriptor (TX6 k).2.2.1 = some (tyX6 k) := by decide +kernel
abbrev cX6_init : ByteArray := prog_8_method_1_code
def yX6_init : MethodName := ⟨RX6, "<init>", "()V"⟩
abbrev cX6_has : ByteArray := prog_8_method_2_code
def yX6_has : MethodName := ⟨RX6, "has", "(I)Z"⟩
abbrev cX6_hasRoom : ByteArray := prog_8_method_3_code
def yX6_hasRoom : MethodName := ⟨RX6, "hasRoom", "()Z"⟩
abbrev cX6_add : ByteArray := prog_8_method_4_code
def yX6_add : MethodName := ⟨RX6, "add", "(I)I"⟩
abbrev cX6_firstPaper : ByteArray := prog_8_method_5_code
def yX6_firstPaper : MethodName := ⟨RX6, "firstPaper", "(I)I"⟩
abbrev cX6_endOfPapers : ByteArray := prog_8_method_6_code
def yX6_endOfPapers : MethodName := ⟨RX6, "endOfPapers", "(I)I"⟩
abbrev cX6_hasPaperRoom : ByteArray := prog_8_method_7_code
def yX6_hasPaperRoom : MethodName := ⟨RX6, "hasPaperRoom", "(I)Z"⟩
abbrev cX6_give : ByteArray := prog_8_method_8_code
def yX6_give : MethodName := ⟨RX6, "give", "(IIIII)V"⟩
abbrev cX6_lasts : ByteArray := prog_8_method_9_code
def yX6_lasts : MethodName := ⟨RX6, "lasts", "(II)Z"⟩
abbrev cX6_hasLasting : ByteArray := prog_8_method_10_code
def yX6_hasLasting : MethodName := ⟨RX6, "hasLasting", "(III)Z"⟩
abbrev cX6_hasGood : ByteArray := prog_8_method_11_code
def yX6_hasGood : MethodName := ⟨RX6, "hasGood", "(IIIILBridgeStrip$Laws;)Z"⟩
abbrev cX6_goodLands : ByteArray := prog_8_method_12_code
def yX6_goodLands : MethodName := ⟨RX6, "goodLands", "(IIILBridgeStrip$Book;)I"⟩
abbrev cX6_dayHad : ByteArray := prog_8_method_13_code
def yX6_dayHad : MethodName := ⟨RX6, "dayHad", "(IIII)I"⟩
abbrev cX6_beginningBehind : ByteArray := prog_8_method_14_code
def yX6_beginningBehind : MethodName := ⟨RX6, "beginningBehind", "(III)I"⟩
def RX7 : String := "BridgeStrip$Reader"
def TX7 : u_T := fun k => match k with
  | 0 => ("BridgeStrip$Reader", "fault", "I", false)
  | 1 => ("BridgeStrip$Reader", "faultPlace", "I", false)
  | 2 => ("BridgeStrip$Reader", "reserved", "[J", true)
  | 3 => ("BridgeStrip$Reader", "text", "[B", true)
  | 4 => ("BridgeStrip$Reader", "end", "I", false)
  | 5 => ("BridgeStrip$Reader", "book", "LBridgeStrip$Book;", false)
  | 6 => ("BridgeStrip$Reader", "knownFrom", "I", false)
  | 7 => ("BridgeStrip$Reader", "lawsAlone", "Z", false)
  | 8 => ("BridgeStrip$Reader", "token", "I", false)
  | 9 => ("BridgeStrip$Reader", "start", "I", false)
  | 10 => ("BridgeStrip$Reader", "next", "I", false)
  | 11 => ("BridgeStrip$Reader", "word", "J", false)
  | _ => ("BridgeStrip$Reader", "whole", "I", false)
def tyX7 : Nat → FieldType := fun k => match k with
  | 0 => .int
  | 1 => .int
  | 2 => .array .long
  | 3 => .array .byte
  | 4 => .int
  | 5 => .object "BridgeStrip$Book"
  | 6 => .int
  | 7 => .boolean
  | 8 => .int
  | 9 => .int
  | 10 => .int
  | 11 => .long
  | _ => .int
abbrev wsX70 : List Cond := u_ws RX7 TX7 13
theorem nmX7 : ∀ a, a < 13 → ∀ b, b < 13 → a ≠ b → (TX7 a).2.1 ≠ (TX7 b).2.1 := by decide +kernel
theorem tyX7_ok : ∀ k, k < 13 → parseFieldDescriptor (TX7 k).2.2.1 = some (tyX7 k) := by decide +kernel
abbrev cX7_init : ByteArray := prog_9_method_1_code
def yX7_init : MethodName := ⟨RX7, "<init>", "([BLBridgeStrip$Book;)V"⟩
abbrev cX7_read : ByteArray := prog_9_method_2_code
def yX7_read : MethodName := ⟨RX7, "read", "(ILBridgeStrip$Book;ZI)Z"⟩
abbrev cX7_readLine : ByteArray := prog_9_method_3_code
def yX7_readLine : MethodName := ⟨RX7, "readLine", "()Z"⟩
abbrev cX7_readName : ByteArray := prog_9_method_4_code
def yX7_readName : MethodName := ⟨RX7, "readName", "(I)Z"⟩
abbrev cX7_readRoad : ByteArray := prog_9_method_5_code
def yX7_readRoad : MethodName := ⟨RX7, "readRoad", "()Z"⟩
abbrev cX7_readPost : ByteArray := prog_9_method_6_code
def yX7_readPost : MethodName := ⟨RX7, "readPost", "()Z"⟩
abbrev cX7_readLaw : ByteArray := prog_9_method_7_code
def yX7_readLaw : MethodName := ⟨RX7, "readLaw", "()Z"⟩
abbrev cX7_readGift : ByteArray := prog_9_method_8_code
def yX7_readGift : MethodName := ⟨RX7, "readGift", "()Z"⟩
abbrev cX7_readCase : ByteArray := prog_9_method_9_code
def yX7_readCase : MethodName := ⟨RX7, "readCase", "()Z"⟩
abbrev cX7_use : ByteArray := prog_9_method_10_code
def yX7_use : MethodName := ⟨RX7, "use", "(I)I"⟩
abbrev cX7_number : ByteArray := prog_9_method_11_code
def yX7_number : MethodName := ⟨RX7, "number", "(II)I"⟩
abbrev cX7_goBy : ByteArray := prog_9_method_12_code
def yX7_goBy : MethodName := ⟨RX7, "goBy", "(Ljava/lang/String;)Z"⟩
abbrev cX7_sees : ByteArray := prog_9_method_13_code
def yX7_sees : MethodName := ⟨RX7, "sees", "(Ljava/lang/String;)Z"⟩
abbrev cX7_isName : ByteArray := prog_9_method_14_code
def yX7_isName : MethodName := ⟨RX7, "isName", "()Z"⟩
abbrev cX7_numberOf : ByteArray := prog_9_method_15_code
def yX7_numberOf : MethodName := ⟨RX7, "numberOf", "(Ljava/lang/String;)J"⟩
abbrev cX7_step : ByteArray := prog_9_method_16_code
def yX7_step : MethodName := ⟨RX7, "step", "()V"⟩
abbrev cX7_stepOverWord : ByteArray := prog_9_method_17_code
def yX7_stepOverWord : MethodName := ⟨RX7, "stepOverWord", "()V"⟩
abbrev cX7_stepOverWhole : ByteArray := prog_9_method_18_code
def yX7_stepOverWhole : MethodName := ⟨RX7, "stepOverWhole", "()V"⟩
abbrev cX7_fail : ByteArray := prog_9_method_19_code
def yX7_fail : MethodName := ⟨RX7, "fail", "(I)Z"⟩
abbrev cX7_failAt : ByteArray := prog_9_method_20_code
def yX7_failAt : MethodName := ⟨RX7, "failAt", "(II)Z"⟩
def RX8 : String := "BridgeStrip$Roads"
def TX8 : u_T := fun k => match k with
  | 0 => ("BridgeStrip$Roads", "one", "[I", true)
  | 1 => ("BridgeStrip$Roads", "other", "[I", true)
  | 2 => ("BridgeStrip$Roads", "days", "[I", true)
  | 3 => ("BridgeStrip$Roads", "coin", "[I", true)
  | 4 => ("BridgeStrip$Roads", "posts", "[I", true)
  | 5 => ("BridgeStrip$Roads", "asked", "[I", true)
  | 6 => ("BridgeStrip$Roads", "asking", "[I", true)
  | _ => ("BridgeStrip$Roads", "count", "I", false)
def tyX8 : Nat → FieldType := fun k => match k with
  | 0 => .array .int
  | 1 => .array .int
  | 2 => .array .int
  | 3 => .array .int
  | 4 => .array .int
  | 5 => .array .int
  | 6 => .array .int
  | _ => .int
abbrev wsX80 : List Cond := u_ws RX8 TX8 8
theorem nmX8 : ∀ a, a < 8 → ∀ b, b < 8 → a ≠ b → (TX8 a).2.1 ≠ (TX8 b).2.1 := by decide +kernel
theorem tyX8_ok : ∀ k, k < 8 → parseFieldDescriptor (TX8 k).2.2.1 = some (tyX8 k) := by decide +kernel
abbrev cX8_init : ByteArray := prog_10_method_1_code
def yX8_init : MethodName := ⟨RX8, "<init>", "()V"⟩
abbrev cX8_hasRoom : ByteArray := prog_10_method_2_code
def yX8_hasRoom : MethodName := ⟨RX8, "hasRoom", "()Z"⟩
abbrev cX8_add : ByteArray := prog_10_method_3_code
def yX8_add : MethodName := ⟨RX8, "add", "(IIII)V"⟩
abbrev cX8_lastHasPostRoom : ByteArray := prog_10_method_4_code
def yX8_lastHasPostRoom : MethodName := ⟨RX8, "lastHasPostRoom", "()Z"⟩
abbrev cX8_addPostToLast : ByteArray := prog_10_method_5_code
def yX8_addPostToLast : MethodName := ⟨RX8, "addPostToLast", "(II)V"⟩
abbrev cX8_across : ByteArray := prog_10_method_6_code
def yX8_across : MethodName := ⟨RX8, "across", "(II)I"⟩
def RX9 : String := "BridgeStrip$Treaty"
def TX9 : u_T := fun k => match k with
  | 0 => ("BridgeStrip$Treaty", "clauses", "[I", true)
  | 1 => ("BridgeStrip$Treaty", "words", "[I", true)
  | 2 => ("BridgeStrip$Treaty", "foes", "[I", true)
  | 3 => ("BridgeStrip$Treaty", "barred", "[I", true)
  | 4 => ("BridgeStrip$Treaty", "tried", "[I", true)
  | 5 => ("BridgeStrip$Treaty", "chosen", "[I", true)
  | 6 => ("BridgeStrip$Treaty", "most", "I", false)
  | 7 => ("BridgeStrip$Treaty", "quarrels", "I", false)
  | _ => ("BridgeStrip$Treaty", "stale", "Z", false)
def tyX9 : Nat → FieldType := fun k => match k with
  | 0 => .array .int
  | 1 => .array .int
  | 2 => .array .int
  | 3 => .array .int
  | 4 => .array .int
  | 5 => .array .int
  | 6 => .int
  | 7 => .int
  | _ => .boolean
abbrev wsX90 : List Cond := u_ws RX9 TX9 9
theorem nmX9 : ∀ a, a < 9 → ∀ b, b < 9 → a ≠ b → (TX9 a).2.1 ≠ (TX9 b).2.1 := by decide +kernel
theorem tyX9_ok : ∀ k, k < 9 → parseFieldDescriptor (TX9 k).2.2.1 = some (tyX9 k) := by decide +kernel
abbrev cX9_init : ByteArray := prog_11_method_1_code
def yX9_init : MethodName := ⟨RX9, "<init>", "()V"⟩
abbrev cX9_clear : ByteArray := prog_11_method_2_code
def yX9_clear : MethodName := ⟨RX9, "clear", "()V"⟩
abbrev cX9_isThing : ByteArray := prog_11_method_3_code
def yX9_isThing : MethodName := ⟨RX9, "isThing", "(I)Z"⟩
abbrev cX9_isWord : ByteArray := prog_11_method_4_code
def yX9_isWord : MethodName := ⟨RX9, "isWord", "(I)Z"⟩
abbrev cX9_hasClauseRoom : ByteArray := prog_11_method_5_code
def yX9_hasClauseRoom : MethodName := ⟨RX9, "hasClauseRoom", "(I)Z"⟩
abbrev cX9_addClause : ByteArray := prog_11_method_6_code
def yX9_addClause : MethodName := ⟨RX9, "addClause", "(II)I"⟩
abbrev cX9_addQuarrel : ByteArray := prog_11_method_7_code
def yX9_addQuarrel : MethodName := ⟨RX9, "addQuarrel", "(II)I"⟩
abbrev cX9_settle : ByteArray := prog_11_method_8_code
def yX9_settle : MethodName := ⟨RX9, "settle", "()V"⟩
abbrev cX9_foesOf : ByteArray := prog_11_method_9_code
def yX9_foesOf : MethodName := ⟨RX9, "foesOf", "(I)I"⟩
abbrev cX9_choose : ByteArray := prog_11_method_10_code
def yX9_choose : MethodName := ⟨RX9, "choose", "(III)V"⟩
abbrev cX9_mayStand : ByteArray := prog_11_method_11_code
def yX9_mayStand : MethodName := ⟨RX9, "mayStand", "(II)Z"⟩
abbrev cX9_countFree : ByteArray := prog_11_method_12_code
def yX9_countFree : MethodName := ⟨RX9, "countFree", "(II)I"⟩
abbrev cX9_keepTried : ByteArray := prog_11_method_13_code
def yX9_keepTried : MethodName := ⟨RX9, "keepTried", "(I)V"⟩
def RX10 : String := "BridgeStrip$Ways"
def TX10 : u_T := fun k => match k with
  | 0 => ("BridgeStrip$Ways", "people", "LBridgeStrip$People;", true)
  | 1 => ("BridgeStrip$Ways", "least", "[I", true)
  | 2 => ("BridgeStrip$Ways", "trail", "[I", true)
  | 3 => ("BridgeStrip$Ways", "by", "[I", true)
  | 4 => ("BridgeStrip$Ways", "settled", "[Z", true)
  | 5 => ("BridgeStrip$Ways", "postMet", "[Z", true)
  | _ => ("BridgeStrip$Ways", "roadOpen", "[Z", true)
def tyX10 : Nat → FieldType := fun k => match k with
  | 0 => .object "BridgeStrip$People"
  | 1 => .array .int
  | 2 => .array .int
  | 3 => .array .int
  | 4 => .array .boolean
  | 5 => .array .boolean
  | _ => .array .boolean
abbrev wsX100 : List Cond := u_ws RX10 TX10 7
theorem nmX10 : ∀ a, a < 7 → ∀ b, b < 7 → a ≠ b → (TX10 a).2.1 ≠ (TX10 b).2.1 := by decide +kernel
theorem tyX10_ok : ∀ k, k < 7 → parseFieldDescriptor (TX10 k).2.2.1 = some (tyX10 k) := by decide +kernel
abbrev cX10_init : ByteArray := prog_12_method_1_code
def yX10_init : MethodName := ⟨RX10, "<init>", "(LBridgeStrip$People;)V"⟩
abbrev cX10_isOpen : ByteArray := prog_12_method_2_code
def yX10_isOpen : MethodName := ⟨RX10, "isOpen", "(LBridgeStrip$Book;III)Z"⟩
abbrev cX10_findDays : ByteArray := prog_12_method_3_code
def yX10_findDays : MethodName := ⟨RX10, "findDays", "(LBridgeStrip$Book;II)V"⟩
abbrev cX10_offerDay : ByteArray := prog_12_method_4_code
def yX10_offerDay : MethodName := ⟨RX10, "offerDay", "(III)V"⟩
abbrev cX10_begin : ByteArray := prog_12_method_5_code
def yX10_begin : MethodName := ⟨RX10, "begin", "(II)V"⟩
abbrev cX10_soonestUnsettled : ByteArray := prog_12_method_6_code
def yX10_soonestUnsettled : MethodName := ⟨RX10, "soonestUnsettled", "(I)I"⟩
abbrev cX10_comingDay : ByteArray := prog_12_method_7_code
def yX10_comingDay : MethodName := ⟨RX10, "comingDay", "(LBridgeStrip$Book;III)I"⟩
abbrev cX10_openingBehind : ByteArray := prog_12_method_8_code
def yX10_openingBehind : MethodName := ⟨RX10, "openingBehind", "(LBridgeStrip$Book;III)I"⟩
abbrev cX10_trace : ByteArray := prog_12_method_9_code
def yX10_trace : MethodName := ⟨RX10, "trace", "(LBridgeStrip$Roads;I)I"⟩
abbrev cX10_findCoins : ByteArray := prog_12_method_10_code
def yX10_findCoins : MethodName := ⟨RX10, "findCoins", "(LBridgeStrip$Book;II)V"⟩
abbrev cX10_lowerEnds : ByteArray := prog_12_method_11_code
def yX10_lowerEnds : MethodName := ⟨RX10, "lowerEnds", "(LBridgeStrip$Roads;I)V"⟩
abbrev cX10_countReach : ByteArray := prog_12_method_12_code
def yX10_countReach : MethodName := ⟨RX10, "countReach", "(LBridgeStrip$Book;II)I"⟩
abbrev cX10_bestOpener : ByteArray := prog_12_method_13_code
def yX10_bestOpener : MethodName := ⟨RX10, "bestOpener", "(LBridgeStrip$Book;II)I"⟩
abbrev cX10_meetPosts : ByteArray := prog_12_method_14_code
def yX10_meetPosts : MethodName := ⟨RX10, "meetPosts", "(LBridgeStrip$Book;II)V"⟩
abbrev cX10_openRoads : ByteArray := prog_12_method_15_code
def yX10_openRoads : MethodName := ⟨RX10, "openRoads", "(LBridgeStrip$Book;III)V"⟩
abbrev cX10_reachWith : ByteArray := prog_12_method_16_code
def yX10_reachWith : MethodName := ⟨RX10, "reachWith", "(LBridgeStrip$Book;IIII)I"⟩
abbrev cX10_spread : ByteArray := prog_12_method_17_code
def yX10_spread : MethodName := ⟨RX10, "spread", "(LBridgeStrip$Book;[ZI)I"⟩
def RX11 : String := "BridgeStrip"
def TX11 : u_T := fun k => match k with
  | 0 => ("BridgeStrip", "tape", "[B", true)
  | 1 => ("BridgeStrip", "tapeLength", "I", false)
  | 2 => ("BridgeStrip", "now", "LBridgeStrip$Book;", false)
  | 3 => ("BridgeStrip", "spare", "LBridgeStrip$Book;", false)
  | 4 => ("BridgeStrip", "reader", "LBridgeStrip$Reader;", true)
  | 5 => ("BridgeStrip", "hasBook", "Z", false)
  | 6 => ("BridgeStrip", "today", "I", false)
  | 7 => ("BridgeStrip", "people", "LBridgeStrip$People;", true)
  | 8 => ("BridgeStrip", "ways", "LBridgeStrip$Ways;", true)
  | 9 => ("BridgeStrip", "loads", "LBridgeStrip$Loads;", true)
  | 10 => ("BridgeStrip", "court", "LBridgeStrip$Court;", true)
  | 11 => ("BridgeStrip", "treaty", "LBridgeStrip$Treaty;", true)
  | 12 => ("BridgeStrip", "ledger", "LBridgeStrip$Ledger;", true)
  | 13 => ("BridgeStrip", "trouble", "I", false)
  | _ => ("BridgeStrip", "latestFault", "I", false)
def tyX11 : Nat → FieldType := fun k => match k with
  | 0 => .array .byte
  | 1 => .int
  | 2 => .object "BridgeStrip$Book"
  | 3 => .object "BridgeStrip$Book"
  | 4 => .object "BridgeStrip$Reader"
  | 5 => .boolean
  | 6 => .int
  | 7 => .object "BridgeStrip$People"
  | 8 => .object "BridgeStrip$Ways"
  | 9 => .object "BridgeStrip$Loads"
  | 10 => .object "BridgeStrip$Court"
  | 11 => .object "BridgeStrip$Treaty"
  | 12 => .object "BridgeStrip$Ledger"
  | 13 => .int
  | _ => .int
abbrev wsX110 : List Cond := u_ws RX11 TX11 15
theorem nmX11 : ∀ a, a < 15 → ∀ b, b < 15 → a ≠ b → (TX11 a).2.1 ≠ (TX11 b).2.1 := by decide +kernel
theorem tyX11_ok : ∀ k, k < 15 → parseFieldDescriptor (TX11 k).2.2.1 = some (tyX11 k) := by decide +kernel
abbrev cX11_init : ByteArray := prog_1_method_1_code
def yX11_init : MethodName := ⟨RX11, "<init>", "()V"⟩
abbrev cX11_feed : ByteArray := prog_1_method_2_code
def yX11_feed : MethodName := ⟨RX11, "feed", "(IIIII)I"⟩
abbrev cX11_putBytes : ByteArray := prog_1_method_3_code
def yX11_putBytes : MethodName := ⟨RX11, "putBytes", "(I)V"⟩
abbrev cX11_book : ByteArray := prog_1_method_4_code
def yX11_book : MethodName := ⟨RX11, "book", "(I)I"⟩
abbrev cX11_beginAnew : ByteArray := prog_1_method_5_code
def yX11_beginAnew : MethodName := ⟨RX11, "beginAnew", "()V"⟩
abbrev cX11_laws : ByteArray := prog_1_method_6_code
def yX11_laws : MethodName := ⟨RX11, "laws", "(I)I"⟩
abbrev cX11_fault : ByteArray := prog_1_method_7_code
def yX11_fault : MethodName := ⟨RX11, "fault", "()I"⟩
abbrev cX11_where : ByteArray := prog_1_method_8_code
def yX11_where : MethodName := ⟨RX11, "where", "()I"⟩
abbrev cX11_pass : ByteArray := prog_1_method_9_code
def yX11_pass : MethodName := ⟨RX11, "pass", "(I)I"⟩
abbrev cX11_takes : ByteArray := prog_1_method_10_code
def yX11_takes : MethodName := ⟨RX11, "takes", "(IIIII)I"⟩
abbrev cX11_why : ByteArray := prog_1_method_11_code
def yX11_why : MethodName := ⟨RX11, "why", "(IIIII)I"⟩
abbrev cX11_rulingRefusal : ByteArray := prog_1_method_12_code
def yX11_rulingRefusal : MethodName := ⟨RX11, "rulingRefusal", "(IIIII)I"⟩
abbrev cX11_person : ByteArray := prog_1_method_13_code
def yX11_person : MethodName := ⟨RX11, "person", "(I)I"⟩
abbrev cX11_paper : ByteArray := prog_1_method_14_code
def yX11_paper : MethodName := ⟨RX11, "paper", "(IIIII)I"⟩
abbrev cX11_held : ByteArray := prog_1_method_15_code
def yX11_held : MethodName := ⟨RX11, "held", "(III)I"⟩
abbrev cX11_move : ByteArray := prog_1_method_16_code
def yX11_move : MethodName := ⟨RX11, "move", "(II)Z"⟩
abbrev cX11_is : ByteArray := prog_1_method_17_code
def yX11_is : MethodName := ⟨RX11, "is", "(III)I"⟩
abbrev cX11_nowhere : ByteArray := prog_1_method_18_code
def yX11_nowhere : MethodName := ⟨RX11, "nowhere", "(II)I"⟩
abbrev cX11_open : ByteArray := prog_1_method_19_code
def yX11_open : MethodName := ⟨RX11, "open", "(III)I"⟩
abbrev cX11_first : ByteArray := prog_1_method_20_code
def yX11_first : MethodName := ⟨RX11, "first", "(III)I"⟩
abbrev cX11_cheap : ByteArray := prog_1_method_21_code
def yX11_cheap : MethodName := ⟨RX11, "cheap", "(III)I"⟩
abbrev cX11_travelRefusal : ByteArray := prog_1_method_22_code
def yX11_travelRefusal : MethodName := ⟨RX11, "travelRefusal", "(III)I"⟩
abbrev cX11_grantWay : ByteArray := prog_1_method_23_code
def yX11_grantWay : MethodName := ⟨RX11, "grantWay", "(I)I"⟩
abbrev cX11_reach : ByteArray := prog_1_method_24_code
def yX11_reach : MethodName := ⟨RX11, "reach", "(II)I"⟩
abbrev cX11_opener : ByteArray := prog_1_method_25_code
def yX11_opener : MethodName := ⟨RX11, "opener", "(II)I"⟩
abbrev cX11_personDayRefusal : ByteArray := prog_1_method_26_code
def yX11_personDayRefusal : MethodName := ⟨RX11, "personDayRefusal", "(II)I"⟩
abbrev cX11_stamp : ByteArray := prog_1_method_27_code
def yX11_stamp : MethodName := ⟨RX11, "stamp", "(III)I"⟩
abbrev cX11_least : ByteArray := prog_1_method_28_code
def yX11_least : MethodName := ⟨RX11, "least", "(III)I"⟩
abbrev cX11_bought : ByteArray := prog_1_method_29_code
def yX11_bought : MethodName := ⟨RX11, "bought", "()I"⟩
abbrev cX11_child : ByteArray := prog_1_method_30_code
def yX11_child : MethodName := ⟨RX11, "child", "(I)I"⟩
abbrev cX11_judge : ByteArray := prog_1_method_31_code
def yX11_judge : MethodName := ⟨RX11, "judge", "(IIIII)I"⟩
abbrev cX11_binds : ByteArray := prog_1_method_32_code
def yX11_binds : MethodName := ⟨RX11, "binds", "(IIII)I"⟩
abbrev cX11_unlike : ByteArray := prog_1_method_33_code
def yX11_unlike : MethodName := ⟨RX11, "unlike", "(III)I"⟩
abbrev cX11_clause : ByteArray := prog_1_method_34_code
def yX11_clause : MethodName := ⟨RX11, "clause", "(II)I"⟩
abbrev cX11_quarrel : ByteArray := prog_1_method_35_code
def yX11_quarrel : MethodName := ⟨RX11, "quarrel", "(II)I"⟩
abbrev cX11_signed : ByteArray := prog_1_method_36_code
def yX11_signed : MethodName := ⟨RX11, "signed", "()I"⟩
abbrev cX11_signs : ByteArray := prog_1_method_37_code
def yX11_signs : MethodName := ⟨RX11, "signs", "(I)I"⟩
abbrev cX11_contract : ByteArray := prog_1_method_38_code
def yX11_contract : MethodName := ⟨RX11, "contract", "(II)I"⟩
abbrev cX11_burn : ByteArray := prog_1_method_39_code
def yX11_burn : MethodName := ⟨RX11, "burn", "(II)J"⟩
abbrev cX11_rename : ByteArray := prog_1_method_40_code
def yX11_rename : MethodName := ⟨RX11, "rename", "(II)Z"⟩
abbrev cX11_owed : ByteArray := prog_1_method_41_code
def yX11_owed : MethodName := ⟨RX11, "owed", "(I)J"⟩
abbrev cX11_led : ByteArray := prog_1_method_42_code
def yX11_led : MethodName := ⟨RX11, "led", "(IIII)I"⟩
abbrev cX11_count : ByteArray := prog_1_method_43_code
def yX11_count : MethodName := ⟨RX11, "count", "(I)I"⟩
abbrev cX11_trouble : ByteArray := prog_1_method_44_code
def yX11_trouble : MethodName := ⟨RX11, "trouble", "()I"⟩
abbrev cX11_grant : ByteArray := prog_1_method_45_code
def yX11_grant : MethodName := ⟨RX11, "grant", "(I)I"⟩
abbrev cX11_refuse : ByteArray := prog_1_method_46_code
def yX11_refuse : MethodName := ⟨RX11, "refuse", "(I)I"⟩
abbrev cX11_decline : ByteArray := prog_1_method_47_code
def yX11_decline : MethodName := ⟨RX11, "decline", "(I)Z"⟩
abbrev cX11_isPaperSort : ByteArray := prog_1_method_48_code
def yX11_isPaperSort : MethodName := ⟨RX11, "isPaperSort", "(II)Z"⟩
abbrev cX11_isDay : ByteArray := prog_1_method_49_code
def yX11_isDay : MethodName := ⟨RX11, "isDay", "(I)Z"⟩
def RX12 : String := "BridgeStripModel$Book"
def TX12 : u_T := fun k => match k with
  | 0 => ("BridgeStripModel$Book", "name", "[J", true)
  | 1 => ("BridgeStripModel$Book", "sort", "[I", true)
  | 2 => ("BridgeStripModel$Book", "number", "[I", true)
  | 3 => ("BridgeStripModel$Book", "many", "[I", true)
  | 4 => ("BridgeStripModel$Book", "names", "I", false)
  | 5 => ("BridgeStripModel$Book", "roads", "I", false)
  | 6 => ("BridgeStripModel$Book", "laws", "I", false)
  | 7 => ("BridgeStripModel$Book", "gifts", "I", false)
  | 8 => ("BridgeStripModel$Book", "one", "[I", true)
  | 9 => ("BridgeStripModel$Book", "other", "[I", true)
  | 10 => ("BridgeStripModel$Book", "days", "[I", true)
  | 11 => ("BridgeStripModel$Book", "coin", "[I", true)
  | 12 => ("BridgeStripModel$Book", "posts", "[I", true)
  | 13 => ("BridgeStripModel$Book", "postKind", "[I", true)
  | 14 => ("BridgeStripModel$Book", "postLand", "[I", true)
  | 15 => ("BridgeStripModel$Book", "lawLand", "[I", true)
  | 16 => ("BridgeStripModel$Book", "lawKind", "[I", true)
  | 17 => ("BridgeStripModel$Book", "lawOffice", "[I", true)
  | 18 => ("BridgeStripModel$Book", "since", "[I", true)
  | 19 => ("BridgeStripModel$Book", "until", "[I", true)
  | 20 => ("BridgeStripModel$Book", "knownFrom", "[I", true)
  | 21 => ("BridgeStripModel$Book", "isTaking", "[Z", true)
  | 22 => ("BridgeStripModel$Book", "giftKind", "[I", true)
  | 23 => ("BridgeStripModel$Book", "giftOffice", "[I", true)
  | 24 => ("BridgeStripModel$Book", "after", "[I", true)
  | 25 => ("BridgeStripModel$Book", "cases", "[I", true)
  | 26 => ("BridgeStripModel$Book", "caseSort", "[I", true)
  | 27 => ("BridgeStripModel$Book", "caseOne", "[I", true)
  | _ => ("BridgeStripModel$Book", "caseOffice", "[I", true)
def tyX12 : Nat → FieldType := fun k => match k with
  | 0 => .array .long
  | 1 => .array .int
  | 2 => .array .int
  | 3 => .array .int
  | 4 => .int
  | 5 => .int
  | 6 => .int
  | 7 => .int
  | 8 => .array .int
  | 9 => .array .int
  | 10 => .array .int
  | 11 => .array .int
  | 12 => .array .int
  | 13 => .array .int
  | 14 => .array .int
  | 15 => .array .int
  | 16 => .array .int
  | 17 => .array .int
  | 18 => .array .int
  | 19 => .array .int
  | 20 => .array .int
  | 21 => .array .boolean
  | 22 => .array .int
  | 23 => .array .int
  | 24 => .array .int
  | 25 => .array .int
  | 26 => .array .int
  | 27 => .array .int
  | _ => .array .int
abbrev wsX120 : List Cond := u_ws RX12 TX12 29
theorem nmX12 : ∀ a, a < 29 → ∀ b, b < 29 → a ≠ b → (TX12 a).2.1 ≠ (TX12 b).2.1 := by decide +kernel
theorem tyX12_ok : ∀ k, k < 29 → parseFieldDescriptor (TX12 k).2.2.1 = some (tyX12 k) := by decide +kernel
abbrev cX12_init : ByteArray := prog_15_method_1_code
def yX12_init : MethodName := ⟨RX12, "<init>", "()V"⟩
abbrev cX12_find : ByteArray := prog_15_method_2_code
def yX12_find : MethodName := ⟨RX12, "find", "(J)I"⟩
def RX13 : String := "BridgeStripModel$Stop"
def TX13 : u_T := fun k => match k with
  | 0 => ("java/lang/Throwable", "cause", "Ljava/lang/Throwable;", false)
  | 1 => ("java/lang/Throwable", "stackTrace", "[Ljava/lang/StackTraceElement;", false)
  | 2 => ("java/lang/Throwable", "suppressedExceptions", "Ljava/util/List;", false)
  | 3 => ("java/lang/Throwable", "detailMessage", "Ljava/lang/String;", false)
  | 4 => ("java/lang/Throwable", "backtrace", "Ljava/lang/Object;", false)
  | 5 => ("java/lang/Throwable", "depth", "I", false)
  | 6 => ("BridgeStripModel$Stop", "kind", "I", false)
  | _ => ("BridgeStripModel$Stop", "place", "I", false)
def tyX13 : Nat → FieldType := fun k => match k with
  | 0 => .object "java/lang/Throwable"
  | 1 => .array (.object "java/lang/StackTraceElement")
  | 2 => .object "java/util/List"
  | 3 => .object "java/lang/String"
  | 4 => .object "java/lang/Object"
  | 5 => .int
  | 6 => .int
  | _ => .int
abbrev wsX130 : List Cond := u_ws RX13 TX13 8
theorem nmX13 : ∀ a, a < 8 → ∀ b, b < 8 → a ≠ b → (TX13 a).2.1 ≠ (TX13 b).2.1 := by decide +kernel
theorem tyX13_ok : ∀ k, k < 8 → parseFieldDescriptor (TX13 k).2.2.1 = some (tyX13 k) := by decide +kernel
abbrev cX13_init : ByteArray := prog_16_method_1_code
def yX13_init : MethodName := ⟨RX13, "<init>", "()V"⟩
def RX14 : String := "BridgeStripModel"
def TX14 : u_T := fun k => match k with
  | 0 => ("BridgeStripModel", "thrown", "I", false)
  | 1 => ("BridgeStripModel", "trouble", "I", false)
  | 2 => ("BridgeStripModel", "where", "I", false)
  | 3 => ("BridgeStripModel", "fault", "I", false)
  | 4 => ("BridgeStripModel", "book", "LBridgeStripModel$Book;", false)
  | 5 => ("BridgeStripModel", "fresh", "LBridgeStripModel$Book;", false)
  | 6 => ("BridgeStripModel", "stop", "LBridgeStripModel$Stop;", true)
  | 7 => ("BridgeStripModel", "tape", "[B", true)
  | 8 => ("BridgeStripModel", "taped", "I", false)
  | 9 => ("BridgeStripModel", "size", "I", false)
  | 10 => ("BridgeStripModel", "at", "I", false)
  | 11 => ("BridgeStripModel", "sort", "I", false)
  | 12 => ("BridgeStripModel", "place", "I", false)
  | 13 => ("BridgeStripModel", "number", "I", false)
  | 14 => ("BridgeStripModel", "word", "J", false)
  | 15 => ("BridgeStripModel", "today", "I", false)
  | 16 => ("BridgeStripModel", "persons", "I", false)
  | 17 => ("BridgeStripModel", "placeOf", "[I", true)
  | 18 => ("BridgeStripModel", "papers", "[I", true)
  | 19 => ("BridgeStripModel", "paperKind", "[I", true)
  | 20 => ("BridgeStripModel", "paperOffice", "[I", true)
  | 21 => ("BridgeStripModel", "paperFrom", "[I", true)
  | 22 => ("BridgeStripModel", "paperTo", "[I", true)
  | 23 => ("BridgeStripModel", "owes", "[J", true)
  | 24 => ("BridgeStripModel", "moreKind", "I", false)
  | 25 => ("BridgeStripModel", "moreOffice", "I", false)
  | 26 => ("BridgeStripModel", "early", "[I", true)
  | 27 => ("BridgeStripModel", "isPast", "[Z", true)
  | 28 => ("BridgeStripModel", "coins", "[I", true)
  | 29 => ("BridgeStripModel", "stamps", "I", false)
  | 30 => ("BridgeStripModel", "bought", "I", false)
  | 31 => ("BridgeStripModel", "stampKind", "[I", true)
  | 32 => ("BridgeStripModel", "stampOffice", "[I", true)
  | 33 => ("BridgeStripModel", "stampCoin", "[I", true)
  | 34 => ("BridgeStripModel", "postTakes", "[I", true)
  | 35 => ("BridgeStripModel", "judgments", "I", false)
  | 36 => ("BridgeStripModel", "judgeKind", "[I", true)
  | 37 => ("BridgeStripModel", "judgeOffice", "[I", true)
  | 38 => ("BridgeStripModel", "judged", "[I", true)
  | 39 => ("BridgeStripModel", "matterOf", "[I", true)
  | 40 => ("BridgeStripModel", "valueOf", "[I", true)
  | 41 => ("BridgeStripModel", "judgedFrom", "[I", true)
  | 42 => ("BridgeStripModel", "quarrels", "I", false)
  | 43 => ("BridgeStripModel", "clauses", "[I", true)
  | 44 => ("BridgeStripModel", "words", "[I", true)
  | 45 => ("BridgeStripModel", "quarrelOne", "[I", true)
  | 46 => ("BridgeStripModel", "quarrelTwo", "[I", true)
  | 47 => ("BridgeStripModel", "pick", "[I", true)
  | 48 => ("BridgeStripModel", "best", "[I", true)
  | 49 => ("BridgeStripModel", "contracts", "I", false)
  | 50 => ("BridgeStripModel", "named", "[I", true)
  | 51 => ("BridgeStripModel", "price", "[I", true)
  | _ => ("BridgeStripModel", "back", "[I", true)
def tyX14 : Nat → FieldType := fun k => match k with
  | 0 => .int
  | 1 => .int
  | 2 => .int
  | 3 => .int
  | 4 => .object "BridgeStripModel$Book"
  | 5 => .object "BridgeStripModel$Book"
  | 6 => .object "BridgeStripModel$Stop"
  | 7 => .array .byte
  | 8 => .int
  | 9 => .int
  | 10 => .int
  | 11 => .int
  | 12 => .int
  | 13 => .int
  | 14 => .long
  | 15 => .int
  | 16 => .int
  | 17 => .array .int
  | 18 => .array .int
  | 19 => .array .int
  | 20 => .array .int
  | 21 => .array .int
  | 22 => .array .int
  | 23 => .array .long
  | 24 => .int
  | 25 => .int
  | 26 => .array .int
  | 27 => .array .boolean
  | 28 => .array .int
  | 29 => .int
  | 30 => .int
  | 31 => .array .int
  | 32 => .array .int
  | 33 => .array .int
  | 34 => .array .int
  | 35 => .int
  | 36 => .array .int
  | 37 => .array .int
  | 38 => .array .int
  | 39 => .array .int
  | 40 => .array .int
  | 41 => .array .int
  | 42 => .int
  | 43 => .array .int
  | 44 => .array .int
  | 45 => .array .int
  | 46 => .array .int
  | 47 => .array .int
  | 48 => .array .int
  | 49 => .int
  | 50 => .array .int
  | 51 => .array .int
  | _ => .array .int
abbrev wsX140 : List Cond := u_ws RX14 TX14 53
theorem nmX14 : ∀ a, a < 53 → ∀ b, b < 53 → a ≠ b → (TX14 a).2.1 ≠ (TX14 b).2.1 := by decide +kernel
theorem tyX14_ok : ∀ k, k < 53 → parseFieldDescriptor (TX14 k).2.2.1 = some (tyX14 k) := by decide +kernel
abbrev cX14_init : ByteArray := prog_14_method_1_code
def yX14_init : MethodName := ⟨RX14, "<init>", "()V"⟩
abbrev cX14_thrown : ByteArray := prog_14_method_2_code
def yX14_thrown : MethodName := ⟨RX14, "thrown", "()I"⟩
abbrev cX14_refused : ByteArray := prog_14_method_3_code
def yX14_refused : MethodName := ⟨RX14, "refused", "(I)I"⟩
abbrev cX14_denied : ByteArray := prog_14_method_4_code
def yX14_denied : MethodName := ⟨RX14, "denied", "(I)Z"⟩
abbrev cX14_done : ByteArray := prog_14_method_5_code
def yX14_done : MethodName := ⟨RX14, "done", "(I)I"⟩
abbrev cX14_granted : ByteArray := prog_14_method_6_code
def yX14_granted : MethodName := ⟨RX14, "granted", "()Z"⟩
abbrev cX14_in : ByteArray := prog_14_method_7_code
def yX14_in : MethodName := ⟨RX14, "in", "(III)Z"⟩
abbrev cX14_stop : ByteArray := prog_14_method_8_code
def yX14_stop : MethodName := ⟨RX14, "stop", "(I)LBridgeStripModel$Stop;"⟩
abbrev cX14_byteAt : ByteArray := prog_14_method_9_code
def yX14_byteAt : MethodName := ⟨RX14, "byteAt", "(I)I"⟩
abbrev cX14_isLetter : ByteArray := prog_14_method_10_code
def yX14_isLetter : MethodName := ⟨RX14, "isLetter", "(I)Z"⟩
abbrev cX14_isDigit : ByteArray := prog_14_method_11_code
def yX14_isDigit : MethodName := ⟨RX14, "isDigit", "(I)Z"⟩
abbrev cX14_wordOf : ByteArray := prog_14_method_12_code
def yX14_wordOf : MethodName := ⟨RX14, "wordOf", "(Ljava/lang/String;)J"⟩
abbrev cX14_next : ByteArray := prog_14_method_13_code
def yX14_next : MethodName := ⟨RX14, "next", "()V"⟩
abbrev cX14_isWord : ByteArray := prog_14_method_14_code
def yX14_isWord : MethodName := ⟨RX14, "isWord", "(Ljava/lang/String;)Z"⟩
abbrev cX14_isName : ByteArray := prog_14_method_15_code
def yX14_isName : MethodName := ⟨RX14, "isName", "()Z"⟩
abbrev cX14_needWord : ByteArray := prog_14_method_16_code
def yX14_needWord : MethodName := ⟨RX14, "needWord", "(Ljava/lang/String;)V"⟩
abbrev cX14_readWhole : ByteArray := prog_14_method_17_code
def yX14_readWhole : MethodName := ⟨RX14, "readWhole", "(II)I"⟩
abbrev cX14_readTold : ByteArray := prog_14_method_18_code
def yX14_readTold : MethodName := ⟨RX14, "readTold", "(I)I"⟩
abbrev cX14_readBook : ByteArray := prog_14_method_19_code
def yX14_readBook : MethodName := ⟨RX14, "readBook", "()V"⟩
abbrev cX14_readLaws : ByteArray := prog_14_method_20_code
def yX14_readLaws : MethodName := ⟨RX14, "readLaws", "()V"⟩
abbrev cX14_readThing : ByteArray := prog_14_method_21_code
def yX14_readThing : MethodName := ⟨RX14, "readThing", "(II)V"⟩
abbrev cX14_readRoad : ByteArray := prog_14_method_22_code
def yX14_readRoad : MethodName := ⟨RX14, "readRoad", "()V"⟩
abbrev cX14_readLaw : ByteArray := prog_14_method_23_code
def yX14_readLaw : MethodName := ⟨RX14, "readLaw", "(I)V"⟩
abbrev cX14_readGift : ByteArray := prog_14_method_24_code
def yX14_readGift : MethodName := ⟨RX14, "readGift", "()V"⟩
abbrev cX14_readCase : ByteArray := prog_14_method_25_code
def yX14_readCase : MethodName := ⟨RX14, "readCase", "(I)V"⟩
abbrev cX14_feed : ByteArray := prog_14_method_26_code
def yX14_feed : MethodName := ⟨RX14, "feed", "(IIIII)I"⟩
abbrev cX14_begins : ByteArray := prog_14_method_27_code
def yX14_begins : MethodName := ⟨RX14, "begins", "(I)V"⟩
abbrev cX14_wrong : ByteArray := prog_14_method_28_code
def yX14_wrong : MethodName := ⟨RX14, "wrong", "(LBridgeStripModel$Stop;)I"⟩
abbrev cX14_book : ByteArray := prog_14_method_29_code
def yX14_book : MethodName := ⟨RX14, "book", "(I)I"⟩
abbrev cX14_laws : ByteArray := prog_14_method_30_code
def yX14_laws : MethodName := ⟨RX14, "laws", "(I)I"⟩
abbrev cX14_fault : ByteArray := prog_14_method_31_code
def yX14_fault : MethodName := ⟨RX14, "fault", "()I"⟩
abbrev cX14_where : ByteArray := prog_14_method_32_code
def yX14_where : MethodName := ⟨RX14, "where", "()I"⟩
abbrev cX14_isDay : ByteArray := prog_14_method_33_code
def yX14_isDay : MethodName := ⟨RX14, "isDay", "(I)Z"⟩
abbrev cX14_isOf : ByteArray := prog_14_method_34_code
def yX14_isOf : MethodName := ⟨RX14, "isOf", "(II)Z"⟩
abbrev cX14_pass : ByteArray := prog_14_method_35_code
def yX14_pass : MethodName := ⟨RX14, "pass", "(I)I"⟩
abbrev cX14_lawOf : ByteArray := prog_14_method_36_code
def yX14_lawOf : MethodName := ⟨RX14, "lawOf", "(IIIII)I"⟩
abbrev cX14_isTaken : ByteArray := prog_14_method_37_code
def yX14_isTaken : MethodName := ⟨RX14, "isTaken", "(IIII)Z"⟩
abbrev cX14_takes : ByteArray := prog_14_method_38_code
def yX14_takes : MethodName := ⟨RX14, "takes", "(IIIII)I"⟩
abbrev cX14_why : ByteArray := prog_14_method_39_code
def yX14_why : MethodName := ⟨RX14, "why", "(IIIII)I"⟩
abbrev cX14_isPerson : ByteArray := prog_14_method_40_code
def yX14_isPerson : MethodName := ⟨RX14, "isPerson", "(I)Z"⟩
abbrev cX14_comes : ByteArray := prog_14_method_41_code
def yX14_comes : MethodName := ⟨RX14, "comes", "(I)I"⟩
abbrev cX14_person : ByteArray := prog_14_method_42_code
def yX14_person : MethodName := ⟨RX14, "person", "(I)I"⟩
abbrev cX14_gives : ByteArray := prog_14_method_43_code
def yX14_gives : MethodName := ⟨RX14, "gives", "(IIIII)V"⟩
abbrev cX14_paper : ByteArray := prog_14_method_44_code
def yX14_paper : MethodName := ⟨RX14, "paper", "(IIIII)I"⟩
abbrev cX14_held : ByteArray := prog_14_method_45_code
def yX14_held : MethodName := ⟨RX14, "held", "(III)I"⟩
abbrev cX14_move : ByteArray := prog_14_method_46_code
def yX14_move : MethodName := ⟨RX14, "move", "(II)Z"⟩
abbrev cX14_has : ByteArray := prog_14_method_47_code
def yX14_has : MethodName := ⟨RX14, "has", "(IIII)Z"⟩
abbrev cX14_goodIn : ByteArray := prog_14_method_48_code
def yX14_goodIn : MethodName := ⟨RX14, "goodIn", "(III)I"⟩
abbrev cX14_is : ByteArray := prog_14_method_49_code
def yX14_is : MethodName := ⟨RX14, "is", "(III)I"⟩
abbrev cX14_nowhere : ByteArray := prog_14_method_50_code
def yX14_nowhere : MethodName := ⟨RX14, "nowhere", "(II)I"⟩
abbrev cX14_isOpen : ByteArray := prog_14_method_51_code
def yX14_isOpen : MethodName := ⟨RX14, "isOpen", "(III)Z"⟩
abbrev cX14_open : ByteArray := prog_14_method_52_code
def yX14_open : MethodName := ⟨RX14, "open", "(III)I"⟩
abbrev cX14_end : ByteArray := prog_14_method_53_code
def yX14_end : MethodName := ⟨RX14, "end", "(IZ)I"⟩
abbrev cX14_comesBy : ByteArray := prog_14_method_54_code
def yX14_comesBy : MethodName := ⟨RX14, "comesBy", "(III)I"⟩
abbrev cX14_goes : ByteArray := prog_14_method_55_code
def yX14_goes : MethodName := ⟨RX14, "goes", "(II)V"⟩
abbrev cX14_first : ByteArray := prog_14_method_56_code
def yX14_first : MethodName := ⟨RX14, "first", "(III)I"⟩
abbrev cX14_pays : ByteArray := prog_14_method_57_code
def yX14_pays : MethodName := ⟨RX14, "pays", "(II)V"⟩
abbrev cX14_cheap : ByteArray := prog_14_method_58_code
def yX14_cheap : MethodName := ⟨RX14, "cheap", "(III)I"⟩
abbrev cX14_reached : ByteArray := prog_14_method_59_code
def yX14_reached : MethodName := ⟨RX14, "reached", "(II)I"⟩
abbrev cX14_reach : ByteArray := prog_14_method_60_code
def yX14_reach : MethodName := ⟨RX14, "reach", "(II)I"⟩
abbrev cX14_opener : ByteArray := prog_14_method_61_code
def yX14_opener : MethodName := ⟨RX14, "opener", "(II)I"⟩
abbrev cX14_stamp : ByteArray := prog_14_method_62_code
def yX14_stamp : MethodName := ⟨RX14, "stamp", "(III)I"⟩
abbrev cX14_stampsOf : ByteArray := prog_14_method_63_code
def yX14_stampsOf : MethodName := ⟨RX14, "stampsOf", "(II)I"⟩
abbrev cX14_isCarried : ByteArray := prog_14_method_64_code
def yX14_isCarried : MethodName := ⟨RX14, "isCarried", "(III)Z"⟩
abbrev cX14_bits : ByteArray := prog_14_method_65_code
def yX14_bits : MethodName := ⟨RX14, "bits", "(I)I"⟩
abbrev cX14_least : ByteArray := prog_14_method_66_code
def yX14_least : MethodName := ⟨RX14, "least", "(III)I"⟩
abbrev cX14_bought : ByteArray := prog_14_method_67_code
def yX14_bought : MethodName := ⟨RX14, "bought", "()I"⟩
abbrev cX14_hasFrom : ByteArray := prog_14_method_68_code
def yX14_hasFrom : MethodName := ⟨RX14, "hasFrom", "(III)I"⟩
abbrev cX14_lastsNow : ByteArray := prog_14_method_69_code
def yX14_lastsNow : MethodName := ⟨RX14, "lastsNow", "(III)Z"⟩
abbrev cX14_giftDay : ByteArray := prog_14_method_70_code
def yX14_giftDay : MethodName := ⟨RX14, "giftDay", "(III)I"⟩
abbrev cX14_child : ByteArray := prog_14_method_71_code
def yX14_child : MethodName := ⟨RX14, "child", "(I)I"⟩
abbrev cX14_judge : ByteArray := prog_14_method_72_code
def yX14_judge : MethodName := ⟨RX14, "judge", "(IIIII)I"⟩
abbrev cX14_binding : ByteArray := prog_14_method_73_code
def yX14_binding : MethodName := ⟨RX14, "binding", "(IIII)I"⟩
abbrev cX14_binds : ByteArray := prog_14_method_74_code
def yX14_binds : MethodName := ⟨RX14, "binds", "(IIII)I"⟩
abbrev cX14_unlike : ByteArray := prog_14_method_75_code
def yX14_unlike : MethodName := ⟨RX14, "unlike", "(III)I"⟩
abbrev cX14_clause : ByteArray := prog_14_method_76_code
def yX14_clause : MethodName := ⟨RX14, "clause", "(II)I"⟩
abbrev cX14_quarrel : ByteArray := prog_14_method_77_code
def yX14_quarrel : MethodName := ⟨RX14, "quarrel", "(II)I"⟩
abbrev cX14_isQuiet : ByteArray := prog_14_method_78_code
def yX14_isQuiet : MethodName := ⟨RX14, "isQuiet", "()Z"⟩
abbrev cX14_turns : ByteArray := prog_14_method_79_code
def yX14_turns : MethodName := ⟨RX14, "turns", "()Z"⟩
abbrev cX14_best : ByteArray := prog_14_method_80_code
def yX14_best : MethodName := ⟨RX14, "best", "()I"⟩
abbrev cX14_signed : ByteArray := prog_14_method_81_code
def yX14_signed : MethodName := ⟨RX14, "signed", "()I"⟩
abbrev cX14_signs : ByteArray := prog_14_method_82_code
def yX14_signs : MethodName := ⟨RX14, "signs", "(I)I"⟩
abbrev cX14_contract : ByteArray := prog_14_method_83_code
def yX14_contract : MethodName := ⟨RX14, "contract", "(II)I"⟩
abbrev cX14_burn : ByteArray := prog_14_method_84_code
def yX14_burn : MethodName := ⟨RX14, "burn", "(II)J"⟩
abbrev cX14_rename : ByteArray := prog_14_method_85_code
def yX14_rename : MethodName := ⟨RX14, "rename", "(II)Z"⟩
abbrev cX14_owed : ByteArray := prog_14_method_86_code
def yX14_owed : MethodName := ⟨RX14, "owed", "(I)J"⟩
abbrev cX14_roadTo : ByteArray := prog_14_method_87_code
def yX14_roadTo : MethodName := ⟨RX14, "roadTo", "(II)I"⟩
abbrev cX14_led : ByteArray := prog_14_method_88_code
def yX14_led : MethodName := ⟨RX14, "led", "(IIII)I"⟩
abbrev cX14_count : ByteArray := prog_14_method_89_code
def yX14_count : MethodName := ⟨RX14, "count", "(I)I"⟩
abbrev cX14_trouble : ByteArray := prog_14_method_90_code
def yX14_trouble : MethodName := ⟨RX14, "trouble", "()I"⟩
def RJ6 : String := "java/lang/Integer"
def TJ6 : u_T := fun k => match k with
  | _ => ("", "", "", false)
def tyJ6 : Nat → FieldType := fun k => match k with
  | _ => .int
abbrev wsJ60 : List Cond := u_ws RJ6 TJ6 0
theorem nmJ6 : ∀ a, a < 0 → ∀ b, b < 0 → a ≠ b → (TJ6 a).2.1 ≠ (TJ6 b).2.1 := by decide +kernel
theorem tyJ6_ok : ∀ k, k < 0 → parseFieldDescriptor (TJ6 k).2.2.1 = some (tyJ6 k) := by decide +kernel
abbrev cJ6_bitCount_0f7a4 : ByteArray := prog_18_method_49_code
def yJ6_bitCount_0f7a4 : MethodName := ⟨RJ6, "bitCount", "(I)I"⟩
def RJ9 : String := "java/lang/Math"
def TJ9 : u_T := fun k => match k with
  | _ => ("", "", "", false)
def tyJ9 : Nat → FieldType := fun k => match k with
  | _ => .int
abbrev wsJ90 : List Cond := u_ws RJ9 TJ9 0
theorem nmJ9 : ∀ a, a < 0 → ∀ b, b < 0 → a ≠ b → (TJ9 a).2.1 ≠ (TJ9 b).2.1 := by decide +kernel
theorem tyJ9_ok : ∀ k, k < 0 → parseFieldDescriptor (TJ9 k).2.2.1 = some (tyJ9 k) := by decide +kernel
abbrev cJ9_max_7cf53 : ByteArray := prog_19_method_65_code
def yJ9_max_7cf53 : MethodName := ⟨RJ9, "max", "(II)I"⟩
abbrev cJ9_min_7cf53 : ByteArray := prog_19_method_69_code
def yJ9_min_7cf53 : MethodName := ⟨RJ9, "min", "(II)I"⟩
def RJ0 : String := "java/lang/String"
def TJ0 : u_T := fun k => match k with
  | _ => ("", "", "", false)
def tyJ0 : Nat → FieldType := fun k => match k with
  | _ => .int
abbrev wsJ00 : List Cond := u_ws RJ0 TJ0 0
theorem nmJ0 : ∀ a, a < 0 → ∀ b, b < 0 → a ≠ b → (TJ0 a).2.1 ≠ (TJ0 b).2.1 := by decide +kernel
theorem tyJ0_ok : ∀ k, k < 0 → parseFieldDescriptor (TJ0 k).2.2.1 = some (tyJ0 k) := by decide +kernel
abbrev cJ0_length_8abf5 : ByteArray := prog_21_method_54_code
def yJ0_length_8abf5 : MethodName := ⟨RJ0, "length", "()I"⟩
abbrev cJ0_charAt_5068e : ByteArray := prog_21_method_56_code
def yJ0_charAt_5068e : MethodName := ⟨RJ0, "charAt", "(I)C"⟩
abbrev cJ0_coder_7d493 : ByteArray := prog_21_method_152_code
def yJ0_coder_7d493 : MethodName := ⟨RJ0, "coder", "()B"⟩
abbrev cJ0_isLatin1_aae02 : ByteArray := prog_21_method_154_code
def yJ0_isLatin1_aae02 : MethodName := ⟨RJ0, "isLatin1", "()Z"⟩
abbrev cJ0_checkIndex_df160 : ByteArray := prog_21_method_155_code
def yJ0_checkIndex_df160 : MethodName := ⟨RJ0, "checkIndex", "(II)V"⟩
def RJ1 : String := "java/lang/StringLatin1"
def TJ1 : u_T := fun k => match k with
  | _ => ("", "", "", false)
def tyJ1 : Nat → FieldType := fun k => match k with
  | _ => .int
abbrev wsJ10 : List Cond := u_ws RJ1 TJ1 0
theorem nmJ1 : ∀ a, a < 0 → ∀ b, b < 0 → a ≠ b → (TJ1 a).2.1 ≠ (TJ1 b).2.1 := by decide +kernel
theorem tyJ1_ok : ∀ k, k < 0 → parseFieldDescriptor (TJ1 k).2.2.1 = some (tyJ1 k) := by decide +kernel
abbrev cJ1_charAt_3b067 : ByteArray := prog_22_method_2_code
def yJ1_charAt_3b067 : MethodName := ⟨RJ1, "charAt", "([BI)C"⟩
def RJ2 : String := "java/lang/StringUTF16"
def TJ2 : u_T := fun k => match k with
  | _ => ("", "", "", false)
def tyJ2 : Nat → FieldType := fun k => match k with
  | _ => .int
abbrev wsJ20 : List Cond := u_ws RJ2 TJ2 0
theorem nmJ2 : ∀ a, a < 0 → ∀ b, b < 0 → a ≠ b → (TJ2 a).2.1 ≠ (TJ2 b).2.1 := by decide +kernel
theorem tyJ2_ok : ∀ k, k < 0 → parseFieldDescriptor (TJ2 k).2.2.1 = some (tyJ2 k) := by decide +kernel
abbrev cJ2_getChar_3b067 : ByteArray := prog_23_method_5_code
def yJ2_getChar_3b067 : MethodName := ⟨RJ2, "getChar", "([BI)C"⟩
abbrev cJ2_length_9d52b : ByteArray := prog_23_method_6_code
def yJ2_length_9d52b : MethodName := ⟨RJ2, "length", "([B)I"⟩
abbrev cJ2_charAt_3b067 : ByteArray := prog_23_method_83_code
def yJ2_charAt_3b067 : MethodName := ⟨RJ2, "charAt", "([BI)C"⟩
abbrev cJ2_checkIndex_2214a : ByteArray := prog_23_method_91_code
def yJ2_checkIndex_2214a : MethodName := ⟨RJ2, "checkIndex", "(I[B)V"⟩
def RJ3 : String := "jdk/internal/util/Preconditions"
def TJ3 : u_T := fun k => match k with
  | _ => ("", "", "", false)
def tyJ3 : Nat → FieldType := fun k => match k with
  | _ => .int
abbrev wsJ30 : List Cond := u_ws RJ3 TJ3 0
theorem nmJ3 : ∀ a, a < 0 → ∀ b, b < 0 → a ≠ b → (TJ3 a).2.1 ≠ (TJ3 b).2.1 := by decide +kernel
theorem tyJ3_ok : ∀ k, k < 0 → parseFieldDescriptor (TJ3 k).2.2.1 = some (tyJ3 k) := by decide +kernel
abbrev cJ3_checkIndex_8e157 : ByteArray := prog_26_method_11_code
def yJ3_checkIndex_8e157 : MethodName := ⟨RJ3, "checkIndex", "(IILjava/util/function/BiFunction;)I"⟩
def RL : String := "BridgeStripLaw"
abbrev cL_led : ByteArray := method_3_code
def yL_led : MethodName := ⟨RL, "led", "(LBridgeStrip;IIII[J)I"⟩
abbrev cL_law : ByteArray := code
def yL_law : MethodName := ⟨RL, "law", "([I)Z"⟩
abbrev vwCl : List vw_C := [(RX0, TX0, 8), (RX1, TX1, 8), (RX2, TX2, 9), (RX3, TX3, 8), (RX4, TX4, 4), (RX5, TX5, 7), (RX6, TX6, 7), (RX7, TX7, 13), (RX8, TX8, 8), (RX9, TX9, 9), (RX10, TX10, 7), (RX11, TX11, 15), (RX12, TX12, 29), (RX13, TX13, 8), (RX14, TX14, 53)]
end
section
/-! ===== BEGIN exceptions that leave a method, and their catching by the caller (launches without stack traces) ===== -/
section VXA
/-! The laws qx_back, qx_callV, qx_callS, qx_callSW, qx_throw0, qx_throwS follow proofs of the library, with one case more: JvmDerived/Free/Laws.lean (Back.of_free), Shelf42/LK1.lean (callV, callS), Shelf/KitTraced.lean (throwNew0V, throwNewS). -/
/-- where a method has thrown q: the class by its name, the cell, what was written, the world -/
def qx_T (XC : String → Addr → State → State → Prop) (st : State) (q : Addr) (t : State) (mc ms : Nat) (free : Addr → Prop) : Prop :=
  ∃ (E : String) (ce : Cell) (L : List Loc), XC E q st t ∧ t.heap[q]? = some ce ∧ ce.vm = .none ∧ st.vm.findClass E = some ce.cls ∧ st.WarmedH t.vm ∧ st.sameButNew ({ t with vm := st.vm } : State) L mc ms ∧ ∀ z ∈ L, free z.base
def qx_Q (Qc : Array Value → State → Outcome → State → Prop) (XC : String → Addr → State → State → Prop) (mc ms : Nat) (free : Addr → Prop) : Array Value → State → Outcome → State → Prop := fun a st o t =>
  (Qc a st o t ∧ ∃ L, FrameEnd st o t L mc ms ∧ ∀ q ∈ L, free q.base) ∨ ∃ q, o = .threw q ∧ qx_T XC st q t mc ms free
/-- a callee that returns or throws -/
def qx_Met (l : Launch) (y : MethodName) (ws : List Cond) (rm : Room) (Pc : Array Value → State → Prop) (Qc : Array Value → State → Outcome → State → Prop) (XC : String → Addr → State → State → Prop) (mc ms : Nat) (free : Addr → Prop) : Prop :=
  MetFree l y (headSpec ws rm) Pc (fun _ _ _ _ _ => True) (qx_Q Qc XC mc ms free)
def qx_Post (XC : String → Addr → State → State → Prop) (mc ms : Nat) (free : Addr → Prop) : Pt → Array Value → Addr → Pt → Prop := fun A a q B =>
  ∃ (g : JFrame) (mk : MethodId) (t : State) (L : List Loc) (E : String) (ce : Cell), B.U.heap = t.heap ∧ B.U.vm = t.vm ∧ XC E q (A.U.calling g mk a) t ∧ t.heap[q]? = some ce ∧ ce.vm = .none ∧ A.U.vm.findClass E = some ce.cls ∧ B.locs = A.locs ++ L ∧ (∀ z ∈ L, free z.base) ∧ B.cells = A.cells + mc ∧ B.slots = A.slots + ms
def qx_Back (l : Launch) (R : Room) (p : Program) (e : Env) (below : List Frame) (s : State) (sargs : Array Value) (y : MethodName) (len W9 : Nat)
    (Pre : Pt → Array Value → Prop) (Post : Pt → Array Value → Option Value → Pt → Prop) (PostX : Pt → Array Value → Addr → Pt → Prop) : Prop :=
  ∀ (m : MethodId) (meth : Method) (c : Code) (A : Pt) (g : JFrame) (ig : Instr) (mk : MethodId) (a : Array Value),
    Stand p l e R s m sargs below meth c A.U A.locs A.cells A.slots → g.method = m → g.locals.size = c.maxLocals → decode c.code g.pc = .ok (ig, len) →
    2 * g.monitorRoom + (g.stack.map fun v => v.category).sum ≤ W9 → A.U.methodNamed? y = some mk → Pre A a →
    (∃ (v : Option Value) (B : Pt), Stand p l e R s m sargs below meth c B.U B.locs B.cells B.slots ∧ Post A a v B ∧
      Steps p.tables e below (doInvoke e (A.U.setTop g) [] mk a).1 (B.U.setTop { g with pc := g.pc + len, stack := v.toList ++ g.stack })) ∨
    (∃ (q : Addr) (B : Pt), Stand p l e R s m sargs below meth c B.U B.locs B.cells B.slots ∧ PostX A a q B ∧
      Steps p.tables e below (doInvoke e (A.U.setTop g) [] mk a).1 ((B.U.setTop g).pushFrame (.throwing q)))
section Payer
variable {l : Launch} {R : Room} {p : Program} {e : Env} {below : List Frame} {s : State} {sargs : Array Value} {y : MethodName} {len W9 : Nat}
theorem qx_back {ws : List Cond} {rm : Room} {Pc : Array Value → State → Prop} {Qc : Array Value → State → Outcome → State → Prop} {XC : String → Addr → State → State → Prop} {mc ms : Nat} {free : Addr → Prop} {bytes : ByteArray} {maxL : Nat} {ret : Option FieldType}
    (hM : qx_Met l y ws rm Pc Qc XC mc ms free) (hblind : FrameBlind Pc) (hrc : rm.cells = mc) (hrs : rm.slots = ms)
    (hframes : rm.frames + 1 ≤ R.frames) (hlocals : W9 + (maxL + 11) + rm.locals ≤ R.locals)
    (hws : ∀ w ∈ ws, ∀ a' U, s.WarmedH U.vm → w.before a' U = true) (hcode : Cond.code y bytes maxL ret ∈ ws) (hinit : ∀ a' U, s.WarmedH U.vm → (Cond.initialized y.cls).before a' U = true) :
    qx_Back l R p e below s sargs y len W9 (PreOf R mc ms Pc) (PostOf Qc mc ms free) (qx_Post XC mc ms free) := by
  intro m meth c A g ig mk a X hg hsize hdg hW hn hp
  have h1 : (headSpec ws rm).pre.before a A.U = true := atoms_intro fun w hw => hws w hw _ _ X.warmed
  have h2 : (Cond.code y bytes maxL ret).before a A.U = true := hws _ hcode _ _ X.warmed
  have h3 : (Cond.initialized y.cls).before a A.U = true := hinit _ _ X.warmed
  have h4 : A.cells + (headSpec ws rm).room.cells ≤ R.cells := by rw [show (headSpec ws rm).room.cells = mc from hrc]; exact hp.1
  have h5 : A.slots + (headSpec ws rm).room.slots ≤ R.slots := by rw [show (headSpec ws rm).room.slots = ms from hrs]; exact hp.2.1
  have hPc : Pc a (A.U.calling g mk a) := hblind _ _ _ _ hp.2.2
  obtain ⟨U, Ls, c0, s0⟩ := A
  dsimp only [Pt.U, Pt.locs, Pt.cells, Pt.slots] at h1 h2 h3 h4 h5 X hn hPc ⊢
  obtain ⟨methY, cY, hmY, hcY, -, hlY, -, -, -, -⟩ := Cond.code_spec hn h2
  obtain ⟨kY, hkY, -⟩ := className_of_methodNamed hn
  have hinitY : kY.init = .initialized := Cond.initialized_spec (findClass_of_methodNamed hn) hkY h3
  have h : At U g.method c below := by rw [hg]; exact X.here
  have hlocals9 : W9 + (maxL + 11) + (headSpec ws rm).room.locals ≤ R.locals := hlocals
  have happ : (headSpec ws rm).appliesLoose y e.platform (U.calling g mk a) = true :=
    Spec.appliesLoose_calling (g := g) h hdg hn hkY hinitY
      (X.room_calling (g := g) (R' := (headSpec ws rm).room) hsize hmY hcY hframes (by rw [hlY]; omega) h4 h5) h1
  obtain ⟨mid, hmid⟩ := h.above
  have hfr : (U.setTop g).frames = (.java g :: mid) ++ below := by rw [State.frames_setTop' g h.top, hmid]; rfl
  obtain ⟨o, s₂, hsteps, -, hend, hq⟩ := Steps.callFree hM p X.admits X.cas X.clock (acts := []) hfr happ hPc trivial
  have hq' : qx_Q Qc XC mc ms free a (U.calling g mk a) o s₂ := hq
  rw [State.frames_setTop' g h.top] at hend
  obtain ⟨g₀, hg0⟩ := Option.isSome_iff_exists.mp h.top
  obtain ⟨r, hr⟩ := State.topJava?_eq_some.mp hg0
  have hr' : (({ U with heap := s₂.heap, slotsUsed := s₂.slotsUsed } : State).setVm s₂.vm).frames = .java g₀ :: r := hr
  rcases hq' with ⟨hqc, L, hfe, hL⟩ | ⟨q, rfl, E, ce, L, hx, hce, hcv, hcl, hW₂, hsm, hL⟩
  · obtain ⟨⟨v, rfl⟩, hW₂, e2, q2, q3, q4, q5, q6⟩ := id hfe
    have e3 : s₂ = ({ (U.calling g mk a).setFrames s₂.frames with heap := s₂.heap, slotsUsed := s₂.slotsUsed } : State).setVm s₂.vm := by
      have : s₂ = ({ s₂ with vm := (U.calling g mk a).vm } : State).setVm s₂.vm := rfl
      rw [e2] at this
      exact this
    obtain ⟨c₂, i₂, len₂, hc₂, hd₂, hf₂⟩ := hend
    have hW' : U.WarmedH s₂.vm := hW₂
    have hcc : c₂ = c := by
      have h1 : s₂.code? g.method = U.code? g.method := by
        rw [State.code?_eq, State.code?_eq, hW'.alike.method?]
      exact Option.some.inj (hc₂.symm.trans (h1.trans h.code))
    subst hcc
    have hlen : len₂ = len := by rw [hdg] at hd₂; cases hd₂; rfl
    subst hlen
    have hs₂ : s₂ = (({ U with heap := s₂.heap, slotsUsed := s₂.slotsUsed } : State).setVm s₂.vm).setTop { g with pc := g.pc + len₂, stack := v.toList ++ g.stack } := by
      refine e3.trans ?_
      rw [hf₂, State.calling_eq h.top, State.setFrames_setFrames, State.setTop_of_frames _ hr', hr]
      rfl
    have hsame : U.sameButNew ({ U with heap := s₂.heap, slotsUsed := s₂.slotsUsed } : State) L mc ms := by
      refine ⟨?_, q2, q3, q4, q5, q6⟩
      obtain ⟨t, ht, -⟩ := State.frames_cons hr
      show ({ U with heap := s₂.heap, slotsUsed := s₂.slotsUsed } : State) = { U.setFrames U.frames with heap := s₂.heap, slotsUsed := s₂.slotsUsed }
      rw [State.setFrames_self ht]
    subst hg
    refine Or.inl ⟨v, ⟨(({ U with heap := s₂.heap, slotsUsed := s₂.slotsUsed } : State).setVm s₂.vm), Ls ++ L, c0 + mc, s0 + ms⟩,
      ⟨X.admits, X.cas, X.clock, X.frames, X.room, X.hears, X.method, X.code, (X.here.setHeapUsed s₂.heap s₂.slotsUsed).setVm hW'.alike, X.tail, State.WarmedH.trans X.warmed hW', X.limits, X.bytes, X.same.trans (hsame.setVm s.vm)⟩,
      ⟨g, mk, s₂, L, rfl, rfl, hqc, rfl, hL, rfl, rfl⟩, ?_⟩
    show Steps p.tables e below _ ((({ U with heap := s₂.heap, slotsUsed := s₂.slotsUsed } : State).setVm s₂.vm).setTop { g with pc := g.pc + len₂, stack := v.toList ++ g.stack })
    rw [← hs₂]
    exact hsteps
  · obtain ⟨e2, q2, q3, q4, q5, q6⟩ := id hsm
    have e3 : s₂ = ({ (U.calling g mk a).setFrames s₂.frames with heap := s₂.heap, slotsUsed := s₂.slotsUsed } : State).setVm s₂.vm := by
      have : s₂ = ({ s₂ with vm := (U.calling g mk a).vm } : State).setVm s₂.vm := rfl
      rw [e2] at this
      exact this
    have hf₂ : s₂.frames = .throwing q :: .java g :: U.frames.tail := hend
    have hW' : U.WarmedH s₂.vm := hW₂
    have hs₂ : s₂ = ((({ U with heap := s₂.heap, slotsUsed := s₂.slotsUsed } : State).setVm s₂.vm).setTop g).pushFrame (.throwing q) := by
      refine e3.trans ?_
      rw [hf₂, State.calling_eq h.top, State.setFrames_setFrames, State.pushFrame, State.frames_setTop _ hr', State.setTop_of_frames _ hr', State.setFrames_setFrames, hr]
      rfl
    have hsame : U.sameButNew ({ U with heap := s₂.heap, slotsUsed := s₂.slotsUsed } : State) L mc ms := by
      refine ⟨?_, q2, q3, q4, q5, q6⟩
      obtain ⟨t, ht, -⟩ := State.frames_cons hr
      show ({ U with heap := s₂.heap, slotsUsed := s₂.slotsUsed } : State) = { U.setFrames U.frames with heap := s₂.heap, slotsUsed := s₂.slotsUsed }
      rw [State.setFrames_self ht]
    subst hg
    refine Or.inr ⟨q, ⟨(({ U with heap := s₂.heap, slotsUsed := s₂.slotsUsed } : State).setVm s₂.vm), Ls ++ L, c0 + mc, s0 + ms⟩,
      ⟨X.admits, X.cas, X.clock, X.frames, X.room, X.hears, X.method, X.code, (X.here.setHeapUsed s₂.heap s₂.slotsUsed).setVm hW'.alike, X.tail, State.WarmedH.trans X.warmed hW', X.limits, X.bytes, X.same.trans (hsame.setVm s.vm)⟩,
      ⟨g, mk, s₂, L, E, ce, rfl, rfl, hx, hce, hcv, hcl, rfl, hL, rfl, rfl⟩, ?_⟩
    show Steps p.tables e below _ (((({ U with heap := s₂.heap, slotsUsed := s₂.slotsUsed } : State).setVm s₂.vm).setTop g).pushFrame (.throwing q))
    rw [← hs₂]
    exact hsteps
end Payer
section Calls
variable {p : Program} {l : Launch} {e : Env} {R : Room} {s : State} {m : MethodId} {args : Array Value} {below : List Frame} {meth : Method} {c : Code} {T : State} {locs : List Loc} {cells slots : Nat}
theorem qx_callV (X : Stand p l e R s m args below meth c T locs cells slots) (hexec : p.tables.exec = Jvm.exec) {own C : String} {index : Nat} {y : MethodName} {bytes : ByteArray} {maxL : Nat} {ret : Option FieldType}
    (hown : s.vm.findClass own = some m.cls) (hlink : (Cond.methodLink own index y).before args s = true) (hinst : (Cond.instanceMethod y).before args s = true) (hsel : (Cond.selects C y y).before args s = true)
    (hcode : (Cond.code y bytes maxL ret).before args s = true) (hy : y.cls ≠ "java/lang/invoke/MethodHandle" ∧ y.cls ≠ "java/lang/invoke/VarHandle")
    {W9 : Nat} {Pre : Pt → Array Value → Prop} {Post : Pt → Array Value → Option Value → Pt → Prop} {PostX : Pt → Array Value → Addr → Pt → Prop} (hK : qx_Back l R p e below s args y 3 W9 Pre Post PostX)
    {b : Addr} {cellB : Cell} (hcell : T.heap[b]? = some cellB) (hobj : cellB.vm.isStatics = false) (hcls : s.vm.findClass C = some cellB.cls)
    {g : JFrame} (hg : g.method = m) (hsize : g.locals.size = c.maxLocals) {argsL rest : List Value} (hlen : ∀ sig, parseMethodDescriptor y.desc = some sig → argsL.length = sig.parameters.length)
    (hstack : g.stack = argsL.reverse ++ .ref b :: rest) (hW : 2 * g.monitorRoom + (rest.map fun v => v.category).sum ≤ W9) (hdg : decode c.code g.pc = .ok (.invokevirtual index, 3))
    (hpre : ∀ vm₁, s.WarmedH vm₁ → Pre ⟨T.setVm vm₁, locs, cells, slots⟩ (Value.ref b :: argsL).toArray) :
    (∃ (v : Option Value) (vm₁ : Vm) (B : Pt), s.WarmedH vm₁ ∧ Stand p l e R s m args below meth c B.U B.locs B.cells B.slots ∧ Post ⟨T.setVm vm₁, locs, cells, slots⟩ (Value.ref b :: argsL).toArray v B ∧
      ∀ target, Steps p.tables e below (B.U.setTop { g with pc := g.pc + 3, stack := v.toList ++ rest }) target → Steps p.tables e below (T.setTop g) target) ∨
    (∃ (q : Addr) (vm₁ : Vm) (B : Pt), s.WarmedH vm₁ ∧ Stand p l e R s m args below meth c B.U B.locs B.cells B.slots ∧ PostX ⟨T.setVm vm₁, locs, cells, slots⟩ (Value.ref b :: argsL).toArray q B ∧
      Steps p.tables e below (T.setTop g) ((B.U.setTop { g with stack := rest }).pushFrame (.throwing q))) := by
  obtain ⟨mk, methM, hnamed, hmethM, hstM, habM⟩ := Cond.instanceMethod_spec hinst
  obtain ⟨methM', cM, hmethM', -, -, -, -, -, -, hsigM⟩ := Cond.code_spec hnamed hcode
  cases hmethM.symm.trans hmethM'
  obtain ⟨c2, r2, m2, q1, q2, q3, q4, kP, hkP, hkPi⟩ := Cond.selects_spec hsel
  cases hcls.symm.trans q1
  cases (State.methodFound?_of_named hnamed hy).symm.trans q2
  cases hnamed.symm.trans q3
  have hselP : selectMethod e.platform s.vm cellB.cls mk = .method mk := by rw [Launch.admits_selectMethod X.admits]; exact q4
  obtain ⟨vm₁, X₁, hstep₁⟩ := X.invokevirtual hexec hown hlink hnamed hmethM hstM hkP hkPi hy (a := b) (cell := cellB) hcell
    (fun z h => by rw [h] at hobj; cases hobj) hselP hmethM habM hkP hkPi (g := g) hg (argsL := argsL) (rest := rest) (hlen _ hsigM) hstack hdg
  rcases hK m meth c ⟨T.setVm vm₁, locs, cells, slots⟩ { g with stack := rest } (.invokevirtual index) mk (Value.ref b :: argsL).toArray X₁ hg hsize hdg hW (X₁.named hnamed) (hpre vm₁ X₁.warmed) with ⟨v, B, X', hpost, hsteps⟩ | ⟨q, B, X', hpost, hsteps⟩
  · exact Or.inl ⟨v, vm₁, B, X₁.warmed, X', hpost, fun target h => hstep₁ _ fun acts => by rw [doInvoke_state]; exact hsteps.trans h⟩
  · exact Or.inr ⟨q, vm₁, B, X₁.warmed, X', hpost, hstep₁ _ fun acts => by rw [doInvoke_state]; exact hsteps⟩
theorem qx_callS (X : Stand p l e R s m args below meth c T locs cells slots) (hexec : p.tables.exec = Jvm.exec) {own : String} {index : Nat} {y : MethodName} {bytes : ByteArray} {maxL : Nat} {ret : Option FieldType}
    (hown : s.vm.findClass own = some m.cls) (hlink : (Cond.methodLink own index y).before args s = true) (hstat : (Cond.static y).before args s = true) (hinit : (Cond.initialized y.cls).before args s = true)
    (hcode : (Cond.code y bytes maxL ret).before args s = true) (hy : y.cls ≠ "java/lang/invoke/MethodHandle" ∧ y.cls ≠ "java/lang/invoke/VarHandle")
    {W9 : Nat} {Pre : Pt → Array Value → Prop} {Post : Pt → Array Value → Option Value → Pt → Prop} {PostX : Pt → Array Value → Addr → Pt → Prop} (hK : qx_Back l R p e below s args y 3 W9 Pre Post PostX)
    {g : JFrame} (hg : g.method = m) (hsize : g.locals.size = c.maxLocals) {argsL rest : List Value} (hlen : ∀ sig, parseMethodDescriptor y.desc = some sig → argsL.length = sig.parameters.length)
    (hstack : g.stack = argsL.reverse ++ rest) (hW : 2 * g.monitorRoom + (rest.map fun v => v.category).sum ≤ W9) (hdg : decode c.code g.pc = .ok (.invokestatic index, 3))
    (hpre : ∀ vm₁, s.WarmedH vm₁ → Pre ⟨T.setVm vm₁, locs, cells, slots⟩ argsL.toArray) :
    (∃ (v : Option Value) (vm₁ : Vm) (B : Pt), s.WarmedH vm₁ ∧ Stand p l e R s m args below meth c B.U B.locs B.cells B.slots ∧ Post ⟨T.setVm vm₁, locs, cells, slots⟩ argsL.toArray v B ∧
      ∀ target, Steps p.tables e below (B.U.setTop { g with pc := g.pc + 3, stack := v.toList ++ rest }) target → Steps p.tables e below (T.setTop g) target) ∨
    (∃ (q : Addr) (vm₁ : Vm) (B : Pt), s.WarmedH vm₁ ∧ Stand p l e R s m args below meth c B.U B.locs B.cells B.slots ∧ PostX ⟨T.setVm vm₁, locs, cells, slots⟩ argsL.toArray q B ∧
      Steps p.tables e below (T.setTop g) ((B.U.setTop { g with stack := rest }).pushFrame (.throwing q))) := by
  obtain ⟨mk, hnamed⟩ := Cond.code_named hcode
  obtain ⟨methM, cM, hmethM, -, -, -, -, -, -, hsigM⟩ := Cond.code_spec hnamed hcode
  have hstatic : methM.isStatic = true := Cond.static_spec hnamed hmethM hstat
  obtain ⟨kP, hkP, -⟩ := className_of_methodNamed hnamed
  have hinitP : kP.init = .initialized := Cond.initialized_spec (findClass_of_methodNamed hnamed) hkP hinit
  obtain ⟨vm₁, X₁, hstep₁⟩ := X.invokestatic hexec hown hlink hnamed hmethM hstatic hkP hinitP hy (g := g) hg (argsL := argsL) (rest := rest) (hlen _ hsigM) hstack hdg
  rcases hK m meth c ⟨T.setVm vm₁, locs, cells, slots⟩ { g with stack := rest } (.invokestatic index) mk argsL.toArray X₁ hg hsize hdg hW (X₁.named hnamed) (hpre vm₁ X₁.warmed) with ⟨v, B, X', hpost, hsteps⟩ | ⟨q, B, X', hpost, hsteps⟩
  · exact Or.inl ⟨v, vm₁, B, X₁.warmed, X', hpost, fun target h => hstep₁ _ fun acts => by rw [doInvoke_state]; exact hsteps.trans h⟩
  · exact Or.inr ⟨q, vm₁, B, X₁.warmed, X', hpost, hstep₁ _ fun acts => by rw [doInvoke_state]; exact hsteps⟩
end Calls
theorem qx_cls {s : State} {T : State} {vm₁ : Vm} {E : String} {k : ClassId} (hW : s.WarmedH vm₁) (h : (T.setVm vm₁).vm.findClass E = some k) : s.vm.findClass E = some k := by
  have h1 : vm₁.findClass E = some k := h
  rw [hW.alike.findClass] at h1
  exact h1
/-- the method's frame g, with q thrown over it -/
def qx_W (p : Program) (l : Launch) (e : Env) (R : Room) (s : State) (m : MethodId) (args : Array Value) (below : List Frame) (meth : Method) (c : Code) (H : Heap) (locs : List Loc) (cells slots : Nat) (Q : State → Prop) (g : JFrame) (q : Addr) : Prop :=
  ∀ T : State, T.heap = H → Stand p l e R s m args below meth c T locs cells slots → ∃ t, Steps p.tables e below ((T.setTop g).pushFrame (.throwing q)) t ∧ Q t
def qx_Run (p : Program) (l : Launch) (e : Env) (R : Room) (s : State) (m : MethodId) (args : Array Value) (below : List Frame) (meth : Method) (c : Code) (H : Heap) (locs : List Loc) (cells slots mc ms : Nat) (g : JFrame) (rest : List Value) (Qa : State → Outcome → State → Prop) (XC : String → Addr → State → State → Prop) (free : Addr → Prop) : Prop :=
  ∀ T : State, T.heap = H → Stand p l e R s m args below meth c T locs cells slots →
    (∃ (v : Option Value) (st₀ t T' : State) (L : List Loc), st₀.heap = H ∧ Stand p l e R s m args below meth c T' (locs ++ L) (cells + mc) (slots + ms) ∧ (∀ q ∈ L, free q.base) ∧ T'.heap = t.heap ∧ T'.vm = t.vm ∧ Qa st₀ (.returned v) t ∧
      Goes p e below T g T' { g with pc := g.pc + 3, stack := v.toList ++ rest }) ∨
    (∃ (q : Addr) (st₀ t T' : State) (L : List Loc) (E : String) (ce : Cell), st₀.heap = H ∧ Stand p l e R s m args below meth c T' (locs ++ L) (cells + mc) (slots + ms) ∧ (∀ z ∈ L, free z.base) ∧ T'.heap = t.heap ∧ T'.vm = t.vm ∧ XC E q st₀ t ∧ t.heap[q]? = some ce ∧ ce.vm = .none ∧ s.vm.findClass E = some ce.cls ∧
      Steps p.tables e below (T.setTop g) ((T'.setTop { g with stack := rest }).pushFrame (.throwing q)))
section Runs
variable {p : Program} {l : Launch} {e : Env} {R : Room} {s : State} {m : MethodId} {args : Array Value} {below : List Frame} {meth : Method} {c : Code} {H : Heap} {locs : List Loc} {cells slots : Nat}
variable {y : MethodName} {bytes cc : ByteArray} {maxL nL mc ms n index : Nat} {ret : Option FieldType} {ws : List Cond} {rm : Room} {Pc : Array Value → State → Prop} {Qc : Array Value → State → Outcome → State → Prop} {XC : String → Addr → State → State → Prop} {free : Addr → Prop} {Ts : List Cond} {own C : String} {b : Addr} {As rest : List Value} {g : JFrame}
theorem qx_callBack (cb : CallB R s args own index y bytes maxL ret ws rm mc ms n) (hM : qx_Met l y ws rm Pc Qc XC mc ms free) (hbl : FrameBlind Pc) : qx_Back l R p e below s args y 3 8 (PreOf R mc ms Pc) (PostOf Qc mc ms free) (qx_Post XC mc ms free) := by
  obtain ⟨hrc, hrs, hfr, hlo, hws, hcw, -, hini, -⟩ := cb
  exact qx_back (bytes := bytes) (maxL := maxL) (ret := ret) hM hbl hrc hrs hfr hlo hws hcw (fun a' U hW => word_at hW (Or.inl (by first | rfl | simp [Cond.onTables, Cond.keeps, Cond.steady])) hini)
theorem qx_runV (S : CallFix p m c cc nL s args Ts own) (hM : qx_Met l y ws rm Pc Qc XC mc ms free) (cw : CallW R s args own C index y bytes maxL ret ws rm mc ms n) (hp : PreV s H C b Pc As)
    (hg : g.method = m) (hn : As.length = n) (hsize : g.locals.size = nL) (hstack : g.stack = As.reverse ++ .ref b :: rest) (hW : 2 * g.monitorRoom + (rest.map fun v => v.category).sum ≤ 8) (hdg : decode cc g.pc = .ok (.invokevirtual index, 3)) (hf : cells + mc ≤ R.cells ∧ slots + ms ≤ R.slots) :
    qx_Run p l e R s m args below meth c H locs cells slots mc ms g rest (Qc (Value.ref b :: As).toArray) XC free := by
  have hK : qx_Back l R p e below s args y 3 8 (PreOf R mc ms Pc) (PostOf Qc mc ms free) (qx_Post XC mc ms free) := qx_callBack cw.1 hM hp.1
  obtain ⟨⟨-, -, -, -, -, -, hcode, -, hy, hlen, hl⟩, hin, hse⟩ := cw
  obtain ⟨hx, hb, hml, ho, -⟩ := S
  obtain ⟨-, ⟨cellB, hcB, hoB, hclB⟩, hPc⟩ := hp
  intro T hT X
  rcases qx_callV X hx (C := C) (bytes := bytes) (maxL := maxL) (ret := ret) ho hl hin hse hcode hy hK (by rw [hT]; exact hcB) hoB hclB hg (hsize.trans hml.symm) (argsL := As) (rest := rest) (fun sig h => hn.trans (hlen sig h)) hstack hW (by rw [hb]; exact hdg)
    (fun vm₁ hW₁ => ⟨hf.1, hf.2, hPc (T.setVm vm₁) hT hW₁⟩) with ⟨v, vm₁, ⟨U', l2, c2, s2⟩, hW₁, X', ⟨g', mk, t, L, e1, e2, hq, h1, hL, h2, h3⟩, st⟩ | ⟨q, vm₁, ⟨U', l2, c2, s2⟩, hW₁, X', ⟨g', mk, t, L, E, ce, e1, e2, hq, hce, hcv, hcl, h1, hL, h2, h3⟩, st⟩
  · dsimp only [Pt.U, Pt.locs, Pt.cells, Pt.slots] at X' e1 e2 h1 h2 h3 st
    subst h1; subst h2; subst h3
    exact Or.inl ⟨v, (T.setVm vm₁).calling g' mk (Value.ref b :: As).toArray, t, U', L, hT, X', hL, e1, e2, hq, st⟩
  · dsimp only [Pt.U, Pt.locs, Pt.cells, Pt.slots] at X' e1 e2 h1 h2 h3 st hcl
    subst h1; subst h2; subst h3
    exact Or.inr ⟨q, (T.setVm vm₁).calling g' mk (Value.ref b :: As).toArray, t, U', L, E, ce, hT, X', hL, e1, e2, hq, hce, hcv, qx_cls hW₁ hcl, st⟩
theorem qx_runS (S : CallFix p m c cc nL s args Ts own) (hM : qx_Met l y ws rm Pc Qc XC mc ms free) (cw : CallB R s args own index y bytes maxL ret ws rm mc ms n ∧ (Cond.static y).before args s = true) (hp : PreS s H Pc As)
    (hg : g.method = m) (hn : As.length = n) (hsize : g.locals.size = nL) (hstack : g.stack = As.reverse ++ rest) (hW : 2 * g.monitorRoom + (rest.map fun v => v.category).sum ≤ 8) (hdg : decode cc g.pc = .ok (.invokestatic index, 3)) (hf : cells + mc ≤ R.cells ∧ slots + ms ≤ R.slots) :
    qx_Run p l e R s m args below meth c H locs cells slots mc ms g rest (Qc As.toArray) XC free := by
  have hK : qx_Back l R p e below s args y 3 8 (PreOf R mc ms Pc) (PostOf Qc mc ms free) (qx_Post XC mc ms free) := qx_callBack cw.1 hM hp.1
  obtain ⟨⟨-, -, -, -, -, -, hcode, hini, hy, hlen, hl⟩, hstt⟩ := cw
  obtain ⟨hx, hb, hml, ho, -⟩ := S
  intro T hT X
  rcases qx_callS X hx (bytes := bytes) (maxL := maxL) (ret := ret) ho hl hstt hini hcode hy hK hg (hsize.trans hml.symm) (argsL := As) (rest := rest) (fun sig h => hn.trans (hlen sig h)) hstack hW (by rw [hb]; exact hdg)
    (fun vm₁ hW₁ => ⟨hf.1, hf.2, hp.2 (T.setVm vm₁) hT hW₁⟩) with ⟨v, vm₁, ⟨U', l2, c2, s2⟩, hW₁, X', ⟨g', mk, t, L, e1, e2, hq, h1, hL, h2, h3⟩, st⟩ | ⟨q, vm₁, ⟨U', l2, c2, s2⟩, hW₁, X', ⟨g', mk, t, L, E, ce, e1, e2, hq, hce, hcv, hcl, h1, hL, h2, h3⟩, st⟩
  · dsimp only [Pt.U, Pt.locs, Pt.cells, Pt.slots] at X' e1 e2 h1 h2 h3 st
    subst h1; subst h2; subst h3
    exact Or.inl ⟨v, (T.setVm vm₁).calling g' mk As.toArray, t, U', L, hT, X', hL, e1, e2, hq, st⟩
  · dsimp only [Pt.U, Pt.locs, Pt.cells, Pt.slots] at X' e1 e2 h1 h2 h3 st hcl
    subst h1; subst h2; subst h3
    exact Or.inr ⟨q, (T.setVm vm₁).calling g' mk As.toArray, t, U', L, E, ce, hT, X', hL, e1, e2, hq, hce, hcv, qx_cls hW₁ hcl, st⟩
end Runs
section Rows
variable {p : Program} {l : Launch} {e : Env} {R : Room} {s : State} {m : MethodId} {args : Array Value} {below : List Frame} {meth : Method} {c : Code} {H : Heap} {locs : List Loc} {cells slots : Nat} {Q : State → Prop}
variable {mc ms : Nat} {free : Addr → Prop} {A0 A1 : Nat → Prop} {H0 : Heap} {a : Array Value} {pc : Nat} {ls : Array Slot} {st0 rest : List Value}
theorem qx_keep {st₀ t T' : State} {L : List Loc} (h0 : st₀.heap = H) (e1 : T'.heap = t.heap) (hS : va_S A0 H0 H locs) (hA : ∀ q, q < H.size → A1 q → A0 q) (hf : ∀ q, free q → A0 q) (hL : ∀ q ∈ L, free q.base) (hF : va_F A1 st₀ t) :
    H.size ≤ T'.heap.size ∧ (∀ q : Nat, q < H.size → ¬ A1 q → T'.heap[q]? = H[q]?) ∧ va_S A0 H0 T'.heap (locs ++ L) := by
  obtain ⟨hz, hk⟩ := hF
  rw [h0] at hz hk
  exact ⟨by rw [e1]; exact hz, fun q h1 h2 => by rw [e1]; exact hk q h1 h2,
    ⟨Nat.le_trans hS.1 (by rw [e1]; exact hz), fun q h1 h2 => by rw [e1, hk q (Nat.lt_of_lt_of_le h1 hS.1) (fun z => h2 (hA q (Nat.lt_of_lt_of_le h1 hS.1) z))]; exact hS.2.1 q h1 h2, fun q hq => by
      rcases List.mem_append.mp hq with h | h
      · exact hS.2.2 q h
      · exact hf _ (hL q h)⟩⟩
/-- caught by the row x of this method's table; the rows ahead don't take it -/
theorem qx_catch {own name : String} {E : String} {ce : Cell} {q : Addr} (hown : s.vm.findClass own = some m.cls) (pre : List ExceptionTableEntry) (x : ExceptionTableEntry) (suf : List ExceptionTableEntry) (hsplit : c.exceptionTable.toList = pre ++ x :: suf)
    (hpass : ∀ z ∈ pre, covers z pc = false ∨ (z.catchType ≠ 0 ∧ ∃ nm : String, (Cond.classLink own z.catchType nm).before args s = true ∧ va_Nc E nm s)) (hx : covers x pc = true) (h0 : x.catchType ≠ 0)
    (hlink : (Cond.classLink own x.catchType name).before args s = true) (hcast : (Cond.castable E name).before args s = true) (hcell : H[q]? = some ce) (hv : ce.vm = .none) (hcl : s.vm.findClass E = some ce.cls)
    (kk : W p l e R s m args below meth c H locs cells slots Q (F0 m x.handlerPc ls [.ref q])) : qx_W p l e R s m args below meth c H locs cells slots Q (F0 m pc ls rest) q := by
  intro T hT X
  have hpl : e.platform.magicAccessors = ({} : Platform).magicAccessors := by rw [X.admits.platform]
  obtain ⟨c3, c4, hc3, hc4, hasg⟩ := Cond.castable_spec hcast
  cases Option.some.inj (hc3.symm.trans hcl)
  obtain ⟨c5, hc5, hcl5⟩ := Cond.classLink_spec hown hlink e.platform hpl
  cases Option.some.inj (hc4.symm.trans hc5)
  obtain ⟨vm', X', st⟩ := Jvm.Stand.thenCaughtThrough X q (g := F0 m pc ls rest) rfl (Steps.refl _) (by rw [hT]; exact hcell) (by rw [hv]; rfl) (by obtain ⟨k9, h9, -⟩ := Vm.findClass_spec hcl; exact ⟨k9, h9⟩) pre x suf hsplit
    (fun z hz => by
      rcases hpass z hz with h | ⟨hz0, nm, hl1, hn1⟩
      · exact Or.inl h
      · obtain ⟨c6, hc6, hcl6⟩ := Cond.classLink_spec hown hl1 e.platform hpl
        obtain ⟨a8, b8, h1, h2, h3⟩ := hn1
        cases Option.some.inj (h1.symm.trans hcl)
        cases Option.some.inj (h2.symm.trans hc6)
        exact Or.inr ⟨hz0, _, hcl6, h3⟩) hx (Or.inr ⟨h0, c4, hcl5, hasg⟩)
  obtain ⟨t, a1, b1⟩ := kk (T.setVm vm') hT X'
  exact ⟨t, st.trans a1, b1⟩
end Rows
section Ends
variable {p : Program} {l : Launch} {e : Env} {R : Room} {s : State} {m : MethodId} {args : Array Value} {below : List Frame} {meth : Method} {c : Code} {H : Heap} {locs : List Loc} {cells slots : Nat} {Q : State → Prop}
variable {mc ms : Nat} {free : Addr → Prop} {A0 A1 : Nat → Prop} {H0 : Heap} {a : Array Value} {ls : Array Slot} {st0 rest : List Value}
variable {Qc : Array Value → State → Outcome → State → Prop} {XC : String → Addr → State → State → Prop}
/-- what a body that may throw owes at its end -/
def qx_MQ (below : List Frame) (Qc : Array Value → State → Outcome → State → Prop) (XC : String → Addr → State → State → Prop) (a : Array Value) (s : State) (mc ms : Nat) (free : Addr → Prop) : State → Prop := fun t =>
  ∃ o, t.status = .running ∧ Ended t below o ∧ qx_Q Qc XC mc ms free a s o t
theorem qx_ret {g : JFrame} {mc ms : Nat} (k : W p l e R s m args below meth c H locs cells slots (MQ below Qc args s mc ms free) g) : W p l e R s m args below meth c H locs cells slots (qx_MQ below Qc XC args s mc ms free) g := by
  intro T hT X
  obtain ⟨t, a1, o, b1, b2, b3, b4⟩ := k T hT X
  exact ⟨t, a1, o, b1, b2, Or.inl ⟨b3, b4⟩⟩
/-- not caught here: it goes on to the caller -/
theorem qx_widen {g : JFrame} {q : Addr} {k n : Nat} (h1 : cells ≤ k) (h2 : slots ≤ n) (kk : qx_W p l e R s m args below meth c H locs k n Q g q) : qx_W p l e R s m args below meth c H locs cells slots Q g q := fun T hT X => kk T hT (stand_widen X h1 h2)
theorem qx_out {pc : Nat} {E : String} {ce : Cell} {q : Addr} {mc ms : Nat} (hout : ∀ x ∈ c.exceptionTable.toList, covers x pc = false) (hlocks : meth.locks = false) (hcell : H[q]? = some ce) (hv : ce.vm = .none) (hcl : s.vm.findClass E = some ce.cls)
    (hx : ∀ t : State, t.heap = H → s.vm.Alike t.vm → XC E q s t) (hf : ∀ z ∈ locs, free z.base) (hc : cells ≤ mc) (hs : slots ≤ ms) :
    qx_W p l e R s m args below meth c H locs cells slots (qx_MQ below Qc XC args s mc ms free) (F0 m pc ls rest) q := by
  intro T hT X
  obtain ⟨st1, hrun, hend, hW, hsm⟩ := X.leaveThrown q (g := F0 m pc ls rest) rfl rfl rfl hout hlocks
  have hcell9 : (T.setFrames (.throwing q :: below)).heap[q]? = some ce := by
    show T.heap[q]? = some ce
    rw [hT]; exact hcell
  exact ⟨_, st1, .threw q, hrun, hend, Or.inr ⟨q, rfl, E, ce, locs, hx _ hT hW.alike, hcell9, hv, hcl, hW, hsm.mono hc hs, hf⟩⟩
theorem qx_frame {U : State} {k n : Nat} (h : s.sameButNew ({ U with vm := s.vm } : State) locs k n) : s.heap.size ≤ U.heap.size ∧ ∀ q : Nat, q < s.heap.size → (∀ z ∈ locs, z.base ≠ q) → U.heap[q]? = s.heap[q]? := by
  obtain ⟨-, h2, -, -, -, h6⟩ := h
  refine ⟨h2, fun q hq hz => ?_⟩
  obtain ⟨c9, e1, e2, e3, e4⟩ := h6 q _ (Array.getElem?_eq_getElem hq)
  have hs : c9.slots = (s.heap[q]).slots := Array.ext_getElem? fun i => e4 i fun hm => hz _ hm rfl
  have h9 : c9 = s.heap[q] := by
    rw [hs] at e2
    exact e2
  have e5 : U.heap[q]? = some c9 := e1
  rw [e5, h9, Array.getElem?_eq_getElem hq]
/-- the words of a throw but the four that speak of the heap -/
def qx_no (w : Cond) : Bool := decide (w ≠ .isRef (.static Bundle.tN "UNASSIGNED_STACK" Bundle.steD)) && decide (w ≠ .isRef (.static Bundle.tN "SUPPRESSED_SENTINEL" Bundle.listD)) && decide (w ≠ .laysStatic Bundle.tN "UNASSIGNED_STACK" Bundle.steD) && decide (w ≠ .laysStatic Bundle.tN "SUPPRESSED_SENTINEL" Bundle.listD)
def qx_at0 (own : String) (ic : Nat) (X : String) (names : List String) : List Cond := (Bundle.ownAtoms0 own ic X names).filter qx_no
def qx_atS (own : String) (ic : Nat) (X : String) (names : List String) : List Cond := (Bundle.ownAtoms own ic X names).filter qx_no
/-- a word that the tables alone decide, or a good one -/
def qx_ot (w : Cond) : Bool := w.onTables || goodWord w
theorem qx_ot_at {args a' : Array Value} {s U : State} {w : Cond} (hW : s.WarmedH U.vm) (hvm : s.vm = U.vm) (hg : qx_ot w = true) (h : w.before args s = true) : w.before a' U = true := by
  simp only [qx_ot, Bool.or_eq_true] at hg
  rcases hg with hg | hg
  · exact va_tabs hg hvm h
  · exact word_at hW (good_of_word hg) h
/-- a list's words: the good ones out of the method's own list, the others by premises of their own -/
theorem qx_hat {args : Array Value} {s : State} {L B : List Cond} (h1 : ∀ w ∈ L.filter goodWord, w.before args s = true) (h2 : ∀ w ∈ L.filter (fun w => !goodWord w), w ∈ B) (h3 : ∀ w ∈ B, w.before args s = true) : ∀ w ∈ L, w.before args s = true := by
  intro w hw
  by_cases g : goodWord w = true
  · exact h1 w (List.mem_filter.mpr ⟨hw, g⟩)
  · refine h3 w (h2 w (List.mem_filter.mpr ⟨hw, ?_⟩))
    show (!goodWord w) = true
    cases hgw : goodWord w
    · rfl
    · exact absurd hgw g
theorem qx_c {args : Array Value} {s : State} {w : Cond} {B : List Cond} (h : w.before args s = true) (t : ∀ w ∈ B, w.before args s = true) : ∀ w' ∈ w :: B, w'.before args s = true := fun w' h' => (List.mem_cons.mp h').elim (fun e => by rw [e]; exact h) (t w')
theorem qx_n {args : Array Value} {s : State} : ∀ w ∈ ([] : List Cond), w.before args s = true := fun _ h => nomatch h
theorem qx_own {args : Array Value} {s : State} {L : List Cond} (h1 : ∀ w ∈ L.filter qx_no, w.before args s = true)
    (hU : (Cond.isRef (.static Bundle.tN "UNASSIGNED_STACK" Bundle.steD)).before args s = true) (hN : (Cond.isRef (.static Bundle.tN "SUPPRESSED_SENTINEL" Bundle.listD)).before args s = true)
    (lU : (Cond.laysStatic Bundle.tN "UNASSIGNED_STACK" Bundle.steD).before args s = true) (lN : (Cond.laysStatic Bundle.tN "SUPPRESSED_SENTINEL" Bundle.listD).before args s = true) : ∀ w ∈ L, w.before args s = true := by
  intro w hw
  by_cases e1 : w = .isRef (.static Bundle.tN "UNASSIGNED_STACK" Bundle.steD)
  · rw [e1]; exact hU
  · by_cases e2 : w = .isRef (.static Bundle.tN "SUPPRESSED_SENTINEL" Bundle.listD)
    · rw [e2]; exact hN
    · by_cases e3 : w = .laysStatic Bundle.tN "UNASSIGNED_STACK" Bundle.steD
      · rw [e3]; exact lU
      · by_cases e4 : w = .laysStatic Bundle.tN "SUPPRESSED_SENTINEL" Bundle.listD
        · rw [e4]; exact lN
        · exact h1 w (List.mem_filter.mpr ⟨hw, by unfold qx_no; rw [decide_eq_true e1, decide_eq_true e2, decide_eq_true e3, decide_eq_true e4]; rfl⟩)
/-- where a static field lies, its class's statics cell in H -/
def qx_L (C n d : String) (A : Nat → Prop) (U : State) (H : Heap) : Prop := ∃ (c : ClassId) (k : Class) (i : Nat) (f : Field) (a : Nat) (cell : Cell), U.vm.findClass C = some c ∧ U.fieldFound? C n d = some (c, k, i, f) ∧ f.isStatic = true ∧ k.statics = some a ∧ H[a]? = some cell ∧ cell.vm.isStatics = true ∧ cell.cls = c ∧ f.slot < cell.slots.size ∧ k.staticTypes[f.slot]? = some f.type ∧ ¬ A a
theorem qx_L.moved {C n d : String} {A : Nat → Prop} {u U : State} {H : Heap} (hvm : u.vm.Alike U.vm) (h : qx_L C n d A u H) : qx_L C n d A U H := by
  obtain ⟨c, k, i, f, a, cell, h1, h2, h3, h4, h5, h6, h7, h8, h9, h10⟩ := h
  obtain ⟨k', hi', he⟩ := State.fieldFound?_setVm hvm h2
  exact ⟨c, k', i, f, a, cell, by rw [hvm.findClass]; exact h1, hi', h3, by rw [he]; exact h4, h5, h6, h7, h8, by rw [he]; exact h9, h10⟩
theorem qx_L.kept {C n d : String} {A : Nat → Prop} {U : State} {H H1 : Heap} (h : qx_L C n d A U H) (hq : ∀ a : Nat, a < H.size → ¬ A a → H1[a]? = H[a]?) : qx_L C n d A U H1 := by
  obtain ⟨c, k, i, f, a, cell, h1, h2, h3, h4, h5, h6, h7, h8, h9, h10⟩ := h
  exact ⟨c, k, i, f, a, cell, h1, h2, h3, h4, by rw [hq a (Array.getElem?_eq_some_iff.mp h5).1 h10]; exact h5, h6, h7, h8, h9, h10⟩
theorem qx_L.narrow {C n d : String} {A B : Nat → Prop} {U : State} {H : Heap} (h : qx_L C n d A U H) (hAB : ∀ q, B q → A q) : qx_L C n d B U H := by
  obtain ⟨c, k, i, f, a, cell, h1, h2, h3, h4, h5, h6, h7, h8, h9, h10⟩ := h
  exact ⟨c, k, i, f, a, cell, h1, h2, h3, h4, h5, h6, h7, h8, h9, fun z => h10 (hAB _ z)⟩
theorem qx_L.word {C n d : String} {A : Nat → Prop} {s : State} {args : Array Value} (h : qx_L C n d A s s.heap) : (Cond.laysStatic C n d).before args s = true := by
  obtain ⟨c, k, i, f, a, cell, h1, h2, h3, h4, h5, h6, h7, h8, h9, -⟩ := h
  show (Cond.laysStatic C n d).holds args s none s [] = true
  exact Cond.laysStatic_of h1 h2 h3 h4 h5 h6 h7 h8 h9
/-- .. and what it holds: null or some reference -/
def qx_Zq (C n d : String) (A : Nat → Prop) (U : State) (H : Heap) : Prop := va_Zq C n d A U H ∧ qx_L C n d A U H
theorem qx_Zq.moved {C n d : String} {A : Nat → Prop} {u U : State} {H : Heap} (hvm : u.vm.Alike U.vm) (h : qx_Zq C n d A u H) : qx_Zq C n d A U H := ⟨va_Zq.moved hvm h.1, qx_L.moved hvm h.2⟩
theorem qx_Zq.kept {C n d : String} {A : Nat → Prop} {U : State} {H H1 : Heap} (h : qx_Zq C n d A U H) (hq : ∀ a : Nat, a < H.size → ¬ A a → H1[a]? = H[a]?) : qx_Zq C n d A U H1 := ⟨va_Zq.kept h.1 hq, qx_L.kept h.2 hq⟩
theorem qx_Zq.narrow {C n d : String} {A B : Nat → Prop} {U : State} {H : Heap} (h : qx_Zq C n d A U H) (hAB : ∀ q, B q → A q) : qx_Zq C n d B U H := ⟨va_Zq.narrow h.1 hAB, qx_L.narrow h.2 hAB⟩
theorem qx_Zqof {args : Array Value} {s : State} {C n d : String} {A : Nat → Prop} (hl : (Cond.laysStatic C n d).before args s = true) (hini : (Cond.initialized C).before args s = true) (h : (Cond.isRef (.static C n d)).before args s = true) (hA : ∀ a : Nat, a < s.heap.size → ¬ A a) : qx_Zq C n d A s s.heap := by
  refine ⟨va_Zqof hl hini h hA, ?_⟩
  obtain ⟨c, k, i, f, a, cell, h1, h2, h3, h4, h5, h6, h7, h8, h9⟩ := Cond.laysStatic_spec hl
  exact ⟨c, k, i, f, a, cell, h1, h2, h3, h4, h5, h6, h7, h8, h9, hA a (Array.getElem?_eq_some_iff.mp h5).1⟩
theorem qx_isRef {C n d : String} {v : Value} {A : Nat → Prop} {s : State} {args : Array Value} (h : va_Z C n d v A s s.heap) (hv : v.isRef = true) : (Cond.isRef (.static C n d)).before args s = true := by
  obtain ⟨cf, kf, fi, f, a, cell, h1, h2, h3, h4, h5, h6, h7, -⟩ := h
  have he : (Term.static C n d).eval args s none [] s = some v := by
    simp [Term.eval, State.fieldNamed?, h1, h2, h4, h5, h6, h7]
  simp only [Cond.before, Cond.holds, Cond.value, he]
  cases v <;> simp_all [Value.isRef]
theorem qx_isRefq {C n d : String} {A : Nat → Prop} {s : State} {args : Array Value} (h : va_Zq C n d A s s.heap) : (Cond.isRef (.static C n d)).before args s = true := by
  rcases h with h | ⟨t, h⟩
  · exact qx_isRef h rfl
  · exact qx_isRef h rfl
/-- the same frame, seen from here: as if the method were called anew in this heap -/
theorem qx_rebase {T : State} (X : Stand p l e R s m args below meth c T locs cells slots) {R' : Room} (hf : R'.frames ≤ R.frames) (hl : R'.locals ≤ R.locals) (hc : cells + R'.cells ≤ R.cells) (hs : slots + R'.slots ≤ R.slots) :
    Stand p l e R' ((T.setVm s.vm).setFrames (.invoking m args :: below)) m args below meth c T [] 0 0 := by
  have htop : (T.setVm s.vm).topJava?.isSome := X.here.top
  have hF : ((T.setVm s.vm).setFrames (.invoking m args :: below)).frames = .invoking m args :: below := State.frames_setFrames _ (State.cur_lt_of_top htop)
  obtain ⟨g₀, hg0⟩ := Option.isSome_iff_exists.mp htop
  obtain ⟨r, hr⟩ := State.topJava?_eq_some.mp hg0
  have hl9 : e.platform.stackLimits (T.setVm s.vm).me = e.platform.stackLimits s.me := X.limits
  have hb9 : (T.setVm s.vm).me.stackBytes = s.me.stackBytes := X.bytes
  refine ⟨X.admits, X.cas, X.clock, hF, ?_, X.hears, X.method, X.code, X.here, X.tail, X.warmed, ?_, ?_, ?_⟩
  · have h := X.room
    have hU : ((T.setVm s.vm).setFrames (.invoking m args :: below)).localsInUse = s.localsInUse := by
      rw [State.localsInUse_invoking hF (meth := meth) (c := c) X.method X.code, State.localsInUse_invoking X.frames X.method X.code]
    simp only [State.hasRoom, Bool.and_eq_true, decide_eq_true_eq] at h ⊢
    obtain ⟨⟨⟨⟨h1, h2, h3, h4, h5, h6⟩, h7⟩, h8⟩, h9⟩ := h
    rw [X.frames, List.length_cons] at h2 h3
    have q1 := X.heapSize
    have q2 := X.used
    simp only [hF, hU, List.length_cons, State.stackLimits_setFrames, State.stackBytes_setFrames, hl9, hb9]
    refine ⟨⟨⟨⟨by omega, by omega, by omega, by omega, by omega, h6⟩, ?_⟩, ?_⟩, X.book⟩
    · show T.heap.size + R'.cells ≤ e.platform.maxCells
      omega
    · show T.slotsUsed + R'.slots ≤ e.platform.maxSlots
      omega
  · rw [State.stackLimits_setFrames]; rfl
  · rw [State.stackBytes_setFrames]; rfl
  · refine ⟨?_, Nat.le_refl _, Nat.le_refl _, ?_, ?_, fun a c9 h9 => ⟨c9, h9, rfl, rfl, fun _ _ => rfl⟩⟩
    · obtain ⟨t, ht, -⟩ := State.frames_cons hr
      show T.setVm s.vm = { ((T.setVm s.vm).setFrames (.invoking m args :: below)).setFrames (T.setVm s.vm).frames with heap := T.heap, slotsUsed := T.slotsUsed }
      rw [State.setFrames_setFrames, State.setFrames_self ht]
      rfl
    · show T.slotsUsed = T.slotsUsed + ((T.heap.toList.drop T.heap.size).map (·.slots.size)).sum
      rw [List.drop_eq_nil_of_le (Nat.le_of_eq Array.length_toList)]
      rfl
    · show ((T.heap.toList.drop T.heap.size).map (·.slots.size)).sum ≤ 0
      rw [List.drop_eq_nil_of_le (Nat.le_of_eq Array.length_toList)]
      exact Nat.le_refl _
/-- 'throw new E()': new; dup; invokespecial; athrow -/
theorem qx_throw0 {cc : ByteArray} {pc : Nat} (hexec : p.tables.exec = Jvm.exec) (hb : c.code = cc) (hl : l.stackTraces = false) {own cls : String} {names : List String} {ik ic mc ms : Nat} {A : Nat → Prop}
    (hown : s.vm.findClass own = some m.cls) (hcls : Bundle.fit cls = true) (hnames : ∀ n ∈ names, Bundle.fit n = true)
    (hk : (Cond.classLink own ik cls).before args s = true) (hini : (Cond.initialized cls).before args s = true) (hat : ∀ w ∈ qx_at0 own ic cls names, w.before args s = true)
    (hgood : ∀ w ∈ Cond.classLink own ik cls :: Cond.initialized cls :: qx_at0 own ic cls names, qx_ot w = true)
    (hU : qx_Zq Bundle.tN "UNASSIGNED_STACK" Bundle.steD A s s.heap) (hN : qx_Zq Bundle.tN "SUPPRESSED_SENTINEL" Bundle.listD A s s.heap) (hS : va_S A s.heap H locs) (hsize : ls.size = c.maxLocals)
    (d0 : decode cc pc = .ok (.new ik, 3)) (d3 : decode cc (pc + 3) = .ok (.dup, 1)) (d4 : decode cc (pc + 4) = .ok (.invokespecial ic, 3)) (d7 : decode cc (pc + 7) = .ok (.athrow, 1))
    (hout : ∀ x ∈ c.exceptionTable.toList, covers x (pc + 7) = false)
    (hRframes : names.length + 3 < R.frames) (hRlocals : (rest.map fun v => v.category).sum + (13 * (names.length + 1) + 42) ≤ R.locals) (hRcells : cells + 1 ≤ R.cells) (hRslots : slots + 6 ≤ R.slots) (hlocks : meth.locks = false)
    (hx : ∀ t : State, s.vm.Alike t.vm → H.size ≤ t.heap.size → (∀ q : Nat, q < H.size → t.heap[q]? = H[q]?) → XC cls H.size s t)
    (hf : ∀ z ∈ locs, free z.base) (hc : cells + 1 ≤ mc) (hs : slots + 6 ≤ ms) :
    W p l e R s m args below meth c H locs cells slots (qx_MQ below Qc XC args s mc ms free) (F0 m pc ls rest) := by
  intro T hT X
  have htr : e.platform.stackTraces = false := (show e.platform.stackTraces = l.stackTraces by rw [X.admits.platform]).trans hl
  have Y := qx_rebase X (R' := { frames := R.frames, locals := R.locals, cells := 1, slots := 6 }) (Nat.le_refl _) (Nat.le_refl _) hRcells hRslots
  obtain ⟨s', hA⟩ : ∃ z, z = (T.setVm s.vm).setFrames (.invoking m args :: below) := ⟨_, rfl⟩
  rw [← hA] at Y
  have hvm : s'.vm = s.vm := by rw [hA]; rfl
  have hhp : s'.heap = H := by rw [hA]; exact hT
  have hW0 : s.WarmedH s'.vm := by rw [hvm]; exact State.WarmedH.refl s
  have hat' : ∀ w ∈ qx_at0 own ic cls names, w.before args s' = true := fun w hw => qx_ot_at hW0 hvm.symm (hgood w (List.mem_cons_of_mem _ (List.mem_cons_of_mem _ hw))) (hat w hw)
  have hk' : (Cond.classLink own ik cls).before args s' = true := qx_ot_at hW0 hvm.symm (hgood _ List.mem_cons_self) hk
  have hini' : (Cond.initialized cls).before args s' = true := qx_ot_at hW0 hvm.symm (hgood _ (List.mem_cons_of_mem _ List.mem_cons_self)) hini
  have hU' : qx_Zq Bundle.tN "UNASSIGNED_STACK" Bundle.steD A s' s'.heap := by rw [hhp]; exact qx_Zq.moved hW0.alike (hU.kept hS.2.1)
  have hN' : qx_Zq Bundle.tN "SUPPRESSED_SENTINEL" Bundle.listD A s' s'.heap := by rw [hhp]; exact qx_Zq.moved hW0.alike (hN.kept hS.2.1)
  have h : ∀ w ∈ Bundle.ownAtoms0 own ic cls names, w.before args s' = true := qx_own hat' (qx_isRefq hU'.1) (qx_isRefq hN'.1) hU'.2.word hN'.2.word
  have hown' : s'.vm.findClass own = some m.cls := by rw [hvm]; exact hown
  have hins : (Cond.instantiable cls 6).before args s' = true := h _ (by simp [Bundle.ownAtoms0])
  obtain ⟨vm₁, cX, kX, hfX, hkX, -, -, X₁, st1⟩ := Y.newCold hexec (own := own) (C := cls) (index := ik) (n := 6) hown' hk' hins hini'
    (g := F0 m pc ls rest) rfl (by rw [hb]; exact d0) (Nat.le_refl _) (Nat.le_refl _)
  generalize hT1 : (T.setVm vm₁).pushCell { cls := cX, slots := kX.instanceTypes.map defaultValue, vm := .none } = T1 at X₁ st1
  have hcat : (Value.ref T.heap.size).category = 1 := rfl
  have hcellA : T1.heap[T.heap.size]? = some (freshCell cX kX) := by rw [← hT1]; exact State.heap_pushCell_size _ _
  have d3' : decode c.code (pc + 3) = .ok (.dup, 1) := by rw [hb]; exact d3
  obtain ⟨U, hsteps, hrun, hend, hW, hsame, ce, hce, hO⟩ := X₁.ctorThrow0 hexec htr (own := own) (cls := cls) (names := names) (ic := ic) hown' hcls hnames h (fun x hx => nomatch hx) hfX hkX hcellA (by rw [hhp, hT]; exact Nat.le_refl _)
    (g := { method := m, pc := pc + 4, locals := ls, stack := .ref T.heap.size :: .ref T.heap.size :: rest, locked := none }) rfl hsize rfl rfl (rest := rest) rfl
    (by rw [hb]; exact d4) (by rw [hb]; exact d7) hout hRframes (by simp only [List.map_cons, List.sum_cons, hcat]; omega) hlocks
  obtain ⟨f1, f2⟩ := qx_frame hsame
  rw [hhp] at f1 f2
  have hWs : s.WarmedH U.vm := State.WarmedH.trans hW0 hW
  have hcl : s.vm.findClass cls = some ce.cls := by
    have h9 := hO.cls
    rw [hvm] at h9
    exact h9
  have hall : s.sameButNew ({ U with vm := s.vm } : State) locs mc ms := by
    subst hA
    obtain ⟨e1, e2⟩ := hsame
    rw [State.setFrames_setFrames] at e1
    have h2 : (T.setVm s.vm).sameButNew ({ U with vm := s.vm } : State) [] (0 + 1) (0 + 6) := ⟨e1, e2⟩
    have h3 := X.same.trans h2
    rw [List.append_nil] at h3
    exact h3.mono hc hs
  refine ⟨U, ?_, .threw T.heap.size, hrun, hend, Or.inr ⟨T.heap.size, rfl, cls, ce, locs, (by rw [hT]; exact hx U hWs.alike f1 (fun q hq => f2 q hq (fun z hz => nomatch hz))), hce, hO.vm, hcl, hWs, hall, hf⟩⟩
  refine st1 _ ?_
  show Steps p.tables e below (T1.setTop { method := m, pc := pc + 3, locals := ls, stack := .ref T.heap.size :: rest, locked := none }) _
  jvm_step X₁.here [X₁.here.top, hexec, d3', Value.category]
  exact hsteps
/-- 'throw new E("text")': new; dup; ldc; invokespecial; athrow -/
theorem qx_throwS {cc : ByteArray} {pc : Nat} (hexec : p.tables.exec = Jvm.exec) (hb : c.code = cc) (hl : l.stackTraces = false) {own cls text : String} {names : List String} {ik is ic mc ms sa : Nat} {A : Nat → Prop}
    (hown : s.vm.findClass own = some m.cls) (hcls : Bundle.fit cls = true) (hnames : ∀ n ∈ names, Bundle.fit n = true)
    (hk : (Cond.classLink own ik cls).before args s = true) (hini : (Cond.initialized cls).before args s = true) (hstr : vk_R own is text sa s) (hat : ∀ w ∈ qx_atS own ic cls names, w.before args s = true)
    (hgood : ∀ w ∈ Cond.classLink own ik cls :: Cond.initialized cls :: qx_atS own ic cls names, qx_ot w = true)
    (hU : qx_Zq Bundle.tN "UNASSIGNED_STACK" Bundle.steD A s s.heap) (hN : qx_Zq Bundle.tN "SUPPRESSED_SENTINEL" Bundle.listD A s s.heap) (hS : va_S A s.heap H locs) (hsize : ls.size = c.maxLocals)
    (d0 : decode cc pc = .ok (.new ik, 3)) (d3 : decode cc (pc + 3) = .ok (.dup, 1)) (d4 : decode cc (pc + 4) = .ok (.ldc is, 2)) (d6 : decode cc (pc + 6) = .ok (.invokespecial ic, 3)) (d9 : decode cc (pc + 9) = .ok (.athrow, 1))
    (hout : ∀ x ∈ c.exceptionTable.toList, covers x (pc + 9) = false)
    (hRframes : names.length + 3 < R.frames) (hRlocals : (rest.map fun v => v.category).sum + (13 * (names.length + 1) + 43) ≤ R.locals) (hRcells : cells + 1 ≤ R.cells) (hRslots : slots + 6 ≤ R.slots) (hlocks : meth.locks = false)
    (hx : ∀ t : State, s.vm.Alike t.vm → H.size ≤ t.heap.size → (∀ q : Nat, q < H.size → t.heap[q]? = H[q]?) → XC cls H.size s t)
    (hf : ∀ z ∈ locs, free z.base) (hc : cells + 1 ≤ mc) (hs : slots + 6 ≤ ms) :
    W p l e R s m args below meth c H locs cells slots (qx_MQ below Qc XC args s mc ms free) (F0 m pc ls rest) := by
  intro T hT X
  have htr : e.platform.stackTraces = false := (show e.platform.stackTraces = l.stackTraces by rw [X.admits.platform]).trans hl
  have Y := qx_rebase X (R' := { frames := R.frames, locals := R.locals, cells := 1, slots := 6 }) (Nat.le_refl _) (Nat.le_refl _) hRcells hRslots
  obtain ⟨s', hA⟩ : ∃ z, z = (T.setVm s.vm).setFrames (.invoking m args :: below) := ⟨_, rfl⟩
  rw [← hA] at Y
  have hvm : s'.vm = s.vm := by rw [hA]; rfl
  have hhp : s'.heap = H := by rw [hA]; exact hT
  have hW0 : s.WarmedH s'.vm := by rw [hvm]; exact State.WarmedH.refl s
  have hat' : ∀ w ∈ qx_atS own ic cls names, w.before args s' = true := fun w hw => qx_ot_at hW0 hvm.symm (hgood w (List.mem_cons_of_mem _ (List.mem_cons_of_mem _ hw))) (hat w hw)
  have hk' : (Cond.classLink own ik cls).before args s' = true := qx_ot_at hW0 hvm.symm (hgood _ List.mem_cons_self) hk
  have hini' : (Cond.initialized cls).before args s' = true := qx_ot_at hW0 hvm.symm (hgood _ (List.mem_cons_of_mem _ List.mem_cons_self)) hini
  have hU' : qx_Zq Bundle.tN "UNASSIGNED_STACK" Bundle.steD A s' s'.heap := by rw [hhp]; exact qx_Zq.moved hW0.alike (hU.kept hS.2.1)
  have hN' : qx_Zq Bundle.tN "SUPPRESSED_SENTINEL" Bundle.listD A s' s'.heap := by rw [hhp]; exact qx_Zq.moved hW0.alike (hN.kept hS.2.1)
  have h : ∀ w ∈ Bundle.ownAtoms own ic cls names, w.before args s' = true := qx_own hat' (qx_isRefq hU'.1) (qx_isRefq hN'.1) hU'.2.word hN'.2.word
  have hown' : s'.vm.findClass own = some m.cls := by rw [hvm]; exact hown
  have hins : (Cond.instantiable cls 6).before args s' = true := h _ (by simp [Bundle.ownAtoms])
  obtain ⟨vm₁, cX, kX, hfX, hkX, -, -, X₁, st1⟩ := Y.newCold hexec (own := own) (C := cls) (index := ik) (n := 6) hown' hk' hins hini'
    (g := F0 m pc ls rest) rfl (by rw [hb]; exact d0) (Nat.le_refl _) (Nat.le_refl _)
  generalize hT1 : (T.setVm vm₁).pushCell { cls := cX, slots := kX.instanceTypes.map defaultValue, vm := .none } = T1 at X₁ st1
  have hcat : (Value.ref T.heap.size).category = 1 := rfl
  have hcellA : T1.heap[T.heap.size]? = some (freshCell cX kX) := by rw [← hT1]; exact State.heap_pushCell_size _ _
  have d3' : decode c.code (pc + 3) = .ok (.dup, 1) := by rw [hb]; exact d3
  have d4' : decode c.code (pc + 4) = .ok (.ldc is, 2) := by rw [hb]; exact d4
  have hstr' : vk_R own is text sa s' := vk_R.warm hW0 hstr
  obtain ⟨U, hsteps, hrun, hend, hW, hsame, ce, hce, hO⟩ := X₁.ctorThrowS hexec htr (own := own) (cls := cls) (names := names) (ic := ic) hown' hcls hnames h (fun x hx => nomatch hx) hfX hkX hcellA (by rw [hhp, hT]; exact Nat.le_refl _) (msg := .ref sa) rfl
    (g := { method := m, pc := pc + 6, locals := ls, stack := .ref sa :: .ref T.heap.size :: .ref T.heap.size :: rest, locked := none }) rfl hsize rfl rfl (rest := rest) rfl
    (by rw [hb]; exact d6) (by rw [hb]; exact d9) hout hRframes (by simp only [List.map_cons, List.sum_cons, hcat]; omega) hlocks
  obtain ⟨f1, f2⟩ := qx_frame hsame
  rw [hhp] at f1 f2
  have hWs : s.WarmedH U.vm := State.WarmedH.trans hW0 hW
  have hcl : s.vm.findClass cls = some ce.cls := by
    have h9 := hO.cls
    rw [hvm] at h9
    exact h9
  have hall : s.sameButNew ({ U with vm := s.vm } : State) locs mc ms := by
    subst hA
    obtain ⟨e1, e2⟩ := hsame
    rw [State.setFrames_setFrames] at e1
    have h2 : (T.setVm s.vm).sameButNew ({ U with vm := s.vm } : State) [] (0 + 1) (0 + 6) := ⟨e1, e2⟩
    have h3 := X.same.trans h2
    rw [List.append_nil] at h3
    exact h3.mono hc hs
  refine ⟨U, ?_, .threw T.heap.size, hrun, hend, Or.inr ⟨T.heap.size, rfl, cls, ce, locs, (by rw [hT]; exact hx U hWs.alike f1 (fun q hq => f2 q hq (fun z hz => nomatch hz))), hce, hO.vm, hcl, hWs, hall, hf⟩⟩
  refine st1 _ ?_
  show Steps p.tables e below (T1.setTop { method := m, pc := pc + 3, locals := ls, stack := .ref T.heap.size :: rest, locked := none }) _
  jvm_step X₁.here [X₁.here.top, hexec, d3', Value.category]
  exact X₁.ldcString hexec (own := own) (text := text) (index := is) (a := sa) hown' hstr'.1 hstr'.2
    (g := { method := m, pc := pc + 4, locals := ls, stack := .ref T.heap.size :: .ref T.heap.size :: rest, locked := none }) rfl d4' _ hsteps
/-- 'throw new E("text")', the text by a wide index -/
theorem qx_throwSW {cc : ByteArray} {pc : Nat} (hexec : p.tables.exec = Jvm.exec) (hb : c.code = cc) (hl : l.stackTraces = false) {own cls text : String} {names : List String} {ik is ic mc ms sa : Nat} {A : Nat → Prop}
    (hown : s.vm.findClass own = some m.cls) (hcls : Bundle.fit cls = true) (hnames : ∀ n ∈ names, Bundle.fit n = true)
    (hk : (Cond.classLink own ik cls).before args s = true) (hini : (Cond.initialized cls).before args s = true) (hstr : vk_R own is text sa s) (hat : ∀ w ∈ qx_atS own ic cls names, w.before args s = true)
    (hgood : ∀ w ∈ Cond.classLink own ik cls :: Cond.initialized cls :: qx_atS own ic cls names, qx_ot w = true)
    (hU : qx_Zq Bundle.tN "UNASSIGNED_STACK" Bundle.steD A s s.heap) (hN : qx_Zq Bundle.tN "SUPPRESSED_SENTINEL" Bundle.listD A s s.heap) (hS : va_S A s.heap H locs) (hsize : ls.size = c.maxLocals)
    (d0 : decode cc pc = .ok (.new ik, 3)) (d3 : decode cc (pc + 3) = .ok (.dup, 1)) (d4 : decode cc (pc + 4) = .ok (.ldc_w is, 3)) (d7 : decode cc (pc + 7) = .ok (.invokespecial ic, 3)) (d10 : decode cc (pc + 10) = .ok (.athrow, 1))
    (hout : ∀ x ∈ c.exceptionTable.toList, covers x (pc + 10) = false)
    (hRframes : names.length + 3 < R.frames) (hRlocals : (rest.map fun v => v.category).sum + (13 * (names.length + 1) + 43) ≤ R.locals) (hRcells : cells + 1 ≤ R.cells) (hRslots : slots + 6 ≤ R.slots) (hlocks : meth.locks = false)
    (hx : ∀ t : State, s.vm.Alike t.vm → H.size ≤ t.heap.size → (∀ q : Nat, q < H.size → t.heap[q]? = H[q]?) → XC cls H.size s t)
    (hf : ∀ z ∈ locs, free z.base) (hc : cells + 1 ≤ mc) (hs : slots + 6 ≤ ms) :
    W p l e R s m args below meth c H locs cells slots (qx_MQ below Qc XC args s mc ms free) (F0 m pc ls rest) := by
  intro T hT X
  have htr : e.platform.stackTraces = false := (show e.platform.stackTraces = l.stackTraces by rw [X.admits.platform]).trans hl
  have Y := qx_rebase X (R' := { frames := R.frames, locals := R.locals, cells := 1, slots := 6 }) (Nat.le_refl _) (Nat.le_refl _) hRcells hRslots
  obtain ⟨s', hA⟩ : ∃ z, z = (T.setVm s.vm).setFrames (.invoking m args :: below) := ⟨_, rfl⟩
  rw [← hA] at Y
  have hvm : s'.vm = s.vm := by rw [hA]; rfl
  have hhp : s'.heap = H := by rw [hA]; exact hT
  have hW0 : s.WarmedH s'.vm := by rw [hvm]; exact State.WarmedH.refl s
  have hat' : ∀ w ∈ qx_atS own ic cls names, w.before args s' = true := fun w hw => qx_ot_at hW0 hvm.symm (hgood w (List.mem_cons_of_mem _ (List.mem_cons_of_mem _ hw))) (hat w hw)
  have hk' : (Cond.classLink own ik cls).before args s' = true := qx_ot_at hW0 hvm.symm (hgood _ List.mem_cons_self) hk
  have hini' : (Cond.initialized cls).before args s' = true := qx_ot_at hW0 hvm.symm (hgood _ (List.mem_cons_of_mem _ List.mem_cons_self)) hini
  have hU' : qx_Zq Bundle.tN "UNASSIGNED_STACK" Bundle.steD A s' s'.heap := by rw [hhp]; exact qx_Zq.moved hW0.alike (hU.kept hS.2.1)
  have hN' : qx_Zq Bundle.tN "SUPPRESSED_SENTINEL" Bundle.listD A s' s'.heap := by rw [hhp]; exact qx_Zq.moved hW0.alike (hN.kept hS.2.1)
  have h : ∀ w ∈ Bundle.ownAtoms own ic cls names, w.before args s' = true := qx_own hat' (qx_isRefq hU'.1) (qx_isRefq hN'.1) hU'.2.word hN'.2.word
  have hown' : s'.vm.findClass own = some m.cls := by rw [hvm]; exact hown
  have hins : (Cond.instantiable cls 6).before args s' = true := h _ (by simp [Bundle.ownAtoms])
  obtain ⟨vm₁, cX, kX, hfX, hkX, -, -, X₁, st1⟩ := Y.newCold hexec (own := own) (C := cls) (index := ik) (n := 6) hown' hk' hins hini'
    (g := F0 m pc ls rest) rfl (by rw [hb]; exact d0) (Nat.le_refl _) (Nat.le_refl _)
  generalize hT1 : (T.setVm vm₁).pushCell { cls := cX, slots := kX.instanceTypes.map defaultValue, vm := .none } = T1 at X₁ st1
  have hcat : (Value.ref T.heap.size).category = 1 := rfl
  have hcellA : T1.heap[T.heap.size]? = some (freshCell cX kX) := by rw [← hT1]; exact State.heap_pushCell_size _ _
  have d3' : decode c.code (pc + 3) = .ok (.dup, 1) := by rw [hb]; exact d3
  have d4' : decode c.code (pc + 4) = .ok (.ldc_w is, 3) := by rw [hb]; exact d4
  have hstr' : vk_R own is text sa s' := vk_R.warm hW0 hstr
  obtain ⟨U, hsteps, hrun, hend, hW, hsame, ce, hce, hO⟩ := X₁.ctorThrowS hexec htr (own := own) (cls := cls) (names := names) (ic := ic) hown' hcls hnames h (fun x hx => nomatch hx) hfX hkX hcellA (by rw [hhp, hT]; exact Nat.le_refl _) (msg := .ref sa) rfl
    (g := { method := m, pc := pc + 7, locals := ls, stack := .ref sa :: .ref T.heap.size :: .ref T.heap.size :: rest, locked := none }) rfl hsize rfl rfl (rest := rest) rfl
    (by rw [hb]; exact d7) (by rw [hb]; exact d10) hout hRframes (by simp only [List.map_cons, List.sum_cons, hcat]; omega) hlocks
  obtain ⟨f1, f2⟩ := qx_frame hsame
  rw [hhp] at f1 f2
  have hWs : s.WarmedH U.vm := State.WarmedH.trans hW0 hW
  have hcl : s.vm.findClass cls = some ce.cls := by
    have h9 := hO.cls
    rw [hvm] at h9
    exact h9
  have hall : s.sameButNew ({ U with vm := s.vm } : State) locs mc ms := by
    subst hA
    obtain ⟨e1, e2⟩ := hsame
    rw [State.setFrames_setFrames] at e1
    have h2 : (T.setVm s.vm).sameButNew ({ U with vm := s.vm } : State) [] (0 + 1) (0 + 6) := ⟨e1, e2⟩
    have h3 := X.same.trans h2
    rw [List.append_nil] at h3
    exact h3.mono hc hs
  refine ⟨U, ?_, .threw T.heap.size, hrun, hend, Or.inr ⟨T.heap.size, rfl, cls, ce, locs, (by rw [hT]; exact hx U hWs.alike f1 (fun q hq => f2 q hq (fun z hz => nomatch hz))), hce, hO.vm, hcl, hWs, hall, hf⟩⟩
  refine st1 _ ?_
  show Steps p.tables e below (T1.setTop { method := m, pc := pc + 3, locals := ls, stack := .ref T.heap.size :: rest, locked := none }) _
  jvm_step X₁.here [X₁.here.top, hexec, d3', Value.category]
  exact X₁.ldcStringW hexec (own := own) (text := text) (index := is) (a := sa) hown' hstr'.1 hstr'.2
    (g := { method := m, pc := pc + 4, locals := ls, stack := .ref T.heap.size :: .ref T.heap.size :: rest, locked := none }) rfl d4' _ hsteps
end Ends
section Bodies
variable {l : Launch}
theorem qx_ofW {y : MethodName} {ws ws' : List Cond} {rm : Room} {Pc : Array Value → State → Prop} {Qc : Array Value → State → Outcome → State → Prop} {XC : String → Addr → State → State → Prop} {mc ms : Nat} {free : Addr → Prop} {cc : ByteArray} {maxL : Nat} {ret : Option FieldType}
    (hy : plainName y.cls = true) (hw : ws = Cond.code y cc maxL ret :: ws')
    (body : ∀ p e s m args below meth c s₁, BodyLoose p l y (headSpec ws rm) cc maxL ret e s m args below meth c s₁ → c.maxLocals = maxL → (∀ x ∈ c.exceptionTable.toList, False) → Pc args s →
      W p l e (headSpec ws rm).room s m args below meth c s.heap [] 0 0 (qx_MQ below Qc XC args s mc ms free) (entryFrame m args maxL)) : qx_Met l y ws rm Pc Qc XC mc ms free := by
  refine MetFree.of_bodyS (code := cc) (maxLocals := maxL) (ret := ret) hy ?_ ?_
  · intro args s m h hn
    obtain ⟨meth, c, h1, h2, h3, h4, h5, h6, -, -⟩ := Cond.code_spec hn (atoms_spec (ws := ws) h _ (by rw [hw]; exact List.mem_cons_self))
    exact ⟨meth, c, h1, h2, h3, h4, h5, h6⟩
  · intro p e s m args below meth c s₁ B hml hP _
    have hh0 : s₁.heap = s.heap := by rw [B.state]; rfl
    have ht : ∀ x ∈ c.exceptionTable.toList, False := by
      obtain ⟨meth9, c9, h1, h2, -, -, -, -, h7, -⟩ := Cond.code_spec B.named (atoms_spec (ws := ws) B.pre _ (by rw [hw]; exact List.mem_cons_self))
      cases Option.some.inj (h1.symm.trans B.method)
      cases Option.some.inj (h2.symm.trans (Stand.of_body B).code)
      intro x hx
      rw [Array.isEmpty_iff.mp h7] at hx
      cases hx
    obtain ⟨t, a1, o, b1, b2, b3⟩ := body p e s m args below meth c s₁ B hml ht hP s₁ hh0 (Stand.of_body B)
    exact ⟨t, o, a1, b1, b2, b3⟩
/-- the table of a body with handlers -/
theorem qx_table {p : Program} {x y : MethodName} {S : Spec} {cc bytes : ByteArray} {maxL maxL' : Nat} {ret ret' : Option FieldType} {e : Env} {s s₁ : State} {m : MethodId} {args : Array Value} {below : List Frame} {meth : Method} {c : Code} {hh : List (Nat × Nat × Nat × Nat)}
    (B : BodyLoose p l y S cc maxL ret e s m args below meth c s₁) (h : (Cond.codeWith y bytes maxL' ret' hh).before args s = true) : c.exceptionTable.toList = tableOf hh := by
  obtain ⟨m9, meth9, c9, hn9, h1, h2, -, -, h6, -⟩ := Cond.codeWith_spec h
  cases Option.some.inj (hn9.symm.trans B.named)
  cases Option.some.inj (h1.symm.trans B.method)
  cases Option.some.inj (h2.symm.trans (Stand.of_body B).code)
  rw [← h6, table_eq]
end Bodies
end VXA
/-! ===== END ===== -/
/-! ===== BEGIN a static call of a method with an exception table ===== -/
section VXS
variable {p : Program} {l : Launch} {e : Env} {R : Room} {s : State} {m : MethodId} {args : Array Value} {below : List Frame} {meth : Method} {c : Code} {T : State} {H : Heap} {locs : List Loc} {cells slots : Nat}
abbrev qx_CSW (R : Room) (s : State) (args : Array Value) (own : String) (index : Nat) (y : MethodName) (bytes : ByteArray) (maxL : Nat) (ret : Option FieldType) (hh : List (Nat × Nat × Nat × Nat)) (ws : List Cond) (rm : Room) (mc ms n : Nat) : Prop :=
  (rm.cells = mc ∧ rm.slots = ms ∧ rm.frames + 1 ≤ R.frames ∧ 8 + (maxL + 11) + rm.locals ≤ R.locals ∧ (∀ w ∈ ws, ∀ (a' : Array Value) (U : State), s.WarmedH U.vm → w.before a' U = true) ∧ Cond.codeWith y bytes maxL ret hh ∈ ws) ∧
  (Cond.codeWith y bytes maxL ret hh).before args s = true ∧ (Cond.initialized y.cls).before args s = true ∧ (y.cls ≠ "java/lang/invoke/MethodHandle" ∧ y.cls ≠ "java/lang/invoke/VarHandle") ∧
  (∀ sig, parseMethodDescriptor y.desc = some sig → n = sig.parameters.length) ∧ (Cond.methodLink own index y).before args s = true ∧ (Cond.static y).before args s = true
theorem qx_cwSW {own : String} {index maxL mc ms : Nat} {y : MethodName} {bytes : ByteArray} {ret : Option FieldType} {hh : List (Nat × Nat × Nat × Nat)} {Ts ws ws' : List Cond} {rm : Room} (n : Nat) (ht : ∀ w ∈ Ts, w.before args s = true) (hT : GoodIn Ts (va_wsS own index y ws)) (hw : ws = Cond.codeWith y bytes maxL ret hh :: ws') (hrc : rm.cells = mc) (hrs : rm.slots = ms)
    (hd : y.cls ≠ "java/lang/invoke/MethodHandle" ∧ y.cls ≠ "java/lang/invoke/VarHandle" ∧ (parseMethodDescriptor y.desc).map (fun d => d.parameters.length) = some n) (hR : rm.frames + 1 ≤ R.frames ∧ 8 + (maxL + 11) + rm.locals ≤ R.locals) :
    qx_CSW R s args own index y bytes maxL ret hh ws rm mc ms n := by
  have ok : ∀ w ∈ va_wsS own index y ws, w.before args s = true := fun w h => ht w (hT w h).1
  have hG : GoodIn Ts ws := fun w h => hT w (by unfold va_wsS; exact List.mem_append_right _ h)
  have hc : Cond.codeWith y bytes maxL ret hh ∈ ws := by rw [hw]; exact List.mem_cons_self
  refine ⟨⟨hrc, hrs, hR.1, hR.2, pay_in ht hG, hc⟩, ht _ (hG _ hc).1, ok _ (by simp [va_wsS]), ⟨hd.1, hd.2.1⟩, fun sig h => ?_, ok _ (by simp [va_wsS]), ok _ (by simp [va_wsS])⟩
  have h2 := hd.2.2
  rw [h] at h2
  exact (Option.some.inj h2).symm
theorem qx_callSW (X : Stand p l e R s m args below meth c T locs cells slots) (hexec : p.tables.exec = Jvm.exec) {own : String} {index : Nat} {y : MethodName} {bytes : ByteArray} {maxL : Nat} {ret : Option FieldType} {hh : List (Nat × Nat × Nat × Nat)}
    (hown : s.vm.findClass own = some m.cls) (hlink : (Cond.methodLink own index y).before args s = true) (hstat : (Cond.static y).before args s = true) (hinit : (Cond.initialized y.cls).before args s = true)
    (hcode : (Cond.codeWith y bytes maxL ret hh).before args s = true) (hy : y.cls ≠ "java/lang/invoke/MethodHandle" ∧ y.cls ≠ "java/lang/invoke/VarHandle")
    {W9 : Nat} {Pre : Pt → Array Value → Prop} {Post : Pt → Array Value → Option Value → Pt → Prop} (hK : Back l R p e below s args y 3 W9 Pre Post)
    {g : JFrame} (hg : g.method = m) (hsize : g.locals.size = c.maxLocals) {argsL rest : List Value} (hlen : ∀ sig, parseMethodDescriptor y.desc = some sig → argsL.length = sig.parameters.length)
    (hstack : g.stack = argsL.reverse ++ rest) (hW : 2 * g.monitorRoom + (rest.map fun v => v.category).sum ≤ W9) (hdg : decode c.code g.pc = .ok (.invokestatic index, 3))
    (hpre : ∀ vm₁, s.WarmedH vm₁ → Pre ⟨T.setVm vm₁, locs, cells, slots⟩ argsL.toArray) :
    ∃ (v : Option Value) (vm₁ : Vm) (B : Pt), s.WarmedH vm₁ ∧ Stand p l e R s m args below meth c B.U B.locs B.cells B.slots ∧ Post ⟨T.setVm vm₁, locs, cells, slots⟩ argsL.toArray v B ∧
      ∀ target, Steps p.tables e below (B.U.setTop { g with pc := g.pc + 3, stack := v.toList ++ rest }) target → Steps p.tables e below (T.setTop g) target := by
  obtain ⟨mk, methM, cM, hnamed, hmethM, -, -, -, -, -, -, hsigM⟩ := Cond.codeWith_spec hcode
  have hstatic : methM.isStatic = true := Cond.static_spec hnamed hmethM hstat
  obtain ⟨kP, hkP, -⟩ := className_of_methodNamed hnamed
  have hinitP : kP.init = .initialized := Cond.initialized_spec (findClass_of_methodNamed hnamed) hkP hinit
  obtain ⟨vm₁, X₁, hstep₁⟩ := X.invokestatic hexec hown hlink hnamed hmethM hstatic hkP hinitP hy (g := g) hg (argsL := argsL) (rest := rest) (hlen _ hsigM) hstack hdg
  obtain ⟨v, B, X', hpost, hsteps⟩ := hK m meth c ⟨T.setVm vm₁, locs, cells, slots⟩ { g with stack := rest } (.invokestatic index) mk argsL.toArray X₁ hg hsize hdg hW (X₁.named hnamed) (hpre vm₁ X₁.warmed)
  exact ⟨v, vm₁, B, X₁.warmed, X', hpost, fun target h => hstep₁ _ fun acts => by rw [doInvoke_state]; exact hsteps.trans h⟩
theorem qx_runSW {y : MethodName} {bytes cc : ByteArray} {maxL nL mc ms n index : Nat} {ret : Option FieldType} {hh : List (Nat × Nat × Nat × Nat)} {ws : List Cond} {rm : Room} {Pc : Array Value → State → Prop} {Qc : Array Value → State → Outcome → State → Prop} {free : Addr → Prop} {Ts : List Cond} {own : String} {As rest : List Value} {g : JFrame}
    (S : CallFix p m c cc nL s args Ts own) (hM : Met l y ws rm Pc Qc mc ms free) (cw : qx_CSW R s args own index y bytes maxL ret hh ws rm mc ms n) (hp : PreS s H Pc As)
    (hg : g.method = m) (hn : As.length = n) (hsize : g.locals.size = nL) (hstack : g.stack = As.reverse ++ rest) (hW : 2 * g.monitorRoom + (rest.map fun v => v.category).sum ≤ 8) (hdg : decode cc g.pc = .ok (.invokestatic index, 3)) (hf : cells + mc ≤ R.cells ∧ slots + ms ≤ R.slots) :
    va_Run p l e R s m args below meth c H locs cells slots mc ms g rest (Qc As.toArray) (free) := by
  obtain ⟨⟨hrc, hrs, hfr, hlo, hws, hcw⟩, hcode, hini, hy, hlen, hl, hstt⟩ := cw
  have hK : Back l R p e below s args y 3 8 (PreOf R mc ms Pc) (PostOf Qc mc ms free) := va_backW (hh := hh) (bytes := bytes) (maxL := maxL) (ret := ret) hM hp.1 hrc hrs hfr hlo hws hcw (fun a' U hW => word_at hW (Or.inl (by first | rfl | simp [Cond.onTables, Cond.keeps, Cond.steady])) hini)
  obtain ⟨hx, hb, hml, ho, -⟩ := S
  intro T hT X
  obtain ⟨v, vm₁, ⟨U', l2, c2, s2⟩, hW₁, X', ⟨g', mk, t, L, e1, e2, hq, h1, hL, h2, h3⟩, st⟩ := qx_callSW X hx (hh := hh) (bytes := bytes) (maxL := maxL) (ret := ret) ho hl hstt hini hcode hy hK hg (hsize.trans hml.symm) (argsL := As) (rest := rest) (fun sig h => hn.trans (hlen sig h)) hstack hW (by rw [hb]; exact hdg)
    (fun vm₁ hW₁ => ⟨hf.1, hf.2, hp.2 (T.setVm vm₁) hT hW₁⟩)
  dsimp only [Pt.U, Pt.locs, Pt.cells, Pt.slots] at X' e1 e2 h1 h2 h3 st
  subst h1; subst h2; subst h3
  exact ⟨v, (T.setVm vm₁).calling g' mk As.toArray, t, U', L, hT, X', hL, e1, e2, hq, st⟩
/-- not caught here, past rows that name other classes: it goes on to the caller -/
theorem qx_outP {p : Program} {l : Launch} {e : Env} {R : Room} {s : State} {m : MethodId} {args : Array Value} {below : List Frame} {meth : Method} {c : Code} {H : Heap} {locs : List Loc} {cells slots : Nat} {free : Addr → Prop} {ls : Array Slot} {rest : List Value} {Qc : Array Value → State → Outcome → State → Prop} {XC : String → Addr → State → State → Prop}
    {pc : Nat} {own E : String} {ce : Cell} {q : Addr} {mc ms : Nat} (hown : s.vm.findClass own = some m.cls) (hlocks : meth.locks = false)
    (hpass : ∀ z ∈ c.exceptionTable.toList, covers z pc = false ∨ (z.catchType ≠ 0 ∧ ∃ nm : String, (Cond.classLink own z.catchType nm).before args s = true ∧ va_Nc E nm s)) (hcell : H[q]? = some ce) (hv : ce.vm = .none) (hcl : s.vm.findClass E = some ce.cls)
    (hx : ∀ t : State, t.heap = H → s.vm.Alike t.vm → XC E q s t) (hf : ∀ z ∈ locs, free z.base) (hc : cells ≤ mc) (hs : slots ≤ ms) :
    qx_W p l e R s m args below meth c H locs cells slots (qx_MQ below Qc XC args s mc ms free) (F0 m pc ls rest) q := by
  intro T hT X
  have hpl : e.platform.magicAccessors = ({} : Platform).magicAccessors := by rw [X.admits.platform]
  obtain ⟨vm', hW', X', st⟩ := Jvm.Stand.outThrough X hlocks q (g := F0 m pc ls rest) rfl rfl rfl (cell := ce) (by rw [hT]; exact hcell) (by rw [hv]; rfl)
    (by obtain ⟨k9, h9, -⟩ := Vm.findClass_spec hcl; exact ⟨k9, h9⟩) (fun z hz => by
      rcases hpass z hz with h | ⟨hz0, nm, hl1, hn1⟩
      · exact Or.inl h
      · obtain ⟨c6, hc6, hcl6⟩ := Cond.classLink_spec hown hl1 e.platform hpl
        obtain ⟨a8, b8, h1, h2, h3⟩ := hn1
        cases Option.some.inj (h1.symm.trans hcl)
        cases Option.some.inj (h2.symm.trans hc6)
        exact Or.inr ⟨hz0, _, hcl6, h3⟩)
  obtain ⟨g₀, hfr⟩ := X'.frames_eq
  have hcell9 : ((T.setVm vm').setFrames (.throwing q :: below)).heap[q]? = some ce := by
    show T.heap[q]? = some ce
    rw [hT]; exact hcell
  have hend : Ended ((T.setVm vm').setFrames (.throwing q :: below)) below (.threw q) := State.frames_setFrames _ (State.cur_lt_of_frames hfr)
  refine ⟨(T.setVm vm').setFrames (.throwing q :: below), ?_, .threw q, X'.here.running, hend, Or.inr ⟨q, rfl, E, ce, locs, hx _ hT (X'.ends _).1.alike, hcell9, hv, hcl, (X'.ends _).1, (X'.ends _).2.mono hc hs, hf⟩⟩
  rw [X.pushThrowing_eq]
  exact st
/-- a thing of a world lies in the heap -/
theorem qx_lt {D : va_G} {cl : List vw_C} {ws : va_W} {H1 : Heap} (h : va_P D cl ws H1) {k : Nat} {q : Nat × va_E} (hk : ws[k]? = some q) : q.1 < H1.size := (h k q hk).lt
end VXS
/-! ===== END ===== -/
/-! ===== BEGIN methods with a table of their own: called by a name, returning or throwing ===== -/
section VXH
/-! qx_backW, qx_callVX, qx_callSX, qx_callVW, qx_runVW, qx_runVX, qx_runSX, qx_ofWH follow the same proofs as their sisters above (Free/Laws.lean, Shelf42/LK1.lean); qx_outP calls Shelf42/NT130.lean (outThrough). -/
section
variable {l : Launch} {R : Room} {p : Program} {e : Env} {below : List Frame} {s : State} {sargs : Array Value} {y : MethodName} {len W9 : Nat}
theorem qx_backW {ws : List Cond} {rm : Room} {Pc : Array Value → State → Prop} {Qc : Array Value → State → Outcome → State → Prop} {XC : String → Addr → State → State → Prop} {mc ms : Nat} {free : Addr → Prop} {bytes : ByteArray} {maxL : Nat} {ret : Option FieldType} {hh : List (Nat × Nat × Nat × Nat)}
    (hM : qx_Met l y ws rm Pc Qc XC mc ms free) (hblind : FrameBlind Pc) (hrc : rm.cells = mc) (hrs : rm.slots = ms)
    (hframes : rm.frames + 1 ≤ R.frames) (hlocals : W9 + (maxL + 11) + rm.locals ≤ R.locals)
    (hws : ∀ w ∈ ws, ∀ a' U, s.WarmedH U.vm → w.before a' U = true) (hcode : Cond.codeWith y bytes maxL ret hh ∈ ws) (hinit : ∀ a' U, s.WarmedH U.vm → (Cond.initialized y.cls).before a' U = true) :
    qx_Back l R p e below s sargs y len W9 (PreOf R mc ms Pc) (PostOf Qc mc ms free) (qx_Post XC mc ms free) := by
  intro m meth c A g ig mk a X hg hsize hdg hW hn hp
  have h1 : (headSpec ws rm).pre.before a A.U = true := atoms_intro fun w hw => hws w hw _ _ X.warmed
  have h2 : (Cond.codeWith y bytes maxL ret hh).before a A.U = true := hws _ hcode _ _ X.warmed
  have h3 : (Cond.initialized y.cls).before a A.U = true := hinit _ _ X.warmed
  have h4 : A.cells + (headSpec ws rm).room.cells ≤ R.cells := by rw [show (headSpec ws rm).room.cells = mc from hrc]; exact hp.1
  have h5 : A.slots + (headSpec ws rm).room.slots ≤ R.slots := by rw [show (headSpec ws rm).room.slots = ms from hrs]; exact hp.2.1
  have hPc : Pc a (A.U.calling g mk a) := hblind _ _ _ _ hp.2.2
  obtain ⟨U, Ls, c0, s0⟩ := A
  dsimp only [Pt.U, Pt.locs, Pt.cells, Pt.slots] at h1 h2 h3 h4 h5 X hn hPc ⊢
  obtain ⟨m9, methY, cY, hn9, hmY, hcY, -, hlY, -⟩ := Cond.codeWith_spec h2
  cases Option.some.inj (hn9.symm.trans hn)
  obtain ⟨kY, hkY, -⟩ := className_of_methodNamed hn
  have hinitY : kY.init = .initialized := Cond.initialized_spec (findClass_of_methodNamed hn) hkY h3
  have h : At U g.method c below := by rw [hg]; exact X.here
  have hlocals9 : W9 + (maxL + 11) + (headSpec ws rm).room.locals ≤ R.locals := hlocals
  have happ : (headSpec ws rm).appliesLoose y e.platform (U.calling g mk a) = true :=
    Spec.appliesLoose_calling (g := g) h hdg hn hkY hinitY
      (X.room_calling (g := g) (R' := (headSpec ws rm).room) hsize hmY hcY hframes (by rw [hlY]; omega) h4 h5) h1
  obtain ⟨mid, hmid⟩ := h.above
  have hfr : (U.setTop g).frames = (.java g :: mid) ++ below := by rw [State.frames_setTop' g h.top, hmid]; rfl
  obtain ⟨o, s₂, hsteps, -, hend, hq⟩ := Steps.callFree hM p X.admits X.cas X.clock (acts := []) hfr happ hPc trivial
  have hq' : qx_Q Qc XC mc ms free a (U.calling g mk a) o s₂ := hq
  rw [State.frames_setTop' g h.top] at hend
  obtain ⟨g₀, hg0⟩ := Option.isSome_iff_exists.mp h.top
  obtain ⟨r, hr⟩ := State.topJava?_eq_some.mp hg0
  have hr' : (({ U with heap := s₂.heap, slotsUsed := s₂.slotsUsed } : State).setVm s₂.vm).frames = .java g₀ :: r := hr
  rcases hq' with ⟨hqc, L, hfe, hL⟩ | ⟨q, rfl, E, ce, L, hx, hce, hcv, hcl, hW₂, hsm, hL⟩
  · obtain ⟨⟨v, rfl⟩, hW₂, e2, q2, q3, q4, q5, q6⟩ := id hfe
    have e3 : s₂ = ({ (U.calling g mk a).setFrames s₂.frames with heap := s₂.heap, slotsUsed := s₂.slotsUsed } : State).setVm s₂.vm := by
      have : s₂ = ({ s₂ with vm := (U.calling g mk a).vm } : State).setVm s₂.vm := rfl
      rw [e2] at this
      exact this
    obtain ⟨c₂, i₂, len₂, hc₂, hd₂, hf₂⟩ := hend
    have hW' : U.WarmedH s₂.vm := hW₂
    have hcc : c₂ = c := by
      have h1 : s₂.code? g.method = U.code? g.method := by
        rw [State.code?_eq, State.code?_eq, hW'.alike.method?]
      exact Option.some.inj (hc₂.symm.trans (h1.trans h.code))
    subst hcc
    have hlen : len₂ = len := by rw [hdg] at hd₂; cases hd₂; rfl
    subst hlen
    have hs₂ : s₂ = (({ U with heap := s₂.heap, slotsUsed := s₂.slotsUsed } : State).setVm s₂.vm).setTop { g with pc := g.pc + len₂, stack := v.toList ++ g.stack } := by
      refine e3.trans ?_
      rw [hf₂, State.calling_eq h.top, State.setFrames_setFrames, State.setTop_of_frames _ hr', hr]
      rfl
    have hsame : U.sameButNew ({ U with heap := s₂.heap, slotsUsed := s₂.slotsUsed } : State) L mc ms := by
      refine ⟨?_, q2, q3, q4, q5, q6⟩
      obtain ⟨t, ht, -⟩ := State.frames_cons hr
      show ({ U with heap := s₂.heap, slotsUsed := s₂.slotsUsed } : State) = { U.setFrames U.frames with heap := s₂.heap, slotsUsed := s₂.slotsUsed }
      rw [State.setFrames_self ht]
    subst hg
    refine Or.inl ⟨v, ⟨(({ U with heap := s₂.heap, slotsUsed := s₂.slotsUsed } : State).setVm s₂.vm), Ls ++ L, c0 + mc, s0 + ms⟩,
      ⟨X.admits, X.cas, X.clock, X.frames, X.room, X.hears, X.method, X.code, (X.here.setHeapUsed s₂.heap s₂.slotsUsed).setVm hW'.alike, X.tail, State.WarmedH.trans X.warmed hW', X.limits, X.bytes, X.same.trans (hsame.setVm s.vm)⟩,
      ⟨g, mk, s₂, L, rfl, rfl, hqc, rfl, hL, rfl, rfl⟩, ?_⟩
    show Steps p.tables e below _ ((({ U with heap := s₂.heap, slotsUsed := s₂.slotsUsed } : State).setVm s₂.vm).setTop { g with pc := g.pc + len₂, stack := v.toList ++ g.stack })
    rw [← hs₂]
    exact hsteps
  · obtain ⟨e2, q2, q3, q4, q5, q6⟩ := id hsm
    have e3 : s₂ = ({ (U.calling g mk a).setFrames s₂.frames with heap := s₂.heap, slotsUsed := s₂.slotsUsed } : State).setVm s₂.vm := by
      have : s₂ = ({ s₂ with vm := (U.calling g mk a).vm } : State).setVm s₂.vm := rfl
      rw [e2] at this
      exact this
    have hf₂ : s₂.frames = .throwing q :: .java g :: U.frames.tail := hend
    have hW' : U.WarmedH s₂.vm := hW₂
    have hs₂ : s₂ = ((({ U with heap := s₂.heap, slotsUsed := s₂.slotsUsed } : State).setVm s₂.vm).setTop g).pushFrame (.throwing q) := by
      refine e3.trans ?_
      rw [hf₂, State.calling_eq h.top, State.setFrames_setFrames, State.pushFrame, State.frames_setTop _ hr', State.setTop_of_frames _ hr', State.setFrames_setFrames, hr]
      rfl
    have hsame : U.sameButNew ({ U with heap := s₂.heap, slotsUsed := s₂.slotsUsed } : State) L mc ms := by
      refine ⟨?_, q2, q3, q4, q5, q6⟩
      obtain ⟨t, ht, -⟩ := State.frames_cons hr
      show ({ U with heap := s₂.heap, slotsUsed := s₂.slotsUsed } : State) = { U.setFrames U.frames with heap := s₂.heap, slotsUsed := s₂.slotsUsed }
      rw [State.setFrames_self ht]
    subst hg
    refine Or.inr ⟨q, ⟨(({ U with heap := s₂.heap, slotsUsed := s₂.slotsUsed } : State).setVm s₂.vm), Ls ++ L, c0 + mc, s0 + ms⟩,
      ⟨X.admits, X.cas, X.clock, X.frames, X.room, X.hears, X.method, X.code, (X.here.setHeapUsed s₂.heap s₂.slotsUsed).setVm hW'.alike, X.tail, State.WarmedH.trans X.warmed hW', X.limits, X.bytes, X.same.trans (hsame.setVm s.vm)⟩,
      ⟨g, mk, s₂, L, E, ce, rfl, rfl, hx, hce, hcv, hcl, rfl, hL, rfl, rfl⟩, ?_⟩
    show Steps p.tables e below _ (((({ U with heap := s₂.heap, slotsUsed := s₂.slotsUsed } : State).setVm s₂.vm).setTop g).pushFrame (.throwing q))
    rw [← hs₂]
    exact hsteps
end
variable {p : Program} {l : Launch} {e : Env} {R : Room} {s : State} {m : MethodId} {args : Array Value} {below : List Frame} {meth : Method} {c : Code} {T : State} {H : Heap} {locs : List Loc} {cells slots : Nat}
theorem qx_callVX (X : Stand p l e R s m args below meth c T locs cells slots) (hexec : p.tables.exec = Jvm.exec) {own C : String} {index : Nat} {y : MethodName} {bytes : ByteArray} {maxL : Nat} {ret : Option FieldType} {hh : List (Nat × Nat × Nat × Nat)}
    (hown : s.vm.findClass own = some m.cls) (hlink : (Cond.methodLink own index y).before args s = true) (hinst : (Cond.instanceMethod y).before args s = true) (hsel : (Cond.selects C y y).before args s = true)
    (hcode : (Cond.codeWith y bytes maxL ret hh).before args s = true) (hy : y.cls ≠ "java/lang/invoke/MethodHandle" ∧ y.cls ≠ "java/lang/invoke/VarHandle")
    {W9 : Nat} {Pre : Pt → Array Value → Prop} {Post : Pt → Array Value → Option Value → Pt → Prop} {PostX : Pt → Array Value → Addr → Pt → Prop} (hK : qx_Back l R p e below s args y 3 W9 Pre Post PostX)
    {b : Addr} {cellB : Cell} (hcell : T.heap[b]? = some cellB) (hobj : cellB.vm.isStatics = false) (hcls : s.vm.findClass C = some cellB.cls)
    {g : JFrame} (hg : g.method = m) (hsize : g.locals.size = c.maxLocals) {argsL rest : List Value} (hlen : ∀ sig, parseMethodDescriptor y.desc = some sig → argsL.length = sig.parameters.length)
    (hstack : g.stack = argsL.reverse ++ .ref b :: rest) (hW : 2 * g.monitorRoom + (rest.map fun v => v.category).sum ≤ W9) (hdg : decode c.code g.pc = .ok (.invokevirtual index, 3))
    (hpre : ∀ vm₁, s.WarmedH vm₁ → Pre ⟨T.setVm vm₁, locs, cells, slots⟩ (Value.ref b :: argsL).toArray) :
    (∃ (v : Option Value) (vm₁ : Vm) (B : Pt), s.WarmedH vm₁ ∧ Stand p l e R s m args below meth c B.U B.locs B.cells B.slots ∧ Post ⟨T.setVm vm₁, locs, cells, slots⟩ (Value.ref b :: argsL).toArray v B ∧
      ∀ target, Steps p.tables e below (B.U.setTop { g with pc := g.pc + 3, stack := v.toList ++ rest }) target → Steps p.tables e below (T.setTop g) target) ∨
    (∃ (q : Addr) (vm₁ : Vm) (B : Pt), s.WarmedH vm₁ ∧ Stand p l e R s m args below meth c B.U B.locs B.cells B.slots ∧ PostX ⟨T.setVm vm₁, locs, cells, slots⟩ (Value.ref b :: argsL).toArray q B ∧
      Steps p.tables e below (T.setTop g) ((B.U.setTop { g with stack := rest }).pushFrame (.throwing q))) := by
  obtain ⟨mk, methM, hnamed, hmethM, hstM, habM⟩ := Cond.instanceMethod_spec hinst
  obtain ⟨m8, methM', cM, hn8, hmethM', -, -, -, -, -, -, hsigM⟩ := Cond.codeWith_spec hcode
  cases Option.some.inj (hn8.symm.trans hnamed)
  cases hmethM.symm.trans hmethM'
  obtain ⟨c2, r2, m2, q1, q2, q3, q4, kP, hkP, hkPi⟩ := Cond.selects_spec hsel
  cases hcls.symm.trans q1
  cases (State.methodFound?_of_named hnamed hy).symm.trans q2
  cases hnamed.symm.trans q3
  have hselP : selectMethod e.platform s.vm cellB.cls mk = .method mk := by rw [Launch.admits_selectMethod X.admits]; exact q4
  obtain ⟨vm₁, X₁, hstep₁⟩ := X.invokevirtual hexec hown hlink hnamed hmethM hstM hkP hkPi hy (a := b) (cell := cellB) hcell
    (fun z h => by rw [h] at hobj; cases hobj) hselP hmethM habM hkP hkPi (g := g) hg (argsL := argsL) (rest := rest) (hlen _ hsigM) hstack hdg
  rcases hK m meth c ⟨T.setVm vm₁, locs, cells, slots⟩ { g with stack := rest } (.invokevirtual index) mk (Value.ref b :: argsL).toArray X₁ hg hsize hdg hW (X₁.named hnamed) (hpre vm₁ X₁.warmed) with ⟨v, B, X', hpost, hsteps⟩ | ⟨q, B, X', hpost, hsteps⟩
  · exact Or.inl ⟨v, vm₁, B, X₁.warmed, X', hpost, fun target h => hstep₁ _ fun acts => by rw [doInvoke_state]; exact hsteps.trans h⟩
  · exact Or.inr ⟨q, vm₁, B, X₁.warmed, X', hpost, hstep₁ _ fun acts => by rw [doInvoke_state]; exact hsteps⟩
theorem qx_callSX (X : Stand p l e R s m args below meth c T locs cells slots) (hexec : p.tables.exec = Jvm.exec) {own : String} {index : Nat} {y : MethodName} {bytes : ByteArray} {maxL : Nat} {ret : Option FieldType} {hh : List (Nat × Nat × Nat × Nat)}
    (hown : s.vm.findClass own = some m.cls) (hlink : (Cond.methodLink own index y).before args s = true) (hstat : (Cond.static y).before args s = true) (hinit : (Cond.initialized y.cls).before args s = true)
    (hcode : (Cond.codeWith y bytes maxL ret hh).before args s = true) (hy : y.cls ≠ "java/lang/invoke/MethodHandle" ∧ y.cls ≠ "java/lang/invoke/VarHandle")
    {W9 : Nat} {Pre : Pt → Array Value → Prop} {Post : Pt → Array Value → Option Value → Pt → Prop} {PostX : Pt → Array Value → Addr → Pt → Prop} (hK : qx_Back l R p e below s args y 3 W9 Pre Post PostX)
    {g : JFrame} (hg : g.method = m) (hsize : g.locals.size = c.maxLocals) {argsL rest : List Value} (hlen : ∀ sig, parseMethodDescriptor y.desc = some sig → argsL.length = sig.parameters.length)
    (hstack : g.stack = argsL.reverse ++ rest) (hW : 2 * g.monitorRoom + (rest.map fun v => v.category).sum ≤ W9) (hdg : decode c.code g.pc = .ok (.invokestatic index, 3))
    (hpre : ∀ vm₁, s.WarmedH vm₁ → Pre ⟨T.setVm vm₁, locs, cells, slots⟩ argsL.toArray) :
    (∃ (v : Option Value) (vm₁ : Vm) (B : Pt), s.WarmedH vm₁ ∧ Stand p l e R s m args below meth c B.U B.locs B.cells B.slots ∧ Post ⟨T.setVm vm₁, locs, cells, slots⟩ argsL.toArray v B ∧
      ∀ target, Steps p.tables e below (B.U.setTop { g with pc := g.pc + 3, stack := v.toList ++ rest }) target → Steps p.tables e below (T.setTop g) target) ∨
    (∃ (q : Addr) (vm₁ : Vm) (B : Pt), s.WarmedH vm₁ ∧ Stand p l e R s m args below meth c B.U B.locs B.cells B.slots ∧ PostX ⟨T.setVm vm₁, locs, cells, slots⟩ argsL.toArray q B ∧
      Steps p.tables e below (T.setTop g) ((B.U.setTop { g with stack := rest }).pushFrame (.throwing q))) := by
  obtain ⟨mk, methM, cM, hnamed, hmethM, -, -, -, -, -, -, hsigM⟩ := Cond.codeWith_spec hcode
  have hstatic : methM.isStatic = true := Cond.static_spec hnamed hmethM hstat
  obtain ⟨kP, hkP, -⟩ := className_of_methodNamed hnamed
  have hinitP : kP.init = .initialized := Cond.initialized_spec (findClass_of_methodNamed hnamed) hkP hinit
  obtain ⟨vm₁, X₁, hstep₁⟩ := X.invokestatic hexec hown hlink hnamed hmethM hstatic hkP hinitP hy (g := g) hg (argsL := argsL) (rest := rest) (hlen _ hsigM) hstack hdg
  rcases hK m meth c ⟨T.setVm vm₁, locs, cells, slots⟩ { g with stack := rest } (.invokestatic index) mk argsL.toArray X₁ hg hsize hdg hW (X₁.named hnamed) (hpre vm₁ X₁.warmed) with ⟨v, B, X', hpost, hsteps⟩ | ⟨q, B, X', hpost, hsteps⟩
  · exact Or.inl ⟨v, vm₁, B, X₁.warmed, X', hpost, fun target h => hstep₁ _ fun acts => by rw [doInvoke_state]; exact hsteps.trans h⟩
  · exact Or.inr ⟨q, vm₁, B, X₁.warmed, X', hpost, hstep₁ _ fun acts => by rw [doInvoke_state]; exact hsteps⟩
theorem qx_callVW (X : Stand p l e R s m args below meth c T locs cells slots) (hexec : p.tables.exec = Jvm.exec) {own C : String} {index : Nat} {y : MethodName} {bytes : ByteArray} {maxL : Nat} {ret : Option FieldType} {hh : List (Nat × Nat × Nat × Nat)}
    (hown : s.vm.findClass own = some m.cls) (hlink : (Cond.methodLink own index y).before args s = true) (hinst : (Cond.instanceMethod y).before args s = true) (hsel : (Cond.selects C y y).before args s = true)
    (hcode : (Cond.codeWith y bytes maxL ret hh).before args s = true) (hy : y.cls ≠ "java/lang/invoke/MethodHandle" ∧ y.cls ≠ "java/lang/invoke/VarHandle")
    {W9 : Nat} {Pre : Pt → Array Value → Prop} {Post : Pt → Array Value → Option Value → Pt → Prop} (hK : Back l R p e below s args y 3 W9 Pre Post)
    {b : Addr} {cellB : Cell} (hcell : T.heap[b]? = some cellB) (hobj : cellB.vm.isStatics = false) (hcls : s.vm.findClass C = some cellB.cls)
    {g : JFrame} (hg : g.method = m) (hsize : g.locals.size = c.maxLocals) {argsL rest : List Value} (hlen : ∀ sig, parseMethodDescriptor y.desc = some sig → argsL.length = sig.parameters.length)
    (hstack : g.stack = argsL.reverse ++ .ref b :: rest) (hW : 2 * g.monitorRoom + (rest.map fun v => v.category).sum ≤ W9) (hdg : decode c.code g.pc = .ok (.invokevirtual index, 3))
    (hpre : ∀ vm₁, s.WarmedH vm₁ → Pre ⟨T.setVm vm₁, locs, cells, slots⟩ (Value.ref b :: argsL).toArray) :
    ∃ (v : Option Value) (vm₁ : Vm) (B : Pt), s.WarmedH vm₁ ∧ Stand p l e R s m args below meth c B.U B.locs B.cells B.slots ∧ Post ⟨T.setVm vm₁, locs, cells, slots⟩ (Value.ref b :: argsL).toArray v B ∧
      ∀ target, Steps p.tables e below (B.U.setTop { g with pc := g.pc + 3, stack := v.toList ++ rest }) target → Steps p.tables e below (T.setTop g) target := by
  obtain ⟨mk, methM, hnamed, hmethM, hstM, habM⟩ := Cond.instanceMethod_spec hinst
  obtain ⟨m8, methM', cM, hn8, hmethM', -, -, -, -, -, -, hsigM⟩ := Cond.codeWith_spec hcode
  cases Option.some.inj (hn8.symm.trans hnamed)
  cases hmethM.symm.trans hmethM'
  obtain ⟨c2, r2, m2, q1, q2, q3, q4, kP, hkP, hkPi⟩ := Cond.selects_spec hsel
  cases hcls.symm.trans q1
  cases (State.methodFound?_of_named hnamed hy).symm.trans q2
  cases hnamed.symm.trans q3
  have hselP : selectMethod e.platform s.vm cellB.cls mk = .method mk := by rw [Launch.admits_selectMethod X.admits]; exact q4
  obtain ⟨vm₁, X₁, hstep₁⟩ := X.invokevirtual hexec hown hlink hnamed hmethM hstM hkP hkPi hy (a := b) (cell := cellB) hcell
    (fun z h => by rw [h] at hobj; cases hobj) hselP hmethM habM hkP hkPi (g := g) hg (argsL := argsL) (rest := rest) (hlen _ hsigM) hstack hdg
  obtain ⟨v, B, X', hpost, hsteps⟩ := hK m meth c ⟨T.setVm vm₁, locs, cells, slots⟩ { g with stack := rest } (.invokevirtual index) mk (Value.ref b :: argsL).toArray X₁ hg hsize hdg hW (X₁.named hnamed) (hpre vm₁ X₁.warmed)
  exact ⟨v, vm₁, B, X₁.warmed, X', hpost, fun target h => hstep₁ _ fun acts => by rw [doInvoke_state]; exact hsteps.trans h⟩
abbrev qx_CVW (R : Room) (s : State) (args : Array Value) (own C : String) (index : Nat) (y : MethodName) (bytes : ByteArray) (maxL : Nat) (ret : Option FieldType) (hh : List (Nat × Nat × Nat × Nat)) (ws : List Cond) (rm : Room) (mc ms n : Nat) : Prop :=
  (rm.cells = mc ∧ rm.slots = ms ∧ rm.frames + 1 ≤ R.frames ∧ 8 + (maxL + 11) + rm.locals ≤ R.locals ∧ (∀ w ∈ ws, ∀ (a' : Array Value) (U : State), s.WarmedH U.vm → w.before a' U = true) ∧ Cond.codeWith y bytes maxL ret hh ∈ ws) ∧
  (Cond.codeWith y bytes maxL ret hh).before args s = true ∧ (Cond.initialized y.cls).before args s = true ∧ (y.cls ≠ "java/lang/invoke/MethodHandle" ∧ y.cls ≠ "java/lang/invoke/VarHandle") ∧
  (∀ sig, parseMethodDescriptor y.desc = some sig → n = sig.parameters.length) ∧ (Cond.methodLink own index y).before args s = true ∧ (Cond.instanceMethod y).before args s = true ∧ (Cond.selects C y y).before args s = true
theorem qx_cwVW {own C : String} {index maxL mc ms : Nat} {y : MethodName} {bytes : ByteArray} {ret : Option FieldType} {hh : List (Nat × Nat × Nat × Nat)} {Ts ws ws' : List Cond} {rm : Room} (n : Nat) (ht : ∀ w ∈ Ts, w.before args s = true) (hT : GoodIn Ts (wsV own index C y ws)) (hw : ws = Cond.codeWith y bytes maxL ret hh :: ws') (hrc : rm.cells = mc) (hrs : rm.slots = ms)
    (hd : y.cls = C ∧ y.cls ≠ "java/lang/invoke/MethodHandle" ∧ y.cls ≠ "java/lang/invoke/VarHandle" ∧ (parseMethodDescriptor y.desc).map (fun d => d.parameters.length) = some n) (hR : rm.frames + 1 ≤ R.frames ∧ 8 + (maxL + 11) + rm.locals ≤ R.locals) :
    qx_CVW R s args own C index y bytes maxL ret hh ws rm mc ms n := by
  obtain ⟨hC, hd⟩ := hd
  subst hC
  have ok : ∀ w ∈ wsV own index y.cls y ws, w.before args s = true := fun w h => ht w (hT w h).1
  have hG : GoodIn Ts ws := fun w h => hT w (by unfold wsV; exact List.mem_append_right _ h)
  have hc : Cond.codeWith y bytes maxL ret hh ∈ ws := by rw [hw]; exact List.mem_cons_self
  refine ⟨⟨hrc, hrs, hR.1, hR.2, pay_in ht hG, hc⟩, ht _ (hG _ hc).1, ok _ (by simp [wsV]), ⟨hd.1, hd.2.1⟩, fun sig h => ?_, ok _ (by simp [wsV]), ok _ (by simp [wsV]), ok _ (by simp [wsV])⟩
  have h2 := hd.2.2
  rw [h] at h2
  exact (Option.some.inj h2).symm
theorem qx_runVW {y : MethodName} {bytes cc : ByteArray} {maxL nL mc ms n index : Nat} {ret : Option FieldType} {hh : List (Nat × Nat × Nat × Nat)} {ws : List Cond} {rm : Room} {Pc : Array Value → State → Prop} {Qc : Array Value → State → Outcome → State → Prop} {free : Addr → Prop} {Ts : List Cond} {own C : String} {b : Addr} {As rest : List Value} {g : JFrame}
    (S : CallFix p m c cc nL s args Ts own) (hM : Met l y ws rm Pc Qc mc ms free) (cw : qx_CVW R s args own C index y bytes maxL ret hh ws rm mc ms n) (hp : PreV s H C b Pc As)
    (hg : g.method = m) (hn : As.length = n) (hsize : g.locals.size = nL) (hstack : g.stack = As.reverse ++ .ref b :: rest) (hW : 2 * g.monitorRoom + (rest.map fun v => v.category).sum ≤ 8) (hdg : decode cc g.pc = .ok (.invokevirtual index, 3)) (hf : cells + mc ≤ R.cells ∧ slots + ms ≤ R.slots) :
    va_Run p l e R s m args below meth c H locs cells slots mc ms g rest (Qc (Value.ref b :: As).toArray) free := by
  obtain ⟨⟨hrc, hrs, hfr, hlo, hws, hcw⟩, hcode, hini, hy, hlen, hl, hin, hse⟩ := cw
  have hK : Back l R p e below s args y 3 8 (PreOf R mc ms Pc) (PostOf Qc mc ms free) := va_backW (hh := hh) (bytes := bytes) (maxL := maxL) (ret := ret) hM hp.1 hrc hrs hfr hlo hws hcw (fun a' U hW => word_at hW (Or.inl (by first | rfl | simp [Cond.onTables, Cond.keeps, Cond.steady])) hini)
  obtain ⟨hx, hb, hml, ho, -⟩ := S
  obtain ⟨-, ⟨cellB, hcB, hoB, hclB⟩, hPc⟩ := hp
  intro T hT X
  obtain ⟨v, vm₁, ⟨U', l2, c2, s2⟩, hW₁, X', ⟨g', mk, t, L, e1, e2, hq, h1, hL, h2, h3⟩, st⟩ := qx_callVW X hx (C := C) (hh := hh) (bytes := bytes) (maxL := maxL) (ret := ret) ho hl hin hse hcode hy hK (by rw [hT]; exact hcB) hoB hclB hg (hsize.trans hml.symm) (argsL := As) (rest := rest) (fun sig h => hn.trans (hlen sig h)) hstack hW (by rw [hb]; exact hdg)
    (fun vm₁ hW₁ => ⟨hf.1, hf.2, hPc (T.setVm vm₁) hT hW₁⟩)
  dsimp only [Pt.U, Pt.locs, Pt.cells, Pt.slots] at X' e1 e2 h1 h2 h3 st
  subst h1; subst h2; subst h3
  exact ⟨v, (T.setVm vm₁).calling g' mk (Value.ref b :: As).toArray, t, U', L, hT, X', hL, e1, e2, hq, st⟩
section
variable {y : MethodName} {bytes cc : ByteArray} {maxL nL mc ms n index : Nat} {ret : Option FieldType} {ws : List Cond} {rm : Room} {Pc : Array Value → State → Prop} {Qc : Array Value → State → Outcome → State → Prop} {XC : String → Addr → State → State → Prop} {free : Addr → Prop} {Ts : List Cond} {own C : String} {b : Addr} {As rest : List Value} {g : JFrame}
theorem qx_runVX {hh : List (Nat × Nat × Nat × Nat)} (S : CallFix p m c cc nL s args Ts own) (hM : qx_Met l y ws rm Pc Qc XC mc ms free) (cw : qx_CVW R s args own C index y bytes maxL ret hh ws rm mc ms n) (hp : PreV s H C b Pc As)
    (hg : g.method = m) (hn : As.length = n) (hsize : g.locals.size = nL) (hstack : g.stack = As.reverse ++ .ref b :: rest) (hW : 2 * g.monitorRoom + (rest.map fun v => v.category).sum ≤ 8) (hdg : decode cc g.pc = .ok (.invokevirtual index, 3)) (hf : cells + mc ≤ R.cells ∧ slots + ms ≤ R.slots) :
    qx_Run p l e R s m args below meth c H locs cells slots mc ms g rest (Qc (Value.ref b :: As).toArray) XC free := by
  obtain ⟨⟨hrc, hrs, hfr, hlo, hws, hcw⟩, hcode, hini, hy, hlen, hl, hin, hse⟩ := cw
  have hK : qx_Back l R p e below s args y 3 8 (PreOf R mc ms Pc) (PostOf Qc mc ms free) (qx_Post XC mc ms free) := qx_backW (hh := hh) (bytes := bytes) (maxL := maxL) (ret := ret) hM hp.1 hrc hrs hfr hlo hws hcw (fun a' U hW => word_at hW (Or.inl (by first | rfl | simp [Cond.onTables, Cond.keeps, Cond.steady])) hini)
  obtain ⟨hx, hb, hml, ho, -⟩ := S
  obtain ⟨-, ⟨cellB, hcB, hoB, hclB⟩, hPc⟩ := hp
  intro T hT X
  rcases qx_callVX X hx (C := C) (hh := hh) (bytes := bytes) (maxL := maxL) (ret := ret) ho hl hin hse hcode hy hK (by rw [hT]; exact hcB) hoB hclB hg (hsize.trans hml.symm) (argsL := As) (rest := rest) (fun sig h => hn.trans (hlen sig h)) hstack hW (by rw [hb]; exact hdg)
    (fun vm₁ hW₁ => ⟨hf.1, hf.2, hPc (T.setVm vm₁) hT hW₁⟩) with ⟨v, vm₁, ⟨U', l2, c2, s2⟩, hW₁, X', ⟨g', mk, t, L, e1, e2, hq, h1, hL, h2, h3⟩, st⟩ | ⟨q, vm₁, ⟨U', l2, c2, s2⟩, hW₁, X', ⟨g', mk, t, L, E, ce, e1, e2, hq, hce, hcv, hcl, h1, hL, h2, h3⟩, st⟩
  · dsimp only [Pt.U, Pt.locs, Pt.cells, Pt.slots] at X' e1 e2 h1 h2 h3 st
    subst h1; subst h2; subst h3
    exact Or.inl ⟨v, (T.setVm vm₁).calling g' mk (Value.ref b :: As).toArray, t, U', L, hT, X', hL, e1, e2, hq, st⟩
  · dsimp only [Pt.U, Pt.locs, Pt.cells, Pt.slots] at X' e1 e2 h1 h2 h3 st hcl
    subst h1; subst h2; subst h3
    exact Or.inr ⟨q, (T.setVm vm₁).calling g' mk (Value.ref b :: As).toArray, t, U', L, E, ce, hT, X', hL, e1, e2, hq, hce, hcv, qx_cls hW₁ hcl, st⟩
theorem qx_runSX {hh : List (Nat × Nat × Nat × Nat)} (S : CallFix p m c cc nL s args Ts own) (hM : qx_Met l y ws rm Pc Qc XC mc ms free) (cw : qx_CSW R s args own index y bytes maxL ret hh ws rm mc ms n) (hp : PreS s H Pc As)
    (hg : g.method = m) (hn : As.length = n) (hsize : g.locals.size = nL) (hstack : g.stack = As.reverse ++ rest) (hW : 2 * g.monitorRoom + (rest.map fun v => v.category).sum ≤ 8) (hdg : decode cc g.pc = .ok (.invokestatic index, 3)) (hf : cells + mc ≤ R.cells ∧ slots + ms ≤ R.slots) :
    qx_Run p l e R s m args below meth c H locs cells slots mc ms g rest (Qc As.toArray) XC free := by
  obtain ⟨⟨hrc, hrs, hfr, hlo, hws, hcw⟩, hcode, hini, hy, hlen, hl, hstt⟩ := cw
  have hK : qx_Back l R p e below s args y 3 8 (PreOf R mc ms Pc) (PostOf Qc mc ms free) (qx_Post XC mc ms free) := qx_backW (hh := hh) (bytes := bytes) (maxL := maxL) (ret := ret) hM hp.1 hrc hrs hfr hlo hws hcw (fun a' U hW => word_at hW (Or.inl (by first | rfl | simp [Cond.onTables, Cond.keeps, Cond.steady])) hini)
  obtain ⟨hx, hb, hml, ho, -⟩ := S
  intro T hT X
  rcases qx_callSX X hx (hh := hh) (bytes := bytes) (maxL := maxL) (ret := ret) ho hl hstt hini hcode hy hK hg (hsize.trans hml.symm) (argsL := As) (rest := rest) (fun sig h => hn.trans (hlen sig h)) hstack hW (by rw [hb]; exact hdg)
    (fun vm₁ hW₁ => ⟨hf.1, hf.2, hp.2 (T.setVm vm₁) hT hW₁⟩) with ⟨v, vm₁, ⟨U', l2, c2, s2⟩, hW₁, X', ⟨g', mk, t, L, e1, e2, hq, h1, hL, h2, h3⟩, st⟩ | ⟨q, vm₁, ⟨U', l2, c2, s2⟩, hW₁, X', ⟨g', mk, t, L, E, ce, e1, e2, hq, hce, hcv, hcl, h1, hL, h2, h3⟩, st⟩
  · dsimp only [Pt.U, Pt.locs, Pt.cells, Pt.slots] at X' e1 e2 h1 h2 h3 st
    subst h1; subst h2; subst h3
    exact Or.inl ⟨v, (T.setVm vm₁).calling g' mk As.toArray, t, U', L, hT, X', hL, e1, e2, hq, st⟩
  · dsimp only [Pt.U, Pt.locs, Pt.cells, Pt.slots] at X' e1 e2 h1 h2 h3 st hcl
    subst h1; subst h2; subst h3
    exact Or.inr ⟨q, (T.setVm vm₁).calling g' mk As.toArray, t, U', L, E, ce, hT, X', hL, e1, e2, hq, hce, hcv, qx_cls hW₁ hcl, st⟩
end
end VXH
theorem qx_ofWH {l : Launch} {y : MethodName} {ws ws' : List Cond} {rm : Room} {Pc : Array Value → State → Prop} {Qc : Array Value → State → Outcome → State → Prop} {XC : String → Addr → State → State → Prop} {mc ms : Nat} {free : Addr → Prop} {cc : ByteArray} {maxL : Nat} {ret : Option FieldType} {hh : List (Nat × Nat × Nat × Nat)}
    (hy : plainName y.cls = true) (hw : ws = Cond.codeWith y cc maxL ret hh :: ws')
    (body : ∀ p e s m args below meth c s₁, BodyLoose p l y (headSpec ws rm) cc maxL ret e s m args below meth c s₁ → c.maxLocals = maxL → Pc args s →
      W p l e (headSpec ws rm).room s m args below meth c s.heap [] 0 0 (qx_MQ below Qc XC args s mc ms free) (entryFrame m args maxL)) : qx_Met l y ws rm Pc Qc XC mc ms free := by
  refine MetFree.of_bodyS (code := cc) (maxLocals := maxL) (ret := ret) hy ?_ ?_
  · intro args s m h hn
    obtain ⟨m9, meth, c, hn9, h1, h2, h3, h4, -, h5, h6, -⟩ := Cond.codeWith_spec (atoms_spec (ws := ws) h _ (by rw [hw]; exact List.mem_cons_self))
    cases hn.symm.trans hn9
    exact ⟨meth, c, h1, h2, h3, h4, h5, h6⟩
  · intro p e s m args below meth c s₁ B hml hP _
    have hh0 : s₁.heap = s.heap := by rw [B.state]; rfl
    obtain ⟨t, a1, o, b1, b2, b3⟩ := body p e s m args below meth c s₁ B hml hP s₁ hh0 (Stand.of_body B)
    exact ⟨t, o, a1, b1, b2, b3⟩
/-! ===== END ===== -/
end
section
/-! ===== the abstract machine: cells by places, steps as predicate transformers; every text here is ours ===== -/
abbrev q_C : Type := (Nat × Nat × ((Nat → Int32) ⊕ (Nat → Int64))) ⊕ (Nat × List Value)
abbrev q_L : Type := List (Nat × Value)
abbrev q_O : Type := Option Value ⊕ Value
abbrev q_K : Type := q_O → List q_C → Prop
abbrev q_N : Type := Nat → q_L → List Value → List q_C → Nat → Nat → Prop
abbrev q_I : Type := Nat × Instr × Nat × Int32 × Nat
abbrev q_P : Type := List Value → List q_C → q_K → Prop
/-- a callee: arguments, receiver (a class; 97 a new object, 98 a text, 99 none), depth, locals, cells, slots, footprint, what it does -/
abbrev q_S : Type := Nat × Nat × Nat × Nat × Nat × Nat × List (Nat ⊕ (Nat × Nat)) × q_P
/-- good words of the tables -/
def q_G : List Cond := lw_tbl.filter goodWord
theorem q_G_mem {w : Cond} (h : w ∈ lw_tbl) (hg : goodWord w = true) : w ∈ q_G := List.mem_filter.mpr ⟨h, hg⟩
theorem q_G_i {w : Cond} (i : Nat) (h : tables_1[i]? = some w) (hg : goodWord w = true) : w ∈ q_G := q_G_mem (List.mem_append_right _ (List.mem_of_getElem? h)) hg
theorem q_G_s {y : MethodName} (i : Nat) {n : Nat} (h : lw_privs[i]? = some (y, n)) : Cond.selects y.cls y y ∈ q_G :=
  q_G_mem (List.mem_append_left _ (List.mem_map.mpr ⟨(y, n), List.mem_of_getElem? h, rfl⟩)) rfl
theorem q_G_good {ws : List Cond} (h : ∀ w ∈ ws, w ∈ q_G) : GoodIn q_G ws := fun w hw => ⟨h w hw, good_of_word (List.mem_filter.mp (h w hw)).2⟩
/-- kinds of arrays -/
def q_kt : Nat → FieldType
  | 0 => .byte
  | 1 => .int
  | 2 => .long
  | _ => .boolean
def q_tys (cy : Nat → ClassId) : List (ClassId × FieldType) := [(cy 0, .byte), (cy 1, .int), (cy 2, .long), (cy 3, .boolean)]
def q_cv (ad xd : Nat → Nat) : Value → Value
  | .int x => .int x
  | .long x => .long x
  | .float x => .float x
  | .double x => .double x
  | .null => .null
  | .ref p => .ref (ad p)
  | .retAddr e => .ref (xd e)
theorem q_cv_cat (ad xd : Nat → Nat) (v : Value) : (q_cv ad xd v).category = v.category := by cases v <;> rfl
def q_cp (ad xd : Nat → Nat) (q : Nat × Value) : Nat × Value := (q.1, q_cv ad xd q.2)
def q_cE (cy : Nat → ClassId) (ad xd : Nat → Nat) : q_C → va_E
  | .inl (k, n, .inl f) => .inl (cy k, n, .inl f)
  | .inl (k, n, .inr f) => .inl (cy k, n, .inr (.inl f))
  | .inr (c, fs) => .inr (c, fs.map (q_cv ad xd))
def q_cw (cy : Nat → ClassId) (ad xd : Nat → Nat) : Nat → List q_C → va_W
  | _, [] => []
  | i, c :: l => (ad i, q_cE cy ad xd c) :: q_cw cy ad xd (i + 1) l
theorem q_cw_get {cy : Nat → ClassId} {ad xd : Nat → Nat} : ∀ (l : List q_C) (i k : Nat), (q_cw cy ad xd i l)[k]? = (l[k]?).map (fun c => (ad (i + k), q_cE cy ad xd c))
  | [], i, k => by simp [q_cw]
  | c :: l, i, 0 => by simp [q_cw]
  | c :: l, i, k + 1 => by
    rw [q_cw, List.getElem?_cons_succ, List.getElem?_cons_succ, q_cw_get l (i + 1) k]
    rw [show i + 1 + k = i + (k + 1) by omega]
theorem q_cw_len {cy : Nat → ClassId} {ad xd : Nat → Nat} : ∀ (l : List q_C) (i : Nat), (q_cw cy ad xd i l).length = l.length
  | [], i => rfl
  | c :: l, i => by rw [q_cw, List.length_cons, List.length_cons, q_cw_len l (i + 1)]
theorem q_cw_set {cy : Nat → ClassId} {ad xd : Nat → Nat} (l : List q_C) (p : Nat) (c : q_C) : (q_cw cy ad xd 0 l).set p (ad p, q_cE cy ad xd c) = q_cw cy ad xd 0 (l.set p c) := by
  apply List.ext_getElem?
  intro k
  rw [q_cw_get, List.getElem?_set, List.getElem?_set, q_cw_get, q_cw_len]
  by_cases h : p = k
  · subst h
    by_cases h2 : p < l.length
    · simp [h2]
    · simp [h2]
  · simp [h]
/-- lists, by places -/
def q_at {α : Type} : List α → Nat → Option α
  | [], _ => none
  | c :: _, 0 => some c
  | _ :: l, n + 1 => q_at l n
theorem q_at_eq {α : Type} : ∀ (l : List α) (n : Nat), q_at l n = l[n]?
  | [], n => by simp [q_at]
  | c :: l, 0 => by simp [q_at]
  | c :: l, n + 1 => by rw [q_at, q_at_eq l n, List.getElem?_cons_succ]
def q_set {α : Type} (c : α) : List α → Nat → (List α → Prop) → Prop
  | [], _, _ => False
  | _ :: l, 0, k => k (c :: l)
  | d :: l, n + 1, k => q_set c l n (fun l' => k (d :: l'))
theorem q_set_eq {α : Type} (c : α) : ∀ (l : List α) (n : Nat) (k : List α → Prop), q_set c l n k → n < l.length ∧ k (l.set n c)
  | [], n, k, h => h.elim
  | d :: l, 0, k, h => ⟨Nat.succ_pos _, h⟩
  | d :: l, n + 1, k, h => by
    obtain ⟨h1, h2⟩ := q_set_eq c l n _ h
    exact ⟨Nat.succ_lt_succ h1, h2⟩
/-- the locals -/
def q_lk {α : Type} (i : Nat) : List (Nat × α) → Option α
  | [] => none
  | (j, v) :: l => match Nat.beq j i with
    | true => some v
    | false => q_lk i l
theorem q_lk_mem {α : Type} {i : Nat} {v : α} : ∀ {l : List (Nat × α)}, q_lk i l = some v → (i, v) ∈ l
  | [], h => by simp [q_lk] at h
  | (j, w) :: l, h => by
    rw [q_lk] at h
    split at h
    · next hb => cases h; rw [Nat.eq_of_beq_eq_true hb]; exact List.mem_cons_self
    · exact List.mem_cons_of_mem _ (q_lk_mem h)
def q_put (i : Nat) (v : Value) (two : Bool) : q_L → Bool → (q_L → Prop) → Prop
  | [], f, k => match f with
    | false => k [(i, v)]
    | true => k []
  | (j, w) :: l, f, k => match Nat.beq j i with
    | true => match f with
      | true => q_put i v two l true k
      | false => q_put i v two l true (fun l' => k ((i, v) :: l'))
    | false => match (Nat.beq (j + 1) i && Nat.beq w.category 2) || (two && Nat.beq j (i + 1)) with
      | true => q_put i v two l f k
      | false => q_put i v two l f (fun l' => k ((j, w) :: l'))
def q_keep (i : Nat) (two : Bool) (q : Nat × Value) : Prop := q.1 ≠ i ∧ ¬ (q.1 + 1 = i ∧ q.2.category = 2) ∧ (two = true → q.1 ≠ i + 1)
theorem q_put_ok (i : Nat) (v : Value) (two : Bool) : ∀ (l : q_L) (f : Bool) (k : q_L → Prop), q_put i v two l f k → ∃ l', k l' ∧ ∀ q ∈ l', q = (i, v) ∨ (q ∈ l ∧ q_keep i two q)
  | [], false, k, h => ⟨_, h, fun q hq => Or.inl (List.mem_singleton.mp hq)⟩
  | [], true, k, h => ⟨_, h, fun q hq => nomatch hq⟩
  | (j, w) :: l, f, k, h => by
    have up : ∀ {q : Nat × Value}, (q = (i, v) ∨ (q ∈ l ∧ q_keep i two q)) → (q = (i, v) ∨ (q ∈ (j, w) :: l ∧ q_keep i two q)) := fun h => h.elim Or.inl (fun h => Or.inr ⟨List.mem_cons_of_mem _ h.1, h.2⟩)
    unfold q_put at h
    split at h
    · split at h
      · obtain ⟨l', h1, h2⟩ := q_put_ok i v two l true k h
        exact ⟨l', h1, fun q hq => up (h2 q hq)⟩
      · obtain ⟨l', h1, h2⟩ := q_put_ok i v two l true _ h
        refine ⟨_, h1, fun q hq => ?_⟩
        rcases List.mem_cons.mp hq with e | hq
        · exact Or.inl e
        · exact up (h2 q hq)
    · next hb =>
      split at h
      · obtain ⟨l', h1, h2⟩ := q_put_ok i v two l f k h
        exact ⟨l', h1, fun q hq => up (h2 q hq)⟩
      · next hc =>
        obtain ⟨l', h1, h2⟩ := q_put_ok i v two l f _ h
        refine ⟨_, h1, fun q hq => ?_⟩
        rcases List.mem_cons.mp hq with e | hq
        · subst e
          refine Or.inr ⟨List.mem_cons_self, fun z => ?_, fun z => ?_, fun z1 z2 => ?_⟩
          · have : Nat.beq j i = true := Nat.beq_eq.mpr z
            rw [this] at hb; cases hb
          · have h1 : Nat.beq (j + 1) i = true := Nat.beq_eq.mpr z.1
            have h2 : Nat.beq w.category 2 = true := Nat.beq_eq.mpr z.2
            rw [h1, h2] at hc; simp at hc
          · have h1 : Nat.beq j (i + 1) = true := Nat.beq_eq.mpr z2
            rw [h1, z1] at hc; simp at hc
        · exact up (h2 q hq)
/-- the locals that live on, in a given order -/
def q_pk (lv : q_L) : List Nat → (q_L → Prop) → Prop
  | [], k => k []
  | i :: is, k => match q_lk i lv with
    | some v => q_pk lv is (fun l => k ((i, v) :: l))
    | none => False
theorem q_pk_ok (lv : q_L) : ∀ (is : List Nat) (k : q_L → Prop), q_pk lv is k → ∃ l', k l' ∧ ∀ q ∈ l', q ∈ lv
  | [], k, h => ⟨[], h, fun _ h => nomatch h⟩
  | i :: is, k, h => by
    unfold q_pk at h
    split at h
    · next v hv =>
      obtain ⟨l', h1, h2⟩ := q_pk_ok lv is _ h
      refine ⟨_, h1, fun q hq => ?_⟩
      rcases List.mem_cons.mp hq with e | hq
      · rw [e]; exact q_lk_mem hv
      · exact h2 q hq
    · exact h.elim
/-- the types of the fields -/
def q_fty : Nat → Nat → FieldType
  | 0 => tyX0 | 1 => tyX1 | 2 => tyX2 | 3 => tyX3 | 4 => tyX4 | 5 => tyX5 | 6 => tyX6 | 7 => tyX7 | 8 => tyX8 | 9 => tyX9 | 10 => tyX10 | 11 => tyX11 | 12 => tyX12 | 13 => tyX13 | _ => tyX14
def q_cin : Nat → Nat
  | 0 => 8 | 1 => 8 | 2 => 9 | 3 => 8 | 4 => 4 | 5 => 7 | 6 => 7 | 7 => 12 | 8 => 8 | 9 => 9 | 10 => 7 | 11 => 15 | 12 => 29 | 13 => 8 | _ => 53
/-- a code row: its instruction is decoded there, its number and its target are as told -/
def q_aux (pc : Nat) (i : Instr) (c : Int32) (t : Nat) : Bool := match i with
  | .iconst n => decide (Int32.ofInt n = c)
  | .bipush n => decide ((Int8.ofInt n).toInt32 = c)
  | .sipush n => decide ((Int16.ofInt n).toInt32 = c)
  | .iinc _ n => decide (Int32.ofInt n = c)
  | .goto off => decide ((pc : Int) + off = (t : Int))
  | .if_icmp _ off => decide ((pc : Int) + off = (t : Int))
  | .ifCond _ off => decide ((pc : Int) + off = (t : Int))
  | .ifnull off => decide ((pc : Int) + off = (t : Int))
  | .ifnonnull off => decide ((pc : Int) + off = (t : Int))
  | _ => true
/-- an instruction's length, 0 where it is open -/
def q_ilen (i : Instr) : Nat := match i with
  | .bipush _ => 2 | .sipush _ => 3 | .ldc _ => 2 | .ldc_w _ => 3 | .ldc2_w _ => 3 | .iload _ => 2 | .lload _ => 2 | .aload _ => 2 | .istore _ => 2 | .lstore _ => 2 | .astore _ => 2 | .iinc _ _ => 3
  | .goto _ => 3 | .ifCond _ _ => 3 | .if_icmp _ _ => 3 | .ifnull _ => 3 | .ifnonnull _ => 3 | .tableswitch _ _ _ _ => 0 | .getfield _ => 3 | .putfield _ => 3 | .getstatic _ => 3 | .new _ => 3 | .newarray _ => 2
  | .invokevirtual _ => 3 | .invokestatic _ => 3 | .invokespecial _ => 3
  | _ => 1
def q_okI (cc : ByteArray) (e : q_I) : Bool := decide (decode cc e.1 = .ok (e.2.1, e.2.2.1)) && (q_aux e.1 e.2.1 e.2.2.2.1 e.2.2.2.2 && (Nat.beq (q_ilen e.2.1) 0 || Nat.beq (q_ilen e.2.1) e.2.2.1))
end
section
/-! ===== one step, a call, a run ===== -/
/-- code, cuts (with what lives there), locals, fields, callees, long constants, int constants, text constants, constant rows, statics, depth, cells, slots, return type, handlers, made classes, Object's init, 1 and the class of a constructor (else 0) -/
abbrev q_E : Type := List q_I × List (Nat × List Nat) × Nat × List (Nat × Nat × Nat) × List (Nat × q_S) × List (Nat × Int64) × List (Nat × Int32) × List (Nat × Nat) × List (Nat × Nat × (Nat → Int32)) × List (Nat × Nat) × Nat × Nat × Nat × Option FieldType × List (Nat × Nat × Nat × Nat) × List (Nat × Nat) × Nat × Nat
def q_code (E : q_E) : List q_I := E.1
def q_cuts (E : q_E) : List (Nat × List Nat) := E.2.1
def q_nL (E : q_E) : Nat := E.2.2.1
def q_fl (E : q_E) : List (Nat × Nat × Nat) := E.2.2.2.1
def q_sg (E : q_E) : List (Nat × q_S) := E.2.2.2.2.1
def q_lc (E : q_E) : List (Nat × Int64) := E.2.2.2.2.2.1
def q_kc (E : q_E) : List (Nat × Int32) := E.2.2.2.2.2.2.1
def q_sc (E : q_E) : List (Nat × Nat) := E.2.2.2.2.2.2.2.1
def q_ct (E : q_E) : List (Nat × Nat × (Nat → Int32)) := E.2.2.2.2.2.2.2.2.1
def q_gs (E : q_E) : List (Nat × Nat) := E.2.2.2.2.2.2.2.2.2.1
def q_dp (E : q_E) : Nat := E.2.2.2.2.2.2.2.2.2.2.1
def q_RC (E : q_E) : Nat := E.2.2.2.2.2.2.2.2.2.2.2.1
def q_RS (E : q_E) : Nat := E.2.2.2.2.2.2.2.2.2.2.2.2.1
def q_rt (E : q_E) : Option FieldType := E.2.2.2.2.2.2.2.2.2.2.2.2.2.1
def q_hs (E : q_E) : List (Nat × Nat × Nat × Nat) := E.2.2.2.2.2.2.2.2.2.2.2.2.2.2.1
def q_nw (E : q_E) : List (Nat × Nat) := E.2.2.2.2.2.2.2.2.2.2.2.2.2.2.2.1
def q_oi (E : q_E) : Nat := E.2.2.2.2.2.2.2.2.2.2.2.2.2.2.2.2.1
def q_in (E : q_E) : Nat := E.2.2.2.2.2.2.2.2.2.2.2.2.2.2.2.2.2
def q_ns : List Nat := [0, 1, 2, 3, 4, 5, 6, 7, 8, 9, 10, 11, 12, 13, 14, 15, 16, 17, 18, 19, 20, 21, 22, 23, 24, 25, 26, 27, 28, 29, 30, 31, 32, 33, 34, 35, 36, 37, 38, 39, 40, 41, 42, 43, 44, 45, 46, 47, 48, 49, 50, 51, 52, 53, 54, 55, 56, 57, 58, 59, 60, 61, 62, 63, 64, 65, 66, 67, 68, 69, 70, 71, 72, 73, 74, 75, 76, 77, 78, 79, 80, 81, 82, 83, 84, 85, 86, 87, 88, 89, 90, 91, 92, 93, 94, 95, 96, 97, 98, 99, 100, 101, 102, 103, 104, 105, 106, 107, 108, 109, 110, 111, 112, 113, 114, 115, 116, 117, 118, 119, 120, 121, 122, 123, 124, 125, 126, 127, 128, 129, 130, 131, 132, 133, 134, 135, 136, 137, 138, 139, 140, 141, 142, 143, 144, 145, 146, 147, 148, 149, 150, 151, 152, 153, 154, 155, 156, 157, 158, 159, 160, 161, 162, 163, 164, 165, 166, 167, 168, 169, 170, 171, 172, 173, 174, 175, 176, 177, 178, 179, 180, 181, 182, 183, 184, 185, 186, 187, 188, 189, 190, 191, 192, 193, 194, 195, 196, 197, 198, 199, 200, 201, 202, 203, 204, 205, 206, 207, 208, 209, 210, 211, 212, 213, 214, 215, 216, 217, 218, 219, 220, 221, 222, 223, 224, 225, 226, 227, 228, 229, 230, 231, 232, 233, 234, 235, 236, 237, 238, 239, 240, 241, 242, 243, 244, 245, 246, 247, 248, 249]
def q_pop : Nat → List Value → List Value → (List Value → List Value → Prop) → Prop
  | 0, st, acc, k => k acc st
  | n + 1, st, acc, k => match st with
    | v :: st => q_pop n st (v :: acc) k
    | [] => False
def q_ix (p : Nat) : List Nat → List Nat → Option Nat
  | [], _ => none
  | a :: l, ns => match ns with
    | n :: ns => match Nat.beq a p with
      | true => some n
      | false => q_ix p l ns
    | [] => none
def q_sn {α : Type} (p : α) : List α → (List α → Prop) → Prop
  | [], k => k [p]
  | a :: l, k => q_sn p l (fun l' => k (a :: l'))
def q_ft (args : List Value) (aw : List q_C) : List (Nat ⊕ (Nat × Nat)) → List Nat → (List Nat → Prop) → Prop
  | [], σ, k => k σ
  | x :: fd, σ, k => match x with
    | .inl a => match q_at args a with
      | some (.ref p) => q_sn p σ (fun σ' => q_ft args aw fd σ' k)
      | _ => False
    | .inr (i, f) => match q_at σ i with
      | some p => match q_at aw p with
        | some (.inr (_, fs)) => match q_at fs f with
          | some (.ref p') => q_sn p' σ (fun σ' => q_ft args aw fd σ' k)
          | _ => False
        | _ => False
      | none => False
def q_el (a : Nat) : List Nat → Bool
  | [] => false
  | b :: l => match Nat.beq b a with
    | true => true
    | false => q_el a l
def q_nd : List Nat → Bool
  | [] => true
  | a :: l => match q_el a l with
    | true => false
    | false => q_nd l
def q_lval (σ : List Nat) (i j : Nat) (v : Value) (k : Value → Prop) : Prop := match v with
  | .ref p => match q_ix p σ q_ns with
    | some n => k (.ref n)
    | none => k (.retAddr (100 + (100 * i + j)))
  | .retAddr e => match Nat.ble 100 e with
    | true => k (.retAddr (100 + (100 * i + j)))
    | false => k (.retAddr e)
  | .int x => k (.int x)
  | .long x => k (.long x)
  | .null => k .null
  | .float x => k (.float x)
  | .double x => k (.double x)
def q_lf (σ : List Nat) (i : Nat) : List Value → Nat → (List Value → Prop) → Prop
  | [], _, k => k []
  | v :: l, j, k => match Nat.ble 100 j with
    | true => False
    | false => q_lval σ i j v (fun v' => q_lf σ i l (j + 1) (fun l' => k (v' :: l')))
def q_lcl (σ : List Nat) (i : Nat) (c : q_C) (k : q_C → Prop) : Prop := match c with
  | .inl a => k (.inl a)
  | .inr (ci, fs) => q_lf σ i fs 0 (fun fs' => k (.inr (ci, fs')))
def q_lw (aw : List q_C) (σ0 : List Nat) : List Nat → Nat → (List q_C → Prop) → Prop
  | [], _, k => k []
  | p :: σ, i, k => match q_at aw p with
    | some c => q_lcl σ0 i c (fun c' => q_lw aw σ0 σ (i + 1) (fun w => k (c' :: w)))
    | none => False
def q_la (σ : List Nat) : List Value → (List Value → Prop) → Prop
  | [], k => k []
  | v :: l, k => match v with
    | .ref p => match q_ix p σ q_ns with
      | some n => q_la σ l (fun l' => k (.ref n :: l'))
      | none => False
    | .retAddr e => e < 100 ∧ q_la σ l (fun l' => k (.retAddr e :: l'))
    | .int x => q_la σ l (fun l' => k (.int x :: l'))
    | .long x => q_la σ l (fun l' => k (.long x :: l'))
    | .null => q_la σ l (fun l' => k (.null :: l'))
    | _ => False
/-- what stood at place j of the footprint's cell i -/
def q_og (σ : List Nat) (aw : List q_C) (e : Nat) : Option Value := match q_at σ ((e - 100) / 100) with
  | some p => match q_at aw p with
    | some (.inr (_, fs)) => q_at fs ((e - 100) % 100)
    | _ => none
  | none => none
def q_gval (τ σ : List Nat) (aw : List q_C) (v : Value) (k : Value → Prop) : Prop := match v with
  | .ref n => match q_at τ n with
    | some p => k (.ref p)
    | none => False
  | .retAddr e => match Nat.ble 100 e with
    | false => k (.retAddr e)
    | true => match q_og σ aw e with
      | some (.ref p) => k (.ref p)
      | some (.retAddr x) => k (.retAddr x)
      | _ => False
  | .int x => k (.int x)
  | .long x => k (.long x)
  | .null => k .null
  | .float x => k (.float x)
  | .double x => k (.double x)
def q_gf (τ σ : List Nat) (aw : List q_C) : List Value → (List Value → Prop) → Prop
  | [], k => k []
  | v :: l, k => q_gval τ σ aw v (fun v' => q_gf τ σ aw l (fun l' => k (v' :: l')))
def q_gc (τ σ : List Nat) (aw : List q_C) (c : q_C) (k : q_C → Prop) : Prop := match c with
  | .inl a => k (.inl a)
  | .inr (ci, fs) => q_gf τ σ aw fs (fun fs' => k (.inr (ci, fs')))
def q_ap (c : q_C) : List q_C → Nat → (List q_C → Prop) → Prop
  | [], n, k => match n with
    | 0 => k [c]
    | _ + 1 => False
  | d :: l, n, k => match n with
    | 0 => k (c :: l)
    | n + 1 => q_ap c l n (fun l' => k (d :: l'))
def q_gw (τ σ : List Nat) (aw0 : List q_C) : List q_C → List Nat → List q_C → (List q_C → Prop) → Prop
  | [], _, aw, k => k aw
  | c :: w, ps, aw, k => match ps with
    | p :: ps => q_gc τ σ aw0 c (fun c' => q_ap c' aw p (fun aw' => q_gw τ σ aw0 w ps aw' k))
    | [] => False
def q_dl (ns : List Nat) : List q_C → List Nat
  | [] => ns
  | _ :: l => match q_dl ns l with
    | [] => []
    | _ :: r => r
def q_hdN : List Nat → Nat → (Nat → Prop) → Prop
  | [], _, _ => False
  | n :: ns, i, k => match i with
    | 0 => k n
    | i + 1 => q_hdN ns i k
/-- the places behind a call: the footprint, then new ones -/
def q_ext : List q_C → List Nat → List Nat → (List Nat → Prop) → Prop
  | [], σ, _, k => match σ with
    | [] => k []
    | _ :: _ => False
  | _ :: w, σ, ns, k => match σ with
    | p :: σ => q_ext w σ ns (fun l => k (p :: l))
    | [] => match ns with
      | n :: ns => q_ext w [] ns (fun l => k (n :: l))
      | [] => False
def q_v (n : Nat) (v : Value) : Bool := match v with
  | .ref p => Nat.ble (p + 1) n
  | _ => true
def q_vs (n : Nat) : List Value → Bool
  | [] => true
  | v :: l => match q_v n v with
    | true => q_vs n l
    | false => false
def q_vl (n : Nat) : q_L → Bool
  | [] => true
  | (_, v) :: l => match q_v n v with
    | true => q_vl n l
    | false => false
def q_vw (n : Nat) : List q_C → Bool
  | [] => true
  | c :: l => match c with
    | .inl _ => q_vw n l
    | .inr (_, fs) => match q_vs n fs with
      | true => q_vw n l
      | false => false
def q_ln : List q_C → Nat
  | [] => 0
  | _ :: l => q_ln l + 1
def q_cats : List Value → Nat
  | [] => 0
  | v :: l => v.category + q_cats l
def q_hd (pc : Nat) : List (Nat × Nat × Nat × Nat) → Option (Nat × Nat)
  | [] => none
  | (a, b, h, c) :: l => match Nat.ble a pc && Nat.ble (pc + 1) b with
    | true => some (h, c)
    | false => q_hd pc l
/-- v is thrown at pc -/
def q_thr (E : q_E) (pc : Nat) (v : Value) (lv : q_L) (aw : List q_C) (ca sl : Nat) (k : q_N) (z : q_K) : Prop := match v with
  | .ref p => match q_at aw p with
    | some (.inr (ci, _)) => match Nat.beq ci 13 with
      | false => False
      | true => match q_hd pc (q_hs E) with
        | none => z (.inr (.ref p)) aw
        | some (h, cj) => match Nat.beq cj 13 with
          | true => k h lv [.ref p] aw ca sl
          | false => False
    | _ => False
  | _ => False
/-- is the receiver what it has to be -/
def q_rc (rc : Nat) (args : List Value) (aw : List q_C) : Bool := match Nat.ble rc 96 with
  | false => true
  | true => match args with
    | .ref p :: _ => match q_at aw p with
      | some (.inr (ci, _)) => Nat.beq ci rc
      | _ => false
    | _ => false
def q_r8 (rc : Nat) (args : List Value) : Bool := match Nat.beq rc 98 with
  | false => match Nat.beq rc 97 with
    | false => true
    | true => match args with
      | .ref _ :: _ => true
      | _ => false
  | true => match args with
    | .retAddr e :: _ => Nat.ble (e + 1) 44
    | _ => false
def q_g8 (rc : Nat) (args : List Value) (k : Prop) : Prop := match Nat.beq rc 98 with
  | false => match q_r8 rc args with
    | true => k
    | false => False
  | true => match args with
    | .retAddr e :: _ => e < 44 ∧ k
    | _ => False
def q_call (E : q_E) (kd : Nat → Bool) (cs : q_S) (pc : Nat) (lv : q_L) (st : List Value) (aw : List q_C) (ca sl : Nat) (k : q_N) (z : q_K) : Prop :=
  match cs with
  | (n, rc, d, mL, mc, ms, fd, sp) => match Nat.ble (d + 1) (q_dp E) && (Nat.ble mL 45 && kd rc) with
    | false => False
    | true => q_pop n st [] (fun args rest => match Nat.ble (q_cats rest) 8 && q_rc rc args aw with
      | false => False
      | true => q_g8 rc args (match mc + ms with
        | 0 => q_ft args aw fd [] (fun σ => match q_nd σ with
          | false => False
          | true => q_lw aw σ σ 0 (fun w => q_la σ args (fun as => sp as w (fun o w' => q_ext w' σ [] (fun σ' => q_gw σ' σ aw w' σ' aw (fun aw' => match o with
            | .inl none => k (pc + 3) lv rest aw' ca sl
            | .inl (some v) => q_gval σ' σ aw v (fun v' => k (pc + 3) lv (v' :: rest) aw' ca sl)
            | .inr v => q_gval σ' σ aw v (fun v' => q_thr E pc v' lv aw' ca sl k z)))))))
        | _ + 1 => (ca + mc ≤ q_RC E ∧ sl + ms ≤ q_RS E) ∧ match q_vl (q_ln aw) lv && (q_vs (q_ln aw) rest && q_vw (q_ln aw) aw) with
          | false => False
          | true => q_ft args aw fd [] (fun σ => match q_nd σ with
            | false => False
            | true => q_lw aw σ σ 0 (fun w => q_la σ args (fun as => sp as w (fun o w' => q_ext w' σ (q_dl q_ns aw) (fun σ' => q_gw σ' σ aw w' σ' aw (fun aw' => match o with
              | .inl none => k (pc + 3) lv rest aw' (ca + mc) (sl + ms)
              | .inl (some v) => q_gval σ' σ aw v (fun v' => k (pc + 3) lv (v' :: rest) aw' (ca + mc) (sl + ms))
              | .inr v => q_gval σ' σ aw v (fun v' => q_thr E pc v' lv aw' (ca + mc) (sl + ms) k z)))))))))
/-- the cases of a table -/
def q_tsw (pc : Nat) (x : Int32) (k : Nat → Prop) : List Int → Int → Prop
  | [], _ => True
  | o :: l, j => (x.toInt = j → k ((pc : Int) + o).toNat) ∧ q_tsw pc x k l (j + 1)
def q_fin (ci k : Nat) : Bool := match q_at vwCl ci with
  | some (_, T, _) => (T k).2.2.2
  | none => true
/-- may v lie in a field of this type -/
def q_fit (ty : FieldType) (v : Value) (k : Prop) : Prop := match ty with
  | .int => match v with
    | .int _ => k
    | _ => False
  | .long => match v with
    | .long _ => k
    | _ => False
  | .boolean => match v with
    | .int x => narrow .boolean (.int x) = .int x ∧ k
    | _ => False
  | .object _ => match v with
    | .ref _ => k
    | .null => k
    | _ => False
  | .array _ => match v with
    | .ref _ => k
    | .null => k
    | _ => False
  | _ => False
def q_dv (ty : FieldType) : Value := match ty with
  | .int => .int 0
  | .long => .long 0
  | .boolean => .int 0
  | _ => .null
def q_dvs (f : Nat → FieldType) : List Nat → Nat → (List Value → Prop) → Prop
  | _, 0, k => k []
  | ns, n + 1, k => match ns with
    | i :: ns => match f i with
      | .int => q_dvs f ns n (fun l => k (.int 0 :: l))
      | .long => q_dvs f ns n (fun l => k (.long 0 :: l))
      | .boolean => q_dvs f ns n (fun l => k (.int 0 :: l))
      | .object _ => q_dvs f ns n (fun l => k (.null :: l))
      | .array _ => q_dvs f ns n (fun l => k (.null :: l))
      | _ => False
    | [] => False
def mnI (x y : Int32) : Int32 := if y < x then y else x
def mxI (x y : Int32) : Int32 := if x < y then y else x
def q_step (E : q_E) (pc : Nat) (i : Instr) (cn : Int32) (t : Nat) (lv : q_L) (st : List Value) (aw : List q_C) (ca sl : Nat) (k : q_N) (z : q_K) : Prop :=
  match i with
  | .iconst _ => k (pc + 1) lv (.int cn :: st) aw ca sl
  | .bipush _ => k (pc + 2) lv (.int cn :: st) aw ca sl
  | .sipush _ => k (pc + 3) lv (.int cn :: st) aw ca sl
  | .lconst n => match n with
    | 0 => k (pc + 1) lv (.long 0 :: st) aw ca sl
    | 1 => k (pc + 1) lv (.long 1 :: st) aw ca sl
  | .aconst_null => k (pc + 1) lv (.null :: st) aw ca sl
  | .ldc i => match q_lk i (q_kc E) with
    | some v => k (pc + 2) lv (.int v :: st) aw ca sl
    | none => match q_lk i (q_sc E) with
      | some e => k (pc + 2) lv (.retAddr e :: st) aw ca sl
      | none => False
  | .ldc_w i => match q_lk i (q_kc E) with
    | some v => k (pc + 3) lv (.int v :: st) aw ca sl
    | none => match q_lk i (q_sc E) with
      | some e => k (pc + 3) lv (.retAddr e :: st) aw ca sl
      | none => False
  | .ldc2_w i => match q_lk i (q_lc E) with
    | some v => k (pc + 3) lv (.long v :: st) aw ca sl
    | none => False
  | .iload i => match q_lk i lv with
    | some (.int x) => k (pc + 2) lv (.int x :: st) aw ca sl
    | _ => False
  | .iload_n i => match q_lk i.val lv with
    | some (.int x) => k (pc + 1) lv (.int x :: st) aw ca sl
    | _ => False
  | .lload i => match q_lk i lv with
    | some (.long x) => k (pc + 2) lv (.long x :: st) aw ca sl
    | _ => False
  | .lload_n i => match q_lk i.val lv with
    | some (.long x) => k (pc + 1) lv (.long x :: st) aw ca sl
    | _ => False
  | .aload i => match q_lk i lv with
    | some (.ref x) => k (pc + 2) lv (.ref x :: st) aw ca sl
    | some (.retAddr x) => k (pc + 2) lv (.retAddr x :: st) aw ca sl
    | _ => False
  | .aload_n i => match q_lk i.val lv with
    | some (.ref x) => k (pc + 1) lv (.ref x :: st) aw ca sl
    | some (.retAddr x) => k (pc + 1) lv (.retAddr x :: st) aw ca sl
    | some .null => k (pc + 1) lv (.null :: st) aw ca sl
    | _ => False
  | .istore i => match st with
    | .int x :: st => match Nat.ble (i + 1) (q_nL E) with
      | true => q_put i (.int x) false lv false (fun lv' => k (pc + 2) lv' st aw ca sl)
      | false => False
    | _ => False
  | .istore_n i => match st with
    | .int x :: st => match Nat.ble (i.val + 1) (q_nL E) with
      | true => q_put i.val (.int x) false lv false (fun lv' => k (pc + 1) lv' st aw ca sl)
      | false => False
    | _ => False
  | .lstore_n i => match st with
    | .long x :: st => match Nat.ble (i.val + 2) (q_nL E) with
      | true => q_put i.val (.long x) true lv false (fun lv' => k (pc + 1) lv' st aw ca sl)
      | false => False
    | _ => False
  | .lstore i => match st with
    | .long x :: st => match Nat.ble (i + 2) (q_nL E) with
      | true => q_put i (.long x) true lv false (fun lv' => k (pc + 2) lv' st aw ca sl)
      | false => False
    | _ => False
  | .astore i => match st with
    | .ref x :: st => match Nat.ble (i + 1) (q_nL E) with
      | true => q_put i (.ref x) false lv false (fun lv' => k (pc + 2) lv' st aw ca sl)
      | false => False
    | _ => False
  | .astore_n i => match st with
    | .ref x :: st => match Nat.ble (i.val + 1) (q_nL E) with
      | true => q_put i.val (.ref x) false lv false (fun lv' => k (pc + 1) lv' st aw ca sl)
      | false => False
    | _ => False
  | .iinc i _ => match q_lk i lv with
    | some (.int x) => match Nat.ble (i + 1) (q_nL E) with
      | true => q_put i (.int (x + cn)) false lv false (fun lv' => k (pc + 3) lv' st aw ca sl)
      | false => False
    | _ => False
  | .pop => match st with
    | v :: st => match Nat.beq v.category 1 with
      | true => k (pc + 1) lv st aw ca sl
      | false => False
    | _ => False
  | .dup => match st with
    | v :: st => match Nat.beq v.category 1 with
      | true => k (pc + 1) lv (v :: v :: st) aw ca sl
      | false => False
    | _ => False
  | .dup2 => match st with
    | v :: st => match Nat.beq v.category 1 with
      | true => match st with
        | w :: st => match Nat.beq w.category 1 with
          | true => k (pc + 1) lv (v :: w :: v :: w :: st) aw ca sl
          | false => False
        | _ => False
      | false => k (pc + 1) lv (v :: v :: st) aw ca sl
    | _ => False
  | .iadd => match st with
    | .int y :: .int x :: st => k (pc + 1) lv (.int (x + y) :: st) aw ca sl
    | _ => False
  | .isub => match st with
    | .int y :: .int x :: st => k (pc + 1) lv (.int (x - y) :: st) aw ca sl
    | _ => False
  | .imul => match st with
    | .int y :: .int x :: st => k (pc + 1) lv (.int (x * y) :: st) aw ca sl
    | _ => False
  | .irem => match st with
    | .int y :: .int x :: st => ¬ y = 0 ∧ k (pc + 1) lv (.int (x - x / y * y) :: st) aw ca sl
    | _ => False
  | .iand => match st with
    | .int y :: .int x :: st => k (pc + 1) lv (.int (x &&& y) :: st) aw ca sl
    | _ => False
  | .ior => match st with
    | .int y :: .int x :: st => k (pc + 1) lv (.int (x ||| y) :: st) aw ca sl
    | _ => False
  | .ishl => match st with
    | .int y :: .int x :: st => k (pc + 1) lv (.int (x <<< (y &&& 31)) :: st) aw ca sl
    | _ => False
  | .ishr => match st with
    | .int y :: .int x :: st => k (pc + 1) lv (.int (x >>> (y &&& 31)) :: st) aw ca sl
    | _ => False
  | .iushr => match st with
    | .int y :: .int x :: st => k (pc + 1) lv (.int (x.toUInt32 >>> (y.toUInt32 &&& Int32.toUInt32 31)).toInt32 :: st) aw ca sl
    | _ => False
  | .ladd => match st with
    | .long y :: .long x :: st => k (pc + 1) lv (.long (x + y) :: st) aw ca sl
    | _ => False
  | .lmul => match st with
    | .long y :: .long x :: st => k (pc + 1) lv (.long (x * y) :: st) aw ca sl
    | _ => False
  | .lcmp => match st with
    | .long y :: .long x :: st => k (pc + 1) lv (.int (lg_cmp x y) :: st) aw ca sl
    | _ => False
  | .i2l => match st with
    | .int x :: st => k (pc + 1) lv (.long x.toInt64 :: st) aw ca sl
    | _ => False
  | .i2b => match st with
    | .int x :: st => k (pc + 1) lv (.int x.toInt8.toInt32 :: st) aw ca sl
    | _ => False
  | .i2c => match st with
    | .int x :: st => k (pc + 1) lv (.int (x.toUInt32 % 65536).toInt32 :: st) aw ca sl
    | _ => False
  | .goto _ => k t lv st aw ca sl
  | .ifCond c _ => match st with
    | .int x :: st => match c with
      | .eq => (x = 0 → k t lv st aw ca sl) ∧ (¬ x = 0 → k (pc + 3) lv st aw ca sl)
      | .ne => (¬ x = 0 → k t lv st aw ca sl) ∧ (x = 0 → k (pc + 3) lv st aw ca sl)
      | .lt => (x < 0 → k t lv st aw ca sl) ∧ (¬ x < 0 → k (pc + 3) lv st aw ca sl)
      | .ge => (0 ≤ x → k t lv st aw ca sl) ∧ (¬ 0 ≤ x → k (pc + 3) lv st aw ca sl)
      | .gt => (0 < x → k t lv st aw ca sl) ∧ (¬ 0 < x → k (pc + 3) lv st aw ca sl)
      | .le => (x ≤ 0 → k t lv st aw ca sl) ∧ (¬ x ≤ 0 → k (pc + 3) lv st aw ca sl)
    | _ => False
  | .if_icmp c _ => match st with
    | .int y :: .int x :: st => match c with
      | .eq => (x = y → k t lv st aw ca sl) ∧ (¬ x = y → k (pc + 3) lv st aw ca sl)
      | .ne => (¬ x = y → k t lv st aw ca sl) ∧ (x = y → k (pc + 3) lv st aw ca sl)
      | .lt => (x < y → k t lv st aw ca sl) ∧ (¬ x < y → k (pc + 3) lv st aw ca sl)
      | .ge => (y ≤ x → k t lv st aw ca sl) ∧ (¬ y ≤ x → k (pc + 3) lv st aw ca sl)
      | .gt => (y < x → k t lv st aw ca sl) ∧ (¬ y < x → k (pc + 3) lv st aw ca sl)
      | .le => (x ≤ y → k t lv st aw ca sl) ∧ (¬ x ≤ y → k (pc + 3) lv st aw ca sl)
    | _ => False
  | .ifnull _ => match st with
    | .null :: st => k t lv st aw ca sl
    | .ref _ :: st => k (pc + 3) lv st aw ca sl
    | .retAddr _ :: st => k (pc + 3) lv st aw ca sl
    | _ => False
  | .ifnonnull _ => match st with
    | .null :: st => k (pc + 3) lv st aw ca sl
    | .ref _ :: st => k t lv st aw ca sl
    | .retAddr _ :: st => k t lv st aw ca sl
    | _ => False
  | .tableswitch d lo hi offs => match st with
    | .int x :: st => (x.toInt < lo ∨ hi < x.toInt → k ((pc : Int) + d).toNat lv st aw ca sl) ∧ q_tsw pc x (fun t => k t lv st aw ca sl) offs.toList lo ∧ hi + 1 = lo + offs.toList.length ∧ (0 ≤ (pc : Int) + d ∧ ∀ o ∈ offs.toList, 0 ≤ (pc : Int) + o)
    | _ => False
  | .getfield i => match st with
    | .ref p :: st => match q_lk i (q_fl E) with
      | some (ci, j) => match q_at aw p with
        | some (.inr (cj, fs)) => match Nat.beq ci cj with
          | true => match q_at fs j with
            | some v => k (pc + 3) lv (v :: st) aw ca sl
            | none => False
          | false => False
        | _ => False
      | none => False
    | _ => False
  | .putfield i => match st with
    | v :: .ref p :: st => match q_lk i (q_fl E) with
      | some (ci, j) => match q_at aw p with
        | some (.inr (cj, fs)) => match Nat.beq ci cj with
          | true => match q_fin ci j with
            | false => q_fit (q_fty ci j) v (q_set v fs j (fun fs' => q_set (.inr (ci, fs')) aw p (fun aw' => k (pc + 3) lv st aw' ca sl)))
            | true => match Nat.beq (q_in E) (ci + 1) with
              | true => q_fit (q_fty ci j) v (q_set v fs j (fun fs' => q_set (.inr (ci, fs')) aw p (fun aw' => k (pc + 3) lv st aw' ca sl)))
              | false => False
          | false => False
        | _ => False
      | none => False
    | _ => False
  | .getstatic i => match q_lk i (q_gs E) with
    | some e => match Nat.beq e 44 with
      | true => k (pc + 3) lv (.retAddr e :: st) aw ca sl
      | false => False
    | none => False
  | .arraylength => match st with
    | .ref p :: st => match q_at aw p with
      | some (.inl (kd, n, _)) => (kd = 0 ∨ kd = 1 ∨ kd = 2 ∨ kd = 3) ∧ k (pc + 1) lv (.int (Int32.ofNat n) :: st) aw ca sl
      | _ => False
    | .retAddr e :: st => match q_lk e (q_ct E) with
      | some (n, _) => k (pc + 1) lv (.int (Int32.ofNat n) :: st) aw ca sl
      | none => False
    | _ => False
  | .iaload => match st with
    | .int x :: .ref p :: st => match q_at aw p with
      | some (.inl (kd, n, .inl f)) => match Nat.beq kd 1 with
        | true => vp_in x n ∧ k (pc + 1) lv (.int (f x.toNatClampNeg) :: st) aw ca sl
        | false => False
      | _ => False
    | .int x :: .retAddr e :: st => match q_lk e (q_ct E) with
      | some (n, f) => vp_in x n ∧ k (pc + 1) lv (.int (f x.toNatClampNeg) :: st) aw ca sl
      | none => False
    | _ => False
  | .baload => match st with
    | .int x :: .ref p :: st => match q_at aw p with
      | some (.inl (kd, n, .inl f)) => match Nat.beq kd 0 || Nat.beq kd 3 with
        | true => vp_in x n ∧ k (pc + 1) lv (.int (f x.toNatClampNeg) :: st) aw ca sl
        | false => False
      | _ => False
    | _ => False
  | .laload => match st with
    | .int x :: .ref p :: st => match q_at aw p with
      | some (.inl (kd, n, .inr f)) => match Nat.beq kd 2 with
        | true => vp_in x n ∧ k (pc + 1) lv (.long (f x.toNatClampNeg) :: st) aw ca sl
        | false => False
      | _ => False
    | _ => False
  | .iastore => match st with
    | .int y :: .int x :: .ref p :: st => match q_at aw p with
      | some (.inl (kd, n, .inl f)) => match Nat.beq kd 1 with
        | true => vp_in x n ∧ q_set (.inl (1, n, .inl (upd f x.toNatClampNeg y))) aw p (fun aw' => k (pc + 1) lv st aw' ca sl)
        | false => False
      | _ => False
    | _ => False
  | .bastore => match st with
    | .int y :: .int x :: .ref p :: st => match q_at aw p with
      | some (.inl (kd, n, .inl f)) => match Nat.beq kd 0 with
        | true => vp_in x n ∧ q_set (.inl (0, n, .inl (upd f x.toNatClampNeg (vp_nar .byte y)))) aw p (fun aw' => k (pc + 1) lv st aw' ca sl)
        | false => match Nat.beq kd 3 with
          | true => vp_in x n ∧ q_set (.inl (3, n, .inl (upd f x.toNatClampNeg (vp_nar .boolean y)))) aw p (fun aw' => k (pc + 1) lv st aw' ca sl)
          | false => False
      | _ => False
    | _ => False
  | .lastore => match st with
    | .long y :: .int x :: .ref p :: st => match q_at aw p with
      | some (.inl (kd, n, .inr f)) => match Nat.beq kd 2 with
        | true => vp_in x n ∧ q_set (.inl (2, n, .inr (vp_updL f x.toNatClampNeg y))) aw p (fun aw' => k (pc + 1) lv st aw' ca sl)
        | false => False
      | _ => False
    | _ => False
  | .new i => match q_lk i (q_nw E) with
    | some ci => (ca + 1 ≤ q_RC E ∧ sl + q_cin ci ≤ q_RS E) ∧ match q_vl (q_ln aw) lv && (q_vs (q_ln aw) st && q_vw (q_ln aw) aw) with
      | false => False
      | true => q_hdN q_ns (q_ln aw) (fun n => q_dvs (q_fty ci) q_ns (q_cin ci) (fun fs => q_sn (.inr (ci, fs)) aw (fun aw' => k (pc + 3) lv (.ref n :: st) aw' (ca + 1) (sl + q_cin ci))))
    | none => False
  | .newarray a => match st with
    | .int x :: st => (x = Int32.ofNat t ∧ t ≤ 10000 ∧ ca + 1 ≤ q_RC E ∧ sl + t ≤ q_RS E) ∧ match q_vl (q_ln aw) lv && (q_vs (q_ln aw) st && q_vw (q_ln aw) aw) with
      | false => False
      | true => q_hdN q_ns (q_ln aw) (fun n => match newarray.typeOf a with
        | .byte => q_sn (.inl (0, t, .inl (fun _ => 0))) aw (fun aw' => k (pc + 2) lv (.ref n :: st) aw' (ca + 1) (sl + t))
        | .int => q_sn (.inl (1, t, .inl (fun _ => 0))) aw (fun aw' => k (pc + 2) lv (.ref n :: st) aw' (ca + 1) (sl + t))
        | .long => q_sn (.inl (2, t, .inr (fun _ => 0))) aw (fun aw' => k (pc + 2) lv (.ref n :: st) aw' (ca + 1) (sl + t))
        | .boolean => q_sn (.inl (3, t, .inl (fun _ => 0))) aw (fun aw' => k (pc + 2) lv (.ref n :: st) aw' (ca + 1) (sl + t))
        | _ => False)
    | _ => False
  | .invokevirtual i => match q_lk i (q_sg E) with
    | some cs => q_call E (fun rc => Nat.ble rc 96 || Nat.beq rc 98) cs pc lv st aw ca sl k z
    | none => False
  | .invokestatic i => match q_lk i (q_gs E) with
    | some e => match st with
      | .int y :: .int x :: st => match Nat.ble (q_cats st) 8 && Nat.ble 1 (q_dp E) with
        | true => match Nat.beq e 1 with
          | true => k (pc + 3) lv (.int (mxI x y) :: st) aw ca sl
          | false => match Nat.beq e 2 with
            | true => k (pc + 3) lv (.int (mnI x y) :: st) aw ca sl
            | false => False
        | false => False
      | _ => False
    | none => match q_lk i (q_sg E) with
      | some cs => q_call E (fun rc => Nat.beq rc 99) cs pc lv st aw ca sl k z
      | none => False
  | .invokespecial i => match Nat.beq i (q_oi E) && Nat.ble 1 (q_oi E) with
    | true => match st with
      | .ref _ :: st => match Nat.ble (q_cats st) 8 && Nat.ble 1 (q_dp E) with
        | true => k (pc + 3) lv st aw ca sl
        | false => False
      | _ => False
    | false => match q_lk i (q_sg E) with
      | some cs => q_call E (fun rc => Nat.beq rc 97) cs pc lv st aw ca sl k z
      | none => False
  | .ireturn => match st with
    | [.int x] => match q_rt E with
      | some .int => z (.inl (some (.int x))) aw
      | some .boolean => narrow .boolean (.int x) = .int x ∧ z (.inl (some (.int x))) aw
      | some .char => narrow .char (.int x) = .int x ∧ z (.inl (some (.int x))) aw
      | some .byte => narrow .byte (.int x) = .int x ∧ z (.inl (some (.int x))) aw
      | _ => False
    | _ => False
  | .lreturn => match st with
    | [.long x] => match q_rt E with
      | some .long => z (.inl (some (.long x))) aw
      | _ => False
    | _ => False
  | .areturn => match st with
    | [.ref x] => match q_rt E with
      | some (.object _) => z (.inl (some (.ref x))) aw
      | _ => False
    | _ => False
  | .return_ => match st with
    | [] => match q_rt E with
      | none => z (.inl none) aw
      | _ => False
    | _ => False
  | .athrow => match st with
    | v :: _ => q_thr E pc v lv aw ca sl k z
    | _ => False
  | _ => False
def q_sk (pc : Nat) : List q_I → List q_I
  | [] => []
  | (q, r) :: l => match Nat.beq q pc with
    | true => (q, r) :: l
    | false => q_sk pc l
def q_nx (E : q_E) (pc : Nat) (l : List q_I) : List q_I := match l with
  | [] => q_sk pc (q_code E)
  | (q, r) :: l => match Nat.beq q pc with
    | true => (q, r) :: l
    | false => q_sk pc (q_code E)
noncomputable def q_run (E : q_E) (C : q_N) (z : q_K) (n : Nat) : List q_I → q_L → List Value → List q_C → Nat → Nat → Prop :=
  Nat.rec (motive := fun _ => List q_I → q_L → List Value → List q_C → Nat → Nat → Prop) (fun _ _ _ _ _ _ => False)
    (fun _ ih l lv st aw ca sl => match l with
      | [] => False
      | (pc, i, _, cn, t) :: l => q_step E pc i cn t lv st aw ca sl (fun pc' lv' st' aw' ca' sl' => match q_lk pc' (q_cuts E) with
        | some live => q_pk lv' live (fun lv'' => C pc' lv'' st' aw' ca' sl')
        | none => ih (q_nx E pc' l) lv' st' aw' ca' sl') z) n
noncomputable def q_go (E : q_E) (C : q_N) (z : q_K) (pc : Nat) (lv : q_L) (st : List Value) (aw : List q_C) (ca sl : Nat) : Prop := q_run E C z 400 (q_sk pc (q_code E)) lv st aw ca sl
end
section
/-! ===== links: by program out of the tables ===== -/
def q_isN : Cond → Bool
  | .fieldLinkNest .. => true
  | .methodLinkNest .. => true
  | _ => false
def q_nest : List Cond := tables_1.filter q_isN
theorem q_nest_i {w : Cond} (i : Nat) (h : tables_1[i]? = some w) (hg : q_isN w = true) : w ∈ q_nest := List.mem_filter.mpr ⟨List.mem_of_getElem? h, hg⟩
theorem q_ws_of {C : String} {T : u_T} {N : Nat} (ix : List Nat) (h : ((List.range N).all (fun k => decide (tables_1[ix.getD k 0]? = some (u_lay C T k)) && goodWord (u_lay C T k))) = true) : ∀ w ∈ u_ws C T N, w ∈ q_G := by
  intro w hw
  obtain ⟨k, hk, rfl⟩ := List.mem_map.mp hw
  have h1 := List.all_eq_true.mp h k hk
  simp only [Bool.and_eq_true, decide_eq_true_eq] at h1
  exact q_G_i _ h1.1 h1.2
/-- a field of a class, under its entry in another one's file -/
def q_flok (own : String) (f : Nat × Nat × Nat) : Prop := ∃ (C : String) (T : u_T) (N : Nat), vwCl[f.2.1]? = some (C, T, N) ∧ f.2.2 < N ∧ ((Cond.fieldLink own f.1 (T f.2.2).1 (T f.2.2).2.1 (T f.2.2).2.2.1 ∈ q_G ∧ (T f.2.2).1 = C) ∨ ((T f.2.2).2.2.2 = false ∧ ∃ host, Cond.fieldLinkNest own f.1 (T f.2.2).1 (T f.2.2).2.1 (T f.2.2).2.2.1 host ∈ q_nest) ∨ ((T f.2.2).2.2.2 = true ∧ C ≠ own ∧ ∃ host, Cond.fieldLinkNest own f.1 (T f.2.2).1 (T f.2.2).2.1 (T f.2.2).2.2.1 host ∈ q_nest))
theorem q_fl1 {own : String} {idx ci k : Nat} {C : String} {T : u_T} {N : Nat} (i : Nat) (hc : vwCl[ci]? = some (C, T, N)) (hk : k < N) (ht : tables_1[i]? = some (.fieldLink own idx (T k).1 (T k).2.1 (T k).2.2.1)) (hd : (T k).1 = C) : q_flok own (idx, ci, k) := ⟨C, T, N, hc, hk, Or.inl ⟨q_G_i i ht rfl, hd⟩⟩
theorem q_fl2 {own host : String} {idx ci k : Nat} {C : String} {T : u_T} {N : Nat} (i : Nat) (hc : vwCl[ci]? = some (C, T, N)) (hk : k < N) (ht : tables_1[i]? = some (.fieldLinkNest own idx (T k).1 (T k).2.1 (T k).2.2.1 host)) (hf : (T k).2.2.2 = false) : q_flok own (idx, ci, k) := ⟨C, T, N, hc, hk, Or.inr (Or.inl ⟨hf, host, q_nest_i i ht rfl⟩)⟩
theorem q_fl3 {own host : String} {idx ci k : Nat} {C : String} {T : u_T} {N : Nat} (i : Nat) (hc : vwCl[ci]? = some (C, T, N)) (hk : k < N) (ht : tables_1[i]? = some (.fieldLinkNest own idx (T k).1 (T k).2.1 (T k).2.2.1 host)) (hf : (T k).2.2.2 = true) (hn : C ≠ own) : q_flok own (idx, ci, k) := ⟨C, T, N, hc, hk, Or.inr (Or.inr ⟨hf, hn, host, q_nest_i i ht rfl⟩)⟩

theorem wsX0_ok : ∀ w ∈ u_ws RX0 TX0 8, w ∈ q_G := q_ws_of [184, 186, 188, 190, 192, 194, 196, 198] (by decide +kernel)
theorem wsX1_ok : ∀ w ∈ u_ws RX1 TX1 8, w ∈ q_G := q_ws_of [423, 425, 427, 429, 431, 433, 435, 437] (by decide +kernel)
theorem wsX2_ok : ∀ w ∈ u_ws RX2 TX2 9, w ∈ q_G := q_ws_of [139, 141, 143, 145, 147, 149, 151, 153, 155] (by decide +kernel)
theorem wsX3_ok : ∀ w ∈ u_ws RX3 TX3 8, w ∈ q_G := q_ws_of [104, 106, 108, 110, 112, 114, 116, 118] (by decide +kernel)
theorem wsX4_ok : ∀ w ∈ u_ws RX4 TX4 4, w ∈ q_G := q_ws_of [490, 492, 494, 496] (by decide +kernel)
theorem wsX5_ok : ∀ w ∈ u_ws RX5 TX5 7, w ∈ q_G := q_ws_of [393, 395, 397, 399, 401, 403, 405] (by decide +kernel)
theorem wsX6_ok : ∀ w ∈ u_ws RX6 TX6 7, w ∈ q_G := q_ws_of [333, 335, 337, 339, 341, 343, 345] (by decide +kernel)
theorem wsX7_ok : ∀ w ∈ u_ws RX7 TX7 13, w ∈ q_G := q_ws_of [284, 286, 288, 290, 292, 294, 296, 298, 300, 302, 304, 306, 308] (by decide +kernel)
theorem wsX8_ok : ∀ w ∈ u_ws RX8 TX8 8, w ∈ q_G := q_ws_of [68, 70, 72, 74, 76, 78, 80, 82] (by decide +kernel)
theorem wsX9_ok : ∀ w ∈ u_ws RX9 TX9 9, w ∈ q_G := q_ws_of [458, 460, 462, 464, 466, 468, 470, 472, 474] (by decide +kernel)
theorem wsX10_ok : ∀ w ∈ u_ws RX10 TX10 7, w ∈ q_G := q_ws_of [363, 365, 367, 369, 371, 373, 375] (by decide +kernel)
theorem wsX11_ok : ∀ w ∈ u_ws RX11 TX11 15, w ∈ q_G := q_ws_of [514, 516, 518, 520, 522, 524, 526, 528, 530, 532, 534, 536, 538, 540, 542] (by decide +kernel)
theorem wsX12_ok : ∀ w ∈ u_ws RX12 TX12 29, w ∈ q_G := q_ws_of [1515, 1517, 1519, 1521, 1523, 1525, 1527, 1529, 1531, 1533, 1535, 1537, 1539, 1541, 1543, 1545, 1547, 1549, 1551, 1553, 1555, 1557, 1559, 1561, 1563, 1565, 1567, 1569, 1571] (by decide +kernel)
theorem wsX13_ok : ∀ w ∈ u_ws RX13 TX13 8, w ∈ q_G := q_ws_of [1249, 1250, 1251, 1252, 1253, 1272, 1268, 1270] (by decide +kernel)
theorem wsX14_ok : ∀ w ∈ u_ws RX14 TX14 53, w ∈ q_G := q_ws_of [1327, 1329, 1331, 1333, 1335, 1337, 1339, 1341, 1343, 1345, 1347, 1349, 1351, 1353, 1355, 1357, 1359, 1361, 1363, 1365, 1367, 1369, 1371, 1373, 1375, 1377, 1379, 1381, 1383, 1385, 1387, 1389, 1391, 1393, 1395, 1397, 1399, 1401, 1403, 1405, 1407, 1409, 1411, 1413, 1415, 1417, 1419, 1421, 1423, 1425, 1427, 1429, 1431] (by decide +kernel)
def flX0 : List (Nat × Nat × Nat) := [(50, 8, 7), (53, 3, 7), (54, 2, 8), (9, 0, 0), (15, 0, 1), (19, 0, 2), (22, 0, 3), (46, 0, 4), (28, 0, 5), (35, 0, 6), (42, 0, 7)]
theorem flX0_50 : q_flok RX0 (50, 8, 7) := q_fl1 64 rfl (by decide) (by decide +kernel) rfl
theorem flX0_53 : q_flok RX0 (53, 3, 7) := q_fl1 102 rfl (by decide) (by decide +kernel) rfl
theorem flX0_54 : q_flok RX0 (54, 2, 8) := q_fl1 137 rfl (by decide) (by decide +kernel) rfl
theorem flX0_9 : q_flok RX0 (9, 0, 0) := q_fl1 158 rfl (by decide) (by decide +kernel) rfl
theorem flX0_15 : q_flok RX0 (15, 0, 1) := q_fl1 163 rfl (by decide) (by decide +kernel) rfl
theorem flX0_19 : q_flok RX0 (19, 0, 2) := q_fl1 164 rfl (by decide) (by decide +kernel) rfl
theorem flX0_22 : q_flok RX0 (22, 0, 3) := q_fl1 166 rfl (by decide) (by decide +kernel) rfl
theorem flX0_46 : q_flok RX0 (46, 0, 4) := q_fl1 168 rfl (by decide) (by decide +kernel) rfl
theorem flX0_28 : q_flok RX0 (28, 0, 5) := q_fl1 169 rfl (by decide) (by decide +kernel) rfl
theorem flX0_35 : q_flok RX0 (35, 0, 6) := q_fl1 174 rfl (by decide) (by decide +kernel) rfl
theorem flX0_42 : q_flok RX0 (42, 0, 7) := q_fl1 181 rfl (by decide) (by decide +kernel) rfl
theorem flX0_ok : ∀ f ∈ flX0, q_flok RX0 f := List.forall_mem_cons.mpr ⟨flX0_50, List.forall_mem_cons.mpr ⟨flX0_53, List.forall_mem_cons.mpr ⟨flX0_54, List.forall_mem_cons.mpr ⟨flX0_9, List.forall_mem_cons.mpr ⟨flX0_15, List.forall_mem_cons.mpr ⟨flX0_19, List.forall_mem_cons.mpr ⟨flX0_22, List.forall_mem_cons.mpr ⟨flX0_46, List.forall_mem_cons.mpr ⟨flX0_28, List.forall_mem_cons.mpr ⟨flX0_35, List.forall_mem_cons.mpr ⟨flX0_42, fun _ h => nomatch h⟩⟩⟩⟩⟩⟩⟩⟩⟩⟩⟩
def flX1 : List (Nat × Nat × Nat) := [(43, 0, 0), (48, 0, 6), (11, 1, 0), (15, 1, 1), (18, 1, 2), (21, 1, 3), (24, 1, 4), (27, 1, 5), (30, 1, 6), (33, 1, 7)]
theorem flX1_43 : q_flok RX1 (43, 0, 0) := q_fl1 160 rfl (by decide) (by decide +kernel) rfl
theorem flX1_48 : q_flok RX1 (48, 0, 6) := q_fl1 177 rfl (by decide) (by decide +kernel) rfl
theorem flX1_11 : q_flok RX1 (11, 1, 0) := q_fl1 414 rfl (by decide) (by decide +kernel) rfl
theorem flX1_15 : q_flok RX1 (15, 1, 1) := q_fl1 415 rfl (by decide) (by decide +kernel) rfl
theorem flX1_18 : q_flok RX1 (18, 1, 2) := q_fl1 416 rfl (by decide) (by decide +kernel) rfl
theorem flX1_21 : q_flok RX1 (21, 1, 3) := q_fl1 417 rfl (by decide) (by decide +kernel) rfl
theorem flX1_24 : q_flok RX1 (24, 1, 4) := q_fl1 418 rfl (by decide) (by decide +kernel) rfl
theorem flX1_27 : q_flok RX1 (27, 1, 5) := q_fl1 419 rfl (by decide) (by decide +kernel) rfl
theorem flX1_30 : q_flok RX1 (30, 1, 6) := q_fl1 420 rfl (by decide) (by decide +kernel) rfl
theorem flX1_33 : q_flok RX1 (33, 1, 7) := q_fl1 421 rfl (by decide) (by decide +kernel) rfl
theorem flX1_ok : ∀ f ∈ flX1, q_flok RX1 f := List.forall_mem_cons.mpr ⟨flX1_43, List.forall_mem_cons.mpr ⟨flX1_48, List.forall_mem_cons.mpr ⟨flX1_11, List.forall_mem_cons.mpr ⟨flX1_15, List.forall_mem_cons.mpr ⟨flX1_18, List.forall_mem_cons.mpr ⟨flX1_21, List.forall_mem_cons.mpr ⟨flX1_24, List.forall_mem_cons.mpr ⟨flX1_27, List.forall_mem_cons.mpr ⟨flX1_30, List.forall_mem_cons.mpr ⟨flX1_33, fun _ h => nomatch h⟩⟩⟩⟩⟩⟩⟩⟩⟩⟩
def flX10 : List (Nat × Nat × Nat) := [(129, 8, 0), (132, 8, 1), (97, 8, 2), (135, 8, 3), (43, 8, 4), (46, 8, 5), (49, 8, 6), (76, 8, 7), (69, 0, 0), (37, 0, 5), (52, 0, 6), (62, 6, 0), (33, 10, 0), (11, 10, 1), (15, 10, 2), (18, 10, 3), (21, 10, 4), (27, 10, 5), (30, 10, 6)]
theorem flX10_129 : q_flok RX10 (129, 8, 0) := q_fl1 47 rfl (by decide) (by decide +kernel) rfl
theorem flX10_132 : q_flok RX10 (132, 8, 1) := q_fl1 49 rfl (by decide) (by decide +kernel) rfl
theorem flX10_97 : q_flok RX10 (97, 8, 2) := q_fl1 51 rfl (by decide) (by decide +kernel) rfl
theorem flX10_135 : q_flok RX10 (135, 8, 3) := q_fl1 53 rfl (by decide) (by decide +kernel) rfl
theorem flX10_43 : q_flok RX10 (43, 8, 4) := q_fl1 55 rfl (by decide) (by decide +kernel) rfl
theorem flX10_46 : q_flok RX10 (46, 8, 5) := q_fl1 58 rfl (by decide) (by decide +kernel) rfl
theorem flX10_49 : q_flok RX10 (49, 8, 6) := q_fl1 61 rfl (by decide) (by decide +kernel) rfl
theorem flX10_76 : q_flok RX10 (76, 8, 7) := q_fl1 65 rfl (by decide) (by decide +kernel) rfl
theorem flX10_69 : q_flok RX10 (69, 0, 0) := q_fl1 159 rfl (by decide) (by decide +kernel) rfl
theorem flX10_37 : q_flok RX10 (37, 0, 5) := q_fl1 170 rfl (by decide) (by decide +kernel) rfl
theorem flX10_52 : q_flok RX10 (52, 0, 6) := q_fl1 175 rfl (by decide) (by decide +kernel) rfl
theorem flX10_62 : q_flok RX10 (62, 6, 0) := q_fl1 318 rfl (by decide) (by decide +kernel) rfl
theorem flX10_33 : q_flok RX10 (33, 10, 0) := q_fl1 354 rfl (by decide) (by decide +kernel) rfl
theorem flX10_11 : q_flok RX10 (11, 10, 1) := q_fl1 355 rfl (by decide) (by decide +kernel) rfl
theorem flX10_15 : q_flok RX10 (15, 10, 2) := q_fl1 357 rfl (by decide) (by decide +kernel) rfl
theorem flX10_18 : q_flok RX10 (18, 10, 3) := q_fl1 359 rfl (by decide) (by decide +kernel) rfl
theorem flX10_21 : q_flok RX10 (21, 10, 4) := q_fl1 360 rfl (by decide) (by decide +kernel) rfl
theorem flX10_27 : q_flok RX10 (27, 10, 5) := q_fl1 361 rfl (by decide) (by decide +kernel) rfl
theorem flX10_30 : q_flok RX10 (30, 10, 6) := q_fl1 362 rfl (by decide) (by decide +kernel) rfl
theorem flX10_ok : ∀ f ∈ flX10, q_flok RX10 f := List.forall_mem_cons.mpr ⟨flX10_129, List.forall_mem_cons.mpr ⟨flX10_132, List.forall_mem_cons.mpr ⟨flX10_97, List.forall_mem_cons.mpr ⟨flX10_135, List.forall_mem_cons.mpr ⟨flX10_43, List.forall_mem_cons.mpr ⟨flX10_46, List.forall_mem_cons.mpr ⟨flX10_49, List.forall_mem_cons.mpr ⟨flX10_76, List.forall_mem_cons.mpr ⟨flX10_69, List.forall_mem_cons.mpr ⟨flX10_37, List.forall_mem_cons.mpr ⟨flX10_52, List.forall_mem_cons.mpr ⟨flX10_62, List.forall_mem_cons.mpr ⟨flX10_33, List.forall_mem_cons.mpr ⟨flX10_11, List.forall_mem_cons.mpr ⟨flX10_15, List.forall_mem_cons.mpr ⟨flX10_18, List.forall_mem_cons.mpr ⟨flX10_21, List.forall_mem_cons.mpr ⟨flX10_27, List.forall_mem_cons.mpr ⟨flX10_30, fun _ h => nomatch h⟩⟩⟩⟩⟩⟩⟩⟩⟩⟩⟩⟩⟩⟩⟩⟩⟩⟩⟩
def flX11 : List (Nat × Nat × Nat) := [(208, 8, 7), (108, 3, 7), (341, 2, 8), (338, 0, 0), (204, 0, 5), (104, 0, 6), (254, 0, 7), (95, 7, 0), (131, 7, 1), (193, 6, 0), (171, 6, 1), (178, 6, 2), (181, 6, 3), (184, 6, 4), (187, 6, 5), (123, 6, 6), (223, 10, 1), (335, 10, 2), (244, 5, 5), (251, 5, 6), (125, 1, 7), (302, 9, 5), (299, 9, 6), (290, 9, 7), (313, 4, 0), (316, 4, 2), (305, 4, 3), (9, 11, 0), (76, 11, 1), (16, 11, 2), (20, 11, 3), (28, 11, 4), (116, 11, 5), (120, 11, 6), (35, 11, 7), (44, 11, 8), (51, 11, 9), (58, 11, 10), (65, 11, 11), (72, 11, 12), (128, 11, 13), (98, 11, 14)]
theorem flX11_208 : q_flok RX11 (208, 8, 7) := q_fl1 67 rfl (by decide) (by decide +kernel) rfl
theorem flX11_108 : q_flok RX11 (108, 3, 7) := q_fl1 103 rfl (by decide) (by decide +kernel) rfl
theorem flX11_341 : q_flok RX11 (341, 2, 8) := q_fl1 138 rfl (by decide) (by decide +kernel) rfl
theorem flX11_338 : q_flok RX11 (338, 0, 0) := q_fl1 162 rfl (by decide) (by decide +kernel) rfl
theorem flX11_204 : q_flok RX11 (204, 0, 5) := q_fl1 173 rfl (by decide) (by decide +kernel) rfl
theorem flX11_104 : q_flok RX11 (104, 0, 6) := q_fl1 176 rfl (by decide) (by decide +kernel) rfl
theorem flX11_254 : q_flok RX11 (254, 0, 7) := q_fl1 183 rfl (by decide) (by decide +kernel) rfl
theorem flX11_95 : q_flok RX11 (95, 7, 0) := q_fl1 270 rfl (by decide) (by decide +kernel) rfl
theorem flX11_131 : q_flok RX11 (131, 7, 1) := q_fl1 272 rfl (by decide) (by decide +kernel) rfl
theorem flX11_193 : q_flok RX11 (193, 6, 0) := q_fl1 320 rfl (by decide) (by decide +kernel) rfl
theorem flX11_171 : q_flok RX11 (171, 6, 1) := q_fl1 322 rfl (by decide) (by decide +kernel) rfl
theorem flX11_178 : q_flok RX11 (178, 6, 2) := q_fl1 324 rfl (by decide) (by decide +kernel) rfl
theorem flX11_181 : q_flok RX11 (181, 6, 3) := q_fl1 326 rfl (by decide) (by decide +kernel) rfl
theorem flX11_184 : q_flok RX11 (184, 6, 4) := q_fl1 328 rfl (by decide) (by decide +kernel) rfl
theorem flX11_187 : q_flok RX11 (187, 6, 5) := q_fl1 330 rfl (by decide) (by decide +kernel) rfl
theorem flX11_123 : q_flok RX11 (123, 6, 6) := q_fl1 332 rfl (by decide) (by decide +kernel) rfl
theorem flX11_223 : q_flok RX11 (223, 10, 1) := q_fl1 356 rfl (by decide) (by decide +kernel) rfl
theorem flX11_335 : q_flok RX11 (335, 10, 2) := q_fl1 358 rfl (by decide) (by decide +kernel) rfl
theorem flX11_244 : q_flok RX11 (244, 5, 5) := q_fl1 390 rfl (by decide) (by decide +kernel) rfl
theorem flX11_251 : q_flok RX11 (251, 5, 6) := q_fl1 392 rfl (by decide) (by decide +kernel) rfl
theorem flX11_125 : q_flok RX11 (125, 1, 7) := q_fl1 422 rfl (by decide) (by decide +kernel) rfl
theorem flX11_302 : q_flok RX11 (302, 9, 5) := q_fl1 452 rfl (by decide) (by decide +kernel) rfl
theorem flX11_299 : q_flok RX11 (299, 9, 6) := q_fl1 454 rfl (by decide) (by decide +kernel) rfl
theorem flX11_290 : q_flok RX11 (290, 9, 7) := q_fl1 456 rfl (by decide) (by decide +kernel) rfl
theorem flX11_313 : q_flok RX11 (313, 4, 0) := q_fl1 484 rfl (by decide) (by decide +kernel) rfl
theorem flX11_316 : q_flok RX11 (316, 4, 2) := q_fl1 487 rfl (by decide) (by decide +kernel) rfl
theorem flX11_305 : q_flok RX11 (305, 4, 3) := q_fl1 489 rfl (by decide) (by decide +kernel) rfl
theorem flX11_9 : q_flok RX11 (9, 11, 0) := q_fl1 499 rfl (by decide) (by decide +kernel) rfl
theorem flX11_76 : q_flok RX11 (76, 11, 1) := q_fl1 500 rfl (by decide) (by decide +kernel) rfl
theorem flX11_16 : q_flok RX11 (16, 11, 2) := q_fl1 501 rfl (by decide) (by decide +kernel) rfl
theorem flX11_20 : q_flok RX11 (20, 11, 3) := q_fl1 502 rfl (by decide) (by decide +kernel) rfl
theorem flX11_28 : q_flok RX11 (28, 11, 4) := q_fl1 503 rfl (by decide) (by decide +kernel) rfl
theorem flX11_116 : q_flok RX11 (116, 11, 5) := q_fl1 504 rfl (by decide) (by decide +kernel) rfl
theorem flX11_120 : q_flok RX11 (120, 11, 6) := q_fl1 505 rfl (by decide) (by decide +kernel) rfl
theorem flX11_35 : q_flok RX11 (35, 11, 7) := q_fl1 506 rfl (by decide) (by decide +kernel) rfl
theorem flX11_44 : q_flok RX11 (44, 11, 8) := q_fl1 507 rfl (by decide) (by decide +kernel) rfl
theorem flX11_51 : q_flok RX11 (51, 11, 9) := q_fl1 508 rfl (by decide) (by decide +kernel) rfl
theorem flX11_58 : q_flok RX11 (58, 11, 10) := q_fl1 509 rfl (by decide) (by decide +kernel) rfl
theorem flX11_65 : q_flok RX11 (65, 11, 11) := q_fl1 510 rfl (by decide) (by decide +kernel) rfl
theorem flX11_72 : q_flok RX11 (72, 11, 12) := q_fl1 511 rfl (by decide) (by decide +kernel) rfl
theorem flX11_128 : q_flok RX11 (128, 11, 13) := q_fl1 512 rfl (by decide) (by decide +kernel) rfl
theorem flX11_98 : q_flok RX11 (98, 11, 14) := q_fl1 513 rfl (by decide) (by decide +kernel) rfl
theorem flX11_ok : ∀ f ∈ flX11, q_flok RX11 f := List.forall_mem_cons.mpr ⟨flX11_208, List.forall_mem_cons.mpr ⟨flX11_108, List.forall_mem_cons.mpr ⟨flX11_341, List.forall_mem_cons.mpr ⟨flX11_338, List.forall_mem_cons.mpr ⟨flX11_204, List.forall_mem_cons.mpr ⟨flX11_104, List.forall_mem_cons.mpr ⟨flX11_254, List.forall_mem_cons.mpr ⟨flX11_95, List.forall_mem_cons.mpr ⟨flX11_131, List.forall_mem_cons.mpr ⟨flX11_193, List.forall_mem_cons.mpr ⟨flX11_171, List.forall_mem_cons.mpr ⟨flX11_178, List.forall_mem_cons.mpr ⟨flX11_181, List.forall_mem_cons.mpr ⟨flX11_184, List.forall_mem_cons.mpr ⟨flX11_187, List.forall_mem_cons.mpr ⟨flX11_123, List.forall_mem_cons.mpr ⟨flX11_223, List.forall_mem_cons.mpr ⟨flX11_335, List.forall_mem_cons.mpr ⟨flX11_244, List.forall_mem_cons.mpr ⟨flX11_251, List.forall_mem_cons.mpr ⟨flX11_125, List.forall_mem_cons.mpr ⟨flX11_302, List.forall_mem_cons.mpr ⟨flX11_299, List.forall_mem_cons.mpr ⟨flX11_290, List.forall_mem_cons.mpr ⟨flX11_313, List.forall_mem_cons.mpr ⟨flX11_316, List.forall_mem_cons.mpr ⟨flX11_305, List.forall_mem_cons.mpr ⟨flX11_9, List.forall_mem_cons.mpr ⟨flX11_76, List.forall_mem_cons.mpr ⟨flX11_16, List.forall_mem_cons.mpr ⟨flX11_20, List.forall_mem_cons.mpr ⟨flX11_28, List.forall_mem_cons.mpr ⟨flX11_116, List.forall_mem_cons.mpr ⟨flX11_120, List.forall_mem_cons.mpr ⟨flX11_35, List.forall_mem_cons.mpr ⟨flX11_44, List.forall_mem_cons.mpr ⟨flX11_51, List.forall_mem_cons.mpr ⟨flX11_58, List.forall_mem_cons.mpr ⟨flX11_65, List.forall_mem_cons.mpr ⟨flX11_72, List.forall_mem_cons.mpr ⟨flX11_128, List.forall_mem_cons.mpr ⟨flX11_98, fun _ h => nomatch h⟩⟩⟩⟩⟩⟩⟩⟩⟩⟩⟩⟩⟩⟩⟩⟩⟩⟩⟩⟩⟩⟩⟩⟩⟩⟩⟩⟩⟩⟩⟩⟩⟩⟩⟩⟩⟩⟩⟩⟩⟩⟩
def flX12 : List (Nat × Nat × Nat) := [(9, 12, 0), (15, 12, 1), (19, 12, 2), (22, 12, 3), (89, 12, 4), (25, 12, 8), (28, 12, 9), (31, 12, 10), (34, 12, 11), (37, 12, 12), (40, 12, 13), (43, 12, 14), (46, 12, 15), (49, 12, 16), (52, 12, 17), (55, 12, 18), (58, 12, 19), (61, 12, 20), (64, 12, 21), (68, 12, 22), (71, 12, 23), (74, 12, 24), (77, 12, 25), (80, 12, 26), (83, 12, 27), (86, 12, 28)]
theorem flX12_9 : q_flok RX12 (9, 12, 0) := q_fl1 1460 rfl (by decide) (by decide +kernel) rfl
theorem flX12_15 : q_flok RX12 (15, 12, 1) := q_fl1 1462 rfl (by decide) (by decide +kernel) rfl
theorem flX12_19 : q_flok RX12 (19, 12, 2) := q_fl1 1464 rfl (by decide) (by decide +kernel) rfl
theorem flX12_22 : q_flok RX12 (22, 12, 3) := q_fl1 1466 rfl (by decide) (by decide +kernel) rfl
theorem flX12_89 : q_flok RX12 (89, 12, 4) := q_fl1 1468 rfl (by decide) (by decide +kernel) rfl
theorem flX12_25 : q_flok RX12 (25, 12, 8) := q_fl1 1473 rfl (by decide) (by decide +kernel) rfl
theorem flX12_28 : q_flok RX12 (28, 12, 9) := q_fl1 1475 rfl (by decide) (by decide +kernel) rfl
theorem flX12_31 : q_flok RX12 (31, 12, 10) := q_fl1 1477 rfl (by decide) (by decide +kernel) rfl
theorem flX12_34 : q_flok RX12 (34, 12, 11) := q_fl1 1479 rfl (by decide) (by decide +kernel) rfl
theorem flX12_37 : q_flok RX12 (37, 12, 12) := q_fl1 1481 rfl (by decide) (by decide +kernel) rfl
theorem flX12_40 : q_flok RX12 (40, 12, 13) := q_fl1 1483 rfl (by decide) (by decide +kernel) rfl
theorem flX12_43 : q_flok RX12 (43, 12, 14) := q_fl1 1485 rfl (by decide) (by decide +kernel) rfl
theorem flX12_46 : q_flok RX12 (46, 12, 15) := q_fl1 1487 rfl (by decide) (by decide +kernel) rfl
theorem flX12_49 : q_flok RX12 (49, 12, 16) := q_fl1 1489 rfl (by decide) (by decide +kernel) rfl
theorem flX12_52 : q_flok RX12 (52, 12, 17) := q_fl1 1491 rfl (by decide) (by decide +kernel) rfl
theorem flX12_55 : q_flok RX12 (55, 12, 18) := q_fl1 1493 rfl (by decide) (by decide +kernel) rfl
theorem flX12_58 : q_flok RX12 (58, 12, 19) := q_fl1 1495 rfl (by decide) (by decide +kernel) rfl
theorem flX12_61 : q_flok RX12 (61, 12, 20) := q_fl1 1497 rfl (by decide) (by decide +kernel) rfl
theorem flX12_64 : q_flok RX12 (64, 12, 21) := q_fl1 1499 rfl (by decide) (by decide +kernel) rfl
theorem flX12_68 : q_flok RX12 (68, 12, 22) := q_fl1 1501 rfl (by decide) (by decide +kernel) rfl
theorem flX12_71 : q_flok RX12 (71, 12, 23) := q_fl1 1503 rfl (by decide) (by decide +kernel) rfl
theorem flX12_74 : q_flok RX12 (74, 12, 24) := q_fl1 1505 rfl (by decide) (by decide +kernel) rfl
theorem flX12_77 : q_flok RX12 (77, 12, 25) := q_fl1 1507 rfl (by decide) (by decide +kernel) rfl
theorem flX12_80 : q_flok RX12 (80, 12, 26) := q_fl1 1509 rfl (by decide) (by decide +kernel) rfl
theorem flX12_83 : q_flok RX12 (83, 12, 27) := q_fl1 1511 rfl (by decide) (by decide +kernel) rfl
theorem flX12_86 : q_flok RX12 (86, 12, 28) := q_fl1 1513 rfl (by decide) (by decide +kernel) rfl
theorem flX12_ok : ∀ f ∈ flX12, q_flok RX12 f := List.forall_mem_cons.mpr ⟨flX12_9, List.forall_mem_cons.mpr ⟨flX12_15, List.forall_mem_cons.mpr ⟨flX12_19, List.forall_mem_cons.mpr ⟨flX12_22, List.forall_mem_cons.mpr ⟨flX12_89, List.forall_mem_cons.mpr ⟨flX12_25, List.forall_mem_cons.mpr ⟨flX12_28, List.forall_mem_cons.mpr ⟨flX12_31, List.forall_mem_cons.mpr ⟨flX12_34, List.forall_mem_cons.mpr ⟨flX12_37, List.forall_mem_cons.mpr ⟨flX12_40, List.forall_mem_cons.mpr ⟨flX12_43, List.forall_mem_cons.mpr ⟨flX12_46, List.forall_mem_cons.mpr ⟨flX12_49, List.forall_mem_cons.mpr ⟨flX12_52, List.forall_mem_cons.mpr ⟨flX12_55, List.forall_mem_cons.mpr ⟨flX12_58, List.forall_mem_cons.mpr ⟨flX12_61, List.forall_mem_cons.mpr ⟨flX12_64, List.forall_mem_cons.mpr ⟨flX12_68, List.forall_mem_cons.mpr ⟨flX12_71, List.forall_mem_cons.mpr ⟨flX12_74, List.forall_mem_cons.mpr ⟨flX12_77, List.forall_mem_cons.mpr ⟨flX12_80, List.forall_mem_cons.mpr ⟨flX12_83, List.forall_mem_cons.mpr ⟨flX12_86, fun _ h => nomatch h⟩⟩⟩⟩⟩⟩⟩⟩⟩⟩⟩⟩⟩⟩⟩⟩⟩⟩⟩⟩⟩⟩⟩⟩⟩⟩
def flX14 : List (Nat × Nat × Nat) := [(129, 13, 6), (135, 13, 7), (123, 14, 0), (126, 14, 1), (9, 14, 2), (362, 14, 3), (379, 14, 4), (215, 14, 5), (16, 14, 6), (20, 14, 7), (359, 14, 8), (136, 14, 9), (151, 14, 10), (158, 14, 11), (132, 14, 12), (172, 14, 13), (165, 14, 14), (243, 14, 15), (382, 14, 16), (24, 14, 17), (28, 14, 18), (31, 14, 19), (34, 14, 20), (37, 14, 21), (40, 14, 22), (43, 14, 23), (47, 14, 24), (50, 14, 25), (53, 14, 26), (56, 14, 27), (60, 14, 28), (385, 14, 29), (63, 14, 30), (66, 14, 31), (69, 14, 32), (72, 14, 33), (75, 14, 34), (388, 14, 35), (78, 14, 36), (81, 14, 37), (84, 14, 38), (87, 14, 39), (90, 14, 40), (93, 14, 41), (391, 14, 42), (96, 14, 43), (99, 14, 44), (102, 14, 45), (105, 14, 46), (108, 14, 47), (111, 14, 48), (394, 14, 49), (114, 14, 50), (117, 14, 51), (120, 14, 52), (249, 12, 0), (225, 12, 1), (227, 12, 2), (246, 12, 3), (252, 12, 4), (255, 12, 5), (294, 12, 6), (325, 12, 7), (258, 12, 8), (264, 12, 9), (273, 12, 10), (281, 12, 11), (283, 12, 12), (286, 12, 13), (291, 12, 14), (297, 12, 15), (307, 12, 16), (312, 12, 17), (317, 12, 18), (319, 12, 19), (322, 12, 20), (300, 12, 21), (328, 12, 22), (331, 12, 23), (336, 12, 24), (338, 12, 25), (350, 12, 26), (353, 12, 27), (356, 12, 28)]
theorem flX14_129 : q_flok RX14 (129, 13, 6) := q_fl2 (host := "BridgeStripModel") 1266 rfl (by decide) (by decide +kernel) rfl
theorem flX14_135 : q_flok RX14 (135, 13, 7) := q_fl2 (host := "BridgeStripModel") 1267 rfl (by decide) (by decide +kernel) rfl
theorem flX14_123 : q_flok RX14 (123, 14, 0) := q_fl1 1274 rfl (by decide) (by decide +kernel) rfl
theorem flX14_126 : q_flok RX14 (126, 14, 1) := q_fl1 1275 rfl (by decide) (by decide +kernel) rfl
theorem flX14_9 : q_flok RX14 (9, 14, 2) := q_fl1 1276 rfl (by decide) (by decide +kernel) rfl
theorem flX14_362 : q_flok RX14 (362, 14, 3) := q_fl1 1277 rfl (by decide) (by decide +kernel) rfl
theorem flX14_379 : q_flok RX14 (379, 14, 4) := q_fl1 1278 rfl (by decide) (by decide +kernel) rfl
theorem flX14_215 : q_flok RX14 (215, 14, 5) := q_fl1 1279 rfl (by decide) (by decide +kernel) rfl
theorem flX14_16 : q_flok RX14 (16, 14, 6) := q_fl1 1280 rfl (by decide) (by decide +kernel) rfl
theorem flX14_20 : q_flok RX14 (20, 14, 7) := q_fl1 1281 rfl (by decide) (by decide +kernel) rfl
theorem flX14_359 : q_flok RX14 (359, 14, 8) := q_fl1 1282 rfl (by decide) (by decide +kernel) rfl
theorem flX14_136 : q_flok RX14 (136, 14, 9) := q_fl1 1283 rfl (by decide) (by decide +kernel) rfl
theorem flX14_151 : q_flok RX14 (151, 14, 10) := q_fl1 1284 rfl (by decide) (by decide +kernel) rfl
theorem flX14_158 : q_flok RX14 (158, 14, 11) := q_fl1 1285 rfl (by decide) (by decide +kernel) rfl
theorem flX14_132 : q_flok RX14 (132, 14, 12) := q_fl1 1286 rfl (by decide) (by decide +kernel) rfl
theorem flX14_172 : q_flok RX14 (172, 14, 13) := q_fl1 1287 rfl (by decide) (by decide +kernel) rfl
theorem flX14_165 : q_flok RX14 (165, 14, 14) := q_fl1 1288 rfl (by decide) (by decide +kernel) rfl
theorem flX14_243 : q_flok RX14 (243, 14, 15) := q_fl1 1289 rfl (by decide) (by decide +kernel) rfl
theorem flX14_382 : q_flok RX14 (382, 14, 16) := q_fl1 1290 rfl (by decide) (by decide +kernel) rfl
theorem flX14_24 : q_flok RX14 (24, 14, 17) := q_fl1 1291 rfl (by decide) (by decide +kernel) rfl
theorem flX14_28 : q_flok RX14 (28, 14, 18) := q_fl1 1292 rfl (by decide) (by decide +kernel) rfl
theorem flX14_31 : q_flok RX14 (31, 14, 19) := q_fl1 1293 rfl (by decide) (by decide +kernel) rfl
theorem flX14_34 : q_flok RX14 (34, 14, 20) := q_fl1 1294 rfl (by decide) (by decide +kernel) rfl
theorem flX14_37 : q_flok RX14 (37, 14, 21) := q_fl1 1295 rfl (by decide) (by decide +kernel) rfl
theorem flX14_40 : q_flok RX14 (40, 14, 22) := q_fl1 1296 rfl (by decide) (by decide +kernel) rfl
theorem flX14_43 : q_flok RX14 (43, 14, 23) := q_fl1 1297 rfl (by decide) (by decide +kernel) rfl
theorem flX14_47 : q_flok RX14 (47, 14, 24) := q_fl1 1298 rfl (by decide) (by decide +kernel) rfl
theorem flX14_50 : q_flok RX14 (50, 14, 25) := q_fl1 1299 rfl (by decide) (by decide +kernel) rfl
theorem flX14_53 : q_flok RX14 (53, 14, 26) := q_fl1 1300 rfl (by decide) (by decide +kernel) rfl
theorem flX14_56 : q_flok RX14 (56, 14, 27) := q_fl1 1301 rfl (by decide) (by decide +kernel) rfl
theorem flX14_60 : q_flok RX14 (60, 14, 28) := q_fl1 1302 rfl (by decide) (by decide +kernel) rfl
theorem flX14_385 : q_flok RX14 (385, 14, 29) := q_fl1 1303 rfl (by decide) (by decide +kernel) rfl
theorem flX14_63 : q_flok RX14 (63, 14, 30) := q_fl1 1304 rfl (by decide) (by decide +kernel) rfl
theorem flX14_66 : q_flok RX14 (66, 14, 31) := q_fl1 1305 rfl (by decide) (by decide +kernel) rfl
theorem flX14_69 : q_flok RX14 (69, 14, 32) := q_fl1 1306 rfl (by decide) (by decide +kernel) rfl
theorem flX14_72 : q_flok RX14 (72, 14, 33) := q_fl1 1307 rfl (by decide) (by decide +kernel) rfl
theorem flX14_75 : q_flok RX14 (75, 14, 34) := q_fl1 1308 rfl (by decide) (by decide +kernel) rfl
theorem flX14_388 : q_flok RX14 (388, 14, 35) := q_fl1 1309 rfl (by decide) (by decide +kernel) rfl
theorem flX14_78 : q_flok RX14 (78, 14, 36) := q_fl1 1310 rfl (by decide) (by decide +kernel) rfl
theorem flX14_81 : q_flok RX14 (81, 14, 37) := q_fl1 1311 rfl (by decide) (by decide +kernel) rfl
theorem flX14_84 : q_flok RX14 (84, 14, 38) := q_fl1 1312 rfl (by decide) (by decide +kernel) rfl
theorem flX14_87 : q_flok RX14 (87, 14, 39) := q_fl1 1313 rfl (by decide) (by decide +kernel) rfl
theorem flX14_90 : q_flok RX14 (90, 14, 40) := q_fl1 1314 rfl (by decide) (by decide +kernel) rfl
theorem flX14_93 : q_flok RX14 (93, 14, 41) := q_fl1 1315 rfl (by decide) (by decide +kernel) rfl
theorem flX14_391 : q_flok RX14 (391, 14, 42) := q_fl1 1316 rfl (by decide) (by decide +kernel) rfl
theorem flX14_96 : q_flok RX14 (96, 14, 43) := q_fl1 1317 rfl (by decide) (by decide +kernel) rfl
theorem flX14_99 : q_flok RX14 (99, 14, 44) := q_fl1 1318 rfl (by decide) (by decide +kernel) rfl
theorem flX14_102 : q_flok RX14 (102, 14, 45) := q_fl1 1319 rfl (by decide) (by decide +kernel) rfl
theorem flX14_105 : q_flok RX14 (105, 14, 46) := q_fl1 1320 rfl (by decide) (by decide +kernel) rfl
theorem flX14_108 : q_flok RX14 (108, 14, 47) := q_fl1 1321 rfl (by decide) (by decide +kernel) rfl
theorem flX14_111 : q_flok RX14 (111, 14, 48) := q_fl1 1322 rfl (by decide) (by decide +kernel) rfl
theorem flX14_394 : q_flok RX14 (394, 14, 49) := q_fl1 1323 rfl (by decide) (by decide +kernel) rfl
theorem flX14_114 : q_flok RX14 (114, 14, 50) := q_fl1 1324 rfl (by decide) (by decide +kernel) rfl
theorem flX14_117 : q_flok RX14 (117, 14, 51) := q_fl1 1325 rfl (by decide) (by decide +kernel) rfl
theorem flX14_120 : q_flok RX14 (120, 14, 52) := q_fl1 1326 rfl (by decide) (by decide +kernel) rfl
theorem flX14_249 : q_flok RX14 (249, 12, 0) := q_fl3 (host := "BridgeStripModel") 1461 rfl (by decide) (by decide +kernel) rfl (by decide +kernel)
theorem flX14_225 : q_flok RX14 (225, 12, 1) := q_fl3 (host := "BridgeStripModel") 1463 rfl (by decide) (by decide +kernel) rfl (by decide +kernel)
theorem flX14_227 : q_flok RX14 (227, 12, 2) := q_fl3 (host := "BridgeStripModel") 1465 rfl (by decide) (by decide +kernel) rfl (by decide +kernel)
theorem flX14_246 : q_flok RX14 (246, 12, 3) := q_fl3 (host := "BridgeStripModel") 1467 rfl (by decide) (by decide +kernel) rfl (by decide +kernel)
theorem flX14_252 : q_flok RX14 (252, 12, 4) := q_fl2 (host := "BridgeStripModel") 1469 rfl (by decide) (by decide +kernel) rfl
theorem flX14_255 : q_flok RX14 (255, 12, 5) := q_fl2 (host := "BridgeStripModel") 1470 rfl (by decide) (by decide +kernel) rfl
theorem flX14_294 : q_flok RX14 (294, 12, 6) := q_fl2 (host := "BridgeStripModel") 1471 rfl (by decide) (by decide +kernel) rfl
theorem flX14_325 : q_flok RX14 (325, 12, 7) := q_fl2 (host := "BridgeStripModel") 1472 rfl (by decide) (by decide +kernel) rfl
theorem flX14_258 : q_flok RX14 (258, 12, 8) := q_fl3 (host := "BridgeStripModel") 1474 rfl (by decide) (by decide +kernel) rfl (by decide +kernel)
theorem flX14_264 : q_flok RX14 (264, 12, 9) := q_fl3 (host := "BridgeStripModel") 1476 rfl (by decide) (by decide +kernel) rfl (by decide +kernel)
theorem flX14_273 : q_flok RX14 (273, 12, 10) := q_fl3 (host := "BridgeStripModel") 1478 rfl (by decide) (by decide +kernel) rfl (by decide +kernel)
theorem flX14_281 : q_flok RX14 (281, 12, 11) := q_fl3 (host := "BridgeStripModel") 1480 rfl (by decide) (by decide +kernel) rfl (by decide +kernel)
theorem flX14_283 : q_flok RX14 (283, 12, 12) := q_fl3 (host := "BridgeStripModel") 1482 rfl (by decide) (by decide +kernel) rfl (by decide +kernel)
theorem flX14_286 : q_flok RX14 (286, 12, 13) := q_fl3 (host := "BridgeStripModel") 1484 rfl (by decide) (by decide +kernel) rfl (by decide +kernel)
theorem flX14_291 : q_flok RX14 (291, 12, 14) := q_fl3 (host := "BridgeStripModel") 1486 rfl (by decide) (by decide +kernel) rfl (by decide +kernel)
theorem flX14_297 : q_flok RX14 (297, 12, 15) := q_fl3 (host := "BridgeStripModel") 1488 rfl (by decide) (by decide +kernel) rfl (by decide +kernel)
theorem flX14_307 : q_flok RX14 (307, 12, 16) := q_fl3 (host := "BridgeStripModel") 1490 rfl (by decide) (by decide +kernel) rfl (by decide +kernel)
theorem flX14_312 : q_flok RX14 (312, 12, 17) := q_fl3 (host := "BridgeStripModel") 1492 rfl (by decide) (by decide +kernel) rfl (by decide +kernel)
theorem flX14_317 : q_flok RX14 (317, 12, 18) := q_fl3 (host := "BridgeStripModel") 1494 rfl (by decide) (by decide +kernel) rfl (by decide +kernel)
theorem flX14_319 : q_flok RX14 (319, 12, 19) := q_fl3 (host := "BridgeStripModel") 1496 rfl (by decide) (by decide +kernel) rfl (by decide +kernel)
theorem flX14_322 : q_flok RX14 (322, 12, 20) := q_fl3 (host := "BridgeStripModel") 1498 rfl (by decide) (by decide +kernel) rfl (by decide +kernel)
theorem flX14_300 : q_flok RX14 (300, 12, 21) := q_fl3 (host := "BridgeStripModel") 1500 rfl (by decide) (by decide +kernel) rfl (by decide +kernel)
theorem flX14_328 : q_flok RX14 (328, 12, 22) := q_fl3 (host := "BridgeStripModel") 1502 rfl (by decide) (by decide +kernel) rfl (by decide +kernel)
theorem flX14_331 : q_flok RX14 (331, 12, 23) := q_fl3 (host := "BridgeStripModel") 1504 rfl (by decide) (by decide +kernel) rfl (by decide +kernel)
theorem flX14_336 : q_flok RX14 (336, 12, 24) := q_fl3 (host := "BridgeStripModel") 1506 rfl (by decide) (by decide +kernel) rfl (by decide +kernel)
theorem flX14_338 : q_flok RX14 (338, 12, 25) := q_fl3 (host := "BridgeStripModel") 1508 rfl (by decide) (by decide +kernel) rfl (by decide +kernel)
theorem flX14_350 : q_flok RX14 (350, 12, 26) := q_fl3 (host := "BridgeStripModel") 1510 rfl (by decide) (by decide +kernel) rfl (by decide +kernel)
theorem flX14_353 : q_flok RX14 (353, 12, 27) := q_fl3 (host := "BridgeStripModel") 1512 rfl (by decide) (by decide +kernel) rfl (by decide +kernel)
theorem flX14_356 : q_flok RX14 (356, 12, 28) := q_fl3 (host := "BridgeStripModel") 1514 rfl (by decide) (by decide +kernel) rfl (by decide +kernel)
theorem flX14_ok : ∀ f ∈ flX14, q_flok RX14 f := List.forall_mem_cons.mpr ⟨flX14_129, List.forall_mem_cons.mpr ⟨flX14_135, List.forall_mem_cons.mpr ⟨flX14_123, List.forall_mem_cons.mpr ⟨flX14_126, List.forall_mem_cons.mpr ⟨flX14_9, List.forall_mem_cons.mpr ⟨flX14_362, List.forall_mem_cons.mpr ⟨flX14_379, List.forall_mem_cons.mpr ⟨flX14_215, List.forall_mem_cons.mpr ⟨flX14_16, List.forall_mem_cons.mpr ⟨flX14_20, List.forall_mem_cons.mpr ⟨flX14_359, List.forall_mem_cons.mpr ⟨flX14_136, List.forall_mem_cons.mpr ⟨flX14_151, List.forall_mem_cons.mpr ⟨flX14_158, List.forall_mem_cons.mpr ⟨flX14_132, List.forall_mem_cons.mpr ⟨flX14_172, List.forall_mem_cons.mpr ⟨flX14_165, List.forall_mem_cons.mpr ⟨flX14_243, List.forall_mem_cons.mpr ⟨flX14_382, List.forall_mem_cons.mpr ⟨flX14_24, List.forall_mem_cons.mpr ⟨flX14_28, List.forall_mem_cons.mpr ⟨flX14_31, List.forall_mem_cons.mpr ⟨flX14_34, List.forall_mem_cons.mpr ⟨flX14_37, List.forall_mem_cons.mpr ⟨flX14_40, List.forall_mem_cons.mpr ⟨flX14_43, List.forall_mem_cons.mpr ⟨flX14_47, List.forall_mem_cons.mpr ⟨flX14_50, List.forall_mem_cons.mpr ⟨flX14_53, List.forall_mem_cons.mpr ⟨flX14_56, List.forall_mem_cons.mpr ⟨flX14_60, List.forall_mem_cons.mpr ⟨flX14_385, List.forall_mem_cons.mpr ⟨flX14_63, List.forall_mem_cons.mpr ⟨flX14_66, List.forall_mem_cons.mpr ⟨flX14_69, List.forall_mem_cons.mpr ⟨flX14_72, List.forall_mem_cons.mpr ⟨flX14_75, List.forall_mem_cons.mpr ⟨flX14_388, List.forall_mem_cons.mpr ⟨flX14_78, List.forall_mem_cons.mpr ⟨flX14_81, List.forall_mem_cons.mpr ⟨flX14_84, List.forall_mem_cons.mpr ⟨flX14_87, List.forall_mem_cons.mpr ⟨flX14_90, List.forall_mem_cons.mpr ⟨flX14_93, List.forall_mem_cons.mpr ⟨flX14_391, List.forall_mem_cons.mpr ⟨flX14_96, List.forall_mem_cons.mpr ⟨flX14_99, List.forall_mem_cons.mpr ⟨flX14_102, List.forall_mem_cons.mpr ⟨flX14_105, List.forall_mem_cons.mpr ⟨flX14_108, List.forall_mem_cons.mpr ⟨flX14_111, List.forall_mem_cons.mpr ⟨flX14_394, List.forall_mem_cons.mpr ⟨flX14_114, List.forall_mem_cons.mpr ⟨flX14_117, List.forall_mem_cons.mpr ⟨flX14_120, List.forall_mem_cons.mpr ⟨flX14_249, List.forall_mem_cons.mpr ⟨flX14_225, List.forall_mem_cons.mpr ⟨flX14_227, List.forall_mem_cons.mpr ⟨flX14_246, List.forall_mem_cons.mpr ⟨flX14_252, List.forall_mem_cons.mpr ⟨flX14_255, List.forall_mem_cons.mpr ⟨flX14_294, List.forall_mem_cons.mpr ⟨flX14_325, List.forall_mem_cons.mpr ⟨flX14_258, List.forall_mem_cons.mpr ⟨flX14_264, List.forall_mem_cons.mpr ⟨flX14_273, List.forall_mem_cons.mpr ⟨flX14_281, List.forall_mem_cons.mpr ⟨flX14_283, List.forall_mem_cons.mpr ⟨flX14_286, List.forall_mem_cons.mpr ⟨flX14_291, List.forall_mem_cons.mpr ⟨flX14_297, List.forall_mem_cons.mpr ⟨flX14_307, List.forall_mem_cons.mpr ⟨flX14_312, List.forall_mem_cons.mpr ⟨flX14_317, List.forall_mem_cons.mpr ⟨flX14_319, List.forall_mem_cons.mpr ⟨flX14_322, List.forall_mem_cons.mpr ⟨flX14_300, List.forall_mem_cons.mpr ⟨flX14_328, List.forall_mem_cons.mpr ⟨flX14_331, List.forall_mem_cons.mpr ⟨flX14_336, List.forall_mem_cons.mpr ⟨flX14_338, List.forall_mem_cons.mpr ⟨flX14_350, List.forall_mem_cons.mpr ⟨flX14_353, List.forall_mem_cons.mpr ⟨flX14_356, fun _ h => nomatch h⟩⟩⟩⟩⟩⟩⟩⟩⟩⟩⟩⟩⟩⟩⟩⟩⟩⟩⟩⟩⟩⟩⟩⟩⟩⟩⟩⟩⟩⟩⟩⟩⟩⟩⟩⟩⟩⟩⟩⟩⟩⟩⟩⟩⟩⟩⟩⟩⟩⟩⟩⟩⟩⟩⟩⟩⟩⟩⟩⟩⟩⟩⟩⟩⟩⟩⟩⟩⟩⟩⟩⟩⟩⟩⟩⟩⟩⟩⟩⟩⟩⟩⟩⟩
def flX2 : List (Nat × Nat × Nat) := [(11, 2, 0), (15, 2, 1), (18, 2, 2), (21, 2, 3), (24, 2, 4), (27, 2, 5), (30, 2, 6), (33, 2, 7), (37, 2, 8), (69, 6, 0)]
theorem flX2_11 : q_flok RX2 (11, 2, 0) := q_fl1 128 rfl (by decide) (by decide +kernel) rfl
theorem flX2_15 : q_flok RX2 (15, 2, 1) := q_fl1 129 rfl (by decide) (by decide +kernel) rfl
theorem flX2_18 : q_flok RX2 (18, 2, 2) := q_fl1 130 rfl (by decide) (by decide +kernel) rfl
theorem flX2_21 : q_flok RX2 (21, 2, 3) := q_fl1 131 rfl (by decide) (by decide +kernel) rfl
theorem flX2_24 : q_flok RX2 (24, 2, 4) := q_fl1 132 rfl (by decide) (by decide +kernel) rfl
theorem flX2_27 : q_flok RX2 (27, 2, 5) := q_fl1 133 rfl (by decide) (by decide +kernel) rfl
theorem flX2_30 : q_flok RX2 (30, 2, 6) := q_fl1 134 rfl (by decide) (by decide +kernel) rfl
theorem flX2_33 : q_flok RX2 (33, 2, 7) := q_fl1 135 rfl (by decide) (by decide +kernel) rfl
theorem flX2_37 : q_flok RX2 (37, 2, 8) := q_fl1 136 rfl (by decide) (by decide +kernel) rfl
theorem flX2_69 : q_flok RX2 (69, 6, 0) := q_fl1 319 rfl (by decide) (by decide +kernel) rfl
theorem flX2_ok : ∀ f ∈ flX2, q_flok RX2 f := List.forall_mem_cons.mpr ⟨flX2_11, List.forall_mem_cons.mpr ⟨flX2_15, List.forall_mem_cons.mpr ⟨flX2_18, List.forall_mem_cons.mpr ⟨flX2_21, List.forall_mem_cons.mpr ⟨flX2_24, List.forall_mem_cons.mpr ⟨flX2_27, List.forall_mem_cons.mpr ⟨flX2_30, List.forall_mem_cons.mpr ⟨flX2_33, List.forall_mem_cons.mpr ⟨flX2_37, List.forall_mem_cons.mpr ⟨flX2_69, fun _ h => nomatch h⟩⟩⟩⟩⟩⟩⟩⟩⟩⟩
def flX3 : List (Nat × Nat × Nat) := [(11, 3, 0), (15, 3, 1), (18, 3, 2), (21, 3, 3), (25, 3, 4), (28, 3, 5), (31, 3, 6), (34, 3, 7)]
theorem flX3_11 : q_flok RX3 (11, 3, 0) := q_fl1 94 rfl (by decide) (by decide +kernel) rfl
theorem flX3_15 : q_flok RX3 (15, 3, 1) := q_fl1 95 rfl (by decide) (by decide +kernel) rfl
theorem flX3_18 : q_flok RX3 (18, 3, 2) := q_fl1 96 rfl (by decide) (by decide +kernel) rfl
theorem flX3_21 : q_flok RX3 (21, 3, 3) := q_fl1 97 rfl (by decide) (by decide +kernel) rfl
theorem flX3_25 : q_flok RX3 (25, 3, 4) := q_fl1 98 rfl (by decide) (by decide +kernel) rfl
theorem flX3_28 : q_flok RX3 (28, 3, 5) := q_fl1 99 rfl (by decide) (by decide +kernel) rfl
theorem flX3_31 : q_flok RX3 (31, 3, 6) := q_fl1 100 rfl (by decide) (by decide +kernel) rfl
theorem flX3_34 : q_flok RX3 (34, 3, 7) := q_fl1 101 rfl (by decide) (by decide +kernel) rfl
theorem flX3_ok : ∀ f ∈ flX3, q_flok RX3 f := List.forall_mem_cons.mpr ⟨flX3_11, List.forall_mem_cons.mpr ⟨flX3_15, List.forall_mem_cons.mpr ⟨flX3_18, List.forall_mem_cons.mpr ⟨flX3_21, List.forall_mem_cons.mpr ⟨flX3_25, List.forall_mem_cons.mpr ⟨flX3_28, List.forall_mem_cons.mpr ⟨flX3_31, List.forall_mem_cons.mpr ⟨flX3_34, fun _ h => nomatch h⟩⟩⟩⟩⟩⟩⟩⟩
def flX4 : List (Nat × Nat × Nat) := [(9, 4, 0), (13, 4, 1), (18, 4, 2), (22, 4, 3)]
theorem flX4_9 : q_flok RX4 (9, 4, 0) := q_fl1 483 rfl (by decide) (by decide +kernel) rfl
theorem flX4_13 : q_flok RX4 (13, 4, 1) := q_fl1 485 rfl (by decide) (by decide +kernel) rfl
theorem flX4_18 : q_flok RX4 (18, 4, 2) := q_fl1 486 rfl (by decide) (by decide +kernel) rfl
theorem flX4_22 : q_flok RX4 (22, 4, 3) := q_fl1 488 rfl (by decide) (by decide +kernel) rfl
theorem flX4_ok : ∀ f ∈ flX4, q_flok RX4 f := List.forall_mem_cons.mpr ⟨flX4_9, List.forall_mem_cons.mpr ⟨flX4_13, List.forall_mem_cons.mpr ⟨flX4_18, List.forall_mem_cons.mpr ⟨flX4_22, fun _ h => nomatch h⟩⟩⟩⟩
def flX5 : List (Nat × Nat × Nat) := [(62, 8, 4), (65, 8, 5), (72, 8, 6), (61, 8, 7), (55, 0, 5), (68, 0, 6), (11, 5, 0), (15, 5, 1), (18, 5, 2), (23, 5, 3), (26, 5, 4), (34, 5, 5), (30, 5, 6)]
theorem flX5_62 : q_flok RX5 (62, 8, 4) := q_fl1 56 rfl (by decide) (by decide +kernel) rfl
theorem flX5_65 : q_flok RX5 (65, 8, 5) := q_fl1 59 rfl (by decide) (by decide +kernel) rfl
theorem flX5_72 : q_flok RX5 (72, 8, 6) := q_fl1 62 rfl (by decide) (by decide +kernel) rfl
theorem flX5_61 : q_flok RX5 (61, 8, 7) := q_fl1 66 rfl (by decide) (by decide +kernel) rfl
theorem flX5_55 : q_flok RX5 (55, 0, 5) := q_fl1 171 rfl (by decide) (by decide +kernel) rfl
theorem flX5_68 : q_flok RX5 (68, 0, 6) := q_fl1 178 rfl (by decide) (by decide +kernel) rfl
theorem flX5_11 : q_flok RX5 (11, 5, 0) := q_fl1 384 rfl (by decide) (by decide +kernel) rfl
theorem flX5_15 : q_flok RX5 (15, 5, 1) := q_fl1 385 rfl (by decide) (by decide +kernel) rfl
theorem flX5_18 : q_flok RX5 (18, 5, 2) := q_fl1 386 rfl (by decide) (by decide +kernel) rfl
theorem flX5_23 : q_flok RX5 (23, 5, 3) := q_fl1 387 rfl (by decide) (by decide +kernel) rfl
theorem flX5_26 : q_flok RX5 (26, 5, 4) := q_fl1 388 rfl (by decide) (by decide +kernel) rfl
theorem flX5_34 : q_flok RX5 (34, 5, 5) := q_fl1 389 rfl (by decide) (by decide +kernel) rfl
theorem flX5_30 : q_flok RX5 (30, 5, 6) := q_fl1 391 rfl (by decide) (by decide +kernel) rfl
theorem flX5_ok : ∀ f ∈ flX5, q_flok RX5 f := List.forall_mem_cons.mpr ⟨flX5_62, List.forall_mem_cons.mpr ⟨flX5_65, List.forall_mem_cons.mpr ⟨flX5_72, List.forall_mem_cons.mpr ⟨flX5_61, List.forall_mem_cons.mpr ⟨flX5_55, List.forall_mem_cons.mpr ⟨flX5_68, List.forall_mem_cons.mpr ⟨flX5_11, List.forall_mem_cons.mpr ⟨flX5_15, List.forall_mem_cons.mpr ⟨flX5_18, List.forall_mem_cons.mpr ⟨flX5_23, List.forall_mem_cons.mpr ⟨flX5_26, List.forall_mem_cons.mpr ⟨flX5_34, List.forall_mem_cons.mpr ⟨flX5_30, fun _ h => nomatch h⟩⟩⟩⟩⟩⟩⟩⟩⟩⟩⟩⟩⟩
def flX6 : List (Nat × Nat × Nat) := [(51, 0, 0), (56, 0, 6), (11, 6, 0), (15, 6, 1), (18, 6, 2), (21, 6, 3), (24, 6, 4), (27, 6, 5), (30, 6, 6)]
theorem flX6_51 : q_flok RX6 (51, 0, 0) := q_fl1 161 rfl (by decide) (by decide +kernel) rfl
theorem flX6_56 : q_flok RX6 (56, 0, 6) := q_fl1 180 rfl (by decide) (by decide +kernel) rfl
theorem flX6_11 : q_flok RX6 (11, 6, 0) := q_fl1 317 rfl (by decide) (by decide +kernel) rfl
theorem flX6_15 : q_flok RX6 (15, 6, 1) := q_fl1 321 rfl (by decide) (by decide +kernel) rfl
theorem flX6_18 : q_flok RX6 (18, 6, 2) := q_fl1 323 rfl (by decide) (by decide +kernel) rfl
theorem flX6_21 : q_flok RX6 (21, 6, 3) := q_fl1 325 rfl (by decide) (by decide +kernel) rfl
theorem flX6_24 : q_flok RX6 (24, 6, 4) := q_fl1 327 rfl (by decide) (by decide +kernel) rfl
theorem flX6_27 : q_flok RX6 (27, 6, 5) := q_fl1 329 rfl (by decide) (by decide +kernel) rfl
theorem flX6_30 : q_flok RX6 (30, 6, 6) := q_fl1 331 rfl (by decide) (by decide +kernel) rfl
theorem flX6_ok : ∀ f ∈ flX6, q_flok RX6 f := List.forall_mem_cons.mpr ⟨flX6_51, List.forall_mem_cons.mpr ⟨flX6_56, List.forall_mem_cons.mpr ⟨flX6_11, List.forall_mem_cons.mpr ⟨flX6_15, List.forall_mem_cons.mpr ⟨flX6_18, List.forall_mem_cons.mpr ⟨flX6_21, List.forall_mem_cons.mpr ⟨flX6_24, List.forall_mem_cons.mpr ⟨flX6_27, List.forall_mem_cons.mpr ⟨flX6_30, fun _ h => nomatch h⟩⟩⟩⟩⟩⟩⟩⟩⟩
def flX7 : List (Nat × Nat × Nat) := [(213, 0, 2), (217, 0, 3), (123, 0, 5), (168, 0, 6), (186, 0, 7), (64, 7, 0), (67, 7, 1), (35, 7, 2), (39, 7, 3), (53, 7, 4), (43, 7, 5), (61, 7, 6), (57, 7, 7), (80, 7, 8), (135, 7, 9), (70, 7, 10), (111, 7, 11), (219, 7, 12)]
theorem flX7_213 : q_flok RX7 (213, 0, 2) := q_fl1 165 rfl (by decide) (by decide +kernel) rfl
theorem flX7_217 : q_flok RX7 (217, 0, 3) := q_fl1 167 rfl (by decide) (by decide +kernel) rfl
theorem flX7_123 : q_flok RX7 (123, 0, 5) := q_fl1 172 rfl (by decide) (by decide +kernel) rfl
theorem flX7_168 : q_flok RX7 (168, 0, 6) := q_fl1 179 rfl (by decide) (by decide +kernel) rfl
theorem flX7_186 : q_flok RX7 (186, 0, 7) := q_fl1 182 rfl (by decide) (by decide +kernel) rfl
theorem flX7_64 : q_flok RX7 (64, 7, 0) := q_fl1 269 rfl (by decide) (by decide +kernel) rfl
theorem flX7_67 : q_flok RX7 (67, 7, 1) := q_fl1 271 rfl (by decide) (by decide +kernel) rfl
theorem flX7_35 : q_flok RX7 (35, 7, 2) := q_fl1 273 rfl (by decide) (by decide +kernel) rfl
theorem flX7_39 : q_flok RX7 (39, 7, 3) := q_fl1 274 rfl (by decide) (by decide +kernel) rfl
theorem flX7_53 : q_flok RX7 (53, 7, 4) := q_fl1 275 rfl (by decide) (by decide +kernel) rfl
theorem flX7_43 : q_flok RX7 (43, 7, 5) := q_fl1 276 rfl (by decide) (by decide +kernel) rfl
theorem flX7_61 : q_flok RX7 (61, 7, 6) := q_fl1 277 rfl (by decide) (by decide +kernel) rfl
theorem flX7_57 : q_flok RX7 (57, 7, 7) := q_fl1 278 rfl (by decide) (by decide +kernel) rfl
theorem flX7_80 : q_flok RX7 (80, 7, 8) := q_fl1 279 rfl (by decide) (by decide +kernel) rfl
theorem flX7_135 : q_flok RX7 (135, 7, 9) := q_fl1 280 rfl (by decide) (by decide +kernel) rfl
theorem flX7_70 : q_flok RX7 (70, 7, 10) := q_fl1 281 rfl (by decide) (by decide +kernel) rfl
theorem flX7_111 : q_flok RX7 (111, 7, 11) := q_fl1 282 rfl (by decide) (by decide +kernel) rfl
theorem flX7_219 : q_flok RX7 (219, 7, 12) := q_fl1 283 rfl (by decide) (by decide +kernel) rfl
theorem flX7_ok : ∀ f ∈ flX7, q_flok RX7 f := List.forall_mem_cons.mpr ⟨flX7_213, List.forall_mem_cons.mpr ⟨flX7_217, List.forall_mem_cons.mpr ⟨flX7_123, List.forall_mem_cons.mpr ⟨flX7_168, List.forall_mem_cons.mpr ⟨flX7_186, List.forall_mem_cons.mpr ⟨flX7_64, List.forall_mem_cons.mpr ⟨flX7_67, List.forall_mem_cons.mpr ⟨flX7_35, List.forall_mem_cons.mpr ⟨flX7_39, List.forall_mem_cons.mpr ⟨flX7_53, List.forall_mem_cons.mpr ⟨flX7_43, List.forall_mem_cons.mpr ⟨flX7_61, List.forall_mem_cons.mpr ⟨flX7_57, List.forall_mem_cons.mpr ⟨flX7_80, List.forall_mem_cons.mpr ⟨flX7_135, List.forall_mem_cons.mpr ⟨flX7_70, List.forall_mem_cons.mpr ⟨flX7_111, List.forall_mem_cons.mpr ⟨flX7_219, fun _ h => nomatch h⟩⟩⟩⟩⟩⟩⟩⟩⟩⟩⟩⟩⟩⟩⟩⟩⟩⟩
def flX8 : List (Nat × Nat × Nat) := [(11, 8, 0), (15, 8, 1), (18, 8, 2), (21, 8, 3), (24, 8, 4), (27, 8, 5), (30, 8, 6), (33, 8, 7)]
theorem flX8_11 : q_flok RX8 (11, 8, 0) := q_fl1 46 rfl (by decide) (by decide +kernel) rfl
theorem flX8_15 : q_flok RX8 (15, 8, 1) := q_fl1 48 rfl (by decide) (by decide +kernel) rfl
theorem flX8_18 : q_flok RX8 (18, 8, 2) := q_fl1 50 rfl (by decide) (by decide +kernel) rfl
theorem flX8_21 : q_flok RX8 (21, 8, 3) := q_fl1 52 rfl (by decide) (by decide +kernel) rfl
theorem flX8_24 : q_flok RX8 (24, 8, 4) := q_fl1 54 rfl (by decide) (by decide +kernel) rfl
theorem flX8_27 : q_flok RX8 (27, 8, 5) := q_fl1 57 rfl (by decide) (by decide +kernel) rfl
theorem flX8_30 : q_flok RX8 (30, 8, 6) := q_fl1 60 rfl (by decide) (by decide +kernel) rfl
theorem flX8_33 : q_flok RX8 (33, 8, 7) := q_fl1 63 rfl (by decide) (by decide +kernel) rfl
theorem flX8_ok : ∀ f ∈ flX8, q_flok RX8 f := List.forall_mem_cons.mpr ⟨flX8_11, List.forall_mem_cons.mpr ⟨flX8_15, List.forall_mem_cons.mpr ⟨flX8_18, List.forall_mem_cons.mpr ⟨flX8_21, List.forall_mem_cons.mpr ⟨flX8_24, List.forall_mem_cons.mpr ⟨flX8_27, List.forall_mem_cons.mpr ⟨flX8_30, List.forall_mem_cons.mpr ⟨flX8_33, fun _ h => nomatch h⟩⟩⟩⟩⟩⟩⟩⟩
def flX9 : List (Nat × Nat × Nat) := [(11, 9, 0), (15, 9, 1), (18, 9, 2), (21, 9, 3), (24, 9, 4), (27, 9, 5), (42, 9, 6), (34, 9, 7), (30, 9, 8)]
theorem flX9_11 : q_flok RX9 (11, 9, 0) := q_fl1 446 rfl (by decide) (by decide +kernel) rfl
theorem flX9_15 : q_flok RX9 (15, 9, 1) := q_fl1 447 rfl (by decide) (by decide +kernel) rfl
theorem flX9_18 : q_flok RX9 (18, 9, 2) := q_fl1 448 rfl (by decide) (by decide +kernel) rfl
theorem flX9_21 : q_flok RX9 (21, 9, 3) := q_fl1 449 rfl (by decide) (by decide +kernel) rfl
theorem flX9_24 : q_flok RX9 (24, 9, 4) := q_fl1 450 rfl (by decide) (by decide +kernel) rfl
theorem flX9_27 : q_flok RX9 (27, 9, 5) := q_fl1 451 rfl (by decide) (by decide +kernel) rfl
theorem flX9_42 : q_flok RX9 (42, 9, 6) := q_fl1 453 rfl (by decide) (by decide +kernel) rfl
theorem flX9_34 : q_flok RX9 (34, 9, 7) := q_fl1 455 rfl (by decide) (by decide +kernel) rfl
theorem flX9_30 : q_flok RX9 (30, 9, 8) := q_fl1 457 rfl (by decide) (by decide +kernel) rfl
theorem flX9_ok : ∀ f ∈ flX9, q_flok RX9 f := List.forall_mem_cons.mpr ⟨flX9_11, List.forall_mem_cons.mpr ⟨flX9_15, List.forall_mem_cons.mpr ⟨flX9_18, List.forall_mem_cons.mpr ⟨flX9_21, List.forall_mem_cons.mpr ⟨flX9_24, List.forall_mem_cons.mpr ⟨flX9_27, List.forall_mem_cons.mpr ⟨flX9_42, List.forall_mem_cons.mpr ⟨flX9_34, List.forall_mem_cons.mpr ⟨flX9_30, fun _ h => nomatch h⟩⟩⟩⟩⟩⟩⟩⟩⟩
end
section
/-! ===== what stands around every method: texts, statics, nest mates' words ===== -/
def q_ROOM : Nat → Int32
  | 0 => 8
  | 1 => 5
  | 2 => 6
  | _ => 6
def q_str : List (String × Nat × String × List Int32) := [("BridgeStrip$Reader", 25, "law", [108, 97, 119]), ("BridgeStrip$Reader", 9, "place", [112, 108, 97, 99, 101]), ("BridgeStrip$Reader", 17, "land", [108, 97, 110, 100]), ("BridgeStrip$Reader", 19, "office", [111, 102, 102, 105, 99, 101]), ("BridgeStrip$Reader", 21, "kind", [107, 105, 110, 100]), ("BridgeStrip$Reader", 23, "road", [114, 111, 97, 100]), ("BridgeStrip$Reader", 27, "gift", [103, 105, 102, 116]), ("BridgeStrip$Reader", 29, "ask", [97, 115, 107]), ("BridgeStrip$Reader", 31, "until", [117, 110, 116, 105, 108]), ("BridgeStrip$Reader", 33, "if", [105, 102]), ("BridgeStrip$Reader", 175, "takes", [116, 97, 107, 101, 115]), ("BridgeStrip$Reader", 177, "bars", [98, 97, 114, 115]), ("BridgeStrip$Reader", 179, "of", [111, 102]), ("BridgeStrip$Reader", 181, "since", [115, 105, 110, 99, 101]), ("BridgeStrip$Reader", 142, "days", [100, 97, 121, 115]), ("BridgeStrip$Reader", 150, "coin", [99, 111, 105, 110]), ("BridgeStrip$Reader", 162, "by", [98, 121]), ("BridgeStrip$Reader", 193, "after", [97, 102, 116, 101, 114]), ("BridgeStrip$Reader", 204, "born", [98, 111, 114, 110]), ("BridgeStrip$Reader", 209, "parent", [112, 97, 114, 101, 110, 116]), ("BridgeStrip$Reader", 211, "holds", [104, 111, 108, 100, 115]), ("BridgeStrip", 324, "no such person, place or day", [110, 111, 32, 115, 117, 99, 104, 32, 112, 101, 114, 115, 111, 110, 44, 32, 112, 108, 97, 99, 101, 32, 111, 114, 32, 100, 97, 121]), ("BridgeStrip", 333, "no such place on the way", [110, 111, 32, 115, 117, 99, 104, 32, 112, 108, 97, 99, 101, 32, 111, 110, 32, 116, 104, 101, 32, 119, 97, 121]), ("BridgeStripModel", 179, "place", [112, 108, 97, 99, 101]), ("BridgeStripModel", 184, "land", [108, 97, 110, 100]), ("BridgeStripModel", 186, "office", [111, 102, 102, 105, 99, 101]), ("BridgeStripModel", 188, "kind", [107, 105, 110, 100]), ("BridgeStripModel", 189, "road", [114, 111, 97, 100]), ("BridgeStripModel", 191, "law", [108, 97, 119]), ("BridgeStripModel", 193, "gift", [103, 105, 102, 116]), ("BridgeStripModel", 195, "ask", [97, 115, 107]), ("BridgeStripModel", 197, "until", [117, 110, 116, 105, 108]), ("BridgeStripModel", 199, "if", [105, 102]), ("BridgeStripModel", 267, "days", [100, 97, 121, 115]), ("BridgeStripModel", 279, "coin", [99, 111, 105, 110]), ("BridgeStripModel", 289, "by", [98, 121]), ("BridgeStripModel", 303, "takes", [116, 97, 107, 101, 115]), ("BridgeStripModel", 305, "bars", [98, 97, 114, 115]), ("BridgeStripModel", 310, "of", [111, 102]), ("BridgeStripModel", 315, "since", [115, 105, 110, 99, 101]), ("BridgeStripModel", 334, "after", [97, 102, 116, 101, 114]), ("BridgeStripModel", 344, "born", [98, 111, 114, 110]), ("BridgeStripModel", 346, "parent", [112, 97, 114, 101, 110, 116]), ("BridgeStripModel", 348, "holds", [104, 111, 108, 100, 115])]
def q_sOk (xd xv : Nat → Nat) (A : Nat → Prop) (U : State) (H : Heap) (i : Nat) (x : String × Nat × String × List Int32) : Prop :=
  vk_R x.1 x.2.1 x.2.2.1 (xd i) U ∧ va_O "java/lang/String" (xd i) A U H ∧ va_OF "java/lang/String" "coder" "B" (.int 0) (xd i) A U H ∧ va_OF "java/lang/String" "value" "[B" (.ref (xd (45 + i))) (xd i) A U H ∧ va_T .byte (xd (45 + i)) x.2.2.2.length (fun j => .int (x.2.2.2.getD j 0)) A U H
def q_Fm (xd : Nat → Nat) (A : Nat → Prop) (U : State) (H : Heap) : Prop := va_Z "jdk/internal/util/Preconditions" "SIOOBE_FORMATTER" "Ljava/util/function/BiFunction;" .null A U H ∨ va_Z "jdk/internal/util/Preconditions" "SIOOBE_FORMATTER" "Ljava/util/function/BiFunction;" (.ref (xd 89)) A U H
def q_Amb (xd xv : Nat → Nat) (A : Nat → Prop) (U : State) (H : Heap) : Prop :=
  (∀ i x, q_str[i]? = some x → q_sOk xd xv A U H i x) ∧ va_Z RX0 "ROOM" "[I" (.ref (xd 44)) A U H ∧ va_T .int (xd 44) 4 (fun j => .int (q_ROOM j)) A U H ∧ va_Z "java/lang/String" "COMPACT_STRINGS" "Z" (.int 1) A U H ∧
  q_Fm xd A U H ∧ qx_Zq Bundle.tN "UNASSIGNED_STACK" Bundle.steD A U H ∧ qx_Zq Bundle.tN "SUPPRESSED_SENTINEL" Bundle.listD A U H ∧ ∀ w ∈ q_nest, va_Nw w U
theorem q_Amb.move {xd xv : Nat → Nat} {A B : Nat → Prop} {s U : State} (h : q_Amb xd xv A s s.heap) (hW : s.WarmedH U.vm) (hq : ∀ a : Nat, a < s.heap.size → ¬ A a → U.heap[a]? = s.heap[a]?) (hAB : ∀ q, B q → A q) : q_Amb xd xv B U U.heap := by
  obtain ⟨h1, h2, h3, h4, h5, h6, h7, h8⟩ := h
  refine ⟨fun i x hx => ?_, ((h2.kept hq).narrow hAB).moved hW.alike, ((h3.kept hq).narrow hAB).moved hW.alike, ((h4.kept hq).narrow hAB).moved hW.alike, h5.elim (fun h => Or.inl (((h.kept hq).narrow hAB).moved hW.alike)) (fun h => Or.inr (((h.kept hq).narrow hAB).moved hW.alike)), ((h6.kept hq).narrow hAB).moved hW.alike, ((h7.kept hq).narrow hAB).moved hW.alike, fun w hw => ?_⟩
  · obtain ⟨a1, a2, a3, a4, a5⟩ := h1 i x hx
    exact ⟨a1.warm hW, ((a2.kept hq).narrow hAB).moved hW.alike, ((a3.kept hq).narrow hAB).moved hW.alike, ((a4.kept hq).narrow hAB).moved hW.alike, ((a5.kept hq).narrow hAB).moved hW.alike⟩
  · have hN := h8 w hw
    have hb := (List.mem_filter.mp hw).2
    cases w <;> first | exact va_Nw.warmF hW hN | exact va_Nw.warmM hW hN | (simp [q_isN] at hb)
theorem q_str_lt {i : Nat} {x : String × Nat × String × List Int32} (h : q_str[i]? = some x) : i < 44 := (List.getElem?_eq_some_iff.mp h).1
theorem q_Amb.xd {xd xd' xv : Nat → Nat} {A : Nat → Prop} {U : State} {H : Heap} (h : q_Amb xd xv A U H) (he : ∀ e, e < 100 → xd' e = xd e) : q_Amb xd' xv A U H := by
  obtain ⟨h1, h2, h3, h4, h5, h6⟩ := h
  refine ⟨fun i x hx => ?_, by rw [he 44 (by omega)]; exact h2, by rw [he 44 (by omega)]; exact h3, h4, by unfold q_Fm; rw [he 89 (by omega)]; exact h5, h6⟩
  have hi := q_str_lt hx
  have h9 := h1 i x hx
  unfold q_sOk at h9 ⊢
  rw [he i (by omega), he (45 + i) (by omega)]
  exact h9
/-- a room of depth d -/
def q_rm (d mc ms : Nat) : Room := { frames := d, cells := mc, slots := ms, locals := 64 * d }
/-- a method's start, its return, its throw -/
def q_Pc (D : va_G) (cy : Nat → ClassId) (ad xd xv : Nat → Nat) (a : List Value) (w : List q_C) (sz : Nat) : Array Value → State → Prop :=
  va_Pc (a.map (q_cv ad xd)) (fun U => U.heap.size = sz ∧ va_P D vwCl (q_cw cy ad xd 0 w) U.heap ∧ va_K D vwCl (q_tys cy) U ∧ va_D (fun _ => True) (q_cw cy ad xd 0 w) ∧ q_Amb xd xv (va_A (q_cw cy ad xd 0 w) sz) U U.heap)
def q_End (D : va_G) (cy : Nat → ClassId) (ad xd : Nat → Nat) (n : Nat) (A : Nat → Prop) (w' : List q_C) (ad' : Nat → Nat) (t : State) : Prop :=
  (∀ i, i < n → ad' i = ad i) ∧ va_P D vwCl (q_cw cy ad' xd 0 w') t.heap ∧ va_D A (q_cw cy ad' xd 0 w')
def q_Qc (D : va_G) (cy : Nat → ClassId) (ad xd : Nat → Nat) (n : Nat) (K : q_K) (A : Nat → Prop) : Array Value → State → Outcome → State → Prop := fun _ st oc t =>
  (∃ (r : Option Value) (w' : List q_C) (ad' : Nat → Nat), oc = .returned (r.map (q_cv ad' xd)) ∧ K (.inl r) w' ∧ q_End D cy ad xd n A w' ad' t) ∧ va_F A st t
def q_XC (D : va_G) (cy : Nat → ClassId) (ad xd : Nat → Nat) (n : Nat) (K : q_K) (A : Nat → Prop) : String → Addr → State → State → Prop := fun E q st t =>
  (E = RX13 ∧ ∃ (p : Nat) (fs : List Value) (w' : List q_C) (ad' : Nat → Nat), q = ad' p ∧ w'[p]? = some (.inr (13, fs)) ∧ K (.inr (.ref p)) w' ∧ q_End D cy ad xd n A w' ad' t) ∧ va_F A st t
/-- THE CONTRACT of a method: w0 its code's word, sp what it does -/
def q_CT (l : Launch) (y : MethodName) (w0 : Cond) (d mc ms : Nat) (sp : q_P) : Prop :=
  ∀ (D : va_G) (cy : Nat → ClassId) (ad xd xv : Nat → Nat) (a : List Value) (w : List q_C) (K : q_K) (sz : Nat), sp a w K →
    qx_Met l y (w0 :: q_G) (q_rm d mc ms) (q_Pc D cy ad xd xv a w sz) (q_Qc D cy ad xd w.length K (va_A (q_cw cy ad xd 0 w) sz)) (q_XC D cy ad xd w.length K (va_A (q_cw cy ad xd 0 w) sz)) mc ms (va_A (q_cw cy ad xd 0 w) sz)
theorem q_Pc_blind {D : va_G} {cy : Nat → ClassId} {ad xd xv : Nat → Nat} {a : List Value} {w : List q_C} {sz : Nat} : FrameBlind (q_Pc D cy ad xd xv a w sz) := by
  intro a' U g mk q
  obtain ⟨q0, q1, qP, qK, qD, qA⟩ := q
  exact ⟨q0, q1, qP, va_K.moved (u := U) (U := U.calling g mk a') (Vm.Alike.refl U.vm) qK, qD, q_Amb.move (U := U.calling g mk a') qA (State.WarmedH.refl U) (fun _ _ _ => rfl) (fun _ h => h)⟩
/-- a method whose entry i in own's file is known, what it does with its contract -/
def q_CO (l : Launch) (own : String) (idx : Nat) (cs : q_S) : Prop := match cs with
  | (n, rc, d, mL, mc, ms, _, sp) => ∃ (y : MethodName) (bytes : ByteArray) (ret : Option FieldType) (np : Nat),
    (y.cls ≠ "java/lang/invoke/MethodHandle" ∧ y.cls ≠ "java/lang/invoke/VarHandle" ∧ (parseMethodDescriptor y.desc).map (fun d => d.parameters.length) = some np) ∧ Cond.initialized y.cls ∈ q_G ∧
    ((rc ≤ 96 ∧ n = np + 1 ∧ (vwCl[rc]?).map (fun q => q.1) = some y.cls ∧ Cond.methodLink own idx y ∈ q_G ∧ Cond.instanceMethod y ∈ q_G ∧ Cond.selects y.cls y y ∈ q_G ∧
        ((Cond.code y bytes mL ret ∈ q_G ∧ q_CT l y (.code y bytes mL ret) d mc ms sp) ∨ ∃ hh, Cond.codeWith y bytes mL ret hh ∈ q_G ∧ q_CT l y (.codeWith y bytes mL ret hh) d mc ms sp))
      ∨ (rc = 97 ∧ n = np + 1 ∧ ret = none ∧ y.name = "<init>" ∧ (Cond.methodLink own idx y ∈ q_G ∨ ∃ host, Cond.methodLinkNest own idx y host ∈ q_nest) ∧ Cond.instanceMethod y ∈ q_G ∧ Cond.code y bytes mL ret ∈ q_G ∧ q_CT l y (.code y bytes mL ret) d mc ms sp)
      ∨ (rc = 98 ∧ n = np + 1 ∧ y.cls = "java/lang/String" ∧ Cond.methodLink own idx y ∈ q_G ∧ Cond.instanceMethod y ∈ q_G ∧ Cond.selects y.cls y y ∈ q_G ∧ Cond.code y bytes mL ret ∈ q_G ∧ q_CT l y (.code y bytes mL ret) d mc ms sp)
      ∨ (rc = 99 ∧ n = np ∧ Cond.methodLink own idx y ∈ q_G ∧ Cond.static y ∈ q_G ∧
        ((Cond.code y bytes mL ret ∈ q_G ∧ q_CT l y (.code y bytes mL ret) d mc ms sp) ∨ ∃ hh, Cond.codeWith y bytes mL ret hh ∈ q_G ∧ q_CT l y (.codeWith y bytes mL ret hh) d mc ms sp)))
def q_scok (own : String) (f : Nat × Nat) : Prop := ∃ x, q_str[f.2]? = some x ∧ x.1 = own ∧ x.2.1 = f.1
def q_nwok (own : String) (f : Nat × Nat) : Prop := ∃ (C : String) (T : u_T) (N : Nat), vwCl[f.2]? = some (C, T, N) ∧ N = q_cin f.2 ∧ Cond.classLink own f.1 C ∈ q_G ∧ Cond.instantiable C N ∈ q_G ∧ Cond.initialized C ∈ q_G
/-- what has to stand behind a method's rows: nothing of it speaks of a state -/
def q_Eok (l : Launch) (own : String) (cc : ByteArray) (E : q_E) : Prop :=
  (q_code E).all (q_okI cc) = true ∧ (∀ f ∈ q_fl E, q_flok own f) ∧ (∀ f ∈ q_sg E, q_CO l own f.1 f.2) ∧ (∀ f ∈ q_lc E, Cond.constantLong own f.1 f.2 ∈ q_G) ∧ (∀ f ∈ q_kc E, Cond.constant own f.1 f.2 ∈ q_G) ∧ (∀ f ∈ q_sc E, q_scok own f) ∧
  (∀ f ∈ q_gs E, (f.2 = 44 ∧ Cond.fieldLink own f.1 RX0 "ROOM" "[I" ∈ q_G) ∨ (f.2 = 1 ∧ Cond.methodLink own f.1 Lib.Math.max.name ∈ q_G) ∨ (f.2 = 2 ∧ Cond.methodLink own f.1 Lib.Math.min.name ∈ q_G)) ∧ (∀ f ∈ q_nw E, q_nwok own f) ∧ (1 ≤ q_oi E → Cond.methodLink own (q_oi E) objectInit ∈ q_G)
theorem q_cls : ∀ (ci : Nat) (q : vw_C), vwCl[ci]? = some q → (∀ w ∈ u_ws q.1 q.2.1 q.2.2, w ∈ q_G) ∧ (∀ k, k < q.2.2 → parseFieldDescriptor (q.2.1 k).2.2.1 = some (q_fty ci k)) ∧ (∀ a, a < q.2.2 → ∀ b, b < q.2.2 → a ≠ b → (q.2.1 a).2.1 ≠ (q.2.1 b).2.1)
  | 0, q, h => by cases h; exact ⟨wsX0_ok, tyX0_ok, nmX0⟩
  | 1, q, h => by cases h; exact ⟨wsX1_ok, tyX1_ok, nmX1⟩
  | 2, q, h => by cases h; exact ⟨wsX2_ok, tyX2_ok, nmX2⟩
  | 3, q, h => by cases h; exact ⟨wsX3_ok, tyX3_ok, nmX3⟩
  | 4, q, h => by cases h; exact ⟨wsX4_ok, tyX4_ok, nmX4⟩
  | 5, q, h => by cases h; exact ⟨wsX5_ok, tyX5_ok, nmX5⟩
  | 6, q, h => by cases h; exact ⟨wsX6_ok, tyX6_ok, nmX6⟩
  | 7, q, h => by cases h; exact ⟨wsX7_ok, tyX7_ok, nmX7⟩
  | 8, q, h => by cases h; exact ⟨wsX8_ok, tyX8_ok, nmX8⟩
  | 9, q, h => by cases h; exact ⟨wsX9_ok, tyX9_ok, nmX9⟩
  | 10, q, h => by cases h; exact ⟨wsX10_ok, tyX10_ok, nmX10⟩
  | 11, q, h => by cases h; exact ⟨wsX11_ok, tyX11_ok, nmX11⟩
  | 12, q, h => by cases h; exact ⟨wsX12_ok, tyX12_ok, nmX12⟩
  | 13, q, h => by cases h; exact ⟨wsX13_ok, tyX13_ok, nmX13⟩
  | 14, q, h => by cases h; exact ⟨wsX14_ok, tyX14_ok, nmX14⟩
  | n + 15, q, h => by simp [vwCl] at h
end
section
/-! ===== a step is sound ===== -/
def q_Cx (p : Program) (l : Launch) (s : State) (m : MethodId) (args : Array Value) (meth : Method) (c : Code) (R : Room) (own : String) (cc : ByteArray) (D : va_G) (cy : Nat → ClassId) (xd xv : Nat → Nat) (A : Nat → Prop) (E : q_E) : Prop :=
  p.tables.exec = Jvm.exec ∧ c.code = cc ∧ c.maxLocals = q_nL E ∧ s.vm.findClass own = some m.cls ∧ (∀ w ∈ q_G, w.before args s = true) ∧ va_K D vwCl (q_tys cy) s ∧ (∀ q, s.heap.size ≤ q → A q) ∧ (∀ x ∈ q_ct E, va_T .int (xd x.1) x.2.1 (fun j => .int (x.2.2 j)) A s s.heap) ∧ q_Amb xd xv A s s.heap ∧
  (∀ ci, q_in E = ci + 1 → meth.name = "<init>" ∧ (vwCl[ci]?).map (fun q => q.1) = some own) ∧ (q_dp E ≤ R.frames ∧ 64 * q_dp E ≤ R.locals ∧ R.cells = q_RC E ∧ R.slots = q_RS E) ∧ q_Eok l own cc E
def q_W (p : Program) (l : Launch) (e : Env) (R : Room) (s : State) (m : MethodId) (args : Array Value) (below : List Frame) (meth : Method) (c : Code) (D : va_G) (cy : Nat → ClassId) (xd : Nat → Nat) (A : Nat → Prop) (n0 : Nat) (ad0 : Nat → Nat) (nL : Nat) (Q : State → Prop) : q_N := fun pc lv st aw ca sl =>
  ca ≤ R.cells → sl ≤ R.slots → ∀ (ad : Nat → Nat) (ls : Array Slot) (H : Heap) (locs : List Loc), n0 ≤ aw.length → (∀ i, i < n0 → ad i = ad0 i) → lv_has ls nL (lv.map (q_cp ad xd)) → va_P D vwCl (q_cw cy ad xd 0 aw) H → va_D A (q_cw cy ad xd 0 aw) → va_S A s.heap H locs →
    W p l e R s m args below meth c H locs ca sl Q (F0 m pc ls (st.map (q_cv ad xd)))
/-- v is thrown at pc -/
def q_X (p : Program) (l : Launch) (e : Env) (R : Room) (s : State) (m : MethodId) (args : Array Value) (below : List Frame) (meth : Method) (c : Code) (D : va_G) (cy : Nat → ClassId) (xd : Nat → Nat) (A : Nat → Prop) (n0 : Nat) (ad0 : Nat → Nat) (nL : Nat) (Q : State → Prop) (pc p0 : Nat) (lv : q_L) (aw : List q_C) (ca sl : Nat) : Prop :=
  ca ≤ R.cells → sl ≤ R.slots → ∀ (ad : Nat → Nat) (ls : Array Slot) (rest : List Value) (H : Heap) (locs : List Loc), n0 ≤ aw.length → (∀ i, i < n0 → ad i = ad0 i) → lv_has ls nL (lv.map (q_cp ad xd)) → va_P D vwCl (q_cw cy ad xd 0 aw) H → va_D A (q_cw cy ad xd 0 aw) → va_S A s.heap H locs →
    qx_W p l e R s m args below meth c H locs ca sl Q (F0 m pc ls rest) (ad p0)
theorem q_rd {ad xd : Nat → Nat} {ls : Array Slot} {nL i : Nat} {lv : q_L} {v : Value} (h : lv_has ls nL (lv.map (q_cp ad xd))) (hv : q_lk i lv = some v) : ls[i]? = some (.val (q_cv ad xd v)) :=
  h.2.2 (i, q_cv ad xd v) (List.mem_map.mpr ⟨(i, v), q_lk_mem hv, rfl⟩)
theorem q_sto {ad xd : Nat → Nat} {ls : Array Slot} {nL i : Nat} {lv lv' : q_L} {v : Value} (h : lv_has ls nL ((i, q_cv ad xd v) :: (lv.map (q_cp ad xd)).filter (fun q => !(q.1 == i) && !(q.1 + 1 == i && q.2.category == 2)))) (hm : ∀ q ∈ lv', q = (i, v) ∨ (q ∈ lv ∧ q_keep i false q)) : lv_has ls nL (lv'.map (q_cp ad xd)) := by
  refine ⟨h.1, h.2.1, fun q hq => ?_⟩
  obtain ⟨q0, h0, rfl⟩ := List.mem_map.mp hq
  rcases hm q0 h0 with e | ⟨h1, h2, h3, -⟩
  · subst e; exact h.2.2 _ List.mem_cons_self
  · refine h.2.2 _ (List.mem_cons_of_mem _ (List.mem_filter.mpr ⟨List.mem_map.mpr ⟨q0, h1, rfl⟩, ?_⟩))
    simp only [q_cp, q_cv_cat]
    simp only [Bool.and_eq_true, Bool.not_eq_true', beq_eq_false_iff_ne, Bool.and_eq_false_iff, ne_eq]
    refine ⟨h2, ?_⟩
    by_cases z : q0.1 + 1 = i
    · exact Or.inr (fun y => h3 ⟨z, y⟩)
    · exact Or.inl z
theorem q_stoL {ad xd : Nat → Nat} {ls : Array Slot} {nL i : Nat} {lv lv' : q_L} {v : Value} (h : lv_has ls nL ((i, q_cv ad xd v) :: (lv.map (q_cp ad xd)).filter (fun q => !(q.1 == i) && (!(q.1 == i + 1) && !(q.1 + 1 == i && q.2.category == 2))))) (hm : ∀ q ∈ lv', q = (i, v) ∨ (q ∈ lv ∧ q_keep i true q)) : lv_has ls nL (lv'.map (q_cp ad xd)) := by
  refine ⟨h.1, h.2.1, fun q hq => ?_⟩
  obtain ⟨q0, h0, rfl⟩ := List.mem_map.mp hq
  rcases hm q0 h0 with e | ⟨h1, h2, h3, h4⟩
  · subst e; exact h.2.2 _ List.mem_cons_self
  · refine h.2.2 _ (List.mem_cons_of_mem _ (List.mem_filter.mpr ⟨List.mem_map.mpr ⟨q0, h1, rfl⟩, ?_⟩))
    simp only [q_cp, q_cv_cat]
    simp only [Bool.and_eq_true, Bool.not_eq_true', beq_eq_false_iff_ne, Bool.and_eq_false_iff, ne_eq]
    refine ⟨h2, h4 rfl, ?_⟩
    by_cases z : q0.1 + 1 = i
    · exact Or.inr (fun y => h3 ⟨z, y⟩)
    · exact Or.inl z
theorem q_lt {a b : Nat} (h : Nat.ble (a + 1) b = true) : a < b := Nat.le_of_ble_eq_true h
/-- a cell of the world, as the kit has it -/
theorem q_cell {cy : Nat → ClassId} {ad xd : Nat → Nat} {aw : List q_C} {p : Nat} {c : q_C} (h : q_at aw p = some c) : (q_cw cy ad xd 0 aw)[p]? = some (ad p, q_cE cy ad xd c) := by
  rw [q_cw_get, ← q_at_eq, h, Nat.zero_add]; rfl
section QS
variable {p : Program} {l : Launch} {e : Env} {R : Room} {s : State} {m : MethodId} {args : Array Value} {below : List Frame} {meth : Method} {c : Code} {own : String} {cc : ByteArray} {D : va_G} {cy : Nat → ClassId} {xd xv : Nat → Nat} {A : Nat → Prop} {n0 : Nat} {ad0 : Nat → Nat} {Q : State → Prop} {E : q_E}
theorem q_athrow {H : Heap} {locs : List Loc} {ca sl pc q : Nat} {ls : Array Slot} {rest : List Value} (hx : p.tables.exec = Jvm.exec) (hb : c.code = cc) (hd : decode cc pc = .ok (.athrow, 1)) (k : qx_W p l e R s m args below meth c H locs ca sl Q (F0 m pc ls rest) q) : W p l e R s m args below meth c H locs ca sl Q (F0 m pc ls (.ref q :: rest)) := by
  intro T hT X
  obtain ⟨t, a1, b1⟩ := k T hT X
  refine ⟨t, ?_, b1⟩
  jvm_step X.here [hx, hb, hd, athrow.wp_sem]
  exact a1
end QS
end
section
/-! ===== a callee's cells, cut out of the caller's, and what comes back ===== -/
theorem q_ns_eq : q_ns = List.range 250 := by decide +kernel
theorem q_ns_at {j n : Nat} (h : q_ns[j]? = some n) : n = j := by
  rw [q_ns_eq, List.getElem?_range] at h
  · exact (Option.some.inj h).symm
  · rcases Nat.lt_or_ge j 250 with z | z
    · exact z
    · rw [List.getElem?_eq_none (by simpa using z)] at h
      cases h
theorem q_ix_ok {p n : Nat} : ∀ {σ ns : List Nat}, q_ix p σ ns = some n → ∃ j : Nat, σ[j]? = some p ∧ ns[j]? = some n
  | [], ns, h => by simp [q_ix] at h
  | a :: σ, [], h => by simp [q_ix] at h
  | a :: σ, b :: ns, h => by
    rw [q_ix] at h
    split at h
    · next hb =>
      cases h
      exact ⟨0, by rw [Nat.eq_of_beq_eq_true hb]; rfl, rfl⟩
    · obtain ⟨j, h1, h2⟩ := q_ix_ok h
      exact ⟨j + 1, h1, h2⟩
theorem q_ix_at {p n : Nat} {σ : List Nat} (h : q_ix p σ q_ns = some n) : σ[n]? = some p := by
  obtain ⟨j, h1, h2⟩ := q_ix_ok h
  rw [q_ns_at h2]; exact h1
theorem q_el_ok {a : Nat} : ∀ {l : List Nat}, q_el a l = false → a ∉ l
  | [], _ => List.not_mem_nil
  | b :: l, h => by
    rw [q_el] at h
    split at h
    · cases h
    · next hb =>
      intro hm
      rcases List.mem_cons.mp hm with e | hm
      · rw [e] at hb
        have : Nat.beq b b = true := Nat.beq_eq.mpr rfl
        rw [this] at hb; cases hb
      · exact q_el_ok h hm
theorem q_nd_ok : ∀ {l : List Nat}, q_nd l = true → ∀ (i j p : Nat), l[i]? = some p → l[j]? = some p → i = j
  | [], _, i, j, p, h, _ => by simp at h
  | a :: l, hn, i, j, p, h1, h2 => by
    rw [q_nd] at hn
    split at hn
    · cases hn
    · next he =>
      have ha := q_el_ok he
      cases i with
      | zero =>
        cases j with
        | zero => rfl
        | succ j =>
          cases h1
          exact absurd (List.mem_of_getElem? (i := j) h2) ha
      | succ i =>
        cases j with
        | zero =>
          cases h2
          exact absurd (List.mem_of_getElem? (i := i) h1) ha
        | succ j => rw [q_nd_ok hn i j p h1 h2]
theorem q_pop_ok : ∀ (n : Nat) (st acc : List Value) (k : List Value → List Value → Prop), q_pop n st acc k → ∃ as rest, st = as.reverse ++ rest ∧ as.length = n ∧ k (as ++ acc) rest
  | 0, st, acc, k, h => ⟨[], st, rfl, rfl, h⟩
  | n + 1, [], acc, k, h => by simp [q_pop] at h
  | n + 1, v :: st, acc, k, h => by
    rw [q_pop] at h
    obtain ⟨as, rest, h1, h2, h3⟩ := q_pop_ok n st (v :: acc) k h
    exact ⟨as ++ [v], rest, by rw [h1]; simp, by simp [h2], by rw [List.append_assoc]; exact h3⟩
theorem q_sn_ok {α : Type} {p : α} : ∀ {l : List α} {k : List α → Prop}, q_sn p l k → k (l ++ [p])
  | [], k, h => h
  | a :: l, k, h => q_sn_ok (l := l) h
theorem q_ft_ok {args : List Value} {aw : List q_C} : ∀ {fd : List (Nat ⊕ (Nat × Nat))} {σ : List Nat} {k : List Nat → Prop}, q_ft args aw fd σ k → ∃ σ', k σ'
  | [], σ, k, h => ⟨σ, h⟩
  | .inl a :: fd, σ, k, h => by
    simp only [q_ft] at h
    split at h
    · exact q_ft_ok (q_sn_ok h)
    · exact h.elim
  | .inr (i, f) :: fd, σ, k, h => by
    simp only [q_ft] at h
    split at h
    · split at h
      · split at h
        · exact q_ft_ok (q_sn_ok h)
        · exact h.elim
      · exact h.elim
    · exact h.elim
/-- the callee's addresses, seen from the caller -/
def q_ad (ad : Nat → Nat) (σ : List Nat) : Nat → Nat := fun n => match σ[n]? with
  | some p => ad p
  | none => 0
def q_xd (ad xd : Nat → Nat) (σ : List Nat) (aw : List q_C) : Nat → Nat := fun e => if e < 100 then xd e else match q_og σ aw e with
  | some v => match q_cv ad xd v with
    | .ref a => a
    | _ => 0
  | none => 0
theorem q_ad_at {ad : Nat → Nat} {σ : List Nat} {n p : Nat} (h : σ[n]? = some p) : q_ad ad σ n = ad p := by simp [q_ad, h]
theorem q_lval_ok {ad xd : Nat → Nat} {σ : List Nat} {aw : List q_C} {i j p ci : Nat} {fs : List Value} {v : Value} {k : Value → Prop} (h1 : σ[i]? = some p) (h2 : aw[p]? = some (.inr (ci, fs))) (h3 : fs[j]? = some v) (hj : j < 100) (h : q_lval σ i j v k) : ∃ v', k v' ∧ q_cv (q_ad ad σ) (q_xd ad xd σ aw) v' = q_cv ad xd v := by
  have tok : ∀ a, q_cv ad xd v = .ref a → q_xd ad xd σ aw (100 + (100 * i + j)) = a := by
    intro a ha
    have e1 : (100 + (100 * i + j) - 100) / 100 = i := by omega
    have e2 : (100 + (100 * i + j) - 100) % 100 = j := by omega
    have e3 : q_og σ aw (100 + (100 * i + j)) = some v := by
      simp only [q_og, q_at_eq, e1, e2, h1, h2, h3]
    have e4 : ¬ (100 + (100 * i + j) < 100) := by omega
    simp only [q_xd, e3, if_neg e4, ha]
  cases v with
  | ref p0 =>
    simp only [q_lval] at h
    split at h
    · next n hn => exact ⟨_, h, by simp only [q_cv, q_ad_at (q_ix_at hn)]⟩
    · exact ⟨_, h, by simp only [q_cv, tok (ad p0) rfl]⟩
  | retAddr e =>
    simp only [q_lval] at h
    split at h
    · exact ⟨_, h, by simp only [q_cv, tok (xd e) rfl]⟩
    · next hb =>
      have he : e < 100 := by
        rcases Nat.lt_or_ge e 100 with z | z
        · exact z
        · rw [Nat.ble_eq_true_of_le z] at hb; cases hb
      exact ⟨_, h, by simp only [q_cv, q_xd, if_pos he]⟩
  | _ => exact ⟨_, h, rfl⟩
theorem q_lf_ok {ad xd : Nat → Nat} {σ : List Nat} {aw : List q_C} {i p ci : Nat} {fs : List Value} (h1 : σ[i]? = some p) (h2 : aw[p]? = some (.inr (ci, fs))) : ∀ (l : List Value) (j : Nat) (k : List Value → Prop), (∀ t : Nat, l[t]? = fs[j + t]?) → q_lf σ i l j k → ∃ l', k l' ∧ l'.map (q_cv (q_ad ad σ) (q_xd ad xd σ aw)) = l.map (q_cv ad xd)
  | [], j, k, _, h => ⟨[], h, rfl⟩
  | v :: l, j, k, hl, h => by
    rw [q_lf] at h
    split at h
    · exact h.elim
    · next hb =>
      have hj : j < 100 := by
        rcases Nat.lt_or_ge j 100 with z | z
        · exact z
        · rw [Nat.ble_eq_true_of_le z] at hb; cases hb
      obtain ⟨v', h3, h4⟩ := q_lval_ok (ad := ad) (xd := xd) h1 h2 (by have := hl 0; simpa using this.symm) hj h
      obtain ⟨l', h5, h6⟩ := q_lf_ok h1 h2 l (j + 1) _ (fun t => by have := hl (t + 1); rw [List.getElem?_cons_succ] at this; rw [this]; congr 1; omega) h3
      exact ⟨_, h5, by rw [List.map_cons, List.map_cons, h4, h6]⟩
theorem q_lcl_ok {cy : Nat → ClassId} {ad xd : Nat → Nat} {σ : List Nat} {aw : List q_C} {i p : Nat} {c : q_C} {k : q_C → Prop} (h1 : σ[i]? = some p) (h2 : aw[p]? = some c) (h : q_lcl σ i c k) : ∃ c', k c' ∧ q_cE cy (q_ad ad σ) (q_xd ad xd σ aw) c' = q_cE cy ad xd c := by
  match c, h2, h with
  | .inl (kd, n, .inl f), h2, h => exact ⟨_, h, rfl⟩
  | .inl (kd, n, .inr f), h2, h => exact ⟨_, h, rfl⟩
  | .inr (ci, fs), h2, h =>
    obtain ⟨l', h5, h6⟩ := q_lf_ok (ad := ad) (xd := xd) h1 h2 fs 0 _ (fun t => by rw [Nat.zero_add]) h
    exact ⟨_, h5, by simp only [q_cE, h6]⟩
theorem q_lw_ok {cy : Nat → ClassId} {ad xd : Nat → Nat} {σ0 : List Nat} {aw : List q_C} : ∀ (τ : List Nat) (i : Nat) (k : List q_C → Prop), (∀ t : Nat, τ[t]? = σ0[i + t]?) → q_lw aw σ0 τ i k →
    ∃ w, k w ∧ w.length = τ.length ∧ ∀ (t p : Nat), τ[t]? = some p → ∃ c c', aw[p]? = some c ∧ w[t]? = some c' ∧ q_cE cy (q_ad ad σ0) (q_xd ad xd σ0 aw) c' = q_cE cy ad xd c
  | [], i, k, _, h => ⟨[], h, rfl, fun t p hp => by simp at hp⟩
  | q :: τ, i, k, hl, h => by
    rw [q_lw] at h
    split at h
    · next c hc =>
      rw [q_at_eq] at hc
      have h0 : σ0[i]? = some q := by have := hl 0; simpa using this.symm
      obtain ⟨c', h3, h4⟩ := q_lcl_ok (cy := cy) (ad := ad) (xd := xd) h0 hc h
      obtain ⟨w, h5, h6, h7⟩ := q_lw_ok (cy := cy) (ad := ad) (xd := xd) τ (i + 1) _ (fun t => by have := hl (t + 1); rw [List.getElem?_cons_succ] at this; rw [this]; congr 1; omega) h3
      refine ⟨_, h5, by rw [List.length_cons, List.length_cons, h6], fun t p hp => ?_⟩
      cases t with
      | zero => cases hp; exact ⟨c, c', hc, rfl, h4⟩
      | succ t => exact h7 t p hp
    · exact h.elim
theorem q_la_ok {ad xd : Nat → Nat} {σ : List Nat} {aw : List q_C} : ∀ (l : List Value) (k : List Value → Prop), q_la σ l k → ∃ l', k l' ∧ l'.map (q_cv (q_ad ad σ) (q_xd ad xd σ aw)) = l.map (q_cv ad xd)
  | [], k, h => ⟨[], h, rfl⟩
  | v :: l, k, h => by
    cases v with
    | ref p0 =>
      simp only [q_la] at h
      split at h
      · next n hn =>
        obtain ⟨l', h5, h6⟩ := q_la_ok (ad := ad) (xd := xd) (aw := aw) l _ h
        exact ⟨_, h5, by rw [List.map_cons, List.map_cons, h6]; simp only [q_cv, q_ad_at (q_ix_at hn)]⟩
      · exact h.elim
    | retAddr e =>
      obtain ⟨he, h⟩ := h
      obtain ⟨l', h5, h6⟩ := q_la_ok (ad := ad) (xd := xd) (aw := aw) l _ h
      exact ⟨_, h5, by rw [List.map_cons, List.map_cons, h6]; simp only [q_cv, q_xd, if_pos he]⟩
    | int x => obtain ⟨l', h5, h6⟩ := q_la_ok (ad := ad) (xd := xd) (aw := aw) l _ h; exact ⟨_, h5, by rw [List.map_cons, List.map_cons, h6]; rfl⟩
    | long x => obtain ⟨l', h5, h6⟩ := q_la_ok (ad := ad) (xd := xd) (aw := aw) l _ h; exact ⟨_, h5, by rw [List.map_cons, List.map_cons, h6]; rfl⟩
    | null => obtain ⟨l', h5, h6⟩ := q_la_ok (ad := ad) (xd := xd) (aw := aw) l _ h; exact ⟨_, h5, by rw [List.map_cons, List.map_cons, h6]; rfl⟩
    | float x => exact (h : False).elim
    | double x => exact (h : False).elim
/-- back: ad1 the callee's addresses at its end, ad2 the caller's then -/
theorem q_gval_ok {ad xd ad1 ad2 : Nat → Nat} {τ σ : List Nat} {aw : List q_C} {v : Value} {k : Value → Prop} (hτ : ∀ (n p : Nat), τ[n]? = some p → ad2 p = ad1 n) (ho : ∀ e v0, q_og σ aw e = some v0 → q_cv ad2 xd v0 = q_cv ad xd v0) (h : q_gval τ σ aw v k) : ∃ v', k v' ∧ q_cv ad2 xd v' = q_cv ad1 (q_xd ad xd σ aw) v := by
  cases v with
  | ref n =>
    simp only [q_gval] at h
    split at h
    · next p hp =>
      rw [q_at_eq] at hp
      exact ⟨_, h, by simp only [q_cv, hτ n p hp]⟩
    · exact h.elim
  | retAddr e =>
    simp only [q_gval] at h
    split at h
    · next hb =>
      have he : e < 100 := by
        rcases Nat.lt_or_ge e 100 with z | z
        · exact z
        · rw [Nat.ble_eq_true_of_le z] at hb; cases hb
      exact ⟨_, h, by simp only [q_cv, q_xd, if_pos he]⟩
    · next hb =>
      have he : ¬ e < 100 := fun z => by have := Nat.le_of_ble_eq_true hb; omega
      split at h
      · next p hp => exact ⟨_, h, by rw [ho e _ hp]; simp only [q_cv, q_xd, if_neg he, hp]⟩
      · next x hp => exact ⟨_, h, by rw [ho e _ hp]; simp only [q_cv, q_xd, if_neg he, hp]⟩
      · exact h.elim
  | _ => exact ⟨_, h, rfl⟩
theorem q_gf_ok {ad xd ad1 ad2 : Nat → Nat} {τ σ : List Nat} {aw : List q_C} (hτ : ∀ (n p : Nat), τ[n]? = some p → ad2 p = ad1 n) (ho : ∀ e v0, q_og σ aw e = some v0 → q_cv ad2 xd v0 = q_cv ad xd v0) : ∀ (l : List Value) (k : List Value → Prop), q_gf τ σ aw l k → ∃ l', k l' ∧ l'.map (q_cv ad2 xd) = l.map (q_cv ad1 (q_xd ad xd σ aw))
  | [], k, h => ⟨[], h, rfl⟩
  | v :: l, k, h => by
    rw [q_gf] at h
    obtain ⟨v', h3, h4⟩ := q_gval_ok hτ ho h
    obtain ⟨l', h5, h6⟩ := q_gf_ok hτ ho l _ h3
    exact ⟨_, h5, by rw [List.map_cons, List.map_cons, h4, h6]⟩
theorem q_gc_ok {cy : Nat → ClassId} {ad xd ad1 ad2 : Nat → Nat} {τ σ : List Nat} {aw : List q_C} {c : q_C} {k : q_C → Prop} (hτ : ∀ (n p : Nat), τ[n]? = some p → ad2 p = ad1 n) (ho : ∀ e v0, q_og σ aw e = some v0 → q_cv ad2 xd v0 = q_cv ad xd v0) (h : q_gc τ σ aw c k) : ∃ c', k c' ∧ q_cE cy ad2 xd c' = q_cE cy ad1 (q_xd ad xd σ aw) c := by
  match c, h with
  | .inl (kd, n, .inl f), h => exact ⟨_, h, rfl⟩
  | .inl (kd, n, .inr f), h => exact ⟨_, h, rfl⟩
  | .inr (ci, fs), h =>
    obtain ⟨l', h5, h6⟩ := q_gf_ok hτ ho fs _ h
    exact ⟨_, h5, by simp only [q_cE, h6]⟩
theorem q_ap_ok {c : q_C} : ∀ (l : List q_C) (n : Nat) (k : List q_C → Prop), q_ap c l n k → ∃ l', k l' ∧ n ≤ l.length ∧ l'[n]? = some c ∧ (∀ i : Nat, i ≠ n → l'[i]? = l[i]?) ∧ (n < l.length → l'.length = l.length) ∧ (n = l.length → l'.length = l.length + 1)
  | [], 0, k, h => ⟨_, h, Nat.le_refl _, rfl, fun i hi => by cases i with | zero => exact absurd rfl hi | succ i => rfl, fun z => absurd z (Nat.lt_irrefl 0), fun _ => rfl⟩
  | [], n + 1, k, h => (h : False).elim
  | d :: l, 0, k, h => ⟨_, h, Nat.zero_le _, rfl, fun i hi => by cases i with | zero => exact absurd rfl hi | succ i => rfl, fun _ => rfl, fun z => by simp at z⟩
  | d :: l, n + 1, k, h => by
    obtain ⟨l', h1, h2, h3, h4, h5, h6⟩ := q_ap_ok l n _ h
    refine ⟨_, h1, Nat.succ_le_succ h2, h3, fun i hi => ?_, fun z => ?_, fun z => ?_⟩
    · cases i with
      | zero => rfl
      | succ i => exact h4 i (fun y => hi (by rw [y]))
    · rw [List.length_cons, List.length_cons, h5 (Nat.lt_of_succ_lt_succ z)]
    · rw [List.length_cons, List.length_cons, h6 (Nat.succ.inj z)]
theorem q_gw_ok {cy : Nat → ClassId} {ad xd ad1 ad2 : Nat → Nat} {τ σ : List Nat} {aw0 : List q_C} (hτ : ∀ (n p : Nat), τ[n]? = some p → ad2 p = ad1 n) (ho : ∀ e v0, q_og σ aw0 e = some v0 → q_cv ad2 xd v0 = q_cv ad xd v0) :
    ∀ (w : List q_C) (ps : List Nat) (aw : List q_C) (k : List q_C → Prop), (∀ (i j p : Nat), ps[i]? = some p → ps[j]? = some p → i = j) → q_gw τ σ aw0 w ps aw k →
    ∃ aw', k aw' ∧ aw.length ≤ aw'.length ∧ (∀ (j : Nat) (c : q_C), w[j]? = some c → ∃ (p : Nat) (c' : q_C), ps[j]? = some p ∧ aw'[p]? = some c' ∧ q_cE cy ad2 xd c' = q_cE cy ad1 (q_xd ad xd σ aw0) c) ∧ (∀ i : Nat, (∀ j : Nat, j < w.length → ps[j]? ≠ some i) → aw'[i]? = aw[i]?)
  | [], ps, aw, k, _, h => ⟨aw, h, Nat.le_refl _, fun j c hj => by simp at hj, fun i _ => rfl⟩
  | c :: w, [], aw, k, _, h => (h : False).elim
  | c :: w, p :: ps, aw, k, hn, h => by
    simp only [q_gw] at h
    obtain ⟨c', h1, h2⟩ := q_gc_ok (cy := cy) hτ ho h
    obtain ⟨l', h3, h4, h5, h6, h7, h8⟩ := q_ap_ok aw p _ h1
    have hn' : ∀ (i j p : Nat), ps[i]? = some p → ps[j]? = some p → i = j := fun i j p a b => Nat.succ.inj (hn (i + 1) (j + 1) p a b)
    obtain ⟨aw', g1, g2, g3, g4⟩ := q_gw_ok (cy := cy) hτ ho w ps l' k hn' h3
    have hlen : aw.length ≤ l'.length := by
      rcases Nat.lt_or_ge p aw.length with z | z
      · rw [h7 z]; exact Nat.le_refl _
      · rw [h8 (by omega)]; omega
    refine ⟨aw', g1, Nat.le_trans hlen g2, fun j d hj => ?_, fun i hi => ?_⟩
    · cases j with
      | zero =>
        cases hj
        refine ⟨p, c', rfl, ?_, h2⟩
        rw [g4 p (fun j hj z => by have := hn 0 (j + 1) p rfl z; omega)]
        exact h5
      | succ j => exact g3 j d hj
    · rw [g4 i (fun j hj => hi (j + 1) (Nat.succ_lt_succ hj))]
      exact h6 i (fun z => hi 0 (Nat.succ_pos _) (by rw [z]; rfl))
theorem q_ext_ok : ∀ (w : List q_C) (σ ns : List Nat) (k : List Nat → Prop), q_ext w σ ns k → ∃ ex, k (σ ++ ex) ∧ w.length = σ.length + ex.length ∧ ∀ j : Nat, j < ex.length → ex[j]? = ns[j]?
  | [], [], ns, k, h => ⟨[], h, rfl, fun j hj => by simp at hj⟩
  | [], p :: σ, ns, k, h => (h : False).elim
  | c :: w, p :: σ, ns, k, h => by
    simp only [q_ext] at h
    obtain ⟨ex, h1, h2, h3⟩ := q_ext_ok w σ ns _ h
    exact ⟨ex, h1, by rw [List.length_cons, List.length_cons, h2]; omega, h3⟩
  | c :: w, [], [], k, h => (h : False).elim
  | c :: w, [], n :: ns, k, h => by
    simp only [q_ext] at h
    obtain ⟨ex, h1, h2, h3⟩ := q_ext_ok w [] ns _ h
    refine ⟨n :: ex, h1, by rw [List.length_cons, List.length_cons, h2, List.length_nil]; omega, fun j hj => ?_⟩
    cases j with
    | zero => rfl
    | succ j => exact h3 j (by rw [List.length_cons] at hj; omega)
theorem q_dl_ok : ∀ (aw : List q_C) (ns : List Nat), q_dl ns aw = ns.drop aw.length
  | [], ns => rfl
  | c :: aw, ns => by
    have hd : ∀ r : List Nat, (match r with | [] => [] | _ :: r => r) = r.drop 1 := fun r => by cases r <;> rfl
    rw [q_dl, q_dl_ok aw ns]
    refine Eq.trans (hd _) ?_
    rw [List.drop_drop, List.length_cons]
theorem q_ln_eq : ∀ (aw : List q_C), q_ln aw = aw.length
  | [] => rfl
  | c :: aw => by rw [q_ln, q_ln_eq aw, List.length_cons]
theorem q_cats_eq (ad xd : Nat → Nat) : ∀ (l : List Value), ((l.map (q_cv ad xd)).map fun v => v.category).sum = q_cats l
  | [] => rfl
  | v :: l => by rw [List.map_cons, List.map_cons, List.sum_cons, q_cv_cat, q_cats_eq ad xd l, q_cats]
theorem q_v_ok {n : Nat} {ad ad2 xd : Nat → Nat} (h1 : ∀ p, p < n → ad2 p = ad p) {v : Value} (h : q_v n v = true) : q_cv ad2 xd v = q_cv ad xd v := by
  cases v with
  | ref p => simp only [q_cv]; rw [h1 p (Nat.le_of_ble_eq_true h)]
  | _ => rfl
theorem q_vs_ok {n : Nat} {ad ad2 xd : Nat → Nat} (h1 : ∀ p, p < n → ad2 p = ad p) : ∀ {l : List Value}, q_vs n l = true → l.map (q_cv ad2 xd) = l.map (q_cv ad xd)
  | [], _ => rfl
  | v :: l, h => by
    rw [q_vs] at h
    split at h
    · next hv => rw [List.map_cons, List.map_cons, q_v_ok h1 hv, q_vs_ok h1 h]
    · cases h
theorem q_vl_ok {n : Nat} {ad ad2 xd : Nat → Nat} (h1 : ∀ p, p < n → ad2 p = ad p) : ∀ {l : q_L}, q_vl n l = true → l.map (q_cp ad2 xd) = l.map (q_cp ad xd)
  | [], _ => rfl
  | (i, v) :: l, h => by
    rw [q_vl] at h
    split at h
    · next hv =>
      rw [List.map_cons, List.map_cons, q_vl_ok h1 h]
      simp only [q_cp, q_v_ok h1 hv]
    · cases h
theorem q_vw_ok {n : Nat} {cy : Nat → ClassId} {ad ad2 xd : Nat → Nat} (h1 : ∀ p, p < n → ad2 p = ad p) : ∀ {l : List q_C}, q_vw n l = true → ∀ (k : Nat) (c : q_C), l[k]? = some c → q_cE cy ad2 xd c = q_cE cy ad xd c
  | [], _, k, c, hc => by simp at hc
  | .inl a :: l, h, k, c, hc => by
    cases k with
    | zero => cases hc; rcases a with ⟨kd, n, f | f⟩ <;> rfl
    | succ k => exact q_vw_ok (l := l) h1 h k c hc
  | .inr (ci, fs) :: l, h, k, c, hc => by
    simp only [q_vw] at h
    split at h
    · next hv =>
      cases k with
      | zero => cases hc; simp only [q_cE, q_vs_ok h1 hv]
      | succ k => exact q_vw_ok h1 h k c hc
    · cases h
theorem q_vs_at {n : Nat} : ∀ {l : List Value}, q_vs n l = true → ∀ (j : Nat) (v : Value), l[j]? = some v → q_v n v = true
  | [], _, j, v, hv => by simp at hv
  | x :: l, h, j, v, hv => by
    rw [q_vs] at h
    split at h
    · next hx =>
      cases j with
      | zero => cases hv; exact hx
      | succ j => exact q_vs_at h j v hv
    · cases h
theorem q_vw_at {n : Nat} : ∀ {l : List q_C}, q_vw n l = true → ∀ (k ci : Nat) (fs : List Value), l[k]? = some (.inr (ci, fs)) → q_vs n fs = true
  | [], _, k, ci, fs, hc => by simp at hc
  | .inl a :: l, h, k, ci, fs, hc => by
    cases k with
    | zero => cases hc
    | succ k => exact q_vw_at (l := l) h k ci fs hc
  | .inr (cj, gs) :: l, h, k, ci, fs, hc => by
    simp only [q_vw] at h
    split at h
    · next hv =>
      cases k with
      | zero => cases hc; exact hv
      | succ k => exact q_vw_at h k ci fs hc
    · cases h
end
section
/-! ===== a call is sound ===== -/
theorem q_reb {D : va_G} {cy : Nat → ClassId} {ad xd ad1 ad2 : Nat → Nat} {A : Nat → Prop} {aw aw' w w' : List q_C} {σ τ : List Nat} {H H1 : Heap}
    (hP : va_P D vwCl (q_cw cy ad xd 0 aw) H) (hD : va_D A (q_cw cy ad xd 0 aw)) (hwl : w.length = σ.length)
    (hsub : ∀ (t p : Nat), σ[t]? = some p → ∃ c c', aw[p]? = some c ∧ w[t]? = some c' ∧ q_cE cy (q_ad ad σ) (q_xd ad xd σ aw) c' = q_cE cy ad xd c)
    (hA : ∀ q, va_A (q_cw cy (q_ad ad σ) (q_xd ad xd σ aw) 0 w) H.size q → A q)
    (had : ∀ i, i < w.length → ad1 i = q_ad ad σ i) (hP1 : va_P D vwCl (q_cw cy ad1 (q_xd ad xd σ aw) 0 w') H1) (hD1 : va_D (va_A (q_cw cy (q_ad ad σ) (q_xd ad xd σ aw) 0 w) H.size) (q_cw cy ad1 (q_xd ad xd σ aw) 0 w'))
    (hfr : ∀ q : Nat, q < H.size → ¬ va_A (q_cw cy (q_ad ad σ) (q_xd ad xd σ aw) 0 w) H.size q → H1[q]? = H[q]?)
    (hτl : w'.length = τ.length) (hσl : σ.length ≤ w'.length) (hτσ : ∀ (n p : Nat), σ[n]? = some p → τ[n]? = some p) (hτn : ∀ (n p : Nat), τ[n]? = some p → n < σ.length ∨ aw.length ≤ p)
    (h1 : ∀ p, p < aw.length → ad2 p = ad p) (h2 : ∀ (n p : Nat), τ[n]? = some p → ad2 p = ad1 n) (h3 : ∀ (k : Nat) (c : q_C), aw[k]? = some c → q_cE cy ad2 xd c = q_cE cy ad xd c)
    (g3 : ∀ (j : Nat) (c : q_C), w'[j]? = some c → ∃ (p : Nat) (c' : q_C), τ[j]? = some p ∧ aw'[p]? = some c' ∧ q_cE cy ad2 xd c' = q_cE cy ad1 (q_xd ad xd σ aw) c)
    (g4 : ∀ i : Nat, (∀ j : Nat, j < w'.length → τ[j]? ≠ some i) → aw'[i]? = aw[i]?) : va_P D vwCl (q_cw cy ad2 xd 0 aw') H1 ∧ va_D A (q_cw cy ad2 xd 0 aw') := by
  have gw : ∀ {k : Nat} {q : Nat × va_E}, (q_cw cy ad2 xd 0 aw')[k]? = some q → ∃ c, aw'[k]? = some c ∧ q = (ad2 k, q_cE cy ad2 xd c) := by
    intro k q hq
    rw [q_cw_get] at hq
    cases hc : aw'[k]? with
    | none => rw [hc] at hq; cases hq
    | some c => rw [hc] at hq; exact ⟨c, rfl, by rw [Nat.zero_add] at hq; exact (Option.some.inj hq).symm⟩
  have ga : ∀ {k : Nat} {c : q_C}, aw[k]? = some c → (q_cw cy ad xd 0 aw)[k]? = some (ad k, q_cE cy ad xd c) := by
    intro k c hc
    rw [q_cw_get, hc, Nat.zero_add]; rfl
  have gb : ∀ {k : Nat} {c : q_C}, w'[k]? = some c → (q_cw cy ad1 (q_xd ad xd σ aw) 0 w')[k]? = some (ad1 k, q_cE cy ad1 (q_xd ad xd σ aw) c) := by
    intro k c hc
    rw [q_cw_get, hc, Nat.zero_add]; rfl
  have lt : ∀ {k : Nat} {c : q_C}, aw[k]? = some c → k < aw.length := fun h => (List.getElem?_eq_some_iff.mp h).1
  have inj : ∀ {i j : Nat} {c d : q_C}, aw[i]? = some c → aw[j]? = some d → ad i = ad j → i = j := fun hi hj hh => hD.1 _ _ _ _ (ga hi) (ga hj) hh
  have inj1 : ∀ {i j : Nat} {c d : q_C}, w'[i]? = some c → w'[j]? = some d → ad1 i = ad1 j → i = j := fun hi hj hh => hD1.1 _ _ _ _ (gb hi) (gb hj) hh
  -- the callee's writable cells
  have hA1 : ∀ q, va_A (q_cw cy (q_ad ad σ) (q_xd ad xd σ aw) 0 w) H.size q → (∃ t p, σ[t]? = some p ∧ t < w.length ∧ q = ad p) ∨ H.size ≤ q := by
    intro q hq
    rcases hq with ⟨t, e, ht⟩ | hq
    · refine Or.inl ?_
      rw [q_cw_get] at ht
      cases hc : w[t]? with
      | none => rw [hc] at ht; cases ht
      | some c =>
        rw [hc] at ht
        have htl : t < w.length := (List.getElem?_eq_some_iff.mp hc).1
        have hs : σ[t]? = some (σ[t]'(by omega)) := List.getElem?_eq_getElem _
        refine ⟨t, _, hs, htl, ?_⟩
        have e1 := congrArg Prod.fst (Option.some.inj ht)
        simp only [Nat.zero_add] at e1
        rw [← e1, q_ad_at hs]
    · exact Or.inr hq
  have out : ∀ {k : Nat} {c : q_C}, aw[k]? = some c → (∀ j : Nat, j < w'.length → τ[j]? ≠ some k) → ad k < H.size ∧ ¬ va_A (q_cw cy (q_ad ad σ) (q_xd ad xd σ aw) 0 w) H.size (ad k) := by
    intro k c hc hk
    have hl : ad k < H.size := (hP k _ (ga hc)).lt
    refine ⟨hl, fun z => ?_⟩
    rcases hA1 _ z with ⟨t, p, hs, htl, hq⟩ | z
    · obtain ⟨d, -, hd, -⟩ := hsub t p hs
      have := inj hc hd hq
      subst this
      exact hk t (by omega) (hτσ t k hs)
    · omega
  have dec : ∀ k : Nat, (∃ j : Nat, j < w'.length ∧ τ[j]? = some k) ∨ (∀ j : Nat, j < w'.length → τ[j]? ≠ some k) := fun k => by
    by_cases h : ∃ j : Nat, j < w'.length ∧ τ[j]? = some k
    · exact Or.inl h
    · exact Or.inr fun j hj hz => h ⟨j, hj, hz⟩
  have cell : ∀ {j : Nat}, j < w'.length → ∃ c, w'[j]? = some c := fun h => ⟨_, List.getElem?_eq_getElem h⟩
  have new : ∀ {a j : Nat} {c d : q_C}, w'[a]? = some c → aw[j]? = some d → (∀ i : Nat, i < w'.length → τ[i]? ≠ some j) → ad1 a ≠ ad j := by
    intro a j c d ha hj hn z
    have hal : a < w'.length := (List.getElem?_eq_some_iff.mp ha).1
    have := (out hj hn)
    rw [← z] at this
    have hin : va_A (q_cw cy (q_ad ad σ) (q_xd ad xd σ aw) 0 w) H.size (ad1 a) := hD1.2 a _ (gb ha)
    exact this.2 hin
  refine ⟨fun k q hq => ?_, fun i j x y hi hj hxy => ?_, fun k q hq => ?_⟩
  · obtain ⟨c, hc, rfl⟩ := gw hq
    rcases dec k with ⟨j, hj, hτ⟩ | hn
    · obtain ⟨d, hd⟩ := cell hj
      obtain ⟨p, c', e1, e2, e3⟩ := g3 j d hd
      cases Option.some.inj (hτ.symm.trans e1)
      cases Option.some.inj (hc.symm.trans e2)
      rw [h2 j k hτ, e3]
      exact hP1 j _ (gb hd)
    · rw [g4 k hn] at hc
      rw [h1 k (lt hc), h3 k c hc]
      exact (hP k _ (ga hc)).kept (hfr _ (out hc hn).1 (out hc hn).2)
  · obtain ⟨c, hc, rfl⟩ := gw hi
    obtain ⟨d, hd, rfl⟩ := gw hj
    have hxy : ad2 i = ad2 j := hxy
    rcases dec i with ⟨a, ha, hτa⟩ | hni <;> rcases dec j with ⟨b, hb, hτb⟩ | hnj
    · rw [h2 a i hτa, h2 b j hτb] at hxy
      obtain ⟨ca, hca⟩ := cell ha
      obtain ⟨cb, hcb⟩ := cell hb
      have := inj1 hca hcb hxy
      subst this
      exact Option.some.inj (hτa.symm.trans hτb)
    · rw [g4 j hnj] at hd
      rw [h2 a i hτa, h1 j (lt hd)] at hxy
      obtain ⟨ca, hca⟩ := cell ha
      exact absurd hxy (new hca hd hnj)
    · rw [g4 i hni] at hc
      rw [h2 b j hτb, h1 i (lt hc)] at hxy
      obtain ⟨cb, hcb⟩ := cell hb
      exact absurd hxy.symm (new hcb hc hni)
    · rw [g4 i hni] at hc
      rw [g4 j hnj] at hd
      rw [h1 i (lt hc), h1 j (lt hd)] at hxy
      exact inj hc hd hxy
  · obtain ⟨c, hc, rfl⟩ := gw hq
    rcases dec k with ⟨j, hj, hτ⟩ | hn
    · obtain ⟨d, hd⟩ := cell hj
      show A (ad2 k)
      rw [h2 j k hτ]
      exact hA _ (hD1.2 j _ (gb hd))
    · rw [g4 k hn] at hc
      show A (ad2 k)
      rw [h1 k (lt hc)]
      exact hD.2 k _ (ga hc)
/-- the callee's cells as the caller's heap has them -/
theorem q_subP {D : va_G} {cy : Nat → ClassId} {ad xd : Nat → Nat} {aw w : List q_C} {σ : List Nat} {H : Heap} (hP : va_P D vwCl (q_cw cy ad xd 0 aw) H) (hwl : w.length = σ.length)
    (hsub : ∀ (t p : Nat), σ[t]? = some p → ∃ c c', aw[p]? = some c ∧ w[t]? = some c' ∧ q_cE cy (q_ad ad σ) (q_xd ad xd σ aw) c' = q_cE cy ad xd c) : va_P D vwCl (q_cw cy (q_ad ad σ) (q_xd ad xd σ aw) 0 w) H := by
  intro k q hq
  rw [q_cw_get] at hq
  cases hc : w[k]? with
  | none => rw [hc] at hq; cases hq
  | some c =>
    rw [hc] at hq
    have hkl : k < w.length := (List.getElem?_eq_some_iff.mp hc).1
    have hs : σ[k]? = some (σ[k]'(by omega)) := List.getElem?_eq_getElem _
    obtain ⟨d, c', e1, e2, e3⟩ := hsub k _ hs
    cases Option.some.inj (hc.symm.trans e2)
    have e4 := Option.some.inj hq
    rw [Nat.zero_add] at e4
    rw [← e4]
    show va_at D vwCl (q_ad ad σ k, q_cE cy (q_ad ad σ) (q_xd ad xd σ aw) c) H
    rw [e3, q_ad_at hs]
    exact hP _ _ (by rw [q_cw_get, e1, Nat.zero_add]; rfl)
theorem q_subD {cy : Nat → ClassId} {ad xd : Nat → Nat} {A : Nat → Prop} {aw w : List q_C} {σ : List Nat} (hD : va_D A (q_cw cy ad xd 0 aw)) (hn : ∀ (i j p : Nat), σ[i]? = some p → σ[j]? = some p → i = j) (hwl : w.length = σ.length)
    (hsub : ∀ (t p : Nat), σ[t]? = some p → ∃ c c', aw[p]? = some c ∧ w[t]? = some c' ∧ q_cE cy (q_ad ad σ) (q_xd ad xd σ aw) c' = q_cE cy ad xd c) : va_D A (q_cw cy (q_ad ad σ) (q_xd ad xd σ aw) 0 w) := by
  have key : ∀ {k : Nat} {q : Nat × va_E}, (q_cw cy (q_ad ad σ) (q_xd ad xd σ aw) 0 w)[k]? = some q → ∃ (p : Nat) (c : q_C), σ[k]? = some p ∧ aw[p]? = some c ∧ q.1 = ad p := by
    intro k q hq
    rw [q_cw_get] at hq
    cases hc : w[k]? with
    | none => rw [hc] at hq; cases hq
    | some c =>
      rw [hc] at hq
      have hkl : k < w.length := (List.getElem?_eq_some_iff.mp hc).1
      have hs : σ[k]? = some (σ[k]'(by omega)) := List.getElem?_eq_getElem _
      obtain ⟨d, c', e1, e2, e3⟩ := hsub k _ hs
      refine ⟨_, d, hs, e1, ?_⟩
      have e4 := congrArg Prod.fst (Option.some.inj hq)
      simp only [Nat.zero_add] at e4
      rw [← e4, q_ad_at hs]
  refine ⟨fun i j x y hi hj hxy => ?_, fun k q hq => ?_⟩
  · obtain ⟨p, c, h1, h2, h3⟩ := key hi
    obtain ⟨q, d, g1, g2, g3⟩ := key hj
    have : p = q := hD.1 p q _ _ (by rw [q_cw_get, h2, Nat.zero_add]; rfl) (by rw [q_cw_get, g2, Nat.zero_add]; rfl) (by show ad p = ad q; rw [← h3, ← g3, hxy])
    subst this
    exact hn i j p h1 g1
  · obtain ⟨p, c, h1, h2, h3⟩ := key hq
    rw [h3]
    exact hD.2 p _ (by rw [q_cw_get, h2, Nat.zero_add]; rfl)
theorem q_subA {cy : Nat → ClassId} {ad xd : Nat → Nat} {A : Nat → Prop} {w : List q_C} {H0 H : Heap} {locs : List Loc} (hD : va_D A (q_cw cy ad xd 0 w)) (hS : va_S A H0 H locs) (hA : ∀ q, H0.size ≤ q → A q) : ∀ q, va_A (q_cw cy ad xd 0 w) H.size q → A q := by
  intro q hq
  rcases hq with ⟨k, e, hk⟩ | hq
  · exact hD.2 k _ hk
  · exact hA q (Nat.le_trans hS.1 hq)
end
section
/-! ===== calls of every kind ===== -/
section QI
variable {p : Program} {l : Launch} {e : Env} {R : Room} {s : State} {m : MethodId} {args : Array Value} {below : List Frame} {meth : Method} {c : Code} {T : State} {H : Heap} {locs : List Loc} {cells slots : Nat}
variable {y : MethodName} {bytes cc : ByteArray} {maxL nL mc ms n index : Nat} {ws : List Cond} {rm : Room} {Pc : Array Value → State → Prop} {Qc : Array Value → State → Outcome → State → Prop} {XC : String → Addr → State → State → Prop} {free : Addr → Prop} {Ts : List Cond} {own host : String} {b : Addr} {As rest : List Value} {g : JFrame}
/-- a constructor, by a plain link -/
theorem qx_runI (S : CallFix p m c cc nL s args Ts own) (hM : qx_Met l y ws rm Pc Qc XC mc ms free) (cw : CallB R s args own index y bytes maxL none ws rm mc ms n ∧ y.name = "<init>" ∧ (Cond.instanceMethod y).before args s = true) (hp : PreS s H Pc (.ref b :: As))
    (hg : g.method = m) (hn : As.length = n) (hsize : g.locals.size = nL) (hstack : g.stack = As.reverse ++ .ref b :: rest) (hW : 2 * g.monitorRoom + (rest.map fun v => v.category).sum ≤ 8) (hdg : decode cc g.pc = .ok (.invokespecial index, 3)) (hf : cells + mc ≤ R.cells ∧ slots + ms ≤ R.slots) :
    qx_Run p l e R s m args below meth c H locs cells slots mc ms g rest (Qc (Value.ref b :: As).toArray) XC free := by
  have hK : qx_Back l R p e below s args y 3 8 (PreOf R mc ms Pc) (PostOf Qc mc ms free) (qx_Post XC mc ms free) := qx_callBack cw.1 hM hp.1
  obtain ⟨⟨-, -, -, -, -, -, hcode, -, hy, hlen, hl⟩, hy1, hin⟩ := cw
  obtain ⟨hx, hb, hml, ho, -⟩ := S
  intro T hT X
  subst hg
  have hpl : e.platform.magicAccessors = ({} : Platform).magicAccessors := by rw [X.admits.platform]
  obtain ⟨mk, methM, cM, kP, vm₁, hnamed, hmethM, hcodeM, -, hlocalsM, -, hkP, -, hW₁, hstep₁⟩ := Steps.initColdArgs (e := e) X.here hx X.warmed hpl ho hy1 hy hl hin hcode (f := g) rfl (argsL := As) (a := b) (rest := rest) (fun sig h => hn.trans (hlen sig h)) hstack (by rw [hb]; exact hdg)
  have X₁ := X.noted hW₁
  rcases hK g.method meth c ⟨T.setVm vm₁, locs, cells, slots⟩ { g with stack := rest } (.invokespecial index) mk (Value.ref b :: As).toArray X₁ rfl (hsize.trans hml.symm) (by rw [hb]; exact hdg) hW (X₁.named hnamed) ⟨hf.1, hf.2, hp.2 (T.setVm vm₁) hT X₁.warmed⟩ with ⟨v, ⟨U', l2, c2, s2⟩, X', ⟨g', mk', t, L, e1, e2, hq, h1, hL, h2, h3⟩, hsteps⟩ | ⟨q, ⟨U', l2, c2, s2⟩, X', ⟨g', mk', t, L, E, ce, e1, e2, hq, hce, hcv, hcl, h1, hL, h2, h3⟩, hsteps⟩
  · dsimp only [Pt.U, Pt.locs, Pt.cells, Pt.slots] at X' e1 e2 h1 h2 h3 hsteps
    subst h1; subst h2; subst h3
    exact Or.inl ⟨v, (T.setVm vm₁).calling g' mk' (Value.ref b :: As).toArray, t, U', L, hT, X', hL, e1, e2, hq, fun target h => hstep₁ _ fun acts => by rw [doInvoke_state]; exact hsteps.trans h⟩
  · dsimp only [Pt.U, Pt.locs, Pt.cells, Pt.slots] at X' e1 e2 h1 h2 h3 hsteps hcl
    subst h1; subst h2; subst h3
    exact Or.inr ⟨q, (T.setVm vm₁).calling g' mk' (Value.ref b :: As).toArray, t, U', L, E, ce, hT, X', hL, e1, e2, hq, hce, hcv, qx_cls hW₁ hcl, hstep₁ _ fun acts => by rw [doInvoke_state]; exact hsteps⟩
/-- a constructor of a nest mate -/
theorem qx_runIN (S : CallFix p m c cc nL s args Ts own) (hM : qx_Met l y ws rm Pc Qc XC mc ms free) (hrc : rm.cells = mc) (hrs : rm.slots = ms) (hfr : rm.frames + 1 ≤ R.frames) (hlo : 8 + (maxL + 11) + rm.locals ≤ R.locals) (hws : ∀ w ∈ ws, ∀ (a' : Array Value) (U : State), s.WarmedH U.vm → w.before a' U = true) (hcw : Cond.code y bytes maxL none ∈ ws)
    (hcode : (Cond.code y bytes maxL none).before args s = true) (hini : (Cond.initialized y.cls).before args s = true) (hy : y.cls ≠ "java/lang/invoke/MethodHandle" ∧ y.cls ≠ "java/lang/invoke/VarHandle") (hlen : ∀ sig, parseMethodDescriptor y.desc = some sig → n = sig.parameters.length) (hl : (Cond.methodLinkNest own index y host).before args s = true) (hy1 : y.name = "<init>") (hin : (Cond.instanceMethod y).before args s = true) (hp : PreS s H Pc (.ref b :: As))
    (hg : g.method = m) (hn : As.length = n) (hsize : g.locals.size = nL) (hstack : g.stack = As.reverse ++ .ref b :: rest) (hW : 2 * g.monitorRoom + (rest.map fun v => v.category).sum ≤ 8) (hdg : decode cc g.pc = .ok (.invokespecial index, 3)) (hf : cells + mc ≤ R.cells ∧ slots + ms ≤ R.slots) :
    qx_Run p l e R s m args below meth c H locs cells slots mc ms g rest (Qc (Value.ref b :: As).toArray) XC free := by
  have hK : qx_Back l R p e below s args y 3 8 (PreOf R mc ms Pc) (PostOf Qc mc ms free) (qx_Post XC mc ms free) := qx_back (bytes := bytes) (maxL := maxL) (ret := none) hM hp.1 hrc hrs hfr hlo hws hcw (fun a' U hW => word_at hW (Or.inl (by first | rfl | simp [Cond.onTables, Cond.keeps, Cond.steady])) hini)
  obtain ⟨hx, hb, hml, ho, -⟩ := S
  intro T hT X
  subst hg
  have hpl : e.platform.magicAccessors = ({} : Platform).magicAccessors := by rw [X.admits.platform]
  obtain ⟨mk, methM, cM, kP, vm₁, hnamed, hmethM, hcodeM, -, hlocalsM, -, hkP, -, hW₁, hstep₁⟩ := Steps.initColdArgsNest (e := e) X.here hx X.warmed hpl ho hy1 hy hl hin hcode (f := g) rfl (argsL := As) (a := b) (rest := rest) (fun sig h => hn.trans (hlen sig h)) hstack (by rw [hb]; exact hdg)
  have X₁ := X.noted hW₁
  rcases hK g.method meth c ⟨T.setVm vm₁, locs, cells, slots⟩ { g with stack := rest } (.invokespecial index) mk (Value.ref b :: As).toArray X₁ rfl (hsize.trans hml.symm) (by rw [hb]; exact hdg) hW (X₁.named hnamed) ⟨hf.1, hf.2, hp.2 (T.setVm vm₁) hT X₁.warmed⟩ with ⟨v, ⟨U', l2, c2, s2⟩, X', ⟨g', mk', t, L, e1, e2, hq, h1, hL, h2, h3⟩, hsteps⟩ | ⟨q, ⟨U', l2, c2, s2⟩, X', ⟨g', mk', t, L, E, ce, e1, e2, hq, hce, hcv, hcl, h1, hL, h2, h3⟩, hsteps⟩
  · dsimp only [Pt.U, Pt.locs, Pt.cells, Pt.slots] at X' e1 e2 h1 h2 h3 hsteps
    subst h1; subst h2; subst h3
    exact Or.inl ⟨v, (T.setVm vm₁).calling g' mk' (Value.ref b :: As).toArray, t, U', L, hT, X', hL, e1, e2, hq, fun target h => hstep₁ _ fun acts => by rw [doInvoke_state]; exact hsteps.trans h⟩
  · dsimp only [Pt.U, Pt.locs, Pt.cells, Pt.slots] at X' e1 e2 h1 h2 h3 hsteps hcl
    subst h1; subst h2; subst h3
    exact Or.inr ⟨q, (T.setVm vm₁).calling g' mk' (Value.ref b :: As).toArray, t, U', L, E, ce, hT, X', hL, e1, e2, hq, hce, hcv, qx_cls hW₁ hcl, hstep₁ _ fun acts => by rw [doInvoke_state]; exact hsteps⟩
end QI
section QR
variable {p : Program} {l : Launch} {e : Env} {R : Room} {s : State} {m : MethodId} {args : Array Value} {below : List Frame} {meth : Method} {c : Code} {own : String} {cc : ByteArray} {D : va_G} {cy : Nat → ClassId} {xd xv : Nat → Nat} {A : Nat → Prop} {n0 : Nat} {ad0 : Nat → Nat} {Q : State → Prop} {E : q_E}
/-- the callee runs from here, by its contract -/
def q_RH (p : Program) (l : Launch) (e : Env) (R : Room) (s : State) (m : MethodId) (args : Array Value) (below : List Frame) (meth : Method) (c : Code) (D : va_G) (cy : Nat → ClassId) (xd xv : Nat → Nat) (A : Nat → Prop) (nL pc n rc mc ms : Nat) (sp : q_P) : Prop :=
  ∀ (ad : Nat → Nat) (ls : Array Slot) (H : Heap) (locs : List Loc) (ca sl : Nat) (aw : List q_C) (as0 rest as : List Value) (ad' xd' : Nat → Nat) (w : List q_C) (K : q_K),
    ls.size = nL → as0.length = n → as.map (q_cv ad' xd') = as0.map (q_cv ad xd) → q_rc rc as0 aw = true → q_r8 rc as0 = true → q_cats rest ≤ 8 → ca + mc ≤ R.cells → sl + ms ≤ R.slots → va_P D vwCl (q_cw cy ad xd 0 aw) H → va_S A s.heap H locs →
    (∀ U : State, U.heap = H → s.WarmedH U.vm → q_Pc D cy ad' xd' xv as w H.size ((as0.map (q_cv ad xd)).toArray) U) → sp as w K →
    qx_Run p l e R s m args below meth c H locs ca sl mc ms (F0 m pc ls ((as0.reverse ++ rest).map (q_cv ad xd))) (rest.map (q_cv ad xd)) (q_Qc D cy ad' xd' w.length K (va_A (q_cw cy ad' xd' 0 w) H.size) (as0.map (q_cv ad xd)).toArray) (q_XC D cy ad' xd' w.length K (va_A (q_cw cy ad' xd' 0 w) H.size)) (va_A (q_cw cy ad' xd' 0 w) H.size)
theorem q_GoodW {w0 : Cond} (h : w0 ∈ q_G) : GoodIn q_G (w0 :: q_G) := q_G_good (fun w hw => (List.mem_cons.mp hw).elim (fun e => by rw [e]; exact h) id)
theorem q_rm_ok {d mc ms mL dp : Nat} (h1 : d + 1 ≤ dp) (h2 : mL ≤ 45) (h3 : dp ≤ R.frames) (h4 : 64 * dp ≤ R.locals) : (q_rm d mc ms).frames + 1 ≤ R.frames ∧ 8 + (mL + 11) + (q_rm d mc ms).locals ≤ R.locals := by
  simp only [q_rm]
  constructor <;> omega
theorem q_ofst {ad xd : Nat → Nat} (as0 rest : List Value) : (as0.reverse ++ rest).map (q_cv ad xd) = (as0.map (q_cv ad xd)).reverse ++ rest.map (q_cv ad xd) := by rw [List.map_append, List.map_reverse]
theorem q_RV (hC : q_Cx p l s m args meth c R own cc D cy xd xv A E) {pc idx n rc d mL mc ms : Nat} {fd : List (Nat ⊕ (Nat × Nat))} {sp : q_P} (hco : q_CO l own idx (n, rc, d, mL, mc, ms, fd, sp)) (hd : decode cc pc = .ok (.invokevirtual idx, 3)) (h1 : d + 1 ≤ q_dp E) (h2 : mL ≤ 45) (hrc : rc ≤ 96 ∨ rc = 98) :
    q_RH p l e R s m args below meth c D cy xd xv A (q_nL E) pc n rc mc ms sp := by
  obtain ⟨hx, hb, hml, hown, hts, hK, hA, hct, hamb, hin, ⟨hR1, hR2, -, -⟩, hEok⟩ := hC
  obtain ⟨y, bytes, ret, np, ⟨hy1, hy2, hpd⟩, hini, hcase⟩ := hco
  intro ad ls H locs ca sl aw as0 rest as ad' xd' w K hls hn has hrcv hr8 hcat hca hsl hP hS hPc hsp
  have hR := q_rm_ok (mc := mc) (ms := ms) h1 h2 hR1 hR2
  rw [q_ofst]
  have hroom : ∀ st : List Value, 2 * (F0 m pc ls st).monitorRoom + ((rest.map (q_cv ad xd)).map fun v => v.category).sum ≤ 8 := fun st => lv_room (by rw [q_cats_eq]; exact hcat)
  have S : CallFix p m c cc (q_nL E) s args q_G own := ⟨hx, hb, hml, hown, hts⟩
  -- the receiver
  have hsplit : ∀ {b : Nat} {tl : List Value}, as0.map (q_cv ad xd) = .ref b :: tl → tl.length + 1 = n := by
    intro b tl hh
    have := congrArg List.length hh
    rw [List.length_map, List.length_cons] at this
    omega
  rcases hcase with ⟨hrc9, hnp, hcl, hlk, hinm, hsel, hcc⟩ | ⟨h97, -⟩ | ⟨h98, hnp, hcs, hlk, hinm, hsel, hcc⟩ | ⟨h99, -⟩
  · have hrecv : ∃ b tl, as0.map (q_cv ad xd) = .ref b :: tl ∧ ∃ cellB : Cell, H[b]? = some cellB ∧ cellB.vm.isStatics = false ∧ s.vm.findClass y.cls = some cellB.cls := by
      unfold q_rc at hrcv
      rw [Nat.ble_eq_true_of_le hrc9] at hrcv
      match as0, hrcv with
      | .ref p0 :: as1, hrcv =>
        dsimp only at hrcv
        split at hrcv
        · next ci fs hat =>
          have e1 := Nat.eq_of_beq_eq_true hrcv
          subst e1
          obtain ⟨q, hq1, hq2⟩ : ∃ q, vwCl[ci]? = some q ∧ q.1 = y.cls := by
            cases hv : vwCl[ci]? with
            | none => rw [hv] at hcl; cases hcl
            | some q => rw [hv] at hcl; exact ⟨q, rfl, Option.some.inj hcl⟩
          refine ⟨ad p0, as1.map (q_cv ad xd), rfl, ?_⟩
          rw [← hq2]
          exact va_recv (q0 := p0) hK hP hq1 (q_cell hat)
        · cases hrcv
    obtain ⟨b, tl, e1, hcellB⟩ := hrecv
    have e3 : tl.length = np := by have := hsplit e1; omega
    rcases hcc with ⟨hcode, hct⟩ | ⟨hh, hcode, hct⟩
    · have hM := hct D cy ad' xd' xv as w K H.size hsp
      rw [e1] at hPc ⊢
      have hg9 : GoodIn q_G (wsV own idx y.cls y (Cond.code y bytes mL ret :: q_G)) := by
        intro w9 hw
        rcases List.mem_append.mp hw with h | h
        · simp only [List.mem_cons, List.not_mem_nil, or_false] at h
          rcases h with rfl | rfl | rfl | rfl
          · exact q_G_good (ws := [_]) (fun w hw => by rw [List.mem_singleton.mp hw]; exact hlk) _ List.mem_cons_self
          · exact q_G_good (ws := [_]) (fun w hw => by rw [List.mem_singleton.mp hw]; exact hinm) _ List.mem_cons_self
          · exact q_G_good (ws := [_]) (fun w hw => by rw [List.mem_singleton.mp hw]; exact hsel) _ List.mem_cons_self
          · exact q_G_good (ws := [_]) (fun w hw => by rw [List.mem_singleton.mp hw]; exact hini) _ List.mem_cons_self
        · exact q_GoodW hcode _ h
      exact qx_runV S hM (cwV np hts hg9 rfl rfl rfl ⟨rfl, hy1, hy2, hpd⟩ hR) ⟨q_Pc_blind, hcellB, hPc⟩ rfl e3 hls (by rw [List.reverse_cons, List.append_assoc]; rfl) (hroom _) hd ⟨hca, hsl⟩
    · have hM := hct D cy ad' xd' xv as w K H.size hsp
      rw [e1] at hPc ⊢
      have hgw : GoodIn q_G (Cond.codeWith y bytes mL ret hh :: q_G) := q_GoodW hcode
      have cw : qx_CVW R s args own y.cls idx y bytes mL ret hh (Cond.codeWith y bytes mL ret hh :: q_G) (q_rm d mc ms) mc ms np :=
        ⟨⟨rfl, rfl, hR.1, hR.2, pay_in hts hgw, List.mem_cons_self⟩, hts _ hcode, hts _ hini, ⟨hy1, hy2⟩, fun sig h => by rw [h] at hpd; exact (Option.some.inj hpd).symm, hts _ hlk, hts _ hinm, hts _ hsel⟩
      exact qx_runVX S hM cw ⟨q_Pc_blind, hcellB, hPc⟩ rfl e3 hls (by rw [List.reverse_cons, List.append_assoc]; rfl) (hroom _) hd ⟨hca, hsl⟩
  · omega
  · have hrecv : ∃ b tl, as0.map (q_cv ad xd) = .ref b :: tl ∧ ∃ cellB : Cell, H[b]? = some cellB ∧ cellB.vm.isStatics = false ∧ s.vm.findClass y.cls = some cellB.cls := by
      unfold q_r8 at hr8
      rw [h98] at hr8
      match as0, hr8 with
      | .retAddr e0 :: as1, hr8 =>
        have he0 : e0 < 44 := Nat.le_of_ble_eq_true hr8
        obtain ⟨x, hx9⟩ : ∃ x, q_str[e0]? = some x := ⟨_, List.getElem?_eq_getElem (show e0 < q_str.length from he0)⟩
        obtain ⟨-, hO, -⟩ := hamb.1 e0 x hx9
        obtain ⟨cell, k1, k2, k3, -⟩ := hO.kept hS.2.1
        exact ⟨xd e0, as1.map (q_cv ad xd), rfl, cell, k1, k2, by rw [hcs]; exact k3⟩
    obtain ⟨b, tl, e1, hcellB⟩ := hrecv
    have e3 : tl.length = np := by have := hsplit e1; omega
    obtain ⟨hcode, hct⟩ := hcc
    have hM := hct D cy ad' xd' xv as w K H.size hsp
    rw [e1] at hPc ⊢
    have hg9 : GoodIn q_G (wsV own idx y.cls y (Cond.code y bytes mL ret :: q_G)) := by
      intro w9 hw
      rcases List.mem_append.mp hw with h | h
      · simp only [List.mem_cons, List.not_mem_nil, or_false] at h
        rcases h with rfl | rfl | rfl | rfl
        · exact q_G_good (ws := [_]) (fun w hw => by rw [List.mem_singleton.mp hw]; exact hlk) _ List.mem_cons_self
        · exact q_G_good (ws := [_]) (fun w hw => by rw [List.mem_singleton.mp hw]; exact hinm) _ List.mem_cons_self
        · exact q_G_good (ws := [_]) (fun w hw => by rw [List.mem_singleton.mp hw]; exact hsel) _ List.mem_cons_self
        · exact q_G_good (ws := [_]) (fun w hw => by rw [List.mem_singleton.mp hw]; exact hini) _ List.mem_cons_self
      · exact q_GoodW hcode _ h
    exact qx_runV S hM (cwV np hts hg9 rfl rfl rfl ⟨rfl, hy1, hy2, hpd⟩ hR) ⟨q_Pc_blind, hcellB, hPc⟩ rfl e3 hls (by rw [List.reverse_cons, List.append_assoc]; rfl) (hroom _) hd ⟨hca, hsl⟩
  · omega
theorem q_RS2 (hC : q_Cx p l s m args meth c R own cc D cy xd xv A E) {pc idx n rc d mL mc ms : Nat} {fd : List (Nat ⊕ (Nat × Nat))} {sp : q_P} (hco : q_CO l own idx (n, rc, d, mL, mc, ms, fd, sp)) (hd : decode cc pc = .ok (.invokestatic idx, 3)) (h1 : d + 1 ≤ q_dp E) (h2 : mL ≤ 45) (hrc : rc = 99) :
    q_RH p l e R s m args below meth c D cy xd xv A (q_nL E) pc n rc mc ms sp := by
  obtain ⟨hx, hb, hml, hown, hts, hK, hA, hct, hamb, hin, ⟨hR1, hR2, -, -⟩, hEok⟩ := hC
  obtain ⟨y, bytes, ret, np, ⟨hy1, hy2, hpd⟩, hini, hcase⟩ := hco
  intro ad ls H locs ca sl aw as0 rest as ad' xd' w K hls hn has hrcv hr8 hcat hca hsl hP hS hPc hsp
  have hR := q_rm_ok (mc := mc) (ms := ms) h1 h2 hR1 hR2
  rw [q_ofst]
  have hroom : ∀ st : List Value, 2 * (F0 m pc ls st).monitorRoom + ((rest.map (q_cv ad xd)).map fun v => v.category).sum ≤ 8 := fun st => lv_room (by rw [q_cats_eq]; exact hcat)
  have S : CallFix p m c cc (q_nL E) s args q_G own := ⟨hx, hb, hml, hown, hts⟩
  rcases hcase with ⟨h96, -⟩ | ⟨h97, -⟩ | ⟨h98, -⟩ | ⟨h99, hnp, hlk, hst, hcc⟩
  · omega
  · omega
  · omega
  · have e3 : (as0.map (q_cv ad xd)).length = np := by rw [List.length_map]; omega
    rcases hcc with ⟨hcode, hct⟩ | ⟨hh, hcode, hct⟩
    · have hM := hct D cy ad' xd' xv as w K H.size hsp
      exact qx_runS S hM ⟨callB_of np hts (q_GoodW hcode) rfl rfl rfl (hts _ hini) (hts _ hlk) ⟨hy1, hy2, hpd⟩ hR, hts _ hst⟩ ⟨q_Pc_blind, hPc⟩ rfl e3 hls rfl (hroom _) hd ⟨hca, hsl⟩
    · have hM := hct D cy ad' xd' xv as w K H.size hsp
      have hgw : GoodIn q_G (Cond.codeWith y bytes mL ret hh :: q_G) := q_GoodW hcode
      have cw : qx_CSW R s args own idx y bytes mL ret hh (Cond.codeWith y bytes mL ret hh :: q_G) (q_rm d mc ms) mc ms np :=
        ⟨⟨rfl, rfl, hR.1, hR.2, pay_in hts hgw, List.mem_cons_self⟩, hts _ hcode, hts _ hini, ⟨hy1, hy2⟩, fun sig h => by rw [h] at hpd; exact (Option.some.inj hpd).symm, hts _ hlk, hts _ hst⟩
      exact qx_runSX S hM cw ⟨q_Pc_blind, hPc⟩ rfl e3 hls rfl (hroom _) hd ⟨hca, hsl⟩
theorem q_RI2 (hC : q_Cx p l s m args meth c R own cc D cy xd xv A E) {pc idx n rc d mL mc ms : Nat} {fd : List (Nat ⊕ (Nat × Nat))} {sp : q_P} (hco : q_CO l own idx (n, rc, d, mL, mc, ms, fd, sp)) (hd : decode cc pc = .ok (.invokespecial idx, 3)) (h1 : d + 1 ≤ q_dp E) (h2 : mL ≤ 45) (hrc : rc = 97) :
    q_RH p l e R s m args below meth c D cy xd xv A (q_nL E) pc n rc mc ms sp := by
  obtain ⟨hx, hb, hml, hown, hts, hK, hA, hct, hamb, hin, ⟨hR1, hR2, -, -⟩, hEok⟩ := hC
  obtain ⟨y, bytes, ret, np, ⟨hy1, hy2, hpd⟩, hini, hcase⟩ := hco
  intro ad ls H locs ca sl aw as0 rest as ad' xd' w K hls hn has hrcv hr8 hcat hca hsl hP hS hPc hsp
  have hR := q_rm_ok (mc := mc) (ms := ms) h1 h2 hR1 hR2
  rw [q_ofst]
  have hroom : ∀ st : List Value, 2 * (F0 m pc ls st).monitorRoom + ((rest.map (q_cv ad xd)).map fun v => v.category).sum ≤ 8 := fun st => lv_room (by rw [q_cats_eq]; exact hcat)
  have S : CallFix p m c cc (q_nL E) s args q_G own := ⟨hx, hb, hml, hown, hts⟩
  rcases hcase with ⟨h96, -⟩ | ⟨h97, hnp, hret, hnm, hlk, hinm, hcode, hct⟩ | ⟨h98, -⟩ | ⟨h99, -⟩
  · omega
  · have hrf : ∃ b tl, as0.map (q_cv ad xd) = .ref b :: tl := by
      unfold q_r8 at hr8
      rw [hrc] at hr8
      match as0, hr8 with
      | .ref p0 :: as1, hr8 => exact ⟨ad p0, as1.map (q_cv ad xd), rfl⟩
    obtain ⟨b, tl, e1⟩ := hrf
    have e3 : tl.length = np := by
      have := congrArg List.length e1
      rw [List.length_map, List.length_cons] at this
      omega
    subst hret
    have hM := hct D cy ad' xd' xv as w K H.size hsp
    rw [e1] at hPc ⊢
    rcases hlk with hlk | ⟨host, hlk⟩
    · exact qx_runI S hM ⟨callB_of np hts (q_GoodW hcode) rfl rfl rfl (hts _ hini) (hts _ hlk) ⟨hy1, hy2, hpd⟩ hR, hnm, hts _ hinm⟩ ⟨q_Pc_blind, hPc⟩ rfl e3 hls (by rw [List.reverse_cons, List.append_assoc]; rfl) (hroom _) hd ⟨hca, hsl⟩
    · have hl9 : (Cond.methodLinkNest own idx y host).before args s = true := va_Nw.use rfl (hamb.2.2.2.2.2.2.2 _ hlk)
      exact qx_runIN S hM rfl rfl hR.1 hR.2 (pay_in hts (q_GoodW hcode)) List.mem_cons_self (hts _ hcode) (hts _ hini) ⟨hy1, hy2⟩ (fun sig h => by rw [h] at hpd; exact (Option.some.inj hpd).symm) hl9 hnm (hts _ hinm) ⟨q_Pc_blind, hPc⟩ rfl e3 hls (by rw [List.reverse_cons, List.append_assoc]; rfl) (hroom _) hd ⟨hca, hsl⟩
  · omega
  · omega
end QR
end
section
theorem q_g8_ok {rc : Nat} {args : List Value} {k : Prop} (h : q_g8 rc args k) : q_r8 rc args = true ∧ k := by
  unfold q_g8 at h
  split at h
  · split at h
    · next h8 => exact ⟨h8, h⟩
    · exact h.elim
  · next hb =>
    split at h
    · exact ⟨by unfold q_r8; rw [hb]; exact Nat.ble_eq_true_of_le h.1, h.2⟩
    · exact h.elim
/-! ===== a call, as the abstract machine has it, is sound ===== -/
section QK
variable {p : Program} {l : Launch} {e : Env} {R : Room} {s : State} {m : MethodId} {args : Array Value} {below : List Frame} {meth : Method} {c : Code} {own : String} {cc : ByteArray} {D : va_G} {cy : Nat → ClassId} {xd xv : Nat → Nat} {A : Nat → Prop} {n0 : Nat} {ad0 : Nat → Nat} {Q : State → Prop} {E : q_E}
theorem q_after {H : Heap} {locs : List Loc} {ca sl mc ms pc n : Nat} {ls : Array Slot} {stC restC : List Value} {ad' xd' : Nat → Nat} {K : q_K} {A1 : Nat → Prop} {arr : Array Value}
    (hr : qx_Run p l e R s m args below meth c H locs ca sl mc ms (F0 m pc ls stC) restC (q_Qc D cy ad' xd' n K A1 arr) (q_XC D cy ad' xd' n K A1) A1) (hS : va_S A s.heap H locs) (hA : ∀ q, A1 q → A q)
    (kr : ∀ (r : Option Value) (w' : List q_C) (ad1 : Nat → Nat) (H1 : Heap) (locs1 : List Loc), K (.inl r) w' → (∀ i, i < n → ad1 i = ad' i) → va_P D vwCl (q_cw cy ad1 xd' 0 w') H1 → va_D A1 (q_cw cy ad1 xd' 0 w') → (∀ q : Nat, q < H.size → ¬ A1 q → H1[q]? = H[q]?) → va_S A s.heap H1 locs1 →
      W p l e R s m args below meth c H1 locs1 (ca + mc) (sl + ms) Q (F0 m (pc + 3) ls ((r.map (q_cv ad1 xd')).toList ++ restC)))
    (kt : ∀ (p0 : Nat) (fs : List Value) (w' : List q_C) (ad1 : Nat → Nat) (H1 : Heap) (locs1 : List Loc), w'[p0]? = some (.inr (13, fs)) → K (.inr (.ref p0)) w' → (∀ i, i < n → ad1 i = ad' i) → va_P D vwCl (q_cw cy ad1 xd' 0 w') H1 → va_D A1 (q_cw cy ad1 xd' 0 w') → (∀ q : Nat, q < H.size → ¬ A1 q → H1[q]? = H[q]?) → va_S A s.heap H1 locs1 →
      qx_W p l e R s m args below meth c H1 locs1 (ca + mc) (sl + ms) Q (F0 m pc ls restC) (ad1 p0)) :
    W p l e R s m args below meth c H locs ca sl Q (F0 m pc ls stC) := by
  intro T hT X
  rcases hr T hT X with ⟨v, st₀, t, T', L, h0, X', hL, e1, e2, ⟨⟨r, w', ad1, hv, hK, ha, hP, hD⟩, hF⟩, st⟩ | ⟨q, st₀, t, T', L, E9, ce, h0, X', hL, e1, e2, ⟨⟨-, p0, fs, w', ad1, rfl, hfs, hK, ha, hP, hD⟩, hF⟩, hce, hcv, hcl, st⟩
  · cases hv
    obtain ⟨k1, k2, k3⟩ := qx_keep h0 e1 hS (fun q _ h => hA q h) hA hL hF
    rw [← e1] at hP
    obtain ⟨t2, a1, b1⟩ := kr r w' ad1 T'.heap (locs ++ L) hK ha hP hD k2 k3 T' rfl X'
    exact ⟨t2, st t2 a1, b1⟩
  · obtain ⟨k1, k2, k3⟩ := qx_keep h0 e1 hS (fun q _ h => hA q h) hA hL hF
    rw [← e1] at hP
    obtain ⟨t2, a1, b1⟩ := kt p0 fs w' ad1 T'.heap (locs ++ L) hfs hK ha hP hD k2 k3 T' rfl X'
    exact ⟨t2, st.trans a1, b1⟩
set_option maxHeartbeats 4000000 in
theorem q_call_ok (hC : q_Cx p l s m args meth c R own cc D cy xd xv A E) {k : q_N} {z : q_K}
    (hk : ∀ pc lv st aw ca sl, k pc lv st aw ca sl → q_W p l e R s m args below meth c D cy xd A n0 ad0 (q_nL E) Q pc lv st aw ca sl)
    (ht : ∀ pc v lv aw ca sl, q_thr E pc v lv aw ca sl k z → ∃ p0, v = .ref p0 ∧ q_X p l e R s m args below meth c D cy xd A n0 ad0 (q_nL E) Q pc p0 lv aw ca sl)
    {pc n rc d mL mc ms : Nat} {fd : List (Nat ⊕ (Nat × Nat))} {sp : q_P} {kd : Nat → Bool} (hRH : d + 1 ≤ q_dp E → mL ≤ 45 → kd rc = true → q_RH p l e R s m args below meth c D cy xd xv A (q_nL E) pc n rc mc ms sp)
    {lv : q_L} {st : List Value} {aw : List q_C} {ca sl : Nat} (h : q_call E kd (n, rc, d, mL, mc, ms, fd, sp) pc lv st aw ca sl k z) : q_W p l e R s m args below meth c D cy xd A n0 ad0 (q_nL E) Q pc lv st aw ca sl := by
  have hcx := hC
  obtain ⟨hx, hb, hml, hown, hts, hK, hA, hct, hamb, hin, ⟨hR1, hR2, hRC, hRS⟩, hEok⟩ := hC
  intro hca hsl ad ls H locs hn0 had hlv hP hD hS
  unfold q_call at h
  dsimp only at h
  split at h
  · exact h.elim
  · next hb1 =>
    simp only [Bool.and_eq_true] at hb1
    obtain ⟨as0, rest, rfl, hlen, h5⟩ := q_pop_ok _ _ _ _ h
    rw [List.append_nil] at h5
    split at h5
    · exact h5.elim
    · next hb2 =>
      simp only [Bool.and_eq_true] at hb2
      have h8 := (q_g8_ok h5).1
      replace h5 := (q_g8_ok h5).2
      have RH := hRH (Nat.le_of_ble_eq_true hb1.1) (Nat.le_of_ble_eq_true hb1.2.1) hb1.2.2
      have hcat : q_cats rest ≤ 8 := Nat.le_of_ble_eq_true hb2.1
      -- common part: a footprint, its cells, and a continuation
      have core : ∀ (grow : Prop) (ns : List Nat), (ca + mc ≤ R.cells ∧ sl + ms ≤ R.slots) → (¬ grow → ns = []) → (grow → ns = q_dl q_ns aw ∧ q_vl (q_ln aw) lv = true ∧ q_vs (q_ln aw) rest = true ∧ q_vw (q_ln aw) aw = true) →
          (q_ft as0 aw fd [] (fun σ => match q_nd σ with
            | false => False
            | true => q_lw aw σ σ 0 (fun w => q_la σ as0 (fun as => sp as w (fun o w' => q_ext w' σ ns (fun σ' => q_gw σ' σ aw w' σ' aw (fun aw' => match o with
              | .inl none => k (pc + 3) lv rest aw' (ca + mc) (sl + ms)
              | .inl (some v) => q_gval σ' σ aw v (fun v' => k (pc + 3) lv (v' :: rest) aw' (ca + mc) (sl + ms))
              | .inr v => q_gval σ' σ aw v (fun v' => q_thr E pc v' lv aw' (ca + mc) (sl + ms) k z)))))))) →
          W p l e R s m args below meth c H locs ca sl Q (F0 m pc ls ((as0.reverse ++ rest).map (q_cv ad xd))) := by
        intro grow ns hroom hng hgr h
        obtain ⟨σ, h⟩ := q_ft_ok h
        split at h
        · exact h.elim
        · next hnd =>
          obtain ⟨w, h, hwl, hsub⟩ := q_lw_ok (cy := cy) (ad := ad) (xd := xd) σ 0 _ (fun t => by rw [Nat.zero_add]) h
          obtain ⟨as, h, has⟩ := q_la_ok (ad := ad) (xd := xd) (aw := aw) as0 _ h
          have hinj := q_nd_ok hnd
          have hPs := q_subP hP hwl hsub
          have hDs := q_subD hD hinj hwl hsub
          have hAs := q_subA hDs hS hA
          have hσlt : ∀ (t q : Nat), σ[t]? = some q → q < aw.length := fun t q hq => by
            obtain ⟨c1, -, h1, -⟩ := hsub t q hq
            exact (List.getElem?_eq_some_iff.mp h1).1
          have hPc : ∀ U : State, U.heap = H → s.WarmedH U.vm → q_Pc D cy (q_ad ad σ) (q_xd ad xd σ aw) xv as w H.size ((as0.map (q_cv ad xd)).toArray) U := by
            intro U hU hW
            refine ⟨by rw [has], by rw [hU], by rw [hU]; exact hPs, hK.moved hW.alike, hDs.weaken (fun _ _ _ _ => trivial), ?_⟩
            exact (hamb.move hW (fun a h1 h2 => by rw [hU]; exact hS.2.1 a h1 h2) hAs).xd (fun e he => by simp only [q_xd, if_pos he])
          have run := RH ad ls H locs ca sl aw as0 rest as (q_ad ad σ) (q_xd ad xd σ aw) w _ hlv.1 hlen has hb2.2 h8 hcat hroom.1 hroom.2 hP hS hPc h
          -- what comes back
          have back : ∀ (w' : List q_C) (ad1 : Nat → Nat) (H1 : Heap) (KK : List Nat → List q_C → Prop), q_ext w' σ ns (fun σ' => q_gw σ' σ aw w' σ' aw (fun aw' => KK σ' aw')) → (∀ i, i < w.length → ad1 i = q_ad ad σ i) → va_P D vwCl (q_cw cy ad1 (q_xd ad xd σ aw) 0 w') H1 → va_D (va_A (q_cw cy (q_ad ad σ) (q_xd ad xd σ aw) 0 w) H.size) (q_cw cy ad1 (q_xd ad xd σ aw) 0 w') → (∀ q : Nat, q < H.size → ¬ va_A (q_cw cy (q_ad ad σ) (q_xd ad xd σ aw) 0 w) H.size q → H1[q]? = H[q]?) →
              ∃ (τ : List Nat) (aw' : List q_C) (ad2 : Nat → Nat), KK τ aw' ∧ aw.length ≤ aw'.length ∧ (∀ p, p < aw.length → ad2 p = ad p) ∧ (∀ (n p : Nat), τ[n]? = some p → ad2 p = ad1 n) ∧ (∀ e v0, q_og σ aw e = some v0 → q_cv ad2 xd v0 = q_cv ad xd v0) ∧ va_P D vwCl (q_cw cy ad2 xd 0 aw') H1 ∧ va_D A (q_cw cy ad2 xd 0 aw') ∧ lv.map (q_cp ad2 xd) = lv.map (q_cp ad xd) ∧ rest.map (q_cv ad2 xd) = rest.map (q_cv ad xd) := by
            intro w' ad1 H1 KK hx9 ha1 hP1 hD1 hfr
            obtain ⟨ex, hg, hwl', hexs⟩ := q_ext_ok w' σ ns _ hx9
            have hτσ : ∀ (n p : Nat), σ[n]? = some p → (σ ++ ex)[n]? = some p := fun n p hn => by
              rw [List.getElem?_append_left (List.getElem?_eq_some_iff.mp hn).1]; exact hn
            have hτl : w'.length = (σ ++ ex).length := by rw [List.length_append]; exact hwl'
            have had1 : ∀ (n p : Nat), σ[n]? = some p → ad1 n = ad p := fun n p hn => by
              rw [ha1 n (by rw [hwl]; exact (List.getElem?_eq_some_iff.mp hn).1), q_ad_at hn]
            by_cases hG : grow
            · obtain ⟨hns, v1, v2, v3⟩ := hgr hG
              rw [q_ln_eq] at v1 v2 v3
              have hexv : ∀ (j p : Nat), ex[j]? = some p → p = aw.length + j := by
                intro j p hj
                have hjl : j < ex.length := (List.getElem?_eq_some_iff.mp hj).1
                rw [hexs j hjl, hns, q_dl_ok, List.getElem?_drop] at hj
                exact q_ns_at hj
              let ad2 : Nat → Nat := fun i => if i < aw.length then ad i else ad1 (σ.length + (i - aw.length))
              have P1 : ∀ p, p < aw.length → ad2 p = ad p := fun p hp => if_pos hp
              have P2 : ∀ (n p : Nat), (σ ++ ex)[n]? = some p → ad2 p = ad1 n := by
                intro n p hn
                rcases Nat.lt_or_ge n σ.length with hl | hl
                · rw [List.getElem?_append_left hl] at hn
                  rw [P1 p (hσlt n p hn), had1 n p hn]
                · rw [List.getElem?_append_right hl] at hn
                  have e1 := hexv _ p hn
                  have e2 : ¬ p < aw.length := by omega
                  show (if p < aw.length then ad p else ad1 (σ.length + (p - aw.length))) = ad1 n
                  rw [if_neg e2]
                  congr 1
                  omega
              have P3 : ∀ e v0, q_og σ aw e = some v0 → q_cv ad2 xd v0 = q_cv ad xd v0 := by
                intro e v0 he
                unfold q_og at he
                split at he
                · split at he
                  · next ci fs hat =>
                    rw [q_at_eq] at hat he
                    exact q_v_ok P1 (q_vs_at (q_vw_at v3 _ ci fs hat) _ v0 he)
                  · cases he
                · cases he
              have hinjτ : ∀ (i j p : Nat), (σ ++ ex)[i]? = some p → (σ ++ ex)[j]? = some p → i = j := by
                intro i j p hi hj
                rcases Nat.lt_or_ge i σ.length with hli | hli <;> rcases Nat.lt_or_ge j σ.length with hlj | hlj
                · rw [List.getElem?_append_left hli] at hi
                  rw [List.getElem?_append_left hlj] at hj
                  exact hinj i j p hi hj
                · rw [List.getElem?_append_left hli] at hi
                  rw [List.getElem?_append_right hlj] at hj
                  have h1 := hσlt i p hi
                  have h2 := hexv _ p hj
                  omega
                · rw [List.getElem?_append_right hli] at hi
                  rw [List.getElem?_append_left hlj] at hj
                  have h1 := hσlt j p hj
                  have h2 := hexv _ p hi
                  omega
                · rw [List.getElem?_append_right hli] at hi
                  rw [List.getElem?_append_right hlj] at hj
                  have h1 := hexv _ p hi
                  have h2 := hexv _ p hj
                  omega
              obtain ⟨aw', g1, g2, g3, g4⟩ := q_gw_ok (cy := cy) (ad := ad) (xd := xd) (ad1 := ad1) (ad2 := ad2) P2 P3 w' (σ ++ ex) aw _ hinjτ hg
              obtain ⟨r1, r2⟩ := q_reb (τ := σ ++ ex) (ad2 := ad2) (aw' := aw') hP hD hwl hsub hAs ha1 hP1 hD1 hfr hτl (by omega) hτσ (fun n p hn => by
                rcases Nat.lt_or_ge n σ.length with hl | hl
                · exact Or.inl hl
                · rw [List.getElem?_append_right hl] at hn
                  have e1 := hexv _ p hn
                  exact Or.inr (by omega)) P1 P2 (fun k c hc => q_vw_ok P1 v3 k c hc) g3 g4
              exact ⟨σ ++ ex, aw', ad2, g1, g2, P1, P2, P3, r1, r2, q_vl_ok P1 v1, q_vs_ok P1 v2⟩
            · have hns := hng hG
              have hex0 : ex = [] := by
                cases ex with
                | nil => rfl
                | cons a ex =>
                  have := hexs 0 (by simp)
                  rw [hns] at this
                  simp at this
              subst hex0
              rw [List.append_nil] at hg hτσ hτl
              have P2 : ∀ (n p : Nat), σ[n]? = some p → ad p = ad1 n := fun n p hn => (had1 n p hn).symm
              obtain ⟨aw', g1, g2, g3, g4⟩ := q_gw_ok (cy := cy) (ad := ad) (xd := xd) (ad1 := ad1) (ad2 := ad) P2 (fun _ _ _ => rfl) w' σ aw _ hinj hg
              obtain ⟨r1, r2⟩ := q_reb (τ := σ) (ad2 := ad) (aw' := aw') hP hD hwl hsub hAs ha1 hP1 hD1 hfr hτl (by omega) hτσ (fun n p hn => Or.inl (List.getElem?_eq_some_iff.mp hn).1) (fun _ _ => rfl) P2 (fun _ _ _ => rfl) g3 g4
              exact ⟨σ, aw', ad, g1, g2, fun _ _ => rfl, P2, fun _ _ _ => rfl, r1, r2, rfl, rfl⟩
          refine q_after run hS hAs ?_ ?_
          · intro r w' ad1 H1 locs1 hKK ha1 hP1 hD1 hfr hS1
            obtain ⟨τ, aw', ad2, hM, hlen', P1, P2, P3, r1, r2, e1, e2⟩ := back w' ad1 H1 _ hKK ha1 hP1 hD1 hfr
            cases r with
            | none =>
              have := hk _ _ _ _ _ _ hM hroom.1 hroom.2 ad2 ls H1 locs1 (Nat.le_trans hn0 hlen') (fun i hi => by rw [P1 i (by omega)]; exact had i hi) (by rw [e1]; exact hlv) r1 r2 hS1
              rw [e2] at this
              exact this
            | some v =>
              obtain ⟨v', hM, hv'⟩ := q_gval_ok P2 P3 hM
              have := hk _ _ _ _ _ _ hM hroom.1 hroom.2 ad2 ls H1 locs1 (Nat.le_trans hn0 hlen') (fun i hi => by rw [P1 i (by omega)]; exact had i hi) (by rw [e1]; exact hlv) r1 r2 hS1
              rw [List.map_cons, e2, hv'] at this
              exact this
          · intro p0 fs w' ad1 H1 locs1 hfs hKK ha1 hP1 hD1 hfr hS1
            obtain ⟨τ, aw', ad2, hM, hlen', P1, P2, P3, r1, r2, e1, e2⟩ := back w' ad1 H1 _ hKK ha1 hP1 hD1 hfr
            obtain ⟨v', hM, hv'⟩ := q_gval_ok P2 P3 hM
            obtain ⟨p1, rfl, hX⟩ := ht _ _ _ _ _ _ hM
            have := hX hroom.1 hroom.2 ad2 ls (rest.map (q_cv ad xd)) H1 locs1 (Nat.le_trans hn0 hlen') (fun i hi => by rw [P1 i (by omega)]; exact had i hi) (by rw [e1]; exact hlv) r1 r2 hS1
            have e3 : ad2 p1 = ad1 p0 := by
              simp only [q_cv] at hv'
              exact Value.ref.inj hv'
            rw [e3] at this
            exact this
      split at h5
      · next hz0 =>
        have e1 : mc = 0 := by omega
        have e2 : ms = 0 := by omega
        subst e1; subst e2
        exact core False [] ⟨hca, hsl⟩ (fun _ => rfl) (fun f => f.elim) h5
      · obtain ⟨hrm, h5⟩ := h5
        split at h5
        · exact h5.elim
        · next hv =>
          simp only [Bool.and_eq_true] at hv
          rw [← hRC, ← hRS] at hrm
          exact core True (q_dl q_ns aw) hrm (fun f => absurd trivial f) (fun _ => ⟨rfl, hv.1, hv.2.1, hv.2.2⟩) h5
end QK
end
section
/-! ===== every step is sound ===== -/
theorem q_mx1 : Cond.static Lib.Math.max.name ∈ q_G := q_G_i 1030 (by decide +kernel) rfl
theorem q_mx2 : Cond.code Lib.Math.max.name Lib.Math.max.code 2 (some .int) ∈ q_G := q_G_i 1031 (by decide +kernel) rfl
theorem q_mn1 : Cond.static Lib.Math.min.name ∈ q_G := q_G_i 570 (by decide +kernel) rfl
theorem q_mn2 : Cond.code Lib.Math.min.name Lib.Math.min.code 2 (some .int) ∈ q_G := q_G_i 571 (by decide +kernel) rfl
theorem q_mi : Cond.initialized "java/lang/Math" ∈ q_G := q_G_i 22 (by decide +kernel) rfl
theorem q_oi1 : Cond.instanceMethod objectInit ∈ q_G := q_G_i 32 (by decide +kernel) rfl
theorem q_oi2 : Cond.code objectInit ⟨#[0xb1]⟩ 1 none ∈ q_G := q_G_i 33 (by decide +kernel) rfl
theorem q_arr (a9 : ArrayType) (ty : FieldType) {cy : Nat → ClassId} (kn : Nat) (hty : newarray.typeOf a9 = ty) (hk : (q_tys cy)[kn]? = some (cy kn, ty)) : Cond.arrayClass (newarray.typeOf a9) ∈ q_G := by
  rw [hty]
  match kn, hk with
  | 0, hk => cases hk; exact q_G_i 85 (by decide +kernel) rfl
  | 1, hk => cases hk; exact q_G_i 86 (by decide +kernel) rfl
  | 2, hk => cases hk; exact q_G_i 87 (by decide +kernel) rfl
  | 3, hk => cases hk; exact q_G_i 121 (by decide +kernel) rfl
  | n + 4, hk => simp [q_tys] at hk
section QT
variable {p : Program} {l : Launch} {e : Env} {R : Room} {s : State} {m : MethodId} {args : Array Value} {below : List Frame} {meth : Method} {c : Code} {own : String} {cc : ByteArray} {D : va_G} {cy : Nat → ClassId} {xd xv : Nat → Nat} {A : Nat → Prop} {n0 : Nat} {ad0 : Nat → Nat} {Q : State → Prop} {E : q_E}
/-- what a method owes where it returns -/
def q_Rt (p : Program) (l : Launch) (e : Env) (R : Room) (s : State) (m : MethodId) (args : Array Value) (below : List Frame) (meth : Method) (c : Code) (cc : ByteArray) (D : va_G) (cy : Nat → ClassId) (xd : Nat → Nat) (A : Nat → Prop) (n0 : Nat) (ad0 : Nat → Nat) (E : q_E) (Q : State → Prop) (z : q_K) : Prop :=
  (∀ (pc : Nat) (lv : q_L) (x : Int32) (ty : FieldType) (aw : List q_C) (ca sl : Nat), decode cc pc = .ok (.ireturn, 1) → q_rt E = some ty → narrow ty (.int x) = .int x → z (.inl (some (.int x))) aw → q_W p l e R s m args below meth c D cy xd A n0 ad0 (q_nL E) Q pc lv [.int x] aw ca sl) ∧
  (∀ (pc : Nat) (lv : q_L) (x : Int64) (aw : List q_C) (ca sl : Nat), decode cc pc = .ok (.lreturn, 1) → q_rt E = some .long → z (.inl (some (.long x))) aw → q_W p l e R s m args below meth c D cy xd A n0 ad0 (q_nL E) Q pc lv [.long x] aw ca sl) ∧
  (∀ (pc : Nat) (lv : q_L) (x : Nat) (t : String) (aw : List q_C) (ca sl : Nat), decode cc pc = .ok (.areturn, 1) → q_rt E = some (.object t) → z (.inl (some (.ref x))) aw → q_W p l e R s m args below meth c D cy xd A n0 ad0 (q_nL E) Q pc lv [.ref x] aw ca sl) ∧
  (∀ (pc : Nat) (lv : q_L) (aw : List q_C) (ca sl : Nat), decode cc pc = .ok (.return_, 1) → q_rt E = none → z (.inl none) aw → q_W p l e R s m args below meth c D cy xd A n0 ad0 (q_nL E) Q pc lv [] aw ca sl)
theorem q_ci {ci cj : Nat} (h : Nat.beq ci cj = true) : ci = cj := Nat.eq_of_beq_eq_true h
theorem q_setF {ad xd : Nat → Nat} {fs : List Value} {j : Nat} {v : Value} : (fs.map (q_cv ad xd)).set j (q_cv ad xd v) = (fs.set j v).map (q_cv ad xd) := by rw [List.map_set]
theorem q_bool {v : Int32} (h : narrow .boolean (.int v) = .int v) : v = 0 ∨ v = 1 := by
  have h1 : v &&& 1 = v := Value.int.inj h
  obtain ⟨j, hj, e⟩ := pk_andE v (m := 1) 1 (by decide)
  rw [h1] at e
  rcases (show j = 0 ∨ j = 1 by omega) with rfl | rfl
  · exact Or.inl e
  · exact Or.inr e
theorem q_fit_ok {ad xd : Nat → Nat} {ty : FieldType} {v : Value} {k : Prop} (h : q_fit ty v k) : narrow ty (q_cv ad xd v) = q_cv ad xd v ∧ fits ty (q_cv ad xd v) = true ∧ k := by
  cases ty <;> cases v <;> first | exact (h : False).elim | exact ⟨rfl, rfl, h⟩ | (obtain ⟨h1, h2⟩ := h; exact ⟨h1, by rcases q_bool h1 with rfl | rfl <;> rfl, h2⟩)
theorem q_tsw_ok {pc : Nat} {x : Int32} {k : Nat → Prop} : ∀ (l : List Int) (j : Int), q_tsw pc x k l j → ∀ (i : Nat) (o : Int), l[i]? = some o → x.toInt = j + i → k ((pc : Int) + o).toNat
  | [], j, _, i, o, h, _ => by simp at h
  | a :: l, j, h, i, o, ho, hx => by
    cases i with
    | zero => cases ho; exact h.1 (by simpa using hx)
    | succ i => exact q_tsw_ok l (j + 1) h.2 i o ho (by rw [hx]; omega)
theorem q_dvs_ok {f : Nat → FieldType} : ∀ (n i : Nat) (ns : List Nat) (k : List Value → Prop), (∀ j a, ns[j]? = some a → a = i + j) → q_dvs f ns n k → ∃ l, k l ∧ l.length = n ∧ ∀ j, j < n → l[j]? = some (defaultValue (f (i + j))) ∧ ∀ ad xd, q_cv ad xd (defaultValue (f (i + j))) = defaultValue (f (i + j))
  | 0, i, ns, k, _, h => ⟨[], by simpa [q_dvs] using h, rfl, fun j hj => absurd hj (Nat.not_lt_zero j)⟩
  | n + 1, i, [], k, _, h => (h : False).elim
  | n + 1, i, a :: ns, k, hn, h => by
    have ha : a = i := by have := hn 0 a rfl; simpa using this
    subst ha
    have hn' : ∀ (j b : Nat), ns[j]? = some b → b = a + 1 + j := fun j b hb => by have := hn (j + 1) b hb; omega
    have go : ∀ (v : Value), defaultValue (f a) = v → (∀ ad xd, q_cv ad xd v = v) → q_dvs f ns n (fun l => k (v :: l)) → ∃ l, k l ∧ l.length = n + 1 ∧ ∀ j, j < n + 1 → l[j]? = some (defaultValue (f (a + j))) ∧ ∀ ad xd, q_cv ad xd (defaultValue (f (a + j))) = defaultValue (f (a + j)) := by
      intro v hv hcv h
      obtain ⟨l, h1, h2, h3⟩ := q_dvs_ok n (a + 1) ns _ hn' h
      refine ⟨v :: l, h1, by rw [List.length_cons, h2], fun j hj => ?_⟩
      cases j with
      | zero => rw [Nat.add_zero, hv]; exact ⟨rfl, hcv⟩
      | succ j =>
        have := h3 j (by omega)
        rw [show a + 1 + j = a + (j + 1) by omega] at this
        exact this
    simp only [q_dvs] at h
    split at h
    · next hf => exact go _ (by rw [hf]; rfl) (fun _ _ => rfl) h
    · next hf => exact go _ (by rw [hf]; rfl) (fun _ _ => rfl) h
    · next hf => exact go _ (by rw [hf]; rfl) (fun _ _ => rfl) h
    · next hf => exact go _ (by rw [hf]; rfl) (fun _ _ => rfl) h
    · next hf => exact go _ (by rw [hf]; rfl) (fun _ _ => rfl) h
    · exact h.elim
theorem q_hdN_ok : ∀ (ns : List Nat) (i : Nat) (k : Nat → Prop), q_hdN ns i k → ∃ n, k n ∧ ns[i]? = some n
  | [], i, k, h => (h : False).elim
  | a :: ns, 0, k, h => ⟨a, h, rfl⟩
  | a :: ns, i + 1, k, h => q_hdN_ok ns i k h
theorem q_cw_app {cy : Nat → ClassId} {ad xd : Nat → Nat} : ∀ (l : List q_C) (i : Nat) (c : q_C), q_cw cy ad xd i (l ++ [c]) = q_cw cy ad xd i l ++ [(ad (i + l.length), q_cE cy ad xd c)]
  | [], i, c => rfl
  | d :: l, i, c => by
    rw [List.cons_append, q_cw, q_cw, q_cw_app l (i + 1) c, List.cons_append, List.length_cons, show i + 1 + l.length = i + (l.length + 1) by omega]
/-- a new cell at the world's end -/
theorem q_grow {cy : Nat → ClassId} {ad xd : Nat → Nat} {aw : List q_C} (q : Nat) (hv : q_vw aw.length aw = true) : ∃ ad2 : Nat → Nat, (∀ p, p < aw.length → ad2 p = ad p) ∧ ad2 aw.length = q ∧ q_cw cy ad2 xd 0 aw = q_cw cy ad xd 0 aw := by
  refine ⟨fun i => if i < aw.length then ad i else q, fun p hp => if_pos hp, if_neg (Nat.lt_irrefl _), ?_⟩
  apply List.ext_getElem?
  intro k
  rw [q_cw_get, q_cw_get]
  cases hc : aw[k]? with
  | none => rfl
  | some c =>
    have hk : k < aw.length := (List.getElem?_eq_some_iff.mp hc).1
    have e9 := q_vw_ok (cy := cy) (xd := xd) (ad := ad) (ad2 := fun i => if i < aw.length then ad i else q) (fun p hp => if_pos hp) hv k c hc
    simp only [Option.map_some, Nat.zero_add, if_pos hk, e9]
theorem q_ldcW {H : Heap} {locs : List Loc} {cells slots pc : Nat} {ls : Array Slot} {rest : List Value} (hexec : p.tables.exec = Jvm.exec) (hb : c.code = cc) {own tx : String} {index q : Nat} (hown : s.vm.findClass own = some m.cls) (hZ : vk_R own index tx q s) (hdg : decode cc pc = .ok (.ldc_w index, 3))
    (k : W p l e R s m args below meth c H locs cells slots Q (F0 m (pc + 3) ls (.ref q :: rest))) : W p l e R s m args below meth c H locs cells slots Q (F0 m pc ls rest) := by
  intro T hT X
  obtain ⟨t, a1, b1⟩ := k T hT X
  exact ⟨t, X.ldcStringW hexec hown (text := tx) (a := q) hZ.1 hZ.2 (g := F0 m pc ls rest) rfl (by rw [hb]; exact hdg) t a1, b1⟩
end QT
end
section
/-! ===== the step theorem ===== -/
section QU
variable {p : Program} {l : Launch} {e : Env} {R : Room} {s : State} {m : MethodId} {args : Array Value} {below : List Frame} {meth : Method} {c : Code} {own : String} {cc : ByteArray} {D : va_G} {cy : Nat → ClassId} {xd xv : Nat → Nat} {A : Nat → Prop} {n0 : Nat} {ad0 : Nat → Nat} {Q : State → Prop} {E : q_E}
set_option maxHeartbeats 8000000 in
set_option maxRecDepth 100000 in
theorem q_step_ok (hC : q_Cx p l s m args meth c R own cc D cy xd xv A E) {k : q_N} {z : q_K}
    (hk : ∀ pc lv st aw ca sl, k pc lv st aw ca sl → q_W p l e R s m args below meth c D cy xd A n0 ad0 (q_nL E) Q pc lv st aw ca sl)
    (ht : ∀ pc v lv aw ca sl, q_thr E pc v lv aw ca sl k z → ∃ p0, v = .ref p0 ∧ q_X p l e R s m args below meth c D cy xd A n0 ad0 (q_nL E) Q pc p0 lv aw ca sl)
    (hr : q_Rt p l e R s m args below meth c cc D cy xd A n0 ad0 E Q z) {pc : Nat} {i : Instr} {len : Nat} {cn : Int32} {t : Nat} (he : q_okI cc (pc, i, len, cn, t) = true)
    {lv : q_L} {st : List Value} {aw : List q_C} {ca sl : Nat} (h : q_step E pc i cn t lv st aw ca sl k z) : q_W p l e R s m args below meth c D cy xd A n0 ad0 (q_nL E) Q pc lv st aw ca sl := by
  have hcx := hC
  obtain ⟨hx, hb, hml, hown, hts, hK, hA, hct, hamb, hini, ⟨hR1, hR2, hRC, hRS⟩, hE1, hE2, hE3, hE4, hE5, hE6, hE7, hE8, hE9⟩ := hC
  simp only [q_okI, Bool.and_eq_true, decide_eq_true_eq] at he
  obtain ⟨hd, hax, hil⟩ := he
  unfold q_step at h
  cases i <;> dsimp only at h <;> try (exact h.elim)
  case iconst n =>
    have hl9 : 1 = len := Nat.eq_of_beq_eq_true hil
    subst hl9
    intro hca hsl ad ls H locs hn0 had hlv hP hD hS
    exact lv_iconst hx hb hd (of_decide_eq_true hax) (hk _ _ _ _ _ _ h hca hsl ad ls H locs hn0 had hlv hP hD hS)
  case bipush n =>
    have hl9 : 2 = len := Nat.eq_of_beq_eq_true hil
    subst hl9
    intro hca hsl ad ls H locs hn0 had hlv hP hD hS
    exact lv_bipush hx hb hd (of_decide_eq_true hax) (hk _ _ _ _ _ _ h hca hsl ad ls H locs hn0 had hlv hP hD hS)
  case sipush n =>
    have hl9 : 3 = len := Nat.eq_of_beq_eq_true hil
    subst hl9
    intro hca hsl ad ls H locs hn0 had hlv hP hD hS
    exact lv_sipush hx hb hd (of_decide_eq_true hax) (hk _ _ _ _ _ _ h hca hsl ad ls H locs hn0 had hlv hP hD hS)
  case lconst n =>
    have hl9 : 1 = len := Nat.eq_of_beq_eq_true hil
    subst hl9
    intro hca hsl ad ls H locs hn0 had hlv hP hD hS
    split at h
    · exact lv_lconst (v := 0) hx hb hd rfl (hk _ _ _ _ _ _ h hca hsl ad ls H locs hn0 had hlv hP hD hS)
    · exact lv_lconst (v := 1) hx hb hd rfl (hk _ _ _ _ _ _ h hca hsl ad ls H locs hn0 had hlv hP hD hS)
  case aconst_null =>
    have hl9 : 1 = len := Nat.eq_of_beq_eq_true hil
    subst hl9
    intro hca hsl ad ls H locs hn0 had hlv hP hD hS
    exact lv_null hx hb hd (hk _ _ _ _ _ _ h hca hsl ad ls H locs hn0 had hlv hP hD hS)
  case ldc i9 =>
    have hl9 : 2 = len := Nat.eq_of_beq_eq_true hil
    subst hl9
    intro hca hsl ad ls H locs hn0 had hlv hP hD hS
    split at h
    · next v hv => exact lv_ldc hx hb hown (hts _ (hE5 (i9, v) (q_lk_mem hv))) hd (hk _ _ _ _ _ _ h hca hsl ad ls H locs hn0 had hlv hP hD hS)
    · split at h
      · next e9 hv =>
        obtain ⟨x, hx1, hx2, hx3⟩ := hE6 (i9, e9) (q_lk_mem hv)
        obtain ⟨hR9, -⟩ := hamb.1 e9 x hx1
        rw [hx2, hx3] at hR9
        exact va_ldcS hx hb hown hR9 hd (hk _ _ _ _ _ _ h hca hsl ad ls H locs hn0 had hlv hP hD hS)
      · exact h.elim
  case ldc_w i9 =>
    have hl9 : 3 = len := Nat.eq_of_beq_eq_true hil
    subst hl9
    intro hca hsl ad ls H locs hn0 had hlv hP hD hS
    split at h
    · next v hv => exact lv_ldcw hx hb hown (hts _ (hE5 (i9, v) (q_lk_mem hv))) hd (hk _ _ _ _ _ _ h hca hsl ad ls H locs hn0 had hlv hP hD hS)
    · split at h
      · next e9 hv =>
        obtain ⟨x, hx1, hx2, hx3⟩ := hE6 (i9, e9) (q_lk_mem hv)
        obtain ⟨hR9, -⟩ := hamb.1 e9 x hx1
        rw [hx2, hx3] at hR9
        exact q_ldcW hx hb hown hR9 hd (hk _ _ _ _ _ _ h hca hsl ad ls H locs hn0 had hlv hP hD hS)
      · exact h.elim
  case ldc2_w i9 =>
    have hl9 : 3 = len := Nat.eq_of_beq_eq_true hil
    subst hl9
    intro hca hsl ad ls H locs hn0 had hlv hP hD hS
    split at h
    · next v hv => exact lv_ldc2 hx hb hown (hts _ (hE4 (i9, v) (q_lk_mem hv))) hd (hk _ _ _ _ _ _ h hca hsl ad ls H locs hn0 had hlv hP hD hS)
    · exact h.elim
  case iload i9 =>
    have hl9 : 2 = len := Nat.eq_of_beq_eq_true hil
    subst hl9
    intro hca hsl ad ls H locs hn0 had hlv hP hD hS
    split at h
    · next x hv => exact lv_iload hx hb hd (q_rd hlv hv) (hk _ _ _ _ _ _ h hca hsl ad ls H locs hn0 had hlv hP hD hS)
    · exact h.elim
  case lload i9 =>
    have hl9 : 2 = len := Nat.eq_of_beq_eq_true hil
    subst hl9
    intro hca hsl ad ls H locs hn0 had hlv hP hD hS
    split at h
    · next x hv => exact lv_lload hx hb hd (q_rd hlv hv) (hk _ _ _ _ _ _ h hca hsl ad ls H locs hn0 had hlv hP hD hS)
    · exact h.elim
  case iload_n i9 =>
    have hl9 : 1 = len := Nat.eq_of_beq_eq_true hil
    subst hl9
    intro hca hsl ad ls H locs hn0 had hlv hP hD hS
    split at h
    · next x hv => exact lv_iload_n hx hb hd rfl (q_rd hlv hv) (hk _ _ _ _ _ _ h hca hsl ad ls H locs hn0 had hlv hP hD hS)
    · exact h.elim
  case lload_n i9 =>
    have hl9 : 1 = len := Nat.eq_of_beq_eq_true hil
    subst hl9
    intro hca hsl ad ls H locs hn0 had hlv hP hD hS
    split at h
    · next x hv => exact lv_lload_n hx hb hd rfl (q_rd hlv hv) (hk _ _ _ _ _ _ h hca hsl ad ls H locs hn0 had hlv hP hD hS)
    · exact h.elim
  case aload i9 =>
    have hl9 : 2 = len := Nat.eq_of_beq_eq_true hil
    subst hl9
    intro hca hsl ad ls H locs hn0 had hlv hP hD hS
    split at h
    · next x hv => exact lv_aload hx hb hd (q_rd hlv hv) (hk _ _ _ _ _ _ h hca hsl ad ls H locs hn0 had hlv hP hD hS)
    · next x hv => exact lv_aload hx hb hd (q_rd hlv hv) (hk _ _ _ _ _ _ h hca hsl ad ls H locs hn0 had hlv hP hD hS)
    · exact h.elim
  case aload_n i9 =>
    have hl9 : 1 = len := Nat.eq_of_beq_eq_true hil
    subst hl9
    intro hca hsl ad ls H locs hn0 had hlv hP hD hS
    split at h
    · next x hv => exact lv_aload_n hx hb hd rfl (q_rd hlv hv) (hk _ _ _ _ _ _ h hca hsl ad ls H locs hn0 had hlv hP hD hS)
    · next x hv => exact lv_aload_n hx hb hd rfl (q_rd hlv hv) (hk _ _ _ _ _ _ h hca hsl ad ls H locs hn0 had hlv hP hD hS)
    · next hv => exact lv_aload_nN hx hb hd rfl (q_rd hlv hv) (hk _ _ _ _ _ _ h hca hsl ad ls H locs hn0 had hlv hP hD hS)
    · exact h.elim
  case istore i9 =>
    have hl9 : 2 = len := Nat.eq_of_beq_eq_true hil
    subst hl9
    intro hca hsl ad ls H locs hn0 had hlv hP hD hS
    split at h
    · next x st9 =>
      split at h
      · next hb9 =>
        obtain ⟨lv', h, hm⟩ := q_put_ok _ _ _ _ _ _ h
        exact lv_istore hx hb hd hlv (Nat.le_of_ble_eq_true hb9) rfl (fun ls' hl' => hk _ _ _ _ _ _ h hca hsl ad ls' H locs hn0 had (q_sto hl' hm) hP hD hS)
      · exact h.elim
    · exact h.elim
  case istore_n i9 =>
    have hl9 : 1 = len := Nat.eq_of_beq_eq_true hil
    subst hl9
    intro hca hsl ad ls H locs hn0 had hlv hP hD hS
    split at h
    · next x st9 =>
      split at h
      · next hb9 =>
        obtain ⟨lv', h, hm⟩ := q_put_ok _ _ _ _ _ _ h
        exact lv_istore_n hx hb hd rfl hlv (Nat.le_of_ble_eq_true hb9) rfl (fun ls' hl' => hk _ _ _ _ _ _ h hca hsl ad ls' H locs hn0 had (q_sto hl' hm) hP hD hS)
      · exact h.elim
    · exact h.elim
  case astore i9 =>
    have hl9 : 2 = len := Nat.eq_of_beq_eq_true hil
    subst hl9
    intro hca hsl ad ls H locs hn0 had hlv hP hD hS
    split at h
    · next x st9 =>
      split at h
      · next hb9 =>
        obtain ⟨lv', h, hm⟩ := q_put_ok _ _ _ _ _ _ h
        exact lv_astore hx hb hd hlv (Nat.le_of_ble_eq_true hb9) rfl (fun ls' hl' => hk _ _ _ _ _ _ h hca hsl ad ls' H locs hn0 had (q_sto hl' hm) hP hD hS)
      · exact h.elim
    · exact h.elim
  case astore_n i9 =>
    have hl9 : 1 = len := Nat.eq_of_beq_eq_true hil
    subst hl9
    intro hca hsl ad ls H locs hn0 had hlv hP hD hS
    split at h
    · next x st9 =>
      split at h
      · next hb9 =>
        obtain ⟨lv', h, hm⟩ := q_put_ok _ _ _ _ _ _ h
        exact lv_astore_n hx hb hd rfl hlv (Nat.le_of_ble_eq_true hb9) rfl (fun ls' hl' => hk _ _ _ _ _ _ h hca hsl ad ls' H locs hn0 had (q_sto hl' hm) hP hD hS)
      · exact h.elim
    · exact h.elim
  case lstore i9 =>
    have hl9 : 2 = len := Nat.eq_of_beq_eq_true hil
    subst hl9
    intro hca hsl ad ls H locs hn0 had hlv hP hD hS
    split at h
    · next x st9 =>
      split at h
      · next hb9 =>
        obtain ⟨lv', h, hm⟩ := q_put_ok _ _ _ _ _ _ h
        exact lv_lstore hx hb hd hlv (Nat.le_of_ble_eq_true hb9) rfl (fun ls' hl' => hk _ _ _ _ _ _ h hca hsl ad ls' H locs hn0 had (q_stoL hl' hm) hP hD hS)
      · exact h.elim
    · exact h.elim
  case lstore_n i9 =>
    have hl9 : 1 = len := Nat.eq_of_beq_eq_true hil
    subst hl9
    intro hca hsl ad ls H locs hn0 had hlv hP hD hS
    split at h
    · next x st9 =>
      split at h
      · next hb9 =>
        obtain ⟨lv', h, hm⟩ := q_put_ok _ _ _ _ _ _ h
        exact lv_lstore_n hx hb hd rfl hlv (Nat.le_of_ble_eq_true hb9) rfl (fun ls' hl' => hk _ _ _ _ _ _ h hca hsl ad ls' H locs hn0 had (q_stoL hl' hm) hP hD hS)
      · exact h.elim
    · exact h.elim
  case iinc i9 n9 =>
    have hl9 : 3 = len := Nat.eq_of_beq_eq_true hil
    subst hl9
    intro hca hsl ad ls H locs hn0 had hlv hP hD hS
    split at h
    · next x hv =>
      split at h
      · next hb9 =>
        obtain ⟨lv', h, hm⟩ := q_put_ok _ _ _ _ _ _ h
        obtain ⟨k9, hk9⟩ := List.getElem?_of_mem (List.mem_map.mpr ⟨(i9, .int x), q_lk_mem hv, rfl⟩ : (i9, Value.int x) ∈ lv.map (q_cp ad xd))
        exact lv_iinc (v := x + cn) hx hb hd hlv hk9 (by rw [of_decide_eq_true hax]) (Nat.le_of_ble_eq_true hb9) rfl (fun ls' hl' => hk _ _ _ _ _ _ h hca hsl ad ls' H locs hn0 had (q_sto hl' hm) hP hD hS)
      · exact h.elim
    · exact h.elim
  case pop =>
    have hl9 : 1 = len := Nat.eq_of_beq_eq_true hil
    subst hl9
    intro hca hsl ad ls H locs hn0 had hlv hP hD hS
    split at h
    · next v st9 =>
      split at h
      · next hb9 => exact lv_pop hx hb hd (by rw [q_cv_cat]; exact Nat.eq_of_beq_eq_true hb9) (hk _ _ _ _ _ _ h hca hsl ad ls H locs hn0 had hlv hP hD hS)
      · exact h.elim
    · exact h.elim
  case dup =>
    have hl9 : 1 = len := Nat.eq_of_beq_eq_true hil
    subst hl9
    intro hca hsl ad ls H locs hn0 had hlv hP hD hS
    split at h
    · next v st9 =>
      split at h
      · next hb9 => exact lv_dup hx hb hd (by rw [q_cv_cat]; exact Nat.eq_of_beq_eq_true hb9) (hk _ _ _ _ _ _ h hca hsl ad ls H locs hn0 had hlv hP hD hS)
      · exact h.elim
    · exact h.elim
  case dup2 =>
    have hl9 : 1 = len := Nat.eq_of_beq_eq_true hil
    subst hl9
    intro hca hsl ad ls H locs hn0 had hlv hP hD hS
    split at h
    · next v st9 =>
      split at h
      · next hb9 =>
        split at h
        · next w st8 =>
          split at h
          · next hb8 => exact lv_dup2_11 hx hb hd (by rw [q_cv_cat]; exact Nat.eq_of_beq_eq_true hb9) (by rw [q_cv_cat]; exact Nat.eq_of_beq_eq_true hb8) (hk _ _ _ _ _ _ h hca hsl ad ls H locs hn0 had hlv hP hD hS)
          · exact h.elim
        · exact h.elim
      · next hb9 =>
        have hc2 : v.category = 2 := by
          rcases lv_cat v with z | z
          · rw [z] at hb9; cases hb9
          · exact z
        exact lv_dup2_2 hx hb hd (by rw [q_cv_cat]; exact hc2) (hk _ _ _ _ _ _ h hca hsl ad ls H locs hn0 had hlv hP hD hS)
    · exact h.elim
  case iadd =>
    have hl9 : 1 = len := Nat.eq_of_beq_eq_true hil
    subst hl9
    intro hca hsl ad ls H locs hn0 had hlv hP hD hS
    split at h
    · exact lv_iadd hx hb hd (hk _ _ _ _ _ _ h hca hsl ad ls H locs hn0 had hlv hP hD hS)
    · exact h.elim
  case isub =>
    have hl9 : 1 = len := Nat.eq_of_beq_eq_true hil
    subst hl9
    intro hca hsl ad ls H locs hn0 had hlv hP hD hS
    split at h
    · exact lv_isub hx hb hd (hk _ _ _ _ _ _ h hca hsl ad ls H locs hn0 had hlv hP hD hS)
    · exact h.elim
  case imul =>
    have hl9 : 1 = len := Nat.eq_of_beq_eq_true hil
    subst hl9
    intro hca hsl ad ls H locs hn0 had hlv hP hD hS
    split at h
    · exact lv_imul hx hb hd (hk _ _ _ _ _ _ h hca hsl ad ls H locs hn0 had hlv hP hD hS)
    · exact h.elim
  case iand =>
    have hl9 : 1 = len := Nat.eq_of_beq_eq_true hil
    subst hl9
    intro hca hsl ad ls H locs hn0 had hlv hP hD hS
    split at h
    · exact lv_iand hx hb hd (hk _ _ _ _ _ _ h hca hsl ad ls H locs hn0 had hlv hP hD hS)
    · exact h.elim
  case ior =>
    have hl9 : 1 = len := Nat.eq_of_beq_eq_true hil
    subst hl9
    intro hca hsl ad ls H locs hn0 had hlv hP hD hS
    split at h
    · exact lv_ior hx hb hd (hk _ _ _ _ _ _ h hca hsl ad ls H locs hn0 had hlv hP hD hS)
    · exact h.elim
  case ishl =>
    have hl9 : 1 = len := Nat.eq_of_beq_eq_true hil
    subst hl9
    intro hca hsl ad ls H locs hn0 had hlv hP hD hS
    split at h
    · exact lv_ishl hx hb hd (hk _ _ _ _ _ _ h hca hsl ad ls H locs hn0 had hlv hP hD hS)
    · exact h.elim
  case ishr =>
    have hl9 : 1 = len := Nat.eq_of_beq_eq_true hil
    subst hl9
    intro hca hsl ad ls H locs hn0 had hlv hP hD hS
    split at h
    · exact lv_ishr hx hb hd (hk _ _ _ _ _ _ h hca hsl ad ls H locs hn0 had hlv hP hD hS)
    · exact h.elim
  case ladd =>
    have hl9 : 1 = len := Nat.eq_of_beq_eq_true hil
    subst hl9
    intro hca hsl ad ls H locs hn0 had hlv hP hD hS
    split at h
    · exact lv_ladd hx hb hd (hk _ _ _ _ _ _ h hca hsl ad ls H locs hn0 had hlv hP hD hS)
    · exact h.elim
  case lmul =>
    have hl9 : 1 = len := Nat.eq_of_beq_eq_true hil
    subst hl9
    intro hca hsl ad ls H locs hn0 had hlv hP hD hS
    split at h
    · exact lv_lmul hx hb hd (hk _ _ _ _ _ _ h hca hsl ad ls H locs hn0 had hlv hP hD hS)
    · exact h.elim
  case irem =>
    have hl9 : 1 = len := Nat.eq_of_beq_eq_true hil
    subst hl9
    intro hca hsl ad ls H locs hn0 had hlv hP hD hS
    split at h
    · exact lv_irem hx hb hd h.1 (hk _ _ _ _ _ _ h.2 hca hsl ad ls H locs hn0 had hlv hP hD hS)
    · exact h.elim
  case lcmp =>
    have hl9 : 1 = len := Nat.eq_of_beq_eq_true hil
    subst hl9
    intro hca hsl ad ls H locs hn0 had hlv hP hD hS
    split at h
    · exact W.lcmp hx hb hd (hk _ _ _ _ _ _ h hca hsl ad ls H locs hn0 had hlv hP hD hS)
    · exact h.elim
  case i2l =>
    have hl9 : 1 = len := Nat.eq_of_beq_eq_true hil
    subst hl9
    intro hca hsl ad ls H locs hn0 had hlv hP hD hS
    split at h
    · exact lv_i2l hx hb hd rfl (hk _ _ _ _ _ _ h hca hsl ad ls H locs hn0 had hlv hP hD hS)
    · exact h.elim
  case i2b =>
    have hl9 : 1 = len := Nat.eq_of_beq_eq_true hil
    subst hl9
    intro hca hsl ad ls H locs hn0 had hlv hP hD hS
    split at h
    · exact lv_i2b hx hb hd rfl (hk _ _ _ _ _ _ h hca hsl ad ls H locs hn0 had hlv hP hD hS)
    · exact h.elim
  case iushr =>
    have hl9 : 1 = len := Nat.eq_of_beq_eq_true hil
    subst hl9
    intro hca hsl ad ls H locs hn0 had hlv hP hD hS
    split at h
    · exact lv_iushr hx hb hd rfl (hk _ _ _ _ _ _ h hca hsl ad ls H locs hn0 had hlv hP hD hS)
    · exact h.elim
  case i2c =>
    have hl9 : 1 = len := Nat.eq_of_beq_eq_true hil
    subst hl9
    intro hca hsl ad ls H locs hn0 had hlv hP hD hS
    split at h
    · exact lv_i2c hx hb hd rfl (hk _ _ _ _ _ _ h hca hsl ad ls H locs hn0 had hlv hP hD hS)
    · exact h.elim
  case goto o9 =>
    have hl9 : 3 = len := Nat.eq_of_beq_eq_true hil
    subst hl9
    intro hca hsl ad ls H locs hn0 had hlv hP hD hS
    exact lv_goto hx hb hd (of_decide_eq_true hax) (hk _ _ _ _ _ _ h hca hsl ad ls H locs hn0 had hlv hP hD hS)
  case ifCond c9 o9 =>
    have hl9 : 3 = len := Nat.eq_of_beq_eq_true hil
    subst hl9
    intro hca hsl ad ls H locs hn0 had hlv hP hD hS
    split at h
    · cases c9 <;> dsimp only at h
      · exact lv_if_eq hx hb hd (of_decide_eq_true hax) (fun g => hk _ _ _ _ _ _ (h.1 g) hca hsl ad ls H locs hn0 had hlv hP hD hS) (fun g => hk _ _ _ _ _ _ (h.2 g) hca hsl ad ls H locs hn0 had hlv hP hD hS)
      · exact lv_if_ne hx hb hd (of_decide_eq_true hax) (fun g => hk _ _ _ _ _ _ (h.1 g) hca hsl ad ls H locs hn0 had hlv hP hD hS) (fun g => hk _ _ _ _ _ _ (h.2 g) hca hsl ad ls H locs hn0 had hlv hP hD hS)
      · exact lv_if_lt hx hb hd (of_decide_eq_true hax) (fun g => hk _ _ _ _ _ _ (h.1 g) hca hsl ad ls H locs hn0 had hlv hP hD hS) (fun g => hk _ _ _ _ _ _ (h.2 g) hca hsl ad ls H locs hn0 had hlv hP hD hS)
      · exact lv_if_ge hx hb hd (of_decide_eq_true hax) (fun g => hk _ _ _ _ _ _ (h.1 g) hca hsl ad ls H locs hn0 had hlv hP hD hS) (fun g => hk _ _ _ _ _ _ (h.2 g) hca hsl ad ls H locs hn0 had hlv hP hD hS)
      · exact lv_if_gt hx hb hd (of_decide_eq_true hax) (fun g => hk _ _ _ _ _ _ (h.1 g) hca hsl ad ls H locs hn0 had hlv hP hD hS) (fun g => hk _ _ _ _ _ _ (h.2 g) hca hsl ad ls H locs hn0 had hlv hP hD hS)
      · exact lv_if_le hx hb hd (of_decide_eq_true hax) (fun g => hk _ _ _ _ _ _ (h.1 g) hca hsl ad ls H locs hn0 had hlv hP hD hS) (fun g => hk _ _ _ _ _ _ (h.2 g) hca hsl ad ls H locs hn0 had hlv hP hD hS)
    · exact h.elim
  case if_icmp c9 o9 =>
    have hl9 : 3 = len := Nat.eq_of_beq_eq_true hil
    subst hl9
    intro hca hsl ad ls H locs hn0 had hlv hP hD hS
    split at h
    · cases c9 <;> dsimp only at h
      · exact lv_icmp_eq hx hb hd (of_decide_eq_true hax) (fun g => hk _ _ _ _ _ _ (h.1 g) hca hsl ad ls H locs hn0 had hlv hP hD hS) (fun g => hk _ _ _ _ _ _ (h.2 g) hca hsl ad ls H locs hn0 had hlv hP hD hS)
      · exact lv_icmp_ne hx hb hd (of_decide_eq_true hax) (fun g => hk _ _ _ _ _ _ (h.1 g) hca hsl ad ls H locs hn0 had hlv hP hD hS) (fun g => hk _ _ _ _ _ _ (h.2 g) hca hsl ad ls H locs hn0 had hlv hP hD hS)
      · exact lv_icmp_lt hx hb hd (of_decide_eq_true hax) (fun g => hk _ _ _ _ _ _ (h.1 g) hca hsl ad ls H locs hn0 had hlv hP hD hS) (fun g => hk _ _ _ _ _ _ (h.2 g) hca hsl ad ls H locs hn0 had hlv hP hD hS)
      · exact lv_icmp_ge hx hb hd (of_decide_eq_true hax) (fun g => hk _ _ _ _ _ _ (h.1 g) hca hsl ad ls H locs hn0 had hlv hP hD hS) (fun g => hk _ _ _ _ _ _ (h.2 g) hca hsl ad ls H locs hn0 had hlv hP hD hS)
      · exact lv_icmp_gt hx hb hd (of_decide_eq_true hax) (fun g => hk _ _ _ _ _ _ (h.1 g) hca hsl ad ls H locs hn0 had hlv hP hD hS) (fun g => hk _ _ _ _ _ _ (h.2 g) hca hsl ad ls H locs hn0 had hlv hP hD hS)
      · exact lv_icmp_le hx hb hd (of_decide_eq_true hax) (fun g => hk _ _ _ _ _ _ (h.1 g) hca hsl ad ls H locs hn0 had hlv hP hD hS) (fun g => hk _ _ _ _ _ _ (h.2 g) hca hsl ad ls H locs hn0 had hlv hP hD hS)
    · exact h.elim
  case ifnull o9 =>
    have hl9 : 3 = len := Nat.eq_of_beq_eq_true hil
    subst hl9
    intro hca hsl ad ls H locs hn0 had hlv hP hD hS
    split at h
    · exact lv_ifnullN hx hb hd (of_decide_eq_true hax) (hk _ _ _ _ _ _ h hca hsl ad ls H locs hn0 had hlv hP hD hS)
    · exact lv_ifnull hx hb hd (hk _ _ _ _ _ _ h hca hsl ad ls H locs hn0 had hlv hP hD hS)
    · exact lv_ifnull hx hb hd (hk _ _ _ _ _ _ h hca hsl ad ls H locs hn0 had hlv hP hD hS)
    · exact h.elim
  case ifnonnull o9 =>
    have hl9 : 3 = len := Nat.eq_of_beq_eq_true hil
    subst hl9
    intro hca hsl ad ls H locs hn0 had hlv hP hD hS
    split at h
    · exact lv_ifnonnullN hx hb hd (hk _ _ _ _ _ _ h hca hsl ad ls H locs hn0 had hlv hP hD hS)
    · exact lv_ifnonnull hx hb hd (of_decide_eq_true hax) (hk _ _ _ _ _ _ h hca hsl ad ls H locs hn0 had hlv hP hD hS)
    · exact lv_ifnonnull hx hb hd (of_decide_eq_true hax) (hk _ _ _ _ _ _ h hca hsl ad ls H locs hn0 had hlv hP hD hS)
    · exact h.elim
  case tableswitch d9 lo hi offs =>
    intro hca hsl ad ls H locs hn0 had hlv hP hD hS
    split at h
    · next x st9 =>
      obtain ⟨h1, h2, h3, h4⟩ := h
      by_cases ho : x.toInt < lo ∨ hi < x.toInt
      · exact lv_tableOut hx hb hd ho (Int.toNat_of_nonneg h4.1).symm (hk _ _ _ _ _ _ (h1 ho) hca hsl ad ls H locs hn0 had hlv hP hD hS)
      · have a1 : ¬ x.toInt < lo := fun q => ho (Or.inl q)
        have a2 : ¬ hi < x.toInt := fun q => ho (Or.inr q)
        have hlt : (x.toInt - lo).toNat < offs.toList.length := by omega
        obtain ⟨o, ho9⟩ : ∃ o, offs.toList[(x.toInt - lo).toNat]? = some o := ⟨_, List.getElem?_eq_getElem hlt⟩
        have hnn := h4.2 o (List.mem_of_getElem? ho9)
        exact lv_tableIn hx hb hd a1 a2 (by rw [← Array.getElem?_toList]; exact ho9) (Int.toNat_of_nonneg hnn).symm (hk _ _ _ _ _ _ (q_tsw_ok _ _ h2 _ o ho9 (by omega)) hca hsl ad ls H locs hn0 had hlv hP hD hS)
    · exact h.elim
  case getfield i9 =>
    have hl9 : 3 = len := Nat.eq_of_beq_eq_true hil
    subst hl9
    intro hca hsl ad ls H locs hn0 had hlv hP hD hS
    split at h
    · next p0 st9 =>
      split at h
      · next ci j hf =>
        split at h
        · next cj fs hat =>
          split at h
          · next hbq =>
            have e1 := q_ci hbq
            subst e1
            split at h
            · next v hv =>
              rw [q_at_eq] at hv
              obtain ⟨C, T, N, hc, hj, hlk⟩ := hE2 _ (q_lk_mem hf)
              dsimp only at hc hj hlk
              obtain ⟨cw1, cw2, cw3⟩ := q_cls ci _ hc
              have hvv : (fs.map (q_cv ad xd))[j]? = some (q_cv ad xd v) := by rw [List.getElem?_map, hv]; rfl
              rcases hlk with ⟨hlk, -⟩ | ⟨-, host, hlk⟩ | ⟨-, -, host, hlk⟩
              · exact va_get (ref := (T j).1) hx hb hts cw1 hown hK hP p0 (q_cell hat) hc j hj (hts _ hlk) (fun _ h9 => h9) hvv hd (hk _ _ _ _ _ _ h hca hsl ad ls H locs hn0 had hlv hP hD hS)
              · exact va_getN (ref := (T j).1) (host := host) hx hb hts cw1 hown hK hP p0 (q_cell hat) hc j hj (va_Nw.use rfl (hamb.2.2.2.2.2.2.2 _ hlk)) (fun _ h9 => h9) hvv hd (hk _ _ _ _ _ _ h hca hsl ad ls H locs hn0 had hlv hP hD hS)
              · exact va_getN (ref := (T j).1) (host := host) hx hb hts cw1 hown hK hP p0 (q_cell hat) hc j hj (va_Nw.use rfl (hamb.2.2.2.2.2.2.2 _ hlk)) (fun _ h9 => h9) hvv hd (hk _ _ _ _ _ _ h hca hsl ad ls H locs hn0 had hlv hP hD hS)
            · exact h.elim
          · exact h.elim
        · exact h.elim
      · exact h.elim
    · exact h.elim
  case putfield i9 =>
    have hl9 : 3 = len := Nat.eq_of_beq_eq_true hil
    subst hl9
    intro hca hsl ad ls H locs hn0 had hlv hP hD hS
    split at h
    · next v p0 st9 =>
      split at h
      · next ci j hf =>
        split at h
        · next cj fs hat =>
          split at h
          · next hbq =>
            have e1 := q_ci hbq
            subst e1
            obtain ⟨C, T, N, hc, hj, hlk⟩ := hE2 _ (q_lk_mem hf)
            dsimp only at hc hj hlk
            obtain ⟨cw1, cw2, cw3⟩ := q_cls ci _ hc
            have hfin : q_fin ci j = (T j).2.2.2 := by simp only [q_fin, q_at_eq, hc]
            split at h
            · next hff =>
              rw [hfin] at hff
              obtain ⟨f1, f2, h⟩ := q_fit_ok (ad := ad) (xd := xd) h
              obtain ⟨g1, h⟩ := q_set_eq _ _ _ _ h
              obtain ⟨-, g2⟩ := q_set_eq _ _ _ _ h
              have hl9 : j < (fs.map (q_cv ad xd)).length := by rw [List.length_map]; exact g1
              rcases hlk with ⟨hlk, -⟩ | ⟨-, host, hlk⟩ | ⟨hff2, -⟩
              · exact va_put (ref := (T j).1) (ty := q_fty ci j) hx hb hts cw1 (q_fty ci) cw2 cw3 hown hK hP hD hS p0 (q_cell hat) hc j hj (hts _ hlk) (fun _ h9 => h9) hff (cw2 j hj) f1 f2 hl9 hd (fun H1 locs1 hP1 hD1 hS1 => by rw [q_setF] at hP1 hD1; exact hk _ _ _ _ _ _ g2 hca hsl ad ls H1 locs1 (by rw [List.length_set]; exact hn0) had hlv (by rw [← q_cw_set]; exact hP1) (by rw [← q_cw_set]; exact hD1) hS1)
              · exact va_putN (ref := (T j).1) (host := host) (ty := q_fty ci j) hx hb hts cw1 (q_fty ci) cw2 cw3 hown hK hP hD hS p0 (q_cell hat) hc j hj (va_Nw.use rfl (hamb.2.2.2.2.2.2.2 _ hlk)) (fun _ h9 => h9) hff (cw2 j hj) f1 f2 hl9 hd (fun H1 locs1 hP1 hD1 hS1 => by rw [q_setF] at hP1 hD1; exact hk _ _ _ _ _ _ g2 hca hsl ad ls H1 locs1 (by rw [List.length_set]; exact hn0) had hlv (by rw [← q_cw_set]; exact hP1) (by rw [← q_cw_set]; exact hD1) hS1)
              · rw [hff] at hff2; cases hff2
            · next hff =>
              rw [hfin] at hff
              split at h
              · next hin9 =>
                obtain ⟨hnm, hcn⟩ := hini ci (Nat.eq_of_beq_eq_true hin9)
                rw [hc] at hcn
                have hCo : C = own := Option.some.inj hcn
                obtain ⟨f1, f2, h⟩ := q_fit_ok (ad := ad) (xd := xd) h
                obtain ⟨g1, h⟩ := q_set_eq _ _ _ _ h
                obtain ⟨-, g2⟩ := q_set_eq _ _ _ _ h
                have hl9 : j < (fs.map (q_cv ad xd)).length := by rw [List.length_map]; exact g1
                rcases hlk with ⟨hlk, hdc⟩ | ⟨hff2, -⟩ | ⟨-, hne, -⟩
                · exact va_putF (ref := (T j).1) (ty := q_fty ci j) hx hb hts cw1 (q_fty ci) cw2 cw3 hown hK hP hD hS p0 (q_cell hat) hc j hj (hts _ hlk) (fun _ h9 => h9) hff hnm (hdc.trans hCo) (cw2 j hj) f1 f2 hl9 hd (fun H1 locs1 hP1 hD1 hS1 => by rw [q_setF] at hP1 hD1; exact hk _ _ _ _ _ _ g2 hca hsl ad ls H1 locs1 (by rw [List.length_set]; exact hn0) had hlv (by rw [← q_cw_set]; exact hP1) (by rw [← q_cw_set]; exact hD1) hS1)
                · rw [hff] at hff2; cases hff2
                · exact absurd hCo hne
              · exact h.elim
          · exact h.elim
        · exact h.elim
      · exact h.elim
    · exact h.elim
  case getstatic i9 =>
    have hl9 : 3 = len := Nat.eq_of_beq_eq_true hil
    subst hl9
    intro hca hsl ad ls H locs hn0 had hlv hP hD hS
    split at h
    · next e9 hv =>
      split at h
      · next hb9 =>
        have h1 : e9 = 44 := Nat.eq_of_beq_eq_true hb9
        subst h1
        rcases hE7 _ (q_lk_mem hv) with ⟨-, h2⟩ | ⟨h2, -⟩ | ⟨h2, -⟩
        · exact va_gets (C := RX0) (n := "ROOM") (d := "[I") (ref := RX0) hx hb hamb.2.1 hS hown (hts _ h2) (fun _ h9 => h9) hd (hk _ _ _ _ _ _ h hca hsl ad ls H locs hn0 had hlv hP hD hS)
        · simp at h2
        · simp at h2
      · exact h.elim
    · exact h.elim
  case arraylength =>
    have hl9 : 1 = len := Nat.eq_of_beq_eq_true hil
    subst hl9
    intro hca hsl ad ls H locs hn0 had hlv hP hD hS
    split at h
    · next p0 st9 =>
      split at h
      · next kd n f hat =>
        have hkd : kd = 0 ∨ kd = 1 ∨ kd = 2 ∨ kd = 3 := h.1
        have hce := q_cell (cy := cy) (ad := ad) (xd := xd) hat
        have hh := hk _ _ _ _ _ _ h.2 hca hsl ad ls H locs hn0 had hlv hP hD hS
        rcases f with f | f <;> rcases hkd with rfl | rfl | rfl | rfl
        · exact va_alen hx hb hK hP p0 0 hce (ty := .byte) rfl rfl hd hh
        · exact va_alen hx hb hK hP p0 1 hce (ty := .int) rfl rfl hd hh
        · exact va_alen hx hb hK hP p0 2 hce (ty := .long) rfl rfl hd hh
        · exact va_alen hx hb hK hP p0 3 hce (ty := .boolean) rfl rfl hd hh
        · exact va_alen hx hb hK hP p0 0 hce (ty := .byte) rfl rfl hd hh
        · exact va_alen hx hb hK hP p0 1 hce (ty := .int) rfl rfl hd hh
        · exact va_alen hx hb hK hP p0 2 hce (ty := .long) rfl rfl hd hh
        · exact va_alen hx hb hK hP p0 3 hce (ty := .boolean) rfl rfl hd hh
      · exact h.elim
    · next e9 st9 =>
      split at h
      · next n f hv => exact va_tlen hx hb (hct _ (q_lk_mem hv)) hS rfl hd (hk _ _ _ _ _ _ h hca hsl ad ls H locs hn0 had hlv hP hD hS)
      · exact h.elim
    · exact h.elim
  case iaload =>
    have hl9 : 1 = len := Nat.eq_of_beq_eq_true hil
    subst hl9
    intro hca hsl ad ls H locs hn0 had hlv hP hD hS
    split at h
    · next x p0 st9 =>
      split at h
      · next kd n f hat =>
        split at h
        · next hbq =>
          have e1 := Nat.eq_of_beq_eq_true hbq
          subst e1
          exact va_iald hx hb hK hP p0 1 (q_cell hat) rfl h.1 hd (hk _ _ _ _ _ _ h.2 hca hsl ad ls H locs hn0 had hlv hP hD hS)
        · exact h.elim
      · exact h.elim
    · next x e9 st9 =>
      split at h
      · next n f hv => exact va_ti hx hb (hct _ (q_lk_mem hv)) hS h.1 rfl hd (hk _ _ _ _ _ _ h.2 hca hsl ad ls H locs hn0 had hlv hP hD hS)
      · exact h.elim
    · exact h.elim
  case baload =>
    have hl9 : 1 = len := Nat.eq_of_beq_eq_true hil
    subst hl9
    intro hca hsl ad ls H locs hn0 had hlv hP hD hS
    split at h
    · next x p0 st9 =>
      split at h
      · next kd n f hat =>
        split at h
        · next hbq =>
          simp only [Bool.or_eq_true] at hbq
          rcases hbq with hbq | hbq
          · have e1 := Nat.eq_of_beq_eq_true hbq
            subst e1
            exact va_bald hx hb hK hP p0 0 (q_cell hat) rfl h.1 hd (hk _ _ _ _ _ _ h.2 hca hsl ad ls H locs hn0 had hlv hP hD hS)
          · have e1 := Nat.eq_of_beq_eq_true hbq
            subst e1
            exact va_zald hx hb hK hP p0 3 (q_cell hat) rfl h.1 hd (hk _ _ _ _ _ _ h.2 hca hsl ad ls H locs hn0 had hlv hP hD hS)
        · exact h.elim
      · exact h.elim
    · exact h.elim
  case laload =>
    have hl9 : 1 = len := Nat.eq_of_beq_eq_true hil
    subst hl9
    intro hca hsl ad ls H locs hn0 had hlv hP hD hS
    split at h
    · next x p0 st9 =>
      split at h
      · next kd n f hat =>
        split at h
        · next hbq =>
          have e1 := Nat.eq_of_beq_eq_true hbq
          subst e1
          exact va_lald hx hb hK hP p0 2 (q_cell hat) rfl h.1 hd (hk _ _ _ _ _ _ h.2 hca hsl ad ls H locs hn0 had hlv hP hD hS)
        · exact h.elim
      · exact h.elim
    · exact h.elim
  case iastore =>
    have hl9 : 1 = len := Nat.eq_of_beq_eq_true hil
    subst hl9
    intro hca hsl ad ls H locs hn0 had hlv hP hD hS
    split at h
    · next y x p0 st9 =>
      split at h
      · next kd n f hat =>
        split at h
        · next hbq =>
          have e1 := Nat.eq_of_beq_eq_true hbq
          subst e1
          obtain ⟨hin, h⟩ := h
          obtain ⟨-, h⟩ := q_set_eq _ _ _ _ h
          exact va_iast hx hb hK hP hD hS p0 1 (q_cell hat) rfl hin hd (fun H1 locs1 hP1 hD1 hS1 => hk _ _ _ _ _ _ h hca hsl ad ls H1 locs1 (by rw [List.length_set]; exact hn0) had hlv (by rw [← q_cw_set]; exact hP1) (by rw [← q_cw_set]; exact hD1) hS1)
        · exact h.elim
      · exact h.elim
    · exact h.elim
  case lastore =>
    have hl9 : 1 = len := Nat.eq_of_beq_eq_true hil
    subst hl9
    intro hca hsl ad ls H locs hn0 had hlv hP hD hS
    split at h
    · next y x p0 st9 =>
      split at h
      · next kd n f hat =>
        split at h
        · next hbq =>
          have e1 := Nat.eq_of_beq_eq_true hbq
          subst e1
          obtain ⟨hin, h⟩ := h
          obtain ⟨-, h⟩ := q_set_eq _ _ _ _ h
          exact va_last hx hb hK hP hD hS p0 2 (q_cell hat) rfl hin hd (fun H1 locs1 hP1 hD1 hS1 => hk _ _ _ _ _ _ h hca hsl ad ls H1 locs1 (by rw [List.length_set]; exact hn0) had hlv (by rw [← q_cw_set]; exact hP1) (by rw [← q_cw_set]; exact hD1) hS1)
        · exact h.elim
      · exact h.elim
    · exact h.elim
  case bastore =>
    have hl9 : 1 = len := Nat.eq_of_beq_eq_true hil
    subst hl9
    intro hca hsl ad ls H locs hn0 had hlv hP hD hS
    split at h
    · next y x p0 st9 =>
      split at h
      · next kd n f hat =>
        split at h
        · next hbq =>
          have e1 := Nat.eq_of_beq_eq_true hbq
          subst e1
          obtain ⟨hin, h⟩ := h
          obtain ⟨-, h⟩ := q_set_eq _ _ _ _ h
          exact va_bast hx hb hK hP hD hS p0 0 (q_cell hat) rfl hin hd (fun H1 locs1 hP1 hD1 hS1 => hk _ _ _ _ _ _ h hca hsl ad ls H1 locs1 (by rw [List.length_set]; exact hn0) had hlv (by rw [← q_cw_set]; exact hP1) (by rw [← q_cw_set]; exact hD1) hS1)
        · split at h
          · next hbq =>
            have e1 := Nat.eq_of_beq_eq_true hbq
            subst e1
            obtain ⟨hin, h⟩ := h
            obtain ⟨-, h⟩ := q_set_eq _ _ _ _ h
            exact va_zast hx hb hK hP hD hS p0 3 (q_cell hat) rfl hin hd (fun H1 locs1 hP1 hD1 hS1 => hk _ _ _ _ _ _ h hca hsl ad ls H1 locs1 (by rw [List.length_set]; exact hn0) had hlv (by rw [← q_cw_set]; exact hP1) (by rw [← q_cw_set]; exact hD1) hS1)
          · exact h.elim
      · exact h.elim
    · exact h.elim
  case new i9 =>
    have hl9 : 3 = len := Nat.eq_of_beq_eq_true hil
    subst hl9
    intro hca hsl ad ls H locs hn0 had hlv hP hD hS
    split at h
    · next ci hv =>
      obtain ⟨hrm, h⟩ := h
      split at h
      · exact h.elim
      · next hvv =>
        simp only [Bool.and_eq_true] at hvv
        rw [q_ln_eq] at hvv
        obtain ⟨C, T, N, hc, hN, hcl, hin, hit⟩ := hE8 _ (q_lk_mem hv)
        dsimp only at hc hN
        subst hN
        obtain ⟨cw1, cw2, cw3⟩ := q_cls ci _ hc
        rw [← hRC, ← hRS] at hrm
        obtain ⟨n9, h, hn9⟩ := q_hdN_ok _ _ _ h
        have hn9 : n9 = aw.length := by rw [q_ln_eq] at hn9; exact q_ns_at hn9
        subst hn9
        obtain ⟨fs, h, hfl, hfv⟩ := q_dvs_ok _ 0 _ _ (fun j a ha => by rw [q_ns_at ha, Nat.zero_add]) h
        have h := q_sn_ok h
        have hfm : ∀ ad9 : Nat → Nat, fs.map (q_cv ad9 xd) = fs := by
          intro ad9
          apply List.ext_getElem?
          intro j
          rw [List.getElem?_map]
          rcases Nat.lt_or_ge j (q_cin ci) with hj | hj
          · have := hfv j hj
            rw [Nat.zero_add] at this
            rw [this.1]
            show some _ = some _
            rw [this.2]
          · rw [List.getElem?_eq_none (by omega)]; rfl
        refine va_new (ci := ci) (fs := fs) hx hb hts cw1 (q_fty ci) cw2 hown (hts _ hcl) (hts _ hin) (hts _ hit) hK hP hD hS hA hc (fun j hj => ?_) hrm.1 hrm.2 hd (fun q H1 hP1 hD1 hS1 => ?_)
        · have := (hfv j hj).1
          rw [Nat.zero_add] at this
          show _ = fs.getD j .null
          rw [List.getD_eq_getElem?_getD, this]
          rfl
        · obtain ⟨ad2, a1, a2, a3⟩ := q_grow (cy := cy) (ad := ad) (xd := xd) q hvv.2.2
          have e5 : q_cw cy ad2 xd 0 (aw ++ [.inr (ci, fs)]) = q_cw cy ad xd 0 aw ++ [(q, .inr (ci, fs))] := by
            rw [q_cw_app, a3, Nat.zero_add, a2]
            simp only [q_cE, hfm]
          have h6 := hk _ _ _ _ _ _ h hrm.1 hrm.2 ad2 ls H1 locs (by rw [List.length_append]; omega) (fun j hj => by rw [a1 j (by omega)]; exact had j hj) (by rw [q_vl_ok a1 hvv.1]; exact hlv) (by rw [e5]; exact hP1) (by rw [e5]; exact hD1) hS1
          rw [List.map_cons, q_vs_ok a1 hvv.2.1] at h6
          simp only [q_cv, a2] at h6
          exact h6
    · exact h.elim
  case newarray a9 =>
    have hl9 : 2 = len := Nat.eq_of_beq_eq_true hil
    subst hl9
    intro hca hsl ad ls H locs hn0 had hlv hP hD hS
    split at h
    · next x st9 =>
      obtain ⟨⟨hxt, ht9, hrm⟩, h⟩ := h
      split at h
      · exact h.elim
      · next hvv =>
        simp only [Bool.and_eq_true] at hvv
        rw [q_ln_eq] at hvv
        rw [← hRC, ← hRS] at hrm
        obtain ⟨n9, h, hn9⟩ := q_hdN_ok _ _ _ h
        have hn9 : n9 = aw.length := by rw [q_ln_eq] at hn9; exact q_ns_at hn9
        subst hn9
        have hx0 : ¬ x < 0 := by rw [hxt]; exact nI_pos (by omega)
        have hxc : x.toNatClampNeg = t := by rw [hxt]; exact nI_clamp (by omega)
        have fin : ∀ (kn : Nat) (ty : FieldType) (f9 : (Nat → Int32) ⊕ (Nat → Int64)) (g9 : (Nat → Int32) ⊕ (Nat → Int64) ⊕ (Nat → UInt32) ⊕ (Nat → UInt64) ⊕ (Nat → Option Nat)), newarray.typeOf a9 = ty → (q_tys cy)[kn]? = some (cy kn, ty) → (∀ cA : ClassId, vp_cell cA (t, g9) = arrV cA t (fun _ => defaultValue ty)) → (∀ ad9 : Nat → Nat, q_cE cy ad9 xd (.inl (kn, t, f9)) = .inl (cy kn, t, g9)) → t * componentBytes ty ≤ 536870912 → (∀ cA : ClassId, va_RA s cA ty → cA = cy kn) →
            k (pc + 2) lv (.ref aw.length :: st9) (aw ++ [.inl (kn, t, f9)]) (ca + 1) (sl + t) → W p l e R s m args below meth c H locs ca sl Q (F0 m pc ls ((.int x :: st9).map (q_cv ad xd))) := by
          intro kn ty f9 g9 hty hk1 hcell hcE hbytes hra h
          have harr : (Cond.arrayClass (newarray.typeOf a9)).before args s = true := hts _ (q_arr a9 ty kn hty hk1)
          refine va_newa (a0 := (t, g9)) hx hb harr hty hK hP hD hS hA hcell hx0 hxc hbytes hrm.1 hrm.2 hd (fun q cA H1 hK1 hP1 hD1 hS1 => ?_)
          have hcA : cA = cy kn := hra cA (hK1.2 4 (cA, ty) rfl).2
          subst hcA
          obtain ⟨ad2, a1, a2, a3⟩ := q_grow (cy := cy) (ad := ad) (xd := xd) q hvv.2.2
          have e5 : q_cw cy ad2 xd 0 (aw ++ [.inl (kn, t, f9)]) = q_cw cy ad xd 0 aw ++ [(q, .inl (cy kn, t, g9))] := by
            rw [q_cw_app, a3, Nat.zero_add, a2, hcE]
          have h6 := hk _ _ _ _ _ _ h hrm.1 hrm.2 ad2 ls H1 locs (by rw [List.length_append]; omega) (fun j hj => by rw [a1 j (by omega)]; exact had j hj) (by rw [q_vl_ok a1 hvv.1]; exact hlv) (by rw [e5]; exact hP1) (by rw [e5]; exact hD1) hS1
          rw [List.map_cons, q_vs_ok a1 hvv.2.1] at h6
          simp only [q_cv, a2] at h6
          exact h6
        have ra : ∀ (kn : Nat) (ty : FieldType), (q_tys cy)[kn]? = some (cy kn, ty) → (∀ U cA, va_RA U cA ty = (U.vm.findClass ("[" ++ ty.toString) = some cA)) → ∀ cA : ClassId, va_RA s cA ty → cA = cy kn := by
          intro kn ty hk1 hra cA h1
          have h2 := (hK.2 kn _ hk1).2
          rw [hra] at h1 h2
          exact Option.some.inj (h1.symm.trans h2)
        have hb8 : ∀ ty : FieldType, componentBytes ty ≤ 8 → t * componentBytes ty ≤ 536870912 := fun ty h8 => Nat.le_trans (Nat.mul_le_mul_left _ h8) (by omega)
        split at h
        · next hty => exact fin 0 .byte _ (.inl (fun _ => 0)) hty rfl (fun _ => rfl) (fun _ => rfl) (hb8 _ (by decide)) (ra 0 .byte rfl (fun _ _ => rfl)) (q_sn_ok h)
        · next hty => exact fin 1 .int _ (.inl (fun _ => 0)) hty rfl (fun _ => rfl) (fun _ => rfl) (hb8 _ (by decide)) (ra 1 .int rfl (fun _ _ => rfl)) (q_sn_ok h)
        · next hty => exact fin 2 .long _ (.inr (.inl (fun _ => 0))) hty rfl (fun _ => rfl) (fun _ => rfl) (hb8 _ (by decide)) (ra 2 .long rfl (fun _ _ => rfl)) (q_sn_ok h)
        · next hty => exact fin 3 .boolean _ (.inl (fun _ => 0)) hty rfl (fun _ => rfl) (fun _ => rfl) (hb8 _ (by decide)) (ra 3 .boolean rfl (fun _ _ => rfl)) (q_sn_ok h)
        · exact h.elim
    · exact h.elim
  case invokevirtual i9 =>
    have hl9 : 3 = len := Nat.eq_of_beq_eq_true hil
    subst hl9
    split at h
    · next cs hv =>
      obtain ⟨n, rc, d, mL, mc, ms, fd, sp⟩ := cs
      refine q_call_ok hcx hk ht (fun h1 h2 h3 => q_RV hcx (hE3 _ (q_lk_mem hv)) hd h1 h2 ?_) h
      simp only [Bool.or_eq_true] at h3
      rcases h3 with h3 | h3
      · exact Or.inl (Nat.le_of_ble_eq_true h3)
      · exact Or.inr (Nat.eq_of_beq_eq_true h3)
    · exact h.elim
  case invokestatic i9 =>
    have hl9 : 3 = len := Nat.eq_of_beq_eq_true hil
    subst hl9
    split at h
    · next e9 hv =>
      intro hca hsl ad ls H locs hn0 had hlv hP hD hS
      split at h
      · next y x st9 =>
        split at h
        · next hb9 =>
          simp only [Bool.and_eq_true] at hb9
          have hdp := Nat.le_of_ble_eq_true hb9.2
          have hct9 := Nat.le_of_ble_eq_true hb9.1
          have hcat : ((st9.map (q_cv ad xd)).map fun v => v.category).sum ≤ 8 := by rw [q_cats_eq]; exact hct9
          have hml9 : c.maxLocals = ls.size := by rw [hml]; exact hlv.1.symm
          split at h
          · next hb8 =>
            have e1 := Nat.eq_of_beq_eq_true hb8
            subst e1
            rcases hE7 _ (q_lk_mem hv) with ⟨h2, -⟩ | ⟨-, h2⟩ | ⟨h2, -⟩
            · simp at h2
            · exact va_mmax hx hb hml9 hown (hts _ h2) (hts _ q_mx1) (hts _ q_mi) (hts _ q_mx2) (by omega) (by omega) hca hsl hd (hk _ _ _ _ _ _ h hca hsl ad ls H locs hn0 had hlv hP hD hS)
            · simp at h2
          · split at h
            · next hb8 =>
              have e1 := Nat.eq_of_beq_eq_true hb8
              subst e1
              rcases hE7 _ (q_lk_mem hv) with ⟨h2, -⟩ | ⟨h2, -⟩ | ⟨-, h2⟩
              · simp at h2
              · simp at h2
              · exact va_mmin hx hb hml9 hown (hts _ h2) (hts _ q_mn1) (hts _ q_mi) (hts _ q_mn2) (by omega) (by omega) hca hsl hd (hk _ _ _ _ _ _ h hca hsl ad ls H locs hn0 had hlv hP hD hS)
            · exact h.elim
        · exact h.elim
      · exact h.elim
    · split at h
      · next cs hv =>
        obtain ⟨n, rc, d, mL, mc, ms, fd, sp⟩ := cs
        exact q_call_ok hcx hk ht (fun h1 h2 h3 => q_RS2 hcx (hE3 _ (q_lk_mem hv)) hd h1 h2 (Nat.eq_of_beq_eq_true h3)) h
      · exact h.elim
  case invokespecial i9 =>
    have hl9 : 3 = len := Nat.eq_of_beq_eq_true hil
    subst hl9
    split at h
    · next hoi =>
      simp only [Bool.and_eq_true] at hoi
      intro hca hsl ad ls H locs hn0 had hlv hP hD hS
      split at h
      · next p0 st9 =>
        split at h
        · next hb9 =>
          simp only [Bool.and_eq_true] at hb9
          have e1 := Nat.eq_of_beq_eq_true hoi.1
          have hdp := Nat.le_of_ble_eq_true hb9.2
          have hct9 := Nat.le_of_ble_eq_true hb9.1
          have hlk := hE9 (Nat.le_of_ble_eq_true hoi.2)
          rw [← e1] at hlk
          have hcat : ((st9.map (q_cv ad xd)).map fun v => v.category).sum ≤ 8 := by rw [q_cats_eq]; exact hct9
          refine W.objInit hx hb hown (hts _ hlk) (hts _ q_oi1) (hts _ q_oi2) (g := F0 m pc ls (.ref (ad p0) :: st9.map (q_cv ad xd))) rfl (by rw [hml]; exact hlv.1) rfl hd (by omega) ?_ ?_
          · show 2 * 0 + _ + 12 ≤ _
            omega
          · exact hk _ _ _ _ _ _ h hca hsl ad ls H locs hn0 had hlv hP hD hS
        · exact h.elim
      · exact h.elim
    · split at h
      · next cs hv =>
        obtain ⟨n, rc, d, mL, mc, ms, fd, sp⟩ := cs
        exact q_call_ok hcx hk ht (fun h1 h2 h3 => q_RI2 hcx (hE3 _ (q_lk_mem hv)) hd h1 h2 (Nat.eq_of_beq_eq_true h3)) h
      · exact h.elim
  case ireturn =>
    have hl9 : 1 = len := Nat.eq_of_beq_eq_true hil
    subst hl9
    split at h
    · split at h
      · next ht9 => exact hr.1 _ _ _ _ _ _ _ hd ht9 rfl h
      · next ht9 => exact hr.1 _ _ _ _ _ _ _ hd ht9 h.1 h.2
      · next ht9 => exact hr.1 _ _ _ _ _ _ _ hd ht9 h.1 h.2
      · next ht9 => exact hr.1 _ _ _ _ _ _ _ hd ht9 h.1 h.2
      · exact h.elim
    · exact h.elim
  case lreturn =>
    have hl9 : 1 = len := Nat.eq_of_beq_eq_true hil
    subst hl9
    split at h
    · split at h
      · next ht9 => exact hr.2.1 _ _ _ _ _ _ hd ht9 h
      · exact h.elim
    · exact h.elim
  case areturn =>
    have hl9 : 1 = len := Nat.eq_of_beq_eq_true hil
    subst hl9
    split at h
    · split at h
      · next ht9 => exact hr.2.2.1 _ _ _ _ _ _ _ hd ht9 h
      · exact h.elim
    · exact h.elim
  case return_ =>
    have hl9 : 1 = len := Nat.eq_of_beq_eq_true hil
    subst hl9
    split at h
    · split at h
      · next ht9 => exact hr.2.2.2 _ _ _ _ _ hd ht9 h
      · exact h.elim
    · exact h.elim
  case athrow =>
    have hl9 : 1 = len := Nat.eq_of_beq_eq_true hil
    subst hl9
    split at h
    · next v st9 =>
      obtain ⟨p0, rfl, hX⟩ := ht _ _ _ _ _ _ h
      intro hca hsl ad ls H locs hn0 had hlv hP hD hS
      exact q_athrow hx hb hd (hX hca hsl ad ls (st9.map (q_cv ad xd)) H locs hn0 had hlv hP hD hS)
    · exact h.elim
end QU
end
section
/-! ===== a method out of its run ===== -/
theorem q_sk_mem {pc : Nat} : ∀ {l : List q_I}, ∀ x ∈ q_sk pc l, x ∈ l
  | [], x, h => by simp [q_sk] at h
  | (q, r) :: l, x, h => by
    rw [q_sk] at h
    split at h
    · exact h
    · exact List.mem_cons_of_mem _ (q_sk_mem x h)
theorem q_sk_hd {pc : Nat} : ∀ {l : List q_I} {q : Nat} {r : Instr × Nat × Int32 × Nat} {l' : List q_I}, q_sk pc l = (q, r) :: l' → q = pc
  | [], q, r, l', h => by simp [q_sk] at h
  | (a, b) :: l, q, r, l', h => by
    rw [q_sk] at h
    split at h
    · next hb => cases h; exact Nat.eq_of_beq_eq_true hb
    · exact q_sk_hd h
theorem q_nx_mem {E : q_E} {pc : Nat} {l : List q_I} (hl : ∀ x ∈ l, x ∈ q_code E) : ∀ x ∈ q_nx E pc l, x ∈ q_code E := by
  intro x hx
  unfold q_nx at hx
  split at hx
  · exact q_sk_mem x hx
  · split at hx
    · exact hl x hx
    · exact q_sk_mem x hx
theorem q_nx_hd {E : q_E} {pc : Nat} {l : List q_I} {q : Nat} {r : Instr × Nat × Int32 × Nat} {l' : List q_I} (h : q_nx E pc l = (q, r) :: l') : q = pc := by
  unfold q_nx at h
  split at h
  · exact q_sk_hd h
  · split at h
    · next hb => cases h; exact Nat.eq_of_beq_eq_true hb
    · exact q_sk_hd h
section QV
variable {p : Program} {l : Launch} {e : Env} {R : Room} {s : State} {m : MethodId} {args : Array Value} {below : List Frame} {meth : Method} {c : Code} {own : String} {cc : ByteArray} {D : va_G} {cy : Nat → ClassId} {xd xv : Nat → Nat} {A : Nat → Prop} {n0 : Nat} {ad0 : Nat → Nat} {Q : State → Prop} {E : q_E}
/-- throws: caught here, or gone on with -/
def q_Th (p : Program) (l : Launch) (e : Env) (R : Room) (s : State) (m : MethodId) (args : Array Value) (below : List Frame) (meth : Method) (c : Code) (D : va_G) (cy : Nat → ClassId) (xd : Nat → Nat) (A : Nat → Prop) (n0 : Nat) (ad0 : Nat → Nat) (E : q_E) (Q : State → Prop) (z : q_K) : Prop :=
  (∀ (pc p0 : Nat) (fs : List Value) (lv : q_L) (aw : List q_C) (ca sl : Nat), aw[p0]? = some (.inr (13, fs)) → q_hd pc (q_hs E) = none → z (.inr (.ref p0)) aw → q_X p l e R s m args below meth c D cy xd A n0 ad0 (q_nL E) Q pc p0 lv aw ca sl) ∧
  (∀ (pc p0 h : Nat) (fs : List Value) (lv : q_L) (aw : List q_C) (ca sl : Nat), aw[p0]? = some (.inr (13, fs)) → q_hd pc (q_hs E) = some (h, 13) → q_W p l e R s m args below meth c D cy xd A n0 ad0 (q_nL E) Q h lv [.ref p0] aw ca sl → q_X p l e R s m args below meth c D cy xd A n0 ad0 (q_nL E) Q pc p0 lv aw ca sl)
theorem q_thr_ok {k : q_N} {z : q_K} (hk : ∀ pc lv st aw ca sl, k pc lv st aw ca sl → q_W p l e R s m args below meth c D cy xd A n0 ad0 (q_nL E) Q pc lv st aw ca sl) (hT : q_Th p l e R s m args below meth c D cy xd A n0 ad0 E Q z) :
    ∀ pc v lv aw ca sl, q_thr E pc v lv aw ca sl k z → ∃ p0, v = .ref p0 ∧ q_X p l e R s m args below meth c D cy xd A n0 ad0 (q_nL E) Q pc p0 lv aw ca sl := by
  intro pc v lv aw ca sl h
  unfold q_thr at h
  split at h
  · next p0 =>
    split at h
    · next ci fs hat =>
      rw [q_at_eq] at hat
      split at h
      · exact h.elim
      · next hb =>
        have e1 := Nat.eq_of_beq_eq_true hb
        subst e1
        split at h
        · next hh => exact ⟨p0, rfl, hT.1 pc p0 fs lv aw ca sl hat hh h⟩
        · next h9 cj hh =>
          split at h
          · next hb2 =>
            have e2 := Nat.eq_of_beq_eq_true hb2
            subst e2
            exact ⟨p0, rfl, hT.2 pc p0 h9 fs lv aw ca sl hat hh (hk _ _ _ _ _ _ h)⟩
          · exact h.elim
    · exact h.elim
  · exact h.elim
theorem q_weak {pc : Nat} {lv lv' : q_L} {st : List Value} {aw : List q_C} {ca sl : Nat} (hm : ∀ q ∈ lv', q ∈ lv) (h : q_W p l e R s m args below meth c D cy xd A n0 ad0 (q_nL E) Q pc lv' st aw ca sl) : q_W p l e R s m args below meth c D cy xd A n0 ad0 (q_nL E) Q pc lv st aw ca sl := by
  intro hca hsl ad ls H locs hn0 had hlv hP hD hS
  refine h hca hsl ad ls H locs hn0 had ⟨hlv.1, hlv.2.1, fun q hq => ?_⟩ hP hD hS
  obtain ⟨q0, h0, rfl⟩ := List.mem_map.mp hq
  exact hlv.2.2 _ (List.mem_map.mpr ⟨q0, hm q0 h0, rfl⟩)
theorem q_run_ok (hC : q_Cx p l s m args meth c R own cc D cy xd xv A E) {z : q_K} (hT : q_Th p l e R s m args below meth c D cy xd A n0 ad0 E Q z) (hr : q_Rt p l e R s m args below meth c cc D cy xd A n0 ad0 E Q z) :
    ∀ (n : Nat) (L : List q_I) (pc : Nat) (r : Instr × Nat × Int32 × Nat) (L' : List q_I) (lv : q_L) (st : List Value) (aw : List q_C) (ca sl : Nat), (∀ x ∈ L, x ∈ q_code E) → L = (pc, r) :: L' → q_run E (q_W p l e R s m args below meth c D cy xd A n0 ad0 (q_nL E) Q) z n L lv st aw ca sl → q_W p l e R s m args below meth c D cy xd A n0 ad0 (q_nL E) Q pc lv st aw ca sl := by
  intro n
  induction n with
  | zero => intro L pc r L' lv st aw ca sl _ _ h; exact (h : False).elim
  | succ n ih =>
    intro L pc r L' lv st aw ca sl hL hLe h
    subst hLe
    obtain ⟨i, len, cn, t⟩ := r
    have hok : q_okI cc (pc, i, len, cn, t) = true := List.all_eq_true.mp hC.2.2.2.2.2.2.2.2.2.2.2.1 _ (hL _ List.mem_cons_self)
    have hk : ∀ pc' lv' st' aw' ca' sl', (match q_lk pc' (q_cuts E) with
        | some live => q_pk lv' live (fun lv'' => q_W p l e R s m args below meth c D cy xd A n0 ad0 (q_nL E) Q pc' lv'' st' aw' ca' sl')
        | none => q_run E (q_W p l e R s m args below meth c D cy xd A n0 ad0 (q_nL E) Q) z n (q_nx E pc' L') lv' st' aw' ca' sl') → q_W p l e R s m args below meth c D cy xd A n0 ad0 (q_nL E) Q pc' lv' st' aw' ca' sl' := by
      intro pc' lv' st' aw' ca' sl' h
      split at h
      · obtain ⟨l', h1, h2⟩ := q_pk_ok _ _ _ h
        exact q_weak h2 h1
      · cases hx : q_nx E pc' L' with
        | nil =>
          rw [hx] at h
          cases n with
          | zero => exact (h : False).elim
          | succ n => exact (h : False).elim
        | cons a L2 =>
          obtain ⟨pc2, r2⟩ := a
          have e1 := q_nx_hd hx
          subst e1
          exact ih _ _ r2 L2 lv' st' aw' ca' sl' (q_nx_mem (fun x hx => hL x (List.mem_cons_of_mem _ hx))) hx h
    exact q_step_ok hC hk (q_thr_ok hk hT) hr hok h
theorem q_go_ok (hC : q_Cx p l s m args meth c R own cc D cy xd xv A E) {z : q_K} (hT : q_Th p l e R s m args below meth c D cy xd A n0 ad0 E Q z) (hr : q_Rt p l e R s m args below meth c cc D cy xd A n0 ad0 E Q z) :
    ∀ pc lv st aw ca sl, q_go E (q_W p l e R s m args below meth c D cy xd A n0 ad0 (q_nL E) Q) z pc lv st aw ca sl → q_W p l e R s m args below meth c D cy xd A n0 ad0 (q_nL E) Q pc lv st aw ca sl := by
  intro pc lv st aw ca sl h
  unfold q_go at h
  cases hx : q_sk pc (q_code E) with
  | nil => rw [hx] at h; exact (h : False).elim
  | cons a L2 =>
    obtain ⟨pc2, r2⟩ := a
    have e1 := q_sk_hd hx
    subst e1
    exact q_run_ok hC hT hr _ _ _ r2 L2 lv st aw ca sl (fun x hx => q_sk_mem x hx) hx h
end QV
end
section
/-! ===== a contract out of a run ===== -/
theorem q_nil {α : Type} {P : α → Prop} : ∀ x ∈ ([] : List α), P x := fun _ h => nomatch h
theorem q_args {ad xd : Nat → Nat} : ∀ (a : List Value) (i : Nat), lv_args i (a.map (q_cv ad xd)) = (lv_args i a).map (q_cp ad xd)
  | [], i => rfl
  | v :: a, i => by
    rw [List.map_cons, lv_args, lv_args, List.map_cons, q_cv_cat, q_args a]
    rfl
theorem q_sl_len : ∀ (a : List Value), (lg_sl a).length = q_cats a
  | [] => rfl
  | v :: a => by
    have h := q_sl_len a
    unfold lg_sl at h ⊢
    rw [List.flatMap_cons, List.length_append, h, q_cats]
    rcases lv_cat v with z | z
    · rw [z]; rfl
    · rw [z]; rfl
theorem q_cats_map {ad xd : Nat → Nat} : ∀ (a : List Value), q_cats (a.map (q_cv ad xd)) = q_cats a
  | [] => rfl
  | v :: a => by rw [List.map_cons, q_cats, q_cats, q_cv_cat, q_cats_map a]
section QB
variable {p : Program} {l : Launch} {e : Env} {R : Room} {s : State} {m : MethodId} {args : Array Value} {below : List Frame} {meth : Method} {c : Code} {own : String} {cc : ByteArray} {D : va_G} {cy : Nat → ClassId} {xd xv : Nat → Nat} {A : Nat → Prop} {n0 : Nat} {ad0 : Nat → Nat} {E : q_E}
theorem q_Rt_of {K : q_K} {mc ms : Nat} (hx : p.tables.exec = Jvm.exec) (hb : c.code = cc) (hr : meth.sig.returnType = q_rt E) (hlk : meth.locks = false) (hRC : R.cells = mc) (hRS : R.slots = ms) :
    q_Rt p l e R s m args below meth c cc D cy xd A n0 ad0 E (qx_MQ below (q_Qc D cy ad0 xd n0 K A) (q_XC D cy ad0 xd n0 K A) args s mc ms A) K := by
  have fin : ∀ (r : Option Value) (pc : Nat) (lv : q_L) (st : List Value) (aw : List q_C) (ca sl : Nat), K (.inl r) aw →
      (∀ (ad : Nat → Nat) (ls : Array Slot) (H : Heap) (locs : List Loc), (∀ t : State, t.heap = H → s.WarmedH t.vm → q_Qc D cy ad0 xd n0 K A args s (.returned (r.map (q_cv ad xd))) t) → (∀ q ∈ locs, A q.base) → W p l e R s m args below meth c H locs mc ms (MQ below (q_Qc D cy ad0 xd n0 K A) args s mc ms A) (F0 m pc ls (st.map (q_cv ad xd)))) →
      q_W p l e R s m args below meth c D cy xd A n0 ad0 (q_nL E) (qx_MQ below (q_Qc D cy ad0 xd n0 K A) (q_XC D cy ad0 xd n0 K A) args s mc ms A) pc lv st aw ca sl := by
    intro r pc lv st aw ca sl hz hW hca hsl ad ls H locs hn0 had hlv hP hD hS
    refine W.widen (k := mc) (n := ms) (by rw [← hRC]; exact hca) (by rw [← hRS]; exact hsl) (qx_ret (hW ad ls H locs (fun t ht hWt => ?_) hS.2.2))
    exact ⟨⟨r, aw, ad, rfl, hz, had, by rw [ht]; exact hP, hD⟩, hS.F ht⟩
  refine ⟨fun pc lv x ty aw ca sl hd hrt hn hz => ?_, fun pc lv x aw ca sl hd hrt hz => ?_, fun pc lv x t aw ca sl hd hrt hz => ?_, fun pc lv aw ca sl hd hrt hz => ?_⟩
  · exact fin _ _ _ _ _ _ _ hz (fun ad ls H locs hq hf => W.zret hx hb (hr.trans hrt) hn hq hf hd)
  · exact fin _ _ _ _ _ _ _ hz (fun ad ls H locs hq hf => W.lret hx hb (hr.trans hrt) hq hf hd)
  · exact fin _ _ _ _ _ _ _ hz (fun ad ls H locs hq hf => W.aret hx hb (hr.trans hrt) (Or.inl ⟨t, rfl⟩) (Or.inr ⟨_, rfl⟩) hq hf hd)
  · exact fin _ _ _ _ _ _ _ hz (fun ad ls H locs hq hf => W.vret hx hb (hr.trans hrt) hq hf hd)
theorem q_Stop {H : Heap} {aw : List q_C} {ad : Nat → Nat} {p0 : Nat} {fs : List Value} (hK : va_K D vwCl (q_tys cy) s) (hP : va_P D vwCl (q_cw cy ad xd 0 aw) H) (h0 : aw[p0]? = some (.inr (13, fs))) : ∃ ce : Cell, H[ad p0]? = some ce ∧ ce.vm = .none ∧ s.vm.findClass RX13 = some ce.cls := by
  obtain ⟨r, h1, cell, q1, q2, q3, q4⟩ := hP p0 (ad p0, q_cE cy ad xd (.inr (13, fs))) (by rw [q_cw_get, h0, Nat.zero_add]; rfl)
  have hr : r = (RX13, TX13, 8) := Option.some.inj (h1.symm.trans rfl)
  subst hr
  obtain ⟨hS, hfc, -⟩ := hK.1 13 (RX13, TX13, 8) rfl
  exact ⟨cell, q1, q3, by rw [q2]; exact hfc⟩
/-- no handler here: what is thrown goes on -/
theorem q_Th_of {K : q_K} {mc ms : Nat} (hK : va_K D vwCl (q_tys cy) s) (hlk : meth.locks = false) (hno : ∀ x ∈ c.exceptionTable.toList, False) (hhs : q_hs E = []) (hRC : R.cells = mc) (hRS : R.slots = ms) :
    q_Th p l e R s m args below meth c D cy xd A n0 ad0 E (qx_MQ below (q_Qc D cy ad0 xd n0 K A) (q_XC D cy ad0 xd n0 K A) args s mc ms A) K := by
  refine ⟨fun pc p0 fs lv aw ca sl h0 hh hz hca hsl ad ls rest H locs hn0 had hlv hP hD hS => ?_, fun pc p0 h fs lv aw ca sl h0 hh => ?_⟩
  · obtain ⟨ce, c1, c2, c3⟩ := q_Stop hK hP h0
    exact qx_out (fun x hx => (hno x hx).elim) hlk c1 c2 c3 (fun t ht hvm => ⟨⟨rfl, p0, fs, aw, ad, rfl, h0, hz, had, by rw [ht]; exact hP, hD⟩, hS.F ht⟩) hS.2.2 (by rw [← hRC]; exact hca) (by rw [← hRS]; exact hsl)
  · rw [hhs] at hh
    cases hh
end QB
/-- THE WAY TO A CONTRACT: the run of the method's code, for every spec's continuation -/
theorem q_ct_of {l : Launch} {y : MethodName} {cc : ByteArray} {maxL : Nat} {ret : Option FieldType} {d mc ms : Nat} {sp : q_P} (E : q_E) (hy : plainName y.cls = true) (hE : q_Eok l y.cls cc E) (hnL : q_nL E = maxL) (hrt : q_rt E = ret) (hdp : q_dp E = d) (hRC : q_RC E = mc) (hRS : q_RS E = ms)
    (hct : ∀ x ∈ q_ct E, x = (44, 4, q_ROOM)) (hin : ∀ ci, q_in E = ci + 1 → y.name = "<init>" ∧ (vwCl[ci]?).map (fun q => q.1) = some y.cls) (hhs : q_hs E = [])
    (body : ∀ (a : List Value) (w : List q_C) (K : q_K), sp a w K → q_cats a ≤ maxL ∧ ∀ C : q_N, (∀ pc lv st aw ca sl, q_go E C K pc lv st aw ca sl → C pc lv st aw ca sl) → C 0 (lv_args 0 a) [] w 0 0) :
    q_CT l y (.code y cc maxL ret) d mc ms sp := by
  intro D cy ad xd xv a w K sz hsp
  obtain ⟨hcat, body⟩ := body a w K hsp
  refine qx_ofW (cc := cc) (maxL := maxL) (ret := ret) hy rfl ?_
  intro p e s m args below meth c s₁ B hml hno hv
  obtain ⟨rfl, hsz, hP, hK, hD0, hamb⟩ := hv
  have hts0 := atoms_spec (ws := Cond.code y cc maxL ret :: q_G) B.pre
  have hts : ∀ w ∈ q_G, w.before (a.map (q_cv ad xd)).toArray s = true := fun w hw => hts0 w (List.mem_cons_of_mem _ hw)
  have hown : s.vm.findClass y.cls = some m.cls := findClass_of_methodNamed B.named
  subst hsz
  have hD := hD0.self (sz := s.heap.size)
  have hA : ∀ q : Nat, s.heap.size ≤ q → va_A (q_cw cy ad xd 0 w) s.heap.size q := fun q h => Or.inr h
  have hS : va_S (va_A (q_cw cy ad xd 0 w) s.heap.size) s.heap s.heap [] := va_S.rf
  have hcx : q_Cx p l s m (a.map (q_cv ad xd)).toArray meth c (q_rm d mc ms) y.cls cc D cy xd xv (va_A (q_cw cy ad xd 0 w) s.heap.size) E :=
    ⟨B.exec, B.bytes, hml.trans hnL.symm, hown, hts, hK, hA, fun x hx => by rw [hct x hx]; exact hamb.2.2.1, hamb, fun ci hci => ⟨(name_of_methodNamed B.named B.method).1.trans (hin ci hci).1, (hin ci hci).2⟩, ⟨by rw [hdp]; exact Nat.le_refl _, by rw [hdp]; exact Nat.le_refl _, hRC.symm, hRS.symm⟩, hE⟩
  have hgo := q_go_ok (e := e) (below := below) (n0 := w.length) (ad0 := ad) hcx (z := K) (Q := qx_MQ below (q_Qc D cy ad xd w.length K (va_A (q_cw cy ad xd 0 w) s.heap.size)) (q_XC D cy ad xd w.length K (va_A (q_cw cy ad xd 0 w) s.heap.size)) (a.map (q_cv ad xd)).toArray s mc ms (va_A (q_cw cy ad xd 0 w) s.heap.size)) (q_Th_of hK B.notSynchronized hno hhs rfl rfl) (q_Rt_of B.exec B.bytes (B.returns.trans hrt.symm) B.notSynchronized rfl rfl)
  have h9 := body _ hgo (Nat.zero_le _) (Nat.zero_le _) ad
  have hlen : (lg_sl (a.map (q_cv ad xd))).length ≤ maxL := by rw [q_sl_len, q_cats_map]; exact hcat
  have hl := lv_entry (a.map (q_cv ad xd)) (n := maxL) hlen
  rw [lg_entry_eq]
  refine h9 _ s.heap [] (Nat.le_refl _) (fun _ _ => rfl) ?_ hP hD hS
  rw [hnL, ← q_args]
  exact hl
end
section
/-! ===== pure words ===== -/
def bI (b : Bool) : Int32 := match b with
  | true => 1
  | false => 0
theorem bI_0 {b : Bool} : bI b = 0 ↔ b = false := by cases b <;> simp [bI]
theorem bI_n0 {b : Bool} : ¬ bI b = 0 ↔ b = true := by cases b <;> simp [bI]
theorem bI_nar (b : Bool) : narrow .boolean (.int (bI b)) = .int (bI b) := by cases b <;> rfl
theorem bI_vnar (b : Bool) : vp_nar .boolean (bI b) = bI b := by cases b <;> rfl
theorem bI_t {c : Prop} [Decidable c] (h : c) : bI (decide c) = 1 := by rw [decide_eq_true h]; rfl
theorem bI_f {c : Prop} [Decidable c] (h : ¬ c) : bI (decide c) = 0 := by rw [decide_eq_false h]; rfl
theorem nI_dec (i : Nat) : nI (i + 1) + (-1) = nI i := pk_m1 i
theorem nI_nneg {i : Nat} (h : i < 2 ^ 31) : ¬ nI i < 0 := nI_pos h
theorem nI_m1 : nI 0 - 1 = -1 := by decide
def rulO (P : Nat → Bool) : Nat → Option Nat
  | 0 => none
  | i + 1 => if P i then some i else rulO P i
def oI (r : Option Nat) : Int32 := match r with
  | none => -1
  | some i => nI i
theorem rulO_lt {P : Nat → Bool} : ∀ {n i : Nat}, rulO P n = some i → i < n
  | 0, i, h => by simp [rulO] at h
  | n + 1, i, h => by
    rw [rulO] at h
    split at h
    · cases h; omega
    · have := rulO_lt h; omega
/-- land, kind, office, accepting, since, until, known, count -/
abbrev LT : Type := (Nat → Int32) × (Nat → Int32) × (Nat → Int32) × (Nat → Int32) × (Nat → Int32) × (Nat → Int32) × (Nat → Int32) × Nat
abbrev L_n (L : LT) : Nat := L.2.2.2.2.2.2.2
def lawsW (o : Nat) (L : LT) : List q_C := [.inr (3, [.ref (o + 1), .ref (o + 2), .ref (o + 3), .ref (o + 4), .ref (o + 5), .ref (o + 6), .ref (o + 7), .int (nI L.2.2.2.2.2.2.2)]), .inl (1, 24, .inl L.1), .inl (1, 24, .inl L.2.1), .inl (1, 24, .inl L.2.2.1), .inl (3, 24, .inl L.2.2.2.1), .inl (1, 24, .inl L.2.2.2.2.1), .inl (1, 24, .inl L.2.2.2.2.2.1), .inl (1, 24, .inl L.2.2.2.2.2.2.1)]
def rulP (L : LT) (a b c d e : Int32) (i : Nat) : Bool := decide (L.1 i = a) && (decide (L.2.1 i = b) && (decide (L.2.2.1 i = c) && (decide (L.2.2.2.2.1 i ≤ d) && (decide (d ≤ L.2.2.2.2.2.1 i) && decide (L.2.2.2.2.2.2.1 i ≤ e)))))
def ruling (L : LT) (a b c d e : Int32) : Option Nat := rulO (rulP L a b c d e) (L_n L)
def saysT (L : LT) (r : Option Nat) : Bool := match r with
  | none => false
  | some i => decide (¬ L.2.2.2.1 i = 0)
def accOn (L : LT) (day land kind office : Int32) : Bool := saysT L (ruling L land kind office day day)
def soon (s c b : Int32) : Int32 := if b < c ∧ c < s then c else s
def chgF (L : LT) (day land kind : Int32) : Nat → Int32
  | 0 => 1000000
  | i + 1 => if L.1 i = land ∧ L.2.1 i = kind then soon (soon (soon (chgF L day land kind i) (L.2.2.2.2.1 i) day) (L.2.2.2.2.2.1 i + 1) day) (L.2.2.2.2.2.2.1 i) day else chgF L day land kind i

def tX3_hasRoom : List q_I := [(0, .aload_n 0, 1, 0, 0), (1, .getfield 34, 3, 0, 0), (4, .bipush 24, 2, 24, 0), (6, .if_icmp .ge 7, 3, 0, 13), (9, .iconst 1, 1, 1, 0), (10, .goto 4, 3, 0, 14), (13, .iconst 0, 1, 0, 0), (14, .ireturn, 1, 0, 0)]
theorem tX3_hasRoom_ok : (tX3_hasRoom.all (q_okI cX3_hasRoom)) = true := by decide +kernel

abbrev fdX3_hasRoom : List (Nat ⊕ (Nat × Nat)) := [.inl 0, .inr (0, 0), .inr (0, 1), .inr (0, 2), .inr (0, 3), .inr (0, 4), .inr (0, 5), .inr (0, 6)]
def spX3_hasRoom : q_P := fun a w K => ∃ L : LT, w = lawsW 0 L ∧ a = [.ref 0] ∧ L_n L ≤ 24 ∧ K (.inl (some (.int (bI (decide (L_n L < 24)))))) (lawsW 0 L)
abbrev csX3_hasRoom : q_S := (1, 3, 0, 1, 0, 0, fdX3_hasRoom, spX3_hasRoom)
def EX3_hasRoom : q_E := (tX3_hasRoom, [], 1, flX3, [], [], [], [], [], [], 0, 0, 0, (some .boolean), [], [], 0, 0)
theorem okX3_hasRoom (l : Launch) : q_Eok l RX3 cX3_hasRoom EX3_hasRoom := ⟨tX3_hasRoom_ok, flX3_ok, q_nil, q_nil, q_nil, q_nil, q_nil, q_nil, (fun h => absurd h (by decide))⟩
set_option maxRecDepth 100000 in
set_option maxHeartbeats 4000000 in
theorem ctX3_hasRoom (l : Launch) : q_CT l yX3_hasRoom (.code yX3_hasRoom cX3_hasRoom 1 (some .boolean)) 0 0 0 spX3_hasRoom := by
  refine q_ct_of EX3_hasRoom (by decide +kernel) (okX3_hasRoom l) rfl rfl rfl rfl rfl q_nil (fun ci h => by cases h) rfl ?_
  intro a w K h
  obtain ⟨L, rfl, rfl, hn, hK⟩ := h
  refine ⟨Nat.le_of_ble_eq_true rfl, fun C hC => hC _ _ _ _ _ _ ?_⟩
  refine And.intro (fun c => ⟨rfl, ?_⟩) (fun c => ⟨rfl, ?_⟩)
  · rw [bI_f (fun z => nI_ge (a := L_n L) (b := 24) z (by omega) c)] at hK; exact hK
  · rw [bI_t (by rcases Nat.lt_or_ge (L_n L) 24 with z | z; exact z; exact absurd (nI_le (b := L_n L) z (by omega)) c)] at hK; exact hK
def tX3_add : List q_I := [(0, .aload_n 0, 1, 0, 0), (1, .getfield 11, 3, 0, 0), (4, .aload_n 0, 1, 0, 0), (5, .getfield 34, 3, 0, 0), (8, .iload_n 1, 1, 0, 0), (9, .iastore, 1, 0, 0), (10, .aload_n 0, 1, 0, 0), (11, .getfield 15, 3, 0, 0), (14, .aload_n 0, 1, 0, 0), (15, .getfield 34, 3, 0, 0), (18, .iload_n 2, 1, 0, 0), (19, .iastore, 1, 0, 0), (20, .aload_n 0, 1, 0, 0), (21, .getfield 18, 3, 0, 0), (24, .aload_n 0, 1, 0, 0), (25, .getfield 34, 3, 0, 0), (28, .iload_n 3, 1, 0, 0), (29, .iastore, 1, 0, 0), (30, .aload_n 0, 1, 0, 0), (31, .getfield 21, 3, 0, 0), (34, .aload_n 0, 1, 0, 0), (35, .getfield 34, 3, 0, 0), (38, .iload 4, 2, 0, 0), (40, .bastore, 1, 0, 0), (41, .aload_n 0, 1, 0, 0), (42, .getfield 25, 3, 0, 0), (45, .aload_n 0, 1, 0, 0), (46, .getfield 34, 3, 0, 0), (49, .iload 5, 2, 0, 0), (51, .iastore, 1, 0, 0), (52, .aload_n 0, 1, 0, 0), (53, .getfield 28, 3, 0, 0), (56, .aload_n 0, 1, 0, 0), (57, .getfield 34, 3, 0, 0), (60, .iload 6, 2, 0, 0), (62, .iastore, 1, 0, 0), (63, .aload_n 0, 1, 0, 0), (64, .getfield 31, 3, 0, 0), (67, .aload_n 0, 1, 0, 0), (68, .getfield 34, 3, 0, 0), (71, .iload 7, 2, 0, 0), (73, .iastore, 1, 0, 0), (74, .aload_n 0, 1, 0, 0), (75, .dup, 1, 0, 0), (76, .getfield 34, 3, 0, 0), (79, .iconst 1, 1, 1, 0), (80, .iadd, 1, 0, 0), (81, .putfield 34, 3, 0, 0), (84, .return_, 1, 0, 0)]
theorem tX3_add_ok : (tX3_add.all (q_okI cX3_add)) = true := by decide +kernel

abbrev fdX3_add : List (Nat ⊕ (Nat × Nat)) := [.inl 0, .inr (0, 0), .inr (0, 1), .inr (0, 2), .inr (0, 3), .inr (0, 4), .inr (0, 5), .inr (0, 6)]
def lawAdd (L : LT) (a b c : Int32) (t : Bool) (s u k : Int32) : LT := (upd L.1 (L_n L) a, upd L.2.1 (L_n L) b, upd L.2.2.1 (L_n L) c, upd L.2.2.2.1 (L_n L) (bI t), upd L.2.2.2.2.1 (L_n L) s, upd L.2.2.2.2.2.1 (L_n L) u, upd L.2.2.2.2.2.2.1 (L_n L) k, L_n L + 1)
def spX3_add : q_P := fun a w K => ∃ (L : LT) (x y v : Int32) (t : Bool) (s u k : Int32), w = lawsW 0 L ∧ a = [.ref 0, .int x, .int y, .int v, .int (bI t), .int s, .int u, .int k] ∧ L_n L < 24 ∧ K (.inl none) (lawsW 0 (lawAdd L x y v t s u k))
abbrev csX3_add : q_S := (8, 3, 0, 8, 0, 0, fdX3_add, spX3_add)
def EX3_add : q_E := (tX3_add, [], 8, flX3, [], [], [], [], [], [], 0, 0, 0, none, [], [], 0, 0)
theorem okX3_add (l : Launch) : q_Eok l RX3 cX3_add EX3_add := ⟨tX3_add_ok, flX3_ok, q_nil, q_nil, q_nil, q_nil, q_nil, q_nil, (fun h => absurd h (by decide))⟩
set_option maxRecDepth 100000 in
set_option maxHeartbeats 4000000 in
theorem ctX3_add (l : Launch) : q_CT l yX3_add (.code yX3_add cX3_add 8 none) 0 0 0 spX3_add := by
  refine q_ct_of EX3_add (by decide +kernel) (okX3_add l) rfl rfl rfl rfl rfl q_nil (fun ci h => by cases h) rfl ?_
  intro a w K h
  obtain ⟨L, x, y, v, t, s, u, k, rfl, rfl, hn, hK⟩ := h
  refine ⟨Nat.le_refl _, fun C hC => hC _ _ _ _ _ _ ?_⟩
  have hv : vp_in (nI (L_n L)) 24 := vp_in_nI hn (by omega)
  have hc : (nI (L_n L)).toNatClampNeg = L_n L := nI_clamp (by omega)
  refine ⟨hv, hv, hv, hv, hv, hv, hv, ?_⟩
  show K (.inl none) _
  simp only [L_n] at hc
  simp only [hc, bI_vnar, nI_1]
  exact hK
def tX3_ruling : List q_I := [(0, .aload_n 0, 1, 0, 0), (1, .getfield 34, 3, 0, 0), (4, .iconst 1, 1, 1, 0), (5, .isub, 1, 0, 0), (6, .istore 6, 2, 0, 0), (8, .iload 6, 2, 0, 0), (10, .ifCond .lt 81, 3, 0, 91), (13, .aload_n 0, 1, 0, 0), (14, .getfield 11, 3, 0, 0), (17, .iload 6, 2, 0, 0), (19, .iaload, 1, 0, 0), (20, .iload_n 1, 1, 0, 0), (21, .if_icmp .ne 64, 3, 0, 85), (24, .aload_n 0, 1, 0, 0), (25, .getfield 15, 3, 0, 0), (28, .iload 6, 2, 0, 0), (30, .iaload, 1, 0, 0), (31, .iload_n 2, 1, 0, 0), (32, .if_icmp .ne 53, 3, 0, 85), (35, .aload_n 0, 1, 0, 0), (36, .getfield 18, 3, 0, 0), (39, .iload 6, 2, 0, 0), (41, .iaload, 1, 0, 0), (42, .iload_n 3, 1, 0, 0), (43, .if_icmp .ne 42, 3, 0, 85), (46, .aload_n 0, 1, 0, 0), (47, .getfield 25, 3, 0, 0), (50, .iload 6, 2, 0, 0), (52, .iaload, 1, 0, 0), (53, .iload 4, 2, 0, 0), (55, .if_icmp .gt 30, 3, 0, 85), (58, .iload 4, 2, 0, 0), (60, .aload_n 0, 1, 0, 0), (61, .getfield 28, 3, 0, 0), (64, .iload 6, 2, 0, 0), (66, .iaload, 1, 0, 0), (67, .if_icmp .gt 18, 3, 0, 85), (70, .aload_n 0, 1, 0, 0), (71, .getfield 31, 3, 0, 0), (74, .iload 6, 2, 0, 0), (76, .iaload, 1, 0, 0), (77, .iload 5, 2, 0, 0), (79, .if_icmp .gt 6, 3, 0, 85), (82, .iload 6, 2, 0, 0), (84, .ireturn, 1, 0, 0), (85, .iinc 6 (-1), 3, (-1), 0), (88, .goto (-80), 3, 0, 8), (91, .iconst (-1), 1, (-1), 0), (92, .ireturn, 1, 0, 0)]
theorem tX3_ruling_ok : (tX3_ruling.all (q_okI cX3_ruling)) = true := by decide +kernel

abbrev fdX3_ruling : List (Nat ⊕ (Nat × Nat)) := [.inl 0, .inr (0, 0), .inr (0, 1), .inr (0, 2), .inr (0, 3), .inr (0, 4), .inr (0, 5), .inr (0, 6)]
def spX3_ruling : q_P := fun a w K => ∃ (L : LT) (x1 x2 x3 x4 x5 : Int32), w = lawsW 0 L ∧ a = [.ref 0, .int x1, .int x2, .int x3, .int x4, .int x5] ∧ L_n L ≤ 24 ∧ K (.inl (some (.int (oI (ruling L x1 x2 x3 x4 x5))))) (lawsW 0 L)
abbrev csX3_ruling : q_S := (6, 3, 0, 7, 0, 0, fdX3_ruling, spX3_ruling)
def EX3_ruling : q_E := (tX3_ruling, [(8, [0, 1, 2, 3, 4, 5, 6])], 7, flX3, [], [], [], [], [], [], 0, 0, 0, (some .int), [], [], 0, 0)
theorem okX3_ruling (l : Launch) : q_Eok l RX3 cX3_ruling EX3_ruling := ⟨tX3_ruling_ok, flX3_ok, q_nil, q_nil, q_nil, q_nil, q_nil, q_nil, (fun h => absurd h (by decide))⟩
set_option maxRecDepth 100000 in
set_option maxHeartbeats 4000000 in
theorem ctX3_ruling (l : Launch) : q_CT l yX3_ruling (.code yX3_ruling cX3_ruling 7 (some .int)) 0 0 0 spX3_ruling := by
  refine q_ct_of EX3_ruling (by decide +kernel) (okX3_ruling l) rfl rfl rfl rfl rfl q_nil (fun ci h => by cases h) rfl ?_
  intro a w K h
  obtain ⟨L, x1, x2, x3, x4, x5, rfl, rfl, hn, hK⟩ := h
  refine ⟨Nat.le_of_ble_eq_true rfl, fun C hC => ?_⟩
  have loop : ∀ i, i ≤ L_n L → ruling L x1 x2 x3 x4 x5 = rulO (rulP L x1 x2 x3 x4 x5) i → C 8 [(0, .ref 0), (1, .int x1), (2, .int x2), (3, .int x3), (4, .int x4), (5, .int x5), (6, .int (nI i - 1))] [] (lawsW 0 L) 0 0 := by
    intro i
    induction i with
    | zero =>
      intro _ h
      refine hC _ _ _ _ _ _ ?_
      refine And.intro (fun c1 => ?_) (fun c1 => absurd (by decide) c1)
      rw [h] at hK; exact hK
    | succ i ih =>
      intro hi h
      have hv : vp_in (nI i) 24 := vp_in_nI (by omega) (by omega)
      have hcl : (nI i).toNatClampNeg = i := nI_clamp (by omega)
      have next : rulP L x1 x2 x3 x4 x5 i = false → C 8 [(0, .ref 0), (1, .int x1), (2, .int x2), (3, .int x3), (4, .int x4), (5, .int x5), (6, .int (nI i + (-1)))] [] (lawsW 0 L) 0 0 := by
        intro hP
        rw [← Int32.sub_eq_add_neg]
        exact ih (by omega) (by rw [h, rulO, hP]; rfl)
      rw [nI_pred]
      refine hC _ _ _ _ _ _ ?_
      refine And.intro (fun c1 => absurd c1 (nI_pos (by omega))) (fun c1 => ?_)
      refine And.intro hv (And.intro (fun c2 => next ?_) (fun c2 => ?_))
      · rw [hcl] at c2; simp [rulP, c2]
      refine And.intro hv (And.intro (fun c3 => next ?_) (fun c3 => ?_))
      · rw [hcl] at c3; simp [rulP, c3]
      refine And.intro hv (And.intro (fun c4 => next ?_) (fun c4 => ?_))
      · rw [hcl] at c4; simp [rulP, c4]
      refine And.intro hv (And.intro (fun c5 => next ?_) (fun c5 => ?_))
      · rw [hcl] at c5; simp only [rulP, decide_eq_false (Int32.not_le.mpr c5), Bool.false_and, Bool.and_false]
      refine And.intro hv (And.intro (fun c6 => next ?_) (fun c6 => ?_))
      · rw [hcl] at c6; simp only [rulP, decide_eq_false (Int32.not_le.mpr c6), Bool.false_and, Bool.and_false]
      refine And.intro hv (And.intro (fun c7 => next ?_) (fun c7 => ?_))
      · rw [hcl] at c7; simp only [rulP, decide_eq_false (Int32.not_le.mpr c7), Bool.false_and, Bool.and_false]
      · rw [hcl] at c2 c3 c4 c5 c6 c7
        have hP : rulP L x1 x2 x3 x4 x5 i = true := by simp only [rulP, decide_eq_true c2, decide_eq_true c3, decide_eq_true c4, decide_eq_true (Int32.not_lt.mp c5), decide_eq_true (Int32.not_lt.mp c6), decide_eq_true (Int32.not_lt.mp c7), Bool.and_self]
        rw [h, rulO, if_pos hP] at hK
        exact hK
  exact hC _ _ _ _ _ _ (loop (L_n L) (Nat.le_refl _) rfl)
def tX3_saysTakes : List q_I := [(0, .iload_n 1, 1, 0, 0), (1, .ifCond .lt 24, 3, 0, 25), (4, .iload_n 1, 1, 0, 0), (5, .aload_n 0, 1, 0, 0), (6, .getfield 34, 3, 0, 0), (9, .if_icmp .ge 16, 3, 0, 25), (12, .aload_n 0, 1, 0, 0), (13, .getfield 21, 3, 0, 0), (16, .iload_n 1, 1, 0, 0), (17, .baload, 1, 0, 0), (18, .ifCond .eq 7, 3, 0, 25), (21, .iconst 1, 1, 1, 0), (22, .goto 4, 3, 0, 26), (25, .iconst 0, 1, 0, 0), (26, .ireturn, 1, 0, 0)]
theorem tX3_saysTakes_ok : (tX3_saysTakes.all (q_okI cX3_saysTakes)) = true := by decide +kernel

abbrev fdX3_saysTakes : List (Nat ⊕ (Nat × Nat)) := [.inl 0, .inr (0, 0), .inr (0, 1), .inr (0, 2), .inr (0, 3), .inr (0, 4), .inr (0, 5), .inr (0, 6)]
def spX3_saysTakes : q_P := fun a w K => ∃ (L : LT) (r : Option Nat), w = lawsW 0 L ∧ a = [.ref 0, .int (oI r)] ∧ L_n L ≤ 24 ∧ (∀ i, r = some i → i < L_n L) ∧ K (.inl (some (.int (bI (saysT L r))))) (lawsW 0 L)
abbrev csX3_saysTakes : q_S := (2, 3, 0, 2, 0, 0, fdX3_saysTakes, spX3_saysTakes)
def EX3_saysTakes : q_E := (tX3_saysTakes, [], 2, flX3, [], [], [], [], [], [], 0, 0, 0, (some .boolean), [], [], 0, 0)
theorem okX3_saysTakes (l : Launch) : q_Eok l RX3 cX3_saysTakes EX3_saysTakes := ⟨tX3_saysTakes_ok, flX3_ok, q_nil, q_nil, q_nil, q_nil, q_nil, q_nil, (fun h => absurd h (by decide))⟩
set_option maxRecDepth 100000 in
set_option maxHeartbeats 4000000 in
theorem ctX3_saysTakes (l : Launch) : q_CT l yX3_saysTakes (.code yX3_saysTakes cX3_saysTakes 2 (some .boolean)) 0 0 0 spX3_saysTakes := by
  refine q_ct_of EX3_saysTakes (by decide +kernel) (okX3_saysTakes l) rfl rfl rfl rfl rfl q_nil (fun ci h => by cases h) rfl ?_
  intro a w K h
  obtain ⟨L, r, rfl, rfl, hn, hr, hK⟩ := h
  dsimp only [L_n] at hn hr
  refine ⟨Nat.le_of_ble_eq_true rfl, fun C hC => hC _ _ _ _ _ _ ?_⟩
  cases r with
  | none =>
    refine And.intro (fun c => ⟨rfl, hK⟩) (fun c => absurd (by decide) c)
  | some i =>
    have hi := hr i rfl
    refine And.intro (fun c => absurd c (nI_pos (by omega))) (fun c => ?_)
    refine And.intro (fun c2 => absurd c2 (nI_ge hi (by omega))) (fun c2 => ?_)
    refine And.intro (vp_in_nI (by omega) (by omega)) (And.intro (fun c3 => ⟨rfl, ?_⟩) (fun c3 => ⟨rfl, ?_⟩))
    · have c3 : L.2.2.2.1 (nI i).toNatClampNeg = 0 := c3
      rw [nI_clamp (by omega)] at c3
      rw [saysT, bI_f (fun z => z c3)] at hK; exact hK
    · have c3 : ¬ L.2.2.2.1 (nI i).toNatClampNeg = 0 := c3
      rw [nI_clamp (by omega)] at c3
      rw [saysT, bI_t c3] at hK; exact hK
def tX3_acceptOn : List q_I := [(0, .aload_n 0, 1, 0, 0), (1, .aload_n 0, 1, 0, 0), (2, .iload_n 2, 1, 0, 0), (3, .iload_n 3, 1, 0, 0), (4, .iload 4, 2, 0, 0), (6, .iload_n 1, 1, 0, 0), (7, .iload_n 1, 1, 0, 0), (8, .invokevirtual 38, 3, 0, 0), (11, .invokevirtual 42, 3, 0, 0), (14, .ireturn, 1, 0, 0)]
theorem tX3_acceptOn_ok : (tX3_acceptOn.all (q_okI cX3_acceptOn)) = true := by decide +kernel

abbrev fdX3_acceptOn : List (Nat ⊕ (Nat × Nat)) := [.inl 0, .inr (0, 0), .inr (0, 1), .inr (0, 2), .inr (0, 3), .inr (0, 4), .inr (0, 5), .inr (0, 6)]
def spX3_acceptOn : q_P := fun a w K => ∃ (L : LT) (x1 x2 x3 x4 : Int32), w = lawsW 0 L ∧ a = [.ref 0, .int x1, .int x2, .int x3, .int x4] ∧ L_n L ≤ 24 ∧ K (.inl (some (.int (bI (accOn L x1 x2 x3 x4))))) (lawsW 0 L)
abbrev csX3_acceptOn : q_S := (5, 3, 1, 5, 0, 0, fdX3_acceptOn, spX3_acceptOn)
theorem coX3_38 (l : Launch) : q_CO l RX3 38 csX3_ruling := ⟨yX3_ruling, cX3_ruling, (some .int), 5, ⟨by decide +kernel, by decide +kernel, by decide +kernel⟩, q_G_i 4 (by decide +kernel) rfl, Or.inl ⟨by decide, rfl, rfl, q_G_i 840 (by decide +kernel) rfl, q_G_i 761 (by decide +kernel) rfl, q_G_i 762 (by decide +kernel) rfl, Or.inl ⟨q_G_i 763 (by decide +kernel) rfl, ctX3_ruling l⟩⟩⟩
theorem coX3_42 (l : Launch) : q_CO l RX3 42 csX3_saysTakes := ⟨yX3_saysTakes, cX3_saysTakes, (some .boolean), 1, ⟨by decide +kernel, by decide +kernel, by decide +kernel⟩, q_G_i 4 (by decide +kernel) rfl, Or.inl ⟨by decide, rfl, rfl, q_G_i 841 (by decide +kernel) rfl, q_G_i 765 (by decide +kernel) rfl, q_G_i 766 (by decide +kernel) rfl, Or.inl ⟨q_G_i 767 (by decide +kernel) rfl, ctX3_saysTakes l⟩⟩⟩
def EX3_acceptOn : q_E := (tX3_acceptOn, [], 5, flX3, [(38, csX3_ruling), (42, csX3_saysTakes)], [], [], [], [], [], 1, 0, 0, (some .boolean), [], [], 0, 0)
theorem okX3_acceptOn (l : Launch) : q_Eok l RX3 cX3_acceptOn EX3_acceptOn := ⟨tX3_acceptOn_ok, flX3_ok, List.forall_mem_cons.mpr ⟨(coX3_38 l), List.forall_mem_cons.mpr ⟨(coX3_42 l), q_nil⟩⟩, q_nil, q_nil, q_nil, q_nil, q_nil, (fun h => absurd h (by decide))⟩
set_option maxRecDepth 100000 in
set_option maxHeartbeats 4000000 in
theorem ctX3_acceptOn (l : Launch) : q_CT l yX3_acceptOn (.code yX3_acceptOn cX3_acceptOn 5 (some .boolean)) 1 0 0 spX3_acceptOn := by
  refine q_ct_of EX3_acceptOn (by decide +kernel) (okX3_acceptOn l) rfl rfl rfl rfl rfl q_nil (fun ci h => by cases h) rfl ?_
  intro a w K h
  obtain ⟨L, x1, x2, x3, x4, rfl, rfl, hn, hK⟩ := h
  refine ⟨Nat.le_of_ble_eq_true rfl, fun C hC => hC _ _ _ _ _ _ ?_⟩
  refine ⟨L, _, _, _, _, _, rfl, rfl, hn, ?_⟩
  refine ⟨L, _, rfl, rfl, hn, fun i hi => rulO_lt hi, ?_⟩
  exact ⟨bI_nar _, hK⟩
def tX3_sooner : List q_I := [(0, .iload_n 1, 1, 0, 0), (1, .iload_n 2, 1, 0, 0), (2, .if_icmp .le 12, 3, 0, 14), (5, .iload_n 1, 1, 0, 0), (6, .iload_n 0, 1, 0, 0), (7, .if_icmp .ge 7, 3, 0, 14), (10, .iload_n 1, 1, 0, 0), (11, .goto 4, 3, 0, 15), (14, .iload_n 0, 1, 0, 0), (15, .ireturn, 1, 0, 0)]
theorem tX3_sooner_ok : (tX3_sooner.all (q_okI cX3_sooner)) = true := by decide +kernel

abbrev fdX3_sooner : List (Nat ⊕ (Nat × Nat)) := []
def spX3_sooner : q_P := fun a w K => ∃ (x y z : Int32), w = [] ∧ a = [.int x, .int y, .int z] ∧ K (.inl (some (.int (soon x y z)))) []
abbrev csX3_sooner : q_S := (3, 99, 0, 3, 0, 0, fdX3_sooner, spX3_sooner)
def EX3_sooner : q_E := (tX3_sooner, [], 3, flX3, [], [], [], [], [], [], 0, 0, 0, (some .int), [], [], 0, 0)
theorem okX3_sooner (l : Launch) : q_Eok l RX3 cX3_sooner EX3_sooner := ⟨tX3_sooner_ok, flX3_ok, q_nil, q_nil, q_nil, q_nil, q_nil, q_nil, (fun h => absurd h (by decide))⟩
set_option maxRecDepth 100000 in
set_option maxHeartbeats 4000000 in
theorem ctX3_sooner (l : Launch) : q_CT l yX3_sooner (.code yX3_sooner cX3_sooner 3 (some .int)) 0 0 0 spX3_sooner := by
  refine q_ct_of EX3_sooner (by decide +kernel) (okX3_sooner l) rfl rfl rfl rfl rfl q_nil (fun ci h => by cases h) rfl ?_
  intro a w K h
  obtain ⟨x, y, z, rfl, rfl, hK⟩ := h
  refine ⟨Nat.le_of_ble_eq_true rfl, fun C hC => hC _ _ _ _ _ _ ?_⟩
  refine And.intro (fun c => ?_) (fun c => And.intro (fun c2 => ?_) (fun c2 => ?_))
  · rw [soon, if_neg (fun h => Int32.not_le.mpr h.1 c)] at hK; exact hK
  · rw [soon, if_neg (fun h => Int32.not_le.mpr h.2 c2)] at hK; exact hK
  · rw [soon, if_pos ⟨Int32.not_le.mp c, Int32.not_le.mp c2⟩] at hK; exact hK
def tX3_changeBehind : List q_I := [(0, .ldc 46, 2, 0, 0), (2, .istore 4, 2, 0, 0), (4, .iconst 0, 1, 0, 0), (5, .istore 5, 2, 0, 0), (7, .iload 5, 2, 0, 0), (9, .aload_n 0, 1, 0, 0), (10, .getfield 34, 3, 0, 0), (13, .if_icmp .ge 78, 3, 0, 91), (16, .aload_n 0, 1, 0, 0), (17, .getfield 11, 3, 0, 0), (20, .iload 5, 2, 0, 0), (22, .iaload, 1, 0, 0), (23, .iload_n 2, 1, 0, 0), (24, .if_icmp .ne 61, 3, 0, 85), (27, .aload_n 0, 1, 0, 0), (28, .getfield 15, 3, 0, 0), (31, .iload 5, 2, 0, 0), (33, .iaload, 1, 0, 0), (34, .iload_n 3, 1, 0, 0), (35, .if_icmp .ne 50, 3, 0, 85), (38, .iload 4, 2, 0, 0), (40, .aload_n 0, 1, 0, 0), (41, .getfield 25, 3, 0, 0), (44, .iload 5, 2, 0, 0), (46, .iaload, 1, 0, 0), (47, .iload_n 1, 1, 0, 0), (48, .invokestatic 47, 3, 0, 0), (51, .istore 4, 2, 0, 0), (53, .iload 4, 2, 0, 0), (55, .aload_n 0, 1, 0, 0), (56, .getfield 28, 3, 0, 0), (59, .iload 5, 2, 0, 0), (61, .iaload, 1, 0, 0), (62, .iconst 1, 1, 1, 0), (63, .iadd, 1, 0, 0), (64, .iload_n 1, 1, 0, 0), (65, .invokestatic 47, 3, 0, 0), (68, .istore 4, 2, 0, 0), (70, .iload 4, 2, 0, 0), (72, .aload_n 0, 1, 0, 0), (73, .getfield 31, 3, 0, 0), (76, .iload 5, 2, 0, 0), (78, .iaload, 1, 0, 0), (79, .iload_n 1, 1, 0, 0), (80, .invokestatic 47, 3, 0, 0), (83, .istore 4, 2, 0, 0), (85, .iinc 5 1, 3, 1, 0), (88, .goto (-81), 3, 0, 7), (91, .iload 4, 2, 0, 0), (93, .ireturn, 1, 0, 0)]
theorem tX3_changeBehind_ok : (tX3_changeBehind.all (q_okI cX3_changeBehind)) = true := by decide +kernel

abbrev fdX3_changeBehind : List (Nat ⊕ (Nat × Nat)) := [.inl 0, .inr (0, 0), .inr (0, 1), .inr (0, 2), .inr (0, 3), .inr (0, 4), .inr (0, 5), .inr (0, 6)]
def spX3_changeBehind : q_P := fun a w K => ∃ (L : LT) (x1 x2 x3 : Int32), w = lawsW 0 L ∧ a = [.ref 0, .int x1, .int x2, .int x3] ∧ L_n L ≤ 24 ∧ K (.inl (some (.int (chgF L x1 x2 x3 (L_n L))))) (lawsW 0 L)
abbrev csX3_changeBehind : q_S := (4, 3, 1, 6, 0, 0, fdX3_changeBehind, spX3_changeBehind)
theorem coX3_47 (l : Launch) : q_CO l RX3 47 csX3_sooner := ⟨yX3_sooner, cX3_sooner, (some .int), 3, ⟨by decide +kernel, by decide +kernel, by decide +kernel⟩, q_G_i 4 (by decide +kernel) rfl, Or.inr (Or.inr (Or.inr ⟨rfl, rfl, q_G_i 898 (by decide +kernel) rfl, q_G_i 899 (by decide +kernel) rfl, Or.inl ⟨q_G_i 900 (by decide +kernel) rfl, ctX3_sooner l⟩⟩))⟩
def EX3_changeBehind : q_E := (tX3_changeBehind, [(7, [0, 1, 2, 3, 4, 5])], 6, flX3, [(47, csX3_sooner)], [], [(46, 1000000)], [], [], [], 1, 0, 0, (some .int), [], [], 0, 0)
theorem okX3_changeBehind (l : Launch) : q_Eok l RX3 cX3_changeBehind EX3_changeBehind := ⟨tX3_changeBehind_ok, flX3_ok, List.forall_mem_cons.mpr ⟨(coX3_47 l), q_nil⟩, q_nil, List.forall_mem_cons.mpr ⟨q_G_i 897 (by decide +kernel) rfl, q_nil⟩, q_nil, q_nil, q_nil, (fun h => absurd h (by decide))⟩
set_option maxRecDepth 100000 in
set_option maxHeartbeats 4000000 in
theorem ctX3_changeBehind (l : Launch) : q_CT l yX3_changeBehind (.code yX3_changeBehind cX3_changeBehind 6 (some .int)) 1 0 0 spX3_changeBehind := by
  refine q_ct_of EX3_changeBehind (by decide +kernel) (okX3_changeBehind l) rfl rfl rfl rfl rfl q_nil (fun ci h => by cases h) rfl ?_
  intro a w K h
  obtain ⟨L, x1, x2, x3, rfl, rfl, hn, hK⟩ := h
  dsimp only [L_n] at hn hK
  refine ⟨Nat.le_of_ble_eq_true rfl, fun C hC => ?_⟩
  have loop : ∀ k i, i + k = L.2.2.2.2.2.2.2 → C 7 [(0, .ref 0), (1, .int x1), (2, .int x2), (3, .int x3), (4, .int (chgF L x1 x2 x3 i)), (5, .int (nI i))] [] (lawsW 0 L) 0 0 := by
    intro k
    induction k with
    | zero =>
      intro i hi
      refine hC _ _ _ _ _ _ ?_
      have hi : i = L.2.2.2.2.2.2.2 := by omega
      subst hi
      refine And.intro (fun c1 => hK) (fun c1 => absurd (Int32.le_refl _) c1)
    | succ k ih =>
      intro i hi
      have hv : vp_in (nI i) 24 := vp_in_nI (by omega) (by omega)
      have hcl : (nI i).toNatClampNeg = i := nI_clamp (by omega)
      refine hC _ _ _ _ _ _ ?_
      refine And.intro (fun c1 => absurd c1 (nI_ge (by omega) (by omega))) (fun c1 => ?_)
      have next : ∀ x, x = chgF L x1 x2 x3 (i + 1) → C 7 [(0, .ref 0), (1, .int x1), (2, .int x2), (3, .int x3), (4, .int x), (5, .int (nI i + 1))] [] (lawsW 0 L) 0 0 := by
        intro x hx
        rw [nI_1, hx]
        exact ih (i + 1) (by omega)
      refine And.intro hv (And.intro (fun c2 => next _ ?_) (fun c2 => ?_))
      · rw [hcl] at c2; rw [chgF, if_neg (fun z => c2 z.1)]
      refine And.intro hv (And.intro (fun c3 => next _ ?_) (fun c3 => ?_))
      · rw [hcl] at c3; rw [chgF, if_neg (fun z => c3 z.2)]
      refine And.intro hv ⟨_, _, _, rfl, rfl, ?_⟩
      refine And.intro hv ⟨_, _, _, rfl, rfl, ?_⟩
      refine And.intro hv ⟨_, _, _, rfl, rfl, ?_⟩
      refine next _ ?_
      rw [hcl] at c2 c3
      rw [chgF, if_pos ⟨c2, c3⟩, hcl]
  exact hC _ _ _ _ _ _ (loop L.2.2.2.2.2.2.2 0 (by omega))
end
section
/-! ===== the JDK: Integer.bitCount ===== -/

def tJ6_bitCount_0f7a4 : List q_I := [(0, .iload_n 0, 1, 0, 0), (1, .iload_n 0, 1, 0, 0), (2, .iconst 1, 1, 1, 0), (3, .iushr, 1, 0, 0), (4, .ldc_w 265, 3, 0, 0), (7, .iand, 1, 0, 0), (8, .isub, 1, 0, 0), (9, .istore_n 0, 1, 0, 0), (10, .iload_n 0, 1, 0, 0), (11, .ldc_w 266, 3, 0, 0), (14, .iand, 1, 0, 0), (15, .iload_n 0, 1, 0, 0), (16, .iconst 2, 1, 2, 0), (17, .iushr, 1, 0, 0), (18, .ldc_w 266, 3, 0, 0), (21, .iand, 1, 0, 0), (22, .iadd, 1, 0, 0), (23, .istore_n 0, 1, 0, 0), (24, .iload_n 0, 1, 0, 0), (25, .iload_n 0, 1, 0, 0), (26, .iconst 4, 1, 4, 0), (27, .iushr, 1, 0, 0), (28, .iadd, 1, 0, 0), (29, .ldc_w 267, 3, 0, 0), (32, .iand, 1, 0, 0), (33, .istore_n 0, 1, 0, 0), (34, .iload_n 0, 1, 0, 0), (35, .iload_n 0, 1, 0, 0), (36, .bipush 8, 2, 8, 0), (38, .iushr, 1, 0, 0), (39, .iadd, 1, 0, 0), (40, .istore_n 0, 1, 0, 0), (41, .iload_n 0, 1, 0, 0), (42, .iload_n 0, 1, 0, 0), (43, .bipush 16, 2, 16, 0), (45, .iushr, 1, 0, 0), (46, .iadd, 1, 0, 0), (47, .istore_n 0, 1, 0, 0), (48, .iload_n 0, 1, 0, 0), (49, .bipush 63, 2, 63, 0), (51, .iand, 1, 0, 0), (52, .ireturn, 1, 0, 0)]
theorem tJ6_bitCount_0f7a4_ok : (tJ6_bitCount_0f7a4.all (q_okI cJ6_bitCount_0f7a4)) = true := by decide +kernel

abbrev fdJ6_bitCount_0f7a4 : List (Nat ⊕ (Nat × Nat)) := []
def ushI (x y : Int32) : Int32 := (x.toUInt32 >>> (y.toUInt32 &&& Int32.toUInt32 31)).toInt32
def bcI (x : Int32) : Int32 :=
  let a := x - (ushI x 1 &&& 1431655765)
  let b := (a &&& 858993459) + (ushI a 2 &&& 858993459)
  let c := (b + ushI b 4) &&& 252645135
  let d := c + ushI c 8
  let e := d + ushI d 16
  e &&& 63
def spJ6_bitCount_0f7a4 : q_P := fun a w K => ∃ (x : Int32), w = [] ∧ a = [.int x] ∧ K (.inl (some (.int (bcI x)))) []
abbrev csJ6_bitCount_0f7a4 : q_S := (1, 99, 0, 1, 0, 0, fdJ6_bitCount_0f7a4, spJ6_bitCount_0f7a4)
def EJ6_bitCount_0f7a4 : q_E := (tJ6_bitCount_0f7a4, [], 1, [], [], [], [(265, 1431655765), (266, 858993459), (267, 252645135)], [], [], [], 0, 0, 0, (some .int), [], [], 0, 0)
theorem okJ6_bitCount_0f7a4 (l : Launch) : q_Eok l RJ6 cJ6_bitCount_0f7a4 EJ6_bitCount_0f7a4 := ⟨tJ6_bitCount_0f7a4_ok, q_nil, q_nil, q_nil, List.forall_mem_cons.mpr ⟨q_G_i 960 (by decide +kernel) rfl, List.forall_mem_cons.mpr ⟨q_G_i 961 (by decide +kernel) rfl, List.forall_mem_cons.mpr ⟨q_G_i 962 (by decide +kernel) rfl, q_nil⟩⟩⟩, q_nil, q_nil, q_nil, (fun h => absurd h (by decide))⟩
set_option maxRecDepth 100000 in
set_option maxHeartbeats 4000000 in
theorem ctJ6_bitCount_0f7a4 (l : Launch) : q_CT l yJ6_bitCount_0f7a4 (.code yJ6_bitCount_0f7a4 cJ6_bitCount_0f7a4 1 (some .int)) 0 0 0 spJ6_bitCount_0f7a4 := by
  refine q_ct_of EJ6_bitCount_0f7a4 (by decide +kernel) (okJ6_bitCount_0f7a4 l) rfl rfl rfl rfl rfl q_nil (fun ci h => by cases h) rfl ?_
  intro a w K h
  obtain ⟨x, rfl, rfl, hK⟩ := h
  refine ⟨Nat.le_of_ble_eq_true rfl, fun C hC => hC _ _ _ _ _ _ ?_⟩
  exact hK
end
section
def anyF (f : Nat → Bool) : Nat → Nat → Bool
  | _, 0 => false
  | s, n + 1 => f s || anyF f (s + 1) n
def foldF {α : Type} (g : α → Nat → α) : Nat → Nat → α → α
  | _, 0, x => x
  | s, n + 1, x => foldF g (s + 1) n (g x s)
/-- place, papers, kind, office, from, to, count -/
abbrev PT : Type := (Nat → Int32) × (Nat → Int32) × (Nat → Int32) × (Nat → Int32) × (Nat → Int32) × (Nat → Int32) × Nat
def peopleW (o : Nat) (P : PT) : List q_C := [.inr (6, [.ref (o + 1), .ref (o + 2), .ref (o + 3), .ref (o + 4), .ref (o + 5), .ref (o + 6), .int (nI P.2.2.2.2.2.2)]), .inl (1, 30, .inl P.1), .inl (1, 30, .inl P.2.1), .inl (1, 240, .inl P.2.2.1), .inl (1, 240, .inl P.2.2.2.1), .inl (1, 240, .inl P.2.2.2.2.1), .inl (1, 240, .inl P.2.2.2.2.2.1)]
/-- how many papers -/
def pcN (P : PT) (p : Nat) : Nat := (P.2.1 p).toNatClampNeg
def pOk (P : PT) : Prop := P.2.2.2.2.2.2 ≤ 30 ∧ ∀ p, p < P.2.2.2.2.2.2 → P.2.1 p = nI (pcN P p) ∧ pcN P p ≤ 8
def lastsP (P : PT) (day : Int32) (k : Nat) : Bool := decide (P.2.2.2.2.1 k ≤ day) && decide (day ≤ P.2.2.2.2.2.1 k)
def hasLast (P : PT) (p : Nat) (kind day : Int32) : Bool := anyF (fun k => decide (P.2.2.1 k = kind) && lastsP P day k) (p * 8) (pcN P p)
def hasGd (P : PT) (L : LT) (p : Nat) (kind land day : Int32) : Bool := anyF (fun k => decide (P.2.2.1 k = kind) && (lastsP P day k && accOn L day land kind (P.2.2.2.1 k))) (p * 8) (pcN P p)
def landsG (P : PT) (L : LT) (p : Nat) (kind day : Int32) : Nat → Int32
  | 0 => 0
  | i + 1 => if hasGd P L p kind (nI i) day then landsG P L p kind day i ||| ((1 : Int32) <<< (nI i &&& 31)) else landsG P L p kind day i
def dayHd (P : PT) (p : Nat) (kind office e : Int32) : Int32 := foldF (fun x k => if P.2.2.1 k = kind ∧ P.2.2.2.1 k = office ∧ e ≤ P.2.2.2.2.2.1 k then mnI x (mxI (P.2.2.2.2.1 k) e) else x) (p * 8) (pcN P p) 1000000
def begB (P : PT) (day : Int32) (p : Nat) (kind : Int32) : Int32 := foldF (fun x k => if P.2.2.1 k = kind then soon x (P.2.2.2.2.1 k) day else x) (p * 8) (pcN P p) 1000000
theorem nI_mul8 (p : Nat) : nI p * 8 = nI (p * 8) := pk_mul p 8
def peopleAdd (P : PT) (x : Int32) : PT := (upd P.1 P.2.2.2.2.2.2 x, upd P.2.1 P.2.2.2.2.2.2 0, P.2.2.1, P.2.2.2.1, P.2.2.2.2.1, P.2.2.2.2.2.1, P.2.2.2.2.2.2 + 1)
def peopleGive (P : PT) (p : Nat) (k o f t : Int32) : PT := (P.1, upd P.2.1 p (nI (pcN P p + 1)), upd P.2.2.1 (p * 8 + pcN P p) k, upd P.2.2.2.1 (p * 8 + pcN P p) o, upd P.2.2.2.2.1 (p * 8 + pcN P p) f, upd P.2.2.2.2.2.1 (p * 8 + pcN P p) t, P.2.2.2.2.2.2)
theorem pOk_ix {P : PT} (h : pOk P) {p : Nat} (hp : p < P.2.2.2.2.2.2) : vp_in (nI p) 30 ∧ (nI p).toNatClampNeg = p ∧ P.2.1 p = nI (pcN P p) ∧ pcN P p ≤ 8 ∧ p < 30 := by
  obtain ⟨h1, h2⟩ := h
  obtain ⟨h3, h4⟩ := h2 p hp
  exact ⟨vp_in_nI (by omega) (by omega), nI_clamp (by omega), h3, h4, by omega⟩

def tX6_has : List q_I := [(0, .iload_n 1, 1, 0, 0), (1, .ifCond .lt 15, 3, 0, 16), (4, .iload_n 1, 1, 0, 0), (5, .aload_n 0, 1, 0, 0), (6, .getfield 30, 3, 0, 0), (9, .if_icmp .ge 7, 3, 0, 16), (12, .iconst 1, 1, 1, 0), (13, .goto 4, 3, 0, 17), (16, .iconst 0, 1, 0, 0), (17, .ireturn, 1, 0, 0)]
theorem tX6_has_ok : (tX6_has.all (q_okI cX6_has)) = true := by decide +kernel

abbrev fdX6_has : List (Nat ⊕ (Nat × Nat)) := [.inl 0, .inr (0, 0), .inr (0, 1), .inr (0, 2), .inr (0, 3), .inr (0, 4), .inr (0, 5)]
def spX6_has : q_P := fun a w K => ∃ (P : PT) (x : Int32), w = peopleW 0 P ∧ a = [.ref 0, .int x] ∧ K (.inl (some (.int (bI (decide (0 ≤ x ∧ x < nI P.2.2.2.2.2.2)))))) (peopleW 0 P)
abbrev csX6_has : q_S := (2, 6, 0, 2, 0, 0, fdX6_has, spX6_has)
def EX6_has : q_E := (tX6_has, [], 2, flX6, [], [], [], [], [], [], 0, 0, 0, (some .boolean), [], [], 0, 0)
theorem okX6_has (l : Launch) : q_Eok l RX6 cX6_has EX6_has := ⟨tX6_has_ok, flX6_ok, q_nil, q_nil, q_nil, q_nil, q_nil, q_nil, (fun h => absurd h (by decide))⟩
set_option maxRecDepth 100000 in
set_option maxHeartbeats 4000000 in
theorem ctX6_has (l : Launch) : q_CT l yX6_has (.code yX6_has cX6_has 2 (some .boolean)) 0 0 0 spX6_has := by
  refine q_ct_of EX6_has (by decide +kernel) (okX6_has l) rfl rfl rfl rfl rfl q_nil (fun ci h => by cases h) rfl ?_
  intro a w K h
  obtain ⟨P, x, rfl, rfl, hK⟩ := h
  refine ⟨Nat.le_of_ble_eq_true rfl, fun C hC => hC _ _ _ _ _ _ ?_⟩
  refine And.intro (fun c => ⟨rfl, ?_⟩) (fun c => And.intro (fun c2 => ⟨rfl, ?_⟩) (fun c2 => ⟨rfl, ?_⟩))
  · rw [bI_f (fun z => Int32.not_le.mpr c z.1)] at hK; exact hK
  · rw [bI_f (fun z => Int32.not_le.mpr z.2 c2)] at hK; exact hK
  · rw [bI_t ⟨Int32.not_lt.mp c, Int32.not_le.mp c2⟩] at hK; exact hK
def tX6_hasRoom : List q_I := [(0, .aload_n 0, 1, 0, 0), (1, .getfield 30, 3, 0, 0), (4, .bipush 30, 2, 30, 0), (6, .if_icmp .ge 7, 3, 0, 13), (9, .iconst 1, 1, 1, 0), (10, .goto 4, 3, 0, 14), (13, .iconst 0, 1, 0, 0), (14, .ireturn, 1, 0, 0)]
theorem tX6_hasRoom_ok : (tX6_hasRoom.all (q_okI cX6_hasRoom)) = true := by decide +kernel

abbrev fdX6_hasRoom : List (Nat ⊕ (Nat × Nat)) := [.inl 0, .inr (0, 0), .inr (0, 1), .inr (0, 2), .inr (0, 3), .inr (0, 4), .inr (0, 5)]
def spX6_hasRoom : q_P := fun a w K => ∃ (P : PT), w = peopleW 0 P ∧ a = [.ref 0] ∧ P.2.2.2.2.2.2 ≤ 30 ∧ K (.inl (some (.int (bI (decide (P.2.2.2.2.2.2 < 30)))))) (peopleW 0 P)
abbrev csX6_hasRoom : q_S := (1, 6, 0, 1, 0, 0, fdX6_hasRoom, spX6_hasRoom)
def EX6_hasRoom : q_E := (tX6_hasRoom, [], 1, flX6, [], [], [], [], [], [], 0, 0, 0, (some .boolean), [], [], 0, 0)
theorem okX6_hasRoom (l : Launch) : q_Eok l RX6 cX6_hasRoom EX6_hasRoom := ⟨tX6_hasRoom_ok, flX6_ok, q_nil, q_nil, q_nil, q_nil, q_nil, q_nil, (fun h => absurd h (by decide))⟩
set_option maxRecDepth 100000 in
set_option maxHeartbeats 4000000 in
theorem ctX6_hasRoom (l : Launch) : q_CT l yX6_hasRoom (.code yX6_hasRoom cX6_hasRoom 1 (some .boolean)) 0 0 0 spX6_hasRoom := by
  refine q_ct_of EX6_hasRoom (by decide +kernel) (okX6_hasRoom l) rfl rfl rfl rfl rfl q_nil (fun ci h => by cases h) rfl ?_
  intro a w K h
  obtain ⟨P, rfl, rfl, hn, hK⟩ := h
  refine ⟨Nat.le_of_ble_eq_true rfl, fun C hC => hC _ _ _ _ _ _ ?_⟩
  refine And.intro (fun c => ⟨rfl, ?_⟩) (fun c => ⟨rfl, ?_⟩)
  · rw [bI_f (fun z => nI_ge (b := 30) z (by omega) c)] at hK; exact hK
  · rw [bI_t (by rcases Nat.lt_or_ge P.2.2.2.2.2.2 30 with z | z; exact z; exact absurd (nI_le (a := 30) z (by omega)) c)] at hK; exact hK
def tX6_add : List q_I := [(0, .aload_n 0, 1, 0, 0), (1, .getfield 11, 3, 0, 0), (4, .aload_n 0, 1, 0, 0), (5, .getfield 30, 3, 0, 0), (8, .iload_n 1, 1, 0, 0), (9, .iastore, 1, 0, 0), (10, .aload_n 0, 1, 0, 0), (11, .getfield 15, 3, 0, 0), (14, .aload_n 0, 1, 0, 0), (15, .getfield 30, 3, 0, 0), (18, .iconst 0, 1, 0, 0), (19, .iastore, 1, 0, 0), (20, .aload_n 0, 1, 0, 0), (21, .dup, 1, 0, 0), (22, .getfield 30, 3, 0, 0), (25, .iconst 1, 1, 1, 0), (26, .iadd, 1, 0, 0), (27, .putfield 30, 3, 0, 0), (30, .aload_n 0, 1, 0, 0), (31, .getfield 30, 3, 0, 0), (34, .iconst 1, 1, 1, 0), (35, .isub, 1, 0, 0), (36, .ireturn, 1, 0, 0)]
theorem tX6_add_ok : (tX6_add.all (q_okI cX6_add)) = true := by decide +kernel

abbrev fdX6_add : List (Nat ⊕ (Nat × Nat)) := [.inl 0, .inr (0, 0), .inr (0, 1), .inr (0, 2), .inr (0, 3), .inr (0, 4), .inr (0, 5)]
def spX6_add : q_P := fun a w K => ∃ (P : PT) (x : Int32), w = peopleW 0 P ∧ a = [.ref 0, .int x] ∧ P.2.2.2.2.2.2 < 30 ∧ K (.inl (some (.int (nI P.2.2.2.2.2.2)))) (peopleW 0 (peopleAdd P x))
abbrev csX6_add : q_S := (2, 6, 0, 2, 0, 0, fdX6_add, spX6_add)
def EX6_add : q_E := (tX6_add, [], 2, flX6, [], [], [], [], [], [], 0, 0, 0, (some .int), [], [], 0, 0)
theorem okX6_add (l : Launch) : q_Eok l RX6 cX6_add EX6_add := ⟨tX6_add_ok, flX6_ok, q_nil, q_nil, q_nil, q_nil, q_nil, q_nil, (fun h => absurd h (by decide))⟩
set_option maxRecDepth 100000 in
set_option maxHeartbeats 4000000 in
theorem ctX6_add (l : Launch) : q_CT l yX6_add (.code yX6_add cX6_add 2 (some .int)) 0 0 0 spX6_add := by
  refine q_ct_of EX6_add (by decide +kernel) (okX6_add l) rfl rfl rfl rfl rfl q_nil (fun ci h => by cases h) rfl ?_
  intro a w K h
  obtain ⟨P, x, rfl, rfl, hn, hK⟩ := h
  refine ⟨Nat.le_of_ble_eq_true rfl, fun C hC => hC _ _ _ _ _ _ ?_⟩
  have hv : vp_in (nI P.2.2.2.2.2.2) 30 := vp_in_nI hn (by omega)
  have hc : (nI P.2.2.2.2.2.2).toNatClampNeg = P.2.2.2.2.2.2 := nI_clamp (by omega)
  refine ⟨hv, hv, ?_⟩
  show K (.inl (some (.int _))) _
  simp only [hc, nI_1, nI_pred]
  exact hK
def tX6_firstPaper : List q_I := [(0, .iload_n 0, 1, 0, 0), (1, .bipush 8, 2, 8, 0), (3, .imul, 1, 0, 0), (4, .ireturn, 1, 0, 0)]
theorem tX6_firstPaper_ok : (tX6_firstPaper.all (q_okI cX6_firstPaper)) = true := by decide +kernel

abbrev fdX6_firstPaper : List (Nat ⊕ (Nat × Nat)) := []
def spX6_firstPaper : q_P := fun a w K => ∃ (p : Nat), w = [] ∧ a = [.int (nI p)] ∧ K (.inl (some (.int (nI (p * 8))))) []
abbrev csX6_firstPaper : q_S := (1, 99, 0, 1, 0, 0, fdX6_firstPaper, spX6_firstPaper)
def EX6_firstPaper : q_E := (tX6_firstPaper, [], 1, flX6, [], [], [], [], [], [], 0, 0, 0, (some .int), [], [], 0, 0)
theorem okX6_firstPaper (l : Launch) : q_Eok l RX6 cX6_firstPaper EX6_firstPaper := ⟨tX6_firstPaper_ok, flX6_ok, q_nil, q_nil, q_nil, q_nil, q_nil, q_nil, (fun h => absurd h (by decide))⟩
set_option maxRecDepth 100000 in
set_option maxHeartbeats 4000000 in
theorem ctX6_firstPaper (l : Launch) : q_CT l yX6_firstPaper (.code yX6_firstPaper cX6_firstPaper 1 (some .int)) 0 0 0 spX6_firstPaper := by
  refine q_ct_of EX6_firstPaper (by decide +kernel) (okX6_firstPaper l) rfl rfl rfl rfl rfl q_nil (fun ci h => by cases h) rfl ?_
  intro a w K h
  obtain ⟨p, rfl, rfl, hK⟩ := h
  refine ⟨Nat.le_of_ble_eq_true rfl, fun C hC => hC _ _ _ _ _ _ ?_⟩
  show K (.inl (some (.int _))) _
  rw [nI_mul8]; exact hK
def tX6_endOfPapers : List q_I := [(0, .iload_n 1, 1, 0, 0), (1, .bipush 8, 2, 8, 0), (3, .imul, 1, 0, 0), (4, .aload_n 0, 1, 0, 0), (5, .getfield 15, 3, 0, 0), (8, .iload_n 1, 1, 0, 0), (9, .iaload, 1, 0, 0), (10, .iadd, 1, 0, 0), (11, .ireturn, 1, 0, 0)]
theorem tX6_endOfPapers_ok : (tX6_endOfPapers.all (q_okI cX6_endOfPapers)) = true := by decide +kernel

abbrev fdX6_endOfPapers : List (Nat ⊕ (Nat × Nat)) := [.inl 0, .inr (0, 0), .inr (0, 1), .inr (0, 2), .inr (0, 3), .inr (0, 4), .inr (0, 5)]
def spX6_endOfPapers : q_P := fun a w K => ∃ (P : PT) (p : Nat), w = peopleW 0 P ∧ a = [.ref 0, .int (nI p)] ∧ pOk P ∧ p < P.2.2.2.2.2.2 ∧ K (.inl (some (.int (nI (p * 8 + pcN P p))))) (peopleW 0 P)
abbrev csX6_endOfPapers : q_S := (2, 6, 0, 2, 0, 0, fdX6_endOfPapers, spX6_endOfPapers)
def EX6_endOfPapers : q_E := (tX6_endOfPapers, [], 2, flX6, [], [], [], [], [], [], 0, 0, 0, (some .int), [], [], 0, 0)
theorem okX6_endOfPapers (l : Launch) : q_Eok l RX6 cX6_endOfPapers EX6_endOfPapers := ⟨tX6_endOfPapers_ok, flX6_ok, q_nil, q_nil, q_nil, q_nil, q_nil, q_nil, (fun h => absurd h (by decide))⟩
set_option maxRecDepth 100000 in
set_option maxHeartbeats 4000000 in
theorem ctX6_endOfPapers (l : Launch) : q_CT l yX6_endOfPapers (.code yX6_endOfPapers cX6_endOfPapers 2 (some .int)) 0 0 0 spX6_endOfPapers := by
  refine q_ct_of EX6_endOfPapers (by decide +kernel) (okX6_endOfPapers l) rfl rfl rfl rfl rfl q_nil (fun ci h => by cases h) rfl ?_
  intro a w K h
  obtain ⟨P, p, rfl, rfl, ho, hp, hK⟩ := h
  obtain ⟨h1, h2, h3, h4, h5⟩ := pOk_ix ho hp
  refine ⟨Nat.le_of_ble_eq_true rfl, fun C hC => hC _ _ _ _ _ _ ?_⟩
  refine ⟨h1, ?_⟩
  show K (.inl (some (.int _))) _
  rw [nI_mul8, h2, h3, nI_add]; exact hK
def tX6_hasPaperRoom : List q_I := [(0, .aload_n 0, 1, 0, 0), (1, .getfield 15, 3, 0, 0), (4, .iload_n 1, 1, 0, 0), (5, .iaload, 1, 0, 0), (6, .bipush 8, 2, 8, 0), (8, .if_icmp .ge 7, 3, 0, 15), (11, .iconst 1, 1, 1, 0), (12, .goto 4, 3, 0, 16), (15, .iconst 0, 1, 0, 0), (16, .ireturn, 1, 0, 0)]
theorem tX6_hasPaperRoom_ok : (tX6_hasPaperRoom.all (q_okI cX6_hasPaperRoom)) = true := by decide +kernel

abbrev fdX6_hasPaperRoom : List (Nat ⊕ (Nat × Nat)) := [.inl 0, .inr (0, 0), .inr (0, 1), .inr (0, 2), .inr (0, 3), .inr (0, 4), .inr (0, 5)]
def spX6_hasPaperRoom : q_P := fun a w K => ∃ (P : PT) (p : Nat), w = peopleW 0 P ∧ a = [.ref 0, .int (nI p)] ∧ pOk P ∧ p < P.2.2.2.2.2.2 ∧ K (.inl (some (.int (bI (decide (pcN P p < 8)))))) (peopleW 0 P)
abbrev csX6_hasPaperRoom : q_S := (2, 6, 0, 2, 0, 0, fdX6_hasPaperRoom, spX6_hasPaperRoom)
def EX6_hasPaperRoom : q_E := (tX6_hasPaperRoom, [], 2, flX6, [], [], [], [], [], [], 0, 0, 0, (some .boolean), [], [], 0, 0)
theorem okX6_hasPaperRoom (l : Launch) : q_Eok l RX6 cX6_hasPaperRoom EX6_hasPaperRoom := ⟨tX6_hasPaperRoom_ok, flX6_ok, q_nil, q_nil, q_nil, q_nil, q_nil, q_nil, (fun h => absurd h (by decide))⟩
set_option maxRecDepth 100000 in
set_option maxHeartbeats 4000000 in
theorem ctX6_hasPaperRoom (l : Launch) : q_CT l yX6_hasPaperRoom (.code yX6_hasPaperRoom cX6_hasPaperRoom 2 (some .boolean)) 0 0 0 spX6_hasPaperRoom := by
  refine q_ct_of EX6_hasPaperRoom (by decide +kernel) (okX6_hasPaperRoom l) rfl rfl rfl rfl rfl q_nil (fun ci h => by cases h) rfl ?_
  intro a w K h
  obtain ⟨P, p, rfl, rfl, ho, hp, hK⟩ := h
  obtain ⟨h1, h2, h3, h4, h5⟩ := pOk_ix ho hp
  refine ⟨Nat.le_of_ble_eq_true rfl, fun C hC => hC _ _ _ _ _ _ ?_⟩
  refine ⟨h1, And.intro (fun c => ⟨rfl, ?_⟩) (fun c => ⟨rfl, ?_⟩)⟩
  · have c : (8 : Int32) ≤ P.2.1 (nI p).toNatClampNeg := c
    rw [h2, h3] at c
    rw [bI_f (fun z => nI_ge (b := 8) z (by omega) c)] at hK; exact hK
  · have c : ¬ (8 : Int32) ≤ P.2.1 (nI p).toNatClampNeg := c
    rw [h2, h3] at c
    rw [bI_t (by rcases Nat.lt_or_ge (pcN P p) 8 with z | z; exact z; exact absurd (nI_le (a := 8) z (by omega)) c)] at hK; exact hK
def tX6_give : List q_I := [(0, .aload_n 0, 1, 0, 0), (1, .iload_n 1, 1, 0, 0), (2, .invokevirtual 34, 3, 0, 0), (5, .istore 6, 2, 0, 0), (7, .aload_n 0, 1, 0, 0), (8, .getfield 18, 3, 0, 0), (11, .iload 6, 2, 0, 0), (13, .iload_n 2, 1, 0, 0), (14, .iastore, 1, 0, 0), (15, .aload_n 0, 1, 0, 0), (16, .getfield 21, 3, 0, 0), (19, .iload 6, 2, 0, 0), (21, .iload_n 3, 1, 0, 0), (22, .iastore, 1, 0, 0), (23, .aload_n 0, 1, 0, 0), (24, .getfield 24, 3, 0, 0), (27, .iload 6, 2, 0, 0), (29, .iload 4, 2, 0, 0), (31, .iastore, 1, 0, 0), (32, .aload_n 0, 1, 0, 0), (33, .getfield 27, 3, 0, 0), (36, .iload 6, 2, 0, 0), (38, .iload 5, 2, 0, 0), (40, .iastore, 1, 0, 0), (41, .aload_n 0, 1, 0, 0), (42, .getfield 15, 3, 0, 0), (45, .iload_n 1, 1, 0, 0), (46, .dup2, 1, 0, 0), (47, .iaload, 1, 0, 0), (48, .iconst 1, 1, 1, 0), (49, .iadd, 1, 0, 0), (50, .iastore, 1, 0, 0), (51, .return_, 1, 0, 0)]
theorem tX6_give_ok : (tX6_give.all (q_okI cX6_give)) = true := by decide +kernel

abbrev fdX6_give : List (Nat ⊕ (Nat × Nat)) := [.inl 0, .inr (0, 0), .inr (0, 1), .inr (0, 2), .inr (0, 3), .inr (0, 4), .inr (0, 5)]
def spX6_give : q_P := fun a w K => ∃ (P : PT) (p : Nat) (k o f t : Int32), w = peopleW 0 P ∧ a = [.ref 0, .int (nI p), .int k, .int o, .int f, .int t] ∧ pOk P ∧ p < P.2.2.2.2.2.2 ∧ pcN P p < 8 ∧ K (.inl none) (peopleW 0 (peopleGive P p k o f t))
abbrev csX6_give : q_S := (6, 6, 1, 7, 0, 0, fdX6_give, spX6_give)
theorem coX6_34 (l : Launch) : q_CO l RX6 34 csX6_endOfPapers := ⟨yX6_endOfPapers, cX6_endOfPapers, (some .int), 1, ⟨by decide +kernel, by decide +kernel, by decide +kernel⟩, q_G_i 11 (by decide +kernel) rfl, Or.inl ⟨by decide, rfl, rfl, q_G_i 800 (by decide +kernel) rfl, q_G_i 801 (by decide +kernel) rfl, q_G_i 802 (by decide +kernel) rfl, Or.inl ⟨q_G_i 803 (by decide +kernel) rfl, ctX6_endOfPapers l⟩⟩⟩
def EX6_give : q_E := (tX6_give, [], 7, flX6, [(34, csX6_endOfPapers)], [], [], [], [], [], 1, 0, 0, none, [], [], 0, 0)
theorem okX6_give (l : Launch) : q_Eok l RX6 cX6_give EX6_give := ⟨tX6_give_ok, flX6_ok, List.forall_mem_cons.mpr ⟨(coX6_34 l), q_nil⟩, q_nil, q_nil, q_nil, q_nil, q_nil, (fun h => absurd h (by decide))⟩
set_option maxRecDepth 100000 in
set_option maxHeartbeats 4000000 in
theorem ctX6_give (l : Launch) : q_CT l yX6_give (.code yX6_give cX6_give 7 none) 1 0 0 spX6_give := by
  refine q_ct_of EX6_give (by decide +kernel) (okX6_give l) rfl rfl rfl rfl rfl q_nil (fun ci h => by cases h) rfl ?_
  intro a w K h
  obtain ⟨P, p, k, o, f, t, rfl, rfl, ho, hp, hr, hK⟩ := h
  obtain ⟨h1, h2, h3, h4, h5⟩ := pOk_ix ho hp
  refine ⟨Nat.le_of_ble_eq_true rfl, fun C hC => hC _ _ _ _ _ _ ?_⟩
  have hv : vp_in (nI (p * 8 + pcN P p)) 240 := vp_in_nI (by omega) (by omega)
  have hc : (nI (p * 8 + pcN P p)).toNatClampNeg = p * 8 + pcN P p := nI_clamp (by omega)
  refine ⟨P, p, rfl, rfl, ho, hp, hv, hv, hv, hv, h1, h1, ?_⟩
  show K (.inl none) _
  simp only [hc, h2, h3, nI_1]
  exact hK
def tX6_lasts : List q_I := [(0, .aload_n 0, 1, 0, 0), (1, .getfield 24, 3, 0, 0), (4, .iload_n 1, 1, 0, 0), (5, .iaload, 1, 0, 0), (6, .iload_n 2, 1, 0, 0), (7, .if_icmp .gt 17, 3, 0, 24), (10, .iload_n 2, 1, 0, 0), (11, .aload_n 0, 1, 0, 0), (12, .getfield 27, 3, 0, 0), (15, .iload_n 1, 1, 0, 0), (16, .iaload, 1, 0, 0), (17, .if_icmp .gt 7, 3, 0, 24), (20, .iconst 1, 1, 1, 0), (21, .goto 4, 3, 0, 25), (24, .iconst 0, 1, 0, 0), (25, .ireturn, 1, 0, 0)]
theorem tX6_lasts_ok : (tX6_lasts.all (q_okI cX6_lasts)) = true := by decide +kernel

abbrev fdX6_lasts : List (Nat ⊕ (Nat × Nat)) := [.inl 0, .inr (0, 0), .inr (0, 1), .inr (0, 2), .inr (0, 3), .inr (0, 4), .inr (0, 5)]
def spX6_lasts : q_P := fun a w K => ∃ (P : PT) (k : Nat) (d : Int32), w = peopleW 0 P ∧ a = [.ref 0, .int (nI k), .int d] ∧ k < 240 ∧ K (.inl (some (.int (bI (lastsP P d k))))) (peopleW 0 P)
abbrev csX6_lasts : q_S := (3, 6, 0, 3, 0, 0, fdX6_lasts, spX6_lasts)
def EX6_lasts : q_E := (tX6_lasts, [], 3, flX6, [], [], [], [], [], [], 0, 0, 0, (some .boolean), [], [], 0, 0)
theorem okX6_lasts (l : Launch) : q_Eok l RX6 cX6_lasts EX6_lasts := ⟨tX6_lasts_ok, flX6_ok, q_nil, q_nil, q_nil, q_nil, q_nil, q_nil, (fun h => absurd h (by decide))⟩
set_option maxRecDepth 100000 in
set_option maxHeartbeats 4000000 in
theorem ctX6_lasts (l : Launch) : q_CT l yX6_lasts (.code yX6_lasts cX6_lasts 3 (some .boolean)) 0 0 0 spX6_lasts := by
  refine q_ct_of EX6_lasts (by decide +kernel) (okX6_lasts l) rfl rfl rfl rfl rfl q_nil (fun ci h => by cases h) rfl ?_
  intro a w K h
  obtain ⟨P, k, d, rfl, rfl, hk, hK⟩ := h
  refine ⟨Nat.le_of_ble_eq_true rfl, fun C hC => hC _ _ _ _ _ _ ?_⟩
  have hv : vp_in (nI k) 240 := vp_in_nI (by omega) (by omega)
  have hc : (nI k).toNatClampNeg = k := nI_clamp (by omega)
  refine ⟨hv, And.intro (fun c => ⟨rfl, ?_⟩) (fun c => ⟨hv, And.intro (fun c2 => ⟨rfl, ?_⟩) (fun c2 => ⟨rfl, ?_⟩)⟩)⟩
  · have c : d < P.2.2.2.2.1 (nI k).toNatClampNeg := c
    rw [hc] at c
    rw [show lastsP P d k = false by simp only [lastsP, decide_eq_false (Int32.not_le.mpr c), Bool.false_and]] at hK; exact hK
  · have c2 : P.2.2.2.2.2.1 (nI k).toNatClampNeg < d := c2
    rw [hc] at c2
    rw [show lastsP P d k = false by simp only [lastsP, decide_eq_false (Int32.not_le.mpr c2), Bool.and_false]] at hK; exact hK
  · have c : ¬ d < P.2.2.2.2.1 (nI k).toNatClampNeg := c
    have c2 : ¬ P.2.2.2.2.2.1 (nI k).toNatClampNeg < d := c2
    rw [hc] at c c2
    rw [show lastsP P d k = true by simp only [lastsP, decide_eq_true (Int32.not_lt.mp c), decide_eq_true (Int32.not_lt.mp c2), Bool.and_self]] at hK; exact hK
def tX6_hasLasting : List q_I := [(0, .aload_n 0, 1, 0, 0), (1, .iload_n 1, 1, 0, 0), (2, .invokevirtual 34, 3, 0, 0), (5, .istore 4, 2, 0, 0), (7, .iload_n 1, 1, 0, 0), (8, .invokestatic 38, 3, 0, 0), (11, .istore 5, 2, 0, 0), (13, .iload 5, 2, 0, 0), (15, .iload 4, 2, 0, 0), (17, .if_icmp .ge 32, 3, 0, 49), (20, .aload_n 0, 1, 0, 0), (21, .getfield 18, 3, 0, 0), (24, .iload 5, 2, 0, 0), (26, .iaload, 1, 0, 0), (27, .iload_n 2, 1, 0, 0), (28, .if_icmp .ne 15, 3, 0, 43), (31, .aload_n 0, 1, 0, 0), (32, .iload 5, 2, 0, 0), (34, .iload_n 3, 1, 0, 0), (35, .invokevirtual 41, 3, 0, 0), (38, .ifCond .eq 5, 3, 0, 43), (41, .iconst 1, 1, 1, 0), (42, .ireturn, 1, 0, 0), (43, .iinc 5 1, 3, 1, 0), (46, .goto (-33), 3, 0, 13), (49, .iconst 0, 1, 0, 0), (50, .ireturn, 1, 0, 0)]
theorem tX6_hasLasting_ok : (tX6_hasLasting.all (q_okI cX6_hasLasting)) = true := by decide +kernel

abbrev fdX6_hasLasting : List (Nat ⊕ (Nat × Nat)) := [.inl 0, .inr (0, 0), .inr (0, 1), .inr (0, 2), .inr (0, 3), .inr (0, 4), .inr (0, 5)]
def spX6_hasLasting : q_P := fun a w K => ∃ (P : PT) (p : Nat) (k d : Int32), w = peopleW 0 P ∧ a = [.ref 0, .int (nI p), .int k, .int d] ∧ pOk P ∧ p < P.2.2.2.2.2.2 ∧ K (.inl (some (.int (bI (hasLast P p k d))))) (peopleW 0 P)
abbrev csX6_hasLasting : q_S := (4, 6, 1, 6, 0, 0, fdX6_hasLasting, spX6_hasLasting)
theorem coX6_38 (l : Launch) : q_CO l RX6 38 csX6_firstPaper := ⟨yX6_firstPaper, cX6_firstPaper, (some .int), 1, ⟨by decide +kernel, by decide +kernel, by decide +kernel⟩, q_G_i 11 (by decide +kernel) rfl, Or.inr (Or.inr (Or.inr ⟨rfl, rfl, q_G_i 831 (by decide +kernel) rfl, q_G_i 809 (by decide +kernel) rfl, Or.inl ⟨q_G_i 810 (by decide +kernel) rfl, ctX6_firstPaper l⟩⟩))⟩
theorem coX6_41 (l : Launch) : q_CO l RX6 41 csX6_lasts := ⟨yX6_lasts, cX6_lasts, (some .boolean), 2, ⟨by decide +kernel, by decide +kernel, by decide +kernel⟩, q_G_i 11 (by decide +kernel) rfl, Or.inl ⟨by decide, rfl, rfl, q_G_i 832 (by decide +kernel) rfl, q_G_i 834 (by decide +kernel) rfl, q_G_s (n := 7) 24 (by decide +kernel), Or.inl ⟨q_G_i 835 (by decide +kernel) rfl, ctX6_lasts l⟩⟩⟩
def EX6_hasLasting : q_E := (tX6_hasLasting, [(13, [0, 1, 2, 3, 4, 5])], 6, flX6, [(34, csX6_endOfPapers), (38, csX6_firstPaper), (41, csX6_lasts)], [], [], [], [], [], 1, 0, 0, (some .boolean), [], [], 0, 0)
theorem okX6_hasLasting (l : Launch) : q_Eok l RX6 cX6_hasLasting EX6_hasLasting := ⟨tX6_hasLasting_ok, flX6_ok, List.forall_mem_cons.mpr ⟨(coX6_34 l), List.forall_mem_cons.mpr ⟨(coX6_38 l), List.forall_mem_cons.mpr ⟨(coX6_41 l), q_nil⟩⟩⟩, q_nil, q_nil, q_nil, q_nil, q_nil, (fun h => absurd h (by decide))⟩
set_option maxRecDepth 100000 in
set_option maxHeartbeats 4000000 in
theorem ctX6_hasLasting (l : Launch) : q_CT l yX6_hasLasting (.code yX6_hasLasting cX6_hasLasting 6 (some .boolean)) 1 0 0 spX6_hasLasting := by
  refine q_ct_of EX6_hasLasting (by decide +kernel) (okX6_hasLasting l) rfl rfl rfl rfl rfl q_nil (fun ci h => by cases h) rfl ?_
  intro a w K h
  obtain ⟨P, p, k, d, rfl, rfl, ho, hp, hK⟩ := h
  obtain ⟨h1, h2, h3, h4, h5⟩ := pOk_ix ho hp
  refine ⟨Nat.le_of_ble_eq_true rfl, fun C hC => ?_⟩
  have loop : ∀ n s, s + n = p * 8 + pcN P p → hasLast P p k d = anyF (fun i => decide (P.2.2.1 i = k) && lastsP P d i) s n → C 13 [(0, .ref 0), (1, .int (nI p)), (2, .int k), (3, .int d), (4, .int (nI (p * 8 + pcN P p))), (5, .int (nI s))] [] (peopleW 0 P) 0 0 := by
    intro n
    induction n with
    | zero =>
      intro s hs he
      refine hC _ _ _ _ _ _ ?_
      refine And.intro (fun c1 => ⟨rfl, ?_⟩) (fun c1 => absurd (nI_le (by omega) (by omega)) c1)
      rw [he] at hK; exact hK
    | succ n ih =>
      intro s hs he
      have hv : vp_in (nI s) 240 := vp_in_nI (by omega) (by omega)
      have hc : (nI s).toNatClampNeg = s := nI_clamp (by omega)
      refine hC _ _ _ _ _ _ ?_
      have next : (decide (P.2.2.1 s = k) && lastsP P d s) = false → C 13 [(0, .ref 0), (1, .int (nI p)), (2, .int k), (3, .int d), (4, .int (nI (p * 8 + pcN P p))), (5, .int (nI s + 1))] [] (peopleW 0 P) 0 0 := by
        intro hf
        rw [nI_1]
        exact ih (s + 1) (by omega) (by rw [he, anyF, hf]; rfl)
      refine And.intro (fun c1 => absurd c1 (nI_ge (by omega) (by omega))) (fun c1 => ?_)
      refine And.intro hv (And.intro (fun c2 => next ?_) (fun c2 => ?_))
      · rw [hc] at c2; simp only [decide_eq_false c2, Bool.false_and]
      refine ⟨P, s, _, rfl, rfl, by omega, And.intro (fun c3 => next ?_) (fun c3 => ⟨rfl, ?_⟩)⟩
      · rw [bI_0.mp c3, Bool.and_false]
      · rw [hc] at c2
        rw [he, anyF, bI_n0.mp c3, decide_eq_true c2] at hK; exact hK
  exact hC _ _ _ _ _ _ ⟨P, p, rfl, rfl, ho, hp, p, rfl, rfl, loop (pcN P p) (p * 8) rfl rfl⟩
def tX6_hasGood : List q_I := [(0, .aload_n 0, 1, 0, 0), (1, .iload_n 1, 1, 0, 0), (2, .invokevirtual 34, 3, 0, 0), (5, .istore 6, 2, 0, 0), (7, .iload_n 1, 1, 0, 0), (8, .invokestatic 38, 3, 0, 0), (11, .istore 7, 2, 0, 0), (13, .iload 7, 2, 0, 0), (15, .iload 6, 2, 0, 0), (17, .if_icmp .ge 52, 3, 0, 69), (20, .aload_n 0, 1, 0, 0), (21, .getfield 18, 3, 0, 0), (24, .iload 7, 2, 0, 0), (26, .iaload, 1, 0, 0), (27, .iload_n 2, 1, 0, 0), (28, .if_icmp .ne 35, 3, 0, 63), (31, .aload_n 0, 1, 0, 0), (32, .iload 7, 2, 0, 0), (34, .iload 4, 2, 0, 0), (36, .invokevirtual 41, 3, 0, 0), (39, .ifCond .eq 24, 3, 0, 63), (42, .aload 5, 2, 0, 0), (44, .iload 4, 2, 0, 0), (46, .iload_n 3, 1, 0, 0), (47, .iload_n 2, 1, 0, 0), (48, .aload_n 0, 1, 0, 0), (49, .getfield 21, 3, 0, 0), (52, .iload 7, 2, 0, 0), (54, .iaload, 1, 0, 0), (55, .invokevirtual 45, 3, 0, 0), (58, .ifCond .eq 5, 3, 0, 63), (61, .iconst 1, 1, 1, 0), (62, .ireturn, 1, 0, 0), (63, .iinc 7 1, 3, 1, 0), (66, .goto (-53), 3, 0, 13), (69, .iconst 0, 1, 0, 0), (70, .ireturn, 1, 0, 0)]
theorem tX6_hasGood_ok : (tX6_hasGood.all (q_okI cX6_hasGood)) = true := by decide +kernel

abbrev fdX6_hasGood : List (Nat ⊕ (Nat × Nat)) := [.inl 0, .inr (0, 0), .inr (0, 1), .inr (0, 2), .inr (0, 3), .inr (0, 4), .inr (0, 5), .inl 5, .inr (7, 0), .inr (7, 1), .inr (7, 2), .inr (7, 3), .inr (7, 4), .inr (7, 5), .inr (7, 6)]
def spX6_hasGood : q_P := fun a w K => ∃ (P : PT) (L : LT) (p : Nat) (k x d : Int32), w = peopleW 0 P ++ lawsW 7 L ∧ a = [.ref 0, .int (nI p), .int k, .int x, .int d, .ref 7] ∧ pOk P ∧ L_n L ≤ 24 ∧ p < P.2.2.2.2.2.2 ∧ K (.inl (some (.int (bI (hasGd P L p k x d))))) (peopleW 0 P ++ lawsW 7 L)
abbrev csX6_hasGood : q_S := (6, 6, 2, 8, 0, 0, fdX6_hasGood, spX6_hasGood)
theorem coX6_45 (l : Launch) : q_CO l RX6 45 csX3_acceptOn := ⟨yX3_acceptOn, cX3_acceptOn, (some .boolean), 4, ⟨by decide +kernel, by decide +kernel, by decide +kernel⟩, q_G_i 4 (by decide +kernel) rfl, Or.inl ⟨by decide, rfl, rfl, q_G_i 836 (by decide +kernel) rfl, q_G_i 837 (by decide +kernel) rfl, q_G_i 838 (by decide +kernel) rfl, Or.inl ⟨q_G_i 839 (by decide +kernel) rfl, ctX3_acceptOn l⟩⟩⟩
def EX6_hasGood : q_E := (tX6_hasGood, [(13, [0, 1, 2, 3, 4, 5, 6, 7])], 8, flX6, [(34, csX6_endOfPapers), (38, csX6_firstPaper), (41, csX6_lasts), (45, csX3_acceptOn)], [], [], [], [], [], 2, 0, 0, (some .boolean), [], [], 0, 0)
theorem okX6_hasGood (l : Launch) : q_Eok l RX6 cX6_hasGood EX6_hasGood := ⟨tX6_hasGood_ok, flX6_ok, List.forall_mem_cons.mpr ⟨(coX6_34 l), List.forall_mem_cons.mpr ⟨(coX6_38 l), List.forall_mem_cons.mpr ⟨(coX6_41 l), List.forall_mem_cons.mpr ⟨(coX6_45 l), q_nil⟩⟩⟩⟩, q_nil, q_nil, q_nil, q_nil, q_nil, (fun h => absurd h (by decide))⟩
set_option maxRecDepth 100000 in
set_option maxHeartbeats 4000000 in
theorem ctX6_hasGood (l : Launch) : q_CT l yX6_hasGood (.code yX6_hasGood cX6_hasGood 8 (some .boolean)) 2 0 0 spX6_hasGood := by
  refine q_ct_of EX6_hasGood (by decide +kernel) (okX6_hasGood l) rfl rfl rfl rfl rfl q_nil (fun ci h => by cases h) rfl ?_
  intro a w K h
  obtain ⟨P, L, p, k, x, d, rfl, rfl, ho, hL, hp, hK⟩ := h
  obtain ⟨h1, h2, h3, h4, h5⟩ := pOk_ix ho hp
  refine ⟨Nat.le_of_ble_eq_true rfl, fun C hC => ?_⟩
  have loop : ∀ n s, s + n = p * 8 + pcN P p → hasGd P L p k x d = anyF (fun i => decide (P.2.2.1 i = k) && (lastsP P d i && accOn L d x k (P.2.2.2.1 i))) s n → C 13 [(0, .ref 0), (1, .int (nI p)), (2, .int k), (3, .int x), (4, .int d), (5, .ref 7), (6, .int (nI (p * 8 + pcN P p))), (7, .int (nI s))] [] (peopleW 0 P ++ lawsW 7 L) 0 0 := by
    intro n
    induction n with
    | zero =>
      intro s hs he
      refine hC _ _ _ _ _ _ ?_
      refine And.intro (fun c1 => ⟨rfl, ?_⟩) (fun c1 => absurd (nI_le (by omega) (by omega)) c1)
      rw [he] at hK; exact hK
    | succ n ih =>
      intro s hs he
      have hv : vp_in (nI s) 240 := vp_in_nI (by omega) (by omega)
      have hc : (nI s).toNatClampNeg = s := nI_clamp (by omega)
      refine hC _ _ _ _ _ _ ?_
      have next : (decide (P.2.2.1 s = k) && (lastsP P d s && accOn L d x k (P.2.2.2.1 s))) = false → C 13 [(0, .ref 0), (1, .int (nI p)), (2, .int k), (3, .int x), (4, .int d), (5, .ref 7), (6, .int (nI (p * 8 + pcN P p))), (7, .int (nI s + 1))] [] (peopleW 0 P ++ lawsW 7 L) 0 0 := by
        intro hf
        rw [nI_1]
        exact ih (s + 1) (by omega) (by rw [he, anyF, hf]; rfl)
      refine And.intro (fun c1 => absurd c1 (nI_ge (by omega) (by omega))) (fun c1 => ?_)
      refine And.intro hv (And.intro (fun c2 => next ?_) (fun c2 => ?_))
      · rw [hc] at c2; simp only [decide_eq_false c2, Bool.false_and]
      refine ⟨P, s, _, rfl, rfl, by omega, And.intro (fun c3 => next ?_) (fun c3 => ?_)⟩
      · rw [bI_0.mp c3, Bool.false_and, Bool.and_false]
      refine ⟨hv, L, _, _, _, _, rfl, rfl, hL, And.intro (fun c4 => next ?_) (fun c4 => ⟨rfl, ?_⟩)⟩
      · have c4 := bI_0.mp c4
        rw [hc] at c4
        rw [c4, Bool.and_false, Bool.and_false]
      · have c4 := bI_n0.mp c4
        rw [hc] at c2 c4
        rw [he, anyF, bI_n0.mp c3, c4, decide_eq_true c2] at hK; exact hK
  exact hC _ _ _ _ _ _ ⟨P, p, rfl, rfl, ho, hp, p, rfl, rfl, loop (pcN P p) (p * 8) rfl rfl⟩
def tX6_dayHad : List q_I := [(0, .ldc 64, 2, 0, 0), (2, .istore 5, 2, 0, 0), (4, .aload_n 0, 1, 0, 0), (5, .iload_n 1, 1, 0, 0), (6, .invokevirtual 34, 3, 0, 0), (9, .istore 6, 2, 0, 0), (11, .iload_n 1, 1, 0, 0), (12, .invokestatic 38, 3, 0, 0), (15, .istore 7, 2, 0, 0), (17, .iload 7, 2, 0, 0), (19, .iload 6, 2, 0, 0), (21, .if_icmp .ge 62, 3, 0, 83), (24, .aload_n 0, 1, 0, 0), (25, .getfield 18, 3, 0, 0), (28, .iload 7, 2, 0, 0), (30, .iaload, 1, 0, 0), (31, .iload_n 2, 1, 0, 0), (32, .if_icmp .ne 45, 3, 0, 77), (35, .aload_n 0, 1, 0, 0), (36, .getfield 21, 3, 0, 0), (39, .iload 7, 2, 0, 0), (41, .iaload, 1, 0, 0), (42, .iload_n 3, 1, 0, 0), (43, .if_icmp .ne 34, 3, 0, 77), (46, .iload 4, 2, 0, 0), (48, .aload_n 0, 1, 0, 0), (49, .getfield 27, 3, 0, 0), (52, .iload 7, 2, 0, 0), (54, .iaload, 1, 0, 0), (55, .if_icmp .gt 22, 3, 0, 77), (58, .iload 5, 2, 0, 0), (60, .aload_n 0, 1, 0, 0), (61, .getfield 24, 3, 0, 0), (64, .iload 7, 2, 0, 0), (66, .iaload, 1, 0, 0), (67, .iload 4, 2, 0, 0), (69, .invokestatic 65, 3, 0, 0), (72, .invokestatic 71, 3, 0, 0), (75, .istore 5, 2, 0, 0), (77, .iinc 7 1, 3, 1, 0), (80, .goto (-63), 3, 0, 17), (83, .iload 5, 2, 0, 0), (85, .ireturn, 1, 0, 0)]
theorem tX6_dayHad_ok : (tX6_dayHad.all (q_okI cX6_dayHad)) = true := by decide +kernel

abbrev fdX6_dayHad : List (Nat ⊕ (Nat × Nat)) := [.inl 0, .inr (0, 0), .inr (0, 1), .inr (0, 2), .inr (0, 3), .inr (0, 4), .inr (0, 5)]
def spX6_dayHad : q_P := fun a w K => ∃ (P : PT) (p : Nat) (k o e : Int32), w = peopleW 0 P ∧ a = [.ref 0, .int (nI p), .int k, .int o, .int e] ∧ pOk P ∧ p < P.2.2.2.2.2.2 ∧ K (.inl (some (.int (dayHd P p k o e)))) (peopleW 0 P)
abbrev csX6_dayHad : q_S := (5, 6, 1, 8, 0, 0, fdX6_dayHad, spX6_dayHad)
def EX6_dayHad : q_E := (tX6_dayHad, [(17, [0, 1, 2, 3, 4, 5, 6, 7])], 8, flX6, [(34, csX6_endOfPapers), (38, csX6_firstPaper)], [], [(64, 1000000)], [], [], [(65, 1), (71, 2)], 1, 0, 0, (some .int), [], [], 0, 0)
theorem okX6_dayHad (l : Launch) : q_Eok l RX6 cX6_dayHad EX6_dayHad := ⟨tX6_dayHad_ok, flX6_ok, List.forall_mem_cons.mpr ⟨(coX6_34 l), List.forall_mem_cons.mpr ⟨(coX6_38 l), q_nil⟩⟩, q_nil, List.forall_mem_cons.mpr ⟨q_G_i 905 (by decide +kernel) rfl, q_nil⟩, q_nil, List.forall_mem_cons.mpr ⟨Or.inr (Or.inl ⟨rfl, q_G_i 1029 (by decide +kernel) rfl⟩), List.forall_mem_cons.mpr ⟨Or.inr (Or.inr ⟨rfl, q_G_i 1032 (by decide +kernel) rfl⟩), q_nil⟩⟩, q_nil, (fun h => absurd h (by decide))⟩
set_option maxRecDepth 100000 in
set_option maxHeartbeats 4000000 in
theorem ctX6_dayHad (l : Launch) : q_CT l yX6_dayHad (.code yX6_dayHad cX6_dayHad 8 (some .int)) 1 0 0 spX6_dayHad := by
  refine q_ct_of EX6_dayHad (by decide +kernel) (okX6_dayHad l) rfl rfl rfl rfl rfl q_nil (fun ci h => by cases h) rfl ?_
  intro a w K h
  obtain ⟨P, p, k, o, e, rfl, rfl, ho, hp, hK⟩ := h
  obtain ⟨h1, h2, h3, h4, h5⟩ := pOk_ix ho hp
  refine ⟨Nat.le_of_ble_eq_true rfl, fun C hC => ?_⟩
  have loop : ∀ n s x, s + n = p * 8 + pcN P p → dayHd P p k o e = foldF (fun x i => if P.2.2.1 i = k ∧ P.2.2.2.1 i = o ∧ e ≤ P.2.2.2.2.2.1 i then mnI x (mxI (P.2.2.2.2.1 i) e) else x) s n x → C 17 [(0, .ref 0), (1, .int (nI p)), (2, .int k), (3, .int o), (4, .int e), (5, .int x), (6, .int (nI (p * 8 + pcN P p))), (7, .int (nI s))] [] (peopleW 0 P) 0 0 := by
    intro n
    induction n with
    | zero =>
      intro s x hs he
      refine hC _ _ _ _ _ _ ?_
      refine And.intro (fun c1 => ?_) (fun c1 => absurd (nI_le (by omega) (by omega)) c1)
      rw [he] at hK; exact hK
    | succ n ih =>
      intro s x hs he
      have hv : vp_in (nI s) 240 := vp_in_nI (by omega) (by omega)
      have hc : (nI s).toNatClampNeg = s := nI_clamp (by omega)
      refine hC _ _ _ _ _ _ ?_
      have next : ∀ x', x' = (if P.2.2.1 s = k ∧ P.2.2.2.1 s = o ∧ e ≤ P.2.2.2.2.2.1 s then mnI x (mxI (P.2.2.2.2.1 s) e) else x) → C 17 [(0, .ref 0), (1, .int (nI p)), (2, .int k), (3, .int o), (4, .int e), (5, .int x'), (6, .int (nI (p * 8 + pcN P p))), (7, .int (nI s + 1))] [] (peopleW 0 P) 0 0 := by
        intro x' hx
        rw [nI_1]
        exact ih (s + 1) x' (by omega) (by rw [he, foldF, hx])
      refine And.intro (fun c1 => absurd c1 (nI_ge (by omega) (by omega))) (fun c1 => ?_)
      refine And.intro hv (And.intro (fun c2 => next _ ?_) (fun c2 => ?_))
      · rw [hc] at c2; rw [if_neg (fun z => c2 z.1)]
      refine And.intro hv (And.intro (fun c3 => next _ ?_) (fun c3 => ?_))
      · rw [hc] at c3; rw [if_neg (fun z => c3 z.2.1)]
      refine And.intro hv (And.intro (fun c4 => next _ ?_) (fun c4 => ?_))
      · rw [hc] at c4; rw [if_neg (fun z => Int32.not_le.mpr c4 z.2.2)]
      refine ⟨hv, next _ ?_⟩
      rw [hc] at c2 c3 c4
      rw [if_pos ⟨c2, c3, Int32.not_lt.mp c4⟩, hc]
  exact hC _ _ _ _ _ _ ⟨P, p, rfl, rfl, ho, hp, p, rfl, rfl, loop (pcN P p) (p * 8) _ rfl rfl⟩
def tX6_beginningBehind : List q_I := [(0, .ldc 64, 2, 0, 0), (2, .istore 4, 2, 0, 0), (4, .aload_n 0, 1, 0, 0), (5, .iload_n 2, 1, 0, 0), (6, .invokevirtual 34, 3, 0, 0), (9, .istore 5, 2, 0, 0), (11, .iload_n 2, 1, 0, 0), (12, .invokestatic 38, 3, 0, 0), (15, .istore 6, 2, 0, 0), (17, .iload 6, 2, 0, 0), (19, .iload 5, 2, 0, 0), (21, .if_icmp .ge 35, 3, 0, 56), (24, .aload_n 0, 1, 0, 0), (25, .getfield 18, 3, 0, 0), (28, .iload 6, 2, 0, 0), (30, .iaload, 1, 0, 0), (31, .iload_n 3, 1, 0, 0), (32, .if_icmp .ne 18, 3, 0, 50), (35, .iload 4, 2, 0, 0), (37, .aload_n 0, 1, 0, 0), (38, .getfield 24, 3, 0, 0), (41, .iload 6, 2, 0, 0), (43, .iaload, 1, 0, 0), (44, .iload_n 1, 1, 0, 0), (45, .invokestatic 74, 3, 0, 0), (48, .istore 4, 2, 0, 0), (50, .iinc 6 1, 3, 1, 0), (53, .goto (-36), 3, 0, 17), (56, .iload 4, 2, 0, 0), (58, .ireturn, 1, 0, 0)]
theorem tX6_beginningBehind_ok : (tX6_beginningBehind.all (q_okI cX6_beginningBehind)) = true := by decide +kernel

abbrev fdX6_beginningBehind : List (Nat ⊕ (Nat × Nat)) := [.inl 0, .inr (0, 0), .inr (0, 1), .inr (0, 2), .inr (0, 3), .inr (0, 4), .inr (0, 5)]
def spX6_beginningBehind : q_P := fun a w K => ∃ (P : PT) (d : Int32) (p : Nat) (k : Int32), w = peopleW 0 P ∧ a = [.ref 0, .int d, .int (nI p), .int k] ∧ pOk P ∧ p < P.2.2.2.2.2.2 ∧ K (.inl (some (.int (begB P d p k)))) (peopleW 0 P)
abbrev csX6_beginningBehind : q_S := (4, 6, 1, 7, 0, 0, fdX6_beginningBehind, spX6_beginningBehind)
theorem coX6_74 (l : Launch) : q_CO l RX6 74 csX3_sooner := ⟨yX3_sooner, cX3_sooner, (some .int), 3, ⟨by decide +kernel, by decide +kernel, by decide +kernel⟩, q_G_i 4 (by decide +kernel) rfl, Or.inr (Or.inr (Or.inr ⟨rfl, rfl, q_G_i 906 (by decide +kernel) rfl, q_G_i 899 (by decide +kernel) rfl, Or.inl ⟨q_G_i 900 (by decide +kernel) rfl, ctX3_sooner l⟩⟩))⟩
def EX6_beginningBehind : q_E := (tX6_beginningBehind, [(17, [0, 1, 2, 3, 4, 5, 6])], 7, flX6, [(34, csX6_endOfPapers), (38, csX6_firstPaper), (74, csX3_sooner)], [], [(64, 1000000)], [], [], [], 1, 0, 0, (some .int), [], [], 0, 0)
theorem okX6_beginningBehind (l : Launch) : q_Eok l RX6 cX6_beginningBehind EX6_beginningBehind := ⟨tX6_beginningBehind_ok, flX6_ok, List.forall_mem_cons.mpr ⟨(coX6_34 l), List.forall_mem_cons.mpr ⟨(coX6_38 l), List.forall_mem_cons.mpr ⟨(coX6_74 l), q_nil⟩⟩⟩, q_nil, List.forall_mem_cons.mpr ⟨q_G_i 905 (by decide +kernel) rfl, q_nil⟩, q_nil, q_nil, q_nil, (fun h => absurd h (by decide))⟩
set_option maxRecDepth 100000 in
set_option maxHeartbeats 4000000 in
theorem ctX6_beginningBehind (l : Launch) : q_CT l yX6_beginningBehind (.code yX6_beginningBehind cX6_beginningBehind 7 (some .int)) 1 0 0 spX6_beginningBehind := by
  refine q_ct_of EX6_beginningBehind (by decide +kernel) (okX6_beginningBehind l) rfl rfl rfl rfl rfl q_nil (fun ci h => by cases h) rfl ?_
  intro a w K h
  obtain ⟨P, d, p, k, rfl, rfl, ho, hp, hK⟩ := h
  obtain ⟨h1, h2, h3, h4, h5⟩ := pOk_ix ho hp
  refine ⟨Nat.le_of_ble_eq_true rfl, fun C hC => ?_⟩
  have loop : ∀ n s x, s + n = p * 8 + pcN P p → begB P d p k = foldF (fun x i => if P.2.2.1 i = k then soon x (P.2.2.2.2.1 i) d else x) s n x → C 17 [(0, .ref 0), (1, .int d), (2, .int (nI p)), (3, .int k), (4, .int x), (5, .int (nI (p * 8 + pcN P p))), (6, .int (nI s))] [] (peopleW 0 P) 0 0 := by
    intro n
    induction n with
    | zero =>
      intro s x hs he
      refine hC _ _ _ _ _ _ ?_
      refine And.intro (fun c1 => ?_) (fun c1 => absurd (nI_le (by omega) (by omega)) c1)
      rw [he] at hK; exact hK
    | succ n ih =>
      intro s x hs he
      have hv : vp_in (nI s) 240 := vp_in_nI (by omega) (by omega)
      have hc : (nI s).toNatClampNeg = s := nI_clamp (by omega)
      refine hC _ _ _ _ _ _ ?_
      have next : ∀ x', x' = (if P.2.2.1 s = k then soon x (P.2.2.2.2.1 s) d else x) → C 17 [(0, .ref 0), (1, .int d), (2, .int (nI p)), (3, .int k), (4, .int x'), (5, .int (nI (p * 8 + pcN P p))), (6, .int (nI s + 1))] [] (peopleW 0 P) 0 0 := by
        intro x' hx
        rw [nI_1]
        exact ih (s + 1) x' (by omega) (by rw [he, foldF, hx])
      refine And.intro (fun c1 => absurd c1 (nI_ge (by omega) (by omega))) (fun c1 => ?_)
      refine And.intro hv (And.intro (fun c2 => next _ ?_) (fun c2 => ?_))
      · rw [hc] at c2; rw [if_neg c2]
      refine ⟨hv, _, _, _, rfl, rfl, next _ ?_⟩
      rw [hc] at c2
      rw [if_pos c2, hc]
  exact hC _ _ _ _ _ _ ⟨P, p, rfl, rfl, ho, hp, p, rfl, rfl, loop (pcN P p) (p * 8) _ rfl rfl⟩
def tX6_goodLands : List q_I := [(0, .iconst 0, 1, 0, 0), (1, .istore 5, 2, 0, 0), (3, .iconst 0, 1, 0, 0), (4, .istore 6, 2, 0, 0), (6, .iload 6, 2, 0, 0), (8, .aload 4, 2, 0, 0), (10, .getfield 51, 3, 0, 0), (13, .iconst 1, 1, 1, 0), (14, .iaload, 1, 0, 0), (15, .if_icmp .ge 35, 3, 0, 50), (18, .aload_n 0, 1, 0, 0), (19, .iload_n 1, 1, 0, 0), (20, .iload_n 2, 1, 0, 0), (21, .iload 6, 2, 0, 0), (23, .iload_n 3, 1, 0, 0), (24, .aload 4, 2, 0, 0), (26, .getfield 56, 3, 0, 0), (29, .invokevirtual 60, 3, 0, 0), (32, .ifCond .eq 12, 3, 0, 44), (35, .iload 5, 2, 0, 0), (37, .iconst 1, 1, 1, 0), (38, .iload 6, 2, 0, 0), (40, .ishl, 1, 0, 0), (41, .ior, 1, 0, 0), (42, .istore 5, 2, 0, 0), (44, .iinc 6 1, 3, 1, 0), (47, .goto (-41), 3, 0, 6), (50, .iload 5, 2, 0, 0), (52, .ireturn, 1, 0, 0)]
theorem tX6_goodLands_ok : (tX6_goodLands.all (q_okI cX6_goodLands)) = true := by decide +kernel

abbrev fdX6_goodLands : List (Nat ⊕ (Nat × Nat)) := [.inl 0, .inr (0, 0), .inr (0, 1), .inr (0, 2), .inr (0, 3), .inr (0, 4), .inr (0, 5), .inl 4, .inr (7, 0), .inr (7, 6), .inr (9, 0), .inr (9, 1), .inr (9, 2), .inr (9, 3), .inr (9, 4), .inr (9, 5), .inr (9, 6)]
def spX6_goodLands : q_P := fun a w K => ∃ (P : PT) (L : LT) (told : Nat → Int32) (n p : Nat) (k d : Int32) (v1 v2 v3 v4 v5 v7 : Value), w = peopleW 0 P ++ ([.inr (0, [.ref 8, v1, v2, v3, v4, v5, .ref 9, v7]), .inl (1, 4, .inl told)] ++ lawsW 9 L) ∧ a = [.ref 0, .int (nI p), .int k, .int d, .ref 7] ∧ pOk P ∧ L_n L ≤ 24 ∧ p < P.2.2.2.2.2.2 ∧ told 1 = nI n ∧ n ≤ 5 ∧ K (.inl (some (.int (landsG P L p k d n)))) w
abbrev csX6_goodLands : q_S := (5, 6, 3, 7, 0, 0, fdX6_goodLands, spX6_goodLands)
theorem coX6_60 (l : Launch) : q_CO l RX6 60 csX6_hasGood := ⟨yX6_hasGood, cX6_hasGood, (some .boolean), 5, ⟨by decide +kernel, by decide +kernel, by decide +kernel⟩, q_G_i 11 (by decide +kernel) rfl, Or.inl ⟨by decide, rfl, rfl, q_G_i 827 (by decide +kernel) rfl, q_G_i 828 (by decide +kernel) rfl, q_G_i 829 (by decide +kernel) rfl, Or.inl ⟨q_G_i 830 (by decide +kernel) rfl, ctX6_hasGood l⟩⟩⟩
def EX6_goodLands : q_E := (tX6_goodLands, [(6, [0, 1, 2, 3, 4, 5, 6])], 7, flX6, [(60, csX6_hasGood)], [], [], [], [], [], 3, 0, 0, (some .int), [], [], 0, 0)
theorem okX6_goodLands (l : Launch) : q_Eok l RX6 cX6_goodLands EX6_goodLands := ⟨tX6_goodLands_ok, flX6_ok, List.forall_mem_cons.mpr ⟨(coX6_60 l), q_nil⟩, q_nil, q_nil, q_nil, q_nil, q_nil, (fun h => absurd h (by decide))⟩
set_option maxRecDepth 100000 in
set_option maxHeartbeats 4000000 in
theorem ctX6_goodLands (l : Launch) : q_CT l yX6_goodLands (.code yX6_goodLands cX6_goodLands 7 (some .int)) 3 0 0 spX6_goodLands := by
  refine q_ct_of EX6_goodLands (by decide +kernel) (okX6_goodLands l) rfl rfl rfl rfl rfl q_nil (fun ci h => by cases h) rfl ?_
  intro a w K h
  obtain ⟨P, L, told, n, p, k, d, v1, v2, v3, v4, v5, v7, rfl, rfl, ho, hL, hp, ht, hn, hK⟩ := h
  refine ⟨Nat.le_of_ble_eq_true rfl, fun C hC => ?_⟩
  have loop : ∀ m i, i + m = n → C 6 [(0, .ref 0), (1, .int (nI p)), (2, .int k), (3, .int d), (4, .ref 7), (5, .int (landsG P L p k d i)), (6, .int (nI i))] [] (peopleW 0 P ++ ([.inr (0, [.ref 8, v1, v2, v3, v4, v5, .ref 9, v7]), .inl (1, 4, .inl told)] ++ lawsW 9 L)) 0 0 := by
    intro m
    induction m with
    | zero =>
      intro i hi
      have hi : i = n := by omega
      subst hi
      refine hC _ _ _ _ _ _ ?_
      refine ⟨vp_in_nI (n := 1) (by decide) (by decide), And.intro (fun c1 => hK) (fun c1 => absurd (by show told 1 ≤ nI i; rw [ht]; exact Int32.le_refl _) c1)⟩
    | succ m ih =>
      intro i hi
      refine hC _ _ _ _ _ _ ?_
      refine ⟨vp_in_nI (n := 1) (by decide) (by decide), And.intro (fun c1 => absurd (show told 1 ≤ nI i from c1) (by rw [ht]; exact nI_ge (by omega) (by omega))) (fun c1 => ?_)⟩
      refine ⟨P, L, p, _, _, _, rfl, rfl, ho, hL, hp, And.intro (fun c2 => ?_) (fun c2 => ?_)⟩
      · have h9 := ih (i + 1) (by omega)
        rw [landsG, if_neg (by rw [bI_0.mp c2]; decide), ← nI_1] at h9
        exact h9
      · have h9 := ih (i + 1) (by omega)
        rw [landsG, if_pos (bI_n0.mp c2), ← nI_1] at h9
        exact h9
  exact hC _ _ _ _ _ _ (loop n 0 (by omega))
end
section
theorem le_of_nI {a b : Nat} (hb : b < 2 ^ 31) (ha : a < 2 ^ 31) (h : nI a ≤ nI b) : a ≤ b := (nI_leI ha hb).mp h
theorem lt_of_nI {a b : Nat} (hb : b < 2 ^ 31) (ha : a < 2 ^ 31) (h : ¬ nI b ≤ nI a) : a < b := by
  rcases Nat.lt_or_ge a b with z | z
  · exact z
  · exact absurd (nI_le z ha) h
def zf {α : Type} (z : α) (f : Nat → α) (n : Nat) : Nat → α := fun i => if i < n then z else f i
theorem zf_0 {α : Type} (z : α) (f : Nat → α) : zf z f 0 = f := by funext i; simp [zf]
theorem zf_s (z : Int32) (f : Nat → Int32) (n : Nat) : upd (zf z f n) n z = zf z f (n + 1) := by
  funext i
  simp only [upd, zf]
  by_cases h : i = n
  · simp [h]
  · by_cases h2 : i < n
    · simp [h, h2, Nat.lt_succ_of_lt h2]
    · simp [h, h2, show ¬ i < n + 1 by omega]
theorem zf_sL (z : Int64) (f : Nat → Int64) (n : Nat) : vp_updL (zf z f n) n z = zf z f (n + 1) := by
  funext i
  simp only [vp_updL, zf]
  by_cases h : i = n
  · simp [h]
  · by_cases h2 : i < n
    · simp [h, h2, Nat.lt_succ_of_lt h2]
    · simp [h, h2, show ¬ i < n + 1 by omega]
/-- one, other, days, coin, posts, asked, asking, count -/
abbrev RT : Type := (Nat → Int32) × (Nat → Int32) × (Nat → Int32) × (Nat → Int32) × (Nat → Int32) × (Nat → Int32) × (Nat → Int32) × Nat
def roadsW (o : Nat) (R : RT) : List q_C := [.inr (8, [.ref (o + 1), .ref (o + 2), .ref (o + 3), .ref (o + 4), .ref (o + 5), .ref (o + 6), .ref (o + 7), .int (nI R.2.2.2.2.2.2.2)]), .inl (1, 16, .inl R.1), .inl (1, 16, .inl R.2.1), .inl (1, 16, .inl R.2.2.1), .inl (1, 16, .inl R.2.2.2.1), .inl (1, 16, .inl R.2.2.2.2.1), .inl (1, 48, .inl R.2.2.2.2.2.1), .inl (1, 48, .inl R.2.2.2.2.2.2.1)]
def rpN (R : RT) (r : Nat) : Nat := (R.2.2.2.2.1 r).toNatClampNeg
def rOk (R : RT) : Prop := R.2.2.2.2.2.2.2 ≤ 16 ∧ ∀ r, r < R.2.2.2.2.2.2.2 → R.2.2.2.2.1 r = nI (rpN R r) ∧ rpN R r ≤ 3
def roadAdd (R : RT) (x y d c : Int32) : RT := (upd R.1 R.2.2.2.2.2.2.2 x, upd R.2.1 R.2.2.2.2.2.2.2 y, upd R.2.2.1 R.2.2.2.2.2.2.2 d, upd R.2.2.2.1 R.2.2.2.2.2.2.2 c, upd R.2.2.2.2.1 R.2.2.2.2.2.2.2 0, R.2.2.2.2.2.1, R.2.2.2.2.2.2.1, R.2.2.2.2.2.2.2 + 1)
def roadPost (R : RT) (r : Nat) (k l : Int32) : RT := (R.1, R.2.1, R.2.2.1, R.2.2.2.1, upd R.2.2.2.2.1 r (nI (rpN R r + 1)), upd R.2.2.2.2.2.1 (r * 3 + rpN R r) k, upd R.2.2.2.2.2.2.1 (r * 3 + rpN R r) l, R.2.2.2.2.2.2.2)
def acr (R : RT) (r : Nat) (x : Int32) : Int32 := if R.1 r = x then R.2.1 r else if R.2.1 r = x then R.1 r else -1
theorem nI_mul3 (p : Nat) : nI p * 3 = nI (p * 3) := pk_mul p 3

def tX8_hasRoom : List q_I := [(0, .aload_n 0, 1, 0, 0), (1, .getfield 33, 3, 0, 0), (4, .bipush 16, 2, 16, 0), (6, .if_icmp .ge 7, 3, 0, 13), (9, .iconst 1, 1, 1, 0), (10, .goto 4, 3, 0, 14), (13, .iconst 0, 1, 0, 0), (14, .ireturn, 1, 0, 0)]
theorem tX8_hasRoom_ok : (tX8_hasRoom.all (q_okI cX8_hasRoom)) = true := by decide +kernel

abbrev fdX8_hasRoom : List (Nat ⊕ (Nat × Nat)) := [.inl 0, .inr (0, 0), .inr (0, 1), .inr (0, 2), .inr (0, 3), .inr (0, 4), .inr (0, 5), .inr (0, 6)]
def spX8_hasRoom : q_P := fun a w K => ∃ R : RT, w = roadsW 0 R ∧ a = [.ref 0] ∧ R.2.2.2.2.2.2.2 ≤ 16 ∧ K (.inl (some (.int (bI (decide (R.2.2.2.2.2.2.2 < 16)))))) (roadsW 0 R)
abbrev csX8_hasRoom : q_S := (1, 8, 0, 1, 0, 0, fdX8_hasRoom, spX8_hasRoom)
def EX8_hasRoom : q_E := (tX8_hasRoom, [], 1, flX8, [], [], [], [], [], [], 0, 0, 0, (some .boolean), [], [], 0, 0)
theorem okX8_hasRoom (l : Launch) : q_Eok l RX8 cX8_hasRoom EX8_hasRoom := ⟨tX8_hasRoom_ok, flX8_ok, q_nil, q_nil, q_nil, q_nil, q_nil, q_nil, (fun h => absurd h (by decide))⟩
set_option maxRecDepth 100000 in
set_option maxHeartbeats 4000000 in
theorem ctX8_hasRoom (l : Launch) : q_CT l yX8_hasRoom (.code yX8_hasRoom cX8_hasRoom 1 (some .boolean)) 0 0 0 spX8_hasRoom := by
  refine q_ct_of EX8_hasRoom (by decide +kernel) (okX8_hasRoom l) rfl rfl rfl rfl rfl q_nil (fun ci h => by cases h) rfl ?_
  intro a w K h
  obtain ⟨R, rfl, rfl, hn, hK⟩ := h
  refine ⟨Nat.le_of_ble_eq_true rfl, fun C hC => hC _ _ _ _ _ _ ?_⟩
  refine And.intro (fun c => ⟨rfl, ?_⟩) (fun c => ⟨rfl, ?_⟩)
  · rw [bI_f (fun z => nI_ge (b := 16) z (by omega) c)] at hK; exact hK
  · rw [bI_t (lt_of_nI (b := 16) (by omega) (by omega) c)] at hK; exact hK
def tX8_add : List q_I := [(0, .aload_n 0, 1, 0, 0), (1, .getfield 11, 3, 0, 0), (4, .aload_n 0, 1, 0, 0), (5, .getfield 33, 3, 0, 0), (8, .iload_n 1, 1, 0, 0), (9, .iastore, 1, 0, 0), (10, .aload_n 0, 1, 0, 0), (11, .getfield 15, 3, 0, 0), (14, .aload_n 0, 1, 0, 0), (15, .getfield 33, 3, 0, 0), (18, .iload_n 2, 1, 0, 0), (19, .iastore, 1, 0, 0), (20, .aload_n 0, 1, 0, 0), (21, .getfield 18, 3, 0, 0), (24, .aload_n 0, 1, 0, 0), (25, .getfield 33, 3, 0, 0), (28, .iload_n 3, 1, 0, 0), (29, .iastore, 1, 0, 0), (30, .aload_n 0, 1, 0, 0), (31, .getfield 21, 3, 0, 0), (34, .aload_n 0, 1, 0, 0), (35, .getfield 33, 3, 0, 0), (38, .iload 4, 2, 0, 0), (40, .iastore, 1, 0, 0), (41, .aload_n 0, 1, 0, 0), (42, .getfield 24, 3, 0, 0), (45, .aload_n 0, 1, 0, 0), (46, .getfield 33, 3, 0, 0), (49, .iconst 0, 1, 0, 0), (50, .iastore, 1, 0, 0), (51, .aload_n 0, 1, 0, 0), (52, .dup, 1, 0, 0), (53, .getfield 33, 3, 0, 0), (56, .iconst 1, 1, 1, 0), (57, .iadd, 1, 0, 0), (58, .putfield 33, 3, 0, 0), (61, .return_, 1, 0, 0)]
theorem tX8_add_ok : (tX8_add.all (q_okI cX8_add)) = true := by decide +kernel

abbrev fdX8_add : List (Nat ⊕ (Nat × Nat)) := [.inl 0, .inr (0, 0), .inr (0, 1), .inr (0, 2), .inr (0, 3), .inr (0, 4), .inr (0, 5), .inr (0, 6)]
def spX8_add : q_P := fun a w K => ∃ (R : RT) (x y d c : Int32), w = roadsW 0 R ∧ a = [.ref 0, .int x, .int y, .int d, .int c] ∧ R.2.2.2.2.2.2.2 < 16 ∧ K (.inl none) (roadsW 0 (roadAdd R x y d c))
abbrev csX8_add : q_S := (5, 8, 0, 5, 0, 0, fdX8_add, spX8_add)
def EX8_add : q_E := (tX8_add, [], 5, flX8, [], [], [], [], [], [], 0, 0, 0, none, [], [], 0, 0)
theorem okX8_add (l : Launch) : q_Eok l RX8 cX8_add EX8_add := ⟨tX8_add_ok, flX8_ok, q_nil, q_nil, q_nil, q_nil, q_nil, q_nil, (fun h => absurd h (by decide))⟩
set_option maxRecDepth 100000 in
set_option maxHeartbeats 4000000 in
theorem ctX8_add (l : Launch) : q_CT l yX8_add (.code yX8_add cX8_add 5 none) 0 0 0 spX8_add := by
  refine q_ct_of EX8_add (by decide +kernel) (okX8_add l) rfl rfl rfl rfl rfl q_nil (fun ci h => by cases h) rfl ?_
  intro a w K h
  obtain ⟨R, x, y, d, c, rfl, rfl, hn, hK⟩ := h
  refine ⟨Nat.le_of_ble_eq_true rfl, fun C hC => hC _ _ _ _ _ _ ?_⟩
  have hv : vp_in (nI R.2.2.2.2.2.2.2) 16 := vp_in_nI hn (by omega)
  have hc : (nI R.2.2.2.2.2.2.2).toNatClampNeg = R.2.2.2.2.2.2.2 := nI_clamp (by omega)
  refine ⟨hv, hv, hv, hv, hv, ?_⟩
  show K (.inl none) _
  simp only [hc, nI_1]
  exact hK
def tX8_lastHasPostRoom : List q_I := [(0, .aload_n 0, 1, 0, 0), (1, .getfield 33, 3, 0, 0), (4, .ifCond .le 22, 3, 0, 26), (7, .aload_n 0, 1, 0, 0), (8, .getfield 24, 3, 0, 0), (11, .aload_n 0, 1, 0, 0), (12, .getfield 33, 3, 0, 0), (15, .iconst 1, 1, 1, 0), (16, .isub, 1, 0, 0), (17, .iaload, 1, 0, 0), (18, .iconst 3, 1, 3, 0), (19, .if_icmp .ge 7, 3, 0, 26), (22, .iconst 1, 1, 1, 0), (23, .goto 4, 3, 0, 27), (26, .iconst 0, 1, 0, 0), (27, .ireturn, 1, 0, 0)]
theorem tX8_lastHasPostRoom_ok : (tX8_lastHasPostRoom.all (q_okI cX8_lastHasPostRoom)) = true := by decide +kernel

abbrev fdX8_lastHasPostRoom : List (Nat ⊕ (Nat × Nat)) := [.inl 0, .inr (0, 0), .inr (0, 1), .inr (0, 2), .inr (0, 3), .inr (0, 4), .inr (0, 5), .inr (0, 6)]
def spX8_lastHasPostRoom : q_P := fun a w K => ∃ (R : RT) (r : Nat), w = roadsW 0 R ∧ a = [.ref 0] ∧ rOk R ∧ R.2.2.2.2.2.2.2 = r + 1 ∧ K (.inl (some (.int (bI (decide (rpN R r < 3)))))) (roadsW 0 R)
abbrev csX8_lastHasPostRoom : q_S := (1, 8, 0, 1, 0, 0, fdX8_lastHasPostRoom, spX8_lastHasPostRoom)
def EX8_lastHasPostRoom : q_E := (tX8_lastHasPostRoom, [], 1, flX8, [], [], [], [], [], [], 0, 0, 0, (some .boolean), [], [], 0, 0)
theorem okX8_lastHasPostRoom (l : Launch) : q_Eok l RX8 cX8_lastHasPostRoom EX8_lastHasPostRoom := ⟨tX8_lastHasPostRoom_ok, flX8_ok, q_nil, q_nil, q_nil, q_nil, q_nil, q_nil, (fun h => absurd h (by decide))⟩
set_option maxRecDepth 100000 in
set_option maxHeartbeats 4000000 in
theorem ctX8_lastHasPostRoom (l : Launch) : q_CT l yX8_lastHasPostRoom (.code yX8_lastHasPostRoom cX8_lastHasPostRoom 1 (some .boolean)) 0 0 0 spX8_lastHasPostRoom := by
  refine q_ct_of EX8_lastHasPostRoom (by decide +kernel) (okX8_lastHasPostRoom l) rfl rfl rfl rfl rfl q_nil (fun ci h => by cases h) rfl ?_
  intro a w K h
  obtain ⟨R, r, rfl, rfl, ho, hr, hK⟩ := h
  obtain ⟨h3, h4⟩ := ho.2 r (by omega)
  have h16 := ho.1
  refine ⟨Nat.le_of_ble_eq_true rfl, fun C hC => hC _ _ _ _ _ _ ?_⟩
  have e1 : nI R.2.2.2.2.2.2.2 - 1 = nI r := by rw [hr, nI_pred]
  refine And.intro (fun c => absurd c (nI_nle (by omega) (by omega))) (fun c => ⟨by rw [e1]; exact vp_in_nI (by omega) (by omega), ?_⟩)
  have hc : (nI R.2.2.2.2.2.2.2 - 1).toNatClampNeg = r := by rw [e1]; exact nI_clamp (by omega)
  refine And.intro (fun c => ⟨rfl, ?_⟩) (fun c => ⟨rfl, ?_⟩)
  · have c : (3 : Int32) ≤ R.2.2.2.2.1 (nI R.2.2.2.2.2.2.2 - 1).toNatClampNeg := c
    rw [hc, h3] at c
    rw [bI_f (fun z => nI_ge (b := 3) z (by omega) c)] at hK; exact hK
  · have c : ¬ (3 : Int32) ≤ R.2.2.2.2.1 (nI R.2.2.2.2.2.2.2 - 1).toNatClampNeg := c
    rw [hc, h3] at c
    rw [bI_t (lt_of_nI (b := 3) (by omega) (by omega) c)] at hK; exact hK
def tX8_addPostToLast : List q_I := [(0, .aload_n 0, 1, 0, 0), (1, .getfield 33, 3, 0, 0), (4, .iconst 1, 1, 1, 0), (5, .isub, 1, 0, 0), (6, .istore_n 3, 1, 0, 0), (7, .iload_n 3, 1, 0, 0), (8, .iconst 3, 1, 3, 0), (9, .imul, 1, 0, 0), (10, .aload_n 0, 1, 0, 0), (11, .getfield 24, 3, 0, 0), (14, .iload_n 3, 1, 0, 0), (15, .iaload, 1, 0, 0), (16, .iadd, 1, 0, 0), (17, .istore 4, 2, 0, 0), (19, .aload_n 0, 1, 0, 0), (20, .getfield 27, 3, 0, 0), (23, .iload 4, 2, 0, 0), (25, .iload_n 1, 1, 0, 0), (26, .iastore, 1, 0, 0), (27, .aload_n 0, 1, 0, 0), (28, .getfield 30, 3, 0, 0), (31, .iload 4, 2, 0, 0), (33, .iload_n 2, 1, 0, 0), (34, .iastore, 1, 0, 0), (35, .aload_n 0, 1, 0, 0), (36, .getfield 24, 3, 0, 0), (39, .iload_n 3, 1, 0, 0), (40, .dup2, 1, 0, 0), (41, .iaload, 1, 0, 0), (42, .iconst 1, 1, 1, 0), (43, .iadd, 1, 0, 0), (44, .iastore, 1, 0, 0), (45, .return_, 1, 0, 0)]
theorem tX8_addPostToLast_ok : (tX8_addPostToLast.all (q_okI cX8_addPostToLast)) = true := by decide +kernel

abbrev fdX8_addPostToLast : List (Nat ⊕ (Nat × Nat)) := [.inl 0, .inr (0, 0), .inr (0, 1), .inr (0, 2), .inr (0, 3), .inr (0, 4), .inr (0, 5), .inr (0, 6)]
def spX8_addPostToLast : q_P := fun a w K => ∃ (R : RT) (r : Nat) (k l : Int32), w = roadsW 0 R ∧ a = [.ref 0, .int k, .int l] ∧ rOk R ∧ R.2.2.2.2.2.2.2 = r + 1 ∧ rpN R r < 3 ∧ K (.inl none) (roadsW 0 (roadPost R r k l))
abbrev csX8_addPostToLast : q_S := (3, 8, 0, 5, 0, 0, fdX8_addPostToLast, spX8_addPostToLast)
def EX8_addPostToLast : q_E := (tX8_addPostToLast, [], 5, flX8, [], [], [], [], [], [], 0, 0, 0, none, [], [], 0, 0)
theorem okX8_addPostToLast (l : Launch) : q_Eok l RX8 cX8_addPostToLast EX8_addPostToLast := ⟨tX8_addPostToLast_ok, flX8_ok, q_nil, q_nil, q_nil, q_nil, q_nil, q_nil, (fun h => absurd h (by decide))⟩
set_option maxRecDepth 100000 in
set_option maxHeartbeats 4000000 in
theorem ctX8_addPostToLast (l : Launch) : q_CT l yX8_addPostToLast (.code yX8_addPostToLast cX8_addPostToLast 5 none) 0 0 0 spX8_addPostToLast := by
  refine q_ct_of EX8_addPostToLast (by decide +kernel) (okX8_addPostToLast l) rfl rfl rfl rfl rfl q_nil (fun ci h => by cases h) rfl ?_
  intro a w K h
  obtain ⟨R, r, k, l, rfl, rfl, ho, hr, hlt, hK⟩ := h
  obtain ⟨h3, h4⟩ := ho.2 r (by omega)
  have h16 := ho.1
  refine ⟨Nat.le_of_ble_eq_true rfl, fun C hC => hC _ _ _ _ _ _ ?_⟩
  have e1 : nI R.2.2.2.2.2.2.2 - 1 = nI r := by rw [hr, nI_pred]
  have hc : (nI R.2.2.2.2.2.2.2 - 1).toNatClampNeg = r := by rw [e1]; exact nI_clamp (by omega)
  have hv : vp_in (nI R.2.2.2.2.2.2.2 - 1) 16 := by rw [e1]; exact vp_in_nI (by omega) (by omega)
  have e2 : (nI R.2.2.2.2.2.2.2 - 1) * 3 + R.2.2.2.2.1 (nI R.2.2.2.2.2.2.2 - 1).toNatClampNeg = nI (r * 3 + rpN R r) := by rw [hc, e1, h3, nI_mul3, nI_add]
  have hv2 : vp_in ((nI R.2.2.2.2.2.2.2 - 1) * 3 + R.2.2.2.2.1 (nI R.2.2.2.2.2.2.2 - 1).toNatClampNeg) 48 := by rw [e2]; exact vp_in_nI (by omega) (by omega)
  have hc2 : (nI (r * 3 + rpN R r)).toNatClampNeg = r * 3 + rpN R r := nI_clamp (by omega)
  refine ⟨hv, hv2, hv2, hv, hv, ?_⟩
  show K (.inl none) _
  simp only [e2]
  simp only [hc2, hc, h3, nI_1]
  exact hK
def tX8_across : List q_I := [(0, .aload_n 0, 1, 0, 0), (1, .getfield 11, 3, 0, 0), (4, .iload_n 1, 1, 0, 0), (5, .iaload, 1, 0, 0), (6, .iload_n 2, 1, 0, 0), (7, .if_icmp .ne 10, 3, 0, 17), (10, .aload_n 0, 1, 0, 0), (11, .getfield 15, 3, 0, 0), (14, .iload_n 1, 1, 0, 0), (15, .iaload, 1, 0, 0), (16, .ireturn, 1, 0, 0), (17, .aload_n 0, 1, 0, 0), (18, .getfield 15, 3, 0, 0), (21, .iload_n 1, 1, 0, 0), (22, .iaload, 1, 0, 0), (23, .iload_n 2, 1, 0, 0), (24, .if_icmp .ne 12, 3, 0, 36), (27, .aload_n 0, 1, 0, 0), (28, .getfield 11, 3, 0, 0), (31, .iload_n 1, 1, 0, 0), (32, .iaload, 1, 0, 0), (33, .goto 4, 3, 0, 37), (36, .iconst (-1), 1, (-1), 0), (37, .ireturn, 1, 0, 0)]
theorem tX8_across_ok : (tX8_across.all (q_okI cX8_across)) = true := by decide +kernel

abbrev fdX8_across : List (Nat ⊕ (Nat × Nat)) := [.inl 0, .inr (0, 0), .inr (0, 1), .inr (0, 2), .inr (0, 3), .inr (0, 4), .inr (0, 5), .inr (0, 6)]
def spX8_across : q_P := fun a w K => ∃ (R : RT) (r : Nat) (x : Int32), w = roadsW 0 R ∧ a = [.ref 0, .int (nI r), .int x] ∧ r < 16 ∧ K (.inl (some (.int (acr R r x)))) (roadsW 0 R)
abbrev csX8_across : q_S := (3, 8, 0, 3, 0, 0, fdX8_across, spX8_across)
def EX8_across : q_E := (tX8_across, [], 3, flX8, [], [], [], [], [], [], 0, 0, 0, (some .int), [], [], 0, 0)
theorem okX8_across (l : Launch) : q_Eok l RX8 cX8_across EX8_across := ⟨tX8_across_ok, flX8_ok, q_nil, q_nil, q_nil, q_nil, q_nil, q_nil, (fun h => absurd h (by decide))⟩
set_option maxRecDepth 100000 in
set_option maxHeartbeats 4000000 in
theorem ctX8_across (l : Launch) : q_CT l yX8_across (.code yX8_across cX8_across 3 (some .int)) 0 0 0 spX8_across := by
  refine q_ct_of EX8_across (by decide +kernel) (okX8_across l) rfl rfl rfl rfl rfl q_nil (fun ci h => by cases h) rfl ?_
  intro a w K h
  obtain ⟨R, r, x, rfl, rfl, hr, hK⟩ := h
  refine ⟨Nat.le_of_ble_eq_true rfl, fun C hC => hC _ _ _ _ _ _ ?_⟩
  have hv : vp_in (nI r) 16 := vp_in_nI hr (by omega)
  have hc : (nI r).toNatClampNeg = r := nI_clamp (by omega)
  refine ⟨hv, And.intro (fun c => ⟨hv, And.intro (fun c2 => ?_) (fun c2 => ⟨hv, ?_⟩)⟩) (fun c => ⟨hv, ?_⟩)⟩
  · have c : ¬ R.1 (nI r).toNatClampNeg = x := c
    have c2 : ¬ R.2.1 (nI r).toNatClampNeg = x := c2
    rw [hc] at c c2
    rw [acr, if_neg c, if_neg c2] at hK; exact hK
  · have c : ¬ R.1 (nI r).toNatClampNeg = x := c
    have c2 : R.2.1 (nI r).toNatClampNeg = x := c2
    rw [hc] at c c2
    rw [acr, if_neg c, if_pos c2] at hK
    show K (.inl (some (.int _))) _
    rw [hc]; exact hK
  · have c : R.1 (nI r).toNatClampNeg = x := c
    rw [hc] at c
    rw [acr, if_pos c] at hK
    show K (.inl (some (.int _))) _
    rw [hc]; exact hK
/-- kind, office, after, cases, caseSort, caseSubject, caseOffice, past, count -/
abbrev GT : Type := (Nat → Int32) × (Nat → Int32) × (Nat → Int32) × (Nat → Int32) × (Nat → Int32) × (Nat → Int32) × (Nat → Int32) × (Nat → Int32) × Nat
def giftsW (o : Nat) (G : GT) : List q_C := [.inr (2, [.ref (o + 1), .ref (o + 2), .ref (o + 3), .ref (o + 4), .ref (o + 5), .ref (o + 6), .ref (o + 7), .ref (o + 8), .int (nI G.2.2.2.2.2.2.2.2)]), .inl (1, 12, .inl G.1), .inl (1, 12, .inl G.2.1), .inl (1, 12, .inl G.2.2.1), .inl (1, 12, .inl G.2.2.2.1), .inl (1, 36, .inl G.2.2.2.2.1), .inl (1, 36, .inl G.2.2.2.2.2.1), .inl (1, 36, .inl G.2.2.2.2.2.2.1), .inl (3, 12, .inl G.2.2.2.2.2.2.2.1)]
/-- told, name, sort, number, names -/
abbrev BT : Type := (Nat → Int32) × (Nat → Int64) × (Nat → Int32) × (Nat → Int32) × Nat
def bookO (o : Nat) (r l g : Value) (B : BT) : List q_C := [.inr (0, [.ref (o + 1), .ref (o + 2), .ref (o + 3), .ref (o + 4), .int (nI B.2.2.2.2), r, l, g]), .inl (1, 4, .inl B.1), .inl (2, 25, .inr B.2.1), .inl (1, 25, .inl B.2.2.1), .inl (1, 25, .inl B.2.2.2.1)]
def bookW (o : Nat) (B : BT) (R : RT) (L : LT) (G : GT) : List q_C := bookO o (.ref (o + 5)) (.ref (o + 13)) (.ref (o + 21)) B ++ (roadsW (o + 5) R ++ (lawsW (o + 13) L ++ giftsW (o + 21) G))
def bookClear (B : BT) : BT := (zf 0 B.1 4, B.2.1, B.2.2.1, B.2.2.2.1, 0)
def roadsZ (R : RT) : RT := (R.1, R.2.1, R.2.2.1, R.2.2.2.1, R.2.2.2.2.1, R.2.2.2.2.2.1, R.2.2.2.2.2.2.1, 0)
def lawsC (L : LT) (n : Nat) : LT := (L.1, L.2.1, L.2.2.1, L.2.2.2.1, L.2.2.2.2.1, L.2.2.2.2.2.1, L.2.2.2.2.2.2.1, n)
def giftsZ (G : GT) : GT := (G.1, G.2.1, G.2.2.1, G.2.2.2.1, G.2.2.2.2.1, G.2.2.2.2.2.1, G.2.2.2.2.2.2.1, G.2.2.2.2.2.2.2.1, 0)
def tX0_clear : List q_I := [(0, .iconst 0, 1, 0, 0), (1, .istore_n 1, 1, 0, 0), (2, .iload_n 1, 1, 0, 0), (3, .aload_n 0, 1, 0, 0), (4, .getfield 9, 3, 0, 0), (7, .arraylength, 1, 0, 0), (8, .if_icmp .ge 16, 3, 0, 24), (11, .aload_n 0, 1, 0, 0), (12, .getfield 9, 3, 0, 0), (15, .iload_n 1, 1, 0, 0), (16, .iconst 0, 1, 0, 0), (17, .iastore, 1, 0, 0), (18, .iinc 1 1, 3, 1, 0), (21, .goto (-19), 3, 0, 2), (24, .aload_n 0, 1, 0, 0), (25, .iconst 0, 1, 0, 0), (26, .putfield 46, 3, 0, 0), (29, .aload_n 0, 1, 0, 0), (30, .getfield 28, 3, 0, 0), (33, .iconst 0, 1, 0, 0), (34, .putfield 50, 3, 0, 0), (37, .aload_n 0, 1, 0, 0), (38, .getfield 35, 3, 0, 0), (41, .iconst 0, 1, 0, 0), (42, .putfield 53, 3, 0, 0), (45, .aload_n 0, 1, 0, 0), (46, .getfield 42, 3, 0, 0), (49, .iconst 0, 1, 0, 0), (50, .putfield 54, 3, 0, 0), (53, .return_, 1, 0, 0)]
theorem tX0_clear_ok : (tX0_clear.all (q_okI cX0_clear)) = true := by decide +kernel

abbrev fdX0_clear : List (Nat ⊕ (Nat × Nat)) := [.inl 0, .inr (0, 0), .inr (0, 1), .inr (0, 2), .inr (0, 3), .inr (0, 5), .inr (5, 0), .inr (5, 1), .inr (5, 2), .inr (5, 3), .inr (5, 4), .inr (5, 5), .inr (5, 6), .inr (0, 6), .inr (13, 0), .inr (13, 1), .inr (13, 2), .inr (13, 3), .inr (13, 4), .inr (13, 5), .inr (13, 6), .inr (0, 7), .inr (21, 0), .inr (21, 1), .inr (21, 2), .inr (21, 3), .inr (21, 4), .inr (21, 5), .inr (21, 6), .inr (21, 7)]
def spX0_clear : q_P := fun a w K => ∃ (B : BT) (R : RT) (L : LT) (G : GT), w = bookW 0 B R L G ∧ a = [.ref 0] ∧ K (.inl none) (bookW 0 (bookClear B) (roadsZ R) (lawsC L 0) (giftsZ G))
abbrev csX0_clear : q_S := (1, 0, 0, 2, 0, 0, fdX0_clear, spX0_clear)
def EX0_clear : q_E := (tX0_clear, [(2, [0, 1])], 2, flX0, [], [], [], [], [], [], 0, 0, 0, none, [], [], 0, 0)
theorem okX0_clear (l : Launch) : q_Eok l RX0 cX0_clear EX0_clear := ⟨tX0_clear_ok, flX0_ok, q_nil, q_nil, q_nil, q_nil, q_nil, q_nil, (fun h => absurd h (by decide))⟩
set_option maxRecDepth 100000 in
set_option maxHeartbeats 4000000 in
theorem ctX0_clear (l : Launch) : q_CT l yX0_clear (.code yX0_clear cX0_clear 2 none) 0 0 0 spX0_clear := by
  refine q_ct_of EX0_clear (by decide +kernel) (okX0_clear l) rfl rfl rfl rfl rfl q_nil (fun ci h => by cases h) rfl ?_
  intro a w K h
  obtain ⟨B, R, L, G, rfl, rfl, hK⟩ := h
  refine ⟨Nat.le_of_ble_eq_true rfl, fun C hC => ?_⟩
  have loop : ∀ n i, i + n = 4 → C 2 [(0, .ref 0), (1, .int (nI i))] [] (bookW 0 (zf 0 B.1 i, B.2.1, B.2.2.1, B.2.2.2.1, B.2.2.2.2) R L G) 0 0 := by
    intro n
    induction n with
    | zero =>
      intro i hi
      have hi : i = 4 := by omega
      subst hi
      refine hC _ _ _ _ _ _ ?_
      exact ⟨Or.inr (Or.inl rfl), And.intro (fun c1 => hK) (fun c1 => absurd (Int32.le_refl _) c1)⟩
    | succ n ih =>
      intro i hi
      refine hC _ _ _ _ _ _ ?_
      refine ⟨Or.inr (Or.inl rfl), And.intro (fun c1 => absurd c1 (nI_ge (b := 4) (by omega) (by omega))) (fun c1 => ⟨vp_in_nI (by omega) (by omega), ?_⟩)⟩
      have h9 := ih (i + 1) (by omega)
      rw [← nI_1, ← zf_s] at h9
      have hc : (nI i).toNatClampNeg = i := nI_clamp (by omega)
      rw [show upd (zf 0 B.1 i) i 0 = upd (zf 0 B.1 i) (nI i).toNatClampNeg 0 by rw [hc]] at h9
      exact h9
  refine hC _ _ _ _ _ _ ?_
  have h9 := loop 4 0 rfl
  rw [zf_0] at h9
  exact h9
def tX0_has : List q_I := [(0, .iload_n 2, 1, 0, 0), (1, .ifCond .lt 17, 3, 0, 18), (4, .iload_n 2, 1, 0, 0), (5, .aload_n 0, 1, 0, 0), (6, .getfield 9, 3, 0, 0), (9, .iload_n 1, 1, 0, 0), (10, .iaload, 1, 0, 0), (11, .if_icmp .ge 7, 3, 0, 18), (14, .iconst 1, 1, 1, 0), (15, .goto 4, 3, 0, 19), (18, .iconst 0, 1, 0, 0), (19, .ireturn, 1, 0, 0)]
theorem tX0_has_ok : (tX0_has.all (q_okI cX0_has)) = true := by decide +kernel

abbrev fdX0_has : List (Nat ⊕ (Nat × Nat)) := [.inl 0, .inr (0, 0)]
def spX0_has : q_P := fun a w K => ∃ (told : Nat → Int32) (s : Nat) (x : Int32) (v1 v2 v3 v4 v5 v6 v7 : Value), w = [.inr (0, [.ref 1, v1, v2, v3, v4, v5, v6, v7]), .inl (1, 4, .inl told)] ∧ a = [.ref 0, .int (nI s), .int x] ∧ s < 4 ∧ K (.inl (some (.int (bI (decide (0 ≤ x ∧ x < told s)))))) w
abbrev csX0_has : q_S := (3, 0, 0, 3, 0, 0, fdX0_has, spX0_has)
def EX0_has : q_E := (tX0_has, [], 3, flX0, [], [], [], [], [], [], 0, 0, 0, (some .boolean), [], [], 0, 0)
theorem okX0_has (l : Launch) : q_Eok l RX0 cX0_has EX0_has := ⟨tX0_has_ok, flX0_ok, q_nil, q_nil, q_nil, q_nil, q_nil, q_nil, (fun h => absurd h (by decide))⟩
set_option maxRecDepth 100000 in
set_option maxHeartbeats 4000000 in
theorem ctX0_has (l : Launch) : q_CT l yX0_has (.code yX0_has cX0_has 3 (some .boolean)) 0 0 0 spX0_has := by
  refine q_ct_of EX0_has (by decide +kernel) (okX0_has l) rfl rfl rfl rfl rfl q_nil (fun ci h => by cases h) rfl ?_
  intro a w K h
  obtain ⟨told, s, x, v1, v2, v3, v4, v5, v6, v7, rfl, rfl, hs, hK⟩ := h
  refine ⟨Nat.le_of_ble_eq_true rfl, fun C hC => hC _ _ _ _ _ _ ?_⟩
  have hc : (nI s).toNatClampNeg = s := nI_clamp (by omega)
  refine And.intro (fun c => ⟨rfl, ?_⟩) (fun c => ⟨vp_in_nI hs (by omega), And.intro (fun c2 => ⟨rfl, ?_⟩) (fun c2 => ⟨rfl, ?_⟩)⟩)
  · rw [bI_f (fun z => Int32.not_le.mpr c z.1)] at hK; exact hK
  · rw [hc] at c2; rw [bI_f (fun z => Int32.not_le.mpr z.2 c2)] at hK; exact hK
  · rw [hc] at c2; rw [bI_t ⟨Int32.not_lt.mp c, Int32.not_le.mp c2⟩] at hK; exact hK
def tX0_hasRoom : List q_I := [(0, .aload_n 0, 1, 0, 0), (1, .getfield 46, 3, 0, 0), (4, .bipush 25, 2, 25, 0), (6, .if_icmp .ge 21, 3, 0, 27), (9, .aload_n 0, 1, 0, 0), (10, .getfield 9, 3, 0, 0), (13, .iload_n 1, 1, 0, 0), (14, .iaload, 1, 0, 0), (15, .getstatic 55, 3, 0, 0), (18, .iload_n 1, 1, 0, 0), (19, .iaload, 1, 0, 0), (20, .if_icmp .ge 7, 3, 0, 27), (23, .iconst 1, 1, 1, 0), (24, .goto 4, 3, 0, 28), (27, .iconst 0, 1, 0, 0), (28, .ireturn, 1, 0, 0)]
theorem tX0_hasRoom_ok : (tX0_hasRoom.all (q_okI cX0_hasRoom)) = true := by decide +kernel

abbrev fdX0_hasRoom : List (Nat ⊕ (Nat × Nat)) := [.inl 0, .inr (0, 0), .inr (0, 1), .inr (0, 2), .inr (0, 3)]
def spX0_hasRoom : q_P := fun a w K => ∃ (B : BT) (r l g : Value) (s : Nat), w = bookO 0 r l g B ∧ a = [.ref 0, .int (nI s)] ∧ s < 4 ∧ B.2.2.2.2 ≤ 25 ∧ K (.inl (some (.int (bI (decide (B.2.2.2.2 < 25 ∧ B.1 s < q_ROOM s)))))) (bookO 0 r l g B)
abbrev csX0_hasRoom : q_S := (2, 0, 0, 2, 0, 0, fdX0_hasRoom, spX0_hasRoom)
def EX0_hasRoom : q_E := (tX0_hasRoom, [], 2, flX0, [], [], [], [], [(44, 4, q_ROOM)], [(55, 44)], 0, 0, 0, (some .boolean), [], [], 0, 0)
theorem okX0_hasRoom (l : Launch) : q_Eok l RX0 cX0_hasRoom EX0_hasRoom := ⟨tX0_hasRoom_ok, flX0_ok, q_nil, q_nil, q_nil, q_nil, List.forall_mem_cons.mpr ⟨Or.inl ⟨rfl, q_G_i 644 (by decide +kernel) rfl⟩, q_nil⟩, q_nil, (fun h => absurd h (by decide))⟩
set_option maxRecDepth 100000 in
set_option maxHeartbeats 4000000 in
theorem ctX0_hasRoom (l : Launch) : q_CT l yX0_hasRoom (.code yX0_hasRoom cX0_hasRoom 2 (some .boolean)) 0 0 0 spX0_hasRoom := by
  refine q_ct_of EX0_hasRoom (by decide +kernel) (okX0_hasRoom l) rfl rfl rfl rfl rfl (fun x h => List.mem_singleton.mp h) (fun ci h => by cases h) rfl ?_
  intro a w K h
  obtain ⟨B, r, l, g, s, rfl, rfl, hs, hn, hK⟩ := h
  refine ⟨Nat.le_of_ble_eq_true rfl, fun C hC => hC _ _ _ _ _ _ ?_⟩
  have hc : (nI s).toNatClampNeg = s := nI_clamp (by omega)
  have hv : vp_in (nI s) 4 := vp_in_nI hs (by omega)
  refine And.intro (fun c => ⟨rfl, ?_⟩) (fun c => ⟨hv, hv, And.intro (fun c2 => ⟨rfl, ?_⟩) (fun c2 => ⟨rfl, ?_⟩)⟩)
  · rw [bI_f (fun z => nI_ge (b := 25) z.1 (by omega) c)] at hK; exact hK
  · rw [hc] at c2; rw [bI_f (fun z => Int32.not_le.mpr z.2 c2)] at hK; exact hK
  · rw [hc] at c2; rw [bI_t ⟨lt_of_nI (b := 25) (by omega) (by omega) c, Int32.not_le.mp c2⟩] at hK; exact hK
def bookTell (B : BT) (x : Int64) (s : Nat) : BT := (upd B.1 s (B.1 s + 1), vp_updL B.2.1 B.2.2.2.2 x, upd B.2.2.1 B.2.2.2.2 (nI s), upd B.2.2.2.1 B.2.2.2.2 (B.1 s), B.2.2.2.2 + 1)
def tX0_tell : List q_I := [(0, .aload_n 0, 1, 0, 0), (1, .getfield 15, 3, 0, 0), (4, .aload_n 0, 1, 0, 0), (5, .getfield 46, 3, 0, 0), (8, .lload_n 1, 1, 0, 0), (9, .lastore, 1, 0, 0), (10, .aload_n 0, 1, 0, 0), (11, .getfield 19, 3, 0, 0), (14, .aload_n 0, 1, 0, 0), (15, .getfield 46, 3, 0, 0), (18, .iload_n 3, 1, 0, 0), (19, .iastore, 1, 0, 0), (20, .aload_n 0, 1, 0, 0), (21, .getfield 22, 3, 0, 0), (24, .aload_n 0, 1, 0, 0), (25, .getfield 46, 3, 0, 0), (28, .aload_n 0, 1, 0, 0), (29, .getfield 9, 3, 0, 0), (32, .iload_n 3, 1, 0, 0), (33, .iaload, 1, 0, 0), (34, .iastore, 1, 0, 0), (35, .aload_n 0, 1, 0, 0), (36, .dup, 1, 0, 0), (37, .getfield 46, 3, 0, 0), (40, .iconst 1, 1, 1, 0), (41, .iadd, 1, 0, 0), (42, .putfield 46, 3, 0, 0), (45, .aload_n 0, 1, 0, 0), (46, .getfield 9, 3, 0, 0), (49, .iload_n 3, 1, 0, 0), (50, .dup2, 1, 0, 0), (51, .iaload, 1, 0, 0), (52, .iconst 1, 1, 1, 0), (53, .iadd, 1, 0, 0), (54, .iastore, 1, 0, 0), (55, .return_, 1, 0, 0)]
theorem tX0_tell_ok : (tX0_tell.all (q_okI cX0_tell)) = true := by decide +kernel

abbrev fdX0_tell : List (Nat ⊕ (Nat × Nat)) := [.inl 0, .inr (0, 0), .inr (0, 1), .inr (0, 2), .inr (0, 3)]
def spX0_tell : q_P := fun a w K => ∃ (B : BT) (r l g : Value) (x : Int64) (s : Nat), w = bookO 0 r l g B ∧ a = [.ref 0, .long x, .int (nI s)] ∧ s < 4 ∧ B.2.2.2.2 < 25 ∧ K (.inl none) (bookO 0 r l g (bookTell B x s))
abbrev csX0_tell : q_S := (3, 0, 0, 4, 0, 0, fdX0_tell, spX0_tell)
def EX0_tell : q_E := (tX0_tell, [], 4, flX0, [], [], [], [], [], [], 0, 0, 0, none, [], [], 0, 0)
theorem okX0_tell (l : Launch) : q_Eok l RX0 cX0_tell EX0_tell := ⟨tX0_tell_ok, flX0_ok, q_nil, q_nil, q_nil, q_nil, q_nil, q_nil, (fun h => absurd h (by decide))⟩
set_option maxRecDepth 100000 in
set_option maxHeartbeats 4000000 in
theorem ctX0_tell (l : Launch) : q_CT l yX0_tell (.code yX0_tell cX0_tell 4 none) 0 0 0 spX0_tell := by
  refine q_ct_of EX0_tell (by decide +kernel) (okX0_tell l) rfl rfl rfl rfl rfl q_nil (fun ci h => by cases h) rfl ?_
  intro a w K h
  obtain ⟨B, r, l, g, x, s, rfl, rfl, hs, hn, hK⟩ := h
  refine ⟨Nat.le_of_ble_eq_true rfl, fun C hC => hC _ _ _ _ _ _ ?_⟩
  have hc : (nI s).toNatClampNeg = s := nI_clamp (by omega)
  have hv : vp_in (nI s) 4 := vp_in_nI hs (by omega)
  have hc2 : (nI B.2.2.2.2).toNatClampNeg = B.2.2.2.2 := nI_clamp (by omega)
  have hv2 : vp_in (nI B.2.2.2.2) 25 := vp_in_nI hn (by omega)
  refine ⟨hv2, hv2, hv, hv2, hv, hv, ?_⟩
  show K (.inl none) _
  simp only [hc, hc2, nI_1]
  exact hK
def fstO (P : Nat → Bool) : Nat → Nat → Option Nat
  | _, 0 => none
  | s, n + 1 => if P s then some s else fstO P (s + 1) n
def tX0_find : List q_I := [(0, .iconst 0, 1, 0, 0), (1, .istore_n 3, 1, 0, 0), (2, .iload_n 3, 1, 0, 0), (3, .aload_n 0, 1, 0, 0), (4, .getfield 46, 3, 0, 0), (7, .if_icmp .ge 22, 3, 0, 29), (10, .aload_n 0, 1, 0, 0), (11, .getfield 15, 3, 0, 0), (14, .iload_n 3, 1, 0, 0), (15, .laload, 1, 0, 0), (16, .lload_n 1, 1, 0, 0), (17, .lcmp, 1, 0, 0), (18, .ifCond .ne 5, 3, 0, 23), (21, .iload_n 3, 1, 0, 0), (22, .ireturn, 1, 0, 0), (23, .iinc 3 1, 3, 1, 0), (26, .goto (-24), 3, 0, 2), (29, .iconst (-1), 1, (-1), 0), (30, .ireturn, 1, 0, 0)]
theorem tX0_find_ok : (tX0_find.all (q_okI cX0_find)) = true := by decide +kernel

abbrev fdX0_find : List (Nat ⊕ (Nat × Nat)) := [.inl 0, .inr (0, 0), .inr (0, 1), .inr (0, 2), .inr (0, 3)]
def spX0_find : q_P := fun a w K => ∃ (B : BT) (r l g : Value) (x : Int64), w = bookO 0 r l g B ∧ a = [.ref 0, .long x] ∧ B.2.2.2.2 ≤ 25 ∧ K (.inl (some (.int (oI (fstO (fun i => decide (B.2.1 i = x)) 0 B.2.2.2.2))))) (bookO 0 r l g B)
abbrev csX0_find : q_S := (2, 0, 0, 4, 0, 0, fdX0_find, spX0_find)
def EX0_find : q_E := (tX0_find, [(2, [0, 1, 3])], 4, flX0, [], [], [], [], [], [], 0, 0, 0, (some .int), [], [], 0, 0)
theorem okX0_find (l : Launch) : q_Eok l RX0 cX0_find EX0_find := ⟨tX0_find_ok, flX0_ok, q_nil, q_nil, q_nil, q_nil, q_nil, q_nil, (fun h => absurd h (by decide))⟩
set_option maxRecDepth 100000 in
set_option maxHeartbeats 4000000 in
theorem ctX0_find (l : Launch) : q_CT l yX0_find (.code yX0_find cX0_find 4 (some .int)) 0 0 0 spX0_find := by
  refine q_ct_of EX0_find (by decide +kernel) (okX0_find l) rfl rfl rfl rfl rfl q_nil (fun ci h => by cases h) rfl ?_
  intro a w K h
  obtain ⟨B, r, l, g, x, rfl, rfl, hn, hK⟩ := h
  refine ⟨Nat.le_of_ble_eq_true rfl, fun C hC => ?_⟩
  have loop : ∀ n i, i + n = B.2.2.2.2 → fstO (fun i => decide (B.2.1 i = x)) 0 B.2.2.2.2 = fstO (fun i => decide (B.2.1 i = x)) i n → C 2 [(0, .ref 0), (1, .long x), (3, .int (nI i))] [] (bookO 0 r l g B) 0 0 := by
    intro n
    induction n with
    | zero =>
      intro i hi he
      refine hC _ _ _ _ _ _ ?_
      refine And.intro (fun c1 => ?_) (fun c1 => absurd (nI_le (by omega) (by omega)) c1)
      rw [he] at hK; exact hK
    | succ n ih =>
      intro i hi he
      refine hC _ _ _ _ _ _ ?_
      have hc : (nI i).toNatClampNeg = i := nI_clamp (by omega)
      refine And.intro (fun c1 => absurd c1 (nI_ge (by omega) (by omega))) (fun c1 => ⟨vp_in_nI (by omega) (by omega), And.intro (fun c2 => ?_) (fun c2 => ?_)⟩)
      · have c2 := fun z => c2 ((lg_cmp_eq _ _).mpr z)
        rw [hc] at c2
        have h9 := ih (i + 1) (by omega) (by rw [he, fstO, decide_eq_false c2]; rfl)
        rw [← nI_1] at h9
        exact h9
      · have c2 := (lg_cmp_eq _ _).mp c2
        rw [hc] at c2
        rw [he, fstO, decide_eq_true c2] at hK; exact hK
  exact hC _ _ _ _ _ _ (loop B.2.2.2.2 0 (by omega) rfl)
/-- kind, office, person, matter, value, since, byLand, count -/
abbrev CT : Type := (Nat → Int32) × (Nat → Int32) × (Nat → Int32) × (Nat → Int32) × (Nat → Int32) × (Nat → Int32) × (Nat → Int32) × Nat
def courtW (o : Nat) (C : CT) : List q_C := [.inr (1, [.ref (o + 1), .ref (o + 2), .ref (o + 3), .ref (o + 4), .ref (o + 5), .ref (o + 6), .ref (o + 7), .int (nI C.2.2.2.2.2.2.2)]), .inl (1, 20, .inl C.1), .inl (1, 20, .inl C.2.1), .inl (1, 20, .inl C.2.2.1), .inl (1, 20, .inl C.2.2.2.1), .inl (1, 20, .inl C.2.2.2.2.1), .inl (1, 20, .inl C.2.2.2.2.2.1), .inl (1, 5, .inl C.2.2.2.2.2.2.1)]
def courtAdd (C : CT) (k o p m v s : Int32) : CT := (upd C.1 C.2.2.2.2.2.2.2 k, upd C.2.1 C.2.2.2.2.2.2.2 o, upd C.2.2.1 C.2.2.2.2.2.2.2 p, upd C.2.2.2.1 C.2.2.2.2.2.2.2 m, upd C.2.2.2.2.1 C.2.2.2.2.2.2.2 v, upd C.2.2.2.2.2.1 C.2.2.2.2.2.2.2 s, C.2.2.2.2.2.2.1, C.2.2.2.2.2.2.2 + 1)
def courtB (C : CT) (g : Nat → Int32) : CT := (C.1, C.2.1, C.2.2.1, C.2.2.2.1, C.2.2.2.2.1, C.2.2.2.2.2.1, g, C.2.2.2.2.2.2.2)
def bndP (C : CT) (L : LT) (on m land day : Int32) (j : Nat) : Bool := decide (C.2.2.1 j = on) && (decide (C.2.2.2.1 j = m) && (decide (C.2.2.2.2.2.1 j ≤ day) && accOn L day land (C.1 j) (C.2.1 j)))
def bndV (C : CT) (L : LT) (on m land day : Int32) : Int32 := match rulO (bndP C L on m land day) C.2.2.2.2.2.2.2 with
  | none => -2
  | some j => C.2.2.2.2.1 j
def unlB (b : Nat → Int32) (i j : Nat) : Bool := decide (¬ b i = -2) && (decide (¬ b j = -2) && decide (¬ b i = b j))
def unlC (b : Nat → Int32) (i : Nat) : Nat → Nat
  | 0 => 0
  | j + 1 => unlC b i j + (if unlB b i j then 1 else 0)
def unlT (b : Nat → Int32) : Nat → Nat
  | 0 => 0
  | i + 1 => unlT b i + unlC b i i
def tX1_isMatter : List q_I := [(0, .iload_n 0, 1, 0, 0), (1, .ifCond .lt 13, 3, 0, 14), (4, .iload_n 0, 1, 0, 0), (5, .bipush 9, 2, 9, 0), (7, .if_icmp .gt 7, 3, 0, 14), (10, .iconst 1, 1, 1, 0), (11, .goto 4, 3, 0, 15), (14, .iconst 0, 1, 0, 0), (15, .ireturn, 1, 0, 0)]
theorem tX1_isMatter_ok : (tX1_isMatter.all (q_okI cX1_isMatter)) = true := by decide +kernel

abbrev fdX1_isMatter : List (Nat ⊕ (Nat × Nat)) := []
def spX1_isMatter : q_P := fun a w K => ∃ (x : Int32), w = [] ∧ a = [.int x] ∧ K (.inl (some (.int (bI (decide (0 ≤ x ∧ x ≤ 9)))))) []
abbrev csX1_isMatter : q_S := (1, 99, 0, 1, 0, 0, fdX1_isMatter, spX1_isMatter)
def EX1_isMatter : q_E := (tX1_isMatter, [], 1, flX1, [], [], [], [], [], [], 0, 0, 0, (some .boolean), [], [], 0, 0)
theorem okX1_isMatter (l : Launch) : q_Eok l RX1 cX1_isMatter EX1_isMatter := ⟨tX1_isMatter_ok, flX1_ok, q_nil, q_nil, q_nil, q_nil, q_nil, q_nil, (fun h => absurd h (by decide))⟩
set_option maxRecDepth 100000 in
set_option maxHeartbeats 4000000 in
theorem ctX1_isMatter (l : Launch) : q_CT l yX1_isMatter (.code yX1_isMatter cX1_isMatter 1 (some .boolean)) 0 0 0 spX1_isMatter := by
  refine q_ct_of EX1_isMatter (by decide +kernel) (okX1_isMatter l) rfl rfl rfl rfl rfl q_nil (fun ci h => by cases h) rfl ?_
  intro a w K h
  obtain ⟨x, rfl, rfl, hK⟩ := h
  refine ⟨Nat.le_of_ble_eq_true rfl, fun C hC => hC _ _ _ _ _ _ ?_⟩
  refine And.intro (fun c => ⟨rfl, ?_⟩) (fun c => And.intro (fun c2 => ⟨rfl, ?_⟩) (fun c2 => ⟨rfl, ?_⟩))
  · rw [bI_f (fun z => Int32.not_le.mpr c z.1)] at hK; exact hK
  · rw [bI_f (fun z => Int32.not_le.mpr c2 z.2)] at hK; exact hK
  · rw [bI_t ⟨Int32.not_lt.mp c, Int32.not_lt.mp c2⟩] at hK; exact hK
def tX1_add : List q_I := [(0, .aload_n 0, 1, 0, 0), (1, .getfield 11, 3, 0, 0), (4, .aload_n 0, 1, 0, 0), (5, .getfield 33, 3, 0, 0), (8, .iload_n 1, 1, 0, 0), (9, .iastore, 1, 0, 0), (10, .aload_n 0, 1, 0, 0), (11, .getfield 15, 3, 0, 0), (14, .aload_n 0, 1, 0, 0), (15, .getfield 33, 3, 0, 0), (18, .iload_n 2, 1, 0, 0), (19, .iastore, 1, 0, 0), (20, .aload_n 0, 1, 0, 0), (21, .getfield 18, 3, 0, 0), (24, .aload_n 0, 1, 0, 0), (25, .getfield 33, 3, 0, 0), (28, .iload_n 3, 1, 0, 0), (29, .iastore, 1, 0, 0), (30, .aload_n 0, 1, 0, 0), (31, .getfield 21, 3, 0, 0), (34, .aload_n 0, 1, 0, 0), (35, .getfield 33, 3, 0, 0), (38, .iload 4, 2, 0, 0), (40, .iastore, 1, 0, 0), (41, .aload_n 0, 1, 0, 0), (42, .getfield 24, 3, 0, 0), (45, .aload_n 0, 1, 0, 0), (46, .getfield 33, 3, 0, 0), (49, .iload 5, 2, 0, 0), (51, .iastore, 1, 0, 0), (52, .aload_n 0, 1, 0, 0), (53, .getfield 27, 3, 0, 0), (56, .aload_n 0, 1, 0, 0), (57, .getfield 33, 3, 0, 0), (60, .iload 6, 2, 0, 0), (62, .iastore, 1, 0, 0), (63, .aload_n 0, 1, 0, 0), (64, .dup, 1, 0, 0), (65, .getfield 33, 3, 0, 0), (68, .iconst 1, 1, 1, 0), (69, .iadd, 1, 0, 0), (70, .putfield 33, 3, 0, 0), (73, .aload_n 0, 1, 0, 0), (74, .getfield 33, 3, 0, 0), (77, .iconst 1, 1, 1, 0), (78, .isub, 1, 0, 0), (79, .ireturn, 1, 0, 0)]
theorem tX1_add_ok : (tX1_add.all (q_okI cX1_add)) = true := by decide +kernel

abbrev fdX1_add : List (Nat ⊕ (Nat × Nat)) := [.inl 0, .inr (0, 0), .inr (0, 1), .inr (0, 2), .inr (0, 3), .inr (0, 4), .inr (0, 5), .inr (0, 6)]
def spX1_add : q_P := fun a w K => ∃ (C : CT) (k o p m v s : Int32), w = courtW 0 C ∧ a = [.ref 0, .int k, .int o, .int p, .int m, .int v, .int s] ∧ C.2.2.2.2.2.2.2 < 20 ∧ K (.inl (some (.int (nI C.2.2.2.2.2.2.2)))) (courtW 0 (courtAdd C k o p m v s))
abbrev csX1_add : q_S := (7, 1, 0, 7, 0, 0, fdX1_add, spX1_add)
def EX1_add : q_E := (tX1_add, [], 7, flX1, [], [], [], [], [], [], 0, 0, 0, (some .int), [], [], 0, 0)
theorem okX1_add (l : Launch) : q_Eok l RX1 cX1_add EX1_add := ⟨tX1_add_ok, flX1_ok, q_nil, q_nil, q_nil, q_nil, q_nil, q_nil, (fun h => absurd h (by decide))⟩
set_option maxRecDepth 100000 in
set_option maxHeartbeats 4000000 in
theorem ctX1_add (l : Launch) : q_CT l yX1_add (.code yX1_add cX1_add 7 (some .int)) 0 0 0 spX1_add := by
  refine q_ct_of EX1_add (by decide +kernel) (okX1_add l) rfl rfl rfl rfl rfl q_nil (fun ci h => by cases h) rfl ?_
  intro a w K h
  obtain ⟨Q, k, o, p, m, v, s, rfl, rfl, hn, hK⟩ := h
  refine ⟨Nat.le_of_ble_eq_true rfl, fun C hC => hC _ _ _ _ _ _ ?_⟩
  have hv : vp_in (nI Q.2.2.2.2.2.2.2) 20 := vp_in_nI hn (by omega)
  have hc : (nI Q.2.2.2.2.2.2.2).toNatClampNeg = Q.2.2.2.2.2.2.2 := nI_clamp (by omega)
  refine ⟨hv, hv, hv, hv, hv, hv, ?_⟩
  show K (.inl (some (.int _))) _
  simp only [hc, nI_1, nI_pred]
  exact hK
def tX1_bindingValue : List q_I := [(0, .aload_n 0, 1, 0, 0), (1, .getfield 33, 3, 0, 0), (4, .iconst 1, 1, 1, 0), (5, .isub, 1, 0, 0), (6, .istore 6, 2, 0, 0), (8, .iload 6, 2, 0, 0), (10, .ifCond .lt 76, 3, 0, 86), (13, .aload_n 0, 1, 0, 0), (14, .getfield 18, 3, 0, 0), (17, .iload 6, 2, 0, 0), (19, .iaload, 1, 0, 0), (20, .iload_n 1, 1, 0, 0), (21, .if_icmp .ne 59, 3, 0, 80), (24, .aload_n 0, 1, 0, 0), (25, .getfield 21, 3, 0, 0), (28, .iload 6, 2, 0, 0), (30, .iaload, 1, 0, 0), (31, .iload_n 2, 1, 0, 0), (32, .if_icmp .ne 48, 3, 0, 80), (35, .aload_n 0, 1, 0, 0), (36, .getfield 27, 3, 0, 0), (39, .iload 6, 2, 0, 0), (41, .iaload, 1, 0, 0), (42, .iload 4, 2, 0, 0), (44, .if_icmp .gt 36, 3, 0, 80), (47, .aload 5, 2, 0, 0), (49, .iload 4, 2, 0, 0), (51, .iload_n 3, 1, 0, 0), (52, .aload_n 0, 1, 0, 0), (53, .getfield 11, 3, 0, 0), (56, .iload 6, 2, 0, 0), (58, .iaload, 1, 0, 0), (59, .aload_n 0, 1, 0, 0), (60, .getfield 15, 3, 0, 0), (63, .iload 6, 2, 0, 0), (65, .iaload, 1, 0, 0), (66, .invokevirtual 37, 3, 0, 0), (69, .ifCond .eq 11, 3, 0, 80), (72, .aload_n 0, 1, 0, 0), (73, .getfield 24, 3, 0, 0), (76, .iload 6, 2, 0, 0), (78, .iaload, 1, 0, 0), (79, .ireturn, 1, 0, 0), (80, .iinc 6 (-1), 3, (-1), 0), (83, .goto (-75), 3, 0, 8), (86, .bipush (-2), 2, (-2), 0), (88, .ireturn, 1, 0, 0)]
theorem tX1_bindingValue_ok : (tX1_bindingValue.all (q_okI cX1_bindingValue)) = true := by decide +kernel

abbrev fdX1_bindingValue : List (Nat ⊕ (Nat × Nat)) := [.inl 0, .inr (0, 0), .inr (0, 1), .inr (0, 2), .inr (0, 3), .inr (0, 4), .inr (0, 5), .inr (0, 6), .inl 5, .inr (8, 0), .inr (8, 1), .inr (8, 2), .inr (8, 3), .inr (8, 4), .inr (8, 5), .inr (8, 6)]
def spX1_bindingValue : q_P := fun a w K => ∃ (C : CT) (L : LT) (on m land day : Int32), w = courtW 0 C ++ lawsW 8 L ∧ a = [.ref 0, .int on, .int m, .int land, .int day, .ref 8] ∧ C.2.2.2.2.2.2.2 ≤ 20 ∧ L_n L ≤ 24 ∧ K (.inl (some (.int (bndV C L on m land day)))) (courtW 0 C ++ lawsW 8 L)
abbrev csX1_bindingValue : q_S := (6, 1, 2, 7, 0, 0, fdX1_bindingValue, spX1_bindingValue)
theorem coX1_37 (l : Launch) : q_CO l RX1 37 csX3_acceptOn := ⟨yX3_acceptOn, cX3_acceptOn, (some .boolean), 4, ⟨by decide +kernel, by decide +kernel, by decide +kernel⟩, q_G_i 4 (by decide +kernel) rfl, Or.inl ⟨by decide, rfl, rfl, q_G_i 1054 (by decide +kernel) rfl, q_G_i 837 (by decide +kernel) rfl, q_G_i 838 (by decide +kernel) rfl, Or.inl ⟨q_G_i 839 (by decide +kernel) rfl, ctX3_acceptOn l⟩⟩⟩
def EX1_bindingValue : q_E := (tX1_bindingValue, [(8, [0, 1, 2, 3, 4, 5, 6])], 7, flX1, [(37, csX3_acceptOn)], [], [], [], [], [], 2, 0, 0, (some .int), [], [], 0, 0)
theorem okX1_bindingValue (l : Launch) : q_Eok l RX1 cX1_bindingValue EX1_bindingValue := ⟨tX1_bindingValue_ok, flX1_ok, List.forall_mem_cons.mpr ⟨(coX1_37 l), q_nil⟩, q_nil, q_nil, q_nil, q_nil, q_nil, (fun h => absurd h (by decide))⟩
set_option maxRecDepth 100000 in
set_option maxHeartbeats 4000000 in
theorem ctX1_bindingValue (l : Launch) : q_CT l yX1_bindingValue (.code yX1_bindingValue cX1_bindingValue 7 (some .int)) 2 0 0 spX1_bindingValue := by
  refine q_ct_of EX1_bindingValue (by decide +kernel) (okX1_bindingValue l) rfl rfl rfl rfl rfl q_nil (fun ci h => by cases h) rfl ?_
  intro a w K h
  obtain ⟨Q, L, on, m, land, day, rfl, rfl, hn, hL, hK⟩ := h
  refine ⟨Nat.le_of_ble_eq_true rfl, fun C hC => ?_⟩
  have loop : ∀ i, i ≤ Q.2.2.2.2.2.2.2 → rulO (bndP Q L on m land day) Q.2.2.2.2.2.2.2 = rulO (bndP Q L on m land day) i → C 8 [(0, .ref 0), (1, .int on), (2, .int m), (3, .int land), (4, .int day), (5, .ref 8), (6, .int (nI i - 1))] [] (courtW 0 Q ++ lawsW 8 L) 0 0 := by
    intro i
    induction i with
    | zero =>
      intro _ h
      refine hC _ _ _ _ _ _ ?_
      refine And.intro (fun c1 => ?_) (fun c1 => absurd (by decide) c1)
      rw [bndV, h] at hK; exact hK
    | succ i ih =>
      intro hi h
      have hv : vp_in (nI i) 20 := vp_in_nI (by omega) (by omega)
      have hc : (nI i).toNatClampNeg = i := nI_clamp (by omega)
      have next : bndP Q L on m land day i = false → C 8 [(0, .ref 0), (1, .int on), (2, .int m), (3, .int land), (4, .int day), (5, .ref 8), (6, .int (nI i + (-1)))] [] (courtW 0 Q ++ lawsW 8 L) 0 0 := by
        intro hP
        rw [← Int32.sub_eq_add_neg]
        exact ih (by omega) (by rw [h, rulO, hP]; rfl)
      rw [nI_pred]
      refine hC _ _ _ _ _ _ ?_
      refine And.intro (fun c1 => absurd c1 (nI_pos (by omega))) (fun c1 => ?_)
      refine And.intro hv (And.intro (fun c2 => next ?_) (fun c2 => ?_))
      · rw [hc] at c2; simp only [bndP, decide_eq_false c2, Bool.false_and]
      refine And.intro hv (And.intro (fun c3 => next ?_) (fun c3 => ?_))
      · rw [hc] at c3; simp only [bndP, decide_eq_false c3, Bool.false_and, Bool.and_false]
      refine And.intro hv (And.intro (fun c4 => next ?_) (fun c4 => ?_))
      · rw [hc] at c4; simp only [bndP, decide_eq_false (Int32.not_le.mpr c4), Bool.false_and, Bool.and_false]
      refine ⟨hv, hv, L, _, _, _, _, rfl, rfl, hL, And.intro (fun c5 => next ?_) (fun c5 => ⟨hv, ?_⟩)⟩
      · have c5 := bI_0.mp c5
        rw [hc] at c5
        simp only [bndP, c5, Bool.and_false]
      · have c5 := bI_n0.mp c5
        rw [hc] at c2 c3 c4 c5
        have hP : bndP Q L on m land day i = true := by simp only [bndP, decide_eq_true c2, decide_eq_true c3, decide_eq_true (Int32.not_lt.mp c4), c5, Bool.and_self]
        rw [bndV, h, rulO, if_pos hP] at hK
        show K (.inl (some (.int _))) _
        rw [hc]
        exact hK
  exact hC _ _ _ _ _ _ (loop _ (Nat.le_refl _) rfl)
def tX1_countUnlike : List q_I := [(0, .iconst 0, 1, 0, 0), (1, .istore 5, 2, 0, 0), (3, .iconst 0, 1, 0, 0), (4, .istore 6, 2, 0, 0), (6, .iload 6, 2, 0, 0), (8, .aload 4, 2, 0, 0), (10, .getfield 43, 3, 0, 0), (13, .iconst 1, 1, 1, 0), (14, .iaload, 1, 0, 0), (15, .if_icmp .ge 96, 3, 0, 111), (18, .iload 6, 2, 0, 0), (20, .iconst 5, 1, 5, 0), (21, .if_icmp .ge 90, 3, 0, 111), (24, .aload_n 0, 1, 0, 0), (25, .getfield 30, 3, 0, 0), (28, .iload 6, 2, 0, 0), (30, .aload_n 0, 1, 0, 0), (31, .iload_n 1, 1, 0, 0), (32, .iload_n 2, 1, 0, 0), (33, .iload 6, 2, 0, 0), (35, .iload_n 3, 1, 0, 0), (36, .aload 4, 2, 0, 0), (38, .getfield 48, 3, 0, 0), (41, .invokevirtual 52, 3, 0, 0), (44, .iastore, 1, 0, 0), (45, .iconst 0, 1, 0, 0), (46, .istore 7, 2, 0, 0), (48, .iload 7, 2, 0, 0), (50, .iload 6, 2, 0, 0), (52, .if_icmp .ge 53, 3, 0, 105), (55, .aload_n 0, 1, 0, 0), (56, .getfield 30, 3, 0, 0), (59, .iload 6, 2, 0, 0), (61, .iaload, 1, 0, 0), (62, .bipush (-2), 2, (-2), 0), (64, .if_icmp .eq 35, 3, 0, 99), (67, .aload_n 0, 1, 0, 0), (68, .getfield 30, 3, 0, 0), (71, .iload 7, 2, 0, 0), (73, .iaload, 1, 0, 0), (74, .bipush (-2), 2, (-2), 0), (76, .if_icmp .eq 23, 3, 0, 99), (79, .aload_n 0, 1, 0, 0), (80, .getfield 30, 3, 0, 0), (83, .iload 6, 2, 0, 0), (85, .iaload, 1, 0, 0), (86, .aload_n 0, 1, 0, 0), (87, .getfield 30, 3, 0, 0), (90, .iload 7, 2, 0, 0), (92, .iaload, 1, 0, 0), (93, .if_icmp .eq 6, 3, 0, 99), (96, .iinc 5 1, 3, 1, 0), (99, .iinc 7 1, 3, 1, 0), (102, .goto (-54), 3, 0, 48), (105, .iinc 6 1, 3, 1, 0), (108, .goto (-102), 3, 0, 6), (111, .iload 5, 2, 0, 0), (113, .ireturn, 1, 0, 0)]
theorem tX1_countUnlike_ok : (tX1_countUnlike.all (q_okI cX1_countUnlike)) = true := by decide +kernel

abbrev fdX1_countUnlike : List (Nat ⊕ (Nat × Nat)) := [.inl 0, .inr (0, 0), .inr (0, 1), .inr (0, 2), .inr (0, 3), .inr (0, 4), .inr (0, 5), .inr (0, 6), .inl 4, .inr (8, 0), .inr (8, 6), .inr (10, 0), .inr (10, 1), .inr (10, 2), .inr (10, 3), .inr (10, 4), .inr (10, 5), .inr (10, 6)]
def spX1_countUnlike : q_P := fun a w K => ∃ (C : CT) (L : LT) (told : Nat → Int32) (n : Nat) (on m day : Int32) (v1 v2 v3 v4 v5 v7 : Value), w = courtW 0 C ++ ([.inr (0, [.ref 9, v1, v2, v3, v4, v5, .ref 10, v7]), .inl (1, 4, .inl told)] ++ lawsW 10 L) ∧ a = [.ref 0, .int on, .int m, .int day, .ref 8] ∧ C.2.2.2.2.2.2.2 ≤ 20 ∧ L_n L ≤ 24 ∧ told 1 = nI n ∧ n ≤ 5 ∧ ∀ g, K (.inl (some (.int (nI (unlT (fun i => bndV C L on m (nI i) day) n))))) (courtW 0 (courtB C g) ++ ([.inr (0, [.ref 9, v1, v2, v3, v4, v5, .ref 10, v7]), .inl (1, 4, .inl told)] ++ lawsW 10 L))
abbrev csX1_countUnlike : q_S := (5, 1, 3, 8, 0, 0, fdX1_countUnlike, spX1_countUnlike)
theorem coX1_52 (l : Launch) : q_CO l RX1 52 csX1_bindingValue := ⟨yX1_bindingValue, cX1_bindingValue, (some .int), 5, ⟨by decide +kernel, by decide +kernel, by decide +kernel⟩, q_G_i 14 (by decide +kernel) rfl, Or.inl ⟨by decide, rfl, rfl, q_G_i 1063 (by decide +kernel) rfl, q_G_i 1051 (by decide +kernel) rfl, q_G_i 1052 (by decide +kernel) rfl, Or.inl ⟨q_G_i 1053 (by decide +kernel) rfl, ctX1_bindingValue l⟩⟩⟩
def EX1_countUnlike : q_E := (tX1_countUnlike, [(6, [0, 1, 2, 3, 4, 5, 6]), (48, [0, 1, 2, 3, 4, 5, 6, 7])], 8, flX1, [(52, csX1_bindingValue)], [], [], [], [], [], 3, 0, 0, (some .int), [], [], 0, 0)
theorem okX1_countUnlike (l : Launch) : q_Eok l RX1 cX1_countUnlike EX1_countUnlike := ⟨tX1_countUnlike_ok, flX1_ok, List.forall_mem_cons.mpr ⟨(coX1_52 l), q_nil⟩, q_nil, q_nil, q_nil, q_nil, q_nil, (fun h => absurd h (by decide))⟩
set_option maxRecDepth 100000 in
set_option maxHeartbeats 4000000 in
theorem ctX1_countUnlike (l : Launch) : q_CT l yX1_countUnlike (.code yX1_countUnlike cX1_countUnlike 8 (some .int)) 3 0 0 spX1_countUnlike := by
  refine q_ct_of EX1_countUnlike (by decide +kernel) (okX1_countUnlike l) rfl rfl rfl rfl rfl q_nil (fun ci h => by cases h) rfl ?_
  intro a w K h
  obtain ⟨Q, L, told, n, on, m, day, v1, v2, v3, v4, v5, v7, rfl, rfl, hn, hL, ht, hn5, hK⟩ := h
  refine ⟨Nat.le_of_ble_eq_true rfl, fun C hC => ?_⟩
  have outer : ∀ k i g, i + k = n → (∀ j, j < i → g j = bndV Q L on m (nI j) day) → C 6 [(0, .ref 0), (1, .int on), (2, .int m), (3, .int day), (4, .ref 8), (5, .int (nI (unlT (fun i => bndV Q L on m (nI i) day) i))), (6, .int (nI i))] [] (courtW 0 (courtB Q g) ++ ([.inr (0, [.ref 9, v1, v2, v3, v4, v5, .ref 10, v7]), .inl (1, 4, .inl told)] ++ lawsW 10 L)) 0 0 := by
    intro k
    induction k with
    | zero =>
      intro i g hi hg
      have hi : i = n := by omega
      subst hi
      refine hC _ _ _ _ _ _ ?_
      refine ⟨vp_in_nI (n := 1) (by decide) (by decide), And.intro (fun c1 => hK g) (fun c1 => absurd (by show told 1 ≤ nI i; rw [ht]; exact Int32.le_refl _) c1)⟩
    | succ k ih =>
      intro i g hi hg
      have hc : (nI i).toNatClampNeg = i := nI_clamp (by omega)
      have hvi : vp_in (nI i) 5 := vp_in_nI (by omega) (by omega)
      refine hC _ _ _ _ _ _ ?_
      refine ⟨vp_in_nI (n := 1) (by decide) (by decide), And.intro (fun c1 => absurd (show told 1 ≤ nI i from c1) (by rw [ht]; exact nI_ge (by omega) (by omega))) (fun c1 => ?_)⟩
      refine And.intro (fun c2 => absurd c2 (nI_ge (b := 5) (by omega) (by omega))) (fun c2 => ?_)
      refine ⟨courtB Q g, L, _, _, _, _, rfl, rfl, hn, hL, hvi, ?_⟩
      have inner : ∀ k j, j + k = i → C 48 [(0, .ref 0), (1, .int on), (2, .int m), (3, .int day), (4, .ref 8), (5, .int (nI (unlT (fun i => bndV Q L on m (nI i) day) i + unlC (fun i => bndV Q L on m (nI i) day) i j))), (6, .int (nI i)), (7, .int (nI j))] [] (courtW 0 (courtB Q (upd g i (bndV Q L on m (nI i) day))) ++ ([.inr (0, [.ref 9, v1, v2, v3, v4, v5, .ref 10, v7]), .inl (1, 4, .inl told)] ++ lawsW 10 L)) 0 0 := by
        intro k2
        induction k2 with
        | zero =>
          intro j hj
          have hj : j = i := by omega
          subst hj
          refine hC _ _ _ _ _ _ ?_
          refine And.intro (fun c3 => ?_) (fun c3 => absurd (Int32.le_refl _) c3)
          have h9 := ih (j + 1) (upd g j (bndV Q L on m (nI j) day)) (by omega) (fun t htj => by
            by_cases e : t = j
            · subst e; exact pk_us
            · rw [pk_un e]; exact hg t (by omega))
          rw [← nI_1] at h9
          exact h9
        | succ k2 ih2 =>
          intro j hj
          have hcj : (nI j).toNatClampNeg = j := nI_clamp (by omega)
          have hvj : vp_in (nI j) 5 := vp_in_nI (by omega) (by omega)
          have gi : upd g i (bndV Q L on m (nI i) day) (nI i).toNatClampNeg = bndV Q L on m (nI i) day := by rw [hc]; exact pk_us
          have gj : upd g i (bndV Q L on m (nI i) day) (nI j).toNatClampNeg = bndV Q L on m (nI j) day := by rw [hcj, pk_un (by omega)]; exact hg j (by omega)
          have nx0 : unlB (fun i => bndV Q L on m (nI i) day) i j = false → C 48 [(0, .ref 0), (1, .int on), (2, .int m), (3, .int day), (4, .ref 8), (5, .int (nI (unlT (fun i => bndV Q L on m (nI i) day) i + unlC (fun i => bndV Q L on m (nI i) day) i j))), (6, .int (nI i)), (7, .int (nI j + 1))] [] (courtW 0 (courtB Q (upd g i (bndV Q L on m (nI i) day))) ++ ([.inr (0, [.ref 9, v1, v2, v3, v4, v5, .ref 10, v7]), .inl (1, 4, .inl told)] ++ lawsW 10 L)) 0 0 := by
            intro hf
            have h9 := ih2 (j + 1) (by omega)
            rw [unlC, hf, ← nI_1 j] at h9
            exact h9
          refine hC _ _ _ _ _ _ ?_
          refine And.intro (fun c3 => absurd c3 (nI_ge (by omega) (by omega))) (fun c3 => ⟨hvi, And.intro (fun c4 => nx0 ?_) (fun c4 => ⟨hvj, And.intro (fun c5 => nx0 ?_) (fun c5 => ⟨hvi, hvj, And.intro (fun c6 => nx0 ?_) (fun c6 => ?_)⟩)⟩)⟩)
          · have c4 : upd g i (bndV Q L on m (nI i) day) (nI i).toNatClampNeg = -2 := c4
            rw [gi] at c4
            simp only [unlB, c4, not_true_eq_false, decide_false, Bool.false_and]
          · have c5 : upd g i (bndV Q L on m (nI i) day) (nI j).toNatClampNeg = -2 := c5
            rw [gj] at c5
            simp only [unlB, c5, not_true_eq_false, decide_false, Bool.false_and, Bool.and_false]
          · have c6 : upd g i (bndV Q L on m (nI i) day) (nI i).toNatClampNeg = upd g i (bndV Q L on m (nI i) day) (nI j).toNatClampNeg := c6
            rw [gi, gj] at c6
            simp only [unlB, c6, not_true_eq_false, decide_false, Bool.false_and, Bool.and_false]
          · have c4 : ¬ upd g i (bndV Q L on m (nI i) day) (nI i).toNatClampNeg = -2 := c4
            have c5 : ¬ upd g i (bndV Q L on m (nI i) day) (nI j).toNatClampNeg = -2 := c5
            have c6 : ¬ upd g i (bndV Q L on m (nI i) day) (nI i).toNatClampNeg = upd g i (bndV Q L on m (nI i) day) (nI j).toNatClampNeg := c6
            rw [gi] at c4 c6
            rw [gj] at c5 c6
            have hb : unlB (fun i => bndV Q L on m (nI i) day) i j = true := by simp only [unlB, decide_eq_true c4, decide_eq_true c5, decide_eq_true c6, Bool.and_self]
            have h9 := ih2 (j + 1) (by omega)
            rw [unlC, hb, if_pos rfl, ← Nat.add_assoc, ← nI_1 (_ + _), ← nI_1 j] at h9
            exact h9
      have h9 := inner i 0 (by omega)
      rw [show upd g i (bndV Q L on m (nI i) day) = upd g (nI i).toNatClampNeg (bndV Q L on m (nI i) day) by rw [hc]] at h9
      exact h9
  exact hC _ _ _ _ _ _ (outer n 0 Q.2.2.2.2.2.2.1 (by omega) (fun j hj => absurd hj (Nat.not_lt_zero j)))
/-- name, price, debt, count -/
abbrev DT : Type := (Nat → Int32) × (Nat → Int32) × (Nat → Int64) × Nat
def ledgerW (o : Nat) (D : DT) : List q_C := [.inr (4, [.ref (o + 1), .ref (o + 2), .ref (o + 3), .int (nI D.2.2.2)]), .inl (1, 10, .inl D.1), .inl (1, 10, .inl D.2.1), .inl (2, 30, .inr D.2.2.1)]
def tX4_clear : List q_I := [(0, .aload_n 0, 1, 0, 0), (1, .iconst 0, 1, 0, 0), (2, .putfield 22, 3, 0, 0), (5, .iconst 0, 1, 0, 0), (6, .istore_n 1, 1, 0, 0), (7, .iload_n 1, 1, 0, 0), (8, .aload_n 0, 1, 0, 0), (9, .getfield 18, 3, 0, 0), (12, .arraylength, 1, 0, 0), (13, .if_icmp .ge 16, 3, 0, 29), (16, .aload_n 0, 1, 0, 0), (17, .getfield 18, 3, 0, 0), (20, .iload_n 1, 1, 0, 0), (21, .lconst 0, 1, 0, 0), (22, .lastore, 1, 0, 0), (23, .iinc 1 1, 3, 1, 0), (26, .goto (-19), 3, 0, 7), (29, .return_, 1, 0, 0)]
theorem tX4_clear_ok : (tX4_clear.all (q_okI cX4_clear)) = true := by decide +kernel

abbrev fdX4_clear : List (Nat ⊕ (Nat × Nat)) := [.inl 0, .inr (0, 0), .inr (0, 1), .inr (0, 2)]
def spX4_clear : q_P := fun a w K => ∃ (D : DT), w = ledgerW 0 D ∧ a = [.ref 0] ∧ K (.inl none) (ledgerW 0 (D.1, D.2.1, zf 0 D.2.2.1 30, 0))
abbrev csX4_clear : q_S := (1, 4, 0, 2, 0, 0, fdX4_clear, spX4_clear)
def EX4_clear : q_E := (tX4_clear, [(7, [0, 1])], 2, flX4, [], [], [], [], [], [], 0, 0, 0, none, [], [], 0, 0)
theorem okX4_clear (l : Launch) : q_Eok l RX4 cX4_clear EX4_clear := ⟨tX4_clear_ok, flX4_ok, q_nil, q_nil, q_nil, q_nil, q_nil, q_nil, (fun h => absurd h (by decide))⟩
set_option maxRecDepth 100000 in
set_option maxHeartbeats 4000000 in
theorem ctX4_clear (l : Launch) : q_CT l yX4_clear (.code yX4_clear cX4_clear 2 none) 0 0 0 spX4_clear := by
  refine q_ct_of EX4_clear (by decide +kernel) (okX4_clear l) rfl rfl rfl rfl rfl q_nil (fun ci h => by cases h) rfl ?_
  intro a w K h
  obtain ⟨D, rfl, rfl, hK⟩ := h
  refine ⟨Nat.le_of_ble_eq_true rfl, fun C hC => ?_⟩
  have loop : ∀ n i, i + n = 30 → C 7 [(0, .ref 0), (1, .int (nI i))] [] (ledgerW 0 (D.1, D.2.1, zf 0 D.2.2.1 i, 0)) 0 0 := by
    intro n
    induction n with
    | zero =>
      intro i hi
      have hi : i = 30 := by omega
      subst hi
      refine hC _ _ _ _ _ _ ?_
      exact ⟨Or.inr (Or.inr (Or.inl rfl)), And.intro (fun c1 => hK) (fun c1 => absurd (Int32.le_refl _) c1)⟩
    | succ n ih =>
      intro i hi
      refine hC _ _ _ _ _ _ ?_
      refine ⟨Or.inr (Or.inr (Or.inl rfl)), And.intro (fun c1 => absurd c1 (nI_ge (b := 30) (by omega) (by omega))) (fun c1 => ⟨vp_in_nI (by omega) (by omega), ?_⟩)⟩
      have h9 := ih (i + 1) (by omega)
      rw [← nI_1, ← zf_sL] at h9
      have hc : (nI i).toNatClampNeg = i := nI_clamp (by omega)
      rw [show vp_updL (zf 0 D.2.2.1 i) i 0 = vp_updL (zf 0 D.2.2.1 i) (nI i).toNatClampNeg 0 by rw [hc]] at h9
      exact h9
  refine hC _ _ _ _ _ _ ?_
  have h9 := loop 30 0 rfl
  rw [zf_0] at h9
  exact h9
def tX4_has : List q_I := [(0, .iload_n 1, 1, 0, 0), (1, .ifCond .lt 15, 3, 0, 16), (4, .iload_n 1, 1, 0, 0), (5, .aload_n 0, 1, 0, 0), (6, .getfield 22, 3, 0, 0), (9, .if_icmp .ge 7, 3, 0, 16), (12, .iconst 1, 1, 1, 0), (13, .goto 4, 3, 0, 17), (16, .iconst 0, 1, 0, 0), (17, .ireturn, 1, 0, 0)]
theorem tX4_has_ok : (tX4_has.all (q_okI cX4_has)) = true := by decide +kernel

abbrev fdX4_has : List (Nat ⊕ (Nat × Nat)) := [.inl 0, .inr (0, 0), .inr (0, 1), .inr (0, 2)]
def spX4_has : q_P := fun a w K => ∃ (D : DT) (x : Int32), w = ledgerW 0 D ∧ a = [.ref 0, .int x] ∧ K (.inl (some (.int (bI (decide (0 ≤ x ∧ x < nI D.2.2.2)))))) (ledgerW 0 D)
abbrev csX4_has : q_S := (2, 4, 0, 2, 0, 0, fdX4_has, spX4_has)
def EX4_has : q_E := (tX4_has, [], 2, flX4, [], [], [], [], [], [], 0, 0, 0, (some .boolean), [], [], 0, 0)
theorem okX4_has (l : Launch) : q_Eok l RX4 cX4_has EX4_has := ⟨tX4_has_ok, flX4_ok, q_nil, q_nil, q_nil, q_nil, q_nil, q_nil, (fun h => absurd h (by decide))⟩
set_option maxRecDepth 100000 in
set_option maxHeartbeats 4000000 in
theorem ctX4_has (l : Launch) : q_CT l yX4_has (.code yX4_has cX4_has 2 (some .boolean)) 0 0 0 spX4_has := by
  refine q_ct_of EX4_has (by decide +kernel) (okX4_has l) rfl rfl rfl rfl rfl q_nil (fun ci h => by cases h) rfl ?_
  intro a w K h
  obtain ⟨D, x, rfl, rfl, hK⟩ := h
  refine ⟨Nat.le_of_ble_eq_true rfl, fun C hC => hC _ _ _ _ _ _ ?_⟩
  refine And.intro (fun c => ⟨rfl, ?_⟩) (fun c => And.intro (fun c2 => ⟨rfl, ?_⟩) (fun c2 => ⟨rfl, ?_⟩))
  · rw [bI_f (fun z => Int32.not_le.mpr c z.1)] at hK; exact hK
  · rw [bI_f (fun z => Int32.not_le.mpr z.2 c2)] at hK; exact hK
  · rw [bI_t ⟨Int32.not_lt.mp c, Int32.not_le.mp c2⟩] at hK; exact hK
def tX4_add : List q_I := [(0, .aload_n 0, 1, 0, 0), (1, .getfield 9, 3, 0, 0), (4, .aload_n 0, 1, 0, 0), (5, .getfield 22, 3, 0, 0), (8, .iload_n 1, 1, 0, 0), (9, .iastore, 1, 0, 0), (10, .aload_n 0, 1, 0, 0), (11, .getfield 13, 3, 0, 0), (14, .aload_n 0, 1, 0, 0), (15, .getfield 22, 3, 0, 0), (18, .iload_n 2, 1, 0, 0), (19, .iastore, 1, 0, 0), (20, .aload_n 0, 1, 0, 0), (21, .dup, 1, 0, 0), (22, .getfield 22, 3, 0, 0), (25, .iconst 1, 1, 1, 0), (26, .iadd, 1, 0, 0), (27, .putfield 22, 3, 0, 0), (30, .aload_n 0, 1, 0, 0), (31, .getfield 22, 3, 0, 0), (34, .iconst 1, 1, 1, 0), (35, .isub, 1, 0, 0), (36, .ireturn, 1, 0, 0)]
theorem tX4_add_ok : (tX4_add.all (q_okI cX4_add)) = true := by decide +kernel

abbrev fdX4_add : List (Nat ⊕ (Nat × Nat)) := [.inl 0, .inr (0, 0), .inr (0, 1), .inr (0, 2)]
def spX4_add : q_P := fun a w K => ∃ (D : DT) (x y : Int32), w = ledgerW 0 D ∧ a = [.ref 0, .int x, .int y] ∧ D.2.2.2 < 10 ∧ K (.inl (some (.int (nI D.2.2.2)))) (ledgerW 0 (upd D.1 D.2.2.2 x, upd D.2.1 D.2.2.2 y, D.2.2.1, D.2.2.2 + 1))
abbrev csX4_add : q_S := (3, 4, 0, 3, 0, 0, fdX4_add, spX4_add)
def EX4_add : q_E := (tX4_add, [], 3, flX4, [], [], [], [], [], [], 0, 0, 0, (some .int), [], [], 0, 0)
theorem okX4_add (l : Launch) : q_Eok l RX4 cX4_add EX4_add := ⟨tX4_add_ok, flX4_ok, q_nil, q_nil, q_nil, q_nil, q_nil, q_nil, (fun h => absurd h (by decide))⟩
set_option maxRecDepth 100000 in
set_option maxHeartbeats 4000000 in
theorem ctX4_add (l : Launch) : q_CT l yX4_add (.code yX4_add cX4_add 3 (some .int)) 0 0 0 spX4_add := by
  refine q_ct_of EX4_add (by decide +kernel) (okX4_add l) rfl rfl rfl rfl rfl q_nil (fun ci h => by cases h) rfl ?_
  intro a w K h
  obtain ⟨D, x, y, rfl, rfl, hn, hK⟩ := h
  refine ⟨Nat.le_of_ble_eq_true rfl, fun C hC => hC _ _ _ _ _ _ ?_⟩
  have hv : vp_in (nI D.2.2.2) 10 := vp_in_nI hn (by omega)
  have hc : (nI D.2.2.2).toNatClampNeg = D.2.2.2 := nI_clamp (by omega)
  refine ⟨hv, hv, ?_⟩
  show K (.inl (some (.int _))) _
  simp only [hc, nI_1, nI_pred]
  exact hK
def tX4_charge : List q_I := [(0, .aload_n 0, 1, 0, 0), (1, .getfield 9, 3, 0, 0), (4, .iload_n 1, 1, 0, 0), (5, .iaload, 1, 0, 0), (6, .istore_n 3, 1, 0, 0), (7, .aload_n 0, 1, 0, 0), (8, .getfield 18, 3, 0, 0), (11, .iload_n 3, 1, 0, 0), (12, .dup2, 1, 0, 0), (13, .laload, 1, 0, 0), (14, .aload_n 0, 1, 0, 0), (15, .getfield 13, 3, 0, 0), (18, .iload_n 1, 1, 0, 0), (19, .iaload, 1, 0, 0), (20, .i2l, 1, 0, 0), (21, .iload_n 2, 1, 0, 0), (22, .i2l, 1, 0, 0), (23, .lmul, 1, 0, 0), (24, .ladd, 1, 0, 0), (25, .lastore, 1, 0, 0), (26, .aload_n 0, 1, 0, 0), (27, .getfield 18, 3, 0, 0), (30, .iload_n 3, 1, 0, 0), (31, .laload, 1, 0, 0), (32, .lreturn, 1, 0, 0)]
theorem tX4_charge_ok : (tX4_charge.all (q_okI cX4_charge)) = true := by decide +kernel

abbrev fdX4_charge : List (Nat ⊕ (Nat × Nat)) := [.inl 0, .inr (0, 0), .inr (0, 1), .inr (0, 2)]
def spX4_charge : q_P := fun a w K => ∃ (D : DT) (i p : Nat) (u : Int32), w = ledgerW 0 D ∧ a = [.ref 0, .int (nI i), .int u] ∧ i < 10 ∧ D.1 i = nI p ∧ p < 30 ∧ K (.inl (some (.long (D.2.2.1 p + (D.2.1 i).toInt64 * u.toInt64)))) (ledgerW 0 (D.1, D.2.1, vp_updL D.2.2.1 p (D.2.2.1 p + (D.2.1 i).toInt64 * u.toInt64), D.2.2.2))
abbrev csX4_charge : q_S := (3, 4, 0, 4, 0, 0, fdX4_charge, spX4_charge)
def EX4_charge : q_E := (tX4_charge, [], 4, flX4, [], [], [], [], [], [], 0, 0, 0, (some .long), [], [], 0, 0)
theorem okX4_charge (l : Launch) : q_Eok l RX4 cX4_charge EX4_charge := ⟨tX4_charge_ok, flX4_ok, q_nil, q_nil, q_nil, q_nil, q_nil, q_nil, (fun h => absurd h (by decide))⟩
set_option maxRecDepth 100000 in
set_option maxHeartbeats 4000000 in
theorem ctX4_charge (l : Launch) : q_CT l yX4_charge (.code yX4_charge cX4_charge 4 (some .long)) 0 0 0 spX4_charge := by
  refine q_ct_of EX4_charge (by decide +kernel) (okX4_charge l) rfl rfl rfl rfl rfl q_nil (fun ci h => by cases h) rfl ?_
  intro a w K h
  obtain ⟨D, i, p, u, rfl, rfl, hi, hp, hpl, hK⟩ := h
  refine ⟨Nat.le_of_ble_eq_true rfl, fun C hC => hC _ _ _ _ _ _ ?_⟩
  have hv : vp_in (nI i) 10 := vp_in_nI hi (by omega)
  have hc : (nI i).toNatClampNeg = i := nI_clamp (by omega)
  have hv2 : vp_in (D.1 (nI i).toNatClampNeg) 30 := by rw [hc, hp]; exact vp_in_nI hpl (by omega)
  have hc2 : (nI p).toNatClampNeg = p := nI_clamp (by omega)
  refine ⟨hv, hv2, hv, hv2, hv2, ?_⟩
  show K (.inl (some (.long _))) _
  simp only [hc, hp, hc2, pk_uLs]
  exact hK
end
section
def allF (f : Nat → Bool) : Nat → Nat → Bool
  | _, 0 => true
  | s, n + 1 => f s && allF f (s + 1) n
/-- least, trail, by, settled, postMet, roadOpen -/
abbrev WT : Type := (Nat → Int32) × (Nat → Int32) × (Nat → Int32) × (Nat → Int32) × (Nat → Int32) × (Nat → Int32)
def waysW (o : Nat) (pv : Value) (W : WT) : List q_C := [.inr (10, [pv, .ref (o + 1), .ref (o + 2), .ref (o + 3), .ref (o + 4), .ref (o + 5), .ref (o + 6)]), .inl (1, 8, .inl W.1), .inl (1, 8, .inl W.2.1), .inl (1, 8, .inl W.2.2.1), .inl (3, 8, .inl W.2.2.2.1), .inl (3, 48, .inl W.2.2.2.2.1), .inl (3, 16, .inl W.2.2.2.2.2)]
def openB (P : PT) (L : LT) (R : RT) (p r : Nat) (day : Int32) : Bool := allF (fun k => hasGd P L p (R.2.2.2.2.2.1 k) (R.2.2.2.2.2.2.1 k) day) (r * 3) (rpN R r)
theorem rOk_ix {R : RT} (h : rOk R) {r : Nat} (hr : r < R.2.2.2.2.2.2.2) : vp_in (nI r) 16 ∧ (nI r).toNatClampNeg = r ∧ R.2.2.2.2.1 r = nI (rpN R r) ∧ rpN R r ≤ 3 ∧ r < 16 := by
  obtain ⟨h1, h2⟩ := h
  obtain ⟨h3, h4⟩ := h2 r hr
  exact ⟨vp_in_nI (by omega) (by omega), nI_clamp (by omega), h3, h4, by omega⟩
/-- a place outside: field j of cell i -/
abbrev tk (i j : Nat) : Value := .retAddr (100 + (100 * i + j))
def wayW (P : PT) (R : RT) (L : LT) (m : Int32) : List q_C := [.inr (10, [.ref 1, tk 0 1, tk 0 2, tk 0 3, tk 0 4, tk 0 5, tk 0 6])] ++ (peopleW 1 P ++ ([.inr (0, [tk 8 0, tk 8 1, tk 8 2, tk 8 3, .int m, .ref 9, .ref 17, tk 8 7])] ++ (roadsW 9 R ++ lawsW 17 L)))

def tX10_isOpen : List q_I := [(0, .aload_n 1, 1, 0, 0), (1, .getfield 37, 3, 0, 0), (4, .astore 5, 2, 0, 0), (6, .iconst 0, 1, 0, 0), (7, .istore 6, 2, 0, 0), (9, .iload 6, 2, 0, 0), (11, .aload 5, 2, 0, 0), (13, .getfield 43, 3, 0, 0), (16, .iload_n 3, 1, 0, 0), (17, .iaload, 1, 0, 0), (18, .if_icmp .ge 52, 3, 0, 70), (21, .iload_n 3, 1, 0, 0), (22, .iconst 3, 1, 3, 0), (23, .imul, 1, 0, 0), (24, .iload 6, 2, 0, 0), (26, .iadd, 1, 0, 0), (27, .istore 7, 2, 0, 0), (29, .aload_n 0, 1, 0, 0), (30, .getfield 33, 3, 0, 0), (33, .iload_n 2, 1, 0, 0), (34, .aload 5, 2, 0, 0), (36, .getfield 46, 3, 0, 0), (39, .iload 7, 2, 0, 0), (41, .iaload, 1, 0, 0), (42, .aload 5, 2, 0, 0), (44, .getfield 49, 3, 0, 0), (47, .iload 7, 2, 0, 0), (49, .iaload, 1, 0, 0), (50, .iload 4, 2, 0, 0), (52, .aload_n 1, 1, 0, 0), (53, .getfield 52, 3, 0, 0), (56, .invokevirtual 56, 3, 0, 0), (59, .ifCond .ne 5, 3, 0, 64), (62, .iconst 0, 1, 0, 0), (63, .ireturn, 1, 0, 0), (64, .iinc 6 1, 3, 1, 0), (67, .goto (-58), 3, 0, 9), (70, .iconst 1, 1, 1, 0), (71, .ireturn, 1, 0, 0)]
theorem tX10_isOpen_ok : (tX10_isOpen.all (q_okI cX10_isOpen)) = true := by decide +kernel

abbrev fdX10_isOpen : List (Nat ⊕ (Nat × Nat)) := [.inl 0, .inr (0, 0), .inr (1, 0), .inr (1, 1), .inr (1, 2), .inr (1, 3), .inr (1, 4), .inr (1, 5), .inl 1, .inr (8, 5), .inr (9, 0), .inr (9, 1), .inr (9, 2), .inr (9, 3), .inr (9, 4), .inr (9, 5), .inr (9, 6), .inr (8, 6), .inr (17, 0), .inr (17, 1), .inr (17, 2), .inr (17, 3), .inr (17, 4), .inr (17, 5), .inr (17, 6)]
def spX10_isOpen : q_P := fun a w K => ∃ (P : PT) (R : RT) (L : LT) (p r : Nat) (d m : Int32), w = wayW P R L m ∧ a = [.ref 0, .ref 8, .int (nI p), .int (nI r), .int d] ∧ pOk P ∧ rOk R ∧ L_n L ≤ 24 ∧ p < P.2.2.2.2.2.2 ∧ r < R.2.2.2.2.2.2.2 ∧ K (.inl (some (.int (bI (openB P L R p r d))))) w
abbrev csX10_isOpen : q_S := (5, 10, 3, 8, 0, 0, fdX10_isOpen, spX10_isOpen)
theorem coX10_56 (l : Launch) : q_CO l RX10 56 csX6_hasGood := ⟨yX6_hasGood, cX6_hasGood, (some .boolean), 5, ⟨by decide +kernel, by decide +kernel, by decide +kernel⟩, q_G_i 11 (by decide +kernel) rfl, Or.inl ⟨by decide, rfl, rfl, q_G_i 858 (by decide +kernel) rfl, q_G_i 828 (by decide +kernel) rfl, q_G_i 829 (by decide +kernel) rfl, Or.inl ⟨q_G_i 830 (by decide +kernel) rfl, ctX6_hasGood l⟩⟩⟩
def EX10_isOpen : q_E := (tX10_isOpen, [(9, [0, 1, 2, 3, 4, 5, 6])], 8, flX10, [(56, csX6_hasGood)], [], [], [], [], [], 3, 0, 0, (some .boolean), [], [], 0, 0)
theorem okX10_isOpen (l : Launch) : q_Eok l RX10 cX10_isOpen EX10_isOpen := ⟨tX10_isOpen_ok, flX10_ok, List.forall_mem_cons.mpr ⟨(coX10_56 l), q_nil⟩, q_nil, q_nil, q_nil, q_nil, q_nil, (fun h => absurd h (by decide))⟩
set_option maxRecDepth 100000 in
set_option maxHeartbeats 4000000 in
theorem ctX10_isOpen (l : Launch) : q_CT l yX10_isOpen (.code yX10_isOpen cX10_isOpen 8 (some .boolean)) 3 0 0 spX10_isOpen := by
  refine q_ct_of EX10_isOpen (by decide +kernel) (okX10_isOpen l) rfl rfl rfl rfl rfl q_nil (fun ci h => by cases h) rfl ?_
  intro a w K h
  obtain ⟨P, R, L, p, r, d, m, rfl, rfl, ho, hro, hL, hp, hr, hK⟩ := h
  obtain ⟨h1, h2, h3, h4, h5⟩ := rOk_ix hro hr
  refine ⟨Nat.le_of_ble_eq_true rfl, fun C hC => ?_⟩
  have loop : ∀ n i, i + n = rpN R r → openB P L R p r d = allF (fun k => hasGd P L p (R.2.2.2.2.2.1 k) (R.2.2.2.2.2.2.1 k) d) (r * 3 + i) n → C 9 [(0, .ref 0), (1, .ref 8), (2, .int (nI p)), (3, .int (nI r)), (4, .int d), (5, .ref 9), (6, .int (nI i))] [] (wayW P R L m) 0 0 := by
    intro n
    induction n with
    | zero =>
      intro i hi he
      refine hC _ _ _ _ _ _ ?_
      refine ⟨h1, And.intro (fun c1 => ⟨rfl, ?_⟩) (fun c1 => absurd (by show R.2.2.2.2.1 (nI r).toNatClampNeg ≤ nI i; rw [h2, h3]; exact nI_le (by omega) (by omega)) c1)⟩
      rw [he] at hK; exact hK
    | succ n ih =>
      intro i hi he
      refine hC _ _ _ _ _ _ ?_
      have e2 : nI r * 3 + nI i = nI (r * 3 + i) := by rw [nI_mul3, nI_add]
      have hv2 : vp_in (nI r * 3 + nI i) 48 := by rw [e2]; exact vp_in_nI (by omega) (by omega)
      have hc2 : (nI r * 3 + nI i).toNatClampNeg = r * 3 + i := by rw [e2]; exact nI_clamp (by omega)
      refine ⟨h1, And.intro (fun c1 => absurd (show R.2.2.2.2.1 (nI r).toNatClampNeg ≤ nI i from c1) (by rw [h2, h3]; exact nI_ge (by omega) (by omega))) (fun c1 => ⟨hv2, hv2, ?_⟩)⟩
      refine ⟨P, L, p, _, _, _, rfl, rfl, ho, hL, hp, And.intro (fun c2 => ?_) (fun c2 => ⟨rfl, ?_⟩)⟩
      · have c2 := bI_n0.mp c2
        rw [hc2] at c2
        have h9 := ih (i + 1) (by omega) (by rw [he, allF, c2, Bool.true_and, Nat.add_assoc])
        rw [← nI_1] at h9
        exact h9
      · have c2 := bI_0.mp c2
        rw [hc2] at c2
        rw [he, allF, c2] at hK; exact hK
  exact hC _ _ _ _ _ _ (loop (rpN R r) 0 (by omega) rfl)
def opnB (P : PT) (L : LT) (R : RT) (p r : Nat) (day : Int32) : Int32 := foldF (fun x k => mnI x (mnI (chgF L day (R.2.2.2.2.2.2.1 k) (R.2.2.2.2.2.1 k) (L_n L)) (begB P day p (R.2.2.2.2.2.1 k)))) (r * 3) (rpN R r) 1000000
def tX10_openingBehind : List q_I := [(0, .aload_n 1, 1, 0, 0), (1, .getfield 37, 3, 0, 0), (4, .astore 5, 2, 0, 0), (6, .ldc 92, 2, 0, 0), (8, .istore 6, 2, 0, 0), (10, .iconst 0, 1, 0, 0), (11, .istore 7, 2, 0, 0), (13, .iload 7, 2, 0, 0), (15, .aload 5, 2, 0, 0), (17, .getfield 43, 3, 0, 0), (20, .iload_n 3, 1, 0, 0), (21, .iaload, 1, 0, 0), (22, .if_icmp .ge 78, 3, 0, 100), (25, .iload_n 3, 1, 0, 0), (26, .iconst 3, 1, 3, 0), (27, .imul, 1, 0, 0), (28, .iload 7, 2, 0, 0), (30, .iadd, 1, 0, 0), (31, .istore 8, 2, 0, 0), (33, .aload_n 1, 1, 0, 0), (34, .getfield 52, 3, 0, 0), (37, .iload 4, 2, 0, 0), (39, .aload 5, 2, 0, 0), (41, .getfield 49, 3, 0, 0), (44, .iload 8, 2, 0, 0), (46, .iaload, 1, 0, 0), (47, .aload 5, 2, 0, 0), (49, .getfield 46, 3, 0, 0), (52, .iload 8, 2, 0, 0), (54, .iaload, 1, 0, 0), (55, .invokevirtual 103, 3, 0, 0), (58, .istore 9, 2, 0, 0), (60, .aload_n 0, 1, 0, 0), (61, .getfield 33, 3, 0, 0), (64, .iload 4, 2, 0, 0), (66, .iload_n 2, 1, 0, 0), (67, .aload 5, 2, 0, 0), (69, .getfield 46, 3, 0, 0), (72, .iload 8, 2, 0, 0), (74, .iaload, 1, 0, 0), (75, .invokevirtual 109, 3, 0, 0), (78, .istore 10, 2, 0, 0), (80, .iload 6, 2, 0, 0), (82, .iload 9, 2, 0, 0), (84, .iload 10, 2, 0, 0), (86, .invokestatic 112, 3, 0, 0), (89, .invokestatic 112, 3, 0, 0), (92, .istore 6, 2, 0, 0), (94, .iinc 7 1, 3, 1, 0), (97, .goto (-84), 3, 0, 13), (100, .iload 6, 2, 0, 0), (102, .ireturn, 1, 0, 0)]
theorem tX10_openingBehind_ok : (tX10_openingBehind.all (q_okI cX10_openingBehind)) = true := by decide +kernel

abbrev fdX10_openingBehind : List (Nat ⊕ (Nat × Nat)) := [.inl 0, .inr (0, 0), .inr (1, 0), .inr (1, 1), .inr (1, 2), .inr (1, 3), .inr (1, 4), .inr (1, 5), .inl 1, .inr (8, 5), .inr (9, 0), .inr (9, 1), .inr (9, 2), .inr (9, 3), .inr (9, 4), .inr (9, 5), .inr (9, 6), .inr (8, 6), .inr (17, 0), .inr (17, 1), .inr (17, 2), .inr (17, 3), .inr (17, 4), .inr (17, 5), .inr (17, 6)]
def spX10_openingBehind : q_P := fun a w K => ∃ (P : PT) (R : RT) (L : LT) (p r : Nat) (d m : Int32), w = wayW P R L m ∧ a = [.ref 0, .ref 8, .int (nI p), .int (nI r), .int d] ∧ pOk P ∧ rOk R ∧ L_n L ≤ 24 ∧ p < P.2.2.2.2.2.2 ∧ r < R.2.2.2.2.2.2.2 ∧ K (.inl (some (.int (opnB P L R p r d)))) w
abbrev csX10_openingBehind : q_S := (5, 10, 2, 11, 0, 0, fdX10_openingBehind, spX10_openingBehind)
theorem coX10_103 (l : Launch) : q_CO l RX10 103 csX3_changeBehind := ⟨yX3_changeBehind, cX3_changeBehind, (some .int), 3, ⟨by decide +kernel, by decide +kernel, by decide +kernel⟩, q_G_i 4 (by decide +kernel) rfl, Or.inl ⟨by decide, rfl, rfl, q_G_i 893 (by decide +kernel) rfl, q_G_i 894 (by decide +kernel) rfl, q_G_i 895 (by decide +kernel) rfl, Or.inl ⟨q_G_i 896 (by decide +kernel) rfl, ctX3_changeBehind l⟩⟩⟩
theorem coX10_109 (l : Launch) : q_CO l RX10 109 csX6_beginningBehind := ⟨yX6_beginningBehind, cX6_beginningBehind, (some .int), 3, ⟨by decide +kernel, by decide +kernel, by decide +kernel⟩, q_G_i 11 (by decide +kernel) rfl, Or.inl ⟨by decide, rfl, rfl, q_G_i 901 (by decide +kernel) rfl, q_G_i 902 (by decide +kernel) rfl, q_G_i 903 (by decide +kernel) rfl, Or.inl ⟨q_G_i 904 (by decide +kernel) rfl, ctX6_beginningBehind l⟩⟩⟩
def EX10_openingBehind : q_E := (tX10_openingBehind, [(13, [0, 1, 2, 3, 4, 5, 6, 7])], 11, flX10, [(103, csX3_changeBehind), (109, csX6_beginningBehind)], [], [(92, 1000000)], [], [], [(112, 2)], 2, 0, 0, (some .int), [], [], 0, 0)
theorem okX10_openingBehind (l : Launch) : q_Eok l RX10 cX10_openingBehind EX10_openingBehind := ⟨tX10_openingBehind_ok, flX10_ok, List.forall_mem_cons.mpr ⟨(coX10_103 l), List.forall_mem_cons.mpr ⟨(coX10_109 l), q_nil⟩⟩, q_nil, List.forall_mem_cons.mpr ⟨q_G_i 875 (by decide +kernel) rfl, q_nil⟩, q_nil, List.forall_mem_cons.mpr ⟨Or.inr (Or.inr ⟨rfl, q_G_i 907 (by decide +kernel) rfl⟩), q_nil⟩, q_nil, (fun h => absurd h (by decide))⟩
set_option maxRecDepth 100000 in
set_option maxHeartbeats 4000000 in
theorem ctX10_openingBehind (l : Launch) : q_CT l yX10_openingBehind (.code yX10_openingBehind cX10_openingBehind 11 (some .int)) 2 0 0 spX10_openingBehind := by
  refine q_ct_of EX10_openingBehind (by decide +kernel) (okX10_openingBehind l) rfl rfl rfl rfl rfl q_nil (fun ci h => by cases h) rfl ?_
  intro a w K h
  obtain ⟨P, R, L, p, r, d, m, rfl, rfl, ho, hro, hL, hp, hr, hK⟩ := h
  obtain ⟨h1, h2, h3, h4, h5⟩ := rOk_ix hro hr
  refine ⟨Nat.le_of_ble_eq_true rfl, fun C hC => ?_⟩
  have loop : ∀ n i x, i + n = rpN R r → opnB P L R p r d = foldF (fun x k => mnI x (mnI (chgF L d (R.2.2.2.2.2.2.1 k) (R.2.2.2.2.2.1 k) (L_n L)) (begB P d p (R.2.2.2.2.2.1 k)))) (r * 3 + i) n x → C 13 [(0, .ref 0), (1, .ref 8), (2, .int (nI p)), (3, .int (nI r)), (4, .int d), (5, .ref 9), (6, .int x), (7, .int (nI i))] [] (wayW P R L m) 0 0 := by
    intro n
    induction n with
    | zero =>
      intro i x hi he
      refine hC _ _ _ _ _ _ ?_
      refine ⟨h1, And.intro (fun c1 => ?_) (fun c1 => absurd (by show R.2.2.2.2.1 (nI r).toNatClampNeg ≤ nI i; rw [h2, h3]; exact nI_le (by omega) (by omega)) c1)⟩
      rw [he] at hK; exact hK
    | succ n ih =>
      intro i x hi he
      refine hC _ _ _ _ _ _ ?_
      have e2 : nI r * 3 + nI i = nI (r * 3 + i) := by rw [nI_mul3, nI_add]
      have hv2 : vp_in (nI r * 3 + nI i) 48 := by rw [e2]; exact vp_in_nI (by omega) (by omega)
      have hc2 : (nI r * 3 + nI i).toNatClampNeg = r * 3 + i := by rw [e2]; exact nI_clamp (by omega)
      refine ⟨h1, And.intro (fun c1 => absurd (show R.2.2.2.2.1 (nI r).toNatClampNeg ≤ nI i from c1) (by rw [h2, h3]; exact nI_ge (by omega) (by omega))) (fun c1 => ⟨hv2, hv2, ?_⟩)⟩
      refine ⟨L, _, _, _, rfl, rfl, hL, hv2, P, _, p, _, rfl, rfl, ho, hp, ?_⟩
      have h9 := ih (i + 1) (mnI x (mnI (chgF L d (R.2.2.2.2.2.2.1 (r * 3 + i)) (R.2.2.2.2.2.1 (r * 3 + i)) (L_n L)) (begB P d p (R.2.2.2.2.2.1 (r * 3 + i))))) (by omega) (by rw [he, foldF, Nat.add_assoc])
      rw [← nI_1, ← hc2] at h9
      exact h9
  exact hC _ _ _ _ _ _ (loop (rpN R r) 0 _ (by omega) rfl)
def comeF (P : PT) (L : LT) (R : RT) (p r : Nat) : Nat → Int32 → Int32
  | 0, _ => 1000000
  | n + 1, day => if 999 < day then 1000000 else if openB P L R p r day then day + R.2.2.1 r else comeF P L R p r n (opnB P L R p r day)
def tX10_comingDay : List q_I := [(0, .iload 4, 2, 0, 0), (2, .istore 5, 2, 0, 0), (4, .iconst 0, 1, 0, 0), (5, .istore 6, 2, 0, 0), (7, .iload 6, 2, 0, 0), (9, .sipush 999, 3, 999, 0), (12, .if_icmp .gt 53, 3, 0, 65), (15, .iload 5, 2, 0, 0), (17, .sipush 999, 3, 999, 0), (20, .if_icmp .gt 45, 3, 0, 65), (23, .aload_n 0, 1, 0, 0), (24, .aload_n 1, 1, 0, 0), (25, .iload_n 2, 1, 0, 0), (26, .iload_n 3, 1, 0, 0), (27, .iload 5, 2, 0, 0), (29, .invokevirtual 93, 3, 0, 0), (32, .ifCond .eq 16, 3, 0, 48), (35, .iload 5, 2, 0, 0), (37, .aload_n 1, 1, 0, 0), (38, .getfield 37, 3, 0, 0), (41, .getfield 97, 3, 0, 0), (44, .iload_n 3, 1, 0, 0), (45, .iaload, 1, 0, 0), (46, .iadd, 1, 0, 0), (47, .ireturn, 1, 0, 0), (48, .aload_n 0, 1, 0, 0), (49, .aload_n 1, 1, 0, 0), (50, .iload_n 2, 1, 0, 0), (51, .iload_n 3, 1, 0, 0), (52, .iload 5, 2, 0, 0), (54, .invokevirtual 100, 3, 0, 0), (57, .istore 5, 2, 0, 0), (59, .iinc 6 1, 3, 1, 0), (62, .goto (-55), 3, 0, 7), (65, .ldc 92, 2, 0, 0), (67, .ireturn, 1, 0, 0)]
theorem tX10_comingDay_ok : (tX10_comingDay.all (q_okI cX10_comingDay)) = true := by decide +kernel

abbrev fdX10_comingDay : List (Nat ⊕ (Nat × Nat)) := [.inl 0, .inr (0, 0), .inr (1, 0), .inr (1, 1), .inr (1, 2), .inr (1, 3), .inr (1, 4), .inr (1, 5), .inl 1, .inr (8, 5), .inr (9, 0), .inr (9, 1), .inr (9, 2), .inr (9, 3), .inr (9, 4), .inr (9, 5), .inr (9, 6), .inr (8, 6), .inr (17, 0), .inr (17, 1), .inr (17, 2), .inr (17, 3), .inr (17, 4), .inr (17, 5), .inr (17, 6)]
def spX10_comingDay : q_P := fun a w K => ∃ (P : PT) (R : RT) (L : LT) (p r : Nat) (d m : Int32), w = wayW P R L m ∧ a = [.ref 0, .ref 8, .int (nI p), .int (nI r), .int d] ∧ pOk P ∧ rOk R ∧ L_n L ≤ 24 ∧ p < P.2.2.2.2.2.2 ∧ r < R.2.2.2.2.2.2.2 ∧ K (.inl (some (.int (comeF P L R p r 1000 d)))) w
abbrev csX10_comingDay : q_S := (5, 10, 4, 7, 0, 0, fdX10_comingDay, spX10_comingDay)
theorem coX10_93 (l : Launch) : q_CO l RX10 93 csX10_isOpen := ⟨yX10_isOpen, cX10_isOpen, (some .boolean), 4, ⟨by decide +kernel, by decide +kernel, by decide +kernel⟩, q_G_i 12 (by decide +kernel) rfl, Or.inl ⟨by decide, rfl, rfl, q_G_i 888 (by decide +kernel) rfl, q_G_i 855 (by decide +kernel) rfl, q_G_i 856 (by decide +kernel) rfl, Or.inl ⟨q_G_i 857 (by decide +kernel) rfl, ctX10_isOpen l⟩⟩⟩
theorem coX10_100 (l : Launch) : q_CO l RX10 100 csX10_openingBehind := ⟨yX10_openingBehind, cX10_openingBehind, (some .int), 4, ⟨by decide +kernel, by decide +kernel, by decide +kernel⟩, q_G_i 12 (by decide +kernel) rfl, Or.inl ⟨by decide, rfl, rfl, q_G_i 889 (by decide +kernel) rfl, q_G_i 891 (by decide +kernel) rfl, q_G_s (n := 7) 29 (by decide +kernel), Or.inl ⟨q_G_i 892 (by decide +kernel) rfl, ctX10_openingBehind l⟩⟩⟩
def EX10_comingDay : q_E := (tX10_comingDay, [(7, [0, 1, 2, 3, 5, 6])], 7, flX10, [(93, csX10_isOpen), (100, csX10_openingBehind)], [], [(92, 1000000)], [], [], [], 4, 0, 0, (some .int), [], [], 0, 0)
theorem okX10_comingDay (l : Launch) : q_Eok l RX10 cX10_comingDay EX10_comingDay := ⟨tX10_comingDay_ok, flX10_ok, List.forall_mem_cons.mpr ⟨(coX10_93 l), List.forall_mem_cons.mpr ⟨(coX10_100 l), q_nil⟩⟩, q_nil, List.forall_mem_cons.mpr ⟨q_G_i 875 (by decide +kernel) rfl, q_nil⟩, q_nil, q_nil, q_nil, (fun h => absurd h (by decide))⟩
set_option maxRecDepth 100000 in
set_option maxHeartbeats 4000000 in
theorem ctX10_comingDay (l : Launch) : q_CT l yX10_comingDay (.code yX10_comingDay cX10_comingDay 7 (some .int)) 4 0 0 spX10_comingDay := by
  refine q_ct_of EX10_comingDay (by decide +kernel) (okX10_comingDay l) rfl rfl rfl rfl rfl q_nil (fun ci h => by cases h) rfl ?_
  intro a w K h
  obtain ⟨P, R, L, p, r, d, m, rfl, rfl, ho, hro, hL, hp, hr, hK⟩ := h
  obtain ⟨h1, h2, h3, h4, h5⟩ := rOk_ix hro hr
  refine ⟨Nat.le_of_ble_eq_true rfl, fun C hC => ?_⟩
  have loop : ∀ n i x, i + n = 1000 → comeF P L R p r 1000 d = comeF P L R p r n x → C 7 [(0, .ref 0), (1, .ref 8), (2, .int (nI p)), (3, .int (nI r)), (5, .int x), (6, .int (nI i))] [] (wayW P R L m) 0 0 := by
    intro n
    induction n with
    | zero =>
      intro i x hi he
      refine hC _ _ _ _ _ _ ?_
      refine And.intro (fun c1 => ?_) (fun c1 => absurd (nI_lt (a := 999) (by omega) (by omega)) c1)
      rw [he] at hK; exact hK
    | succ n ih =>
      intro i x hi he
      refine hC _ _ _ _ _ _ ?_
      refine And.intro (fun c1 => absurd c1 (nI_nlt (b := i) (a := 999) (by omega) (by omega))) (fun c1 => And.intro (fun c2 => ?_) (fun c2 => ?_))
      · rw [he, comeF, if_pos c2] at hK; exact hK
      · refine ⟨P, R, L, p, r, _, _, rfl, rfl, ho, hro, hL, hp, hr, And.intro (fun c3 => ?_) (fun c3 => ⟨h1, ?_⟩)⟩
        · refine ⟨P, R, L, p, r, _, _, rfl, rfl, ho, hro, hL, hp, hr, ?_⟩
          have h9 := ih (i + 1) (opnB P L R p r x) (by omega) (by rw [he, comeF, if_neg c2, if_neg (by rw [bI_0.mp c3]; decide)])
          rw [← nI_1] at h9
          exact h9
        · rw [he, comeF, if_neg c2, if_pos (bI_n0.mp c3)] at hK
          show K (.inl (some (.int _))) _
          rw [h2]; exact hK
  exact hC _ _ _ _ _ _ (loop 1000 0 d (by omega) rfl)
def waysBegin (W : WT) (x : Nat) (v : Int32) : WT := (upd (zf 1000000 W.1 8) x v, W.2.1, zf (-1) W.2.2.1 8, zf 0 W.2.2.2.1 8, W.2.2.2.2.1, W.2.2.2.2.2)
def tX10_begin : List q_I := [(0, .iconst 0, 1, 0, 0), (1, .istore_n 3, 1, 0, 0), (2, .iload_n 3, 1, 0, 0), (3, .bipush 8, 2, 8, 0), (5, .if_icmp .ge 31, 3, 0, 36), (8, .aload_n 0, 1, 0, 0), (9, .getfield 11, 3, 0, 0), (12, .iload_n 3, 1, 0, 0), (13, .ldc 92, 2, 0, 0), (15, .iastore, 1, 0, 0), (16, .aload_n 0, 1, 0, 0), (17, .getfield 18, 3, 0, 0), (20, .iload_n 3, 1, 0, 0), (21, .iconst (-1), 1, (-1), 0), (22, .iastore, 1, 0, 0), (23, .aload_n 0, 1, 0, 0), (24, .getfield 21, 3, 0, 0), (27, .iload_n 3, 1, 0, 0), (28, .iconst 0, 1, 0, 0), (29, .bastore, 1, 0, 0), (30, .iinc 3 1, 3, 1, 0), (33, .goto (-31), 3, 0, 2), (36, .aload_n 0, 1, 0, 0), (37, .getfield 11, 3, 0, 0), (40, .iload_n 1, 1, 0, 0), (41, .iload_n 2, 1, 0, 0), (42, .iastore, 1, 0, 0), (43, .return_, 1, 0, 0)]
theorem tX10_begin_ok : (tX10_begin.all (q_okI cX10_begin)) = true := by decide +kernel

abbrev fdX10_begin : List (Nat ⊕ (Nat × Nat)) := [.inl 0, .inr (0, 1), .inr (0, 2), .inr (0, 3), .inr (0, 4), .inr (0, 5), .inr (0, 6)]
def spX10_begin : q_P := fun a w K => ∃ (W : WT) (pv : Value) (x : Nat) (v : Int32), w = waysW 0 pv W ∧ a = [.ref 0, .int (nI x), .int v] ∧ x < 8 ∧ K (.inl none) (waysW 0 pv (waysBegin W x v))
abbrev csX10_begin : q_S := (3, 10, 0, 4, 0, 0, fdX10_begin, spX10_begin)
def EX10_begin : q_E := (tX10_begin, [(2, [0, 1, 2, 3])], 4, flX10, [], [], [(92, 1000000)], [], [], [], 0, 0, 0, none, [], [], 0, 0)
theorem okX10_begin (l : Launch) : q_Eok l RX10 cX10_begin EX10_begin := ⟨tX10_begin_ok, flX10_ok, q_nil, q_nil, List.forall_mem_cons.mpr ⟨q_G_i 875 (by decide +kernel) rfl, q_nil⟩, q_nil, q_nil, q_nil, (fun h => absurd h (by decide))⟩
set_option maxRecDepth 100000 in
set_option maxHeartbeats 4000000 in
theorem ctX10_begin (l : Launch) : q_CT l yX10_begin (.code yX10_begin cX10_begin 4 none) 0 0 0 spX10_begin := by
  refine q_ct_of EX10_begin (by decide +kernel) (okX10_begin l) rfl rfl rfl rfl rfl q_nil (fun ci h => by cases h) rfl ?_
  intro a w K h
  obtain ⟨W, pv, x, v, rfl, rfl, hx, hK⟩ := h
  refine ⟨Nat.le_of_ble_eq_true rfl, fun C hC => ?_⟩
  have loop : ∀ n i, i + n = 8 → C 2 [(0, .ref 0), (1, .int (nI x)), (2, .int v), (3, .int (nI i))] [] (waysW 0 pv (zf 1000000 W.1 i, W.2.1, zf (-1) W.2.2.1 i, zf 0 W.2.2.2.1 i, W.2.2.2.2.1, W.2.2.2.2.2)) 0 0 := by
    intro n
    induction n with
    | zero =>
      intro i hi
      have hi : i = 8 := by omega
      subst hi
      refine hC _ _ _ _ _ _ ?_
      refine And.intro (fun c1 => ⟨vp_in_nI hx (by omega), ?_⟩) (fun c1 => absurd (Int32.le_refl _) c1)
      show K (.inl none) _
      rw [nI_clamp (by omega)]; exact hK
    | succ n ih =>
      intro i hi
      have hv : vp_in (nI i) 8 := vp_in_nI (by omega) (by omega)
      have hc : (nI i).toNatClampNeg = i := nI_clamp (by omega)
      refine hC _ _ _ _ _ _ ?_
      refine And.intro (fun c1 => absurd c1 (nI_ge (b := 8) (by omega) (by omega))) (fun c1 => ⟨hv, hv, hv, ?_⟩)
      have h9 := ih (i + 1) (by omega)
      rw [← nI_1, ← zf_s, ← zf_s, ← zf_s] at h9
      have e1 : ∀ (f : Nat → Int32) (z : Int32), upd f i z = upd f (nI i).toNatClampNeg z := fun f z => by rw [hc]
      rw [e1, e1, e1] at h9
      exact h9
  refine hC _ _ _ _ _ _ ?_
  have h9 := loop 8 0 rfl
  rw [zf_0, zf_0, zf_0] at h9
  exact h9
def sooF (st le : Nat → Int32) : Nat → Int32 × Int32
  | 0 => (-1, 1000000)
  | i + 1 => if st i = 0 ∧ le i < (sooF st le i).2 then (nI i, le i) else sooF st le i
def tX10_soonestUnsettled : List q_I := [(0, .iconst (-1), 1, (-1), 0), (1, .istore_n 2, 1, 0, 0), (2, .ldc 92, 2, 0, 0), (4, .istore_n 3, 1, 0, 0), (5, .iconst 0, 1, 0, 0), (6, .istore 4, 2, 0, 0), (8, .iload 4, 2, 0, 0), (10, .iload_n 1, 1, 0, 0), (11, .if_icmp .ge 41, 3, 0, 52), (14, .aload_n 0, 1, 0, 0), (15, .getfield 21, 3, 0, 0), (18, .iload 4, 2, 0, 0), (20, .baload, 1, 0, 0), (21, .ifCond .ne 25, 3, 0, 46), (24, .aload_n 0, 1, 0, 0), (25, .getfield 11, 3, 0, 0), (28, .iload 4, 2, 0, 0), (30, .iaload, 1, 0, 0), (31, .iload_n 3, 1, 0, 0), (32, .if_icmp .ge 14, 3, 0, 46), (35, .iload 4, 2, 0, 0), (37, .istore_n 2, 1, 0, 0), (38, .aload_n 0, 1, 0, 0), (39, .getfield 11, 3, 0, 0), (42, .iload 4, 2, 0, 0), (44, .iaload, 1, 0, 0), (45, .istore_n 3, 1, 0, 0), (46, .iinc 4 1, 3, 1, 0), (49, .goto (-41), 3, 0, 8), (52, .iload_n 2, 1, 0, 0), (53, .ireturn, 1, 0, 0)]
theorem tX10_soonestUnsettled_ok : (tX10_soonestUnsettled.all (q_okI cX10_soonestUnsettled)) = true := by decide +kernel

abbrev fdX10_soonestUnsettled : List (Nat ⊕ (Nat × Nat)) := [.inl 0, .inr (0, 1), .inr (0, 2), .inr (0, 3), .inr (0, 4), .inr (0, 5), .inr (0, 6)]
def spX10_soonestUnsettled : q_P := fun a w K => ∃ (W : WT) (pv : Value) (n : Nat), w = waysW 0 pv W ∧ a = [.ref 0, .int (nI n)] ∧ n ≤ 8 ∧ K (.inl (some (.int (sooF W.2.2.2.1 W.1 n).1))) (waysW 0 pv W)
abbrev csX10_soonestUnsettled : q_S := (2, 10, 0, 5, 0, 0, fdX10_soonestUnsettled, spX10_soonestUnsettled)
def EX10_soonestUnsettled : q_E := (tX10_soonestUnsettled, [(8, [0, 1, 2, 3, 4])], 5, flX10, [], [], [(92, 1000000)], [], [], [], 0, 0, 0, (some .int), [], [], 0, 0)
theorem okX10_soonestUnsettled (l : Launch) : q_Eok l RX10 cX10_soonestUnsettled EX10_soonestUnsettled := ⟨tX10_soonestUnsettled_ok, flX10_ok, q_nil, q_nil, List.forall_mem_cons.mpr ⟨q_G_i 875 (by decide +kernel) rfl, q_nil⟩, q_nil, q_nil, q_nil, (fun h => absurd h (by decide))⟩
set_option maxRecDepth 100000 in
set_option maxHeartbeats 4000000 in
theorem ctX10_soonestUnsettled (l : Launch) : q_CT l yX10_soonestUnsettled (.code yX10_soonestUnsettled cX10_soonestUnsettled 5 (some .int)) 0 0 0 spX10_soonestUnsettled := by
  refine q_ct_of EX10_soonestUnsettled (by decide +kernel) (okX10_soonestUnsettled l) rfl rfl rfl rfl rfl q_nil (fun ci h => by cases h) rfl ?_
  intro a w K h
  obtain ⟨W, pv, n, rfl, rfl, hn, hK⟩ := h
  refine ⟨Nat.le_of_ble_eq_true rfl, fun C hC => ?_⟩
  have loop : ∀ k i, i + k = n → C 8 [(0, .ref 0), (1, .int (nI n)), (2, .int (sooF W.2.2.2.1 W.1 i).1), (3, .int (sooF W.2.2.2.1 W.1 i).2), (4, .int (nI i))] [] (waysW 0 pv W) 0 0 := by
    intro k
    induction k with
    | zero =>
      intro i hi
      have hi : i = n := by omega
      subst hi
      refine hC _ _ _ _ _ _ ?_
      exact And.intro (fun c1 => hK) (fun c1 => absurd (Int32.le_refl _) c1)
    | succ k ih =>
      intro i hi
      have hv : vp_in (nI i) 8 := vp_in_nI (by omega) (by omega)
      have hc : (nI i).toNatClampNeg = i := nI_clamp (by omega)
      have h9 := ih (i + 1) (by omega)
      rw [← nI_1] at h9
      refine hC _ _ _ _ _ _ ?_
      refine And.intro (fun c1 => absurd c1 (nI_ge (by omega) (by omega))) (fun c1 => ⟨hv, And.intro (fun c2 => ?_) (fun c2 => ⟨hv, And.intro (fun c3 => ?_) (fun c3 => ⟨hv, ?_⟩)⟩)⟩)
      · have c2 : ¬ W.2.2.2.1 (nI i).toNatClampNeg = 0 := c2
        rw [hc] at c2
        rw [sooF, if_neg (fun z => c2 z.1)] at h9
        exact h9
      · have c3 : (sooF W.2.2.2.1 W.1 i).2 ≤ W.1 (nI i).toNatClampNeg := c3
        rw [hc] at c3
        rw [sooF, if_neg (fun z => Int32.not_le.mpr z.2 c3)] at h9
        exact h9
      · have c2 : W.2.2.2.1 (nI i).toNatClampNeg = 0 := c2
        have c3 : ¬ (sooF W.2.2.2.1 W.1 i).2 ≤ W.1 (nI i).toNatClampNeg := c3
        rw [hc] at c2 c3
        rw [sooF, if_pos ⟨c2, Int32.not_le.mp c3⟩, ← hc] at h9
        rw [hc] at h9
        have e1 : W.1 i = W.1 (nI i).toNatClampNeg := by rw [hc]
        rw [e1] at h9
        exact h9
  exact hC _ _ _ _ _ _ (loop n 0 (by omega))
def offT (W : WT) (x : Nat) (r d : Int32) : Bool := decide (d < W.1 x) || (decide (d = W.1 x) && (decide (¬ d = 1000000) && decide (r < W.2.2.1 x)))
def offer (W : WT) (x : Nat) (r d : Int32) : WT := if offT W x r d then (upd W.1 x d, W.2.1, upd W.2.2.1 x r, W.2.2.2.1, W.2.2.2.2.1, W.2.2.2.2.2) else W
def tX10_offerDay : List q_I := [(0, .iload_n 3, 1, 0, 0), (1, .aload_n 0, 1, 0, 0), (2, .getfield 11, 3, 0, 0), (5, .iload_n 1, 1, 0, 0), (6, .iaload, 1, 0, 0), (7, .if_icmp .lt 29, 3, 0, 36), (10, .iload_n 3, 1, 0, 0), (11, .aload_n 0, 1, 0, 0), (12, .getfield 11, 3, 0, 0), (15, .iload_n 1, 1, 0, 0), (16, .iaload, 1, 0, 0), (17, .if_icmp .ne 33, 3, 0, 50), (20, .iload_n 3, 1, 0, 0), (21, .ldc 92, 2, 0, 0), (23, .if_icmp .eq 27, 3, 0, 50), (26, .iload_n 2, 1, 0, 0), (27, .aload_n 0, 1, 0, 0), (28, .getfield 18, 3, 0, 0), (31, .iload_n 1, 1, 0, 0), (32, .iaload, 1, 0, 0), (33, .if_icmp .ge 17, 3, 0, 50), (36, .aload_n 0, 1, 0, 0), (37, .getfield 11, 3, 0, 0), (40, .iload_n 1, 1, 0, 0), (41, .iload_n 3, 1, 0, 0), (42, .iastore, 1, 0, 0), (43, .aload_n 0, 1, 0, 0), (44, .getfield 18, 3, 0, 0), (47, .iload_n 1, 1, 0, 0), (48, .iload_n 2, 1, 0, 0), (49, .iastore, 1, 0, 0), (50, .return_, 1, 0, 0)]
theorem tX10_offerDay_ok : (tX10_offerDay.all (q_okI cX10_offerDay)) = true := by decide +kernel

abbrev fdX10_offerDay : List (Nat ⊕ (Nat × Nat)) := [.inl 0, .inr (0, 1), .inr (0, 2), .inr (0, 3), .inr (0, 4), .inr (0, 5), .inr (0, 6)]
def spX10_offerDay : q_P := fun a w K => ∃ (W : WT) (pv : Value) (x : Nat) (r d : Int32), w = waysW 0 pv W ∧ a = [.ref 0, .int (nI x), .int r, .int d] ∧ x < 8 ∧ K (.inl none) (waysW 0 pv (offer W x r d))
abbrev csX10_offerDay : q_S := (4, 10, 0, 4, 0, 0, fdX10_offerDay, spX10_offerDay)
def EX10_offerDay : q_E := (tX10_offerDay, [], 4, flX10, [], [], [(92, 1000000)], [], [], [], 0, 0, 0, none, [], [], 0, 0)
theorem okX10_offerDay (l : Launch) : q_Eok l RX10 cX10_offerDay EX10_offerDay := ⟨tX10_offerDay_ok, flX10_ok, q_nil, q_nil, List.forall_mem_cons.mpr ⟨q_G_i 875 (by decide +kernel) rfl, q_nil⟩, q_nil, q_nil, q_nil, (fun h => absurd h (by decide))⟩
set_option maxRecDepth 100000 in
set_option maxHeartbeats 4000000 in
theorem ctX10_offerDay (l : Launch) : q_CT l yX10_offerDay (.code yX10_offerDay cX10_offerDay 4 none) 0 0 0 spX10_offerDay := by
  refine q_ct_of EX10_offerDay (by decide +kernel) (okX10_offerDay l) rfl rfl rfl rfl rfl q_nil (fun ci h => by cases h) rfl ?_
  intro a w K h
  obtain ⟨W, pv, x, r, d, rfl, rfl, hx, hK⟩ := h
  refine ⟨Nat.le_of_ble_eq_true rfl, fun C hC => hC _ _ _ _ _ _ ?_⟩
  have hv : vp_in (nI x) 8 := vp_in_nI hx (by omega)
  have hc : (nI x).toNatClampNeg = x := nI_clamp (by omega)
  have yes : offT W x r d = true → K (.inl none) (waysW 0 pv (upd W.1 (nI x).toNatClampNeg d, W.2.1, upd W.2.2.1 (nI x).toNatClampNeg r, W.2.2.2.1, W.2.2.2.2.1, W.2.2.2.2.2)) := by
    intro h
    rw [offer, if_pos h] at hK
    rw [hc]; exact hK
  have no : offT W x r d = false → K (.inl none) (waysW 0 pv W) := by
    intro h
    rw [offer, h] at hK
    exact hK
  refine ⟨hv, And.intro (fun c => ⟨hv, hv, yes ?_⟩) (fun c => ⟨hv, And.intro (fun c2 => no ?_) (fun c2 => And.intro (fun c3 => no ?_) (fun c3 => ⟨hv, And.intro (fun c4 => no ?_) (fun c4 => ⟨hv, hv, yes ?_⟩)⟩))⟩)⟩
  · have c : d < W.1 (nI x).toNatClampNeg := c
    rw [hc] at c
    simp only [offT, decide_eq_true c, Bool.true_or]
  · have c : ¬ d < W.1 (nI x).toNatClampNeg := c
    have c2 : ¬ d = W.1 (nI x).toNatClampNeg := c2
    rw [hc] at c c2
    simp only [offT, decide_eq_false c, decide_eq_false c2, Bool.false_and, Bool.or_self]
  · have c : ¬ d < W.1 (nI x).toNatClampNeg := c
    have c3 : d = 1000000 := c3
    rw [hc] at c
    have e3 : decide (¬ d = 1000000) = false := decide_eq_false (fun z => z c3)
    simp only [offT, decide_eq_false c, e3, Bool.false_and, Bool.and_false, Bool.or_self]
  · have c : ¬ d < W.1 (nI x).toNatClampNeg := c
    have c4 : W.2.2.1 (nI x).toNatClampNeg ≤ r := c4
    rw [hc] at c c4
    simp only [offT, decide_eq_false c, decide_eq_false (Int32.not_lt.mpr c4), Bool.and_false, Bool.or_self]
  · have c : ¬ d < W.1 (nI x).toNatClampNeg := c
    have c2 : d = W.1 (nI x).toNatClampNeg := c2
    have c3 : ¬ d = 1000000 := c3
    have c4 : ¬ W.2.2.1 (nI x).toNatClampNeg ≤ r := c4
    rw [hc] at c c2 c4
    simp only [offT, decide_eq_true c2, decide_eq_true c3, decide_eq_true (Int32.not_le.mp c4), Bool.and_self, Bool.or_true]
end
section
/-- the world of a search: the ways with their people, the book with its places told, roads, laws -/
def wyW (P : PT) (R : RT) (L : LT) (T : Nat → Int32) (m : Int32) (W : WT) : List q_C := waysW 0 (.ref 7) W ++ (peopleW 7 P ++ ([.inr (0, [.ref 15, tk 14 1, tk 14 2, tk 14 3, .int m, .ref 16, .ref 24, tk 14 7]), .inl (1, 4, .inl T)] ++ (roadsW 16 R ++ lawsW 24 L)))
def rEnd (R : RT) (n : Nat) : Prop := ∀ r, r < R.2.2.2.2.2.2.2 → ∃ a b, R.1 r = nI a ∧ R.2.1 r = nI b ∧ a < n ∧ b < n
theorem acr_lt {R : RT} {n : Nat} (h : rEnd R n) (hn : n ≤ 8) {r : Nat} (hr : r < R.2.2.2.2.2.2.2) (x : Int32) : acr R r x = -1 ∨ ∃ y, acr R r x = nI y ∧ y < n := by
  obtain ⟨a, b, h1, h2, h3, h4⟩ := h r hr
  unfold acr
  split
  · exact Or.inr ⟨b, h2, h4⟩
  · split
    · exact Or.inr ⟨a, h1, h3⟩
    · exact Or.inl rfl
theorem sooF_lt (st le : Nat → Int32) : ∀ n, (sooF st le n).1 = -1 ∨ ∃ y, (sooF st le n).1 = nI y ∧ y < n
  | 0 => Or.inl rfl
  | n + 1 => by
    rw [sooF]
    split
    · exact Or.inr ⟨n, rfl, by omega⟩
    · rcases sooF_lt st le n with h | ⟨y, h, hy⟩
      · exact Or.inl h
      · exact Or.inr ⟨y, h, by omega⟩
def fdOne (P : PT) (L : LT) (R : RT) (p at_ : Nat) (W : WT) (r : Nat) : WT := if acr R r (nI at_) = -1 ∨ ¬ W.2.2.2.1 (acr R r (nI at_)).toNatClampNeg = 0 then W else offer W (acr R r (nI at_)).toNatClampNeg (nI r) (comeF P L R p r 1000 (W.1 at_))
def wSet (W : WT) (i : Nat) : WT := (W.1, W.2.1, W.2.2.1, upd W.2.2.2.1 i 1, W.2.2.2.2.1, W.2.2.2.2.2)
def fdR (P : PT) (L : LT) (R : RT) (p n : Nat) : Nat → WT → WT
  | 0, W => W
  | k + 1, W => if (sooF W.2.2.2.1 W.1 n).1 = -1 then W else fdR P L R p n k (foldF (fdOne P L R p (sooF W.2.2.2.1 W.1 n).1.toNatClampNeg) 0 R.2.2.2.2.2.2.2 (wSet W (sooF W.2.2.2.1 W.1 n).1.toNatClampNeg))
def findD (P : PT) (L : LT) (R : RT) (p n x : Nat) (d : Int32) (W : WT) : WT := fdR P L R p n n (waysBegin W x d)

def tX10_findDays : List q_I := [(0, .aload_n 0, 1, 0, 0), (1, .aload_n 0, 1, 0, 0), (2, .getfield 33, 3, 0, 0), (5, .getfield 62, 3, 0, 0), (8, .iload_n 2, 1, 0, 0), (9, .iaload, 1, 0, 0), (10, .iload_n 3, 1, 0, 0), (11, .invokevirtual 65, 3, 0, 0), (14, .iconst 0, 1, 0, 0), (15, .istore 4, 2, 0, 0), (17, .iload 4, 2, 0, 0), (19, .aload_n 1, 1, 0, 0), (20, .getfield 69, 3, 0, 0), (23, .iconst 0, 1, 0, 0), (24, .iaload, 1, 0, 0), (25, .if_icmp .ge 109, 3, 0, 134), (28, .aload_n 0, 1, 0, 0), (29, .aload_n 1, 1, 0, 0), (30, .getfield 69, 3, 0, 0), (33, .iconst 0, 1, 0, 0), (34, .iaload, 1, 0, 0), (35, .invokevirtual 72, 3, 0, 0), (38, .istore 5, 2, 0, 0), (40, .iload 5, 2, 0, 0), (42, .iconst (-1), 1, (-1), 0), (43, .if_icmp .ne 4, 3, 0, 47), (46, .return_, 1, 0, 0), (47, .aload_n 0, 1, 0, 0), (48, .getfield 21, 3, 0, 0), (51, .iload 5, 2, 0, 0), (53, .iconst 1, 1, 1, 0), (54, .bastore, 1, 0, 0), (55, .iconst 0, 1, 0, 0), (56, .istore 6, 2, 0, 0), (58, .iload 6, 2, 0, 0), (60, .aload_n 1, 1, 0, 0), (61, .getfield 37, 3, 0, 0), (64, .getfield 76, 3, 0, 0), (67, .if_icmp .ge 61, 3, 0, 128), (70, .aload_n 1, 1, 0, 0), (71, .getfield 37, 3, 0, 0), (74, .iload 6, 2, 0, 0), (76, .iload 5, 2, 0, 0), (78, .invokevirtual 80, 3, 0, 0), (81, .istore 7, 2, 0, 0), (83, .iload 7, 2, 0, 0), (85, .iconst (-1), 1, (-1), 0), (86, .if_icmp .eq 36, 3, 0, 122), (89, .aload_n 0, 1, 0, 0), (90, .getfield 21, 3, 0, 0), (93, .iload 7, 2, 0, 0), (95, .baload, 1, 0, 0), (96, .ifCond .ne 26, 3, 0, 122), (99, .aload_n 0, 1, 0, 0), (100, .iload 7, 2, 0, 0), (102, .iload 6, 2, 0, 0), (104, .aload_n 0, 1, 0, 0), (105, .aload_n 1, 1, 0, 0), (106, .iload_n 2, 1, 0, 0), (107, .iload 6, 2, 0, 0), (109, .aload_n 0, 1, 0, 0), (110, .getfield 11, 3, 0, 0), (113, .iload 5, 2, 0, 0), (115, .iaload, 1, 0, 0), (116, .invokevirtual 84, 3, 0, 0), (119, .invokevirtual 88, 3, 0, 0), (122, .iinc 6 1, 3, 1, 0), (125, .goto (-67), 3, 0, 58), (128, .iinc 4 1, 3, 1, 0), (131, .goto (-114), 3, 0, 17), (134, .return_, 1, 0, 0)]
theorem tX10_findDays_ok : (tX10_findDays.all (q_okI cX10_findDays)) = true := by decide +kernel

abbrev fdX10_findDays : List (Nat ⊕ (Nat × Nat)) := [.inl 0, .inr (0, 1), .inr (0, 2), .inr (0, 3), .inr (0, 4), .inr (0, 5), .inr (0, 6), .inr (0, 0), .inr (7, 0), .inr (7, 1), .inr (7, 2), .inr (7, 3), .inr (7, 4), .inr (7, 5), .inl 1, .inr (14, 0), .inr (14, 5), .inr (16, 0), .inr (16, 1), .inr (16, 2), .inr (16, 3), .inr (16, 4), .inr (16, 5), .inr (16, 6), .inr (14, 6), .inr (24, 0), .inr (24, 1), .inr (24, 2), .inr (24, 3), .inr (24, 4), .inr (24, 5), .inr (24, 6)]
def spX10_findDays : q_P := fun a w K => ∃ (P : PT) (R : RT) (L : LT) (T : Nat → Int32) (m : Int32) (W : WT) (n p x : Nat) (d : Int32), w = wyW P R L T m W ∧ a = [.ref 0, .ref 14, .int (nI p), .int d] ∧ pOk P ∧ rOk R ∧ rEnd R n ∧ L_n L ≤ 24 ∧ T 0 = nI n ∧ n ≤ 8 ∧ p < P.2.2.2.2.2.2 ∧ P.1 p = nI x ∧ x < 8 ∧ K (.inl none) (wyW P R L T m (findD P L R p n x d W))
abbrev csX10_findDays : q_S := (4, 10, 5, 8, 0, 0, fdX10_findDays, spX10_findDays)
theorem coX10_65 (l : Launch) : q_CO l RX10 65 csX10_begin := ⟨yX10_begin, cX10_begin, none, 2, ⟨by decide +kernel, by decide +kernel, by decide +kernel⟩, q_G_i 12 (by decide +kernel) rfl, Or.inl ⟨by decide, rfl, rfl, q_G_i 871 (by decide +kernel) rfl, q_G_i 873 (by decide +kernel) rfl, q_G_s (n := 7) 26 (by decide +kernel), Or.inl ⟨q_G_i 874 (by decide +kernel) rfl, ctX10_begin l⟩⟩⟩
theorem coX10_72 (l : Launch) : q_CO l RX10 72 csX10_soonestUnsettled := ⟨yX10_soonestUnsettled, cX10_soonestUnsettled, (some .int), 1, ⟨by decide +kernel, by decide +kernel, by decide +kernel⟩, q_G_i 12 (by decide +kernel) rfl, Or.inl ⟨by decide, rfl, rfl, q_G_i 876 (by decide +kernel) rfl, q_G_i 878 (by decide +kernel) rfl, q_G_s (n := 7) 27 (by decide +kernel), Or.inl ⟨q_G_i 879 (by decide +kernel) rfl, ctX10_soonestUnsettled l⟩⟩⟩
theorem coX10_80 (l : Launch) : q_CO l RX10 80 csX8_across := ⟨yX8_across, cX8_across, (some .int), 2, ⟨by decide +kernel, by decide +kernel, by decide +kernel⟩, q_G_i 3 (by decide +kernel) rfl, Or.inl ⟨by decide, rfl, rfl, q_G_i 880 (by decide +kernel) rfl, q_G_i 881 (by decide +kernel) rfl, q_G_i 882 (by decide +kernel) rfl, Or.inl ⟨q_G_i 883 (by decide +kernel) rfl, ctX8_across l⟩⟩⟩
theorem coX10_84 (l : Launch) : q_CO l RX10 84 csX10_comingDay := ⟨yX10_comingDay, cX10_comingDay, (some .int), 4, ⟨by decide +kernel, by decide +kernel, by decide +kernel⟩, q_G_i 12 (by decide +kernel) rfl, Or.inl ⟨by decide, rfl, rfl, q_G_i 884 (by decide +kernel) rfl, q_G_i 886 (by decide +kernel) rfl, q_G_s (n := 7) 28 (by decide +kernel), Or.inl ⟨q_G_i 887 (by decide +kernel) rfl, ctX10_comingDay l⟩⟩⟩
theorem coX10_88 (l : Launch) : q_CO l RX10 88 csX10_offerDay := ⟨yX10_offerDay, cX10_offerDay, none, 3, ⟨by decide +kernel, by decide +kernel, by decide +kernel⟩, q_G_i 12 (by decide +kernel) rfl, Or.inl ⟨by decide, rfl, rfl, q_G_i 908 (by decide +kernel) rfl, q_G_i 910 (by decide +kernel) rfl, q_G_s (n := 7) 30 (by decide +kernel), Or.inl ⟨q_G_i 911 (by decide +kernel) rfl, ctX10_offerDay l⟩⟩⟩
def EX10_findDays : q_E := (tX10_findDays, [(17, [0, 1, 2, 4]), (58, [0, 1, 2, 4, 5, 6])], 8, flX10, [(65, csX10_begin), (72, csX10_soonestUnsettled), (80, csX8_across), (84, csX10_comingDay), (88, csX10_offerDay)], [], [], [], [], [], 5, 0, 0, none, [], [], 0, 0)
theorem okX10_findDays (l : Launch) : q_Eok l RX10 cX10_findDays EX10_findDays := ⟨tX10_findDays_ok, flX10_ok, List.forall_mem_cons.mpr ⟨(coX10_65 l), List.forall_mem_cons.mpr ⟨(coX10_72 l), List.forall_mem_cons.mpr ⟨(coX10_80 l), List.forall_mem_cons.mpr ⟨(coX10_84 l), List.forall_mem_cons.mpr ⟨(coX10_88 l), q_nil⟩⟩⟩⟩⟩, q_nil, q_nil, q_nil, q_nil, q_nil, (fun h => absurd h (by decide))⟩
set_option maxRecDepth 100000 in
set_option maxHeartbeats 4000000 in
theorem ctX10_findDays (l : Launch) : q_CT l yX10_findDays (.code yX10_findDays cX10_findDays 8 none) 5 0 0 spX10_findDays := by
  refine q_ct_of EX10_findDays (by decide +kernel) (okX10_findDays l) rfl rfl rfl rfl rfl q_nil (fun ci h => by cases h) rfl ?_
  intro a w K h
  obtain ⟨P, R, L, T, m, W, n, p, x, d, rfl, rfl, ho, hro, hre, hL, hT, hn, hp, hx, hx8, hK⟩ := h
  obtain ⟨p1, p2, p3, p4, p5⟩ := pOk_ix ho hp
  have hrn := hro.1
  refine ⟨Nat.le_of_ble_eq_true rfl, fun C hC => ?_⟩
  have outer : ∀ k i W, i + k = n → K (.inl none) (wyW P R L T m (fdR P L R p n k W)) → C 17 [(0, .ref 0), (1, .ref 14), (2, .int (nI p)), (4, .int (nI i))] [] (wyW P R L T m W) 0 0 := by
    intro k
    induction k with
    | zero =>
      intro i W hi hK
      refine hC _ _ _ _ _ _ ?_
      refine ⟨vp_in_nI (n := 0) (by decide) (by decide), And.intro (fun c1 => hK) (fun c1 => absurd (by show T 0 ≤ nI i; rw [hT]; exact nI_le (by omega) (by omega)) c1)⟩
    | succ k ih =>
      intro i W hi hK
      refine hC _ _ _ _ _ _ ?_
      refine ⟨vp_in_nI (n := 0) (by decide) (by decide), And.intro (fun c1 => absurd (show T 0 ≤ nI i from c1) (by rw [hT]; exact nI_ge (by omega) (by omega))) (fun c1 => ?_)⟩
      refine ⟨vp_in_nI (n := 0) (by decide) (by decide), W, _, n, rfl, (show [Value.ref 0, .int (T 0)] = _ by rw [hT]), hn, And.intro (fun c2 => ?_) (fun c2 => ?_)⟩
      · have c2 : ¬ (sooF W.2.2.2.1 W.1 n).1 = -1 := c2
        rw [fdR, if_neg c2] at hK
        obtain ⟨s, hs, hsn⟩ := (sooF_lt W.2.2.2.1 W.1 n).resolve_left c2
        have hsc : (nI s).toNatClampNeg = s := nI_clamp (by omega)
        rw [hs, hsc] at hK
        have inner : ∀ k j W, j + k = R.2.2.2.2.2.2.2 → K (.inl none) (wyW P R L T m (fdR P L R p n (n - (i + 1)) (foldF (fdOne P L R p s) j k W))) → C 58 [(0, .ref 0), (1, .ref 14), (2, .int (nI p)), (4, .int (nI i)), (5, .int (nI s)), (6, .int (nI j))] [] (wyW P R L T m W) 0 0 := by
          intro k2
          induction k2 with
          | zero =>
            intro j W hj hK
            refine hC _ _ _ _ _ _ ?_
            refine And.intro (fun c3 => ?_) (fun c3 => absurd (nI_le (by omega) (by omega)) c3)
            have h9 := ih (i + 1) W (by omega) (by rw [foldF, show n - (i + 1) = k by omega] at hK; exact hK)
            rw [← nI_1] at h9
            exact h9
          | succ k2 ih2 =>
            intro j W hj hK
            have hrj : j < R.2.2.2.2.2.2.2 := by omega
            have nx : ∀ W', fdOne P L R p s W j = W' → C 58 [(0, .ref 0), (1, .ref 14), (2, .int (nI p)), (4, .int (nI i)), (5, .int (nI s)), (6, .int (nI j + 1))] [] (wyW P R L T m W') 0 0 := by
              intro W' e
              have h9 := ih2 (j + 1) W' (by omega) (by rw [foldF, e] at hK; exact hK)
              rw [← nI_1] at h9
              exact h9
            refine hC _ _ _ _ _ _ ?_
            refine And.intro (fun c3 => absurd c3 (nI_ge (by omega) (by omega))) (fun c3 => ?_)
            refine ⟨R, j, _, rfl, rfl, by omega, And.intro (fun c4 => ?_) (fun c4 => ?_)⟩
            · exact nx W (if_pos (Or.inl c4))
            · have c4 : ¬ acr R j (nI s) = -1 := c4
              obtain ⟨y, hy, hyn⟩ := (acr_lt hre hn hrj (nI s)).resolve_left c4
              have hyc : (nI y).toNatClampNeg = y := nI_clamp (by omega)
              have hv : vp_in (acr R j (nI s)) 8 := by rw [hy]; exact vp_in_nI (by omega) (by omega)
              refine ⟨hv, And.intro (fun c5 => ?_) (fun c5 => ?_)⟩
              · exact nx W (if_pos (Or.inr c5))
              · refine ⟨vp_in_nI (by omega) (by omega), P, R, L, p, j, _, m, rfl, rfl, ho, hro, hL, hp, hrj, ?_⟩
                refine ⟨W, _, y, _, _, rfl, (by rw [← hy]), by omega, ?_⟩
                have h9 := nx (offer W y (nI j) (comeF P L R p j 1000 (W.1 s))) (by rw [fdOne, if_neg (fun z => z.elim c4 (fun z => z c5)), hy, hyc])
                rw [← hsc] at h9
                rw [hsc] at h9
                have e1 : W.1 s = W.1 (nI s).toNatClampNeg := by rw [hsc]
                rw [e1] at h9
                exact h9
        refine ⟨(by show vp_in (sooF W.2.2.2.1 W.1 n).1 8; rw [hs]; exact vp_in_nI (by omega) (by omega)), ?_⟩
        have h9 := inner R.2.2.2.2.2.2.2 0 (wSet W s) (by omega) (by rw [show n - (i + 1) = k by omega]; exact hK)
        rw [← hs] at h9
        have e1 : wSet W s = wSet W (sooF W.2.2.2.1 W.1 n).1.toNatClampNeg := by rw [hs, hsc]
        rw [e1] at h9
        exact h9
      · have c2 : (sooF W.2.2.2.1 W.1 n).1 = -1 := c2
        rw [fdR, if_pos c2] at hK
        exact hK
  refine hC _ _ _ _ _ _ ?_
  refine ⟨p1, W, _, x, _, rfl, (show [Value.ref 0, .int (P.1 (nI p).toNatClampNeg), .int d] = _ by rw [p2, hx]), hx8, ?_⟩
  exact outer n 0 (waysBegin W x d) (by omega) hK
def byOk (W : WT) (rc : Nat) : Prop := ∀ y, y < 8 → W.2.2.1 y = -1 ∨ ∃ r, W.2.2.1 y = nI r ∧ r < rc
theorem upd_at {α : Type} (f : Nat → Int32) (i : Nat) (v : Int32) (j : Nat) : upd f i v j = if j = i then v else f j := by
  by_cases h : j = i
  · subst h; rw [if_pos rfl]; exact pk_us
  · rw [if_neg h]; exact pk_un h
theorem byOk_begin (W : WT) (x : Nat) (v : Int32) (rc : Nat) : byOk (waysBegin W x v) rc := fun y hy => Or.inl (if_pos hy)
theorem byOk_offer {W : WT} {rc : Nat} (h : byOk W rc) (x r : Nat) (d : Int32) (hr : r < rc) : byOk (offer W x (nI r) d) rc := by
  intro y hy
  rw [offer]
  split
  · by_cases e : y = x
    · subst e; exact Or.inr ⟨r, pk_us, hr⟩
    · rcases h y hy with z | ⟨q, z, hq⟩
      · exact Or.inl (by show upd _ _ _ y = _; rw [pk_un e]; exact z)
      · exact Or.inr ⟨q, by show upd _ _ _ y = _; rw [pk_un e]; exact z, hq⟩
  · exact h y hy
theorem foldF_inv {α : Type} {g : α → Nat → α} {I : α → Prop} : ∀ n s x, I x → (∀ y k, I y → s ≤ k → k < s + n → I (g y k)) → I (foldF g s n x)
  | 0, _, _, h, _ => h
  | n + 1, s, x, h, hg => foldF_inv n (s + 1) (g x s) (hg x s h (Nat.le_refl _) (by omega)) (fun y k hy h1 h2 => hg y k hy (by omega) (by omega))
theorem byOk_fdOne {P : PT} {L : LT} {R : RT} {p a : Nat} {W : WT} {rc : Nat} (h : byOk W rc) {r : Nat} (hr : r < rc) : byOk (fdOne P L R p a W r) rc := by
  rw [fdOne]
  split
  · exact h
  · exact byOk_offer h _ _ _ hr
theorem byOk_fdR {P : PT} {L : LT} {R : RT} {p n : Nat} : ∀ k W, byOk W R.2.2.2.2.2.2.2 → byOk (fdR P L R p n k W) R.2.2.2.2.2.2.2
  | 0, _, h => h
  | k + 1, W, h => by
    rw [fdR]
    split
    · exact h
    · exact byOk_fdR k _ (foldF_inv (I := fun W => byOk W R.2.2.2.2.2.2.2) _ 0 _ h (fun y j hy _ hj => byOk_fdOne hy (by omega)))
theorem byOk_findD {P : PT} {L : LT} {R : RT} {p n x : Nat} {d : Int32} {W : WT} : byOk (findD P L R p n x d W) R.2.2.2.2.2.2.2 := byOk_fdR _ _ (byOk_begin _ _ _ _)
def trF (R : RT) (W : WT) : Nat → Nat → Nat → (Nat → Int32) → Nat × (Nat → Int32)
  | 0, _, _, t => (0, t)
  | k + 1, s, y, t => if W.1 y = 1000000 then (0, t) else if W.2.2.1 y = -1 ∨ acr R (W.2.2.1 y).toNatClampNeg (nI y) = -1 then (s + 1, upd t s (nI y)) else trF R W k (s + 1) (acr R (W.2.2.1 y).toNatClampNeg (nI y)).toNatClampNeg (upd t s (nI y))
def wTr (W : WT) (t : Nat → Int32) : WT := (W.1, t, W.2.2)
def tX10_trace : List q_I := [(0, .iload_n 2, 1, 0, 0), (1, .istore_n 3, 1, 0, 0), (2, .iconst 1, 1, 1, 0), (3, .istore 4, 2, 0, 0), (5, .iload 4, 2, 0, 0), (7, .bipush 8, 2, 8, 0), (9, .if_icmp .gt 69, 3, 0, 78), (12, .aload_n 0, 1, 0, 0), (13, .getfield 11, 3, 0, 0), (16, .iload_n 3, 1, 0, 0), (17, .iaload, 1, 0, 0), (18, .ldc 92, 2, 0, 0), (20, .if_icmp .eq 58, 3, 0, 78), (23, .aload_n 0, 1, 0, 0), (24, .getfield 15, 3, 0, 0), (27, .iload 4, 2, 0, 0), (29, .iconst 1, 1, 1, 0), (30, .isub, 1, 0, 0), (31, .iload_n 3, 1, 0, 0), (32, .iastore, 1, 0, 0), (33, .aload_n 0, 1, 0, 0), (34, .getfield 18, 3, 0, 0), (37, .iload_n 3, 1, 0, 0), (38, .iaload, 1, 0, 0), (39, .iconst (-1), 1, (-1), 0), (40, .if_icmp .ne 7, 3, 0, 47), (43, .iconst (-1), 1, (-1), 0), (44, .goto 14, 3, 0, 58), (47, .aload_n 1, 1, 0, 0), (48, .aload_n 0, 1, 0, 0), (49, .getfield 18, 3, 0, 0), (52, .iload_n 3, 1, 0, 0), (53, .iaload, 1, 0, 0), (54, .iload_n 3, 1, 0, 0), (55, .invokevirtual 80, 3, 0, 0), (58, .istore 5, 2, 0, 0), (60, .iload 5, 2, 0, 0), (62, .iconst (-1), 1, (-1), 0), (63, .if_icmp .ne 6, 3, 0, 69), (66, .iload 4, 2, 0, 0), (68, .ireturn, 1, 0, 0), (69, .iload 5, 2, 0, 0), (71, .istore_n 3, 1, 0, 0), (72, .iinc 4 1, 3, 1, 0), (75, .goto (-70), 3, 0, 5), (78, .iconst 0, 1, 0, 0), (79, .ireturn, 1, 0, 0)]
theorem tX10_trace_ok : (tX10_trace.all (q_okI cX10_trace)) = true := by decide +kernel

abbrev fdX10_trace : List (Nat ⊕ (Nat × Nat)) := [.inl 0, .inr (0, 1), .inr (0, 2), .inr (0, 3), .inr (0, 4), .inr (0, 5), .inr (0, 6), .inl 1, .inr (7, 0), .inr (7, 1), .inr (7, 2), .inr (7, 3), .inr (7, 4), .inr (7, 5), .inr (7, 6)]
def spX10_trace : q_P := fun a w K => ∃ (R : RT) (W : WT) (pv : Value) (n x : Nat), w = waysW 0 pv W ++ roadsW 7 R ∧ a = [.ref 0, .ref 7, .int (nI x)] ∧ R.2.2.2.2.2.2.2 ≤ 16 ∧ rEnd R n ∧ n ≤ 8 ∧ byOk W R.2.2.2.2.2.2.2 ∧ x < 8 ∧ K (.inl (some (.int (nI (trF R W 8 0 x W.2.1).1)))) (waysW 0 pv (wTr W (trF R W 8 0 x W.2.1).2) ++ roadsW 7 R)
abbrev csX10_trace : q_S := (3, 10, 1, 6, 0, 0, fdX10_trace, spX10_trace)
def EX10_trace : q_E := (tX10_trace, [(5, [0, 1, 3, 4])], 6, flX10, [(80, csX8_across)], [], [(92, 1000000)], [], [], [], 1, 0, 0, (some .int), [], [], 0, 0)
theorem okX10_trace (l : Launch) : q_Eok l RX10 cX10_trace EX10_trace := ⟨tX10_trace_ok, flX10_ok, List.forall_mem_cons.mpr ⟨(coX10_80 l), q_nil⟩, q_nil, List.forall_mem_cons.mpr ⟨q_G_i 875 (by decide +kernel) rfl, q_nil⟩, q_nil, q_nil, q_nil, (fun h => absurd h (by decide))⟩
set_option maxRecDepth 100000 in
set_option maxHeartbeats 4000000 in
theorem ctX10_trace (l : Launch) : q_CT l yX10_trace (.code yX10_trace cX10_trace 6 (some .int)) 1 0 0 spX10_trace := by
  refine q_ct_of EX10_trace (by decide +kernel) (okX10_trace l) rfl rfl rfl rfl rfl q_nil (fun ci h => by cases h) rfl ?_
  intro a w K h
  obtain ⟨R, W, pv, n, x, rfl, rfl, hrn, hre, hn, hby, hx, hK⟩ := h
  refine ⟨Nat.le_of_ble_eq_true rfl, fun C hC => ?_⟩
  have loop : ∀ k i y t, i + k = 8 → y < 8 → K (.inl (some (.int (nI (trF R W k i y t).1)))) (waysW 0 pv (wTr W (trF R W k i y t).2) ++ roadsW 7 R) → C 5 [(0, .ref 0), (1, .ref 7), (3, .int (nI y)), (4, .int (nI (i + 1)))] [] (waysW 0 pv (wTr W t) ++ roadsW 7 R) 0 0 := by
    intro k
    induction k with
    | zero =>
      intro i y t hi hy hK
      refine hC _ _ _ _ _ _ ?_
      exact And.intro (fun c1 => hK) (fun c1 => absurd (nI_lt (a := 8) (by omega) (by omega)) c1)
    | succ k ih =>
      intro i y t hi hy hK
      have hv : vp_in (nI y) 8 := vp_in_nI (by omega) (by omega)
      have hc : (nI y).toNatClampNeg = y := nI_clamp (by omega)
      have hci : (nI (i + 1) - 1).toNatClampNeg = i := by rw [nI_pred]; exact nI_clamp (by omega)
      have hvi : vp_in (nI (i + 1) - 1) 8 := by rw [nI_pred]; exact vp_in_nI (by omega) (by omega)
      refine hC _ _ _ _ _ _ ?_
      refine And.intro (fun c1 => absurd c1 (nI_nlt (b := i + 1) (a := 8) (by omega) (by omega))) (fun c1 => ⟨hv, And.intro (fun c2 => ?_) (fun c2 => ?_)⟩)
      · have c2 : W.1 (nI y).toNatClampNeg = 1000000 := c2
        rw [hc] at c2
        rw [trF, if_pos c2] at hK
        exact hK
      · have c2 : ¬ W.1 (nI y).toNatClampNeg = 1000000 := c2
        rw [hc] at c2
        refine ⟨hvi, hv, And.intro (fun c3 => ?_) (fun c3 => ?_)⟩
        · have c3 : ¬ W.2.2.1 (nI y).toNatClampNeg = -1 := c3
          rw [hc] at c3
          obtain ⟨r, hr, hrc⟩ := (hby y hy).resolve_left c3
          have hrr : (nI r).toNatClampNeg = r := nI_clamp (by omega)
          refine ⟨hv, R, r, _, rfl, (show [Value.ref 0, .int (W.2.2.1 (nI y).toNatClampNeg), .int (nI y)] = _ by rw [hc, hr]), by omega, And.intro (fun c4 => ?_) (fun c4 => ?_)⟩
          · have c4 : ¬ acr R r (nI y) = -1 := c4
            obtain ⟨z, hz, hzn⟩ := (acr_lt hre hn hrc (nI y)).resolve_left c4
            have hzc : (nI z).toNatClampNeg = z := nI_clamp (by omega)
            rw [trF, if_neg c2, if_neg (fun q => q.elim c3 (by rw [hr, hrr]; exact c4)), hr, hrr, hz, hzc] at hK
            have h9 := ih (i + 1) z _ (by omega) (by omega) hK
            rw [← hz, ← nI_1 (i + 1), ← hci] at h9
            rw [hci] at h9
            have e1 : upd t i (nI y) = upd t (nI (i + 1) - 1).toNatClampNeg (nI y) := by rw [hci]
            rw [e1] at h9
            exact h9
          · have c4 : acr R r (nI y) = -1 := c4
            rw [trF, if_neg c2, if_pos (Or.inr (by rw [hr, hrr]; exact c4))] at hK
            have e1 : upd t i (nI y) = upd t (nI (i + 1) - 1).toNatClampNeg (nI y) := by rw [hci]
            rw [e1] at hK
            exact hK
        · have c3 : W.2.2.1 (nI y).toNatClampNeg = -1 := c3
          rw [hc] at c3
          rw [trF, if_neg c2, if_pos (Or.inl c3)] at hK
          have e1 : upd t i (nI y) = upd t (nI (i + 1) - 1).toNatClampNeg (nI y) := by rw [hci]
          rw [e1] at hK
          exact And.intro (fun c4 => absurd rfl c4) (fun _ => hK)
  exact hC _ _ _ _ _ _ (loop 8 0 x W.2.1 rfl hx hK)
def lowE (a b : Nat) (c : Int32) (f : Nat → Int32) : Nat → Int32 :=
  if (if f a = 1000000 then f else upd f b (mnI (f b) (f a + c))) b = 1000000 then (if f a = 1000000 then f else upd f b (mnI (f b) (f a + c)))
  else upd (if f a = 1000000 then f else upd f b (mnI (f b) (f a + c))) a (mnI ((if f a = 1000000 then f else upd f b (mnI (f b) (f a + c))) a) ((if f a = 1000000 then f else upd f b (mnI (f b) (f a + c))) b + c))
def coinE (R : RT) (f : Nat → Int32) (r : Nat) : Nat → Int32 := lowE (R.1 r).toNatClampNeg (R.2.1 r).toNatClampNeg (R.2.2.2.1 r) f
def tX10_lowerEnds : List q_I := [(0, .aload_n 1, 1, 0, 0), (1, .getfield 129, 3, 0, 0), (4, .iload_n 2, 1, 0, 0), (5, .iaload, 1, 0, 0), (6, .istore_n 3, 1, 0, 0), (7, .aload_n 1, 1, 0, 0), (8, .getfield 132, 3, 0, 0), (11, .iload_n 2, 1, 0, 0), (12, .iaload, 1, 0, 0), (13, .istore 4, 2, 0, 0), (15, .aload_n 1, 1, 0, 0), (16, .getfield 135, 3, 0, 0), (19, .iload_n 2, 1, 0, 0), (20, .iaload, 1, 0, 0), (21, .istore 5, 2, 0, 0), (23, .aload_n 0, 1, 0, 0), (24, .getfield 11, 3, 0, 0), (27, .iload_n 3, 1, 0, 0), (28, .iaload, 1, 0, 0), (29, .ldc 92, 2, 0, 0), (31, .if_icmp .eq 29, 3, 0, 60), (34, .aload_n 0, 1, 0, 0), (35, .getfield 11, 3, 0, 0), (38, .iload 4, 2, 0, 0), (40, .aload_n 0, 1, 0, 0), (41, .getfield 11, 3, 0, 0), (44, .iload 4, 2, 0, 0), (46, .iaload, 1, 0, 0), (47, .aload_n 0, 1, 0, 0), (48, .getfield 11, 3, 0, 0), (51, .iload_n 3, 1, 0, 0), (52, .iaload, 1, 0, 0), (53, .iload 5, 2, 0, 0), (55, .iadd, 1, 0, 0), (56, .invokestatic 112, 3, 0, 0), (59, .iastore, 1, 0, 0), (60, .aload_n 0, 1, 0, 0), (61, .getfield 11, 3, 0, 0), (64, .iload 4, 2, 0, 0), (66, .iaload, 1, 0, 0), (67, .ldc 92, 2, 0, 0), (69, .if_icmp .eq 28, 3, 0, 97), (72, .aload_n 0, 1, 0, 0), (73, .getfield 11, 3, 0, 0), (76, .iload_n 3, 1, 0, 0), (77, .aload_n 0, 1, 0, 0), (78, .getfield 11, 3, 0, 0), (81, .iload_n 3, 1, 0, 0), (82, .iaload, 1, 0, 0), (83, .aload_n 0, 1, 0, 0), (84, .getfield 11, 3, 0, 0), (87, .iload 4, 2, 0, 0), (89, .iaload, 1, 0, 0), (90, .iload 5, 2, 0, 0), (92, .iadd, 1, 0, 0), (93, .invokestatic 112, 3, 0, 0), (96, .iastore, 1, 0, 0), (97, .return_, 1, 0, 0)]
theorem tX10_lowerEnds_ok : (tX10_lowerEnds.all (q_okI cX10_lowerEnds)) = true := by decide +kernel

abbrev fdX10_lowerEnds : List (Nat ⊕ (Nat × Nat)) := [.inl 0, .inr (0, 1), .inr (0, 2), .inr (0, 3), .inr (0, 4), .inr (0, 5), .inr (0, 6), .inl 1, .inr (7, 0), .inr (7, 1), .inr (7, 2), .inr (7, 3), .inr (7, 4), .inr (7, 5), .inr (7, 6)]
def spX10_lowerEnds : q_P := fun a w K => ∃ (R : RT) (W : WT) (pv : Value) (n r : Nat), w = waysW 0 pv W ++ roadsW 7 R ∧ a = [.ref 0, .ref 7, .int (nI r)] ∧ R.2.2.2.2.2.2.2 ≤ 16 ∧ rEnd R n ∧ n ≤ 8 ∧ r < R.2.2.2.2.2.2.2 ∧ K (.inl none) (waysW 0 pv (coinE R W.1 r, W.2) ++ roadsW 7 R)
abbrev csX10_lowerEnds : q_S := (3, 10, 1, 6, 0, 0, fdX10_lowerEnds, spX10_lowerEnds)
def EX10_lowerEnds : q_E := (tX10_lowerEnds, [], 6, flX10, [], [], [(92, 1000000)], [], [], [(112, 2)], 1, 0, 0, none, [], [], 0, 0)
theorem okX10_lowerEnds (l : Launch) : q_Eok l RX10 cX10_lowerEnds EX10_lowerEnds := ⟨tX10_lowerEnds_ok, flX10_ok, q_nil, q_nil, List.forall_mem_cons.mpr ⟨q_G_i 875 (by decide +kernel) rfl, q_nil⟩, q_nil, List.forall_mem_cons.mpr ⟨Or.inr (Or.inr ⟨rfl, q_G_i 907 (by decide +kernel) rfl⟩), q_nil⟩, q_nil, (fun h => absurd h (by decide))⟩
set_option maxRecDepth 100000 in
set_option maxHeartbeats 4000000 in
theorem ctX10_lowerEnds (l : Launch) : q_CT l yX10_lowerEnds (.code yX10_lowerEnds cX10_lowerEnds 6 none) 1 0 0 spX10_lowerEnds := by
  refine q_ct_of EX10_lowerEnds (by decide +kernel) (okX10_lowerEnds l) rfl rfl rfl rfl rfl q_nil (fun ci h => by cases h) rfl ?_
  intro a w K h
  obtain ⟨R, W, pv, n, r, rfl, rfl, hrn, hre, hn, hr, hK⟩ := h
  refine ⟨Nat.le_of_ble_eq_true rfl, fun C hC => hC _ _ _ _ _ _ ?_⟩
  obtain ⟨a, b, h1, h2, h3, h4⟩ := hre r hr
  have hv : vp_in (nI r) 16 := vp_in_nI (by omega) (by omega)
  have hc : (nI r).toNatClampNeg = r := nI_clamp (by omega)
  have va : vp_in (R.1 (nI r).toNatClampNeg) 8 := by rw [hc, h1]; exact vp_in_nI (by omega) (by omega)
  have vb : vp_in (R.2.1 (nI r).toNatClampNeg) 8 := by rw [hc, h2]; exact vp_in_nI (by omega) (by omega)
  have hK : K (.inl none) (waysW 0 pv (coinE R W.1 (nI r).toNatClampNeg, W.2) ++ roadsW 7 R) := by rw [hc]; exact hK
  refine ⟨hv, hv, hv, va, And.intro (fun c => ?_) (fun c => ?_)⟩
  · have c : W.1 (R.1 (nI r).toNatClampNeg).toNatClampNeg = 1000000 := c
    rw [coinE, lowE, if_pos c] at hK
    refine ⟨vb, And.intro (fun c2 => ?_) (fun c2 => ?_)⟩
    · have c2 : W.1 (R.2.1 (nI r).toNatClampNeg).toNatClampNeg = 1000000 := c2
      rw [if_pos c2] at hK; exact hK
    · have c2 : ¬ W.1 (R.2.1 (nI r).toNatClampNeg).toNatClampNeg = 1000000 := c2
      rw [if_neg c2] at hK; exact ⟨va, vb, va, hK⟩
  · have c : ¬ W.1 (R.1 (nI r).toNatClampNeg).toNatClampNeg = 1000000 := c
    rw [coinE, lowE, if_neg c] at hK
    refine ⟨vb, va, vb, vb, And.intro (fun c2 => ?_) (fun c2 => ?_)⟩
    · rw [if_pos c2] at hK; exact hK
    · rw [if_neg c2] at hK; exact ⟨va, vb, va, hK⟩
def wMet (W : WT) (g : Nat → Int32) : WT := (W.1, W.2.1, W.2.2.1, W.2.2.2.1, g, W.2.2.2.2.2)
def wOpn (W : WT) (g : Nat → Int32) : WT := (W.1, W.2.1, W.2.2.1, W.2.2.2.1, W.2.2.2.2.1, g)
def metB (P : PT) (L : LT) (R : RT) (p : Nat) (d : Int32) (k : Nat) : Bool := hasGd P L p (R.2.2.2.2.2.1 k) (R.2.2.2.2.2.2.1 k) d
def metOk (R : RT) (g : Nat → Int32) (b : Nat → Bool) (j : Nat) : Prop := ∀ r i, r < j → i < rpN R r → g (r * 3 + i) = bI (b (r * 3 + i))
def tX10_meetPosts : List q_I := [(0, .aload_n 1, 1, 0, 0), (1, .getfield 37, 3, 0, 0), (4, .astore 4, 2, 0, 0), (6, .iconst 0, 1, 0, 0), (7, .istore 5, 2, 0, 0), (9, .iload 5, 2, 0, 0), (11, .aload 4, 2, 0, 0), (13, .getfield 76, 3, 0, 0), (16, .if_icmp .ge 76, 3, 0, 92), (19, .iconst 0, 1, 0, 0), (20, .istore 6, 2, 0, 0), (22, .iload 6, 2, 0, 0), (24, .aload 4, 2, 0, 0), (26, .getfield 43, 3, 0, 0), (29, .iload 5, 2, 0, 0), (31, .iaload, 1, 0, 0), (32, .if_icmp .ge 54, 3, 0, 86), (35, .iload 5, 2, 0, 0), (37, .iconst 3, 1, 3, 0), (38, .imul, 1, 0, 0), (39, .iload 6, 2, 0, 0), (41, .iadd, 1, 0, 0), (42, .istore 7, 2, 0, 0), (44, .aload_n 0, 1, 0, 0), (45, .getfield 27, 3, 0, 0), (48, .iload 7, 2, 0, 0), (50, .aload_n 0, 1, 0, 0), (51, .getfield 33, 3, 0, 0), (54, .iload_n 2, 1, 0, 0), (55, .aload 4, 2, 0, 0), (57, .getfield 46, 3, 0, 0), (60, .iload 7, 2, 0, 0), (62, .iaload, 1, 0, 0), (63, .aload 4, 2, 0, 0), (65, .getfield 49, 3, 0, 0), (68, .iload 7, 2, 0, 0), (70, .iaload, 1, 0, 0), (71, .iload_n 3, 1, 0, 0), (72, .aload_n 1, 1, 0, 0), (73, .getfield 52, 3, 0, 0), (76, .invokevirtual 56, 3, 0, 0), (79, .bastore, 1, 0, 0), (80, .iinc 6 1, 3, 1, 0), (83, .goto (-61), 3, 0, 22), (86, .iinc 5 1, 3, 1, 0), (89, .goto (-80), 3, 0, 9), (92, .return_, 1, 0, 0)]
theorem tX10_meetPosts_ok : (tX10_meetPosts.all (q_okI cX10_meetPosts)) = true := by decide +kernel

abbrev fdX10_meetPosts : List (Nat ⊕ (Nat × Nat)) := [.inl 0, .inr (0, 1), .inr (0, 2), .inr (0, 3), .inr (0, 4), .inr (0, 5), .inr (0, 6), .inr (0, 0), .inr (7, 0), .inr (7, 1), .inr (7, 2), .inr (7, 3), .inr (7, 4), .inr (7, 5), .inl 1, .inr (14, 0), .inr (14, 5), .inr (16, 0), .inr (16, 1), .inr (16, 2), .inr (16, 3), .inr (16, 4), .inr (16, 5), .inr (16, 6), .inr (14, 6), .inr (24, 0), .inr (24, 1), .inr (24, 2), .inr (24, 3), .inr (24, 4), .inr (24, 5), .inr (24, 6)]
def spX10_meetPosts : q_P := fun a w K => ∃ (P : PT) (R : RT) (L : LT) (T : Nat → Int32) (m : Int32) (W : WT) (p : Nat) (d : Int32), w = wyW P R L T m W ∧ a = [.ref 0, .ref 14, .int (nI p), .int d] ∧ pOk P ∧ rOk R ∧ L_n L ≤ 24 ∧ p < P.2.2.2.2.2.2 ∧ ∀ g, metOk R g (metB P L R p d) R.2.2.2.2.2.2.2 → K (.inl none) (wyW P R L T m (wMet W g))
abbrev csX10_meetPosts : q_S := (4, 10, 3, 8, 0, 0, fdX10_meetPosts, spX10_meetPosts)
def EX10_meetPosts : q_E := (tX10_meetPosts, [(9, [0, 1, 2, 3, 4, 5]), (22, [0, 1, 2, 3, 4, 5, 6])], 8, flX10, [(56, csX6_hasGood)], [], [], [], [], [], 3, 0, 0, none, [], [], 0, 0)
theorem okX10_meetPosts (l : Launch) : q_Eok l RX10 cX10_meetPosts EX10_meetPosts := ⟨tX10_meetPosts_ok, flX10_ok, List.forall_mem_cons.mpr ⟨(coX10_56 l), q_nil⟩, q_nil, q_nil, q_nil, q_nil, q_nil, (fun h => absurd h (by decide))⟩
set_option maxRecDepth 100000 in
set_option maxHeartbeats 4000000 in
theorem ctX10_meetPosts (l : Launch) : q_CT l yX10_meetPosts (.code yX10_meetPosts cX10_meetPosts 8 none) 3 0 0 spX10_meetPosts := by
  refine q_ct_of EX10_meetPosts (by decide +kernel) (okX10_meetPosts l) rfl rfl rfl rfl rfl q_nil (fun ci h => by cases h) rfl ?_
  intro a w K h
  obtain ⟨P, R, L, T, m, W, p, d, rfl, rfl, ho, hro, hL, hp, hK⟩ := h
  have hrn := hro.1
  refine ⟨Nat.le_of_ble_eq_true rfl, fun C hC => ?_⟩
  have outer : ∀ k j g, j + k = R.2.2.2.2.2.2.2 → metOk R g (metB P L R p d) j → C 9 [(0, .ref 0), (1, .ref 14), (2, .int (nI p)), (3, .int d), (4, .ref 16), (5, .int (nI j))] [] (wyW P R L T m (wMet W g)) 0 0 := by
    intro k
    induction k with
    | zero =>
      intro j g hj hg
      have hj : j = R.2.2.2.2.2.2.2 := by omega
      subst hj
      refine hC _ _ _ _ _ _ ?_
      exact And.intro (fun c1 => hK g hg) (fun c1 => absurd (Int32.le_refl _) c1)
    | succ k ih =>
      intro j g hj hg
      obtain ⟨h1, h2, h3, h4, h5⟩ := rOk_ix hro (show j < R.2.2.2.2.2.2.2 by omega)
      refine hC _ _ _ _ _ _ ?_
      refine And.intro (fun c1 => absurd c1 (nI_ge (by omega) (by omega))) (fun c1 => ?_)
      have inner : ∀ k i g, i + k = rpN R j → metOk R g (metB P L R p d) j → (∀ q, q < i → g (j * 3 + q) = bI (metB P L R p d (j * 3 + q))) → C 22 [(0, .ref 0), (1, .ref 14), (2, .int (nI p)), (3, .int d), (4, .ref 16), (5, .int (nI j)), (6, .int (nI i))] [] (wyW P R L T m (wMet W g)) 0 0 := by
        intro k2
        induction k2 with
        | zero =>
          intro i g hi hg hq
          refine hC _ _ _ _ _ _ ?_
          refine ⟨h1, And.intro (fun c2 => ?_) (fun c2 => absurd (by show R.2.2.2.2.1 (nI j).toNatClampNeg ≤ nI i; rw [h2, h3]; exact nI_le (by omega) (by omega)) c2)⟩
          have h9 := ih (j + 1) g (by omega) (fun r q hr hq2 => by
            by_cases e : r = j
            · subst e; exact hq q (by omega)
            · exact hg r q (by omega) hq2)
          rw [← nI_1] at h9
          exact h9
        | succ k2 ih2 =>
          intro i g hi hg hq
          have e2 : nI j * 3 + nI i = nI (j * 3 + i) := by rw [nI_mul3, nI_add]
          have hv2 : vp_in (nI j * 3 + nI i) 48 := by rw [e2]; exact vp_in_nI (by omega) (by omega)
          have hc2 : (nI j * 3 + nI i).toNatClampNeg = j * 3 + i := by rw [e2]; exact nI_clamp (by omega)
          refine hC _ _ _ _ _ _ ?_
          refine ⟨h1, And.intro (fun c2 => absurd (show R.2.2.2.2.1 (nI j).toNatClampNeg ≤ nI i from c2) (by rw [h2, h3]; exact nI_ge (by omega) (by omega))) (fun c2 => ⟨hv2, hv2, ?_⟩)⟩
          refine ⟨P, L, p, _, _, _, rfl, rfl, ho, hL, hp, hv2, ?_⟩
          have h9 := ih2 (i + 1) (upd g (j * 3 + i) (bI (metB P L R p d (j * 3 + i)))) (by omega) (fun r q hr hq2 => by
            have := (rOk_ix hro (show r < R.2.2.2.2.2.2.2 by omega)).2.2.2.1
            rw [pk_un (by omega)]; exact hg r q hr hq2) (fun q hq2 => by
            by_cases e : q = i
            · subst e; exact pk_us
            · rw [pk_un (by omega)]; exact hq q (by omega))
          rw [← nI_1, metB, ← bI_vnar, ← hc2] at h9
          exact h9
      exact inner (rpN R j) 0 g (by omega) hg (fun q hq => absurd hq (Nat.not_lt_zero q))
  exact hC _ _ _ _ _ _ (outer R.2.2.2.2.2.2.2 0 W.2.2.2.2.1 (by omega) (fun r q hr => absurd hr (Nat.not_lt_zero r)))
def opnW (R : RT) (L : LT) (b : Nat → Bool) (kind office day : Int32) (r : Nat) : Bool := allF (fun k => b k || (decide (R.2.2.2.2.2.1 k = kind) && accOn L day (R.2.2.2.2.2.2.1 k) kind office)) (r * 3) (rpN R r)
theorem allF_snoc (f : Nat → Bool) : ∀ n s, allF f s (n + 1) = (allF f s n && f (s + n))
  | 0, s => by simp [allF]
  | n + 1, s => by rw [allF, allF_snoc f n (s + 1), allF, Bool.and_assoc, show s + 1 + n = s + (n + 1) by omega]
def tX10_openRoads : List q_I := [(0, .aload_n 1, 1, 0, 0), (1, .getfield 37, 3, 0, 0), (4, .astore 5, 2, 0, 0), (6, .iconst 0, 1, 0, 0), (7, .istore 6, 2, 0, 0), (9, .iload 6, 2, 0, 0), (11, .aload 5, 2, 0, 0), (13, .getfield 76, 3, 0, 0), (16, .if_icmp .ge 100, 3, 0, 116), (19, .aload_n 0, 1, 0, 0), (20, .getfield 30, 3, 0, 0), (23, .iload 6, 2, 0, 0), (25, .iconst 1, 1, 1, 0), (26, .bastore, 1, 0, 0), (27, .iconst 0, 1, 0, 0), (28, .istore 7, 2, 0, 0), (30, .iload 7, 2, 0, 0), (32, .aload 5, 2, 0, 0), (34, .getfield 43, 3, 0, 0), (37, .iload 6, 2, 0, 0), (39, .iaload, 1, 0, 0), (40, .if_icmp .ge 70, 3, 0, 110), (43, .iload 6, 2, 0, 0), (45, .iconst 3, 1, 3, 0), (46, .imul, 1, 0, 0), (47, .iload 7, 2, 0, 0), (49, .iadd, 1, 0, 0), (50, .istore 8, 2, 0, 0), (52, .aload_n 0, 1, 0, 0), (53, .getfield 27, 3, 0, 0), (56, .iload 8, 2, 0, 0), (58, .baload, 1, 0, 0), (59, .ifCond .ne 45, 3, 0, 104), (62, .aload 5, 2, 0, 0), (64, .getfield 46, 3, 0, 0), (67, .iload 8, 2, 0, 0), (69, .iaload, 1, 0, 0), (70, .iload_n 2, 1, 0, 0), (71, .if_icmp .ne 25, 3, 0, 96), (74, .aload_n 1, 1, 0, 0), (75, .getfield 52, 3, 0, 0), (78, .iload 4, 2, 0, 0), (80, .aload 5, 2, 0, 0), (82, .getfield 49, 3, 0, 0), (85, .iload 8, 2, 0, 0), (87, .iaload, 1, 0, 0), (88, .iload_n 2, 1, 0, 0), (89, .iload_n 3, 1, 0, 0), (90, .invokevirtual 142, 3, 0, 0), (93, .ifCond .ne 11, 3, 0, 104), (96, .aload_n 0, 1, 0, 0), (97, .getfield 30, 3, 0, 0), (100, .iload 6, 2, 0, 0), (102, .iconst 0, 1, 0, 0), (103, .bastore, 1, 0, 0), (104, .iinc 7 1, 3, 1, 0), (107, .goto (-77), 3, 0, 30), (110, .iinc 6 1, 3, 1, 0), (113, .goto (-104), 3, 0, 9), (116, .return_, 1, 0, 0)]
theorem tX10_openRoads_ok : (tX10_openRoads.all (q_okI cX10_openRoads)) = true := by decide +kernel

abbrev fdX10_openRoads : List (Nat ⊕ (Nat × Nat)) := [.inl 0, .inr (0, 1), .inr (0, 2), .inr (0, 3), .inr (0, 4), .inr (0, 5), .inr (0, 6), .inr (0, 0), .inr (7, 0), .inr (7, 1), .inr (7, 2), .inr (7, 3), .inr (7, 4), .inr (7, 5), .inl 1, .inr (14, 0), .inr (14, 5), .inr (16, 0), .inr (16, 1), .inr (16, 2), .inr (16, 3), .inr (16, 4), .inr (16, 5), .inr (16, 6), .inr (14, 6), .inr (24, 0), .inr (24, 1), .inr (24, 2), .inr (24, 3), .inr (24, 4), .inr (24, 5), .inr (24, 6)]
def spX10_openRoads : q_P := fun a w K => ∃ (P : PT) (R : RT) (L : LT) (T : Nat → Int32) (m : Int32) (W : WT) (b : Nat → Bool) (kd of d : Int32), w = wyW P R L T m W ∧ a = [.ref 0, .ref 14, .int kd, .int of, .int d] ∧ rOk R ∧ L_n L ≤ 24 ∧ metOk R W.2.2.2.2.1 b R.2.2.2.2.2.2.2 ∧ ∀ g, (∀ r, r < R.2.2.2.2.2.2.2 → g r = bI (opnW R L b kd of d r)) → K (.inl none) (wyW P R L T m (wOpn W g))
abbrev csX10_openRoads : q_S := (5, 10, 2, 9, 0, 0, fdX10_openRoads, spX10_openRoads)
theorem coX10_142 (l : Launch) : q_CO l RX10 142 csX3_acceptOn := ⟨yX3_acceptOn, cX3_acceptOn, (some .boolean), 4, ⟨by decide +kernel, by decide +kernel, by decide +kernel⟩, q_G_i 4 (by decide +kernel) rfl, Or.inl ⟨by decide, rfl, rfl, q_G_i 933 (by decide +kernel) rfl, q_G_i 837 (by decide +kernel) rfl, q_G_i 838 (by decide +kernel) rfl, Or.inl ⟨q_G_i 839 (by decide +kernel) rfl, ctX3_acceptOn l⟩⟩⟩
def EX10_openRoads : q_E := (tX10_openRoads, [(9, [0, 1, 2, 3, 4, 5, 6]), (30, [0, 1, 2, 3, 4, 5, 6, 7])], 9, flX10, [(142, csX3_acceptOn)], [], [], [], [], [], 2, 0, 0, none, [], [], 0, 0)
theorem okX10_openRoads (l : Launch) : q_Eok l RX10 cX10_openRoads EX10_openRoads := ⟨tX10_openRoads_ok, flX10_ok, List.forall_mem_cons.mpr ⟨(coX10_142 l), q_nil⟩, q_nil, q_nil, q_nil, q_nil, q_nil, (fun h => absurd h (by decide))⟩
set_option maxRecDepth 100000 in
set_option maxHeartbeats 4000000 in
theorem ctX10_openRoads (l : Launch) : q_CT l yX10_openRoads (.code yX10_openRoads cX10_openRoads 9 none) 2 0 0 spX10_openRoads := by
  refine q_ct_of EX10_openRoads (by decide +kernel) (okX10_openRoads l) rfl rfl rfl rfl rfl q_nil (fun ci h => by cases h) rfl ?_
  intro a w K h
  obtain ⟨P, R, L, T, m, W, b, kd, of, d, rfl, rfl, hro, hL, hm, hK⟩ := h
  have hrn := hro.1
  refine ⟨Nat.le_of_ble_eq_true rfl, fun C hC => ?_⟩
  have outer : ∀ k j g, j + k = R.2.2.2.2.2.2.2 → (∀ r, r < j → g r = bI (opnW R L b kd of d r)) → C 9 [(0, .ref 0), (1, .ref 14), (2, .int kd), (3, .int of), (4, .int d), (5, .ref 16), (6, .int (nI j))] [] (wyW P R L T m (wOpn W g)) 0 0 := by
    intro k
    induction k with
    | zero =>
      intro j g hj hg
      have hj : j = R.2.2.2.2.2.2.2 := by omega
      subst hj
      refine hC _ _ _ _ _ _ ?_
      exact And.intro (fun c1 => hK g hg) (fun c1 => absurd (Int32.le_refl _) c1)
    | succ k ih =>
      intro j g hj hg
      have hrj : j < R.2.2.2.2.2.2.2 := by omega
      obtain ⟨h1, h2, h3, h4, h5⟩ := rOk_ix hro hrj
      refine hC _ _ _ _ _ _ ?_
      refine And.intro (fun c1 => absurd c1 (nI_ge (by omega) (by omega))) (fun c1 => ⟨h1, ?_⟩)
      have inner : ∀ k i g, i + k = rpN R j → (∀ r, r < j → g r = bI (opnW R L b kd of d r)) → g j = bI (allF (fun k => b k || (decide (R.2.2.2.2.2.1 k = kd) && accOn L d (R.2.2.2.2.2.2.1 k) kd of)) (j * 3) i) → C 30 [(0, .ref 0), (1, .ref 14), (2, .int kd), (3, .int of), (4, .int d), (5, .ref 16), (6, .int (nI j)), (7, .int (nI i))] [] (wyW P R L T m (wOpn W g)) 0 0 := by
        intro k2
        induction k2 with
        | zero =>
          intro i g hi hg hq
          have hi : i = rpN R j := by omega
          refine hC _ _ _ _ _ _ ?_
          refine ⟨h1, And.intro (fun c2 => ?_) (fun c2 => absurd (by show R.2.2.2.2.1 (nI j).toNatClampNeg ≤ nI i; rw [h2, h3]; exact nI_le (by omega) (by omega)) c2)⟩
          have h9 := ih (j + 1) g (by omega) (fun r hr => by
            by_cases e : r = j
            · subst e; rw [hq, hi]; rfl
            · exact hg r (by omega))
          rw [← nI_1] at h9
          exact h9
        | succ k2 ih2 =>
          intro i g hi hg hq
          have e2 : nI j * 3 + nI i = nI (j * 3 + i) := by rw [nI_mul3, nI_add]
          have hv2 : vp_in (nI j * 3 + nI i) 48 := by rw [e2]; exact vp_in_nI (by omega) (by omega)
          have hc2 : (nI j * 3 + nI i).toNatClampNeg = j * 3 + i := by rw [e2]; exact nI_clamp (by omega)
          have hmi := hm j i hrj (by omega)
          have yes : (b (j * 3 + i) || (decide (R.2.2.2.2.2.1 (j * 3 + i) = kd) && accOn L d (R.2.2.2.2.2.2.1 (j * 3 + i)) kd of)) = true → C 30 [(0, .ref 0), (1, .ref 14), (2, .int kd), (3, .int of), (4, .int d), (5, .ref 16), (6, .int (nI j)), (7, .int (nI i + 1))] [] (wyW P R L T m (wOpn W g)) 0 0 := by
            intro hb
            have h9 := ih2 (i + 1) g (by omega) hg (by rw [allF_snoc, hb, Bool.and_true]; exact hq)
            rw [← nI_1] at h9
            exact h9
          have no : (b (j * 3 + i) || (decide (R.2.2.2.2.2.1 (j * 3 + i) = kd) && accOn L d (R.2.2.2.2.2.2.1 (j * 3 + i)) kd of)) = false → C 30 [(0, .ref 0), (1, .ref 14), (2, .int kd), (3, .int of), (4, .int d), (5, .ref 16), (6, .int (nI j)), (7, .int (nI i + 1))] [] (wyW P R L T m (wOpn W (upd g (nI j).toNatClampNeg 0))) 0 0 := by
            intro hb
            have h9 := ih2 (i + 1) (upd g j 0) (by omega) (fun r hr => by rw [pk_un (by omega)]; exact hg r hr) (by rw [allF_snoc, hb, Bool.and_false]; exact pk_us)
            rw [← nI_1] at h9
            rw [h2]; exact h9
          refine hC _ _ _ _ _ _ ?_
          refine ⟨h1, And.intro (fun c2 => absurd (show R.2.2.2.2.1 (nI j).toNatClampNeg ≤ nI i from c2) (by rw [h2, h3]; exact nI_ge (by omega) (by omega))) (fun c2 => ⟨hv2, And.intro (fun c3 => yes ?_) (fun c3 => ⟨hv2, And.intro (fun c4 => ⟨h1, no ?_⟩) (fun c4 => ⟨hv2, L, _, _, _, _, rfl, rfl, hL, And.intro (fun c5 => yes ?_) (fun c5 => ⟨h1, no ?_⟩)⟩)⟩)⟩)⟩
          · have c3 : ¬ W.2.2.2.2.1 (nI j * 3 + nI i).toNatClampNeg = 0 := c3
            rw [hc2, hmi] at c3
            rw [bI_n0.mp c3, Bool.true_or]
          · have c3 : W.2.2.2.2.1 (nI j * 3 + nI i).toNatClampNeg = 0 := c3
            have c4 : ¬ R.2.2.2.2.2.1 (nI j * 3 + nI i).toNatClampNeg = kd := c4
            rw [hc2] at c4
            rw [hc2, hmi] at c3
            rw [bI_0.mp c3, decide_eq_false c4, Bool.false_and, Bool.or_self]
          · have c4 : R.2.2.2.2.2.1 (nI j * 3 + nI i).toNatClampNeg = kd := c4
            have c5 : ¬ bI (accOn L d (R.2.2.2.2.2.2.1 (nI j * 3 + nI i).toNatClampNeg) kd of) = 0 := c5
            rw [hc2] at c4 c5
            rw [decide_eq_true c4, bI_n0.mp c5, Bool.and_self, Bool.or_true]
          · have c3 : W.2.2.2.2.1 (nI j * 3 + nI i).toNatClampNeg = 0 := c3
            have c5 : bI (accOn L d (R.2.2.2.2.2.2.1 (nI j * 3 + nI i).toNatClampNeg) kd of) = 0 := c5
            rw [hc2] at c5
            rw [hc2, hmi] at c3
            rw [bI_0.mp c3, bI_0.mp c5, Bool.and_false, Bool.or_self]
      have h9 := inner (rpN R j) 0 (upd g j 1) (by omega) (fun r hr => by rw [pk_un (by omega)]; exact hg r hr) pk_us
      have e1 : upd g j 1 = upd g (nI j).toNatClampNeg 1 := by rw [h2]
      rw [e1] at h9
      exact h9
  exact hC _ _ _ _ _ _ (outer R.2.2.2.2.2.2.2 0 W.2.2.2.2.2 (by omega) (fun r hr => absurd hr (Nat.not_lt_zero r)))
def coinR (R : RT) (b : Nat → Bool) : Nat → (Nat → Int32) → (Nat → Int32)
  | 0, f => f
  | k + 1, f => coinR R b k (foldF (fun f r => if b r then coinE R f r else f) 0 R.2.2.2.2.2.2.2 f)
def coinsF (P : PT) (L : LT) (R : RT) (p n x : Nat) (d : Int32) (f : Nat → Int32) : Nat → Int32 := coinR R (opnW R L (metB P L R p d) (-1) (-1) d) (n - 1) (upd (zf 1000000 f 8) x 0)
def tX10_findCoins : List q_I := [(0, .aload_n 0, 1, 0, 0), (1, .aload_n 1, 1, 0, 0), (2, .iload_n 2, 1, 0, 0), (3, .iload_n 3, 1, 0, 0), (4, .invokevirtual 117, 3, 0, 0), (7, .aload_n 0, 1, 0, 0), (8, .aload_n 1, 1, 0, 0), (9, .iconst (-1), 1, (-1), 0), (10, .iconst (-1), 1, (-1), 0), (11, .iload_n 3, 1, 0, 0), (12, .invokevirtual 121, 3, 0, 0), (15, .aload_n 0, 1, 0, 0), (16, .aload_n 0, 1, 0, 0), (17, .getfield 33, 3, 0, 0), (20, .getfield 62, 3, 0, 0), (23, .iload_n 2, 1, 0, 0), (24, .iaload, 1, 0, 0), (25, .iconst 0, 1, 0, 0), (26, .invokevirtual 65, 3, 0, 0), (29, .iconst 1, 1, 1, 0), (30, .istore 4, 2, 0, 0), (32, .iload 4, 2, 0, 0), (34, .aload_n 1, 1, 0, 0), (35, .getfield 69, 3, 0, 0), (38, .iconst 0, 1, 0, 0), (39, .iaload, 1, 0, 0), (40, .if_icmp .ge 50, 3, 0, 90), (43, .iconst 0, 1, 0, 0), (44, .istore 5, 2, 0, 0), (46, .iload 5, 2, 0, 0), (48, .aload_n 1, 1, 0, 0), (49, .getfield 37, 3, 0, 0), (52, .getfield 76, 3, 0, 0), (55, .if_icmp .ge 29, 3, 0, 84), (58, .aload_n 0, 1, 0, 0), (59, .getfield 30, 3, 0, 0), (62, .iload 5, 2, 0, 0), (64, .baload, 1, 0, 0), (65, .ifCond .eq 13, 3, 0, 78), (68, .aload_n 0, 1, 0, 0), (69, .aload_n 1, 1, 0, 0), (70, .getfield 37, 3, 0, 0), (73, .iload 5, 2, 0, 0), (75, .invokevirtual 125, 3, 0, 0), (78, .iinc 5 1, 3, 1, 0), (81, .goto (-35), 3, 0, 46), (84, .iinc 4 1, 3, 1, 0), (87, .goto (-55), 3, 0, 32), (90, .return_, 1, 0, 0)]
theorem tX10_findCoins_ok : (tX10_findCoins.all (q_okI cX10_findCoins)) = true := by decide +kernel

abbrev fdX10_findCoins : List (Nat ⊕ (Nat × Nat)) := [.inl 0, .inr (0, 1), .inr (0, 2), .inr (0, 3), .inr (0, 4), .inr (0, 5), .inr (0, 6), .inr (0, 0), .inr (7, 0), .inr (7, 1), .inr (7, 2), .inr (7, 3), .inr (7, 4), .inr (7, 5), .inl 1, .inr (14, 0), .inr (14, 5), .inr (16, 0), .inr (16, 1), .inr (16, 2), .inr (16, 3), .inr (16, 4), .inr (16, 5), .inr (16, 6), .inr (14, 6), .inr (24, 0), .inr (24, 1), .inr (24, 2), .inr (24, 3), .inr (24, 4), .inr (24, 5), .inr (24, 6)]
def spX10_findCoins : q_P := fun a w K => ∃ (P : PT) (R : RT) (L : LT) (T : Nat → Int32) (m : Int32) (W : WT) (n p x : Nat) (d : Int32), w = wyW P R L T m W ∧ a = [.ref 0, .ref 14, .int (nI p), .int d] ∧ pOk P ∧ rOk R ∧ rEnd R n ∧ L_n L ≤ 24 ∧ T 0 = nI n ∧ n ≤ 8 ∧ p < P.2.2.2.2.2.2 ∧ P.1 p = nI x ∧ x < 8 ∧ ∀ V, V.1 = coinsF P L R p n x d W.1 → K (.inl none) (wyW P R L T m V)
abbrev csX10_findCoins : q_S := (4, 10, 4, 6, 0, 0, fdX10_findCoins, spX10_findCoins)
theorem coX10_117 (l : Launch) : q_CO l RX10 117 csX10_meetPosts := ⟨yX10_meetPosts, cX10_meetPosts, none, 3, ⟨by decide +kernel, by decide +kernel, by decide +kernel⟩, q_G_i 12 (by decide +kernel) rfl, Or.inl ⟨by decide, rfl, rfl, q_G_i 925 (by decide +kernel) rfl, q_G_i 927 (by decide +kernel) rfl, q_G_s (n := 7) 32 (by decide +kernel), Or.inl ⟨q_G_i 928 (by decide +kernel) rfl, ctX10_meetPosts l⟩⟩⟩
theorem coX10_121 (l : Launch) : q_CO l RX10 121 csX10_openRoads := ⟨yX10_openRoads, cX10_openRoads, none, 4, ⟨by decide +kernel, by decide +kernel, by decide +kernel⟩, q_G_i 12 (by decide +kernel) rfl, Or.inl ⟨by decide, rfl, rfl, q_G_i 929 (by decide +kernel) rfl, q_G_i 931 (by decide +kernel) rfl, q_G_s (n := 7) 33 (by decide +kernel), Or.inl ⟨q_G_i 932 (by decide +kernel) rfl, ctX10_openRoads l⟩⟩⟩
theorem coX10_125 (l : Launch) : q_CO l RX10 125 csX10_lowerEnds := ⟨yX10_lowerEnds, cX10_lowerEnds, none, 2, ⟨by decide +kernel, by decide +kernel, by decide +kernel⟩, q_G_i 12 (by decide +kernel) rfl, Or.inl ⟨by decide, rfl, rfl, q_G_i 934 (by decide +kernel) rfl, q_G_i 936 (by decide +kernel) rfl, q_G_s (n := 7) 34 (by decide +kernel), Or.inl ⟨q_G_i 937 (by decide +kernel) rfl, ctX10_lowerEnds l⟩⟩⟩
def EX10_findCoins : q_E := (tX10_findCoins, [(32, [0, 1, 4]), (46, [0, 1, 4, 5])], 6, flX10, [(117, csX10_meetPosts), (121, csX10_openRoads), (65, csX10_begin), (125, csX10_lowerEnds)], [], [], [], [], [], 4, 0, 0, none, [], [], 0, 0)
theorem okX10_findCoins (l : Launch) : q_Eok l RX10 cX10_findCoins EX10_findCoins := ⟨tX10_findCoins_ok, flX10_ok, List.forall_mem_cons.mpr ⟨(coX10_117 l), List.forall_mem_cons.mpr ⟨(coX10_121 l), List.forall_mem_cons.mpr ⟨(coX10_65 l), List.forall_mem_cons.mpr ⟨(coX10_125 l), q_nil⟩⟩⟩⟩, q_nil, q_nil, q_nil, q_nil, q_nil, (fun h => absurd h (by decide))⟩
set_option maxRecDepth 100000 in
set_option maxHeartbeats 4000000 in
theorem ctX10_findCoins (l : Launch) : q_CT l yX10_findCoins (.code yX10_findCoins cX10_findCoins 6 none) 4 0 0 spX10_findCoins := by
  refine q_ct_of EX10_findCoins (by decide +kernel) (okX10_findCoins l) rfl rfl rfl rfl rfl q_nil (fun ci h => by cases h) rfl ?_
  intro a w K h
  obtain ⟨P, R, L, T, m, W, n, p, x, d, rfl, rfl, ho, hro, hre, hL, hT, hn, hp, hx, hx8, hK⟩ := h
  obtain ⟨p1, p2, p3, p4, p5⟩ := pOk_ix ho hp
  have hrn := hro.1
  refine ⟨Nat.le_of_ble_eq_true rfl, fun C hC => hC _ _ _ _ _ _ ?_⟩
  refine ⟨P, R, L, T, m, W, p, d, rfl, rfl, ho, hro, hL, hp, fun g1 hg1 => ?_⟩
  refine ⟨P, R, L, T, m, wMet W g1, metB P L R p d, _, _, _, rfl, rfl, hro, hL, hg1, fun g2 hg2 => ?_⟩
  refine ⟨p1, wOpn (wMet W g1) g2, _, x, _, rfl, (show [Value.ref 0, .int (P.1 (nI p).toNatClampNeg), .int 0] = _ by rw [p2, hx]), hx8, ?_⟩
  have outer : ∀ k i V, i + k = n - 1 → V.2.2.2.2.2 = g2 → coinsF P L R p n x d W.1 = coinR R (opnW R L (metB P L R p d) (-1) (-1) d) k V.1 → C 32 [(0, .ref 0), (1, .ref 14), (4, .int (nI (i + 1)))] [] (wyW P R L T m V) 0 0 := by
    intro k
    induction k with
    | zero =>
      intro i V hi hV he
      refine hC _ _ _ _ _ _ ?_
      refine ⟨vp_in_nI (n := 0) (by decide) (by decide), And.intro (fun c1 => hK V (by rw [he]; rfl)) (fun c1 => absurd (by show T 0 ≤ nI (i + 1); rw [hT]; exact nI_le (by omega) (by omega)) c1)⟩
    | succ k ih =>
      intro i V hi hV he
      refine hC _ _ _ _ _ _ ?_
      refine ⟨vp_in_nI (n := 0) (by decide) (by decide), And.intro (fun c1 => absurd (show T 0 ≤ nI (i + 1) from c1) (by rw [hT]; exact nI_ge (by omega) (by omega))) (fun c1 => ?_)⟩
      have inner : ∀ k2 j V, j + k2 = R.2.2.2.2.2.2.2 → V.2.2.2.2.2 = g2 → coinsF P L R p n x d W.1 = coinR R (opnW R L (metB P L R p d) (-1) (-1) d) k (foldF (fun f r => if opnW R L (metB P L R p d) (-1) (-1) d r then coinE R f r else f) j k2 V.1) → C 46 [(0, .ref 0), (1, .ref 14), (4, .int (nI (i + 1))), (5, .int (nI j))] [] (wyW P R L T m V) 0 0 := by
        intro k2
        induction k2 with
        | zero =>
          intro j V hj hV he
          refine hC _ _ _ _ _ _ ?_
          refine And.intro (fun c3 => ?_) (fun c3 => absurd (nI_le (by omega) (by omega)) c3)
          have h9 := ih (i + 1) V (by omega) hV he
          rw [← nI_1 (i + 1)] at h9
          exact h9
        | succ k2 ih2 =>
          intro j V hj hV he
          have hrj : j < R.2.2.2.2.2.2.2 := by omega
          have hcj : (nI j).toNatClampNeg = j := nI_clamp (by omega)
          have hg := hg2 j hrj
          rw [foldF] at he
          refine hC _ _ _ _ _ _ ?_
          refine And.intro (fun c3 => absurd c3 (nI_ge (by omega) (by omega))) (fun c3 => ⟨vp_in_nI (by omega) (by omega), And.intro (fun c4 => ?_) (fun c4 => ?_)⟩)
          · have c4 : V.2.2.2.2.2 (nI j).toNatClampNeg = 0 := c4
            rw [hcj, hV, hg] at c4
            have h9 := ih2 (j + 1) V (by omega) hV (by rw [if_neg (by rw [bI_0.mp c4]; decide)] at he; exact he)
            rw [← nI_1 j] at h9
            exact h9
          · have c4 : ¬ V.2.2.2.2.2 (nI j).toNatClampNeg = 0 := c4
            rw [hcj, hV, hg] at c4
            refine ⟨R, V, _, n, j, rfl, rfl, hrn, hre, hn, hrj, ?_⟩
            have h9 := ih2 (j + 1) (coinE R V.1 j, V.2) (by omega) hV (by rw [if_pos (bI_n0.mp c4)] at he; exact he)
            rw [← nI_1 j] at h9
            exact h9
      exact inner R.2.2.2.2.2.2.2 0 V (by omega) hV he
  exact outer (n - 1) 0 _ (by omega) rfl rfl
def sprOne (R : RT) (b : Nat → Bool) (x : Int32) (r : Nat) : Int32 := if b r = true ∧ ¬ x &&& ((1 : Int32) <<< (R.1 r &&& 31) ||| (1 : Int32) <<< (R.2.1 r &&& 31)) = 0 then x ||| ((1 : Int32) <<< (R.1 r &&& 31) ||| (1 : Int32) <<< (R.2.1 r &&& 31)) else x
def sprR (R : RT) (b : Nat → Bool) : Nat → Int32 → Int32
  | 0, x => x
  | k + 1, x => sprR R b k (foldF (sprOne R b) 0 R.2.2.2.2.2.2.2 x)
def sprF (R : RT) (b : Nat → Bool) (n : Nat) (x : Int32) : Int32 := sprR R b (n - 1) ((1 : Int32) <<< (x &&& 31))
def tX10_spread : List q_I := [(0, .aload_n 0, 1, 0, 0), (1, .getfield 37, 3, 0, 0), (4, .astore_n 3, 1, 0, 0), (5, .iconst 1, 1, 1, 0), (6, .iload_n 2, 1, 0, 0), (7, .ishl, 1, 0, 0), (8, .istore 4, 2, 0, 0), (10, .iconst 1, 1, 1, 0), (11, .istore 5, 2, 0, 0), (13, .iload 5, 2, 0, 0), (15, .aload_n 0, 1, 0, 0), (16, .getfield 69, 3, 0, 0), (19, .iconst 0, 1, 0, 0), (20, .iaload, 1, 0, 0), (21, .if_icmp .ge 77, 3, 0, 98), (24, .iconst 0, 1, 0, 0), (25, .istore 6, 2, 0, 0), (27, .iload 6, 2, 0, 0), (29, .aload_n 3, 1, 0, 0), (30, .getfield 76, 3, 0, 0), (33, .if_icmp .ge 59, 3, 0, 92), (36, .iload 6, 2, 0, 0), (38, .aload_n 1, 1, 0, 0), (39, .arraylength, 1, 0, 0), (40, .if_icmp .ge 52, 3, 0, 92), (43, .iconst 1, 1, 1, 0), (44, .aload_n 3, 1, 0, 0), (45, .getfield 129, 3, 0, 0), (48, .iload 6, 2, 0, 0), (50, .iaload, 1, 0, 0), (51, .ishl, 1, 0, 0), (52, .iconst 1, 1, 1, 0), (53, .aload_n 3, 1, 0, 0), (54, .getfield 132, 3, 0, 0), (57, .iload 6, 2, 0, 0), (59, .iaload, 1, 0, 0), (60, .ishl, 1, 0, 0), (61, .ior, 1, 0, 0), (62, .istore 7, 2, 0, 0), (64, .aload_n 1, 1, 0, 0), (65, .iload 6, 2, 0, 0), (67, .baload, 1, 0, 0), (68, .ifCond .eq 18, 3, 0, 86), (71, .iload 4, 2, 0, 0), (73, .iload 7, 2, 0, 0), (75, .iand, 1, 0, 0), (76, .ifCond .eq 10, 3, 0, 86), (79, .iload 4, 2, 0, 0), (81, .iload 7, 2, 0, 0), (83, .ior, 1, 0, 0), (84, .istore 4, 2, 0, 0), (86, .iinc 6 1, 3, 1, 0), (89, .goto (-62), 3, 0, 27), (92, .iinc 5 1, 3, 1, 0), (95, .goto (-82), 3, 0, 13), (98, .iload 4, 2, 0, 0), (100, .ireturn, 1, 0, 0)]
theorem tX10_spread_ok : (tX10_spread.all (q_okI cX10_spread)) = true := by decide +kernel

abbrev fdX10_spread : List (Nat ⊕ (Nat × Nat)) := [.inl 0, .inr (0, 0), .inr (0, 5), .inr (2, 0), .inr (2, 1), .inr (2, 2), .inr (2, 3), .inr (2, 4), .inr (2, 5), .inr (2, 6), .inl 1]
def spX10_spread : q_P := fun a w K => ∃ (R : RT) (T g : Nat → Int32) (b : Nat → Bool) (n : Nat) (x : Int32) (v1 v2 v3 v4 v6 v7 : Value), w = [.inr (0, [.ref 1, v1, v2, v3, v4, .ref 2, v6, v7]), .inl (1, 4, .inl T)] ++ (roadsW 2 R ++ [.inl (3, 16, .inl g)]) ∧ a = [.ref 0, .ref 10, .int x] ∧ R.2.2.2.2.2.2.2 ≤ 16 ∧ T 0 = nI n ∧ n ≤ 8 ∧ (∀ r, r < R.2.2.2.2.2.2.2 → g r = bI (b r)) ∧ K (.inl (some (.int (sprF R b n x)))) w
abbrev csX10_spread : q_S := (3, 99, 0, 8, 0, 0, fdX10_spread, spX10_spread)
def EX10_spread : q_E := (tX10_spread, [(13, [0, 1, 3, 4, 5]), (27, [0, 1, 3, 4, 5, 6])], 8, flX10, [], [], [], [], [], [], 0, 0, 0, (some .int), [], [], 0, 0)
theorem okX10_spread (l : Launch) : q_Eok l RX10 cX10_spread EX10_spread := ⟨tX10_spread_ok, flX10_ok, q_nil, q_nil, q_nil, q_nil, q_nil, q_nil, (fun h => absurd h (by decide))⟩
set_option maxRecDepth 100000 in
set_option maxHeartbeats 4000000 in
theorem ctX10_spread (l : Launch) : q_CT l yX10_spread (.code yX10_spread cX10_spread 8 (some .int)) 0 0 0 spX10_spread := by
  refine q_ct_of EX10_spread (by decide +kernel) (okX10_spread l) rfl rfl rfl rfl rfl q_nil (fun ci h => by cases h) rfl ?_
  intro a w K h
  obtain ⟨R, T, g, b, n, x, v1, v2, v3, v4, v6, v7, rfl, rfl, hrn, hT, hn, hg, hK⟩ := h
  refine ⟨Nat.le_of_ble_eq_true rfl, fun C hC => hC _ _ _ _ _ _ ?_⟩
  have outer : ∀ k i y, i + k = n - 1 → sprF R b n x = sprR R b k y → C 13 [(0, .ref 0), (1, .ref 10), (3, .ref 2), (4, .int y), (5, .int (nI (i + 1)))] [] ([.inr (0, [.ref 1, v1, v2, v3, v4, .ref 2, v6, v7]), .inl (1, 4, .inl T)] ++ (roadsW 2 R ++ [.inl (3, 16, .inl g)])) 0 0 := by
    intro k
    induction k with
    | zero =>
      intro i y hi he
      refine hC _ _ _ _ _ _ ?_
      refine ⟨vp_in_nI (n := 0) (by decide) (by decide), And.intro (fun c1 => ?_) (fun c1 => absurd (by show T 0 ≤ nI (i + 1); rw [hT]; exact nI_le (by omega) (by omega)) c1)⟩
      rw [he] at hK; exact hK
    | succ k ih =>
      intro i y hi he
      refine hC _ _ _ _ _ _ ?_
      refine ⟨vp_in_nI (n := 0) (by decide) (by decide), And.intro (fun c1 => absurd (show T 0 ≤ nI (i + 1) from c1) (by rw [hT]; exact nI_ge (by omega) (by omega))) (fun c1 => ?_)⟩
      have inner : ∀ k2 j y, j + k2 = R.2.2.2.2.2.2.2 → sprF R b n x = sprR R b k (foldF (sprOne R b) j k2 y) → C 27 [(0, .ref 0), (1, .ref 10), (3, .ref 2), (4, .int y), (5, .int (nI (i + 1))), (6, .int (nI j))] [] ([.inr (0, [.ref 1, v1, v2, v3, v4, .ref 2, v6, v7]), .inl (1, 4, .inl T)] ++ (roadsW 2 R ++ [.inl (3, 16, .inl g)])) 0 0 := by
        intro k2
        induction k2 with
        | zero =>
          intro j y hj he
          refine hC _ _ _ _ _ _ ?_
          refine And.intro (fun c3 => ?_) (fun c3 => absurd (nI_le (by omega) (by omega)) c3)
          have h9 := ih (i + 1) y (by omega) he
          rw [← nI_1 (i + 1)] at h9
          exact h9
        | succ k2 ih2 =>
          intro j y hj he
          have hrj : j < R.2.2.2.2.2.2.2 := by omega
          have hcj : (nI j).toNatClampNeg = j := nI_clamp (by omega)
          have hv : vp_in (nI j) 16 := vp_in_nI (by omega) (by omega)
          rw [foldF] at he
          have nx : ∀ z, sprOne R b y j = z → C 27 [(0, .ref 0), (1, .ref 10), (3, .ref 2), (4, .int z), (5, .int (nI (i + 1))), (6, .int (nI j + 1))] [] ([.inr (0, [.ref 1, v1, v2, v3, v4, .ref 2, v6, v7]), .inl (1, 4, .inl T)] ++ (roadsW 2 R ++ [.inl (3, 16, .inl g)])) 0 0 := by
            intro z e
            rw [e] at he
            have h9 := ih2 (j + 1) z (by omega) he
            rw [← nI_1 j] at h9
            exact h9
          refine hC _ _ _ _ _ _ ?_
          refine And.intro (fun c3 => absurd c3 (nI_ge (by omega) (by omega))) (fun c3 => ⟨Or.inr (Or.inr (Or.inr rfl)), And.intro (fun c4 => absurd c4 (nI_ge (b := 16) (by omega) (by omega))) (fun c4 => ⟨hv, hv, hv, And.intro (fun c5 => nx _ ?_) (fun c5 => And.intro (fun c6 => nx _ ?_) (fun c6 => nx _ ?_))⟩)⟩)
          · have c5 : g (nI j).toNatClampNeg = 0 := c5
            rw [hcj, hg j hrj] at c5
            exact if_neg (fun z => by rw [bI_0.mp c5] at z; exact absurd z.1 (by decide))
          · have c6 : y &&& ((1 : Int32) <<< (R.1 (nI j).toNatClampNeg &&& 31) ||| (1 : Int32) <<< (R.2.1 (nI j).toNatClampNeg &&& 31)) = 0 := c6
            rw [hcj] at c6
            exact if_neg (fun z => z.2 c6)
          · have c5 : ¬ g (nI j).toNatClampNeg = 0 := c5
            have c6 : ¬ y &&& ((1 : Int32) <<< (R.1 (nI j).toNatClampNeg &&& 31) ||| (1 : Int32) <<< (R.2.1 (nI j).toNatClampNeg &&& 31)) = 0 := c6
            rw [hcj, hg j hrj] at c5
            rw [hcj] at c6
            rw [hcj]
            exact if_pos ⟨bI_n0.mp c5, c6⟩
      exact inner R.2.2.2.2.2.2.2 0 y (by omega) he
  exact outer (n - 1) 0 _ (by omega) rfl
def rchF (L : LT) (R : RT) (b : Nat → Bool) (n x : Nat) (kd of d : Int32) : Int32 := bcI (sprF R (opnW R L b kd of d) n (nI x))
def tX10_reachWith : List q_I := [(0, .aload_n 0, 1, 0, 0), (1, .aload_n 1, 1, 0, 0), (2, .iload_n 3, 1, 0, 0), (3, .iload 4, 2, 0, 0), (5, .iload 5, 2, 0, 0), (7, .invokevirtual 121, 3, 0, 0), (10, .aload_n 1, 1, 0, 0), (11, .aload_n 0, 1, 0, 0), (12, .getfield 30, 3, 0, 0), (15, .aload_n 0, 1, 0, 0), (16, .getfield 33, 3, 0, 0), (19, .getfield 62, 3, 0, 0), (22, .iload_n 2, 1, 0, 0), (23, .iaload, 1, 0, 0), (24, .invokestatic 146, 3, 0, 0), (27, .invokestatic 150, 3, 0, 0), (30, .ireturn, 1, 0, 0)]
theorem tX10_reachWith_ok : (tX10_reachWith.all (q_okI cX10_reachWith)) = true := by decide +kernel

abbrev fdX10_reachWith : List (Nat ⊕ (Nat × Nat)) := [.inl 0, .inr (0, 1), .inr (0, 2), .inr (0, 3), .inr (0, 4), .inr (0, 5), .inr (0, 6), .inr (0, 0), .inr (7, 0), .inr (7, 1), .inr (7, 2), .inr (7, 3), .inr (7, 4), .inr (7, 5), .inl 1, .inr (14, 0), .inr (14, 5), .inr (16, 0), .inr (16, 1), .inr (16, 2), .inr (16, 3), .inr (16, 4), .inr (16, 5), .inr (16, 6), .inr (14, 6), .inr (24, 0), .inr (24, 1), .inr (24, 2), .inr (24, 3), .inr (24, 4), .inr (24, 5), .inr (24, 6)]
def spX10_reachWith : q_P := fun a w K => ∃ (P : PT) (R : RT) (L : LT) (T : Nat → Int32) (m : Int32) (W : WT) (b : Nat → Bool) (n p x : Nat) (kd of d : Int32), w = wyW P R L T m W ∧ a = [.ref 0, .ref 14, .int (nI p), .int kd, .int of, .int d] ∧ pOk P ∧ rOk R ∧ L_n L ≤ 24 ∧ metOk R W.2.2.2.2.1 b R.2.2.2.2.2.2.2 ∧ T 0 = nI n ∧ n ≤ 8 ∧ p < P.2.2.2.2.2.2 ∧ P.1 p = nI x ∧ ∀ g, K (.inl (some (.int (rchF L R b n x kd of d)))) (wyW P R L T m (wOpn W g))
abbrev csX10_reachWith : q_S := (6, 10, 3, 6, 0, 0, fdX10_reachWith, spX10_reachWith)
theorem coX10_146 (l : Launch) : q_CO l RX10 146 csX10_spread := ⟨yX10_spread, cX10_spread, (some .int), 3, ⟨by decide +kernel, by decide +kernel, by decide +kernel⟩, q_G_i 12 (by decide +kernel) rfl, Or.inr (Or.inr (Or.inr ⟨rfl, rfl, q_G_i 954 (by decide +kernel) rfl, q_G_i 955 (by decide +kernel) rfl, Or.inl ⟨q_G_i 956 (by decide +kernel) rfl, ctX10_spread l⟩⟩))⟩
theorem coX10_150 (l : Launch) : q_CO l RX10 150 csJ6_bitCount_0f7a4 := ⟨yJ6_bitCount_0f7a4, cJ6_bitCount_0f7a4, (some .int), 1, ⟨by decide +kernel, by decide +kernel, by decide +kernel⟩, q_G_i 24 (by decide +kernel) rfl, Or.inr (Or.inr (Or.inr ⟨rfl, rfl, q_G_i 957 (by decide +kernel) rfl, q_G_i 958 (by decide +kernel) rfl, Or.inl ⟨q_G_i 959 (by decide +kernel) rfl, ctJ6_bitCount_0f7a4 l⟩⟩))⟩
def EX10_reachWith : q_E := (tX10_reachWith, [], 6, flX10, [(121, csX10_openRoads), (146, csX10_spread), (150, csJ6_bitCount_0f7a4)], [], [], [], [], [], 3, 0, 0, (some .int), [], [], 0, 0)
theorem okX10_reachWith (l : Launch) : q_Eok l RX10 cX10_reachWith EX10_reachWith := ⟨tX10_reachWith_ok, flX10_ok, List.forall_mem_cons.mpr ⟨(coX10_121 l), List.forall_mem_cons.mpr ⟨(coX10_146 l), List.forall_mem_cons.mpr ⟨(coX10_150 l), q_nil⟩⟩⟩, q_nil, q_nil, q_nil, q_nil, q_nil, (fun h => absurd h (by decide))⟩
set_option maxRecDepth 100000 in
set_option maxHeartbeats 4000000 in
theorem ctX10_reachWith (l : Launch) : q_CT l yX10_reachWith (.code yX10_reachWith cX10_reachWith 6 (some .int)) 3 0 0 spX10_reachWith := by
  refine q_ct_of EX10_reachWith (by decide +kernel) (okX10_reachWith l) rfl rfl rfl rfl rfl q_nil (fun ci h => by cases h) rfl ?_
  intro a w K h
  obtain ⟨P, R, L, T, m, W, b, n, p, x, kd, of, d, rfl, rfl, ho, hro, hL, hm, hT, hn, hp, hx, hK⟩ := h
  obtain ⟨p1, p2, p3, p4, p5⟩ := pOk_ix ho hp
  have hrn := hro.1
  refine ⟨Nat.le_of_ble_eq_true rfl, fun C hC => hC _ _ _ _ _ _ ?_⟩
  refine ⟨P, R, L, T, m, W, b, _, _, _, rfl, rfl, hro, hL, hm, fun g hg => ?_⟩
  refine ⟨p1, R, T, g, opnW R L b kd of d, n, nI x, _, _, _, _, _, _, rfl, (show [Value.ref 0, .ref 10, .int (P.1 (nI p).toNatClampNeg)] = _ by rw [p2, hx]), hrn, hT, hn, hg, ?_⟩
  refine ⟨_, rfl, rfl, ?_⟩
  exact hK g
def tX10_countReach : List q_I := [(0, .aload_n 0, 1, 0, 0), (1, .aload_n 1, 1, 0, 0), (2, .iload_n 2, 1, 0, 0), (3, .iload_n 3, 1, 0, 0), (4, .invokevirtual 117, 3, 0, 0), (7, .aload_n 0, 1, 0, 0), (8, .aload_n 1, 1, 0, 0), (9, .iload_n 2, 1, 0, 0), (10, .iconst (-1), 1, (-1), 0), (11, .iconst (-1), 1, (-1), 0), (12, .iload_n 3, 1, 0, 0), (13, .invokevirtual 138, 3, 0, 0), (16, .ireturn, 1, 0, 0)]
theorem tX10_countReach_ok : (tX10_countReach.all (q_okI cX10_countReach)) = true := by decide +kernel

abbrev fdX10_countReach : List (Nat ⊕ (Nat × Nat)) := [.inl 0, .inr (0, 1), .inr (0, 2), .inr (0, 3), .inr (0, 4), .inr (0, 5), .inr (0, 6), .inr (0, 0), .inr (7, 0), .inr (7, 1), .inr (7, 2), .inr (7, 3), .inr (7, 4), .inr (7, 5), .inl 1, .inr (14, 0), .inr (14, 5), .inr (16, 0), .inr (16, 1), .inr (16, 2), .inr (16, 3), .inr (16, 4), .inr (16, 5), .inr (16, 6), .inr (14, 6), .inr (24, 0), .inr (24, 1), .inr (24, 2), .inr (24, 3), .inr (24, 4), .inr (24, 5), .inr (24, 6)]
def spX10_countReach : q_P := fun a w K => ∃ (P : PT) (R : RT) (L : LT) (T : Nat → Int32) (m : Int32) (W : WT) (n p x : Nat) (d : Int32), w = wyW P R L T m W ∧ a = [.ref 0, .ref 14, .int (nI p), .int d] ∧ pOk P ∧ rOk R ∧ L_n L ≤ 24 ∧ T 0 = nI n ∧ n ≤ 8 ∧ p < P.2.2.2.2.2.2 ∧ P.1 p = nI x ∧ ∀ V, K (.inl (some (.int (rchF L R (metB P L R p d) n x (-1) (-1) d)))) (wyW P R L T m V)
abbrev csX10_countReach : q_S := (4, 10, 4, 4, 0, 0, fdX10_countReach, spX10_countReach)
theorem coX10_138 (l : Launch) : q_CO l RX10 138 csX10_reachWith := ⟨yX10_reachWith, cX10_reachWith, (some .int), 5, ⟨by decide +kernel, by decide +kernel, by decide +kernel⟩, q_G_i 12 (by decide +kernel) rfl, Or.inl ⟨by decide, rfl, rfl, q_G_i 950 (by decide +kernel) rfl, q_G_i 952 (by decide +kernel) rfl, q_G_s (n := 7) 36 (by decide +kernel), Or.inl ⟨q_G_i 953 (by decide +kernel) rfl, ctX10_reachWith l⟩⟩⟩
def EX10_countReach : q_E := (tX10_countReach, [], 4, flX10, [(117, csX10_meetPosts), (138, csX10_reachWith)], [], [], [], [], [], 4, 0, 0, (some .int), [], [], 0, 0)
theorem okX10_countReach (l : Launch) : q_Eok l RX10 cX10_countReach EX10_countReach := ⟨tX10_countReach_ok, flX10_ok, List.forall_mem_cons.mpr ⟨(coX10_117 l), List.forall_mem_cons.mpr ⟨(coX10_138 l), q_nil⟩⟩, q_nil, q_nil, q_nil, q_nil, q_nil, (fun h => absurd h (by decide))⟩
set_option maxRecDepth 100000 in
set_option maxHeartbeats 4000000 in
theorem ctX10_countReach (l : Launch) : q_CT l yX10_countReach (.code yX10_countReach cX10_countReach 4 (some .int)) 4 0 0 spX10_countReach := by
  refine q_ct_of EX10_countReach (by decide +kernel) (okX10_countReach l) rfl rfl rfl rfl rfl q_nil (fun ci h => by cases h) rfl ?_
  intro a w K h
  obtain ⟨P, R, L, T, m, W, n, p, x, d, rfl, rfl, ho, hro, hL, hT, hn, hp, hx, hK⟩ := h
  refine ⟨Nat.le_of_ble_eq_true rfl, fun C hC => hC _ _ _ _ _ _ ?_⟩
  refine ⟨P, R, L, T, m, W, p, d, rfl, rfl, ho, hro, hL, hp, fun g1 hg1 => ?_⟩
  refine ⟨P, R, L, T, m, wMet W g1, metB P L R p d, n, p, x, _, _, _, rfl, rfl, ho, hro, hL, hg1, hT, hn, hp, hx, fun g => ?_⟩
  exact hK _
def boOne (f : Nat → Nat → Int32) (k : Nat) (s : Int32 × Int32) (o : Nat) : Int32 × Int32 := if s.1 < f k o then (f k o, 8 * nI k + nI o) else s
def boF (f : Nat → Nat → Int32) (nk no : Nat) (m0 : Int32) : Int32 := (foldF (fun s k => foldF (boOne f k) 0 no s) 0 nk (m0, -2)).2
def tX10_bestOpener : List q_I := [(0, .aload_n 0, 1, 0, 0), (1, .aload_n 1, 1, 0, 0), (2, .iload_n 2, 1, 0, 0), (3, .iload_n 3, 1, 0, 0), (4, .invokevirtual 117, 3, 0, 0), (7, .aload_n 0, 1, 0, 0), (8, .aload_n 1, 1, 0, 0), (9, .iload_n 2, 1, 0, 0), (10, .iconst (-1), 1, (-1), 0), (11, .iconst (-1), 1, (-1), 0), (12, .iload_n 3, 1, 0, 0), (13, .invokevirtual 138, 3, 0, 0), (16, .istore 4, 2, 0, 0), (18, .bipush (-2), 2, (-2), 0), (20, .istore 5, 2, 0, 0), (22, .iconst 0, 1, 0, 0), (23, .istore 6, 2, 0, 0), (25, .iload 6, 2, 0, 0), (27, .aload_n 1, 1, 0, 0), (28, .getfield 69, 3, 0, 0), (31, .iconst 3, 1, 3, 0), (32, .iaload, 1, 0, 0), (33, .if_icmp .ge 63, 3, 0, 96), (36, .iconst 0, 1, 0, 0), (37, .istore 7, 2, 0, 0), (39, .iload 7, 2, 0, 0), (41, .aload_n 1, 1, 0, 0), (42, .getfield 69, 3, 0, 0), (45, .iconst 2, 1, 2, 0), (46, .iaload, 1, 0, 0), (47, .if_icmp .ge 43, 3, 0, 90), (50, .aload_n 0, 1, 0, 0), (51, .aload_n 1, 1, 0, 0), (52, .iload_n 2, 1, 0, 0), (53, .iload 6, 2, 0, 0), (55, .iload 7, 2, 0, 0), (57, .iload_n 3, 1, 0, 0), (58, .invokevirtual 138, 3, 0, 0), (61, .istore 8, 2, 0, 0), (63, .iload 8, 2, 0, 0), (65, .iload 4, 2, 0, 0), (67, .if_icmp .le 17, 3, 0, 84), (70, .iload 8, 2, 0, 0), (72, .istore 4, 2, 0, 0), (74, .bipush 8, 2, 8, 0), (76, .iload 6, 2, 0, 0), (78, .imul, 1, 0, 0), (79, .iload 7, 2, 0, 0), (81, .iadd, 1, 0, 0), (82, .istore 5, 2, 0, 0), (84, .iinc 7 1, 3, 1, 0), (87, .goto (-48), 3, 0, 39), (90, .iinc 6 1, 3, 1, 0), (93, .goto (-68), 3, 0, 25), (96, .iload 5, 2, 0, 0), (98, .ireturn, 1, 0, 0)]
theorem tX10_bestOpener_ok : (tX10_bestOpener.all (q_okI cX10_bestOpener)) = true := by decide +kernel

abbrev fdX10_bestOpener : List (Nat ⊕ (Nat × Nat)) := [.inl 0, .inr (0, 1), .inr (0, 2), .inr (0, 3), .inr (0, 4), .inr (0, 5), .inr (0, 6), .inr (0, 0), .inr (7, 0), .inr (7, 1), .inr (7, 2), .inr (7, 3), .inr (7, 4), .inr (7, 5), .inl 1, .inr (14, 0), .inr (14, 5), .inr (16, 0), .inr (16, 1), .inr (16, 2), .inr (16, 3), .inr (16, 4), .inr (16, 5), .inr (16, 6), .inr (14, 6), .inr (24, 0), .inr (24, 1), .inr (24, 2), .inr (24, 3), .inr (24, 4), .inr (24, 5), .inr (24, 6)]
def spX10_bestOpener : q_P := fun a w K => ∃ (P : PT) (R : RT) (L : LT) (T : Nat → Int32) (m : Int32) (W : WT) (n nk no p x : Nat) (d : Int32), w = wyW P R L T m W ∧ a = [.ref 0, .ref 14, .int (nI p), .int d] ∧ pOk P ∧ rOk R ∧ L_n L ≤ 24 ∧ T 0 = nI n ∧ n ≤ 8 ∧ T 3 = nI nk ∧ nk ≤ 8 ∧ T 2 = nI no ∧ no ≤ 8 ∧ p < P.2.2.2.2.2.2 ∧ P.1 p = nI x ∧ ∀ V, K (.inl (some (.int (boF (fun k o => rchF L R (metB P L R p d) n x (nI k) (nI o) d) nk no (rchF L R (metB P L R p d) n x (-1) (-1) d))))) (wyW P R L T m V)
abbrev csX10_bestOpener : q_S := (4, 10, 4, 9, 0, 0, fdX10_bestOpener, spX10_bestOpener)
def EX10_bestOpener : q_E := (tX10_bestOpener, [(25, [0, 1, 2, 3, 4, 5, 6]), (39, [0, 1, 2, 3, 4, 5, 6, 7])], 9, flX10, [(117, csX10_meetPosts), (138, csX10_reachWith)], [], [], [], [], [], 4, 0, 0, (some .int), [], [], 0, 0)
theorem okX10_bestOpener (l : Launch) : q_Eok l RX10 cX10_bestOpener EX10_bestOpener := ⟨tX10_bestOpener_ok, flX10_ok, List.forall_mem_cons.mpr ⟨(coX10_117 l), List.forall_mem_cons.mpr ⟨(coX10_138 l), q_nil⟩⟩, q_nil, q_nil, q_nil, q_nil, q_nil, (fun h => absurd h (by decide))⟩
set_option maxRecDepth 100000 in
set_option maxHeartbeats 4000000 in
theorem ctX10_bestOpener (l : Launch) : q_CT l yX10_bestOpener (.code yX10_bestOpener cX10_bestOpener 9 (some .int)) 4 0 0 spX10_bestOpener := by
  refine q_ct_of EX10_bestOpener (by decide +kernel) (okX10_bestOpener l) rfl rfl rfl rfl rfl q_nil (fun ci h => by cases h) rfl ?_
  intro a w K h
  obtain ⟨P, R, L, T, m, W, n, nk, no, p, x, d, rfl, rfl, ho, hro, hL, hT, hn, hT3, hnk, hT2, hno, hp, hx, hK⟩ := h
  refine ⟨Nat.le_of_ble_eq_true rfl, fun C hC => hC _ _ _ _ _ _ ?_⟩
  refine ⟨P, R, L, T, m, W, p, d, rfl, rfl, ho, hro, hL, hp, fun g1 hg1 => ?_⟩
  refine ⟨P, R, L, T, m, wMet W g1, metB P L R p d, n, p, x, _, _, _, rfl, rfl, ho, hro, hL, hg1, hT, hn, hp, hx, fun g2 => ?_⟩
  generalize hf : (fun k o => rchF L R (metB P L R p d) n x (nI k) (nI o) d) = f at hK
  have hfa : ∀ k o, rchF L R (metB P L R p d) n x (nI k) (nI o) d = f k o := fun k o => by rw [← hf]
  have outer : ∀ k i s V, i + k = nk → metOk R V.2.2.2.2.1 (metB P L R p d) R.2.2.2.2.2.2.2 → boF f nk no (rchF L R (metB P L R p d) n x (-1) (-1) d) = (foldF (fun s k => foldF (boOne f k) 0 no s) i k s).2 → C 25 [(0, .ref 0), (1, .ref 14), (2, .int (nI p)), (3, .int d), (4, .int s.1), (5, .int s.2), (6, .int (nI i))] [] (wyW P R L T m V) 0 0 := by
    intro k
    induction k with
    | zero =>
      intro i s V hi hV he
      refine hC _ _ _ _ _ _ ?_
      refine ⟨vp_in_nI (n := 3) (by decide) (by decide), And.intro (fun c1 => ?_) (fun c1 => absurd (by show T 3 ≤ nI i; rw [hT3]; exact nI_le (by omega) (by omega)) c1)⟩
      have h9 := hK V
      rw [he] at h9; exact h9
    | succ k ih =>
      intro i s V hi hV he
      refine hC _ _ _ _ _ _ ?_
      refine ⟨vp_in_nI (n := 3) (by decide) (by decide), And.intro (fun c1 => absurd (show T 3 ≤ nI i from c1) (by rw [hT3]; exact nI_ge (by omega) (by omega))) (fun c1 => ?_)⟩
      have inner : ∀ k2 j s V, j + k2 = no → metOk R V.2.2.2.2.1 (metB P L R p d) R.2.2.2.2.2.2.2 → boF f nk no (rchF L R (metB P L R p d) n x (-1) (-1) d) = (foldF (fun s k => foldF (boOne f k) 0 no s) (i + 1) k (foldF (boOne f i) j k2 s)).2 → C 39 [(0, .ref 0), (1, .ref 14), (2, .int (nI p)), (3, .int d), (4, .int s.1), (5, .int s.2), (6, .int (nI i)), (7, .int (nI j))] [] (wyW P R L T m V) 0 0 := by
        intro k2
        induction k2 with
        | zero =>
          intro j s V hj hV he
          refine hC _ _ _ _ _ _ ?_
          refine ⟨vp_in_nI (n := 2) (by decide) (by decide), And.intro (fun c1 => ?_) (fun c1 => absurd (by show T 2 ≤ nI j; rw [hT2]; exact nI_le (by omega) (by omega)) c1)⟩
          have h9 := ih (i + 1) s V (by omega) hV he
          rw [← nI_1 i] at h9
          exact h9
        | succ k2 ih2 =>
          intro j s V hj hV he
          rw [foldF] at he
          refine hC _ _ _ _ _ _ ?_
          refine ⟨vp_in_nI (n := 2) (by decide) (by decide), And.intro (fun c1 => absurd (show T 2 ≤ nI j from c1) (by rw [hT2]; exact nI_ge (by omega) (by omega))) (fun c1 => ?_)⟩
          refine ⟨P, R, L, T, m, V, metB P L R p d, n, p, x, _, _, _, rfl, rfl, ho, hro, hL, hV, hT, hn, hp, hx, fun g => ?_⟩
          rw [hfa]
          refine And.intro (fun c2 => ?_) (fun c2 => ?_)
          · have c2 : f i j ≤ s.1 := c2
            rw [boOne, if_neg (Int32.not_lt.mpr c2)] at he
            have h9 := ih2 (j + 1) s (wOpn V g) (by omega) hV he
            rw [← nI_1 j] at h9
            exact h9
          · have c2 : ¬ f i j ≤ s.1 := c2
            rw [boOne, if_pos (Int32.not_le.mp c2)] at he
            have h9 := ih2 (j + 1) _ (wOpn V g) (by omega) hV he
            rw [← nI_1 j] at h9
            exact h9
      exact inner no 0 s V (by omega) hV he
  exact outer nk 0 (_, -2) _ (by omega) hg1 rfl
end
section
/-- kind, office, coin, fitting, roadOpen, count, bought -/
abbrev ST : Type := (Nat → Int32) × (Nat → Int32) × (Nat → Int32) × (Nat → Int32) × (Nat → Int32) × Nat × Int32
def loadsW (o : Nat) (S : ST) : List q_C := [.inr (5, [.ref (o + 1), .ref (o + 2), .ref (o + 3), .ref (o + 4), .ref (o + 5), .int (nI S.2.2.2.2.2.1), .int S.2.2.2.2.2.2]), .inl (1, 9, .inl S.1), .inl (1, 9, .inl S.2.1), .inl (1, 9, .inl S.2.2.1), .inl (1, 48, .inl S.2.2.2.1), .inl (3, 16, .inl S.2.2.2.2.1)]

def tX5_clear : List q_I := [(0, .aload_n 0, 1, 0, 0), (1, .iconst 0, 1, 0, 0), (2, .putfield 34, 3, 0, 0), (5, .aload_n 0, 1, 0, 0), (6, .iconst (-1), 1, (-1), 0), (7, .putfield 30, 3, 0, 0), (10, .return_, 1, 0, 0)]
theorem tX5_clear_ok : (tX5_clear.all (q_okI cX5_clear)) = true := by decide +kernel

abbrev fdX5_clear : List (Nat ⊕ (Nat × Nat)) := [.inl 0, .inr (0, 0), .inr (0, 1), .inr (0, 2), .inr (0, 3), .inr (0, 4)]
def spX5_clear : q_P := fun a w K => ∃ (S : ST), w = loadsW 0 S ∧ a = [.ref 0] ∧ K (.inl none) (loadsW 0 (S.1, S.2.1, S.2.2.1, S.2.2.2.1, S.2.2.2.2.1, 0, -1))
abbrev csX5_clear : q_S := (1, 5, 0, 1, 0, 0, fdX5_clear, spX5_clear)
def EX5_clear : q_E := (tX5_clear, [], 1, flX5, [], [], [], [], [], [], 0, 0, 0, none, [], [], 0, 0)
theorem okX5_clear (l : Launch) : q_Eok l RX5 cX5_clear EX5_clear := ⟨tX5_clear_ok, flX5_ok, q_nil, q_nil, q_nil, q_nil, q_nil, q_nil, (fun h => absurd h (by decide))⟩
set_option maxRecDepth 100000 in
set_option maxHeartbeats 4000000 in
theorem ctX5_clear (l : Launch) : q_CT l yX5_clear (.code yX5_clear cX5_clear 1 none) 0 0 0 spX5_clear := by
  refine q_ct_of EX5_clear (by decide +kernel) (okX5_clear l) rfl rfl rfl rfl rfl q_nil (fun ci h => by cases h) rfl ?_
  intro a w K h
  obtain ⟨S, rfl, rfl, hK⟩ := h
  refine ⟨Nat.le_of_ble_eq_true rfl, fun C hC => hC _ _ _ _ _ _ ?_⟩
  exact hK
def loadAdd (S : ST) (k o c : Int32) : ST := (upd S.1 S.2.2.2.2.2.1 k, upd S.2.1 S.2.2.2.2.2.1 o, upd S.2.2.1 S.2.2.2.2.2.1 c, S.2.2.2.1, S.2.2.2.2.1, S.2.2.2.2.2.1 + 1, S.2.2.2.2.2.2)
def tX5_add : List q_I := [(0, .aload_n 0, 1, 0, 0), (1, .getfield 11, 3, 0, 0), (4, .aload_n 0, 1, 0, 0), (5, .getfield 34, 3, 0, 0), (8, .iload_n 1, 1, 0, 0), (9, .iastore, 1, 0, 0), (10, .aload_n 0, 1, 0, 0), (11, .getfield 15, 3, 0, 0), (14, .aload_n 0, 1, 0, 0), (15, .getfield 34, 3, 0, 0), (18, .iload_n 2, 1, 0, 0), (19, .iastore, 1, 0, 0), (20, .aload_n 0, 1, 0, 0), (21, .getfield 18, 3, 0, 0), (24, .aload_n 0, 1, 0, 0), (25, .getfield 34, 3, 0, 0), (28, .iload_n 3, 1, 0, 0), (29, .iastore, 1, 0, 0), (30, .aload_n 0, 1, 0, 0), (31, .dup, 1, 0, 0), (32, .getfield 34, 3, 0, 0), (35, .iconst 1, 1, 1, 0), (36, .iadd, 1, 0, 0), (37, .putfield 34, 3, 0, 0), (40, .aload_n 0, 1, 0, 0), (41, .getfield 34, 3, 0, 0), (44, .iconst 1, 1, 1, 0), (45, .isub, 1, 0, 0), (46, .ireturn, 1, 0, 0)]
theorem tX5_add_ok : (tX5_add.all (q_okI cX5_add)) = true := by decide +kernel

abbrev fdX5_add : List (Nat ⊕ (Nat × Nat)) := [.inl 0, .inr (0, 0), .inr (0, 1), .inr (0, 2), .inr (0, 3), .inr (0, 4)]
def spX5_add : q_P := fun a w K => ∃ (S : ST) (k o c : Int32), w = loadsW 0 S ∧ a = [.ref 0, .int k, .int o, .int c] ∧ S.2.2.2.2.2.1 < 9 ∧ K (.inl (some (.int (nI S.2.2.2.2.2.1)))) (loadsW 0 (loadAdd S k o c))
abbrev csX5_add : q_S := (4, 5, 0, 4, 0, 0, fdX5_add, spX5_add)
def EX5_add : q_E := (tX5_add, [], 4, flX5, [], [], [], [], [], [], 0, 0, 0, (some .int), [], [], 0, 0)
theorem okX5_add (l : Launch) : q_Eok l RX5 cX5_add EX5_add := ⟨tX5_add_ok, flX5_ok, q_nil, q_nil, q_nil, q_nil, q_nil, q_nil, (fun h => absurd h (by decide))⟩
set_option maxRecDepth 100000 in
set_option maxHeartbeats 4000000 in
theorem ctX5_add (l : Launch) : q_CT l yX5_add (.code yX5_add cX5_add 4 (some .int)) 0 0 0 spX5_add := by
  refine q_ct_of EX5_add (by decide +kernel) (okX5_add l) rfl rfl rfl rfl rfl q_nil (fun ci h => by cases h) rfl ?_
  intro a w K h
  obtain ⟨S, k, o, c, rfl, rfl, hn, hK⟩ := h
  refine ⟨Nat.le_of_ble_eq_true rfl, fun C hC => hC _ _ _ _ _ _ ?_⟩
  have hv : vp_in (nI S.2.2.2.2.2.1) 9 := vp_in_nI hn (by omega)
  have hc : (nI S.2.2.2.2.2.1).toNatClampNeg = S.2.2.2.2.2.1 := nI_clamp (by omega)
  refine ⟨hv, hv, hv, ?_⟩
  show K (.inl (some (.int _))) _
  simp only [hc, nI_1, nI_pred]
  exact hK
def ldW (S : ST) (R : RT) (L : LT) (T : Nat → Int32) (m : Int32) : List q_C := loadsW 0 S ++ ([.inr (0, [.ref 7, tk 6 1, tk 6 2, tk 6 3, .int m, .ref 8, .ref 16, tk 6 7]), .inl (1, 4, .inl T)] ++ (roadsW 8 R ++ lawsW 16 L))
def sFit (S : ST) (g : Nat → Int32) : ST := (S.1, S.2.1, S.2.2.1, g, S.2.2.2.2.1, S.2.2.2.2.2.1, S.2.2.2.2.2.2)
def sOpn (S : ST) (g : Nat → Int32) : ST := (S.1, S.2.1, S.2.2.1, S.2.2.2.1, g, S.2.2.2.2.2.1, S.2.2.2.2.2.2)
def sBgt (S : ST) (x : Int32) : ST := (S.1, S.2.1, S.2.2.1, S.2.2.2.1, S.2.2.2.2.1, S.2.2.2.2.2.1, x)
def fitF (S : ST) (L : LT) (R : RT) (d : Int32) (k : Nat) : Nat → Int32
  | 0 => 0
  | s + 1 => if S.1 s = R.2.2.2.2.2.1 k ∧ accOn L d (R.2.2.2.2.2.2.1 k) (S.1 s) (S.2.1 s) = true then fitF S L R d k s ||| (1 : Int32) <<< (nI s &&& 31) else fitF S L R d k s
theorem fitF_g (S : ST) (g : Nat → Int32) (L : LT) (R : RT) (d : Int32) (k : Nat) : ∀ n, fitF (sFit S g) L R d k n = fitF S L R d k n
  | 0 => rfl
  | n + 1 => by rw [fitF, fitF, fitF_g S g L R d k n]; rfl
def fitOk (R : RT) (g : Nat → Int32) (f : Nat → Int32) (j : Nat) : Prop := ∀ r i, r < j → i < rpN R r → g (r * 3 + i) = f (r * 3 + i)
def tX5_findFitting : List q_I := [(0, .aload_n 1, 1, 0, 0), (1, .getfield 55, 3, 0, 0), (4, .astore_n 3, 1, 0, 0), (5, .iconst 0, 1, 0, 0), (6, .istore 4, 2, 0, 0), (8, .iload 4, 2, 0, 0), (10, .aload_n 3, 1, 0, 0), (11, .getfield 61, 3, 0, 0), (14, .if_icmp .ge 128, 3, 0, 142), (17, .iconst 0, 1, 0, 0), (18, .istore 5, 2, 0, 0), (20, .iload 5, 2, 0, 0), (22, .aload_n 3, 1, 0, 0), (23, .getfield 62, 3, 0, 0), (26, .iload 4, 2, 0, 0), (28, .iaload, 1, 0, 0), (29, .if_icmp .ge 107, 3, 0, 136), (32, .iload 4, 2, 0, 0), (34, .iconst 3, 1, 3, 0), (35, .imul, 1, 0, 0), (36, .iload 5, 2, 0, 0), (38, .iadd, 1, 0, 0), (39, .istore 6, 2, 0, 0), (41, .aload_n 0, 1, 0, 0), (42, .getfield 23, 3, 0, 0), (45, .iload 6, 2, 0, 0), (47, .iconst 0, 1, 0, 0), (48, .iastore, 1, 0, 0), (49, .iconst 0, 1, 0, 0), (50, .istore 7, 2, 0, 0), (52, .iload 7, 2, 0, 0), (54, .aload_n 0, 1, 0, 0), (55, .getfield 34, 3, 0, 0), (58, .if_icmp .ge 72, 3, 0, 130), (61, .aload_n 0, 1, 0, 0), (62, .getfield 11, 3, 0, 0), (65, .iload 7, 2, 0, 0), (67, .iaload, 1, 0, 0), (68, .aload_n 3, 1, 0, 0), (69, .getfield 65, 3, 0, 0), (72, .iload 6, 2, 0, 0), (74, .iaload, 1, 0, 0), (75, .if_icmp .ne 49, 3, 0, 124), (78, .aload_n 1, 1, 0, 0), (79, .getfield 68, 3, 0, 0), (82, .iload_n 2, 1, 0, 0), (83, .aload_n 3, 1, 0, 0), (84, .getfield 72, 3, 0, 0), (87, .iload 6, 2, 0, 0), (89, .iaload, 1, 0, 0), (90, .aload_n 0, 1, 0, 0), (91, .getfield 11, 3, 0, 0), (94, .iload 7, 2, 0, 0), (96, .iaload, 1, 0, 0), (97, .aload_n 0, 1, 0, 0), (98, .getfield 15, 3, 0, 0), (101, .iload 7, 2, 0, 0), (103, .iaload, 1, 0, 0), (104, .invokevirtual 75, 3, 0, 0), (107, .ifCond .eq 17, 3, 0, 124), (110, .aload_n 0, 1, 0, 0), (111, .getfield 23, 3, 0, 0), (114, .iload 6, 2, 0, 0), (116, .dup2, 1, 0, 0), (117, .iaload, 1, 0, 0), (118, .iconst 1, 1, 1, 0), (119, .iload 7, 2, 0, 0), (121, .ishl, 1, 0, 0), (122, .ior, 1, 0, 0), (123, .iastore, 1, 0, 0), (124, .iinc 7 1, 3, 1, 0), (127, .goto (-75), 3, 0, 52), (130, .iinc 5 1, 3, 1, 0), (133, .goto (-113), 3, 0, 20), (136, .iinc 4 1, 3, 1, 0), (139, .goto (-131), 3, 0, 8), (142, .return_, 1, 0, 0)]
theorem tX5_findFitting_ok : (tX5_findFitting.all (q_okI cX5_findFitting)) = true := by decide +kernel

abbrev fdX5_findFitting : List (Nat ⊕ (Nat × Nat)) := [.inl 0, .inr (0, 0), .inr (0, 1), .inr (0, 2), .inr (0, 3), .inr (0, 4), .inl 1, .inr (6, 0), .inr (6, 5), .inr (8, 0), .inr (8, 1), .inr (8, 2), .inr (8, 3), .inr (8, 4), .inr (8, 5), .inr (8, 6), .inr (6, 6), .inr (16, 0), .inr (16, 1), .inr (16, 2), .inr (16, 3), .inr (16, 4), .inr (16, 5), .inr (16, 6)]
def spX5_findFitting : q_P := fun a w K => ∃ (S : ST) (R : RT) (L : LT) (T : Nat → Int32) (m d : Int32), w = ldW S R L T m ∧ a = [.ref 0, .ref 6, .int d] ∧ rOk R ∧ L_n L ≤ 24 ∧ S.2.2.2.2.2.1 ≤ 9 ∧ ∀ g, fitOk R g (fun k => fitF S L R d k S.2.2.2.2.2.1) R.2.2.2.2.2.2.2 → K (.inl none) (ldW (sFit S g) R L T m)
abbrev csX5_findFitting : q_S := (3, 5, 2, 8, 0, 0, fdX5_findFitting, spX5_findFitting)
theorem coX5_75 (l : Launch) : q_CO l RX5 75 csX3_acceptOn := ⟨yX3_acceptOn, cX3_acceptOn, (some .boolean), 4, ⟨by decide +kernel, by decide +kernel, by decide +kernel⟩, q_G_i 4 (by decide +kernel) rfl, Or.inl ⟨by decide, rfl, rfl, q_G_i 991 (by decide +kernel) rfl, q_G_i 837 (by decide +kernel) rfl, q_G_i 838 (by decide +kernel) rfl, Or.inl ⟨q_G_i 839 (by decide +kernel) rfl, ctX3_acceptOn l⟩⟩⟩
def EX5_findFitting : q_E := (tX5_findFitting, [(8, [0, 1, 2, 3, 4]), (20, [0, 1, 2, 3, 4, 5]), (52, [0, 1, 2, 3, 4, 5, 6, 7])], 8, flX5, [(75, csX3_acceptOn)], [], [], [], [], [], 2, 0, 0, none, [], [], 0, 0)
theorem okX5_findFitting (l : Launch) : q_Eok l RX5 cX5_findFitting EX5_findFitting := ⟨tX5_findFitting_ok, flX5_ok, List.forall_mem_cons.mpr ⟨(coX5_75 l), q_nil⟩, q_nil, q_nil, q_nil, q_nil, q_nil, (fun h => absurd h (by decide))⟩
set_option maxRecDepth 100000 in
set_option maxHeartbeats 4000000 in
theorem ctX5_findFitting (l : Launch) : q_CT l yX5_findFitting (.code yX5_findFitting cX5_findFitting 8 none) 2 0 0 spX5_findFitting := by
  refine q_ct_of EX5_findFitting (by decide +kernel) (okX5_findFitting l) rfl rfl rfl rfl rfl q_nil (fun ci h => by cases h) rfl ?_
  intro a w K h
  obtain ⟨S, R, L, T, m, d, rfl, rfl, hro, hL, hS, hK⟩ := h
  have hrn := hro.1
  refine ⟨Nat.le_of_ble_eq_true rfl, fun C hC => ?_⟩
  have outer : ∀ k j g, j + k = R.2.2.2.2.2.2.2 → fitOk R g (fun k => fitF S L R d k S.2.2.2.2.2.1) j → C 8 [(0, .ref 0), (1, .ref 6), (2, .int d), (3, .ref 8), (4, .int (nI j))] [] (ldW (sFit S g) R L T m) 0 0 := by
    intro k
    induction k with
    | zero =>
      intro j g hj hg
      have hj : j = R.2.2.2.2.2.2.2 := by omega
      subst hj
      refine hC _ _ _ _ _ _ ?_
      exact And.intro (fun c1 => hK g hg) (fun c1 => absurd (Int32.le_refl _) c1)
    | succ k ih =>
      intro j g hj hg
      obtain ⟨h1, h2, h3, h4, h5⟩ := rOk_ix hro (show j < R.2.2.2.2.2.2.2 by omega)
      refine hC _ _ _ _ _ _ ?_
      refine And.intro (fun c1 => absurd c1 (nI_ge (by omega) (by omega))) (fun c1 => ?_)
      have mid : ∀ k i g, i + k = rpN R j → fitOk R g (fun k => fitF S L R d k S.2.2.2.2.2.1) j → (∀ q, q < i → g (j * 3 + q) = fitF S L R d (j * 3 + q) S.2.2.2.2.2.1) → C 20 [(0, .ref 0), (1, .ref 6), (2, .int d), (3, .ref 8), (4, .int (nI j)), (5, .int (nI i))] [] (ldW (sFit S g) R L T m) 0 0 := by
        intro k2
        induction k2 with
        | zero =>
          intro i g hi hg hq
          refine hC _ _ _ _ _ _ ?_
          refine ⟨h1, And.intro (fun c2 => ?_) (fun c2 => absurd (by show R.2.2.2.2.1 (nI j).toNatClampNeg ≤ nI i; rw [h2, h3]; exact nI_le (by omega) (by omega)) c2)⟩
          have h9 := ih (j + 1) g (by omega) (fun r q hr hq2 => by
            by_cases e : r = j
            · subst e; exact hq q (by omega)
            · exact hg r q (by omega) hq2)
          rw [← nI_1] at h9
          exact h9
        | succ k2 ih2 =>
          intro i g hi hg hq
          have e2 : nI j * 3 + nI i = nI (j * 3 + i) := by rw [nI_mul3, nI_add]
          have hv2 : vp_in (nI j * 3 + nI i) 48 := by rw [e2]; exact vp_in_nI (by omega) (by omega)
          have hc2 : (nI j * 3 + nI i).toNatClampNeg = j * 3 + i := by rw [e2]; exact nI_clamp (by omega)
          refine hC _ _ _ _ _ _ ?_
          refine ⟨h1, And.intro (fun c2 => absurd (show R.2.2.2.2.1 (nI j).toNatClampNeg ≤ nI i from c2) (by rw [h2, h3]; exact nI_ge (by omega) (by omega))) (fun c2 => ⟨hv2, ?_⟩)⟩
          have inner : ∀ k3 s g, s + k3 = S.2.2.2.2.2.1 → fitOk R g (fun k => fitF S L R d k S.2.2.2.2.2.1) j → (∀ q, q < i → g (j * 3 + q) = fitF S L R d (j * 3 + q) S.2.2.2.2.2.1) → g (j * 3 + i) = fitF S L R d (j * 3 + i) s → C 52 [(0, .ref 0), (1, .ref 6), (2, .int d), (3, .ref 8), (4, .int (nI j)), (5, .int (nI i)), (6, .int (nI j * 3 + nI i)), (7, .int (nI s))] [] (ldW (sFit S g) R L T m) 0 0 := by
            intro k3
            induction k3 with
            | zero =>
              intro s g hs hg hq he
              have hs : s = S.2.2.2.2.2.1 := by omega
              subst hs
              refine hC _ _ _ _ _ _ ?_
              refine And.intro (fun c3 => ?_) (fun c3 => absurd (Int32.le_refl _) c3)
              have h9 := ih2 (i + 1) g (by omega) hg (fun q hq2 => by
                by_cases e : q = i
                · subst e; exact he
                · exact hq q (by omega))
              rw [← nI_1 i] at h9
              exact h9
            | succ k3 ih3 =>
              intro s g hs hg hq he
              have hvs : vp_in (nI s) 9 := vp_in_nI (by omega) (by omega)
              have hcs : (nI s).toNatClampNeg = s := nI_clamp (by omega)
              have no : ¬ (S.1 s = R.2.2.2.2.2.1 (j * 3 + i) ∧ accOn L d (R.2.2.2.2.2.2.1 (j * 3 + i)) (S.1 s) (S.2.1 s) = true) → C 52 [(0, .ref 0), (1, .ref 6), (2, .int d), (3, .ref 8), (4, .int (nI j)), (5, .int (nI i)), (6, .int (nI j * 3 + nI i)), (7, .int (nI s + 1))] [] (ldW (sFit S g) R L T m) 0 0 := by
                intro hf
                have h9 := ih3 (s + 1) g (by omega) hg hq (by rw [fitF, if_neg hf]; exact he)
                rw [← nI_1 s] at h9
                exact h9
              refine hC _ _ _ _ _ _ ?_
              refine And.intro (fun c3 => absurd c3 (nI_ge (b := S.2.2.2.2.2.1) (by omega) (by omega))) (fun c3 => ⟨hvs, hv2, And.intro (fun c4 => no ?_) (fun c4 => ⟨hv2, hvs, hvs, L, _, _, _, _, rfl, rfl, hL, And.intro (fun c5 => no ?_) (fun c5 => ⟨hv2, hv2, ?_⟩)⟩)⟩)
              · have c4 : ¬ S.1 (nI s).toNatClampNeg = R.2.2.2.2.2.1 (nI j * 3 + nI i).toNatClampNeg := c4
                rw [hcs, hc2] at c4
                exact fun z => c4 z.1
              · have c5 : bI (accOn L d (R.2.2.2.2.2.2.1 (nI j * 3 + nI i).toNatClampNeg) (S.1 (nI s).toNatClampNeg) (S.2.1 (nI s).toNatClampNeg)) = 0 := c5
                rw [hcs, hc2] at c5
                exact fun z => by rw [bI_0.mp c5] at z; exact absurd z.2 (by decide)
              · have c4 : S.1 (nI s).toNatClampNeg = R.2.2.2.2.2.1 (nI j * 3 + nI i).toNatClampNeg := c4
                have c5 : ¬ bI (accOn L d (R.2.2.2.2.2.2.1 (nI j * 3 + nI i).toNatClampNeg) (S.1 (nI s).toNatClampNeg) (S.2.1 (nI s).toNatClampNeg)) = 0 := c5
                rw [hcs, hc2] at c4 c5
                have h9 := ih3 (s + 1) (upd g (j * 3 + i) (g (j * 3 + i) ||| (1 : Int32) <<< (nI s &&& 31))) (by omega) (fun r q hr hq2 => by
                  have := (rOk_ix hro (show r < R.2.2.2.2.2.2.2 by omega)).2.2.2.1
                  rw [pk_un (by omega)]; exact hg r q hr hq2) (fun q hq2 => by rw [pk_un (by omega)]; exact hq q hq2) (by rw [fitF, if_pos ⟨c4, bI_n0.mp c5⟩, ← he]; exact pk_us)
                rw [← nI_1 s, ← hc2] at h9
                exact h9
          have h9 := inner S.2.2.2.2.2.1 0 (upd g (j * 3 + i) 0) (by omega) (fun r q hr hq2 => by
                  have := (rOk_ix hro (show r < R.2.2.2.2.2.2.2 by omega)).2.2.2.1
                  rw [pk_un (by omega)]; exact hg r q hr hq2) (fun q hq2 => by rw [pk_un (by omega)]; exact hq q hq2) pk_us
          rw [← hc2] at h9
          exact h9
      exact mid (rpN R j) 0 g (by omega) hg (fun q hq => absurd hq (Nat.not_lt_zero q))
  exact hC _ _ _ _ _ _ (outer R.2.2.2.2.2.2.2 0 S.2.2.2.1 (by omega) (fun r q hr => absurd hr (Nat.not_lt_zero r)))
def cstF (coin : Nat → Int32) (set : Int32) : Nat → Int32
  | 0 => 0
  | s + 1 => if (set >>> (nI s &&& 31)) &&& 1 = 0 then cstF coin set s else cstF coin set s + coin s
def tX5_costOf : List q_I := [(0, .iconst 0, 1, 0, 0), (1, .istore_n 2, 1, 0, 0), (2, .iconst 0, 1, 0, 0), (3, .istore_n 3, 1, 0, 0), (4, .iload_n 3, 1, 0, 0), (5, .aload_n 0, 1, 0, 0), (6, .getfield 34, 3, 0, 0), (9, .if_icmp .ge 26, 3, 0, 35), (12, .iload_n 1, 1, 0, 0), (13, .iload_n 3, 1, 0, 0), (14, .ishr, 1, 0, 0), (15, .iconst 1, 1, 1, 0), (16, .iand, 1, 0, 0), (17, .ifCond .eq 12, 3, 0, 29), (20, .iload_n 2, 1, 0, 0), (21, .aload_n 0, 1, 0, 0), (22, .getfield 18, 3, 0, 0), (25, .iload_n 3, 1, 0, 0), (26, .iaload, 1, 0, 0), (27, .iadd, 1, 0, 0), (28, .istore_n 2, 1, 0, 0), (29, .iinc 3 1, 3, 1, 0), (32, .goto (-28), 3, 0, 4), (35, .iload_n 2, 1, 0, 0), (36, .ireturn, 1, 0, 0)]
theorem tX5_costOf_ok : (tX5_costOf.all (q_okI cX5_costOf)) = true := by decide +kernel

abbrev fdX5_costOf : List (Nat ⊕ (Nat × Nat)) := [.inl 0, .inr (0, 0), .inr (0, 1), .inr (0, 2), .inr (0, 3), .inr (0, 4)]
def spX5_costOf : q_P := fun a w K => ∃ (S : ST) (x : Int32), w = loadsW 0 S ∧ a = [.ref 0, .int x] ∧ S.2.2.2.2.2.1 ≤ 9 ∧ K (.inl (some (.int (cstF S.2.2.1 x S.2.2.2.2.2.1)))) (loadsW 0 S)
abbrev csX5_costOf : q_S := (2, 5, 0, 4, 0, 0, fdX5_costOf, spX5_costOf)
def EX5_costOf : q_E := (tX5_costOf, [(4, [0, 1, 2, 3])], 4, flX5, [], [], [], [], [], [], 0, 0, 0, (some .int), [], [], 0, 0)
theorem okX5_costOf (l : Launch) : q_Eok l RX5 cX5_costOf EX5_costOf := ⟨tX5_costOf_ok, flX5_ok, q_nil, q_nil, q_nil, q_nil, q_nil, q_nil, (fun h => absurd h (by decide))⟩
set_option maxRecDepth 100000 in
set_option maxHeartbeats 4000000 in
theorem ctX5_costOf (l : Launch) : q_CT l yX5_costOf (.code yX5_costOf cX5_costOf 4 (some .int)) 0 0 0 spX5_costOf := by
  refine q_ct_of EX5_costOf (by decide +kernel) (okX5_costOf l) rfl rfl rfl rfl rfl q_nil (fun ci h => by cases h) rfl ?_
  intro a w K h
  obtain ⟨S, x, rfl, rfl, hS, hK⟩ := h
  refine ⟨Nat.le_of_ble_eq_true rfl, fun C hC => ?_⟩
  have loop : ∀ k i, i + k = S.2.2.2.2.2.1 → C 4 [(0, .ref 0), (1, .int x), (2, .int (cstF S.2.2.1 x i)), (3, .int (nI i))] [] (loadsW 0 S) 0 0 := by
    intro k
    induction k with
    | zero =>
      intro i hi
      have hi : i = S.2.2.2.2.2.1 := by omega
      subst hi
      refine hC _ _ _ _ _ _ ?_
      exact And.intro (fun c1 => hK) (fun c1 => absurd (Int32.le_refl _) c1)
    | succ k ih =>
      intro i hi
      have hv : vp_in (nI i) 9 := vp_in_nI (by omega) (by omega)
      have hc : (nI i).toNatClampNeg = i := nI_clamp (by omega)
      have h9 := ih (i + 1) (by omega)
      rw [← nI_1] at h9
      refine hC _ _ _ _ _ _ ?_
      refine And.intro (fun c1 => absurd c1 (nI_ge (by omega) (by omega))) (fun c1 => And.intro (fun c2 => ?_) (fun c2 => ⟨hv, ?_⟩))
      · rw [cstF, if_pos c2] at h9; exact h9
      · rw [cstF, if_neg c2] at h9
        have e1 : S.2.2.1 i = S.2.2.1 (nI i).toNatClampNeg := by rw [hc]
        rw [e1] at h9
        exact h9
  exact hC _ _ _ _ _ _ (loop S.2.2.2.2.2.1 0 (by omega))
def carO (R : RT) (f : Nat → Int32) (set : Int32) (r : Nat) : Bool := allF (fun k => decide (¬ f k &&& set = 0)) (r * 3) (rpN R r)
def carB (R : RT) (f : Nat → Int32) (n : Nat) (set x y : Int32) : Bool := decide (¬ (sprF R (carO R f set) n x >>> (y &&& 31)) &&& 1 = 0)
def tX5_carries : List q_I := [(0, .aload_n 1, 1, 0, 0), (1, .getfield 55, 3, 0, 0), (4, .astore 5, 2, 0, 0), (6, .iconst 0, 1, 0, 0), (7, .istore 6, 2, 0, 0), (9, .iload 6, 2, 0, 0), (11, .aload 5, 2, 0, 0), (13, .getfield 61, 3, 0, 0), (16, .if_icmp .ge 64, 3, 0, 80), (19, .aload_n 0, 1, 0, 0), (20, .getfield 26, 3, 0, 0), (23, .iload 6, 2, 0, 0), (25, .iconst 1, 1, 1, 0), (26, .bastore, 1, 0, 0), (27, .iconst 0, 1, 0, 0), (28, .istore 7, 2, 0, 0), (30, .iload 7, 2, 0, 0), (32, .aload 5, 2, 0, 0), (34, .getfield 62, 3, 0, 0), (37, .iload 6, 2, 0, 0), (39, .iaload, 1, 0, 0), (40, .if_icmp .ge 34, 3, 0, 74), (43, .aload_n 0, 1, 0, 0), (44, .getfield 23, 3, 0, 0), (47, .iload 6, 2, 0, 0), (49, .iconst 3, 1, 3, 0), (50, .imul, 1, 0, 0), (51, .iload 7, 2, 0, 0), (53, .iadd, 1, 0, 0), (54, .iaload, 1, 0, 0), (55, .iload_n 2, 1, 0, 0), (56, .iand, 1, 0, 0), (57, .ifCond .ne 11, 3, 0, 68), (60, .aload_n 0, 1, 0, 0), (61, .getfield 26, 3, 0, 0), (64, .iload 6, 2, 0, 0), (66, .iconst 0, 1, 0, 0), (67, .bastore, 1, 0, 0), (68, .iinc 7 1, 3, 1, 0), (71, .goto (-41), 3, 0, 30), (74, .iinc 6 1, 3, 1, 0), (77, .goto (-68), 3, 0, 9), (80, .aload_n 1, 1, 0, 0), (81, .aload_n 0, 1, 0, 0), (82, .getfield 26, 3, 0, 0), (85, .iload_n 3, 1, 0, 0), (86, .invokestatic 81, 3, 0, 0), (89, .iload 4, 2, 0, 0), (91, .ishr, 1, 0, 0), (92, .iconst 1, 1, 1, 0), (93, .iand, 1, 0, 0), (94, .ifCond .eq 7, 3, 0, 101), (97, .iconst 1, 1, 1, 0), (98, .goto 4, 3, 0, 102), (101, .iconst 0, 1, 0, 0), (102, .ireturn, 1, 0, 0)]
theorem tX5_carries_ok : (tX5_carries.all (q_okI cX5_carries)) = true := by decide +kernel

abbrev fdX5_carries : List (Nat ⊕ (Nat × Nat)) := [.inl 0, .inr (0, 0), .inr (0, 1), .inr (0, 2), .inr (0, 3), .inr (0, 4), .inl 1, .inr (6, 0), .inr (6, 5), .inr (8, 0), .inr (8, 1), .inr (8, 2), .inr (8, 3), .inr (8, 4), .inr (8, 5), .inr (8, 6), .inr (6, 6), .inr (16, 0), .inr (16, 1), .inr (16, 2), .inr (16, 3), .inr (16, 4), .inr (16, 5), .inr (16, 6)]
def spX5_carries : q_P := fun a w K => ∃ (S : ST) (R : RT) (L : LT) (T : Nat → Int32) (m : Int32) (f : Nat → Int32) (n : Nat) (s x y : Int32), w = ldW S R L T m ∧ a = [.ref 0, .ref 6, .int s, .int x, .int y] ∧ rOk R ∧ T 0 = nI n ∧ n ≤ 8 ∧ fitOk R S.2.2.2.1 f R.2.2.2.2.2.2.2 ∧ ∀ g, K (.inl (some (.int (bI (carB R f n s x y))))) (ldW (sOpn S g) R L T m)
abbrev csX5_carries : q_S := (5, 5, 1, 8, 0, 0, fdX5_carries, spX5_carries)
theorem coX5_81 (l : Launch) : q_CO l RX5 81 csX10_spread := ⟨yX10_spread, cX10_spread, (some .int), 3, ⟨by decide +kernel, by decide +kernel, by decide +kernel⟩, q_G_i 12 (by decide +kernel) rfl, Or.inr (Or.inr (Or.inr ⟨rfl, rfl, q_G_i 1002 (by decide +kernel) rfl, q_G_i 955 (by decide +kernel) rfl, Or.inl ⟨q_G_i 956 (by decide +kernel) rfl, ctX10_spread l⟩⟩))⟩
def EX5_carries : q_E := (tX5_carries, [(9, [0, 1, 2, 3, 4, 5, 6]), (30, [0, 1, 2, 3, 4, 5, 6, 7])], 8, flX5, [(81, csX10_spread)], [], [], [], [], [], 1, 0, 0, (some .boolean), [], [], 0, 0)
theorem okX5_carries (l : Launch) : q_Eok l RX5 cX5_carries EX5_carries := ⟨tX5_carries_ok, flX5_ok, List.forall_mem_cons.mpr ⟨(coX5_81 l), q_nil⟩, q_nil, q_nil, q_nil, q_nil, q_nil, (fun h => absurd h (by decide))⟩
set_option maxRecDepth 100000 in
set_option maxHeartbeats 4000000 in
theorem ctX5_carries (l : Launch) : q_CT l yX5_carries (.code yX5_carries cX5_carries 8 (some .boolean)) 1 0 0 spX5_carries := by
  refine q_ct_of EX5_carries (by decide +kernel) (okX5_carries l) rfl rfl rfl rfl rfl q_nil (fun ci h => by cases h) rfl ?_
  intro a w K h
  obtain ⟨S, R, L, T, m, f, n, s, x, y, rfl, rfl, hro, hT, hn, hf, hK⟩ := h
  have hrn := hro.1
  refine ⟨Nat.le_of_ble_eq_true rfl, fun C hC => ?_⟩
  have outer : ∀ k j g, j + k = R.2.2.2.2.2.2.2 → (∀ r, r < j → g r = bI (carO R f s r)) → C 9 [(0, .ref 0), (1, .ref 6), (2, .int s), (3, .int x), (4, .int y), (5, .ref 8), (6, .int (nI j))] [] (ldW (sOpn S g) R L T m) 0 0 := by
    intro k
    induction k with
    | zero =>
      intro j g hj hg
      have hj : j = R.2.2.2.2.2.2.2 := by omega
      subst hj
      refine hC _ _ _ _ _ _ ?_
      refine And.intro (fun c1 => ?_) (fun c1 => absurd (Int32.le_refl _) c1)
      refine ⟨R, T, g, carO R f s, n, x, _, _, _, _, _, _, rfl, rfl, hrn, hT, hn, hg, And.intro (fun c2 => ⟨rfl, ?_⟩) (fun c2 => ⟨rfl, ?_⟩)⟩
      · have h9 := hK g
        rw [carB, bI_f (fun z => z c2)] at h9; exact h9
      · have h9 := hK g
        rw [carB, bI_t c2] at h9; exact h9
    | succ k ih =>
      intro j g hj hg
      have hrj : j < R.2.2.2.2.2.2.2 := by omega
      obtain ⟨h1, h2, h3, h4, h5⟩ := rOk_ix hro hrj
      refine hC _ _ _ _ _ _ ?_
      refine And.intro (fun c1 => absurd c1 (nI_ge (by omega) (by omega))) (fun c1 => ⟨h1, ?_⟩)
      have inner : ∀ k i g, i + k = rpN R j → (∀ r, r < j → g r = bI (carO R f s r)) → g j = bI (allF (fun k => decide (¬ f k &&& s = 0)) (j * 3) i) → C 30 [(0, .ref 0), (1, .ref 6), (2, .int s), (3, .int x), (4, .int y), (5, .ref 8), (6, .int (nI j)), (7, .int (nI i))] [] (ldW (sOpn S g) R L T m) 0 0 := by
        intro k2
        induction k2 with
        | zero =>
          intro i g hi hg hq
          have hi : i = rpN R j := by omega
          refine hC _ _ _ _ _ _ ?_
          refine ⟨h1, And.intro (fun c2 => ?_) (fun c2 => absurd (by show R.2.2.2.2.1 (nI j).toNatClampNeg ≤ nI i; rw [h2, h3]; exact nI_le (by omega) (by omega)) c2)⟩
          have h9 := ih (j + 1) g (by omega) (fun r hr => by
            by_cases e : r = j
            · subst e; rw [hq, hi]; rfl
            · exact hg r (by omega))
          rw [← nI_1] at h9
          exact h9
        | succ k2 ih2 =>
          intro i g hi hg hq
          have e2 : nI j * 3 + nI i = nI (j * 3 + i) := by rw [nI_mul3, nI_add]
          have hv2 : vp_in (nI j * 3 + nI i) 48 := by rw [e2]; exact vp_in_nI (by omega) (by omega)
          have hc2 : (nI j * 3 + nI i).toNatClampNeg = j * 3 + i := by rw [e2]; exact nI_clamp (by omega)
          have hfi := hf j i hrj (by omega)
          refine hC _ _ _ _ _ _ ?_
          refine ⟨h1, And.intro (fun c2 => absurd (show R.2.2.2.2.1 (nI j).toNatClampNeg ≤ nI i from c2) (by rw [h2, h3]; exact nI_ge (by omega) (by omega))) (fun c2 => ⟨hv2, And.intro (fun c3 => ?_) (fun c3 => ⟨h1, ?_⟩)⟩)⟩
          · have c3 : ¬ S.2.2.2.1 (nI j * 3 + nI i).toNatClampNeg &&& s = 0 := c3
            rw [hc2, hfi] at c3
            have h9 := ih2 (i + 1) g (by omega) hg (by rw [allF_snoc, decide_eq_true c3, Bool.and_true]; exact hq)
            rw [← nI_1] at h9
            exact h9
          · have c3 : S.2.2.2.1 (nI j * 3 + nI i).toNatClampNeg &&& s = 0 := c3
            rw [hc2, hfi] at c3
            have h9 := ih2 (i + 1) (upd g j 0) (by omega) (fun r hr => by rw [pk_un (by omega)]; exact hg r hr) (by rw [allF_snoc, decide_eq_false (fun z => z c3), Bool.and_false]; exact pk_us)
            rw [← nI_1] at h9
            have e1 : upd g j 0 = upd g (nI j).toNatClampNeg 0 := by rw [h2]
            rw [e1] at h9
            exact h9
      have h9 := inner (rpN R j) 0 (upd g j 1) (by omega) (fun r hr => by rw [pk_un (by omega)]; exact hg r hr) pk_us
      have e1 : upd g j 1 = upd g (nI j).toNatClampNeg 1 := by rw [h2]
      rw [e1] at h9
      exact h9
  exact hC _ _ _ _ _ _ (outer R.2.2.2.2.2.2.2 0 S.2.2.2.2.1 (by omega) (fun r hr => absurd hr (Nat.not_lt_zero r)))
def buyT (coin : Nat → Int32) (c : Nat) (s : Int32 × Int32) (i : Nat) : Bool := decide (cstF coin (nI i) c < s.1) || (decide (cstF coin (nI i) c = s.1) && decide (bcI (nI i) < bcI s.2))
def buyOne (coin : Nat → Int32) (c : Nat) (car : Int32 → Bool) (s : Int32 × Int32) (i : Nat) : Int32 × Int32 := if buyT coin c s i && car (nI i) then (cstF coin (nI i) c, nI i) else s
def buyF (coin : Nat → Int32) (c : Nat) (car : Int32 → Bool) : Int32 × Int32 := foldF (buyOne coin c car) 0 (2 ^ c) (1000000, -1)
theorem shl9 : ∀ c : Fin 10, (1 : Int32) <<< (nI c.val &&& 31) = nI (2 ^ c.val) := by decide
def tX5_buy : List q_I := [(0, .aload_n 0, 1, 0, 0), (1, .aload_n 1, 1, 0, 0), (2, .iload 4, 2, 0, 0), (4, .invokevirtual 37, 3, 0, 0), (7, .ldc 41, 2, 0, 0), (9, .istore 5, 2, 0, 0), (11, .iconst (-1), 1, (-1), 0), (12, .istore 6, 2, 0, 0), (14, .iconst 0, 1, 0, 0), (15, .istore 7, 2, 0, 0), (17, .iload 7, 2, 0, 0), (19, .iconst 1, 1, 1, 0), (20, .aload_n 0, 1, 0, 0), (21, .getfield 34, 3, 0, 0), (24, .ishl, 1, 0, 0), (25, .if_icmp .ge 76, 3, 0, 101), (28, .aload_n 0, 1, 0, 0), (29, .iload 7, 2, 0, 0), (31, .invokevirtual 42, 3, 0, 0), (34, .istore 8, 2, 0, 0), (36, .iload 8, 2, 0, 0), (38, .iload 5, 2, 0, 0), (40, .if_icmp .lt 23, 3, 0, 63), (43, .iload 8, 2, 0, 0), (45, .iload 5, 2, 0, 0), (47, .if_icmp .ne 20, 3, 0, 67), (50, .iload 7, 2, 0, 0), (52, .invokestatic 46, 3, 0, 0), (55, .iload 6, 2, 0, 0), (57, .invokestatic 46, 3, 0, 0), (60, .if_icmp .ge 7, 3, 0, 67), (63, .iconst 1, 1, 1, 0), (64, .goto 4, 3, 0, 68), (67, .iconst 0, 1, 0, 0), (68, .istore 9, 2, 0, 0), (70, .iload 9, 2, 0, 0), (72, .ifCond .eq 23, 3, 0, 95), (75, .aload_n 0, 1, 0, 0), (76, .aload_n 1, 1, 0, 0), (77, .iload 7, 2, 0, 0), (79, .iload_n 2, 1, 0, 0), (80, .iload_n 3, 1, 0, 0), (81, .invokevirtual 51, 3, 0, 0), (84, .ifCond .eq 11, 3, 0, 95), (87, .iload 8, 2, 0, 0), (89, .istore 5, 2, 0, 0), (91, .iload 7, 2, 0, 0), (93, .istore 6, 2, 0, 0), (95, .iinc 7 1, 3, 1, 0), (98, .goto (-81), 3, 0, 17), (101, .iload 5, 2, 0, 0), (103, .ldc 41, 2, 0, 0), (105, .if_icmp .eq 9, 3, 0, 114), (108, .aload_n 0, 1, 0, 0), (109, .iload 6, 2, 0, 0), (111, .putfield 30, 3, 0, 0), (114, .iload 5, 2, 0, 0), (116, .ireturn, 1, 0, 0)]
theorem tX5_buy_ok : (tX5_buy.all (q_okI cX5_buy)) = true := by decide +kernel

abbrev fdX5_buy : List (Nat ⊕ (Nat × Nat)) := [.inl 0, .inr (0, 0), .inr (0, 1), .inr (0, 2), .inr (0, 3), .inr (0, 4), .inl 1, .inr (6, 0), .inr (6, 5), .inr (8, 0), .inr (8, 1), .inr (8, 2), .inr (8, 3), .inr (8, 4), .inr (8, 5), .inr (8, 6), .inr (6, 6), .inr (16, 0), .inr (16, 1), .inr (16, 2), .inr (16, 3), .inr (16, 4), .inr (16, 5), .inr (16, 6)]
def spX5_buy : q_P := fun a w K => ∃ (S : ST) (R : RT) (L : LT) (T : Nat → Int32) (m : Int32) (n : Nat) (x y d : Int32), w = ldW S R L T m ∧ a = [.ref 0, .ref 6, .int x, .int y, .int d] ∧ rOk R ∧ L_n L ≤ 24 ∧ S.2.2.2.2.2.1 ≤ 9 ∧ T 0 = nI n ∧ n ≤ 8 ∧ ∀ g1 g2, K (.inl (some (.int (buyF S.2.2.1 S.2.2.2.2.2.1 (fun s => carB R (fun k => fitF S L R d k S.2.2.2.2.2.1) n s x y)).1))) (ldW (sBgt (sOpn (sFit S g1) g2) (if (buyF S.2.2.1 S.2.2.2.2.2.1 (fun s => carB R (fun k => fitF S L R d k S.2.2.2.2.2.1) n s x y)).1 = 1000000 then S.2.2.2.2.2.2 else (buyF S.2.2.1 S.2.2.2.2.2.1 (fun s => carB R (fun k => fitF S L R d k S.2.2.2.2.2.1) n s x y)).2)) R L T m)
abbrev csX5_buy : q_S := (5, 5, 3, 10, 0, 0, fdX5_buy, spX5_buy)
theorem coX5_37 (l : Launch) : q_CO l RX5 37 csX5_findFitting := ⟨yX5_findFitting, cX5_findFitting, none, 2, ⟨by decide +kernel, by decide +kernel, by decide +kernel⟩, q_G_i 13 (by decide +kernel) rfl, Or.inl ⟨by decide, rfl, rfl, q_G_i 987 (by decide +kernel) rfl, q_G_i 989 (by decide +kernel) rfl, q_G_s (n := 7) 37 (by decide +kernel), Or.inl ⟨q_G_i 990 (by decide +kernel) rfl, ctX5_findFitting l⟩⟩⟩
theorem coX5_42 (l : Launch) : q_CO l RX5 42 csX5_costOf := ⟨yX5_costOf, cX5_costOf, (some .int), 1, ⟨by decide +kernel, by decide +kernel, by decide +kernel⟩, q_G_i 13 (by decide +kernel) rfl, Or.inl ⟨by decide, rfl, rfl, q_G_i 993 (by decide +kernel) rfl, q_G_i 995 (by decide +kernel) rfl, q_G_s (n := 7) 38 (by decide +kernel), Or.inl ⟨q_G_i 996 (by decide +kernel) rfl, ctX5_costOf l⟩⟩⟩
theorem coX5_46 (l : Launch) : q_CO l RX5 46 csJ6_bitCount_0f7a4 := ⟨yJ6_bitCount_0f7a4, cJ6_bitCount_0f7a4, (some .int), 1, ⟨by decide +kernel, by decide +kernel, by decide +kernel⟩, q_G_i 24 (by decide +kernel) rfl, Or.inr (Or.inr (Or.inr ⟨rfl, rfl, q_G_i 997 (by decide +kernel) rfl, q_G_i 958 (by decide +kernel) rfl, Or.inl ⟨q_G_i 959 (by decide +kernel) rfl, ctJ6_bitCount_0f7a4 l⟩⟩))⟩
theorem coX5_51 (l : Launch) : q_CO l RX5 51 csX5_carries := ⟨yX5_carries, cX5_carries, (some .boolean), 4, ⟨by decide +kernel, by decide +kernel, by decide +kernel⟩, q_G_i 13 (by decide +kernel) rfl, Or.inl ⟨by decide, rfl, rfl, q_G_i 998 (by decide +kernel) rfl, q_G_i 1000 (by decide +kernel) rfl, q_G_s (n := 7) 39 (by decide +kernel), Or.inl ⟨q_G_i 1001 (by decide +kernel) rfl, ctX5_carries l⟩⟩⟩
def EX5_buy : q_E := (tX5_buy, [(17, [0, 1, 2, 3, 5, 6, 7])], 10, flX5, [(37, csX5_findFitting), (42, csX5_costOf), (46, csJ6_bitCount_0f7a4), (51, csX5_carries)], [], [(41, 1000000)], [], [], [], 3, 0, 0, (some .int), [], [], 0, 0)
theorem okX5_buy (l : Launch) : q_Eok l RX5 cX5_buy EX5_buy := ⟨tX5_buy_ok, flX5_ok, List.forall_mem_cons.mpr ⟨(coX5_37 l), List.forall_mem_cons.mpr ⟨(coX5_42 l), List.forall_mem_cons.mpr ⟨(coX5_46 l), List.forall_mem_cons.mpr ⟨(coX5_51 l), q_nil⟩⟩⟩⟩, q_nil, List.forall_mem_cons.mpr ⟨q_G_i 992 (by decide +kernel) rfl, q_nil⟩, q_nil, q_nil, q_nil, (fun h => absurd h (by decide))⟩
set_option maxRecDepth 100000 in
set_option maxHeartbeats 4000000 in
theorem ctX5_buy (l : Launch) : q_CT l yX5_buy (.code yX5_buy cX5_buy 10 (some .int)) 3 0 0 spX5_buy := by
  refine q_ct_of EX5_buy (by decide +kernel) (okX5_buy l) rfl rfl rfl rfl rfl q_nil (fun ci h => by cases h) rfl ?_
  intro a w K h
  obtain ⟨S, R, L, T, m, n, x, y, d, rfl, rfl, hro, hL, hS, hT, hn, hK⟩ := h
  have hrn := hro.1
  refine ⟨Nat.le_of_ble_eq_true rfl, fun C hC => hC _ _ _ _ _ _ ?_⟩
  refine ⟨S, R, L, T, m, d, rfl, rfl, hro, hL, hS, fun g1 hg1 => ?_⟩
  have h2c : (1 : Int32) <<< (nI S.2.2.2.2.2.1 &&& 31) = nI (2 ^ S.2.2.2.2.2.1) := shl9 ⟨S.2.2.2.2.2.1, by omega⟩
  have h29 : 2 ^ S.2.2.2.2.2.1 ≤ 512 := Nat.pow_le_pow_right (n := 2) (by decide) hS
  generalize hcr : (fun s => carB R (fun k => fitF S L R d k S.2.2.2.2.2.1) n s x y) = car at hK
  have hca : ∀ s, carB R (fun k => fitF S L R d k S.2.2.2.2.2.1) n s x y = car s := fun s => by rw [← hcr]
  have loop : ∀ k i s g2, i + k = 2 ^ S.2.2.2.2.2.1 → buyF S.2.2.1 S.2.2.2.2.2.1 car = foldF (buyOne S.2.2.1 S.2.2.2.2.2.1 car) i k s → C 17 [(0, .ref 0), (1, .ref 6), (2, .int x), (3, .int y), (5, .int s.1), (6, .int s.2), (7, .int (nI i))] [] (ldW (sOpn (sFit S g1) g2) R L T m) 0 0 := by
    intro k
    induction k with
    | zero =>
      intro i s g2 hi he
      have h9 := hK g1 g2
      rw [he, foldF] at h9
      refine hC _ _ _ _ _ _ ?_
      refine And.intro (fun c1 => And.intro (fun c2 => ?_) (fun c2 => ?_)) (fun c1 => absurd (by show (1 : Int32) <<< (nI S.2.2.2.2.2.1 &&& 31) ≤ nI i; rw [h2c]; exact nI_le (by omega) (by omega)) c1)
      · have c2 : s.1 = 1000000 := c2
        rw [if_pos c2] at h9; exact h9
      · have c2 : ¬ s.1 = 1000000 := c2
        rw [if_neg c2] at h9; exact h9
    | succ k ih =>
      intro i s g2 hi he
      rw [foldF] at he
      have no : ∀ g2, buyOne S.2.2.1 S.2.2.2.2.2.1 car s i = s → C 17 [(0, .ref 0), (1, .ref 6), (2, .int x), (3, .int y), (5, .int s.1), (6, .int s.2), (7, .int (nI i + 1))] [] (ldW (sOpn (sFit S g1) g2) R L T m) 0 0 := by
        intro g2 e
        have h9 := ih (i + 1) s g2 (by omega) (by rw [he, e])
        rw [← nI_1 i] at h9
        exact h9
      have yes : ∀ g2, buyOne S.2.2.1 S.2.2.2.2.2.1 car s i = (cstF S.2.2.1 (nI i) S.2.2.2.2.2.1, nI i) → C 17 [(0, .ref 0), (1, .ref 6), (2, .int x), (3, .int y), (5, .int (cstF S.2.2.1 (nI i) S.2.2.2.2.2.1)), (6, .int (nI i)), (7, .int (nI i + 1))] [] (ldW (sOpn (sFit S g1) g2) R L T m) 0 0 := by
        intro g2 e
        have h9 := ih (i + 1) _ g2 (by omega) (by rw [he, e])
        rw [← nI_1 i] at h9
        exact h9
      refine hC _ _ _ _ _ _ ?_
      refine And.intro (fun c1 => absurd (show (1 : Int32) <<< (nI S.2.2.2.2.2.1 &&& 31) ≤ nI i from c1) (by rw [h2c]; exact nI_ge (by omega) (by omega))) (fun c1 => ?_)
      refine ⟨sOpn (sFit S g1) g2, _, rfl, rfl, hS, And.intro (fun c2 => ?_) (fun c2 => And.intro (fun c3 => ?_) (fun c3 => ?_))⟩
      · have c2 : cstF S.2.2.1 (nI i) S.2.2.2.2.2.1 < s.1 := c2
        have ht : buyT S.2.2.1 S.2.2.2.2.2.1 s i = true := by rw [buyT, decide_eq_true c2, Bool.true_or]
        refine And.intro (fun c => absurd c (by decide)) (fun _ => ?_)
        refine ⟨sOpn (sFit S g1) g2, R, L, T, m, fun k => fitF S L R d k S.2.2.2.2.2.1, n, _, _, _, rfl, rfl, hro, hT, hn, hg1, fun g => ?_⟩
        rw [hca]
        refine And.intro (fun c4 => no _ ?_) (fun c4 => yes _ ?_)
        · rw [buyOne, bI_0.mp c4, Bool.and_false]; rfl
        · rw [buyOne, ht, bI_n0.mp c4]; rfl
      · have c2 : ¬ cstF S.2.2.1 (nI i) S.2.2.2.2.2.1 < s.1 := c2
        have c3 : ¬ cstF S.2.2.1 (nI i) S.2.2.2.2.2.1 = s.1 := c3
        have ht : buyT S.2.2.1 S.2.2.2.2.2.1 s i = false := by rw [buyT, decide_eq_false c2, decide_eq_false c3]; rfl
        refine And.intro (fun _ => no _ ?_) (fun c => absurd rfl c)
        rw [buyOne, ht, Bool.false_and]; rfl
      · have c2 : ¬ cstF S.2.2.1 (nI i) S.2.2.2.2.2.1 < s.1 := c2
        have c3 : cstF S.2.2.1 (nI i) S.2.2.2.2.2.1 = s.1 := c3
        refine ⟨_, rfl, rfl, _, rfl, rfl, And.intro (fun c4 => ?_) (fun c4 => ?_)⟩
        · have c4 : bcI s.2 ≤ bcI (nI i) := c4
          have ht : buyT S.2.2.1 S.2.2.2.2.2.1 s i = false := by rw [buyT, decide_eq_false c2, decide_eq_false (Int32.not_lt.mpr c4), Bool.and_false]; rfl
          refine And.intro (fun _ => no _ ?_) (fun c => absurd rfl c)
          rw [buyOne, ht, Bool.false_and]; rfl
        · have c4 : ¬ bcI s.2 ≤ bcI (nI i) := c4
          have ht : buyT S.2.2.1 S.2.2.2.2.2.1 s i = true := by rw [buyT, decide_eq_true c3, decide_eq_true (Int32.not_le.mp c4), Bool.and_self, Bool.or_true]
          refine And.intro (fun c => absurd c (by decide)) (fun _ => ?_)
          refine ⟨sOpn (sFit S g1) g2, R, L, T, m, fun k => fitF S L R d k S.2.2.2.2.2.1, n, _, _, _, rfl, rfl, hro, hT, hn, hg1, fun g => ?_⟩
          rw [hca]
          refine And.intro (fun c5 => no _ ?_) (fun c5 => yes _ ?_)
          · rw [buyOne, bI_0.mp c5, Bool.and_false]; rfl
          · rw [buyOne, ht, bI_n0.mp c5]; rfl
  exact loop (2 ^ S.2.2.2.2.2.1) 0 (1000000, -1) S.2.2.2.2.1 (by omega) rfl
end
section
def gcN (G : GT) (g : Nat) : Nat := (G.2.2.2.1 g).toNatClampNeg
def gOk (G : GT) : Prop := G.2.2.2.2.2.2.2.2 ≤ 12 ∧ ∀ g, g < G.2.2.2.2.2.2.2.2 → G.2.2.2.1 g = nI (gcN G g) ∧ gcN G g ≤ 3
theorem gOk_ix {G : GT} (h : gOk G) {g : Nat} (hg : g < G.2.2.2.2.2.2.2.2) : vp_in (nI g) 12 ∧ (nI g).toNatClampNeg = g ∧ G.2.2.2.1 g = nI (gcN G g) ∧ gcN G g ≤ 3 ∧ g < 12 := by
  obtain ⟨h1, h2⟩ := h
  obtain ⟨h3, h4⟩ := h2 g hg
  exact ⟨vp_in_nI (by omega) (by omega), nI_clamp (by omega), h3, h4, by omega⟩

def tX2_hasRoom : List q_I := [(0, .aload_n 0, 1, 0, 0), (1, .getfield 37, 3, 0, 0), (4, .bipush 12, 2, 12, 0), (6, .if_icmp .ge 7, 3, 0, 13), (9, .iconst 1, 1, 1, 0), (10, .goto 4, 3, 0, 14), (13, .iconst 0, 1, 0, 0), (14, .ireturn, 1, 0, 0)]
theorem tX2_hasRoom_ok : (tX2_hasRoom.all (q_okI cX2_hasRoom)) = true := by decide +kernel

abbrev fdX2_hasRoom : List (Nat ⊕ (Nat × Nat)) := [.inl 0, .inr (0, 0), .inr (0, 1), .inr (0, 2), .inr (0, 3), .inr (0, 4), .inr (0, 5), .inr (0, 6), .inr (0, 7)]
def spX2_hasRoom : q_P := fun a w K => ∃ G : GT, w = giftsW 0 G ∧ a = [.ref 0] ∧ G.2.2.2.2.2.2.2.2 ≤ 12 ∧ K (.inl (some (.int (bI (decide (G.2.2.2.2.2.2.2.2 < 12)))))) (giftsW 0 G)
abbrev csX2_hasRoom : q_S := (1, 2, 0, 1, 0, 0, fdX2_hasRoom, spX2_hasRoom)
def EX2_hasRoom : q_E := (tX2_hasRoom, [], 1, flX2, [], [], [], [], [], [], 0, 0, 0, (some .boolean), [], [], 0, 0)
theorem okX2_hasRoom (l : Launch) : q_Eok l RX2 cX2_hasRoom EX2_hasRoom := ⟨tX2_hasRoom_ok, flX2_ok, q_nil, q_nil, q_nil, q_nil, q_nil, q_nil, (fun h => absurd h (by decide))⟩
set_option maxRecDepth 100000 in
set_option maxHeartbeats 4000000 in
theorem ctX2_hasRoom (l : Launch) : q_CT l yX2_hasRoom (.code yX2_hasRoom cX2_hasRoom 1 (some .boolean)) 0 0 0 spX2_hasRoom := by
  refine q_ct_of EX2_hasRoom (by decide +kernel) (okX2_hasRoom l) rfl rfl rfl rfl rfl q_nil (fun ci h => by cases h) rfl ?_
  intro a w K h
  obtain ⟨G, rfl, rfl, hn, hK⟩ := h
  refine ⟨Nat.le_of_ble_eq_true rfl, fun C hC => hC _ _ _ _ _ _ ?_⟩
  refine And.intro (fun c => ⟨rfl, ?_⟩) (fun c => ⟨rfl, ?_⟩)
  · rw [bI_f (fun z => nI_ge (a := G.2.2.2.2.2.2.2.2) (b := 12) z (by omega) c)] at hK; exact hK
  · rw [bI_t (by rcases Nat.lt_or_ge G.2.2.2.2.2.2.2.2 12 with z | z; exact z; exact absurd (nI_le (b := G.2.2.2.2.2.2.2.2) z (by omega)) c)] at hK; exact hK
def giftAdd (G : GT) (k o f : Int32) : GT := (upd G.1 G.2.2.2.2.2.2.2.2 k, upd G.2.1 G.2.2.2.2.2.2.2.2 o, upd G.2.2.1 G.2.2.2.2.2.2.2.2 f, upd G.2.2.2.1 G.2.2.2.2.2.2.2.2 0, G.2.2.2.2.1, G.2.2.2.2.2.1, G.2.2.2.2.2.2.1, G.2.2.2.2.2.2.2.1, G.2.2.2.2.2.2.2.2 + 1)
def giftCase (G : GT) (g : Nat) (s x o : Int32) : GT := (G.1, G.2.1, G.2.2.1, upd G.2.2.2.1 g (nI (gcN G g + 1)), upd G.2.2.2.2.1 (g * 3 + gcN G g) s, upd G.2.2.2.2.2.1 (g * 3 + gcN G g) x, upd G.2.2.2.2.2.2.1 (g * 3 + gcN G g) o, G.2.2.2.2.2.2.2.1, G.2.2.2.2.2.2.2.2)
def tX2_add : List q_I := [(0, .aload_n 0, 1, 0, 0), (1, .getfield 11, 3, 0, 0), (4, .aload_n 0, 1, 0, 0), (5, .getfield 37, 3, 0, 0), (8, .iload_n 1, 1, 0, 0), (9, .iastore, 1, 0, 0), (10, .aload_n 0, 1, 0, 0), (11, .getfield 15, 3, 0, 0), (14, .aload_n 0, 1, 0, 0), (15, .getfield 37, 3, 0, 0), (18, .iload_n 2, 1, 0, 0), (19, .iastore, 1, 0, 0), (20, .aload_n 0, 1, 0, 0), (21, .getfield 18, 3, 0, 0), (24, .aload_n 0, 1, 0, 0), (25, .getfield 37, 3, 0, 0), (28, .iload_n 3, 1, 0, 0), (29, .iastore, 1, 0, 0), (30, .aload_n 0, 1, 0, 0), (31, .getfield 21, 3, 0, 0), (34, .aload_n 0, 1, 0, 0), (35, .getfield 37, 3, 0, 0), (38, .iconst 0, 1, 0, 0), (39, .iastore, 1, 0, 0), (40, .aload_n 0, 1, 0, 0), (41, .dup, 1, 0, 0), (42, .getfield 37, 3, 0, 0), (45, .iconst 1, 1, 1, 0), (46, .iadd, 1, 0, 0), (47, .putfield 37, 3, 0, 0), (50, .return_, 1, 0, 0)]
theorem tX2_add_ok : (tX2_add.all (q_okI cX2_add)) = true := by decide +kernel

abbrev fdX2_add : List (Nat ⊕ (Nat × Nat)) := [.inl 0, .inr (0, 0), .inr (0, 1), .inr (0, 2), .inr (0, 3), .inr (0, 4), .inr (0, 5), .inr (0, 6), .inr (0, 7)]
def spX2_add : q_P := fun a w K => ∃ (G : GT) (k o f : Int32), w = giftsW 0 G ∧ a = [.ref 0, .int k, .int o, .int f] ∧ G.2.2.2.2.2.2.2.2 < 12 ∧ K (.inl none) (giftsW 0 (giftAdd G k o f))
abbrev csX2_add : q_S := (4, 2, 0, 4, 0, 0, fdX2_add, spX2_add)
def EX2_add : q_E := (tX2_add, [], 4, flX2, [], [], [], [], [], [], 0, 0, 0, none, [], [], 0, 0)
theorem okX2_add (l : Launch) : q_Eok l RX2 cX2_add EX2_add := ⟨tX2_add_ok, flX2_ok, q_nil, q_nil, q_nil, q_nil, q_nil, q_nil, (fun h => absurd h (by decide))⟩
set_option maxRecDepth 100000 in
set_option maxHeartbeats 4000000 in
theorem ctX2_add (l : Launch) : q_CT l yX2_add (.code yX2_add cX2_add 4 none) 0 0 0 spX2_add := by
  refine q_ct_of EX2_add (by decide +kernel) (okX2_add l) rfl rfl rfl rfl rfl q_nil (fun ci h => by cases h) rfl ?_
  intro a w K h
  obtain ⟨G, k, o, f, rfl, rfl, hn, hK⟩ := h
  refine ⟨Nat.le_of_ble_eq_true rfl, fun C hC => hC _ _ _ _ _ _ ?_⟩
  have hv : vp_in (nI G.2.2.2.2.2.2.2.2) 12 := vp_in_nI hn (by omega)
  have hc : (nI G.2.2.2.2.2.2.2.2).toNatClampNeg = G.2.2.2.2.2.2.2.2 := nI_clamp (by omega)
  refine ⟨hv, hv, hv, hv, ?_⟩
  show K (.inl none) _
  simp only [hc, nI_1]
  exact hK
def tX2_lastHasCaseRoom : List q_I := [(0, .aload_n 0, 1, 0, 0), (1, .getfield 37, 3, 0, 0), (4, .ifCond .le 22, 3, 0, 26), (7, .aload_n 0, 1, 0, 0), (8, .getfield 21, 3, 0, 0), (11, .aload_n 0, 1, 0, 0), (12, .getfield 37, 3, 0, 0), (15, .iconst 1, 1, 1, 0), (16, .isub, 1, 0, 0), (17, .iaload, 1, 0, 0), (18, .iconst 3, 1, 3, 0), (19, .if_icmp .ge 7, 3, 0, 26), (22, .iconst 1, 1, 1, 0), (23, .goto 4, 3, 0, 27), (26, .iconst 0, 1, 0, 0), (27, .ireturn, 1, 0, 0)]
theorem tX2_lastHasCaseRoom_ok : (tX2_lastHasCaseRoom.all (q_okI cX2_lastHasCaseRoom)) = true := by decide +kernel

abbrev fdX2_lastHasCaseRoom : List (Nat ⊕ (Nat × Nat)) := [.inl 0, .inr (0, 0), .inr (0, 1), .inr (0, 2), .inr (0, 3), .inr (0, 4), .inr (0, 5), .inr (0, 6), .inr (0, 7)]
def spX2_lastHasCaseRoom : q_P := fun a w K => ∃ (G : GT) (g : Nat), w = giftsW 0 G ∧ a = [.ref 0] ∧ gOk G ∧ G.2.2.2.2.2.2.2.2 = g + 1 ∧ K (.inl (some (.int (bI (decide (gcN G g < 3)))))) (giftsW 0 G)
abbrev csX2_lastHasCaseRoom : q_S := (1, 2, 0, 1, 0, 0, fdX2_lastHasCaseRoom, spX2_lastHasCaseRoom)
def EX2_lastHasCaseRoom : q_E := (tX2_lastHasCaseRoom, [], 1, flX2, [], [], [], [], [], [], 0, 0, 0, (some .boolean), [], [], 0, 0)
theorem okX2_lastHasCaseRoom (l : Launch) : q_Eok l RX2 cX2_lastHasCaseRoom EX2_lastHasCaseRoom := ⟨tX2_lastHasCaseRoom_ok, flX2_ok, q_nil, q_nil, q_nil, q_nil, q_nil, q_nil, (fun h => absurd h (by decide))⟩
set_option maxRecDepth 100000 in
set_option maxHeartbeats 4000000 in
theorem ctX2_lastHasCaseRoom (l : Launch) : q_CT l yX2_lastHasCaseRoom (.code yX2_lastHasCaseRoom cX2_lastHasCaseRoom 1 (some .boolean)) 0 0 0 spX2_lastHasCaseRoom := by
  refine q_ct_of EX2_lastHasCaseRoom (by decide +kernel) (okX2_lastHasCaseRoom l) rfl rfl rfl rfl rfl q_nil (fun ci h => by cases h) rfl ?_
  intro a w K h
  obtain ⟨G, g, rfl, rfl, ho, hr, hK⟩ := h
  obtain ⟨h3, h4⟩ := ho.2 g (by omega)
  have h16 := ho.1
  refine ⟨Nat.le_of_ble_eq_true rfl, fun C hC => hC _ _ _ _ _ _ ?_⟩
  have e1 : nI G.2.2.2.2.2.2.2.2 - 1 = nI g := by rw [hr, nI_pred]
  refine And.intro (fun c => absurd c (nI_nle (by omega) (by omega))) (fun c => ⟨by rw [e1]; exact vp_in_nI (by omega) (by omega), ?_⟩)
  have hc : (nI G.2.2.2.2.2.2.2.2 - 1).toNatClampNeg = g := by rw [e1]; exact nI_clamp (by omega)
  refine And.intro (fun c => ⟨rfl, ?_⟩) (fun c => ⟨rfl, ?_⟩)
  · have c : (3 : Int32) ≤ G.2.2.2.1 (nI G.2.2.2.2.2.2.2.2 - 1).toNatClampNeg := c
    rw [hc, h3] at c
    rw [bI_f (fun z => nI_ge (b := 3) z (by omega) c)] at hK; exact hK
  · have c : ¬ (3 : Int32) ≤ G.2.2.2.1 (nI G.2.2.2.2.2.2.2.2 - 1).toNatClampNeg := c
    rw [hc, h3] at c
    rw [bI_t (lt_of_nI (b := 3) (by omega) (by omega) c)] at hK; exact hK
def tX2_addCaseToLast : List q_I := [(0, .aload_n 0, 1, 0, 0), (1, .getfield 37, 3, 0, 0), (4, .iconst 1, 1, 1, 0), (5, .isub, 1, 0, 0), (6, .istore 4, 2, 0, 0), (8, .iload 4, 2, 0, 0), (10, .iconst 3, 1, 3, 0), (11, .imul, 1, 0, 0), (12, .aload_n 0, 1, 0, 0), (13, .getfield 21, 3, 0, 0), (16, .iload 4, 2, 0, 0), (18, .iaload, 1, 0, 0), (19, .iadd, 1, 0, 0), (20, .istore 5, 2, 0, 0), (22, .aload_n 0, 1, 0, 0), (23, .getfield 24, 3, 0, 0), (26, .iload 5, 2, 0, 0), (28, .iload_n 1, 1, 0, 0), (29, .iastore, 1, 0, 0), (30, .aload_n 0, 1, 0, 0), (31, .getfield 27, 3, 0, 0), (34, .iload 5, 2, 0, 0), (36, .iload_n 2, 1, 0, 0), (37, .iastore, 1, 0, 0), (38, .aload_n 0, 1, 0, 0), (39, .getfield 30, 3, 0, 0), (42, .iload 5, 2, 0, 0), (44, .iload_n 3, 1, 0, 0), (45, .iastore, 1, 0, 0), (46, .aload_n 0, 1, 0, 0), (47, .getfield 21, 3, 0, 0), (50, .iload 4, 2, 0, 0), (52, .dup2, 1, 0, 0), (53, .iaload, 1, 0, 0), (54, .iconst 1, 1, 1, 0), (55, .iadd, 1, 0, 0), (56, .iastore, 1, 0, 0), (57, .return_, 1, 0, 0)]
theorem tX2_addCaseToLast_ok : (tX2_addCaseToLast.all (q_okI cX2_addCaseToLast)) = true := by decide +kernel

abbrev fdX2_addCaseToLast : List (Nat ⊕ (Nat × Nat)) := [.inl 0, .inr (0, 0), .inr (0, 1), .inr (0, 2), .inr (0, 3), .inr (0, 4), .inr (0, 5), .inr (0, 6), .inr (0, 7)]
def spX2_addCaseToLast : q_P := fun a w K => ∃ (G : GT) (g : Nat) (s x o : Int32), w = giftsW 0 G ∧ a = [.ref 0, .int s, .int x, .int o] ∧ gOk G ∧ G.2.2.2.2.2.2.2.2 = g + 1 ∧ gcN G g < 3 ∧ K (.inl none) (giftsW 0 (giftCase G g s x o))
abbrev csX2_addCaseToLast : q_S := (4, 2, 0, 6, 0, 0, fdX2_addCaseToLast, spX2_addCaseToLast)
def EX2_addCaseToLast : q_E := (tX2_addCaseToLast, [], 6, flX2, [], [], [], [], [], [], 0, 0, 0, none, [], [], 0, 0)
theorem okX2_addCaseToLast (l : Launch) : q_Eok l RX2 cX2_addCaseToLast EX2_addCaseToLast := ⟨tX2_addCaseToLast_ok, flX2_ok, q_nil, q_nil, q_nil, q_nil, q_nil, q_nil, (fun h => absurd h (by decide))⟩
set_option maxRecDepth 100000 in
set_option maxHeartbeats 4000000 in
theorem ctX2_addCaseToLast (l : Launch) : q_CT l yX2_addCaseToLast (.code yX2_addCaseToLast cX2_addCaseToLast 6 none) 0 0 0 spX2_addCaseToLast := by
  refine q_ct_of EX2_addCaseToLast (by decide +kernel) (okX2_addCaseToLast l) rfl rfl rfl rfl rfl q_nil (fun ci h => by cases h) rfl ?_
  intro a w K h
  obtain ⟨G, g, s, x, o, rfl, rfl, ho, hr, hlt, hK⟩ := h
  obtain ⟨h3, h4⟩ := ho.2 g (by omega)
  have h16 := ho.1
  refine ⟨Nat.le_of_ble_eq_true rfl, fun C hC => hC _ _ _ _ _ _ ?_⟩
  have e1 : nI G.2.2.2.2.2.2.2.2 - 1 = nI g := by rw [hr, nI_pred]
  have hc : (nI G.2.2.2.2.2.2.2.2 - 1).toNatClampNeg = g := by rw [e1]; exact nI_clamp (by omega)
  have hv : vp_in (nI G.2.2.2.2.2.2.2.2 - 1) 12 := by rw [e1]; exact vp_in_nI (by omega) (by omega)
  have e2 : (nI G.2.2.2.2.2.2.2.2 - 1) * 3 + G.2.2.2.1 (nI G.2.2.2.2.2.2.2.2 - 1).toNatClampNeg = nI (g * 3 + gcN G g) := by rw [hc, e1, h3, nI_mul3, nI_add]
  have hv2 : vp_in ((nI G.2.2.2.2.2.2.2.2 - 1) * 3 + G.2.2.2.1 (nI G.2.2.2.2.2.2.2.2 - 1).toNatClampNeg) 36 := by rw [e2]; exact vp_in_nI (by omega) (by omega)
  have hc2 : (nI (g * 3 + gcN G g)).toNatClampNeg = g * 3 + gcN G g := nI_clamp (by omega)
  refine ⟨hv, hv2, hv2, hv2, hv, hv, ?_⟩
  show K (.inl none) _
  simp only [e2]
  simp only [hc2, hc, h3, nI_1]
  exact hK
def casF (G : GT) (P : PT) (k c q : Nat) (b : Int32) : Int32 :=
  if G.2.2.2.2.1 k = 0 then (if P.1 c = G.2.2.2.2.2.1 k then b else 1000000)
  else if G.2.2.2.2.1 k = 1 then (if dayHd P q (G.2.2.2.2.2.1 k) (G.2.2.2.2.2.2.1 k) b = b then b else 1000000)
  else dayHd P c (G.2.2.2.2.2.1 k) (G.2.2.2.2.2.2.1 k) b
def tX2_caseDay : List q_I := [(0, .aload_n 0, 1, 0, 0), (1, .getfield 27, 3, 0, 0), (4, .iload_n 1, 1, 0, 0), (5, .iaload, 1, 0, 0), (6, .istore 6, 2, 0, 0), (8, .aload_n 0, 1, 0, 0), (9, .getfield 24, 3, 0, 0), (12, .iload_n 1, 1, 0, 0), (13, .iaload, 1, 0, 0), (14, .ifCond .ne 22, 3, 0, 36), (17, .aload_n 2, 1, 0, 0), (18, .getfield 69, 3, 0, 0), (21, .iload_n 3, 1, 0, 0), (22, .iaload, 1, 0, 0), (23, .iload 6, 2, 0, 0), (25, .if_icmp .ne 8, 3, 0, 33), (28, .iload 5, 2, 0, 0), (30, .goto 5, 3, 0, 35), (33, .ldc 47, 2, 0, 0), (35, .ireturn, 1, 0, 0), (36, .aload_n 0, 1, 0, 0), (37, .getfield 24, 3, 0, 0), (40, .iload_n 1, 1, 0, 0), (41, .iaload, 1, 0, 0), (42, .iconst 1, 1, 1, 0), (43, .if_icmp .ne 32, 3, 0, 75), (46, .aload_n 2, 1, 0, 0), (47, .iload 4, 2, 0, 0), (49, .iload 6, 2, 0, 0), (51, .aload_n 0, 1, 0, 0), (52, .getfield 30, 3, 0, 0), (55, .iload_n 1, 1, 0, 0), (56, .iaload, 1, 0, 0), (57, .iload 5, 2, 0, 0), (59, .invokevirtual 52, 3, 0, 0), (62, .iload 5, 2, 0, 0), (64, .if_icmp .ne 8, 3, 0, 72), (67, .iload 5, 2, 0, 0), (69, .goto 5, 3, 0, 74), (72, .ldc 47, 2, 0, 0), (74, .ireturn, 1, 0, 0), (75, .aload_n 2, 1, 0, 0), (76, .iload_n 3, 1, 0, 0), (77, .iload 6, 2, 0, 0), (79, .aload_n 0, 1, 0, 0), (80, .getfield 30, 3, 0, 0), (83, .iload_n 1, 1, 0, 0), (84, .iaload, 1, 0, 0), (85, .iload 5, 2, 0, 0), (87, .invokevirtual 52, 3, 0, 0), (90, .ireturn, 1, 0, 0)]
theorem tX2_caseDay_ok : (tX2_caseDay.all (q_okI cX2_caseDay)) = true := by decide +kernel

abbrev fdX2_caseDay : List (Nat ⊕ (Nat × Nat)) := [.inl 0, .inr (0, 0), .inr (0, 1), .inr (0, 2), .inr (0, 3), .inr (0, 4), .inr (0, 5), .inr (0, 6), .inr (0, 7), .inl 2, .inr (9, 0), .inr (9, 1), .inr (9, 2), .inr (9, 3), .inr (9, 4), .inr (9, 5)]
def spX2_caseDay : q_P := fun a w K => ∃ (G : GT) (P : PT) (k c q : Nat) (b : Int32), w = giftsW 0 G ++ peopleW 9 P ∧ a = [.ref 0, .int (nI k), .ref 9, .int (nI c), .int (nI q), .int b] ∧ k < 36 ∧ pOk P ∧ c < P.2.2.2.2.2.2 ∧ q < P.2.2.2.2.2.2 ∧ K (.inl (some (.int (casF G P k c q b)))) (giftsW 0 G ++ peopleW 9 P)
abbrev csX2_caseDay : q_S := (6, 2, 2, 7, 0, 0, fdX2_caseDay, spX2_caseDay)
theorem coX2_52 (l : Launch) : q_CO l RX2 52 csX6_dayHad := ⟨yX6_dayHad, cX6_dayHad, (some .int), 4, ⟨by decide +kernel, by decide +kernel, by decide +kernel⟩, q_G_i 11 (by decide +kernel) rfl, Or.inl ⟨by decide, rfl, rfl, q_G_i 1025 (by decide +kernel) rfl, q_G_i 1026 (by decide +kernel) rfl, q_G_i 1027 (by decide +kernel) rfl, Or.inl ⟨q_G_i 1028 (by decide +kernel) rfl, ctX6_dayHad l⟩⟩⟩
def EX2_caseDay : q_E := (tX2_caseDay, [], 7, flX2, [(52, csX6_dayHad)], [], [(47, 1000000)], [], [], [], 2, 0, 0, (some .int), [], [], 0, 0)
theorem okX2_caseDay (l : Launch) : q_Eok l RX2 cX2_caseDay EX2_caseDay := ⟨tX2_caseDay_ok, flX2_ok, List.forall_mem_cons.mpr ⟨(coX2_52 l), q_nil⟩, q_nil, List.forall_mem_cons.mpr ⟨q_G_i 1016 (by decide +kernel) rfl, q_nil⟩, q_nil, q_nil, q_nil, (fun h => absurd h (by decide))⟩
set_option maxRecDepth 100000 in
set_option maxHeartbeats 4000000 in
theorem ctX2_caseDay (l : Launch) : q_CT l yX2_caseDay (.code yX2_caseDay cX2_caseDay 7 (some .int)) 2 0 0 spX2_caseDay := by
  refine q_ct_of EX2_caseDay (by decide +kernel) (okX2_caseDay l) rfl rfl rfl rfl rfl q_nil (fun ci h => by cases h) rfl ?_
  intro a w K h
  obtain ⟨G, P, k, c, q, b, rfl, rfl, hk, ho, hc, hq, hK⟩ := h
  refine ⟨Nat.le_of_ble_eq_true rfl, fun C hC => hC _ _ _ _ _ _ ?_⟩
  obtain ⟨p1, p2, p3, p4, p5⟩ := pOk_ix ho hc
  have hv : vp_in (nI k) 36 := vp_in_nI hk (by omega)
  have hkc : (nI k).toNatClampNeg = k := nI_clamp (by omega)
  have hK : K (.inl (some (.int (casF G P (nI k).toNatClampNeg c q b)))) (giftsW 0 G ++ peopleW 9 P) := by rw [hkc]; exact hK
  refine ⟨hv, hv, And.intro (fun c1 => ?_) (fun c1 => ?_)⟩
  · rw [casF, if_neg c1] at hK
    refine ⟨hv, And.intro (fun c2 => ?_) (fun c2 => ?_)⟩
    · rw [if_neg c2] at hK
      exact ⟨hv, P, c, _, _, _, rfl, rfl, ho, hc, hK⟩
    · rw [if_pos c2] at hK
      refine ⟨hv, P, q, _, _, _, rfl, rfl, ho, hq, And.intro (fun c3 => ?_) (fun c3 => ?_)⟩
      · rw [if_neg c3] at hK; exact hK
      · rw [if_pos c3] at hK; exact hK
  · rw [casF, if_pos c1] at hK
    refine ⟨p1, And.intro (fun c2 => ?_) (fun c2 => ?_)⟩
    · have c2 : ¬ P.1 (nI c).toNatClampNeg = G.2.2.2.2.2.1 (nI k).toNatClampNeg := c2
      rw [p2] at c2
      rw [if_neg c2] at hK; exact hK
    · have c2 : P.1 (nI c).toNatClampNeg = G.2.2.2.2.2.1 (nI k).toNatClampNeg := c2
      rw [p2] at c2
      rw [if_pos c2] at hK; exact hK
def dueL (G : GT) (P : PT) (g c q : Nat) (b : Int32) : Nat → Nat → Int32 → Int32
  | 0, _, x => x + G.2.2.1 g
  | n + 1, i, x => if casF G P (g * 3 + i) c q b = 1000000 then 1000000 else dueL G P g c q b n (i + 1) (mxI x (casF G P (g * 3 + i) c q b))
def dueF (G : GT) (P : PT) (g c q : Nat) (b : Int32) : Int32 := dueL G P g c q b (gcN G g) 0 b
def tX2_dueDay : List q_I := [(0, .iload 5, 2, 0, 0), (2, .istore 6, 2, 0, 0), (4, .iconst 0, 1, 0, 0), (5, .istore 7, 2, 0, 0), (7, .iload 7, 2, 0, 0), (9, .aload_n 0, 1, 0, 0), (10, .getfield 21, 3, 0, 0), (13, .iload_n 1, 1, 0, 0), (14, .iaload, 1, 0, 0), (15, .if_icmp .ge 46, 3, 0, 61), (18, .aload_n 0, 1, 0, 0), (19, .iload_n 1, 1, 0, 0), (20, .iconst 3, 1, 3, 0), (21, .imul, 1, 0, 0), (22, .iload 7, 2, 0, 0), (24, .iadd, 1, 0, 0), (25, .aload_n 2, 1, 0, 0), (26, .iload_n 3, 1, 0, 0), (27, .iload 4, 2, 0, 0), (29, .iload 5, 2, 0, 0), (31, .invokevirtual 60, 3, 0, 0), (34, .istore 8, 2, 0, 0), (36, .iload 8, 2, 0, 0), (38, .ldc 47, 2, 0, 0), (40, .if_icmp .ne 6, 3, 0, 46), (43, .ldc 47, 2, 0, 0), (45, .ireturn, 1, 0, 0), (46, .iload 6, 2, 0, 0), (48, .iload 8, 2, 0, 0), (50, .invokestatic 63, 3, 0, 0), (53, .istore 6, 2, 0, 0), (55, .iinc 7 1, 3, 1, 0), (58, .goto (-51), 3, 0, 7), (61, .iload 6, 2, 0, 0), (63, .aload_n 0, 1, 0, 0), (64, .getfield 18, 3, 0, 0), (67, .iload_n 1, 1, 0, 0), (68, .iaload, 1, 0, 0), (69, .iadd, 1, 0, 0), (70, .ireturn, 1, 0, 0)]
theorem tX2_dueDay_ok : (tX2_dueDay.all (q_okI cX2_dueDay)) = true := by decide +kernel

abbrev fdX2_dueDay : List (Nat ⊕ (Nat × Nat)) := [.inl 0, .inr (0, 0), .inr (0, 1), .inr (0, 2), .inr (0, 3), .inr (0, 4), .inr (0, 5), .inr (0, 6), .inr (0, 7), .inl 2, .inr (9, 0), .inr (9, 1), .inr (9, 2), .inr (9, 3), .inr (9, 4), .inr (9, 5)]
def spX2_dueDay : q_P := fun a w K => ∃ (G : GT) (P : PT) (g c q : Nat) (b : Int32), w = giftsW 0 G ++ peopleW 9 P ∧ a = [.ref 0, .int (nI g), .ref 9, .int (nI c), .int (nI q), .int b] ∧ gOk G ∧ g < G.2.2.2.2.2.2.2.2 ∧ pOk P ∧ c < P.2.2.2.2.2.2 ∧ q < P.2.2.2.2.2.2 ∧ K (.inl (some (.int (dueF G P g c q b)))) (giftsW 0 G ++ peopleW 9 P)
abbrev csX2_dueDay : q_S := (6, 2, 3, 9, 0, 0, fdX2_dueDay, spX2_dueDay)
theorem coX2_60 (l : Launch) : q_CO l RX2 60 csX2_caseDay := ⟨yX2_caseDay, cX2_caseDay, (some .int), 5, ⟨by decide +kernel, by decide +kernel, by decide +kernel⟩, q_G_i 5 (by decide +kernel) rfl, Or.inl ⟨by decide, rfl, rfl, q_G_i 1021 (by decide +kernel) rfl, q_G_i 1023 (by decide +kernel) rfl, q_G_s (n := 9) 41 (by decide +kernel), Or.inl ⟨q_G_i 1024 (by decide +kernel) rfl, ctX2_caseDay l⟩⟩⟩
def EX2_dueDay : q_E := (tX2_dueDay, [(7, [0, 1, 2, 3, 4, 5, 6, 7])], 9, flX2, [(60, csX2_caseDay)], [], [(47, 1000000)], [], [], [(63, 1)], 3, 0, 0, (some .int), [], [], 0, 0)
theorem okX2_dueDay (l : Launch) : q_Eok l RX2 cX2_dueDay EX2_dueDay := ⟨tX2_dueDay_ok, flX2_ok, List.forall_mem_cons.mpr ⟨(coX2_60 l), q_nil⟩, q_nil, List.forall_mem_cons.mpr ⟨q_G_i 1016 (by decide +kernel) rfl, q_nil⟩, q_nil, List.forall_mem_cons.mpr ⟨Or.inr (Or.inl ⟨rfl, q_G_i 1033 (by decide +kernel) rfl⟩), q_nil⟩, q_nil, (fun h => absurd h (by decide))⟩
set_option maxRecDepth 100000 in
set_option maxHeartbeats 4000000 in
theorem ctX2_dueDay (l : Launch) : q_CT l yX2_dueDay (.code yX2_dueDay cX2_dueDay 9 (some .int)) 3 0 0 spX2_dueDay := by
  refine q_ct_of EX2_dueDay (by decide +kernel) (okX2_dueDay l) rfl rfl rfl rfl rfl q_nil (fun ci h => by cases h) rfl ?_
  intro a w K h
  obtain ⟨G, P, g, c, q, b, rfl, rfl, hgo, hg, ho, hc, hq, hK⟩ := h
  obtain ⟨h1, h2, h3, h4, h5⟩ := gOk_ix hgo hg
  refine ⟨Nat.le_of_ble_eq_true rfl, fun C hC => ?_⟩
  have loop : ∀ k i x, i + k = gcN G g → dueF G P g c q b = dueL G P g c q b k i x → C 7 [(0, .ref 0), (1, .int (nI g)), (2, .ref 9), (3, .int (nI c)), (4, .int (nI q)), (5, .int b), (6, .int x), (7, .int (nI i))] [] (giftsW 0 G ++ peopleW 9 P) 0 0 := by
    intro k
    induction k with
    | zero =>
      intro i x hi he
      refine hC _ _ _ _ _ _ ?_
      refine ⟨h1, And.intro (fun c1 => ⟨h1, ?_⟩) (fun c1 => absurd (by show G.2.2.2.1 (nI g).toNatClampNeg ≤ nI i; rw [h2, h3]; exact nI_le (by omega) (by omega)) c1)⟩
      rw [he, dueL] at hK
      show K (.inl (some (.int _))) _
      rw [h2]; exact hK
    | succ k ih =>
      intro i x hi he
      refine hC _ _ _ _ _ _ ?_
      have e2 : nI g * 3 + nI i = nI (g * 3 + i) := by rw [nI_mul3, nI_add]
      refine ⟨h1, And.intro (fun c1 => absurd (show G.2.2.2.1 (nI g).toNatClampNeg ≤ nI i from c1) (by rw [h2, h3]; exact nI_ge (by omega) (by omega))) (fun c1 => ?_)⟩
      refine ⟨G, P, g * 3 + i, c, q, b, rfl, (by rw [← e2]), by omega, ho, hc, hq, And.intro (fun c2 => ?_) (fun c2 => ?_)⟩
      · have h9 := ih (i + 1) (mxI x (casF G P (g * 3 + i) c q b)) (by omega) (by rw [he, dueL, if_neg c2])
        rw [← nI_1 i] at h9
        exact h9
      · rw [he, dueL, if_pos c2] at hK
        exact hK
  exact hC _ _ _ _ _ _ (loop (gcN G g) 0 b (by omega) rfl)
def gPast (G : GT) (f : Nat → Int32) : GT := (G.1, G.2.1, G.2.2.1, G.2.2.2.1, G.2.2.2.2.1, G.2.2.2.2.2.1, G.2.2.2.2.2.2.1, f, G.2.2.2.2.2.2.2.2)
theorem dueL_p (G : GT) (f : Nat → Int32) (P : PT) (g c q : Nat) (b : Int32) : ∀ n i x, dueL (gPast G f) P g c q b n i x = dueL G P g c q b n i x
  | 0, _, _ => rfl
  | n + 1, i, x => by
    rw [dueL, dueL, dueL_p G f P g c q b n]
    rfl
def gvD (G : GT) (P : PT) (f : Nat → Int32) (c q : Nat) (b : Int32) (g : Nat) : Int32 := if f g = 0 then dueF G P g c q b else 1000000
def gvOne (G : GT) (P : PT) (f : Nat → Int32) (c q : Nat) (b : Int32) (s : Int32 × Int32) (g : Nat) : Int32 × Int32 := if gvD G P f c q b g < s.2 then (nI g, gvD G P f c q b g) else s
def gvN (G : GT) (P : PT) (f : Nat → Int32) (c q : Nat) (b : Int32) : Int32 × Int32 := foldF (gvOne G P f c q b) 0 G.2.2.2.2.2.2.2.2 (-1, 1000)
def gvP (G : GT) (P : PT) (c : Nat) (b : Int32) (g : Nat) (d : Int32) : PT := if d < dayHd P c (G.1 g) (G.2.1 g) b then peopleGive P c (G.1 g) (G.2.1 g) d 999 else P
def gvR (G : GT) (c q : Nat) (b : Int32) : Nat → PT → (Nat → Int32) → PT
  | 0, P, _ => P
  | k + 1, P, f => if pcN P c < 8 then (if (gvN G P f c q b).1 = -1 then P else gvR G c q b k (gvP G P c b (gvN G P f c q b).1.toNatClampNeg (gvN G P f c q b).2) (upd f (gvN G P f c q b).1.toNatClampNeg 1)) else P
theorem gvN_lt (G : GT) (P : PT) (f : Nat → Int32) (c q : Nat) (b : Int32) : (gvN G P f c q b).1 = -1 ∨ ∃ g, (gvN G P f c q b).1 = nI g ∧ g < G.2.2.2.2.2.2.2.2 := by
  refine foldF_inv (I := fun s : Int32 × Int32 => s.1 = -1 ∨ ∃ g, s.1 = nI g ∧ g < G.2.2.2.2.2.2.2.2) _ 0 _ (Or.inl rfl) (fun y k hy _ hk => ?_)
  rw [gvOne]
  split
  · exact Or.inr ⟨k, rfl, by omega⟩
  · exact hy
theorem pOk_give {P : PT} {p : Nat} {k o f t : Int32} (h : pOk P) (hp : p < P.2.2.2.2.2.2) (hl : pcN P p < 8) : pOk (peopleGive P p k o f t) := by
  refine ⟨h.1, fun x hx => ?_⟩
  by_cases e : x = p
  · subst e
    have e1 : (peopleGive P x k o f t).2.1 x = nI (pcN P x + 1) := pk_us
    have e2 : pcN (peopleGive P x k o f t) x = pcN P x + 1 := by rw [pcN, e1]; exact nI_clamp (by omega)
    rw [e1, e2]
    exact ⟨rfl, by omega⟩
  · have e1 : (peopleGive P p k o f t).2.1 x = P.2.1 x := pk_un e
    have e2 : pcN (peopleGive P p k o f t) x = pcN P x := by rw [pcN, e1]; rfl
    rw [e1, e2]
    exact h.2 x hx
theorem pOk_gvP {G : GT} {P : PT} {c : Nat} {b : Int32} {g : Nat} {d : Int32} (h : pOk P) (hp : c < P.2.2.2.2.2.2) (hl : pcN P c < 8) : pOk (gvP G P c b g d) ∧ (gvP G P c b g d).2.2.2.2.2.2 = P.2.2.2.2.2.2 := by
  rw [gvP]
  split
  · exact ⟨pOk_give h hp hl, rfl⟩
  · exact ⟨h, rfl⟩
def tX2_giveAll : List q_I := [(0, .iconst 0, 1, 0, 0), (1, .istore 5, 2, 0, 0), (3, .iload 5, 2, 0, 0), (5, .aload_n 0, 1, 0, 0), (6, .getfield 37, 3, 0, 0), (9, .if_icmp .ge 17, 3, 0, 26), (12, .aload_n 0, 1, 0, 0), (13, .getfield 33, 3, 0, 0), (16, .iload 5, 2, 0, 0), (18, .iconst 0, 1, 0, 0), (19, .bastore, 1, 0, 0), (20, .iinc 5 1, 3, 1, 0), (23, .goto (-20), 3, 0, 3), (26, .iconst 0, 1, 0, 0), (27, .istore 5, 2, 0, 0), (29, .iload 5, 2, 0, 0), (31, .aload_n 0, 1, 0, 0), (32, .getfield 37, 3, 0, 0), (35, .if_icmp .ge 151, 3, 0, 186), (38, .aload_n 1, 1, 0, 0), (39, .iload_n 2, 1, 0, 0), (40, .invokevirtual 41, 3, 0, 0), (43, .ifCond .eq 143, 3, 0, 186), (46, .iconst (-1), 1, (-1), 0), (47, .istore 6, 2, 0, 0), (49, .sipush 1000, 3, 1000, 0), (52, .istore 7, 2, 0, 0), (54, .iconst 0, 1, 0, 0), (55, .istore 8, 2, 0, 0), (57, .iload 8, 2, 0, 0), (59, .aload_n 0, 1, 0, 0), (60, .getfield 37, 3, 0, 0), (63, .if_icmp .ge 52, 3, 0, 115), (66, .aload_n 0, 1, 0, 0), (67, .getfield 33, 3, 0, 0), (70, .iload 8, 2, 0, 0), (72, .baload, 1, 0, 0), (73, .ifCond .eq 8, 3, 0, 81), (76, .ldc 47, 2, 0, 0), (78, .goto 14, 3, 0, 92), (81, .aload_n 0, 1, 0, 0), (82, .iload 8, 2, 0, 0), (84, .aload_n 1, 1, 0, 0), (85, .iload_n 2, 1, 0, 0), (86, .iload_n 3, 1, 0, 0), (87, .iload 4, 2, 0, 0), (89, .invokevirtual 48, 3, 0, 0), (92, .istore 9, 2, 0, 0), (94, .iload 9, 2, 0, 0), (96, .iload 7, 2, 0, 0), (98, .if_icmp .ge 11, 3, 0, 109), (101, .iload 8, 2, 0, 0), (103, .istore 6, 2, 0, 0), (105, .iload 9, 2, 0, 0), (107, .istore 7, 2, 0, 0), (109, .iinc 8 1, 3, 1, 0), (112, .goto (-55), 3, 0, 57), (115, .iload 6, 2, 0, 0), (117, .iconst (-1), 1, (-1), 0), (118, .if_icmp .ne 4, 3, 0, 122), (121, .return_, 1, 0, 0), (122, .aload_n 0, 1, 0, 0), (123, .getfield 33, 3, 0, 0), (126, .iload 6, 2, 0, 0), (128, .iconst 1, 1, 1, 0), (129, .bastore, 1, 0, 0), (130, .aload_n 1, 1, 0, 0), (131, .iload_n 2, 1, 0, 0), (132, .aload_n 0, 1, 0, 0), (133, .getfield 11, 3, 0, 0), (136, .iload 6, 2, 0, 0), (138, .iaload, 1, 0, 0), (139, .aload_n 0, 1, 0, 0), (140, .getfield 15, 3, 0, 0), (143, .iload 6, 2, 0, 0), (145, .iaload, 1, 0, 0), (146, .iload 4, 2, 0, 0), (148, .invokevirtual 52, 3, 0, 0), (151, .iload 7, 2, 0, 0), (153, .if_icmp .le 27, 3, 0, 180), (156, .aload_n 1, 1, 0, 0), (157, .iload_n 2, 1, 0, 0), (158, .aload_n 0, 1, 0, 0), (159, .getfield 11, 3, 0, 0), (162, .iload 6, 2, 0, 0), (164, .iaload, 1, 0, 0), (165, .aload_n 0, 1, 0, 0), (166, .getfield 15, 3, 0, 0), (169, .iload 6, 2, 0, 0), (171, .iaload, 1, 0, 0), (172, .iload 7, 2, 0, 0), (174, .sipush 999, 3, 999, 0), (177, .invokevirtual 56, 3, 0, 0), (180, .iinc 5 1, 3, 1, 0), (183, .goto (-154), 3, 0, 29), (186, .return_, 1, 0, 0)]
theorem tX2_giveAll_ok : (tX2_giveAll.all (q_okI cX2_giveAll)) = true := by decide +kernel

abbrev fdX2_giveAll : List (Nat ⊕ (Nat × Nat)) := [.inl 0, .inr (0, 0), .inr (0, 1), .inr (0, 2), .inr (0, 3), .inr (0, 4), .inr (0, 5), .inr (0, 6), .inr (0, 7), .inl 1, .inr (9, 0), .inr (9, 1), .inr (9, 2), .inr (9, 3), .inr (9, 4), .inr (9, 5)]
def spX2_giveAll : q_P := fun a w K => ∃ (G : GT) (P : PT) (c q : Nat) (b : Int32), w = giftsW 0 G ++ peopleW 9 P ∧ a = [.ref 0, .ref 9, .int (nI c), .int (nI q), .int b] ∧ gOk G ∧ pOk P ∧ c < P.2.2.2.2.2.2 ∧ q < P.2.2.2.2.2.2 ∧ ∀ f, K (.inl none) (giftsW 0 (gPast G f) ++ peopleW 9 (gvR G c q b G.2.2.2.2.2.2.2.2 P (zf 0 G.2.2.2.2.2.2.2.1 G.2.2.2.2.2.2.2.2)))
abbrev csX2_giveAll : q_S := (5, 2, 4, 10, 0, 0, fdX2_giveAll, spX2_giveAll)
theorem coX2_41 (l : Launch) : q_CO l RX2 41 csX6_hasPaperRoom := ⟨yX6_hasPaperRoom, cX6_hasPaperRoom, (some .boolean), 1, ⟨by decide +kernel, by decide +kernel, by decide +kernel⟩, q_G_i 11 (by decide +kernel) rfl, Or.inl ⟨by decide, rfl, rfl, q_G_i 1015 (by decide +kernel) rfl, q_G_i 793 (by decide +kernel) rfl, q_G_i 794 (by decide +kernel) rfl, Or.inl ⟨q_G_i 795 (by decide +kernel) rfl, ctX6_hasPaperRoom l⟩⟩⟩
theorem coX2_48 (l : Launch) : q_CO l RX2 48 csX2_dueDay := ⟨yX2_dueDay, cX2_dueDay, (some .int), 5, ⟨by decide +kernel, by decide +kernel, by decide +kernel⟩, q_G_i 5 (by decide +kernel) rfl, Or.inl ⟨by decide, rfl, rfl, q_G_i 1017 (by decide +kernel) rfl, q_G_i 1019 (by decide +kernel) rfl, q_G_s (n := 9) 40 (by decide +kernel), Or.inl ⟨q_G_i 1020 (by decide +kernel) rfl, ctX2_dueDay l⟩⟩⟩
theorem coX2_56 (l : Launch) : q_CO l RX2 56 csX6_give := ⟨yX6_give, cX6_give, none, 5, ⟨by decide +kernel, by decide +kernel, by decide +kernel⟩, q_G_i 11 (by decide +kernel) rfl, Or.inl ⟨by decide, rfl, rfl, q_G_i 1034 (by decide +kernel) rfl, q_G_i 797 (by decide +kernel) rfl, q_G_i 798 (by decide +kernel) rfl, Or.inl ⟨q_G_i 799 (by decide +kernel) rfl, ctX6_give l⟩⟩⟩
def EX2_giveAll : q_E := (tX2_giveAll, [(3, [0, 1, 2, 3, 4, 5]), (29, [0, 1, 2, 3, 4, 5]), (57, [0, 1, 2, 3, 4, 5, 6, 7, 8])], 10, flX2, [(41, csX6_hasPaperRoom), (48, csX2_dueDay), (52, csX6_dayHad), (56, csX6_give)], [], [(47, 1000000)], [], [], [], 4, 0, 0, none, [], [], 0, 0)
theorem okX2_giveAll (l : Launch) : q_Eok l RX2 cX2_giveAll EX2_giveAll := ⟨tX2_giveAll_ok, flX2_ok, List.forall_mem_cons.mpr ⟨(coX2_41 l), List.forall_mem_cons.mpr ⟨(coX2_48 l), List.forall_mem_cons.mpr ⟨(coX2_52 l), List.forall_mem_cons.mpr ⟨(coX2_56 l), q_nil⟩⟩⟩⟩, q_nil, List.forall_mem_cons.mpr ⟨q_G_i 1016 (by decide +kernel) rfl, q_nil⟩, q_nil, q_nil, q_nil, (fun h => absurd h (by decide))⟩
set_option maxRecDepth 100000 in
set_option maxHeartbeats 4000000 in
theorem ctX2_giveAll (l : Launch) : q_CT l yX2_giveAll (.code yX2_giveAll cX2_giveAll 10 none) 4 0 0 spX2_giveAll := by
  refine q_ct_of EX2_giveAll (by decide +kernel) (okX2_giveAll l) rfl rfl rfl rfl rfl q_nil (fun ci h => by cases h) rfl ?_
  intro a w K h
  obtain ⟨G, P0, c, q, b, rfl, rfl, hgo, ho0, hc0, hq0, hK⟩ := h
  have hgn := hgo.1
  refine ⟨Nat.le_of_ble_eq_true rfl, fun C hC => ?_⟩
  have rounds : ∀ k i P f, i + k = G.2.2.2.2.2.2.2.2 → pOk P → c < P.2.2.2.2.2.2 → q < P.2.2.2.2.2.2 → gvR G c q b G.2.2.2.2.2.2.2.2 P0 (zf 0 G.2.2.2.2.2.2.2.1 G.2.2.2.2.2.2.2.2) = gvR G c q b k P f → C 29 [(0, .ref 0), (1, .ref 9), (2, .int (nI c)), (3, .int (nI q)), (4, .int b), (5, .int (nI i))] [] (giftsW 0 (gPast G f) ++ peopleW 9 P) 0 0 := by
    intro k
    induction k with
    | zero =>
      intro i P f hi ho hc hq he
      refine hC _ _ _ _ _ _ ?_
      refine And.intro (fun c1 => ?_) (fun c1 => absurd (nI_le (b := i) (a := G.2.2.2.2.2.2.2.2) (by omega) (by omega)) c1)
      have h9 := hK f
      rw [he, gvR] at h9
      exact h9
    | succ k ih =>
      intro i P f hi ho hc hq he
      refine hC _ _ _ _ _ _ ?_
      refine And.intro (fun c1 => absurd c1 (nI_ge (b := G.2.2.2.2.2.2.2.2) (by omega) (by omega))) (fun c1 => ?_)
      refine ⟨P, c, rfl, rfl, ho, hc, And.intro (fun c2 => ?_) (fun c2 => ?_)⟩
      · have h9 := hK f
        rw [he, gvR, if_neg (of_decide_eq_false (bI_0.mp c2))] at h9
        exact h9
      · have c2 : pcN P c < 8 := of_decide_eq_true (bI_n0.mp c2)
        rw [gvR, if_pos c2] at he
        have inner : ∀ k2 j s, j + k2 = G.2.2.2.2.2.2.2.2 → gvN G P f c q b = foldF (gvOne G P f c q b) j k2 s → C 57 [(0, .ref 0), (1, .ref 9), (2, .int (nI c)), (3, .int (nI q)), (4, .int b), (5, .int (nI i)), (6, .int s.1), (7, .int s.2), (8, .int (nI j))] [] (giftsW 0 (gPast G f) ++ peopleW 9 P) 0 0 := by
          intro k2
          induction k2 with
          | zero =>
            intro j s hj hs
            rw [foldF] at hs
            refine hC _ _ _ _ _ _ ?_
            refine And.intro (fun c3 => And.intro (fun c4 => ?_) (fun c4 => ?_)) (fun c3 => absurd (nI_le (b := j) (a := G.2.2.2.2.2.2.2.2) (by omega) (by omega)) c3)
            · have c4 : ¬ s.1 = -1 := c4
              have hl := gvN_lt G P f c q b
              rw [hs] at hl he
              rw [if_neg c4] at he
              obtain ⟨g, hg, hgl⟩ := hl.resolve_left c4
              have hgc : s.1.toNatClampNeg = g := by rw [hg]; exact nI_clamp (by omega)
              have hv : vp_in s.1 12 := by rw [hg]; exact vp_in_nI (by omega) (by omega)
              obtain ⟨o1, o2⟩ := pOk_gvP (G := G) (b := b) (g := s.1.toNatClampNeg) (d := s.2) ho hc c2
              have h9 := ih (i + 1) _ _ (by omega) o1 (by rw [o2]; exact hc) (by rw [o2]; exact hq) he
              rw [← nI_1 i] at h9
              refine ⟨hv, hv, hv, P, c, _, _, _, rfl, rfl, ho, hc, And.intro (fun c5 => ?_) (fun c5 => ⟨hv, hv, P, c, _, _, _, _, rfl, rfl, ho, hc, c2, ?_⟩)⟩
              · have c5 : dayHd P c (G.1 s.1.toNatClampNeg) (G.2.1 s.1.toNatClampNeg) b ≤ s.2 := c5
                rw [gvP, if_neg (Int32.not_lt.mpr c5)] at h9
                exact h9
              · have c5 : ¬ dayHd P c (G.1 s.1.toNatClampNeg) (G.2.1 s.1.toNatClampNeg) b ≤ s.2 := c5
                rw [gvP, if_pos (Int32.not_le.mp c5)] at h9
                exact h9
            · have c4 : s.1 = -1 := c4
              rw [hs, if_pos c4] at he
              have h9 := hK f
              rw [he] at h9
              exact h9
          | succ k2 ih2 =>
            intro j s hj hs
            rw [foldF] at hs
            have hjl : j < G.2.2.2.2.2.2.2.2 := by omega
            have hcj : (nI j).toNatClampNeg = j := nI_clamp (by omega)
            have hv : vp_in (nI j) 12 := vp_in_nI (by omega) (by omega)
            refine hC _ _ _ _ _ _ ?_
            refine And.intro (fun c3 => absurd c3 (nI_ge (b := G.2.2.2.2.2.2.2.2) (by omega) (by omega))) (fun c3 => ⟨hv, And.intro (fun c4 => ?_) (fun c4 => ?_)⟩)
            · have c4 : f (nI j).toNatClampNeg = 0 := c4
              rw [hcj] at c4
              have e4 : gvD G P f c q b j = dueF (gPast G f) P j c q b := by rw [gvD, if_pos c4]; exact (dueL_p G f P j c q b _ _ _).symm
              refine ⟨gPast G f, P, j, c, q, b, rfl, rfl, hgo, hjl, ho, hc, hq, ?_⟩
              rw [← e4]
              refine And.intro (fun c5 => ?_) (fun c5 => ?_)
              · rw [gvOne, if_neg (Int32.not_lt.mpr c5)] at hs
                have h9 := ih2 (j + 1) s (by omega) hs
                rw [← nI_1 j] at h9
                exact h9
              · rw [gvOne, if_pos (Int32.not_le.mp c5)] at hs
                have h9 := ih2 (j + 1) _ (by omega) hs
                rw [← nI_1 j] at h9
                exact h9
            · have c4 : ¬ f (nI j).toNatClampNeg = 0 := c4
              rw [hcj] at c4
              have e4 : gvD G P f c q b j = 1000000 := by rw [gvD, if_neg c4]
              rw [gvOne, e4] at hs
              refine And.intro (fun c5 => ?_) (fun c5 => ?_)
              · rw [if_neg (Int32.not_lt.mpr c5)] at hs
                have h9 := ih2 (j + 1) s (by omega) hs
                rw [← nI_1 j] at h9
                exact h9
              · rw [if_pos (Int32.not_le.mp c5)] at hs
                have h9 := ih2 (j + 1) _ (by omega) hs
                rw [← nI_1 j] at h9
                exact h9
        exact inner G.2.2.2.2.2.2.2.2 0 (-1, 1000) (by omega) rfl
  have clr : ∀ k i, i + k = G.2.2.2.2.2.2.2.2 → C 3 [(0, .ref 0), (1, .ref 9), (2, .int (nI c)), (3, .int (nI q)), (4, .int b), (5, .int (nI i))] [] (giftsW 0 (gPast G (zf 0 G.2.2.2.2.2.2.2.1 i)) ++ peopleW 9 P0) 0 0 := by
    intro k
    induction k with
    | zero =>
      intro i hi
      have hi : i = G.2.2.2.2.2.2.2.2 := by omega
      subst hi
      refine hC _ _ _ _ _ _ ?_
      refine And.intro (fun c1 => ?_) (fun c1 => absurd (Int32.le_refl _) c1)
      exact rounds G.2.2.2.2.2.2.2.2 0 P0 _ (by omega) ho0 hc0 hq0 rfl
    | succ k ih =>
      intro i hi
      have hci : (nI i).toNatClampNeg = i := nI_clamp (by omega)
      refine hC _ _ _ _ _ _ ?_
      refine And.intro (fun c1 => absurd c1 (nI_ge (b := G.2.2.2.2.2.2.2.2) (by omega) (by omega))) (fun c1 => ⟨vp_in_nI (by omega) (by omega), ?_⟩)
      have h9 := ih (i + 1) (by omega)
      rw [← nI_1, ← zf_s] at h9
      have e1 : ∀ (f : Nat → Int32) (z : Int32), upd f i z = upd f (nI i).toNatClampNeg z := fun f z => by rw [hci]
      rw [e1] at h9
      exact h9
  have h9 := clr G.2.2.2.2.2.2.2.2 0 (by omega)
  rw [zf_0] at h9
  exact hC _ _ _ _ _ _ h9
end
section
/-- clauses, words, foes, barred, tried, chosen, most, quarrels, stale -/
abbrev YT : Type := (Nat → Int32) × (Nat → Int32) × (Nat → Int32) × (Nat → Int32) × (Nat → Int32) × (Nat → Int32) × Int32 × Nat × Int32
def treatyW (o : Nat) (Y : YT) : List q_C := [.inr (9, [.ref (o + 1), .ref (o + 2), .ref (o + 3), .ref (o + 4), .ref (o + 5), .ref (o + 6), .int Y.2.2.2.2.2.2.1, .int (nI Y.2.2.2.2.2.2.2.1), .int Y.2.2.2.2.2.2.2.2]), .inl (1, 9, .inl Y.1), .inl (1, 36, .inl Y.2.1), .inl (1, 16, .inl Y.2.2.1), .inl (1, 36, .inl Y.2.2.2.1), .inl (1, 9, .inl Y.2.2.2.2.1), .inl (1, 9, .inl Y.2.2.2.2.2.1)]
def tcF (cl : Nat → Int32) (t : Nat) : Nat := (cl t).toNatClampNeg
def tOk (Y : YT) : Prop := ∀ t, t < 9 → Y.1 t = nI (tcF Y.1 t) ∧ tcF Y.1 t ≤ 4
theorem nI_mul4 (p : Nat) : nI p * 4 = nI (p * 4) := pk_mul p 4

def tX9_clear : List q_I := [(0, .iconst 0, 1, 0, 0), (1, .istore_n 1, 1, 0, 0), (2, .iload_n 1, 1, 0, 0), (3, .bipush 9, 2, 9, 0), (5, .if_icmp .ge 16, 3, 0, 21), (8, .aload_n 0, 1, 0, 0), (9, .getfield 11, 3, 0, 0), (12, .iload_n 1, 1, 0, 0), (13, .iconst 0, 1, 0, 0), (14, .iastore, 1, 0, 0), (15, .iinc 1 1, 3, 1, 0), (18, .goto (-16), 3, 0, 2), (21, .iconst 0, 1, 0, 0), (22, .istore_n 1, 1, 0, 0), (23, .iload_n 1, 1, 0, 0), (24, .bipush 16, 2, 16, 0), (26, .if_icmp .ge 16, 3, 0, 42), (29, .aload_n 0, 1, 0, 0), (30, .getfield 18, 3, 0, 0), (33, .iload_n 1, 1, 0, 0), (34, .iconst 0, 1, 0, 0), (35, .iastore, 1, 0, 0), (36, .iinc 1 1, 3, 1, 0), (39, .goto (-16), 3, 0, 23), (42, .aload_n 0, 1, 0, 0), (43, .iconst 0, 1, 0, 0), (44, .putfield 34, 3, 0, 0), (47, .aload_n 0, 1, 0, 0), (48, .iconst 1, 1, 1, 0), (49, .putfield 30, 3, 0, 0), (52, .return_, 1, 0, 0)]
theorem tX9_clear_ok : (tX9_clear.all (q_okI cX9_clear)) = true := by decide +kernel

abbrev fdX9_clear : List (Nat ⊕ (Nat × Nat)) := [.inl 0, .inr (0, 0), .inr (0, 1), .inr (0, 2), .inr (0, 3), .inr (0, 4), .inr (0, 5)]
def spX9_clear : q_P := fun a w K => ∃ (Y : YT), w = treatyW 0 Y ∧ a = [.ref 0] ∧ K (.inl none) (treatyW 0 (zf 0 Y.1 9, Y.2.1, zf 0 Y.2.2.1 16, Y.2.2.2.1, Y.2.2.2.2.1, Y.2.2.2.2.2.1, Y.2.2.2.2.2.2.1, 0, 1))
abbrev csX9_clear : q_S := (1, 9, 0, 2, 0, 0, fdX9_clear, spX9_clear)
def EX9_clear : q_E := (tX9_clear, [(2, [0, 1]), (23, [0, 1])], 2, flX9, [], [], [], [], [], [], 0, 0, 0, none, [], [], 0, 0)
theorem okX9_clear (l : Launch) : q_Eok l RX9 cX9_clear EX9_clear := ⟨tX9_clear_ok, flX9_ok, q_nil, q_nil, q_nil, q_nil, q_nil, q_nil, (fun h => absurd h (by decide))⟩
set_option maxRecDepth 100000 in
set_option maxHeartbeats 4000000 in
theorem ctX9_clear (l : Launch) : q_CT l yX9_clear (.code yX9_clear cX9_clear 2 none) 0 0 0 spX9_clear := by
  refine q_ct_of EX9_clear (by decide +kernel) (okX9_clear l) rfl rfl rfl rfl rfl q_nil (fun ci h => by cases h) rfl ?_
  intro a w K h
  obtain ⟨Y, rfl, rfl, hK⟩ := h
  refine ⟨Nat.le_of_ble_eq_true rfl, fun C hC => ?_⟩
  have two : ∀ k i, i + k = 16 → C 23 [(0, .ref 0), (1, .int (nI i))] [] (treatyW 0 (zf 0 Y.1 9, Y.2.1, zf 0 Y.2.2.1 i, Y.2.2.2)) 0 0 := by
    intro k
    induction k with
    | zero =>
      intro i hi
      have hi : i = 16 := by omega
      subst hi
      refine hC _ _ _ _ _ _ ?_
      exact And.intro (fun c1 => ⟨rfl, hK⟩) (fun c1 => absurd (Int32.le_refl _) c1)
    | succ k ih =>
      intro i hi
      have hci : (nI i).toNatClampNeg = i := nI_clamp (by omega)
      refine hC _ _ _ _ _ _ ?_
      refine And.intro (fun c1 => absurd c1 (nI_ge (b := 16) (by omega) (by omega))) (fun c1 => ⟨vp_in_nI (by omega) (by omega), ?_⟩)
      have h9 := ih (i + 1) (by omega)
      rw [← nI_1, ← zf_s 0 Y.2.2.1 i] at h9
      have e1 : ∀ (f : Nat → Int32) (z : Int32), upd f i z = upd f (nI i).toNatClampNeg z := fun f z => by rw [hci]
      rw [e1] at h9
      exact h9
  have one : ∀ k i, i + k = 9 → C 2 [(0, .ref 0), (1, .int (nI i))] [] (treatyW 0 (zf 0 Y.1 i, Y.2)) 0 0 := by
    intro k
    induction k with
    | zero =>
      intro i hi
      have hi : i = 9 := by omega
      subst hi
      refine hC _ _ _ _ _ _ ?_
      refine And.intro (fun c1 => ?_) (fun c1 => absurd (Int32.le_refl _) c1)
      have h9 := two 16 0 rfl
      rw [zf_0] at h9
      exact h9
    | succ k ih =>
      intro i hi
      have hci : (nI i).toNatClampNeg = i := nI_clamp (by omega)
      refine hC _ _ _ _ _ _ ?_
      refine And.intro (fun c1 => absurd c1 (nI_ge (b := 9) (by omega) (by omega))) (fun c1 => ⟨vp_in_nI (by omega) (by omega), ?_⟩)
      have h9 := ih (i + 1) (by omega)
      rw [← nI_1, ← zf_s] at h9
      have e1 : ∀ (f : Nat → Int32) (z : Int32), upd f i z = upd f (nI i).toNatClampNeg z := fun f z => by rw [hci]
      rw [e1] at h9
      exact h9
  have h9 := one 9 0 rfl
  rw [zf_0] at h9
  exact hC _ _ _ _ _ _ h9
def tX9_isThing : List q_I := [(0, .iload_n 0, 1, 0, 0), (1, .ifCond .lt 13, 3, 0, 14), (4, .iload_n 0, 1, 0, 0), (5, .bipush 9, 2, 9, 0), (7, .if_icmp .ge 7, 3, 0, 14), (10, .iconst 1, 1, 1, 0), (11, .goto 4, 3, 0, 15), (14, .iconst 0, 1, 0, 0), (15, .ireturn, 1, 0, 0)]
theorem tX9_isThing_ok : (tX9_isThing.all (q_okI cX9_isThing)) = true := by decide +kernel

abbrev fdX9_isThing : List (Nat ⊕ (Nat × Nat)) := []
def spX9_isThing : q_P := fun a w K => ∃ (x : Int32), w = [] ∧ a = [.int x] ∧ K (.inl (some (.int (bI (decide (0 ≤ x ∧ x < 9)))))) []
abbrev csX9_isThing : q_S := (1, 99, 0, 1, 0, 0, fdX9_isThing, spX9_isThing)
def EX9_isThing : q_E := (tX9_isThing, [], 1, flX9, [], [], [], [], [], [], 0, 0, 0, (some .boolean), [], [], 0, 0)
theorem okX9_isThing (l : Launch) : q_Eok l RX9 cX9_isThing EX9_isThing := ⟨tX9_isThing_ok, flX9_ok, q_nil, q_nil, q_nil, q_nil, q_nil, q_nil, (fun h => absurd h (by decide))⟩
set_option maxRecDepth 100000 in
set_option maxHeartbeats 4000000 in
theorem ctX9_isThing (l : Launch) : q_CT l yX9_isThing (.code yX9_isThing cX9_isThing 1 (some .boolean)) 0 0 0 spX9_isThing := by
  refine q_ct_of EX9_isThing (by decide +kernel) (okX9_isThing l) rfl rfl rfl rfl rfl q_nil (fun ci h => by cases h) rfl ?_
  intro a w K h
  obtain ⟨x, rfl, rfl, hK⟩ := h
  refine ⟨Nat.le_of_ble_eq_true rfl, fun C hC => hC _ _ _ _ _ _ ?_⟩
  refine And.intro (fun c => ⟨rfl, ?_⟩) (fun c => And.intro (fun c2 => ⟨rfl, ?_⟩) (fun c2 => ⟨rfl, ?_⟩))
  · rw [bI_f (fun z => absurd c (Int32.not_lt.mpr z.1))] at hK; exact hK
  · rw [bI_f (fun z => absurd c2 (Int32.not_le.mpr z.2))] at hK; exact hK
  · rw [bI_t ⟨Int32.not_lt.mp c, Int32.not_le.mp c2⟩] at hK; exact hK
def tX9_isWord : List q_I := [(0, .iload_n 0, 1, 0, 0), (1, .ifCond .lt 13, 3, 0, 14), (4, .iload_n 0, 1, 0, 0), (5, .bipush 16, 2, 16, 0), (7, .if_icmp .ge 7, 3, 0, 14), (10, .iconst 1, 1, 1, 0), (11, .goto 4, 3, 0, 15), (14, .iconst 0, 1, 0, 0), (15, .ireturn, 1, 0, 0)]
theorem tX9_isWord_ok : (tX9_isWord.all (q_okI cX9_isWord)) = true := by decide +kernel

abbrev fdX9_isWord : List (Nat ⊕ (Nat × Nat)) := []
def spX9_isWord : q_P := fun a w K => ∃ (x : Int32), w = [] ∧ a = [.int x] ∧ K (.inl (some (.int (bI (decide (0 ≤ x ∧ x < 16)))))) []
abbrev csX9_isWord : q_S := (1, 99, 0, 1, 0, 0, fdX9_isWord, spX9_isWord)
def EX9_isWord : q_E := (tX9_isWord, [], 1, flX9, [], [], [], [], [], [], 0, 0, 0, (some .boolean), [], [], 0, 0)
theorem okX9_isWord (l : Launch) : q_Eok l RX9 cX9_isWord EX9_isWord := ⟨tX9_isWord_ok, flX9_ok, q_nil, q_nil, q_nil, q_nil, q_nil, q_nil, (fun h => absurd h (by decide))⟩
set_option maxRecDepth 100000 in
set_option maxHeartbeats 4000000 in
theorem ctX9_isWord (l : Launch) : q_CT l yX9_isWord (.code yX9_isWord cX9_isWord 1 (some .boolean)) 0 0 0 spX9_isWord := by
  refine q_ct_of EX9_isWord (by decide +kernel) (okX9_isWord l) rfl rfl rfl rfl rfl q_nil (fun ci h => by cases h) rfl ?_
  intro a w K h
  obtain ⟨x, rfl, rfl, hK⟩ := h
  refine ⟨Nat.le_of_ble_eq_true rfl, fun C hC => hC _ _ _ _ _ _ ?_⟩
  refine And.intro (fun c => ⟨rfl, ?_⟩) (fun c => And.intro (fun c2 => ⟨rfl, ?_⟩) (fun c2 => ⟨rfl, ?_⟩))
  · rw [bI_f (fun z => absurd c (Int32.not_lt.mpr z.1))] at hK; exact hK
  · rw [bI_f (fun z => absurd c2 (Int32.not_le.mpr z.2))] at hK; exact hK
  · rw [bI_t ⟨Int32.not_lt.mp c, Int32.not_le.mp c2⟩] at hK; exact hK
def tX9_hasClauseRoom : List q_I := [(0, .aload_n 0, 1, 0, 0), (1, .getfield 11, 3, 0, 0), (4, .iload_n 1, 1, 0, 0), (5, .iaload, 1, 0, 0), (6, .iconst 4, 1, 4, 0), (7, .if_icmp .ge 7, 3, 0, 14), (10, .iconst 1, 1, 1, 0), (11, .goto 4, 3, 0, 15), (14, .iconst 0, 1, 0, 0), (15, .ireturn, 1, 0, 0)]
theorem tX9_hasClauseRoom_ok : (tX9_hasClauseRoom.all (q_okI cX9_hasClauseRoom)) = true := by decide +kernel

abbrev fdX9_hasClauseRoom : List (Nat ⊕ (Nat × Nat)) := [.inl 0, .inr (0, 0), .inr (0, 1), .inr (0, 2), .inr (0, 3), .inr (0, 4), .inr (0, 5)]
def spX9_hasClauseRoom : q_P := fun a w K => ∃ (Y : YT) (t : Nat), w = treatyW 0 Y ∧ a = [.ref 0, .int (nI t)] ∧ tOk Y ∧ t < 9 ∧ K (.inl (some (.int (bI (decide (tcF Y.1 t < 4)))))) (treatyW 0 Y)
abbrev csX9_hasClauseRoom : q_S := (2, 9, 0, 2, 0, 0, fdX9_hasClauseRoom, spX9_hasClauseRoom)
def EX9_hasClauseRoom : q_E := (tX9_hasClauseRoom, [], 2, flX9, [], [], [], [], [], [], 0, 0, 0, (some .boolean), [], [], 0, 0)
theorem okX9_hasClauseRoom (l : Launch) : q_Eok l RX9 cX9_hasClauseRoom EX9_hasClauseRoom := ⟨tX9_hasClauseRoom_ok, flX9_ok, q_nil, q_nil, q_nil, q_nil, q_nil, q_nil, (fun h => absurd h (by decide))⟩
set_option maxRecDepth 100000 in
set_option maxHeartbeats 4000000 in
theorem ctX9_hasClauseRoom (l : Launch) : q_CT l yX9_hasClauseRoom (.code yX9_hasClauseRoom cX9_hasClauseRoom 2 (some .boolean)) 0 0 0 spX9_hasClauseRoom := by
  refine q_ct_of EX9_hasClauseRoom (by decide +kernel) (okX9_hasClauseRoom l) rfl rfl rfl rfl rfl q_nil (fun ci h => by cases h) rfl ?_
  intro a w K h
  obtain ⟨Y, t, rfl, rfl, ho, ht, hK⟩ := h
  obtain ⟨h3, h4⟩ := ho t ht
  have hc : (nI t).toNatClampNeg = t := nI_clamp (by omega)
  refine ⟨Nat.le_of_ble_eq_true rfl, fun C hC => hC _ _ _ _ _ _ ?_⟩
  refine ⟨vp_in_nI (by omega) (by omega), And.intro (fun c => ⟨rfl, ?_⟩) (fun c => ⟨rfl, ?_⟩)⟩
  · have c : (4 : Int32) ≤ Y.1 (nI t).toNatClampNeg := c
    rw [hc, h3] at c
    rw [bI_f (fun z => nI_ge (b := 4) z (by omega) c)] at hK; exact hK
  · have c : ¬ (4 : Int32) ≤ Y.1 (nI t).toNatClampNeg := c
    rw [hc, h3] at c
    rw [bI_t (lt_of_nI (b := 4) (by omega) (by omega) c)] at hK; exact hK
def clauseAdd (Y : YT) (t : Nat) (x : Int32) : YT := (upd Y.1 t (nI (tcF Y.1 t + 1)), upd Y.2.1 (t * 4 + tcF Y.1 t) x, Y.2.2.1, Y.2.2.2.1, Y.2.2.2.2.1, Y.2.2.2.2.2.1, Y.2.2.2.2.2.2.1, Y.2.2.2.2.2.2.2.1, 1)
def tX9_addClause : List q_I := [(0, .aload_n 0, 1, 0, 0), (1, .getfield 15, 3, 0, 0), (4, .iload_n 1, 1, 0, 0), (5, .iconst 4, 1, 4, 0), (6, .imul, 1, 0, 0), (7, .aload_n 0, 1, 0, 0), (8, .getfield 11, 3, 0, 0), (11, .iload_n 1, 1, 0, 0), (12, .iaload, 1, 0, 0), (13, .iadd, 1, 0, 0), (14, .iload_n 2, 1, 0, 0), (15, .iastore, 1, 0, 0), (16, .aload_n 0, 1, 0, 0), (17, .getfield 11, 3, 0, 0), (20, .iload_n 1, 1, 0, 0), (21, .dup2, 1, 0, 0), (22, .iaload, 1, 0, 0), (23, .iconst 1, 1, 1, 0), (24, .iadd, 1, 0, 0), (25, .iastore, 1, 0, 0), (26, .aload_n 0, 1, 0, 0), (27, .iconst 1, 1, 1, 0), (28, .putfield 30, 3, 0, 0), (31, .aload_n 0, 1, 0, 0), (32, .getfield 11, 3, 0, 0), (35, .iload_n 1, 1, 0, 0), (36, .iaload, 1, 0, 0), (37, .iconst 1, 1, 1, 0), (38, .isub, 1, 0, 0), (39, .ireturn, 1, 0, 0)]
theorem tX9_addClause_ok : (tX9_addClause.all (q_okI cX9_addClause)) = true := by decide +kernel

abbrev fdX9_addClause : List (Nat ⊕ (Nat × Nat)) := [.inl 0, .inr (0, 0), .inr (0, 1), .inr (0, 2), .inr (0, 3), .inr (0, 4), .inr (0, 5)]
def spX9_addClause : q_P := fun a w K => ∃ (Y : YT) (t : Nat) (x : Int32), w = treatyW 0 Y ∧ a = [.ref 0, .int (nI t), .int x] ∧ tOk Y ∧ t < 9 ∧ tcF Y.1 t < 4 ∧ K (.inl (some (.int (nI (tcF Y.1 t))))) (treatyW 0 (clauseAdd Y t x))
abbrev csX9_addClause : q_S := (3, 9, 0, 3, 0, 0, fdX9_addClause, spX9_addClause)
def EX9_addClause : q_E := (tX9_addClause, [], 3, flX9, [], [], [], [], [], [], 0, 0, 0, (some .int), [], [], 0, 0)
theorem okX9_addClause (l : Launch) : q_Eok l RX9 cX9_addClause EX9_addClause := ⟨tX9_addClause_ok, flX9_ok, q_nil, q_nil, q_nil, q_nil, q_nil, q_nil, (fun h => absurd h (by decide))⟩
set_option maxRecDepth 100000 in
set_option maxHeartbeats 4000000 in
theorem ctX9_addClause (l : Launch) : q_CT l yX9_addClause (.code yX9_addClause cX9_addClause 3 (some .int)) 0 0 0 spX9_addClause := by
  refine q_ct_of EX9_addClause (by decide +kernel) (okX9_addClause l) rfl rfl rfl rfl rfl q_nil (fun ci h => by cases h) rfl ?_
  intro a w K h
  obtain ⟨Y, t, x, rfl, rfl, ho, ht, hl, hK⟩ := h
  obtain ⟨h3, h4⟩ := ho t ht
  have hc : (nI t).toNatClampNeg = t := nI_clamp (by omega)
  have hv : vp_in (nI t) 9 := vp_in_nI (by omega) (by omega)
  have e2 : nI t * 4 + Y.1 (nI t).toNatClampNeg = nI (t * 4 + tcF Y.1 t) := by rw [hc, h3, nI_mul4, nI_add]
  have hv2 : vp_in (nI t * 4 + Y.1 (nI t).toNatClampNeg) 36 := by rw [e2]; exact vp_in_nI (by omega) (by omega)
  have hc2 : (nI (t * 4 + tcF Y.1 t)).toNatClampNeg = t * 4 + tcF Y.1 t := nI_clamp (by omega)
  refine ⟨Nat.le_of_ble_eq_true rfl, fun C hC => hC _ _ _ _ _ _ ?_⟩
  refine ⟨hv, hv2, hv, hv, rfl, hv, ?_⟩
  show K (.inl (some (.int _))) _
  simp only [e2]
  simp only [hc2, hc, pk_us]
  simp only [h3, nI_1, nI_pred]
  exact hK
def foesQ (f : Nat → Int32) (a b : Nat) : Nat → Int32 := upd (upd f a (f a ||| (1 : Int32) <<< (nI b &&& 31))) b ((upd f a (f a ||| (1 : Int32) <<< (nI b &&& 31))) b ||| (1 : Int32) <<< (nI a &&& 31))
def tX9_addQuarrel : List q_I := [(0, .aload_n 0, 1, 0, 0), (1, .getfield 18, 3, 0, 0), (4, .iload_n 1, 1, 0, 0), (5, .dup2, 1, 0, 0), (6, .iaload, 1, 0, 0), (7, .iconst 1, 1, 1, 0), (8, .iload_n 2, 1, 0, 0), (9, .ishl, 1, 0, 0), (10, .ior, 1, 0, 0), (11, .iastore, 1, 0, 0), (12, .aload_n 0, 1, 0, 0), (13, .getfield 18, 3, 0, 0), (16, .iload_n 2, 1, 0, 0), (17, .dup2, 1, 0, 0), (18, .iaload, 1, 0, 0), (19, .iconst 1, 1, 1, 0), (20, .iload_n 1, 1, 0, 0), (21, .ishl, 1, 0, 0), (22, .ior, 1, 0, 0), (23, .iastore, 1, 0, 0), (24, .aload_n 0, 1, 0, 0), (25, .dup, 1, 0, 0), (26, .getfield 34, 3, 0, 0), (29, .iconst 1, 1, 1, 0), (30, .iadd, 1, 0, 0), (31, .putfield 34, 3, 0, 0), (34, .aload_n 0, 1, 0, 0), (35, .iconst 1, 1, 1, 0), (36, .putfield 30, 3, 0, 0), (39, .aload_n 0, 1, 0, 0), (40, .getfield 34, 3, 0, 0), (43, .ireturn, 1, 0, 0)]
theorem tX9_addQuarrel_ok : (tX9_addQuarrel.all (q_okI cX9_addQuarrel)) = true := by decide +kernel

abbrev fdX9_addQuarrel : List (Nat ⊕ (Nat × Nat)) := [.inl 0, .inr (0, 0), .inr (0, 1), .inr (0, 2), .inr (0, 3), .inr (0, 4), .inr (0, 5)]
def spX9_addQuarrel : q_P := fun a w K => ∃ (Y : YT) (x y : Nat), w = treatyW 0 Y ∧ a = [.ref 0, .int (nI x), .int (nI y)] ∧ x < 16 ∧ y < 16 ∧ K (.inl (some (.int (nI (Y.2.2.2.2.2.2.2.1 + 1))))) (treatyW 0 (Y.1, Y.2.1, foesQ Y.2.2.1 x y, Y.2.2.2.1, Y.2.2.2.2.1, Y.2.2.2.2.2.1, Y.2.2.2.2.2.2.1, Y.2.2.2.2.2.2.2.1 + 1, 1))
abbrev csX9_addQuarrel : q_S := (3, 9, 0, 3, 0, 0, fdX9_addQuarrel, spX9_addQuarrel)
def EX9_addQuarrel : q_E := (tX9_addQuarrel, [], 3, flX9, [], [], [], [], [], [], 0, 0, 0, (some .int), [], [], 0, 0)
theorem okX9_addQuarrel (l : Launch) : q_Eok l RX9 cX9_addQuarrel EX9_addQuarrel := ⟨tX9_addQuarrel_ok, flX9_ok, q_nil, q_nil, q_nil, q_nil, q_nil, q_nil, (fun h => absurd h (by decide))⟩
set_option maxRecDepth 100000 in
set_option maxHeartbeats 4000000 in
theorem ctX9_addQuarrel (l : Launch) : q_CT l yX9_addQuarrel (.code yX9_addQuarrel cX9_addQuarrel 3 (some .int)) 0 0 0 spX9_addQuarrel := by
  refine q_ct_of EX9_addQuarrel (by decide +kernel) (okX9_addQuarrel l) rfl rfl rfl rfl rfl q_nil (fun ci h => by cases h) rfl ?_
  intro a w K h
  obtain ⟨Y, x, y, rfl, rfl, hx, hy, hK⟩ := h
  have hcx : (nI x).toNatClampNeg = x := nI_clamp (by omega)
  have hcy : (nI y).toNatClampNeg = y := nI_clamp (by omega)
  have hvx : vp_in (nI x) 16 := vp_in_nI (by omega) (by omega)
  have hvy : vp_in (nI y) 16 := vp_in_nI (by omega) (by omega)
  refine ⟨Nat.le_of_ble_eq_true rfl, fun C hC => hC _ _ _ _ _ _ ?_⟩
  refine ⟨hvx, hvx, hvy, hvy, rfl, ?_⟩
  show K (.inl (some (.int _))) _
  simp only [hcx, hcy, nI_1]
  exact hK
def foeF (f : Nat → Int32) (set : Int32) : Nat → Int32
  | 0 => 0
  | i + 1 => if (set >>> (nI i &&& 31)) &&& 1 = 0 then foeF f set i else foeF f set i ||| f i
def tX9_foesOf : List q_I := [(0, .iconst 0, 1, 0, 0), (1, .istore_n 2, 1, 0, 0), (2, .iconst 0, 1, 0, 0), (3, .istore_n 3, 1, 0, 0), (4, .iload_n 3, 1, 0, 0), (5, .bipush 16, 2, 16, 0), (7, .if_icmp .ge 26, 3, 0, 33), (10, .iload_n 1, 1, 0, 0), (11, .iload_n 3, 1, 0, 0), (12, .ishr, 1, 0, 0), (13, .iconst 1, 1, 1, 0), (14, .iand, 1, 0, 0), (15, .ifCond .eq 12, 3, 0, 27), (18, .iload_n 2, 1, 0, 0), (19, .aload_n 0, 1, 0, 0), (20, .getfield 18, 3, 0, 0), (23, .iload_n 3, 1, 0, 0), (24, .iaload, 1, 0, 0), (25, .ior, 1, 0, 0), (26, .istore_n 2, 1, 0, 0), (27, .iinc 3 1, 3, 1, 0), (30, .goto (-26), 3, 0, 4), (33, .iload_n 2, 1, 0, 0), (34, .ireturn, 1, 0, 0)]
theorem tX9_foesOf_ok : (tX9_foesOf.all (q_okI cX9_foesOf)) = true := by decide +kernel

abbrev fdX9_foesOf : List (Nat ⊕ (Nat × Nat)) := [.inl 0, .inr (0, 0), .inr (0, 1), .inr (0, 2), .inr (0, 3), .inr (0, 4), .inr (0, 5)]
def spX9_foesOf : q_P := fun a w K => ∃ (Y : YT) (x : Int32), w = treatyW 0 Y ∧ a = [.ref 0, .int x] ∧ K (.inl (some (.int (foeF Y.2.2.1 x 16)))) (treatyW 0 Y)
abbrev csX9_foesOf : q_S := (2, 9, 0, 4, 0, 0, fdX9_foesOf, spX9_foesOf)
def EX9_foesOf : q_E := (tX9_foesOf, [(4, [0, 1, 2, 3])], 4, flX9, [], [], [], [], [], [], 0, 0, 0, (some .int), [], [], 0, 0)
theorem okX9_foesOf (l : Launch) : q_Eok l RX9 cX9_foesOf EX9_foesOf := ⟨tX9_foesOf_ok, flX9_ok, q_nil, q_nil, q_nil, q_nil, q_nil, q_nil, (fun h => absurd h (by decide))⟩
set_option maxRecDepth 100000 in
set_option maxHeartbeats 4000000 in
theorem ctX9_foesOf (l : Launch) : q_CT l yX9_foesOf (.code yX9_foesOf cX9_foesOf 4 (some .int)) 0 0 0 spX9_foesOf := by
  refine q_ct_of EX9_foesOf (by decide +kernel) (okX9_foesOf l) rfl rfl rfl rfl rfl q_nil (fun ci h => by cases h) rfl ?_
  intro a w K h
  obtain ⟨Y, x, rfl, rfl, hK⟩ := h
  refine ⟨Nat.le_of_ble_eq_true rfl, fun C hC => ?_⟩
  have loop : ∀ k i, i + k = 16 → C 4 [(0, .ref 0), (1, .int x), (2, .int (foeF Y.2.2.1 x i)), (3, .int (nI i))] [] (treatyW 0 Y) 0 0 := by
    intro k
    induction k with
    | zero =>
      intro i hi
      have hi : i = 16 := by omega
      subst hi
      refine hC _ _ _ _ _ _ ?_
      exact And.intro (fun c1 => hK) (fun c1 => absurd (Int32.le_refl _) c1)
    | succ k ih =>
      intro i hi
      have hv : vp_in (nI i) 16 := vp_in_nI (by omega) (by omega)
      have hc : (nI i).toNatClampNeg = i := nI_clamp (by omega)
      have h9 := ih (i + 1) (by omega)
      rw [← nI_1] at h9
      refine hC _ _ _ _ _ _ ?_
      refine And.intro (fun c1 => absurd c1 (nI_ge (b := 16) (by omega) (by omega))) (fun c1 => And.intro (fun c2 => ?_) (fun c2 => ⟨hv, ?_⟩))
      · rw [foeF, if_pos c2] at h9; exact h9
      · rw [foeF, if_neg c2] at h9
        have e1 : Y.2.2.1 i = Y.2.2.1 (nI i).toNatClampNeg := by rw [hc]
        rw [e1] at h9
        exact h9
  exact hC _ _ _ _ _ _ (loop 16 0 (by omega))
def mayF (wd br : Nat → Int32) (k : Nat) (bars : Int32) : Bool := decide (wd k &&& (bars ||| br k) = 0)
def tX9_mayStand : List q_I := [(0, .aload_n 0, 1, 0, 0), (1, .getfield 15, 3, 0, 0), (4, .iload_n 1, 1, 0, 0), (5, .iaload, 1, 0, 0), (6, .iload_n 2, 1, 0, 0), (7, .aload_n 0, 1, 0, 0), (8, .getfield 21, 3, 0, 0), (11, .iload_n 1, 1, 0, 0), (12, .iaload, 1, 0, 0), (13, .ior, 1, 0, 0), (14, .iand, 1, 0, 0), (15, .ifCond .ne 7, 3, 0, 22), (18, .iconst 1, 1, 1, 0), (19, .goto 4, 3, 0, 23), (22, .iconst 0, 1, 0, 0), (23, .ireturn, 1, 0, 0)]
theorem tX9_mayStand_ok : (tX9_mayStand.all (q_okI cX9_mayStand)) = true := by decide +kernel

abbrev fdX9_mayStand : List (Nat ⊕ (Nat × Nat)) := [.inl 0, .inr (0, 0), .inr (0, 1), .inr (0, 2), .inr (0, 3), .inr (0, 4), .inr (0, 5)]
def spX9_mayStand : q_P := fun a w K => ∃ (Y : YT) (k : Nat) (x : Int32), w = treatyW 0 Y ∧ a = [.ref 0, .int (nI k), .int x] ∧ k < 36 ∧ K (.inl (some (.int (bI (mayF Y.2.1 Y.2.2.2.1 k x))))) (treatyW 0 Y)
abbrev csX9_mayStand : q_S := (3, 9, 0, 3, 0, 0, fdX9_mayStand, spX9_mayStand)
def EX9_mayStand : q_E := (tX9_mayStand, [], 3, flX9, [], [], [], [], [], [], 0, 0, 0, (some .boolean), [], [], 0, 0)
theorem okX9_mayStand (l : Launch) : q_Eok l RX9 cX9_mayStand EX9_mayStand := ⟨tX9_mayStand_ok, flX9_ok, q_nil, q_nil, q_nil, q_nil, q_nil, q_nil, (fun h => absurd h (by decide))⟩
set_option maxRecDepth 100000 in
set_option maxHeartbeats 4000000 in
theorem ctX9_mayStand (l : Launch) : q_CT l yX9_mayStand (.code yX9_mayStand cX9_mayStand 3 (some .boolean)) 0 0 0 spX9_mayStand := by
  refine q_ct_of EX9_mayStand (by decide +kernel) (okX9_mayStand l) rfl rfl rfl rfl rfl q_nil (fun ci h => by cases h) rfl ?_
  intro a w K h
  obtain ⟨Y, k, x, rfl, rfl, hk, hK⟩ := h
  have hv : vp_in (nI k) 36 := vp_in_nI (by omega) (by omega)
  have hc : (nI k).toNatClampNeg = k := nI_clamp (by omega)
  have hK : K (.inl (some (.int (bI (mayF Y.2.1 Y.2.2.2.1 (nI k).toNatClampNeg x))))) (treatyW 0 Y) := by rw [hc]; exact hK
  refine ⟨Nat.le_of_ble_eq_true rfl, fun C hC => hC _ _ _ _ _ _ ?_⟩
  refine ⟨hv, hv, And.intro (fun c => ⟨rfl, ?_⟩) (fun c => ⟨rfl, ?_⟩)⟩
  · rw [mayF, bI_f c] at hK; exact hK
  · rw [mayF, bI_t c] at hK; exact hK
def frA (cl wd br : Nat → Int32) (bars : Int32) : Nat → Nat → Nat → Nat
  | 0, _, x => x
  | n + 1, t, x => frA cl wd br bars n (t + 1) (if anyF (fun k => mayF wd br k bars) (t * 4) (tcF cl t) then x + 1 else x)
theorem frA_le (cl wd br : Nat → Int32) (bars : Int32) : ∀ n t x, frA cl wd br bars n t x ≤ x + n
  | 0, _, _ => Nat.le_refl _
  | n + 1, t, x => by
    rw [frA]
    split
    · have := frA_le cl wd br bars n (t + 1) (x + 1)
      omega
    · have := frA_le cl wd br bars n (t + 1) x
      omega
def tX9_countFree : List q_I := [(0, .iconst 0, 1, 0, 0), (1, .istore_n 3, 1, 0, 0), (2, .iload_n 1, 1, 0, 0), (3, .istore 4, 2, 0, 0), (5, .iload 4, 2, 0, 0), (7, .bipush 9, 2, 9, 0), (9, .if_icmp .ge 65, 3, 0, 74), (12, .iconst 0, 1, 0, 0), (13, .istore 5, 2, 0, 0), (15, .iconst 0, 1, 0, 0), (16, .istore 6, 2, 0, 0), (18, .iload 6, 2, 0, 0), (20, .aload_n 0, 1, 0, 0), (21, .getfield 11, 3, 0, 0), (24, .iload 4, 2, 0, 0), (26, .iaload, 1, 0, 0), (27, .if_icmp .ge 28, 3, 0, 55), (30, .iload 5, 2, 0, 0), (32, .ifCond .ne 23, 3, 0, 55), (35, .aload_n 0, 1, 0, 0), (36, .iload 4, 2, 0, 0), (38, .iconst 4, 1, 4, 0), (39, .imul, 1, 0, 0), (40, .iload 6, 2, 0, 0), (42, .iadd, 1, 0, 0), (43, .iload_n 2, 1, 0, 0), (44, .invokevirtual 57, 3, 0, 0), (47, .istore 5, 2, 0, 0), (49, .iinc 6 1, 3, 1, 0), (52, .goto (-34), 3, 0, 18), (55, .iload_n 3, 1, 0, 0), (56, .iload 5, 2, 0, 0), (58, .ifCond .eq 7, 3, 0, 65), (61, .iconst 1, 1, 1, 0), (62, .goto 4, 3, 0, 66), (65, .iconst 0, 1, 0, 0), (66, .iadd, 1, 0, 0), (67, .istore_n 3, 1, 0, 0), (68, .iinc 4 1, 3, 1, 0), (71, .goto (-66), 3, 0, 5), (74, .iload_n 3, 1, 0, 0), (75, .ireturn, 1, 0, 0)]
theorem tX9_countFree_ok : (tX9_countFree.all (q_okI cX9_countFree)) = true := by decide +kernel

abbrev fdX9_countFree : List (Nat ⊕ (Nat × Nat)) := [.inl 0, .inr (0, 0), .inr (0, 1), .inr (0, 2), .inr (0, 3), .inr (0, 4), .inr (0, 5)]
def spX9_countFree : q_P := fun a w K => ∃ (Y : YT) (t : Nat) (x : Int32), w = treatyW 0 Y ∧ a = [.ref 0, .int (nI t), .int x] ∧ tOk Y ∧ t ≤ 9 ∧ K (.inl (some (.int (nI (frA Y.1 Y.2.1 Y.2.2.2.1 x (9 - t) t 0))))) (treatyW 0 Y)
abbrev csX9_countFree : q_S := (3, 9, 1, 7, 0, 0, fdX9_countFree, spX9_countFree)
theorem coX9_57 (l : Launch) : q_CO l RX9 57 csX9_mayStand := ⟨yX9_mayStand, cX9_mayStand, (some .boolean), 2, ⟨by decide +kernel, by decide +kernel, by decide +kernel⟩, q_G_i 15 (by decide +kernel) rfl, Or.inl ⟨by decide, rfl, rfl, q_G_i 1115 (by decide +kernel) rfl, q_G_i 1117 (by decide +kernel) rfl, q_G_s (n := 9) 46 (by decide +kernel), Or.inl ⟨q_G_i 1118 (by decide +kernel) rfl, ctX9_mayStand l⟩⟩⟩
def EX9_countFree : q_E := (tX9_countFree, [(5, [0, 2, 3, 4]), (18, [0, 2, 3, 4, 5, 6])], 7, flX9, [(57, csX9_mayStand)], [], [], [], [], [], 1, 0, 0, (some .int), [], [], 0, 0)
theorem okX9_countFree (l : Launch) : q_Eok l RX9 cX9_countFree EX9_countFree := ⟨tX9_countFree_ok, flX9_ok, List.forall_mem_cons.mpr ⟨(coX9_57 l), q_nil⟩, q_nil, q_nil, q_nil, q_nil, q_nil, (fun h => absurd h (by decide))⟩
set_option maxRecDepth 100000 in
set_option maxHeartbeats 4000000 in
theorem ctX9_countFree (l : Launch) : q_CT l yX9_countFree (.code yX9_countFree cX9_countFree 7 (some .int)) 1 0 0 spX9_countFree := by
  refine q_ct_of EX9_countFree (by decide +kernel) (okX9_countFree l) rfl rfl rfl rfl rfl q_nil (fun ci h => by cases h) rfl ?_
  intro a w K h
  obtain ⟨Y, t0, x, rfl, rfl, ho, ht0, hK⟩ := h
  refine ⟨Nat.le_of_ble_eq_true rfl, fun C hC => ?_⟩
  have outer : ∀ k t z, t + k = 9 → frA Y.1 Y.2.1 Y.2.2.2.1 x (9 - t0) t0 0 = frA Y.1 Y.2.1 Y.2.2.2.1 x k t z → C 5 [(0, .ref 0), (2, .int x), (3, .int (nI z)), (4, .int (nI t))] [] (treatyW 0 Y) 0 0 := by
    intro k
    induction k with
    | zero =>
      intro t z ht he
      have ht : t = 9 := by omega
      subst ht
      refine hC _ _ _ _ _ _ ?_
      refine And.intro (fun c1 => ?_) (fun c1 => absurd (Int32.le_refl _) c1)
      rw [he, frA] at hK; exact hK
    | succ k ih =>
      intro t z ht he
      have hv : vp_in (nI t) 9 := vp_in_nI (by omega) (by omega)
      have hc : (nI t).toNatClampNeg = t := nI_clamp (by omega)
      obtain ⟨h3, h4⟩ := ho t (by omega)
      rw [frA] at he
      refine hC _ _ _ _ _ _ ?_
      refine And.intro (fun c1 => absurd c1 (nI_ge (b := 9) (by omega) (by omega))) (fun c1 => ?_)
      have done_ : ∀ b, anyF (fun k => mayF Y.2.1 Y.2.2.2.1 k x) (t * 4) (tcF Y.1 t) = b → C 5 [(0, .ref 0), (2, .int x), (3, .int (nI z + bI b)), (4, .int (nI t + 1))] [] (treatyW 0 Y) 0 0 := by
        intro b hb
        rw [hb] at he
        cases b with
        | true =>
          have h9 := ih (t + 1) (z + 1) (by omega) he
          rw [← nI_1, ← nI_1] at h9
          exact h9
        | false =>
          have h9 := ih (t + 1) z (by omega) he
          rw [← nI_1] at h9
          show C 5 [(0, .ref 0), (2, .int x), (3, .int (nI z + 0)), (4, .int (nI t + 1))] [] (treatyW 0 Y) 0 0
          rw [Int32.add_zero]
          exact h9
      have inner : ∀ k2 i b, i + k2 = tcF Y.1 t → anyF (fun k => mayF Y.2.1 Y.2.2.2.1 k x) (t * 4) (tcF Y.1 t) = (b || anyF (fun k => mayF Y.2.1 Y.2.2.2.1 k x) (t * 4 + i) k2) → C 18 [(0, .ref 0), (2, .int x), (3, .int (nI z)), (4, .int (nI t)), (5, .int (bI b)), (6, .int (nI i))] [] (treatyW 0 Y) 0 0 := by
        intro k2
        induction k2 with
        | zero =>
          intro i b hi hb
          rw [anyF, Bool.or_false] at hb
          have h9 := done_ b hb
          refine hC _ _ _ _ _ _ ?_
          refine ⟨hv, And.intro (fun c2 => ?_) (fun c2 => absurd (by show Y.1 (nI t).toNatClampNeg ≤ nI i; rw [hc, h3]; exact nI_le (by omega) (by omega)) c2)⟩
          refine And.intro (fun c3 => ?_) (fun c3 => ?_)
          · rw [bI_0.mp c3] at h9; exact h9
          · rw [bI_n0.mp c3] at h9; exact h9
        | succ k2 ih2 =>
          intro i b hi hb
          rw [anyF] at hb
          have e2 : nI t * 4 + nI i = nI (t * 4 + i) := by rw [nI_mul4, nI_add]
          refine hC _ _ _ _ _ _ ?_
          refine ⟨hv, And.intro (fun c2 => absurd (show Y.1 (nI t).toNatClampNeg ≤ nI i from c2) (by rw [hc, h3]; exact nI_ge (by omega) (by omega))) (fun c2 => And.intro (fun c3 => ?_) (fun c3 => ?_))⟩
          · have c3 := bI_n0.mp c3
            rw [c3, Bool.true_or] at hb
            have h9 := done_ true hb
            refine And.intro (fun c4 => absurd (bI_0.mp c4) (by rw [c3]; decide)) (fun c4 => ?_)
            exact h9
          · have c3 := bI_0.mp c3
            rw [c3, Bool.false_or] at hb
            refine ⟨Y, t * 4 + i, x, rfl, (by rw [← e2]), by omega, ?_⟩
            have h9 := ih2 (i + 1) (mayF Y.2.1 Y.2.2.2.1 (t * 4 + i) x) (by omega) (by rw [hb, Nat.add_assoc])
            rw [← nI_1 i] at h9
            exact h9
      exact inner (tcF Y.1 t) 0 false (by omega) (by rw [Bool.false_or]; rfl)
  exact hC _ _ _ _ _ _ (outer (9 - t0) t0 0 (by omega) rfl)
def keepF (tr ch : Nat → Int32) (t : Nat) : Nat → Nat → Int32
  | 0 => ch
  | i + 1 => upd (keepF tr ch t i) i (if i < t then tr i else -2)
def tX9_keepTried : List q_I := [(0, .iconst 0, 1, 0, 0), (1, .istore_n 2, 1, 0, 0), (2, .iload_n 2, 1, 0, 0), (3, .bipush 9, 2, 9, 0), (5, .if_icmp .ge 31, 3, 0, 36), (8, .aload_n 0, 1, 0, 0), (9, .getfield 27, 3, 0, 0), (12, .iload_n 2, 1, 0, 0), (13, .iload_n 2, 1, 0, 0), (14, .iload_n 1, 1, 0, 0), (15, .if_icmp .ge 12, 3, 0, 27), (18, .aload_n 0, 1, 0, 0), (19, .getfield 24, 3, 0, 0), (22, .iload_n 2, 1, 0, 0), (23, .iaload, 1, 0, 0), (24, .goto 5, 3, 0, 29), (27, .bipush (-2), 2, (-2), 0), (29, .iastore, 1, 0, 0), (30, .iinc 2 1, 3, 1, 0), (33, .goto (-31), 3, 0, 2), (36, .return_, 1, 0, 0)]
theorem tX9_keepTried_ok : (tX9_keepTried.all (q_okI cX9_keepTried)) = true := by decide +kernel

abbrev fdX9_keepTried : List (Nat ⊕ (Nat × Nat)) := [.inl 0, .inr (0, 0), .inr (0, 1), .inr (0, 2), .inr (0, 3), .inr (0, 4), .inr (0, 5)]
def spX9_keepTried : q_P := fun a w K => ∃ (Y : YT) (t : Nat), w = treatyW 0 Y ∧ a = [.ref 0, .int (nI t)] ∧ t ≤ 9 ∧ K (.inl none) (treatyW 0 (Y.1, Y.2.1, Y.2.2.1, Y.2.2.2.1, Y.2.2.2.2.1, keepF Y.2.2.2.2.1 Y.2.2.2.2.2.1 t 9, Y.2.2.2.2.2.2))
abbrev csX9_keepTried : q_S := (2, 9, 0, 3, 0, 0, fdX9_keepTried, spX9_keepTried)
def EX9_keepTried : q_E := (tX9_keepTried, [(2, [0, 1, 2])], 3, flX9, [], [], [], [], [], [], 0, 0, 0, none, [], [], 0, 0)
theorem okX9_keepTried (l : Launch) : q_Eok l RX9 cX9_keepTried EX9_keepTried := ⟨tX9_keepTried_ok, flX9_ok, q_nil, q_nil, q_nil, q_nil, q_nil, q_nil, (fun h => absurd h (by decide))⟩
set_option maxRecDepth 100000 in
set_option maxHeartbeats 4000000 in
theorem ctX9_keepTried (l : Launch) : q_CT l yX9_keepTried (.code yX9_keepTried cX9_keepTried 3 none) 0 0 0 spX9_keepTried := by
  refine q_ct_of EX9_keepTried (by decide +kernel) (okX9_keepTried l) rfl rfl rfl rfl rfl q_nil (fun ci h => by cases h) rfl ?_
  intro a w K h
  obtain ⟨Y, t, rfl, rfl, ht, hK⟩ := h
  refine ⟨Nat.le_of_ble_eq_true rfl, fun C hC => ?_⟩
  have loop : ∀ k i, i + k = 9 → C 2 [(0, .ref 0), (1, .int (nI t)), (2, .int (nI i))] [] (treatyW 0 (Y.1, Y.2.1, Y.2.2.1, Y.2.2.2.1, Y.2.2.2.2.1, keepF Y.2.2.2.2.1 Y.2.2.2.2.2.1 t i, Y.2.2.2.2.2.2)) 0 0 := by
    intro k
    induction k with
    | zero =>
      intro i hi
      have hi : i = 9 := by omega
      subst hi
      refine hC _ _ _ _ _ _ ?_
      exact And.intro (fun c1 => hK) (fun c1 => absurd (Int32.le_refl _) c1)
    | succ k ih =>
      intro i hi
      have hv : vp_in (nI i) 9 := vp_in_nI (by omega) (by omega)
      have hc : (nI i).toNatClampNeg = i := nI_clamp (by omega)
      have h9 := ih (i + 1) (by omega)
      rw [← nI_1, keepF] at h9
      refine hC _ _ _ _ _ _ ?_
      refine And.intro (fun c1 => absurd c1 (nI_ge (b := 9) (by omega) (by omega))) (fun c1 => And.intro (fun c2 => ⟨hv, ?_⟩) (fun c2 => ⟨hv, hv, ?_⟩))
      · rw [if_neg (fun z => absurd c2 (nI_ge z (by omega)))] at h9
        have e1 : ∀ (f : Nat → Int32) (z : Int32), upd f i z = upd f (nI i).toNatClampNeg z := fun f z => by rw [hc]
        rw [e1] at h9
        exact h9
      · rw [if_pos (lt_of_nI (by omega) (by omega) c2)] at h9
        have e1 : ∀ (f : Nat → Int32) (z : Int32), upd f i z = upd f (nI i).toNatClampNeg z := fun f z => by rw [hc]
        have e2 : Y.2.2.2.2.1 i = Y.2.2.2.2.1 (nI i).toNatClampNeg := by rw [hc]
        rw [e1, e2] at h9
        exact h9
  exact hC _ _ _ _ _ _ (loop 9 0 (by omega))
/-- tried, chosen, most -/
abbrev chS : Type := (Nat → Int32) × (Nat → Int32) × Int32
def yCh (Y : YT) (s : chS) : YT := (Y.1, Y.2.1, Y.2.2.1, Y.2.2.2.1, s.1, s.2.1, s.2.2, Y.2.2.2.2.2.2.2)
def chK (t th : Nat) (s : chS) : chS := if s.2.2 < nI th then (s.1, keepF s.1 s.2.1 t 9, nI th) else s
def chO (rec : Nat → Int32 → chS → chS) (wd br : Nat → Int32) (t th : Nat) (bars : Int32) (s : chS) (i : Nat) : chS := if mayF wd br (t * 4 + i) bars then rec (th + 1) (bars ||| br (t * 4 + i)) (upd s.1 t (nI i), s.2.1, s.2.2) else s
def chE (rec : Nat → Int32 → chS → chS) (t th : Nat) (bars : Int32) (s : chS) : chS := rec th bars (upd s.1 t (-2), s.2.1, s.2.2)
def chB (rec : Nat → Int32 → chS → chS) (cl wd br : Nat → Int32) (t th : Nat) (bars : Int32) (s : chS) : chS :=
  if nI (th + frA cl wd br bars (9 - t) t 0) ≤ (chK t th s).2.2 then chK t th s
  else chE rec t th bars (foldF (chO rec wd br t th bars) 0 (tcF cl t) (chK t th s))
def chF (cl wd br : Nat → Int32) : Nat → Nat → Nat → Int32 → chS → chS
  | 0, t, th, _, s => chK t th s
  | n + 1, t, th, bars, s => chB (chF cl wd br n (t + 1)) cl wd br t th bars s
def tX9_choose : List q_I := [(0, .iload_n 2, 1, 0, 0), (1, .aload_n 0, 1, 0, 0), (2, .getfield 42, 3, 0, 0), (5, .if_icmp .le 13, 3, 0, 18), (8, .aload_n 0, 1, 0, 0), (9, .iload_n 1, 1, 0, 0), (10, .invokevirtual 49, 3, 0, 0), (13, .aload_n 0, 1, 0, 0), (14, .iload_n 2, 1, 0, 0), (15, .putfield 42, 3, 0, 0), (18, .iload_n 1, 1, 0, 0), (19, .bipush 9, 2, 9, 0), (21, .if_icmp .ge 18, 3, 0, 39), (24, .iload_n 2, 1, 0, 0), (25, .aload_n 0, 1, 0, 0), (26, .iload_n 1, 1, 0, 0), (27, .iload_n 3, 1, 0, 0), (28, .invokevirtual 53, 3, 0, 0), (31, .iadd, 1, 0, 0), (32, .aload_n 0, 1, 0, 0), (33, .getfield 42, 3, 0, 0), (36, .if_icmp .gt 4, 3, 0, 40), (39, .return_, 1, 0, 0), (40, .iconst 0, 1, 0, 0), (41, .istore 4, 2, 0, 0), (43, .iload 4, 2, 0, 0), (45, .aload_n 0, 1, 0, 0), (46, .getfield 11, 3, 0, 0), (49, .iload_n 1, 1, 0, 0), (50, .iaload, 1, 0, 0), (51, .if_icmp .ge 54, 3, 0, 105), (54, .iload_n 1, 1, 0, 0), (55, .iconst 4, 1, 4, 0), (56, .imul, 1, 0, 0), (57, .iload 4, 2, 0, 0), (59, .iadd, 1, 0, 0), (60, .istore 5, 2, 0, 0), (62, .aload_n 0, 1, 0, 0), (63, .iload 5, 2, 0, 0), (65, .iload_n 3, 1, 0, 0), (66, .invokevirtual 57, 3, 0, 0), (69, .ifCond .eq 30, 3, 0, 99), (72, .aload_n 0, 1, 0, 0), (73, .getfield 24, 3, 0, 0), (76, .iload_n 1, 1, 0, 0), (77, .iload 4, 2, 0, 0), (79, .iastore, 1, 0, 0), (80, .aload_n 0, 1, 0, 0), (81, .iload_n 1, 1, 0, 0), (82, .iconst 1, 1, 1, 0), (83, .iadd, 1, 0, 0), (84, .iload_n 2, 1, 0, 0), (85, .iconst 1, 1, 1, 0), (86, .iadd, 1, 0, 0), (87, .iload_n 3, 1, 0, 0), (88, .aload_n 0, 1, 0, 0), (89, .getfield 21, 3, 0, 0), (92, .iload 5, 2, 0, 0), (94, .iaload, 1, 0, 0), (95, .ior, 1, 0, 0), (96, .invokevirtual 45, 3, 0, 0), (99, .iinc 4 1, 3, 1, 0), (102, .goto (-59), 3, 0, 43), (105, .aload_n 0, 1, 0, 0), (106, .getfield 24, 3, 0, 0), (109, .iload_n 1, 1, 0, 0), (110, .bipush (-2), 2, (-2), 0), (112, .iastore, 1, 0, 0), (113, .aload_n 0, 1, 0, 0), (114, .iload_n 1, 1, 0, 0), (115, .iconst 1, 1, 1, 0), (116, .iadd, 1, 0, 0), (117, .iload_n 2, 1, 0, 0), (118, .iload_n 3, 1, 0, 0), (119, .invokevirtual 45, 3, 0, 0), (122, .return_, 1, 0, 0)]
theorem tX9_choose_ok : (tX9_choose.all (q_okI cX9_choose)) = true := by decide +kernel

abbrev fdX9_choose : List (Nat ⊕ (Nat × Nat)) := [.inl 0, .inr (0, 0), .inr (0, 1), .inr (0, 2), .inr (0, 3), .inr (0, 4), .inr (0, 5)]
def spX9_choose (n t : Nat) : q_P := fun a w K => ∃ (Y : YT) (th : Nat) (x : Int32), w = treatyW 0 Y ∧ a = [.ref 0, .int (nI t), .int (nI th), .int x] ∧ tOk Y ∧ th ≤ t ∧ K (.inl none) (treatyW 0 (yCh Y (chF Y.1 Y.2.1 Y.2.2.2.1 n t th x (Y.2.2.2.2.1, Y.2.2.2.2.2.1, Y.2.2.2.2.2.2.1))))
theorem coX9_49 (l : Launch) : q_CO l RX9 49 csX9_keepTried := ⟨yX9_keepTried, cX9_keepTried, none, 1, ⟨by decide +kernel, by decide +kernel, by decide +kernel⟩, q_G_i 15 (by decide +kernel) rfl, Or.inl ⟨by decide, rfl, rfl, q_G_i 1107 (by decide +kernel) rfl, q_G_i 1109 (by decide +kernel) rfl, q_G_s (n := 9) 44 (by decide +kernel), Or.inl ⟨q_G_i 1110 (by decide +kernel) rfl, ctX9_keepTried l⟩⟩⟩
theorem coX9_53 (l : Launch) : q_CO l RX9 53 csX9_countFree := ⟨yX9_countFree, cX9_countFree, (some .int), 2, ⟨by decide +kernel, by decide +kernel, by decide +kernel⟩, q_G_i 15 (by decide +kernel) rfl, Or.inl ⟨by decide, rfl, rfl, q_G_i 1111 (by decide +kernel) rfl, q_G_i 1113 (by decide +kernel) rfl, q_G_s (n := 9) 45 (by decide +kernel), Or.inl ⟨q_G_i 1114 (by decide +kernel) rfl, ctX9_countFree l⟩⟩⟩
abbrev csX9_choose_0 : q_S := (4, 9, 2, 6, 0, 0, fdX9_choose, spX9_choose 0 9)
def EX9_choose_0 : q_E := (tX9_choose, [(18, [0, 1, 2, 3]), (43, [0, 1, 2, 3, 4])], 6, flX9, [(49, csX9_keepTried), (53, csX9_countFree), (57, csX9_mayStand)], [], [], [], [], [], 2, 0, 0, none, [], [], 0, 0)
theorem okX9_choose_0 (l : Launch) : q_Eok l RX9 cX9_choose EX9_choose_0 := ⟨tX9_choose_ok, flX9_ok, List.forall_mem_cons.mpr ⟨(coX9_49 l), List.forall_mem_cons.mpr ⟨(coX9_53 l), List.forall_mem_cons.mpr ⟨(coX9_57 l), q_nil⟩⟩⟩, q_nil, q_nil, q_nil, q_nil, q_nil, (fun h => absurd h (by decide))⟩
set_option maxRecDepth 100000 in
set_option maxHeartbeats 4000000 in
theorem ctX9_choose_0 (l : Launch) : q_CT l yX9_choose (.code yX9_choose cX9_choose 6 none) 2 0 0 (spX9_choose 0 9) := by
  refine q_ct_of EX9_choose_0 (by decide +kernel) (okX9_choose_0 l) rfl rfl rfl rfl rfl q_nil (fun ci h => by cases h) rfl ?_
  intro a w K h
  obtain ⟨Y, th, x, rfl, rfl, ho, hth, hK⟩ := h
  refine ⟨Nat.le_of_ble_eq_true rfl, fun C hC => hC _ _ _ _ _ _ ?_⟩
  have hK : K (.inl none) (treatyW 0 (yCh Y (chK 9 th (Y.2.2.2.2.1, Y.2.2.2.2.2.1, Y.2.2.2.2.2.2.1)))) := hK
  refine And.intro (fun c => ?_) (fun c => ?_)
  · rw [chK, if_neg (Int32.not_lt.mpr c)] at hK
    exact hC _ _ _ _ _ _ (And.intro (fun _ => hK) (fun c2 => absurd (Int32.le_refl _) c2))
  · rw [chK, if_pos (Int32.not_le.mp c)] at hK
    refine ⟨Y, 9, rfl, rfl, by omega, ?_⟩
    exact hC _ _ _ _ _ _ (And.intro (fun _ => hK) (fun c2 => absurd (Int32.le_refl _) c2))
abbrev csX9_choose_1 : q_S := (4, 9, 3, 6, 0, 0, fdX9_choose, spX9_choose 1 8)
theorem coX9_45_0 (l : Launch) : q_CO l RX9 45 csX9_choose_0 := ⟨yX9_choose, cX9_choose, none, 3, ⟨by decide +kernel, by decide +kernel, by decide +kernel⟩, q_G_i 15 (by decide +kernel) rfl, Or.inl ⟨by decide, rfl, rfl, q_G_i 1103 (by decide +kernel) rfl, q_G_i 1105 (by decide +kernel) rfl, q_G_s (n := 9) 43 (by decide +kernel), Or.inl ⟨q_G_i 1106 (by decide +kernel) rfl, ctX9_choose_0 l⟩⟩⟩
def EX9_choose_1 : q_E := (tX9_choose, [(18, [0, 1, 2, 3]), (43, [0, 1, 2, 3, 4])], 6, flX9, [(49, csX9_keepTried), (53, csX9_countFree), (57, csX9_mayStand), (45, csX9_choose_0)], [], [], [], [], [], 3, 0, 0, none, [], [], 0, 0)
theorem okX9_choose_1 (l : Launch) : q_Eok l RX9 cX9_choose EX9_choose_1 := ⟨tX9_choose_ok, flX9_ok, List.forall_mem_cons.mpr ⟨(coX9_49 l), List.forall_mem_cons.mpr ⟨(coX9_53 l), List.forall_mem_cons.mpr ⟨(coX9_57 l), List.forall_mem_cons.mpr ⟨(coX9_45_0 l), q_nil⟩⟩⟩⟩, q_nil, q_nil, q_nil, q_nil, q_nil, (fun h => absurd h (by decide))⟩
set_option maxRecDepth 100000 in
set_option maxHeartbeats 4000000 in
theorem ctX9_choose_1 (l : Launch) : q_CT l yX9_choose (.code yX9_choose cX9_choose 6 none) 3 0 0 (spX9_choose 1 8) := by
  refine q_ct_of EX9_choose_1 (by decide +kernel) (okX9_choose_1 l) rfl rfl rfl rfl rfl q_nil (fun ci h => by cases h) rfl ?_
  intro a w K h
  obtain ⟨Y, th, x, rfl, rfl, ho, hth, hK⟩ := h
  refine ⟨Nat.le_of_ble_eq_true rfl, fun C hC => hC _ _ _ _ _ _ ?_⟩
  have hK : K (.inl none) (treatyW 0 (yCh Y (chB (chF Y.1 Y.2.1 Y.2.2.2.1 0 9) Y.1 Y.2.1 Y.2.2.2.1 8 th x (Y.2.2.2.2.1, Y.2.2.2.2.2.1, Y.2.2.2.2.2.2.1)))) := hK
  have hc : (nI 8).toNatClampNeg = 8 := nI_clamp (by omega)
  have hv : vp_in (nI 8) 9 := vp_in_nI (by omega) (by omega)
  have hfr := frA_le Y.1 Y.2.1 Y.2.2.2.1 x (9 - 8) 8 0
  obtain ⟨h3, h4⟩ := ho 8 (by omega)
  have eT : nI 8 + 1 = nI 9 := nI_1 _
  have main : ∀ s, K (.inl none) (treatyW 0 (yCh Y (if nI (th + frA Y.1 Y.2.1 Y.2.2.2.1 x (9 - 8) 8 0) ≤ s.2.2 then s else chE (chF Y.1 Y.2.1 Y.2.2.2.1 0 9) 8 th x (foldF (chO (chF Y.1 Y.2.1 Y.2.2.2.1 0 9) Y.2.1 Y.2.2.2.1 8 th x) 0 (tcF Y.1 8) s)))) → C 18 [(0, .ref 0), (1, .int (nI 8)), (2, .int (nI th)), (3, .int x)] [] (treatyW 0 (yCh Y s)) 0 0 := by
    intro s hK
    refine hC _ _ _ _ _ _ ?_
    refine And.intro (fun c => absurd c (by decide)) (fun c => ?_)
    refine ⟨yCh Y s, 8, x, rfl, rfl, ho, by omega, And.intro (fun c2 => ?_) (fun c2 => ?_)⟩
    · have c2 : s.2.2 < nI th + nI (frA Y.1 Y.2.1 Y.2.2.2.1 x (9 - 8) 8 0) := c2
      rw [nI_add] at c2
      rw [if_neg (Int32.not_le.mpr c2)] at hK
      have loop : ∀ k i s, i + k = tcF Y.1 8 → K (.inl none) (treatyW 0 (yCh Y (chE (chF Y.1 Y.2.1 Y.2.2.2.1 0 9) 8 th x (foldF (chO (chF Y.1 Y.2.1 Y.2.2.2.1 0 9) Y.2.1 Y.2.2.2.1 8 th x) i k s)))) → C 43 [(0, .ref 0), (1, .int (nI 8)), (2, .int (nI th)), (3, .int x), (4, .int (nI i))] [] (treatyW 0 (yCh Y s)) 0 0 := by
        intro k
        induction k with
        | zero =>
          intro i s hi hK
          refine hC _ _ _ _ _ _ ?_
          refine ⟨hv, And.intro (fun c3 => ?_) (fun c3 => absurd (by show Y.1 (nI 8).toNatClampNeg ≤ nI i; rw [hc, h3]; exact nI_le (by omega) (by omega)) c3)⟩
          exact ⟨hv, yCh Y (upd s.1 8 (-2), s.2.1, s.2.2), th, x, rfl, (by rw [← eT]), ho, by omega, hK⟩
        | succ k ih =>
          intro i s hi hK
          rw [foldF] at hK
          have e2 : nI 8 * 4 + nI i = nI (8 * 4 + i) := by rw [nI_mul4, nI_add]
          have hc2 : (nI 8 * 4 + nI i).toNatClampNeg = 8 * 4 + i := by rw [e2]; exact nI_clamp (by omega)
          have hv2 : vp_in (nI 8 * 4 + nI i) 36 := by rw [e2]; exact vp_in_nI (by omega) (by omega)
          refine hC _ _ _ _ _ _ ?_
          refine ⟨hv, And.intro (fun c3 => absurd (show Y.1 (nI 8).toNatClampNeg ≤ nI i from c3) (by rw [hc, h3]; exact nI_ge (by omega) (by omega))) (fun c3 => ?_)⟩
          refine ⟨yCh Y s, 8 * 4 + i, x, rfl, (by rw [← e2]), by omega, And.intro (fun c4 => ?_) (fun c4 => ?_)⟩
          · have c4 : mayF Y.2.1 Y.2.2.2.1 (8 * 4 + i) x = false := bI_0.mp c4
            rw [chO, c4] at hK
            have h9 := ih (i + 1) s (by omega) hK
            rw [← nI_1 i] at h9
            exact h9
          · have c4 : mayF Y.2.1 Y.2.2.2.1 (8 * 4 + i) x = true := bI_n0.mp c4
            rw [chO, c4, if_pos rfl, ← hc2] at hK
            refine ⟨hv, hv2, yCh Y (upd s.1 8 (nI i), s.2.1, s.2.2), th + 1, _, rfl, (by rw [← eT, ← nI_1 th]), ho, by omega, ?_⟩
            have h9 := ih (i + 1) _ (by omega) hK
            rw [← nI_1 i] at h9
            exact h9
      exact loop (tcF Y.1 8) 0 s (by omega) hK
    · have c2 : ¬ s.2.2 < nI th + nI (frA Y.1 Y.2.1 Y.2.2.2.1 x (9 - 8) 8 0) := c2
      rw [nI_add] at c2
      rw [if_pos (Int32.not_lt.mp c2)] at hK
      exact hK
  refine And.intro (fun c => ?_) (fun c => ?_)
  · have e : chK 8 th (Y.2.2.2.2.1, Y.2.2.2.2.2.1, Y.2.2.2.2.2.2.1) = (Y.2.2.2.2.1, Y.2.2.2.2.2.1, Y.2.2.2.2.2.2.1) := if_neg (Int32.not_lt.mpr c)
    rw [chB, e] at hK
    exact main _ hK
  · have e : chK 8 th (Y.2.2.2.2.1, Y.2.2.2.2.2.1, Y.2.2.2.2.2.2.1) = (Y.2.2.2.2.1, keepF Y.2.2.2.2.1 Y.2.2.2.2.2.1 8 9, nI th) := if_pos (Int32.not_le.mp c)
    rw [chB, e] at hK
    refine ⟨Y, 8, rfl, rfl, by omega, ?_⟩
    exact main _ hK
abbrev csX9_choose_2 : q_S := (4, 9, 4, 6, 0, 0, fdX9_choose, spX9_choose 2 7)
theorem coX9_45_1 (l : Launch) : q_CO l RX9 45 csX9_choose_1 := ⟨yX9_choose, cX9_choose, none, 3, ⟨by decide +kernel, by decide +kernel, by decide +kernel⟩, q_G_i 15 (by decide +kernel) rfl, Or.inl ⟨by decide, rfl, rfl, q_G_i 1103 (by decide +kernel) rfl, q_G_i 1105 (by decide +kernel) rfl, q_G_s (n := 9) 43 (by decide +kernel), Or.inl ⟨q_G_i 1106 (by decide +kernel) rfl, ctX9_choose_1 l⟩⟩⟩
def EX9_choose_2 : q_E := (tX9_choose, [(18, [0, 1, 2, 3]), (43, [0, 1, 2, 3, 4])], 6, flX9, [(49, csX9_keepTried), (53, csX9_countFree), (57, csX9_mayStand), (45, csX9_choose_1)], [], [], [], [], [], 4, 0, 0, none, [], [], 0, 0)
theorem okX9_choose_2 (l : Launch) : q_Eok l RX9 cX9_choose EX9_choose_2 := ⟨tX9_choose_ok, flX9_ok, List.forall_mem_cons.mpr ⟨(coX9_49 l), List.forall_mem_cons.mpr ⟨(coX9_53 l), List.forall_mem_cons.mpr ⟨(coX9_57 l), List.forall_mem_cons.mpr ⟨(coX9_45_1 l), q_nil⟩⟩⟩⟩, q_nil, q_nil, q_nil, q_nil, q_nil, (fun h => absurd h (by decide))⟩
set_option maxRecDepth 100000 in
set_option maxHeartbeats 4000000 in
theorem ctX9_choose_2 (l : Launch) : q_CT l yX9_choose (.code yX9_choose cX9_choose 6 none) 4 0 0 (spX9_choose 2 7) := by
  refine q_ct_of EX9_choose_2 (by decide +kernel) (okX9_choose_2 l) rfl rfl rfl rfl rfl q_nil (fun ci h => by cases h) rfl ?_
  intro a w K h
  obtain ⟨Y, th, x, rfl, rfl, ho, hth, hK⟩ := h
  refine ⟨Nat.le_of_ble_eq_true rfl, fun C hC => hC _ _ _ _ _ _ ?_⟩
  have hK : K (.inl none) (treatyW 0 (yCh Y (chB (chF Y.1 Y.2.1 Y.2.2.2.1 1 8) Y.1 Y.2.1 Y.2.2.2.1 7 th x (Y.2.2.2.2.1, Y.2.2.2.2.2.1, Y.2.2.2.2.2.2.1)))) := hK
  have hc : (nI 7).toNatClampNeg = 7 := nI_clamp (by omega)
  have hv : vp_in (nI 7) 9 := vp_in_nI (by omega) (by omega)
  have hfr := frA_le Y.1 Y.2.1 Y.2.2.2.1 x (9 - 7) 7 0
  obtain ⟨h3, h4⟩ := ho 7 (by omega)
  have eT : nI 7 + 1 = nI 8 := nI_1 _
  have main : ∀ s, K (.inl none) (treatyW 0 (yCh Y (if nI (th + frA Y.1 Y.2.1 Y.2.2.2.1 x (9 - 7) 7 0) ≤ s.2.2 then s else chE (chF Y.1 Y.2.1 Y.2.2.2.1 1 8) 7 th x (foldF (chO (chF Y.1 Y.2.1 Y.2.2.2.1 1 8) Y.2.1 Y.2.2.2.1 7 th x) 0 (tcF Y.1 7) s)))) → C 18 [(0, .ref 0), (1, .int (nI 7)), (2, .int (nI th)), (3, .int x)] [] (treatyW 0 (yCh Y s)) 0 0 := by
    intro s hK
    refine hC _ _ _ _ _ _ ?_
    refine And.intro (fun c => absurd c (by decide)) (fun c => ?_)
    refine ⟨yCh Y s, 7, x, rfl, rfl, ho, by omega, And.intro (fun c2 => ?_) (fun c2 => ?_)⟩
    · have c2 : s.2.2 < nI th + nI (frA Y.1 Y.2.1 Y.2.2.2.1 x (9 - 7) 7 0) := c2
      rw [nI_add] at c2
      rw [if_neg (Int32.not_le.mpr c2)] at hK
      have loop : ∀ k i s, i + k = tcF Y.1 7 → K (.inl none) (treatyW 0 (yCh Y (chE (chF Y.1 Y.2.1 Y.2.2.2.1 1 8) 7 th x (foldF (chO (chF Y.1 Y.2.1 Y.2.2.2.1 1 8) Y.2.1 Y.2.2.2.1 7 th x) i k s)))) → C 43 [(0, .ref 0), (1, .int (nI 7)), (2, .int (nI th)), (3, .int x), (4, .int (nI i))] [] (treatyW 0 (yCh Y s)) 0 0 := by
        intro k
        induction k with
        | zero =>
          intro i s hi hK
          refine hC _ _ _ _ _ _ ?_
          refine ⟨hv, And.intro (fun c3 => ?_) (fun c3 => absurd (by show Y.1 (nI 7).toNatClampNeg ≤ nI i; rw [hc, h3]; exact nI_le (by omega) (by omega)) c3)⟩
          exact ⟨hv, yCh Y (upd s.1 7 (-2), s.2.1, s.2.2), th, x, rfl, (by rw [← eT]), ho, by omega, hK⟩
        | succ k ih =>
          intro i s hi hK
          rw [foldF] at hK
          have e2 : nI 7 * 4 + nI i = nI (7 * 4 + i) := by rw [nI_mul4, nI_add]
          have hc2 : (nI 7 * 4 + nI i).toNatClampNeg = 7 * 4 + i := by rw [e2]; exact nI_clamp (by omega)
          have hv2 : vp_in (nI 7 * 4 + nI i) 36 := by rw [e2]; exact vp_in_nI (by omega) (by omega)
          refine hC _ _ _ _ _ _ ?_
          refine ⟨hv, And.intro (fun c3 => absurd (show Y.1 (nI 7).toNatClampNeg ≤ nI i from c3) (by rw [hc, h3]; exact nI_ge (by omega) (by omega))) (fun c3 => ?_)⟩
          refine ⟨yCh Y s, 7 * 4 + i, x, rfl, (by rw [← e2]), by omega, And.intro (fun c4 => ?_) (fun c4 => ?_)⟩
          · have c4 : mayF Y.2.1 Y.2.2.2.1 (7 * 4 + i) x = false := bI_0.mp c4
            rw [chO, c4] at hK
            have h9 := ih (i + 1) s (by omega) hK
            rw [← nI_1 i] at h9
            exact h9
          · have c4 : mayF Y.2.1 Y.2.2.2.1 (7 * 4 + i) x = true := bI_n0.mp c4
            rw [chO, c4, if_pos rfl, ← hc2] at hK
            refine ⟨hv, hv2, yCh Y (upd s.1 7 (nI i), s.2.1, s.2.2), th + 1, _, rfl, (by rw [← eT, ← nI_1 th]), ho, by omega, ?_⟩
            have h9 := ih (i + 1) _ (by omega) hK
            rw [← nI_1 i] at h9
            exact h9
      exact loop (tcF Y.1 7) 0 s (by omega) hK
    · have c2 : ¬ s.2.2 < nI th + nI (frA Y.1 Y.2.1 Y.2.2.2.1 x (9 - 7) 7 0) := c2
      rw [nI_add] at c2
      rw [if_pos (Int32.not_lt.mp c2)] at hK
      exact hK
  refine And.intro (fun c => ?_) (fun c => ?_)
  · have e : chK 7 th (Y.2.2.2.2.1, Y.2.2.2.2.2.1, Y.2.2.2.2.2.2.1) = (Y.2.2.2.2.1, Y.2.2.2.2.2.1, Y.2.2.2.2.2.2.1) := if_neg (Int32.not_lt.mpr c)
    rw [chB, e] at hK
    exact main _ hK
  · have e : chK 7 th (Y.2.2.2.2.1, Y.2.2.2.2.2.1, Y.2.2.2.2.2.2.1) = (Y.2.2.2.2.1, keepF Y.2.2.2.2.1 Y.2.2.2.2.2.1 7 9, nI th) := if_pos (Int32.not_le.mp c)
    rw [chB, e] at hK
    refine ⟨Y, 7, rfl, rfl, by omega, ?_⟩
    exact main _ hK
abbrev csX9_choose_3 : q_S := (4, 9, 5, 6, 0, 0, fdX9_choose, spX9_choose 3 6)
theorem coX9_45_2 (l : Launch) : q_CO l RX9 45 csX9_choose_2 := ⟨yX9_choose, cX9_choose, none, 3, ⟨by decide +kernel, by decide +kernel, by decide +kernel⟩, q_G_i 15 (by decide +kernel) rfl, Or.inl ⟨by decide, rfl, rfl, q_G_i 1103 (by decide +kernel) rfl, q_G_i 1105 (by decide +kernel) rfl, q_G_s (n := 9) 43 (by decide +kernel), Or.inl ⟨q_G_i 1106 (by decide +kernel) rfl, ctX9_choose_2 l⟩⟩⟩
def EX9_choose_3 : q_E := (tX9_choose, [(18, [0, 1, 2, 3]), (43, [0, 1, 2, 3, 4])], 6, flX9, [(49, csX9_keepTried), (53, csX9_countFree), (57, csX9_mayStand), (45, csX9_choose_2)], [], [], [], [], [], 5, 0, 0, none, [], [], 0, 0)
theorem okX9_choose_3 (l : Launch) : q_Eok l RX9 cX9_choose EX9_choose_3 := ⟨tX9_choose_ok, flX9_ok, List.forall_mem_cons.mpr ⟨(coX9_49 l), List.forall_mem_cons.mpr ⟨(coX9_53 l), List.forall_mem_cons.mpr ⟨(coX9_57 l), List.forall_mem_cons.mpr ⟨(coX9_45_2 l), q_nil⟩⟩⟩⟩, q_nil, q_nil, q_nil, q_nil, q_nil, (fun h => absurd h (by decide))⟩
set_option maxRecDepth 100000 in
set_option maxHeartbeats 4000000 in
theorem ctX9_choose_3 (l : Launch) : q_CT l yX9_choose (.code yX9_choose cX9_choose 6 none) 5 0 0 (spX9_choose 3 6) := by
  refine q_ct_of EX9_choose_3 (by decide +kernel) (okX9_choose_3 l) rfl rfl rfl rfl rfl q_nil (fun ci h => by cases h) rfl ?_
  intro a w K h
  obtain ⟨Y, th, x, rfl, rfl, ho, hth, hK⟩ := h
  refine ⟨Nat.le_of_ble_eq_true rfl, fun C hC => hC _ _ _ _ _ _ ?_⟩
  have hK : K (.inl none) (treatyW 0 (yCh Y (chB (chF Y.1 Y.2.1 Y.2.2.2.1 2 7) Y.1 Y.2.1 Y.2.2.2.1 6 th x (Y.2.2.2.2.1, Y.2.2.2.2.2.1, Y.2.2.2.2.2.2.1)))) := hK
  have hc : (nI 6).toNatClampNeg = 6 := nI_clamp (by omega)
  have hv : vp_in (nI 6) 9 := vp_in_nI (by omega) (by omega)
  have hfr := frA_le Y.1 Y.2.1 Y.2.2.2.1 x (9 - 6) 6 0
  obtain ⟨h3, h4⟩ := ho 6 (by omega)
  have eT : nI 6 + 1 = nI 7 := nI_1 _
  have main : ∀ s, K (.inl none) (treatyW 0 (yCh Y (if nI (th + frA Y.1 Y.2.1 Y.2.2.2.1 x (9 - 6) 6 0) ≤ s.2.2 then s else chE (chF Y.1 Y.2.1 Y.2.2.2.1 2 7) 6 th x (foldF (chO (chF Y.1 Y.2.1 Y.2.2.2.1 2 7) Y.2.1 Y.2.2.2.1 6 th x) 0 (tcF Y.1 6) s)))) → C 18 [(0, .ref 0), (1, .int (nI 6)), (2, .int (nI th)), (3, .int x)] [] (treatyW 0 (yCh Y s)) 0 0 := by
    intro s hK
    refine hC _ _ _ _ _ _ ?_
    refine And.intro (fun c => absurd c (by decide)) (fun c => ?_)
    refine ⟨yCh Y s, 6, x, rfl, rfl, ho, by omega, And.intro (fun c2 => ?_) (fun c2 => ?_)⟩
    · have c2 : s.2.2 < nI th + nI (frA Y.1 Y.2.1 Y.2.2.2.1 x (9 - 6) 6 0) := c2
      rw [nI_add] at c2
      rw [if_neg (Int32.not_le.mpr c2)] at hK
      have loop : ∀ k i s, i + k = tcF Y.1 6 → K (.inl none) (treatyW 0 (yCh Y (chE (chF Y.1 Y.2.1 Y.2.2.2.1 2 7) 6 th x (foldF (chO (chF Y.1 Y.2.1 Y.2.2.2.1 2 7) Y.2.1 Y.2.2.2.1 6 th x) i k s)))) → C 43 [(0, .ref 0), (1, .int (nI 6)), (2, .int (nI th)), (3, .int x), (4, .int (nI i))] [] (treatyW 0 (yCh Y s)) 0 0 := by
        intro k
        induction k with
        | zero =>
          intro i s hi hK
          refine hC _ _ _ _ _ _ ?_
          refine ⟨hv, And.intro (fun c3 => ?_) (fun c3 => absurd (by show Y.1 (nI 6).toNatClampNeg ≤ nI i; rw [hc, h3]; exact nI_le (by omega) (by omega)) c3)⟩
          exact ⟨hv, yCh Y (upd s.1 6 (-2), s.2.1, s.2.2), th, x, rfl, (by rw [← eT]), ho, by omega, hK⟩
        | succ k ih =>
          intro i s hi hK
          rw [foldF] at hK
          have e2 : nI 6 * 4 + nI i = nI (6 * 4 + i) := by rw [nI_mul4, nI_add]
          have hc2 : (nI 6 * 4 + nI i).toNatClampNeg = 6 * 4 + i := by rw [e2]; exact nI_clamp (by omega)
          have hv2 : vp_in (nI 6 * 4 + nI i) 36 := by rw [e2]; exact vp_in_nI (by omega) (by omega)
          refine hC _ _ _ _ _ _ ?_
          refine ⟨hv, And.intro (fun c3 => absurd (show Y.1 (nI 6).toNatClampNeg ≤ nI i from c3) (by rw [hc, h3]; exact nI_ge (by omega) (by omega))) (fun c3 => ?_)⟩
          refine ⟨yCh Y s, 6 * 4 + i, x, rfl, (by rw [← e2]), by omega, And.intro (fun c4 => ?_) (fun c4 => ?_)⟩
          · have c4 : mayF Y.2.1 Y.2.2.2.1 (6 * 4 + i) x = false := bI_0.mp c4
            rw [chO, c4] at hK
            have h9 := ih (i + 1) s (by omega) hK
            rw [← nI_1 i] at h9
            exact h9
          · have c4 : mayF Y.2.1 Y.2.2.2.1 (6 * 4 + i) x = true := bI_n0.mp c4
            rw [chO, c4, if_pos rfl, ← hc2] at hK
            refine ⟨hv, hv2, yCh Y (upd s.1 6 (nI i), s.2.1, s.2.2), th + 1, _, rfl, (by rw [← eT, ← nI_1 th]), ho, by omega, ?_⟩
            have h9 := ih (i + 1) _ (by omega) hK
            rw [← nI_1 i] at h9
            exact h9
      exact loop (tcF Y.1 6) 0 s (by omega) hK
    · have c2 : ¬ s.2.2 < nI th + nI (frA Y.1 Y.2.1 Y.2.2.2.1 x (9 - 6) 6 0) := c2
      rw [nI_add] at c2
      rw [if_pos (Int32.not_lt.mp c2)] at hK
      exact hK
  refine And.intro (fun c => ?_) (fun c => ?_)
  · have e : chK 6 th (Y.2.2.2.2.1, Y.2.2.2.2.2.1, Y.2.2.2.2.2.2.1) = (Y.2.2.2.2.1, Y.2.2.2.2.2.1, Y.2.2.2.2.2.2.1) := if_neg (Int32.not_lt.mpr c)
    rw [chB, e] at hK
    exact main _ hK
  · have e : chK 6 th (Y.2.2.2.2.1, Y.2.2.2.2.2.1, Y.2.2.2.2.2.2.1) = (Y.2.2.2.2.1, keepF Y.2.2.2.2.1 Y.2.2.2.2.2.1 6 9, nI th) := if_pos (Int32.not_le.mp c)
    rw [chB, e] at hK
    refine ⟨Y, 6, rfl, rfl, by omega, ?_⟩
    exact main _ hK
abbrev csX9_choose_4 : q_S := (4, 9, 6, 6, 0, 0, fdX9_choose, spX9_choose 4 5)
theorem coX9_45_3 (l : Launch) : q_CO l RX9 45 csX9_choose_3 := ⟨yX9_choose, cX9_choose, none, 3, ⟨by decide +kernel, by decide +kernel, by decide +kernel⟩, q_G_i 15 (by decide +kernel) rfl, Or.inl ⟨by decide, rfl, rfl, q_G_i 1103 (by decide +kernel) rfl, q_G_i 1105 (by decide +kernel) rfl, q_G_s (n := 9) 43 (by decide +kernel), Or.inl ⟨q_G_i 1106 (by decide +kernel) rfl, ctX9_choose_3 l⟩⟩⟩
def EX9_choose_4 : q_E := (tX9_choose, [(18, [0, 1, 2, 3]), (43, [0, 1, 2, 3, 4])], 6, flX9, [(49, csX9_keepTried), (53, csX9_countFree), (57, csX9_mayStand), (45, csX9_choose_3)], [], [], [], [], [], 6, 0, 0, none, [], [], 0, 0)
theorem okX9_choose_4 (l : Launch) : q_Eok l RX9 cX9_choose EX9_choose_4 := ⟨tX9_choose_ok, flX9_ok, List.forall_mem_cons.mpr ⟨(coX9_49 l), List.forall_mem_cons.mpr ⟨(coX9_53 l), List.forall_mem_cons.mpr ⟨(coX9_57 l), List.forall_mem_cons.mpr ⟨(coX9_45_3 l), q_nil⟩⟩⟩⟩, q_nil, q_nil, q_nil, q_nil, q_nil, (fun h => absurd h (by decide))⟩
set_option maxRecDepth 100000 in
set_option maxHeartbeats 4000000 in
theorem ctX9_choose_4 (l : Launch) : q_CT l yX9_choose (.code yX9_choose cX9_choose 6 none) 6 0 0 (spX9_choose 4 5) := by
  refine q_ct_of EX9_choose_4 (by decide +kernel) (okX9_choose_4 l) rfl rfl rfl rfl rfl q_nil (fun ci h => by cases h) rfl ?_
  intro a w K h
  obtain ⟨Y, th, x, rfl, rfl, ho, hth, hK⟩ := h
  refine ⟨Nat.le_of_ble_eq_true rfl, fun C hC => hC _ _ _ _ _ _ ?_⟩
  have hK : K (.inl none) (treatyW 0 (yCh Y (chB (chF Y.1 Y.2.1 Y.2.2.2.1 3 6) Y.1 Y.2.1 Y.2.2.2.1 5 th x (Y.2.2.2.2.1, Y.2.2.2.2.2.1, Y.2.2.2.2.2.2.1)))) := hK
  have hc : (nI 5).toNatClampNeg = 5 := nI_clamp (by omega)
  have hv : vp_in (nI 5) 9 := vp_in_nI (by omega) (by omega)
  have hfr := frA_le Y.1 Y.2.1 Y.2.2.2.1 x (9 - 5) 5 0
  obtain ⟨h3, h4⟩ := ho 5 (by omega)
  have eT : nI 5 + 1 = nI 6 := nI_1 _
  have main : ∀ s, K (.inl none) (treatyW 0 (yCh Y (if nI (th + frA Y.1 Y.2.1 Y.2.2.2.1 x (9 - 5) 5 0) ≤ s.2.2 then s else chE (chF Y.1 Y.2.1 Y.2.2.2.1 3 6) 5 th x (foldF (chO (chF Y.1 Y.2.1 Y.2.2.2.1 3 6) Y.2.1 Y.2.2.2.1 5 th x) 0 (tcF Y.1 5) s)))) → C 18 [(0, .ref 0), (1, .int (nI 5)), (2, .int (nI th)), (3, .int x)] [] (treatyW 0 (yCh Y s)) 0 0 := by
    intro s hK
    refine hC _ _ _ _ _ _ ?_
    refine And.intro (fun c => absurd c (by decide)) (fun c => ?_)
    refine ⟨yCh Y s, 5, x, rfl, rfl, ho, by omega, And.intro (fun c2 => ?_) (fun c2 => ?_)⟩
    · have c2 : s.2.2 < nI th + nI (frA Y.1 Y.2.1 Y.2.2.2.1 x (9 - 5) 5 0) := c2
      rw [nI_add] at c2
      rw [if_neg (Int32.not_le.mpr c2)] at hK
      have loop : ∀ k i s, i + k = tcF Y.1 5 → K (.inl none) (treatyW 0 (yCh Y (chE (chF Y.1 Y.2.1 Y.2.2.2.1 3 6) 5 th x (foldF (chO (chF Y.1 Y.2.1 Y.2.2.2.1 3 6) Y.2.1 Y.2.2.2.1 5 th x) i k s)))) → C 43 [(0, .ref 0), (1, .int (nI 5)), (2, .int (nI th)), (3, .int x), (4, .int (nI i))] [] (treatyW 0 (yCh Y s)) 0 0 := by
        intro k
        induction k with
        | zero =>
          intro i s hi hK
          refine hC _ _ _ _ _ _ ?_
          refine ⟨hv, And.intro (fun c3 => ?_) (fun c3 => absurd (by show Y.1 (nI 5).toNatClampNeg ≤ nI i; rw [hc, h3]; exact nI_le (by omega) (by omega)) c3)⟩
          exact ⟨hv, yCh Y (upd s.1 5 (-2), s.2.1, s.2.2), th, x, rfl, (by rw [← eT]), ho, by omega, hK⟩
        | succ k ih =>
          intro i s hi hK
          rw [foldF] at hK
          have e2 : nI 5 * 4 + nI i = nI (5 * 4 + i) := by rw [nI_mul4, nI_add]
          have hc2 : (nI 5 * 4 + nI i).toNatClampNeg = 5 * 4 + i := by rw [e2]; exact nI_clamp (by omega)
          have hv2 : vp_in (nI 5 * 4 + nI i) 36 := by rw [e2]; exact vp_in_nI (by omega) (by omega)
          refine hC _ _ _ _ _ _ ?_
          refine ⟨hv, And.intro (fun c3 => absurd (show Y.1 (nI 5).toNatClampNeg ≤ nI i from c3) (by rw [hc, h3]; exact nI_ge (by omega) (by omega))) (fun c3 => ?_)⟩
          refine ⟨yCh Y s, 5 * 4 + i, x, rfl, (by rw [← e2]), by omega, And.intro (fun c4 => ?_) (fun c4 => ?_)⟩
          · have c4 : mayF Y.2.1 Y.2.2.2.1 (5 * 4 + i) x = false := bI_0.mp c4
            rw [chO, c4] at hK
            have h9 := ih (i + 1) s (by omega) hK
            rw [← nI_1 i] at h9
            exact h9
          · have c4 : mayF Y.2.1 Y.2.2.2.1 (5 * 4 + i) x = true := bI_n0.mp c4
            rw [chO, c4, if_pos rfl, ← hc2] at hK
            refine ⟨hv, hv2, yCh Y (upd s.1 5 (nI i), s.2.1, s.2.2), th + 1, _, rfl, (by rw [← eT, ← nI_1 th]), ho, by omega, ?_⟩
            have h9 := ih (i + 1) _ (by omega) hK
            rw [← nI_1 i] at h9
            exact h9
      exact loop (tcF Y.1 5) 0 s (by omega) hK
    · have c2 : ¬ s.2.2 < nI th + nI (frA Y.1 Y.2.1 Y.2.2.2.1 x (9 - 5) 5 0) := c2
      rw [nI_add] at c2
      rw [if_pos (Int32.not_lt.mp c2)] at hK
      exact hK
  refine And.intro (fun c => ?_) (fun c => ?_)
  · have e : chK 5 th (Y.2.2.2.2.1, Y.2.2.2.2.2.1, Y.2.2.2.2.2.2.1) = (Y.2.2.2.2.1, Y.2.2.2.2.2.1, Y.2.2.2.2.2.2.1) := if_neg (Int32.not_lt.mpr c)
    rw [chB, e] at hK
    exact main _ hK
  · have e : chK 5 th (Y.2.2.2.2.1, Y.2.2.2.2.2.1, Y.2.2.2.2.2.2.1) = (Y.2.2.2.2.1, keepF Y.2.2.2.2.1 Y.2.2.2.2.2.1 5 9, nI th) := if_pos (Int32.not_le.mp c)
    rw [chB, e] at hK
    refine ⟨Y, 5, rfl, rfl, by omega, ?_⟩
    exact main _ hK
abbrev csX9_choose_5 : q_S := (4, 9, 7, 6, 0, 0, fdX9_choose, spX9_choose 5 4)
theorem coX9_45_4 (l : Launch) : q_CO l RX9 45 csX9_choose_4 := ⟨yX9_choose, cX9_choose, none, 3, ⟨by decide +kernel, by decide +kernel, by decide +kernel⟩, q_G_i 15 (by decide +kernel) rfl, Or.inl ⟨by decide, rfl, rfl, q_G_i 1103 (by decide +kernel) rfl, q_G_i 1105 (by decide +kernel) rfl, q_G_s (n := 9) 43 (by decide +kernel), Or.inl ⟨q_G_i 1106 (by decide +kernel) rfl, ctX9_choose_4 l⟩⟩⟩
def EX9_choose_5 : q_E := (tX9_choose, [(18, [0, 1, 2, 3]), (43, [0, 1, 2, 3, 4])], 6, flX9, [(49, csX9_keepTried), (53, csX9_countFree), (57, csX9_mayStand), (45, csX9_choose_4)], [], [], [], [], [], 7, 0, 0, none, [], [], 0, 0)
theorem okX9_choose_5 (l : Launch) : q_Eok l RX9 cX9_choose EX9_choose_5 := ⟨tX9_choose_ok, flX9_ok, List.forall_mem_cons.mpr ⟨(coX9_49 l), List.forall_mem_cons.mpr ⟨(coX9_53 l), List.forall_mem_cons.mpr ⟨(coX9_57 l), List.forall_mem_cons.mpr ⟨(coX9_45_4 l), q_nil⟩⟩⟩⟩, q_nil, q_nil, q_nil, q_nil, q_nil, (fun h => absurd h (by decide))⟩
set_option maxRecDepth 100000 in
set_option maxHeartbeats 4000000 in
theorem ctX9_choose_5 (l : Launch) : q_CT l yX9_choose (.code yX9_choose cX9_choose 6 none) 7 0 0 (spX9_choose 5 4) := by
  refine q_ct_of EX9_choose_5 (by decide +kernel) (okX9_choose_5 l) rfl rfl rfl rfl rfl q_nil (fun ci h => by cases h) rfl ?_
  intro a w K h
  obtain ⟨Y, th, x, rfl, rfl, ho, hth, hK⟩ := h
  refine ⟨Nat.le_of_ble_eq_true rfl, fun C hC => hC _ _ _ _ _ _ ?_⟩
  have hK : K (.inl none) (treatyW 0 (yCh Y (chB (chF Y.1 Y.2.1 Y.2.2.2.1 4 5) Y.1 Y.2.1 Y.2.2.2.1 4 th x (Y.2.2.2.2.1, Y.2.2.2.2.2.1, Y.2.2.2.2.2.2.1)))) := hK
  have hc : (nI 4).toNatClampNeg = 4 := nI_clamp (by omega)
  have hv : vp_in (nI 4) 9 := vp_in_nI (by omega) (by omega)
  have hfr := frA_le Y.1 Y.2.1 Y.2.2.2.1 x (9 - 4) 4 0
  obtain ⟨h3, h4⟩ := ho 4 (by omega)
  have eT : nI 4 + 1 = nI 5 := nI_1 _
  have main : ∀ s, K (.inl none) (treatyW 0 (yCh Y (if nI (th + frA Y.1 Y.2.1 Y.2.2.2.1 x (9 - 4) 4 0) ≤ s.2.2 then s else chE (chF Y.1 Y.2.1 Y.2.2.2.1 4 5) 4 th x (foldF (chO (chF Y.1 Y.2.1 Y.2.2.2.1 4 5) Y.2.1 Y.2.2.2.1 4 th x) 0 (tcF Y.1 4) s)))) → C 18 [(0, .ref 0), (1, .int (nI 4)), (2, .int (nI th)), (3, .int x)] [] (treatyW 0 (yCh Y s)) 0 0 := by
    intro s hK
    refine hC _ _ _ _ _ _ ?_
    refine And.intro (fun c => absurd c (by decide)) (fun c => ?_)
    refine ⟨yCh Y s, 4, x, rfl, rfl, ho, by omega, And.intro (fun c2 => ?_) (fun c2 => ?_)⟩
    · have c2 : s.2.2 < nI th + nI (frA Y.1 Y.2.1 Y.2.2.2.1 x (9 - 4) 4 0) := c2
      rw [nI_add] at c2
      rw [if_neg (Int32.not_le.mpr c2)] at hK
      have loop : ∀ k i s, i + k = tcF Y.1 4 → K (.inl none) (treatyW 0 (yCh Y (chE (chF Y.1 Y.2.1 Y.2.2.2.1 4 5) 4 th x (foldF (chO (chF Y.1 Y.2.1 Y.2.2.2.1 4 5) Y.2.1 Y.2.2.2.1 4 th x) i k s)))) → C 43 [(0, .ref 0), (1, .int (nI 4)), (2, .int (nI th)), (3, .int x), (4, .int (nI i))] [] (treatyW 0 (yCh Y s)) 0 0 := by
        intro k
        induction k with
        | zero =>
          intro i s hi hK
          refine hC _ _ _ _ _ _ ?_
          refine ⟨hv, And.intro (fun c3 => ?_) (fun c3 => absurd (by show Y.1 (nI 4).toNatClampNeg ≤ nI i; rw [hc, h3]; exact nI_le (by omega) (by omega)) c3)⟩
          exact ⟨hv, yCh Y (upd s.1 4 (-2), s.2.1, s.2.2), th, x, rfl, (by rw [← eT]), ho, by omega, hK⟩
        | succ k ih =>
          intro i s hi hK
          rw [foldF] at hK
          have e2 : nI 4 * 4 + nI i = nI (4 * 4 + i) := by rw [nI_mul4, nI_add]
          have hc2 : (nI 4 * 4 + nI i).toNatClampNeg = 4 * 4 + i := by rw [e2]; exact nI_clamp (by omega)
          have hv2 : vp_in (nI 4 * 4 + nI i) 36 := by rw [e2]; exact vp_in_nI (by omega) (by omega)
          refine hC _ _ _ _ _ _ ?_
          refine ⟨hv, And.intro (fun c3 => absurd (show Y.1 (nI 4).toNatClampNeg ≤ nI i from c3) (by rw [hc, h3]; exact nI_ge (by omega) (by omega))) (fun c3 => ?_)⟩
          refine ⟨yCh Y s, 4 * 4 + i, x, rfl, (by rw [← e2]), by omega, And.intro (fun c4 => ?_) (fun c4 => ?_)⟩
          · have c4 : mayF Y.2.1 Y.2.2.2.1 (4 * 4 + i) x = false := bI_0.mp c4
            rw [chO, c4] at hK
            have h9 := ih (i + 1) s (by omega) hK
            rw [← nI_1 i] at h9
            exact h9
          · have c4 : mayF Y.2.1 Y.2.2.2.1 (4 * 4 + i) x = true := bI_n0.mp c4
            rw [chO, c4, if_pos rfl, ← hc2] at hK
            refine ⟨hv, hv2, yCh Y (upd s.1 4 (nI i), s.2.1, s.2.2), th + 1, _, rfl, (by rw [← eT, ← nI_1 th]), ho, by omega, ?_⟩
            have h9 := ih (i + 1) _ (by omega) hK
            rw [← nI_1 i] at h9
            exact h9
      exact loop (tcF Y.1 4) 0 s (by omega) hK
    · have c2 : ¬ s.2.2 < nI th + nI (frA Y.1 Y.2.1 Y.2.2.2.1 x (9 - 4) 4 0) := c2
      rw [nI_add] at c2
      rw [if_pos (Int32.not_lt.mp c2)] at hK
      exact hK
  refine And.intro (fun c => ?_) (fun c => ?_)
  · have e : chK 4 th (Y.2.2.2.2.1, Y.2.2.2.2.2.1, Y.2.2.2.2.2.2.1) = (Y.2.2.2.2.1, Y.2.2.2.2.2.1, Y.2.2.2.2.2.2.1) := if_neg (Int32.not_lt.mpr c)
    rw [chB, e] at hK
    exact main _ hK
  · have e : chK 4 th (Y.2.2.2.2.1, Y.2.2.2.2.2.1, Y.2.2.2.2.2.2.1) = (Y.2.2.2.2.1, keepF Y.2.2.2.2.1 Y.2.2.2.2.2.1 4 9, nI th) := if_pos (Int32.not_le.mp c)
    rw [chB, e] at hK
    refine ⟨Y, 4, rfl, rfl, by omega, ?_⟩
    exact main _ hK
abbrev csX9_choose_6 : q_S := (4, 9, 8, 6, 0, 0, fdX9_choose, spX9_choose 6 3)
theorem coX9_45_5 (l : Launch) : q_CO l RX9 45 csX9_choose_5 := ⟨yX9_choose, cX9_choose, none, 3, ⟨by decide +kernel, by decide +kernel, by decide +kernel⟩, q_G_i 15 (by decide +kernel) rfl, Or.inl ⟨by decide, rfl, rfl, q_G_i 1103 (by decide +kernel) rfl, q_G_i 1105 (by decide +kernel) rfl, q_G_s (n := 9) 43 (by decide +kernel), Or.inl ⟨q_G_i 1106 (by decide +kernel) rfl, ctX9_choose_5 l⟩⟩⟩
def EX9_choose_6 : q_E := (tX9_choose, [(18, [0, 1, 2, 3]), (43, [0, 1, 2, 3, 4])], 6, flX9, [(49, csX9_keepTried), (53, csX9_countFree), (57, csX9_mayStand), (45, csX9_choose_5)], [], [], [], [], [], 8, 0, 0, none, [], [], 0, 0)
theorem okX9_choose_6 (l : Launch) : q_Eok l RX9 cX9_choose EX9_choose_6 := ⟨tX9_choose_ok, flX9_ok, List.forall_mem_cons.mpr ⟨(coX9_49 l), List.forall_mem_cons.mpr ⟨(coX9_53 l), List.forall_mem_cons.mpr ⟨(coX9_57 l), List.forall_mem_cons.mpr ⟨(coX9_45_5 l), q_nil⟩⟩⟩⟩, q_nil, q_nil, q_nil, q_nil, q_nil, (fun h => absurd h (by decide))⟩
set_option maxRecDepth 100000 in
set_option maxHeartbeats 4000000 in
theorem ctX9_choose_6 (l : Launch) : q_CT l yX9_choose (.code yX9_choose cX9_choose 6 none) 8 0 0 (spX9_choose 6 3) := by
  refine q_ct_of EX9_choose_6 (by decide +kernel) (okX9_choose_6 l) rfl rfl rfl rfl rfl q_nil (fun ci h => by cases h) rfl ?_
  intro a w K h
  obtain ⟨Y, th, x, rfl, rfl, ho, hth, hK⟩ := h
  refine ⟨Nat.le_of_ble_eq_true rfl, fun C hC => hC _ _ _ _ _ _ ?_⟩
  have hK : K (.inl none) (treatyW 0 (yCh Y (chB (chF Y.1 Y.2.1 Y.2.2.2.1 5 4) Y.1 Y.2.1 Y.2.2.2.1 3 th x (Y.2.2.2.2.1, Y.2.2.2.2.2.1, Y.2.2.2.2.2.2.1)))) := hK
  have hc : (nI 3).toNatClampNeg = 3 := nI_clamp (by omega)
  have hv : vp_in (nI 3) 9 := vp_in_nI (by omega) (by omega)
  have hfr := frA_le Y.1 Y.2.1 Y.2.2.2.1 x (9 - 3) 3 0
  obtain ⟨h3, h4⟩ := ho 3 (by omega)
  have eT : nI 3 + 1 = nI 4 := nI_1 _
  have main : ∀ s, K (.inl none) (treatyW 0 (yCh Y (if nI (th + frA Y.1 Y.2.1 Y.2.2.2.1 x (9 - 3) 3 0) ≤ s.2.2 then s else chE (chF Y.1 Y.2.1 Y.2.2.2.1 5 4) 3 th x (foldF (chO (chF Y.1 Y.2.1 Y.2.2.2.1 5 4) Y.2.1 Y.2.2.2.1 3 th x) 0 (tcF Y.1 3) s)))) → C 18 [(0, .ref 0), (1, .int (nI 3)), (2, .int (nI th)), (3, .int x)] [] (treatyW 0 (yCh Y s)) 0 0 := by
    intro s hK
    refine hC _ _ _ _ _ _ ?_
    refine And.intro (fun c => absurd c (by decide)) (fun c => ?_)
    refine ⟨yCh Y s, 3, x, rfl, rfl, ho, by omega, And.intro (fun c2 => ?_) (fun c2 => ?_)⟩
    · have c2 : s.2.2 < nI th + nI (frA Y.1 Y.2.1 Y.2.2.2.1 x (9 - 3) 3 0) := c2
      rw [nI_add] at c2
      rw [if_neg (Int32.not_le.mpr c2)] at hK
      have loop : ∀ k i s, i + k = tcF Y.1 3 → K (.inl none) (treatyW 0 (yCh Y (chE (chF Y.1 Y.2.1 Y.2.2.2.1 5 4) 3 th x (foldF (chO (chF Y.1 Y.2.1 Y.2.2.2.1 5 4) Y.2.1 Y.2.2.2.1 3 th x) i k s)))) → C 43 [(0, .ref 0), (1, .int (nI 3)), (2, .int (nI th)), (3, .int x), (4, .int (nI i))] [] (treatyW 0 (yCh Y s)) 0 0 := by
        intro k
        induction k with
        | zero =>
          intro i s hi hK
          refine hC _ _ _ _ _ _ ?_
          refine ⟨hv, And.intro (fun c3 => ?_) (fun c3 => absurd (by show Y.1 (nI 3).toNatClampNeg ≤ nI i; rw [hc, h3]; exact nI_le (by omega) (by omega)) c3)⟩
          exact ⟨hv, yCh Y (upd s.1 3 (-2), s.2.1, s.2.2), th, x, rfl, (by rw [← eT]), ho, by omega, hK⟩
        | succ k ih =>
          intro i s hi hK
          rw [foldF] at hK
          have e2 : nI 3 * 4 + nI i = nI (3 * 4 + i) := by rw [nI_mul4, nI_add]
          have hc2 : (nI 3 * 4 + nI i).toNatClampNeg = 3 * 4 + i := by rw [e2]; exact nI_clamp (by omega)
          have hv2 : vp_in (nI 3 * 4 + nI i) 36 := by rw [e2]; exact vp_in_nI (by omega) (by omega)
          refine hC _ _ _ _ _ _ ?_
          refine ⟨hv, And.intro (fun c3 => absurd (show Y.1 (nI 3).toNatClampNeg ≤ nI i from c3) (by rw [hc, h3]; exact nI_ge (by omega) (by omega))) (fun c3 => ?_)⟩
          refine ⟨yCh Y s, 3 * 4 + i, x, rfl, (by rw [← e2]), by omega, And.intro (fun c4 => ?_) (fun c4 => ?_)⟩
          · have c4 : mayF Y.2.1 Y.2.2.2.1 (3 * 4 + i) x = false := bI_0.mp c4
            rw [chO, c4] at hK
            have h9 := ih (i + 1) s (by omega) hK
            rw [← nI_1 i] at h9
            exact h9
          · have c4 : mayF Y.2.1 Y.2.2.2.1 (3 * 4 + i) x = true := bI_n0.mp c4
            rw [chO, c4, if_pos rfl, ← hc2] at hK
            refine ⟨hv, hv2, yCh Y (upd s.1 3 (nI i), s.2.1, s.2.2), th + 1, _, rfl, (by rw [← eT, ← nI_1 th]), ho, by omega, ?_⟩
            have h9 := ih (i + 1) _ (by omega) hK
            rw [← nI_1 i] at h9
            exact h9
      exact loop (tcF Y.1 3) 0 s (by omega) hK
    · have c2 : ¬ s.2.2 < nI th + nI (frA Y.1 Y.2.1 Y.2.2.2.1 x (9 - 3) 3 0) := c2
      rw [nI_add] at c2
      rw [if_pos (Int32.not_lt.mp c2)] at hK
      exact hK
  refine And.intro (fun c => ?_) (fun c => ?_)
  · have e : chK 3 th (Y.2.2.2.2.1, Y.2.2.2.2.2.1, Y.2.2.2.2.2.2.1) = (Y.2.2.2.2.1, Y.2.2.2.2.2.1, Y.2.2.2.2.2.2.1) := if_neg (Int32.not_lt.mpr c)
    rw [chB, e] at hK
    exact main _ hK
  · have e : chK 3 th (Y.2.2.2.2.1, Y.2.2.2.2.2.1, Y.2.2.2.2.2.2.1) = (Y.2.2.2.2.1, keepF Y.2.2.2.2.1 Y.2.2.2.2.2.1 3 9, nI th) := if_pos (Int32.not_le.mp c)
    rw [chB, e] at hK
    refine ⟨Y, 3, rfl, rfl, by omega, ?_⟩
    exact main _ hK
abbrev csX9_choose_7 : q_S := (4, 9, 9, 6, 0, 0, fdX9_choose, spX9_choose 7 2)
theorem coX9_45_6 (l : Launch) : q_CO l RX9 45 csX9_choose_6 := ⟨yX9_choose, cX9_choose, none, 3, ⟨by decide +kernel, by decide +kernel, by decide +kernel⟩, q_G_i 15 (by decide +kernel) rfl, Or.inl ⟨by decide, rfl, rfl, q_G_i 1103 (by decide +kernel) rfl, q_G_i 1105 (by decide +kernel) rfl, q_G_s (n := 9) 43 (by decide +kernel), Or.inl ⟨q_G_i 1106 (by decide +kernel) rfl, ctX9_choose_6 l⟩⟩⟩
def EX9_choose_7 : q_E := (tX9_choose, [(18, [0, 1, 2, 3]), (43, [0, 1, 2, 3, 4])], 6, flX9, [(49, csX9_keepTried), (53, csX9_countFree), (57, csX9_mayStand), (45, csX9_choose_6)], [], [], [], [], [], 9, 0, 0, none, [], [], 0, 0)
theorem okX9_choose_7 (l : Launch) : q_Eok l RX9 cX9_choose EX9_choose_7 := ⟨tX9_choose_ok, flX9_ok, List.forall_mem_cons.mpr ⟨(coX9_49 l), List.forall_mem_cons.mpr ⟨(coX9_53 l), List.forall_mem_cons.mpr ⟨(coX9_57 l), List.forall_mem_cons.mpr ⟨(coX9_45_6 l), q_nil⟩⟩⟩⟩, q_nil, q_nil, q_nil, q_nil, q_nil, (fun h => absurd h (by decide))⟩
set_option maxRecDepth 100000 in
set_option maxHeartbeats 4000000 in
theorem ctX9_choose_7 (l : Launch) : q_CT l yX9_choose (.code yX9_choose cX9_choose 6 none) 9 0 0 (spX9_choose 7 2) := by
  refine q_ct_of EX9_choose_7 (by decide +kernel) (okX9_choose_7 l) rfl rfl rfl rfl rfl q_nil (fun ci h => by cases h) rfl ?_
  intro a w K h
  obtain ⟨Y, th, x, rfl, rfl, ho, hth, hK⟩ := h
  refine ⟨Nat.le_of_ble_eq_true rfl, fun C hC => hC _ _ _ _ _ _ ?_⟩
  have hK : K (.inl none) (treatyW 0 (yCh Y (chB (chF Y.1 Y.2.1 Y.2.2.2.1 6 3) Y.1 Y.2.1 Y.2.2.2.1 2 th x (Y.2.2.2.2.1, Y.2.2.2.2.2.1, Y.2.2.2.2.2.2.1)))) := hK
  have hc : (nI 2).toNatClampNeg = 2 := nI_clamp (by omega)
  have hv : vp_in (nI 2) 9 := vp_in_nI (by omega) (by omega)
  have hfr := frA_le Y.1 Y.2.1 Y.2.2.2.1 x (9 - 2) 2 0
  obtain ⟨h3, h4⟩ := ho 2 (by omega)
  have eT : nI 2 + 1 = nI 3 := nI_1 _
  have main : ∀ s, K (.inl none) (treatyW 0 (yCh Y (if nI (th + frA Y.1 Y.2.1 Y.2.2.2.1 x (9 - 2) 2 0) ≤ s.2.2 then s else chE (chF Y.1 Y.2.1 Y.2.2.2.1 6 3) 2 th x (foldF (chO (chF Y.1 Y.2.1 Y.2.2.2.1 6 3) Y.2.1 Y.2.2.2.1 2 th x) 0 (tcF Y.1 2) s)))) → C 18 [(0, .ref 0), (1, .int (nI 2)), (2, .int (nI th)), (3, .int x)] [] (treatyW 0 (yCh Y s)) 0 0 := by
    intro s hK
    refine hC _ _ _ _ _ _ ?_
    refine And.intro (fun c => absurd c (by decide)) (fun c => ?_)
    refine ⟨yCh Y s, 2, x, rfl, rfl, ho, by omega, And.intro (fun c2 => ?_) (fun c2 => ?_)⟩
    · have c2 : s.2.2 < nI th + nI (frA Y.1 Y.2.1 Y.2.2.2.1 x (9 - 2) 2 0) := c2
      rw [nI_add] at c2
      rw [if_neg (Int32.not_le.mpr c2)] at hK
      have loop : ∀ k i s, i + k = tcF Y.1 2 → K (.inl none) (treatyW 0 (yCh Y (chE (chF Y.1 Y.2.1 Y.2.2.2.1 6 3) 2 th x (foldF (chO (chF Y.1 Y.2.1 Y.2.2.2.1 6 3) Y.2.1 Y.2.2.2.1 2 th x) i k s)))) → C 43 [(0, .ref 0), (1, .int (nI 2)), (2, .int (nI th)), (3, .int x), (4, .int (nI i))] [] (treatyW 0 (yCh Y s)) 0 0 := by
        intro k
        induction k with
        | zero =>
          intro i s hi hK
          refine hC _ _ _ _ _ _ ?_
          refine ⟨hv, And.intro (fun c3 => ?_) (fun c3 => absurd (by show Y.1 (nI 2).toNatClampNeg ≤ nI i; rw [hc, h3]; exact nI_le (by omega) (by omega)) c3)⟩
          exact ⟨hv, yCh Y (upd s.1 2 (-2), s.2.1, s.2.2), th, x, rfl, (by rw [← eT]), ho, by omega, hK⟩
        | succ k ih =>
          intro i s hi hK
          rw [foldF] at hK
          have e2 : nI 2 * 4 + nI i = nI (2 * 4 + i) := by rw [nI_mul4, nI_add]
          have hc2 : (nI 2 * 4 + nI i).toNatClampNeg = 2 * 4 + i := by rw [e2]; exact nI_clamp (by omega)
          have hv2 : vp_in (nI 2 * 4 + nI i) 36 := by rw [e2]; exact vp_in_nI (by omega) (by omega)
          refine hC _ _ _ _ _ _ ?_
          refine ⟨hv, And.intro (fun c3 => absurd (show Y.1 (nI 2).toNatClampNeg ≤ nI i from c3) (by rw [hc, h3]; exact nI_ge (by omega) (by omega))) (fun c3 => ?_)⟩
          refine ⟨yCh Y s, 2 * 4 + i, x, rfl, (by rw [← e2]), by omega, And.intro (fun c4 => ?_) (fun c4 => ?_)⟩
          · have c4 : mayF Y.2.1 Y.2.2.2.1 (2 * 4 + i) x = false := bI_0.mp c4
            rw [chO, c4] at hK
            have h9 := ih (i + 1) s (by omega) hK
            rw [← nI_1 i] at h9
            exact h9
          · have c4 : mayF Y.2.1 Y.2.2.2.1 (2 * 4 + i) x = true := bI_n0.mp c4
            rw [chO, c4, if_pos rfl, ← hc2] at hK
            refine ⟨hv, hv2, yCh Y (upd s.1 2 (nI i), s.2.1, s.2.2), th + 1, _, rfl, (by rw [← eT, ← nI_1 th]), ho, by omega, ?_⟩
            have h9 := ih (i + 1) _ (by omega) hK
            rw [← nI_1 i] at h9
            exact h9
      exact loop (tcF Y.1 2) 0 s (by omega) hK
    · have c2 : ¬ s.2.2 < nI th + nI (frA Y.1 Y.2.1 Y.2.2.2.1 x (9 - 2) 2 0) := c2
      rw [nI_add] at c2
      rw [if_pos (Int32.not_lt.mp c2)] at hK
      exact hK
  refine And.intro (fun c => ?_) (fun c => ?_)
  · have e : chK 2 th (Y.2.2.2.2.1, Y.2.2.2.2.2.1, Y.2.2.2.2.2.2.1) = (Y.2.2.2.2.1, Y.2.2.2.2.2.1, Y.2.2.2.2.2.2.1) := if_neg (Int32.not_lt.mpr c)
    rw [chB, e] at hK
    exact main _ hK
  · have e : chK 2 th (Y.2.2.2.2.1, Y.2.2.2.2.2.1, Y.2.2.2.2.2.2.1) = (Y.2.2.2.2.1, keepF Y.2.2.2.2.1 Y.2.2.2.2.2.1 2 9, nI th) := if_pos (Int32.not_le.mp c)
    rw [chB, e] at hK
    refine ⟨Y, 2, rfl, rfl, by omega, ?_⟩
    exact main _ hK
abbrev csX9_choose_8 : q_S := (4, 9, 10, 6, 0, 0, fdX9_choose, spX9_choose 8 1)
theorem coX9_45_7 (l : Launch) : q_CO l RX9 45 csX9_choose_7 := ⟨yX9_choose, cX9_choose, none, 3, ⟨by decide +kernel, by decide +kernel, by decide +kernel⟩, q_G_i 15 (by decide +kernel) rfl, Or.inl ⟨by decide, rfl, rfl, q_G_i 1103 (by decide +kernel) rfl, q_G_i 1105 (by decide +kernel) rfl, q_G_s (n := 9) 43 (by decide +kernel), Or.inl ⟨q_G_i 1106 (by decide +kernel) rfl, ctX9_choose_7 l⟩⟩⟩
def EX9_choose_8 : q_E := (tX9_choose, [(18, [0, 1, 2, 3]), (43, [0, 1, 2, 3, 4])], 6, flX9, [(49, csX9_keepTried), (53, csX9_countFree), (57, csX9_mayStand), (45, csX9_choose_7)], [], [], [], [], [], 10, 0, 0, none, [], [], 0, 0)
theorem okX9_choose_8 (l : Launch) : q_Eok l RX9 cX9_choose EX9_choose_8 := ⟨tX9_choose_ok, flX9_ok, List.forall_mem_cons.mpr ⟨(coX9_49 l), List.forall_mem_cons.mpr ⟨(coX9_53 l), List.forall_mem_cons.mpr ⟨(coX9_57 l), List.forall_mem_cons.mpr ⟨(coX9_45_7 l), q_nil⟩⟩⟩⟩, q_nil, q_nil, q_nil, q_nil, q_nil, (fun h => absurd h (by decide))⟩
set_option maxRecDepth 100000 in
set_option maxHeartbeats 4000000 in
theorem ctX9_choose_8 (l : Launch) : q_CT l yX9_choose (.code yX9_choose cX9_choose 6 none) 10 0 0 (spX9_choose 8 1) := by
  refine q_ct_of EX9_choose_8 (by decide +kernel) (okX9_choose_8 l) rfl rfl rfl rfl rfl q_nil (fun ci h => by cases h) rfl ?_
  intro a w K h
  obtain ⟨Y, th, x, rfl, rfl, ho, hth, hK⟩ := h
  refine ⟨Nat.le_of_ble_eq_true rfl, fun C hC => hC _ _ _ _ _ _ ?_⟩
  have hK : K (.inl none) (treatyW 0 (yCh Y (chB (chF Y.1 Y.2.1 Y.2.2.2.1 7 2) Y.1 Y.2.1 Y.2.2.2.1 1 th x (Y.2.2.2.2.1, Y.2.2.2.2.2.1, Y.2.2.2.2.2.2.1)))) := hK
  have hc : (nI 1).toNatClampNeg = 1 := nI_clamp (by omega)
  have hv : vp_in (nI 1) 9 := vp_in_nI (by omega) (by omega)
  have hfr := frA_le Y.1 Y.2.1 Y.2.2.2.1 x (9 - 1) 1 0
  obtain ⟨h3, h4⟩ := ho 1 (by omega)
  have eT : nI 1 + 1 = nI 2 := nI_1 _
  have main : ∀ s, K (.inl none) (treatyW 0 (yCh Y (if nI (th + frA Y.1 Y.2.1 Y.2.2.2.1 x (9 - 1) 1 0) ≤ s.2.2 then s else chE (chF Y.1 Y.2.1 Y.2.2.2.1 7 2) 1 th x (foldF (chO (chF Y.1 Y.2.1 Y.2.2.2.1 7 2) Y.2.1 Y.2.2.2.1 1 th x) 0 (tcF Y.1 1) s)))) → C 18 [(0, .ref 0), (1, .int (nI 1)), (2, .int (nI th)), (3, .int x)] [] (treatyW 0 (yCh Y s)) 0 0 := by
    intro s hK
    refine hC _ _ _ _ _ _ ?_
    refine And.intro (fun c => absurd c (by decide)) (fun c => ?_)
    refine ⟨yCh Y s, 1, x, rfl, rfl, ho, by omega, And.intro (fun c2 => ?_) (fun c2 => ?_)⟩
    · have c2 : s.2.2 < nI th + nI (frA Y.1 Y.2.1 Y.2.2.2.1 x (9 - 1) 1 0) := c2
      rw [nI_add] at c2
      rw [if_neg (Int32.not_le.mpr c2)] at hK
      have loop : ∀ k i s, i + k = tcF Y.1 1 → K (.inl none) (treatyW 0 (yCh Y (chE (chF Y.1 Y.2.1 Y.2.2.2.1 7 2) 1 th x (foldF (chO (chF Y.1 Y.2.1 Y.2.2.2.1 7 2) Y.2.1 Y.2.2.2.1 1 th x) i k s)))) → C 43 [(0, .ref 0), (1, .int (nI 1)), (2, .int (nI th)), (3, .int x), (4, .int (nI i))] [] (treatyW 0 (yCh Y s)) 0 0 := by
        intro k
        induction k with
        | zero =>
          intro i s hi hK
          refine hC _ _ _ _ _ _ ?_
          refine ⟨hv, And.intro (fun c3 => ?_) (fun c3 => absurd (by show Y.1 (nI 1).toNatClampNeg ≤ nI i; rw [hc, h3]; exact nI_le (by omega) (by omega)) c3)⟩
          exact ⟨hv, yCh Y (upd s.1 1 (-2), s.2.1, s.2.2), th, x, rfl, (by rw [← eT]), ho, by omega, hK⟩
        | succ k ih =>
          intro i s hi hK
          rw [foldF] at hK
          have e2 : nI 1 * 4 + nI i = nI (1 * 4 + i) := by rw [nI_mul4, nI_add]
          have hc2 : (nI 1 * 4 + nI i).toNatClampNeg = 1 * 4 + i := by rw [e2]; exact nI_clamp (by omega)
          have hv2 : vp_in (nI 1 * 4 + nI i) 36 := by rw [e2]; exact vp_in_nI (by omega) (by omega)
          refine hC _ _ _ _ _ _ ?_
          refine ⟨hv, And.intro (fun c3 => absurd (show Y.1 (nI 1).toNatClampNeg ≤ nI i from c3) (by rw [hc, h3]; exact nI_ge (by omega) (by omega))) (fun c3 => ?_)⟩
          refine ⟨yCh Y s, 1 * 4 + i, x, rfl, (by rw [← e2]), by omega, And.intro (fun c4 => ?_) (fun c4 => ?_)⟩
          · have c4 : mayF Y.2.1 Y.2.2.2.1 (1 * 4 + i) x = false := bI_0.mp c4
            rw [chO, c4] at hK
            have h9 := ih (i + 1) s (by omega) hK
            rw [← nI_1 i] at h9
            exact h9
          · have c4 : mayF Y.2.1 Y.2.2.2.1 (1 * 4 + i) x = true := bI_n0.mp c4
            rw [chO, c4, if_pos rfl, ← hc2] at hK
            refine ⟨hv, hv2, yCh Y (upd s.1 1 (nI i), s.2.1, s.2.2), th + 1, _, rfl, (by rw [← eT, ← nI_1 th]), ho, by omega, ?_⟩
            have h9 := ih (i + 1) _ (by omega) hK
            rw [← nI_1 i] at h9
            exact h9
      exact loop (tcF Y.1 1) 0 s (by omega) hK
    · have c2 : ¬ s.2.2 < nI th + nI (frA Y.1 Y.2.1 Y.2.2.2.1 x (9 - 1) 1 0) := c2
      rw [nI_add] at c2
      rw [if_pos (Int32.not_lt.mp c2)] at hK
      exact hK
  refine And.intro (fun c => ?_) (fun c => ?_)
  · have e : chK 1 th (Y.2.2.2.2.1, Y.2.2.2.2.2.1, Y.2.2.2.2.2.2.1) = (Y.2.2.2.2.1, Y.2.2.2.2.2.1, Y.2.2.2.2.2.2.1) := if_neg (Int32.not_lt.mpr c)
    rw [chB, e] at hK
    exact main _ hK
  · have e : chK 1 th (Y.2.2.2.2.1, Y.2.2.2.2.2.1, Y.2.2.2.2.2.2.1) = (Y.2.2.2.2.1, keepF Y.2.2.2.2.1 Y.2.2.2.2.2.1 1 9, nI th) := if_pos (Int32.not_le.mp c)
    rw [chB, e] at hK
    refine ⟨Y, 1, rfl, rfl, by omega, ?_⟩
    exact main _ hK
abbrev csX9_choose_9 : q_S := (4, 9, 11, 6, 0, 0, fdX9_choose, spX9_choose 9 0)
theorem coX9_45_8 (l : Launch) : q_CO l RX9 45 csX9_choose_8 := ⟨yX9_choose, cX9_choose, none, 3, ⟨by decide +kernel, by decide +kernel, by decide +kernel⟩, q_G_i 15 (by decide +kernel) rfl, Or.inl ⟨by decide, rfl, rfl, q_G_i 1103 (by decide +kernel) rfl, q_G_i 1105 (by decide +kernel) rfl, q_G_s (n := 9) 43 (by decide +kernel), Or.inl ⟨q_G_i 1106 (by decide +kernel) rfl, ctX9_choose_8 l⟩⟩⟩
def EX9_choose_9 : q_E := (tX9_choose, [(18, [0, 1, 2, 3]), (43, [0, 1, 2, 3, 4])], 6, flX9, [(49, csX9_keepTried), (53, csX9_countFree), (57, csX9_mayStand), (45, csX9_choose_8)], [], [], [], [], [], 11, 0, 0, none, [], [], 0, 0)
theorem okX9_choose_9 (l : Launch) : q_Eok l RX9 cX9_choose EX9_choose_9 := ⟨tX9_choose_ok, flX9_ok, List.forall_mem_cons.mpr ⟨(coX9_49 l), List.forall_mem_cons.mpr ⟨(coX9_53 l), List.forall_mem_cons.mpr ⟨(coX9_57 l), List.forall_mem_cons.mpr ⟨(coX9_45_8 l), q_nil⟩⟩⟩⟩, q_nil, q_nil, q_nil, q_nil, q_nil, (fun h => absurd h (by decide))⟩
set_option maxRecDepth 100000 in
set_option maxHeartbeats 4000000 in
theorem ctX9_choose_9 (l : Launch) : q_CT l yX9_choose (.code yX9_choose cX9_choose 6 none) 11 0 0 (spX9_choose 9 0) := by
  refine q_ct_of EX9_choose_9 (by decide +kernel) (okX9_choose_9 l) rfl rfl rfl rfl rfl q_nil (fun ci h => by cases h) rfl ?_
  intro a w K h
  obtain ⟨Y, th, x, rfl, rfl, ho, hth, hK⟩ := h
  refine ⟨Nat.le_of_ble_eq_true rfl, fun C hC => hC _ _ _ _ _ _ ?_⟩
  have hK : K (.inl none) (treatyW 0 (yCh Y (chB (chF Y.1 Y.2.1 Y.2.2.2.1 8 1) Y.1 Y.2.1 Y.2.2.2.1 0 th x (Y.2.2.2.2.1, Y.2.2.2.2.2.1, Y.2.2.2.2.2.2.1)))) := hK
  have hc : (nI 0).toNatClampNeg = 0 := nI_clamp (by omega)
  have hv : vp_in (nI 0) 9 := vp_in_nI (by omega) (by omega)
  have hfr := frA_le Y.1 Y.2.1 Y.2.2.2.1 x (9 - 0) 0 0
  obtain ⟨h3, h4⟩ := ho 0 (by omega)
  have eT : nI 0 + 1 = nI 1 := nI_1 _
  have main : ∀ s, K (.inl none) (treatyW 0 (yCh Y (if nI (th + frA Y.1 Y.2.1 Y.2.2.2.1 x (9 - 0) 0 0) ≤ s.2.2 then s else chE (chF Y.1 Y.2.1 Y.2.2.2.1 8 1) 0 th x (foldF (chO (chF Y.1 Y.2.1 Y.2.2.2.1 8 1) Y.2.1 Y.2.2.2.1 0 th x) 0 (tcF Y.1 0) s)))) → C 18 [(0, .ref 0), (1, .int (nI 0)), (2, .int (nI th)), (3, .int x)] [] (treatyW 0 (yCh Y s)) 0 0 := by
    intro s hK
    refine hC _ _ _ _ _ _ ?_
    refine And.intro (fun c => absurd c (by decide)) (fun c => ?_)
    refine ⟨yCh Y s, 0, x, rfl, rfl, ho, by omega, And.intro (fun c2 => ?_) (fun c2 => ?_)⟩
    · have c2 : s.2.2 < nI th + nI (frA Y.1 Y.2.1 Y.2.2.2.1 x (9 - 0) 0 0) := c2
      rw [nI_add] at c2
      rw [if_neg (Int32.not_le.mpr c2)] at hK
      have loop : ∀ k i s, i + k = tcF Y.1 0 → K (.inl none) (treatyW 0 (yCh Y (chE (chF Y.1 Y.2.1 Y.2.2.2.1 8 1) 0 th x (foldF (chO (chF Y.1 Y.2.1 Y.2.2.2.1 8 1) Y.2.1 Y.2.2.2.1 0 th x) i k s)))) → C 43 [(0, .ref 0), (1, .int (nI 0)), (2, .int (nI th)), (3, .int x), (4, .int (nI i))] [] (treatyW 0 (yCh Y s)) 0 0 := by
        intro k
        induction k with
        | zero =>
          intro i s hi hK
          refine hC _ _ _ _ _ _ ?_
          refine ⟨hv, And.intro (fun c3 => ?_) (fun c3 => absurd (by show Y.1 (nI 0).toNatClampNeg ≤ nI i; rw [hc, h3]; exact nI_le (by omega) (by omega)) c3)⟩
          exact ⟨hv, yCh Y (upd s.1 0 (-2), s.2.1, s.2.2), th, x, rfl, (by rw [← eT]), ho, by omega, hK⟩
        | succ k ih =>
          intro i s hi hK
          rw [foldF] at hK
          have e2 : nI 0 * 4 + nI i = nI (0 * 4 + i) := by rw [nI_mul4, nI_add]
          have hc2 : (nI 0 * 4 + nI i).toNatClampNeg = 0 * 4 + i := by rw [e2]; exact nI_clamp (by omega)
          have hv2 : vp_in (nI 0 * 4 + nI i) 36 := by rw [e2]; exact vp_in_nI (by omega) (by omega)
          refine hC _ _ _ _ _ _ ?_
          refine ⟨hv, And.intro (fun c3 => absurd (show Y.1 (nI 0).toNatClampNeg ≤ nI i from c3) (by rw [hc, h3]; exact nI_ge (by omega) (by omega))) (fun c3 => ?_)⟩
          refine ⟨yCh Y s, 0 * 4 + i, x, rfl, (by rw [← e2]), by omega, And.intro (fun c4 => ?_) (fun c4 => ?_)⟩
          · have c4 : mayF Y.2.1 Y.2.2.2.1 (0 * 4 + i) x = false := bI_0.mp c4
            rw [chO, c4] at hK
            have h9 := ih (i + 1) s (by omega) hK
            rw [← nI_1 i] at h9
            exact h9
          · have c4 : mayF Y.2.1 Y.2.2.2.1 (0 * 4 + i) x = true := bI_n0.mp c4
            rw [chO, c4, if_pos rfl, ← hc2] at hK
            refine ⟨hv, hv2, yCh Y (upd s.1 0 (nI i), s.2.1, s.2.2), th + 1, _, rfl, (by rw [← eT, ← nI_1 th]), ho, by omega, ?_⟩
            have h9 := ih (i + 1) _ (by omega) hK
            rw [← nI_1 i] at h9
            exact h9
      exact loop (tcF Y.1 0) 0 s (by omega) hK
    · have c2 : ¬ s.2.2 < nI th + nI (frA Y.1 Y.2.1 Y.2.2.2.1 x (9 - 0) 0 0) := c2
      rw [nI_add] at c2
      rw [if_pos (Int32.not_lt.mp c2)] at hK
      exact hK
  refine And.intro (fun c => ?_) (fun c => ?_)
  · have e : chK 0 th (Y.2.2.2.2.1, Y.2.2.2.2.2.1, Y.2.2.2.2.2.2.1) = (Y.2.2.2.2.1, Y.2.2.2.2.2.1, Y.2.2.2.2.2.2.1) := if_neg (Int32.not_lt.mpr c)
    rw [chB, e] at hK
    exact main _ hK
  · have e : chK 0 th (Y.2.2.2.2.1, Y.2.2.2.2.2.1, Y.2.2.2.2.2.2.1) = (Y.2.2.2.2.1, keepF Y.2.2.2.2.1 Y.2.2.2.2.2.1 0 9, nI th) := if_pos (Int32.not_le.mp c)
    rw [chB, e] at hK
    refine ⟨Y, 0, rfl, rfl, by omega, ?_⟩
    exact main _ hK
abbrev csX9_choose : q_S := csX9_choose_9
theorem ctX9_choose (l : Launch) : q_CT l yX9_choose (.code yX9_choose cX9_choose 6 none) 11 0 0 (spX9_choose 9 0) := ctX9_choose_9 l
def brOk (Y : YT) (br : Nat → Int32) (j : Nat) : Prop := ∀ t i, t < j → i < tcF Y.1 t → br (t * 4 + i) = foeF Y.2.2.1 (Y.2.1 (t * 4 + i)) 16
def ySt (Y : YT) (br ch : Nat → Int32) : YT := (Y.1, Y.2.1, Y.2.2.1, br, Y.2.2.2.2.1, ch, Y.2.2.2.2.2.2)
def ySet (Y : YT) (br : Nat → Int32) : YT := (Y.1, Y.2.1, Y.2.2.1, br, (chF Y.1 Y.2.1 br 9 0 0 0 (Y.2.2.2.2.1, zf (-2) Y.2.2.2.2.2.1 9, 0)).1, (chF Y.1 Y.2.1 br 9 0 0 0 (Y.2.2.2.2.1, zf (-2) Y.2.2.2.2.2.1 9, 0)).2.1, (chF Y.1 Y.2.1 br 9 0 0 0 (Y.2.2.2.2.1, zf (-2) Y.2.2.2.2.2.1 9, 0)).2.2, Y.2.2.2.2.2.2.2.1, 0)
def tX9_settle : List q_I := [(0, .aload_n 0, 1, 0, 0), (1, .getfield 30, 3, 0, 0), (4, .ifCond .ne 4, 3, 0, 8), (7, .return_, 1, 0, 0), (8, .iconst 0, 1, 0, 0), (9, .istore_n 1, 1, 0, 0), (10, .iload_n 1, 1, 0, 0), (11, .bipush 9, 2, 9, 0), (13, .if_icmp .ge 57, 3, 0, 70), (16, .aload_n 0, 1, 0, 0), (17, .getfield 27, 3, 0, 0), (20, .iload_n 1, 1, 0, 0), (21, .bipush (-2), 2, (-2), 0), (23, .iastore, 1, 0, 0), (24, .iconst 0, 1, 0, 0), (25, .istore_n 2, 1, 0, 0), (26, .iload_n 2, 1, 0, 0), (27, .aload_n 0, 1, 0, 0), (28, .getfield 11, 3, 0, 0), (31, .iload_n 1, 1, 0, 0), (32, .iaload, 1, 0, 0), (33, .if_icmp .ge 31, 3, 0, 64), (36, .iload_n 1, 1, 0, 0), (37, .iconst 4, 1, 4, 0), (38, .imul, 1, 0, 0), (39, .iload_n 2, 1, 0, 0), (40, .iadd, 1, 0, 0), (41, .istore_n 3, 1, 0, 0), (42, .aload_n 0, 1, 0, 0), (43, .getfield 21, 3, 0, 0), (46, .iload_n 3, 1, 0, 0), (47, .aload_n 0, 1, 0, 0), (48, .aload_n 0, 1, 0, 0), (49, .getfield 15, 3, 0, 0), (52, .iload_n 3, 1, 0, 0), (53, .iaload, 1, 0, 0), (54, .invokevirtual 38, 3, 0, 0), (57, .iastore, 1, 0, 0), (58, .iinc 2 1, 3, 1, 0), (61, .goto (-35), 3, 0, 26), (64, .iinc 1 1, 3, 1, 0), (67, .goto (-57), 3, 0, 10), (70, .aload_n 0, 1, 0, 0), (71, .iconst 0, 1, 0, 0), (72, .putfield 42, 3, 0, 0), (75, .aload_n 0, 1, 0, 0), (76, .iconst 0, 1, 0, 0), (77, .iconst 0, 1, 0, 0), (78, .iconst 0, 1, 0, 0), (79, .invokevirtual 45, 3, 0, 0), (82, .aload_n 0, 1, 0, 0), (83, .iconst 0, 1, 0, 0), (84, .putfield 30, 3, 0, 0), (87, .return_, 1, 0, 0)]
theorem tX9_settle_ok : (tX9_settle.all (q_okI cX9_settle)) = true := by decide +kernel

abbrev fdX9_settle : List (Nat ⊕ (Nat × Nat)) := [.inl 0, .inr (0, 0), .inr (0, 1), .inr (0, 2), .inr (0, 3), .inr (0, 4), .inr (0, 5)]
def spX9_settle : q_P := fun a w K => ∃ (Y : YT), w = treatyW 0 Y ∧ a = [.ref 0] ∧ tOk Y ∧ (¬ Y.2.2.2.2.2.2.2.2 = 0 → ∀ br, brOk Y br 9 → K (.inl none) (treatyW 0 (ySet Y br))) ∧ (Y.2.2.2.2.2.2.2.2 = 0 → K (.inl none) (treatyW 0 Y))
abbrev csX9_settle : q_S := (1, 9, 12, 4, 0, 0, fdX9_settle, spX9_settle)
theorem coX9_38 (l : Launch) : q_CO l RX9 38 csX9_foesOf := ⟨yX9_foesOf, cX9_foesOf, (some .int), 1, ⟨by decide +kernel, by decide +kernel, by decide +kernel⟩, q_G_i 15 (by decide +kernel) rfl, Or.inl ⟨by decide, rfl, rfl, q_G_i 1099 (by decide +kernel) rfl, q_G_i 1101 (by decide +kernel) rfl, q_G_s (n := 9) 42 (by decide +kernel), Or.inl ⟨q_G_i 1102 (by decide +kernel) rfl, ctX9_foesOf l⟩⟩⟩
theorem coX9_45 (l : Launch) : q_CO l RX9 45 csX9_choose := ⟨yX9_choose, cX9_choose, none, 3, ⟨by decide +kernel, by decide +kernel, by decide +kernel⟩, q_G_i 15 (by decide +kernel) rfl, Or.inl ⟨by decide, rfl, rfl, q_G_i 1103 (by decide +kernel) rfl, q_G_i 1105 (by decide +kernel) rfl, q_G_s (n := 9) 43 (by decide +kernel), Or.inl ⟨q_G_i 1106 (by decide +kernel) rfl, ctX9_choose l⟩⟩⟩
def EX9_settle : q_E := (tX9_settle, [(10, [0, 1]), (26, [0, 1, 2])], 4, flX9, [(38, csX9_foesOf), (45, csX9_choose)], [], [], [], [], [], 12, 0, 0, none, [], [], 0, 0)
theorem okX9_settle (l : Launch) : q_Eok l RX9 cX9_settle EX9_settle := ⟨tX9_settle_ok, flX9_ok, List.forall_mem_cons.mpr ⟨(coX9_38 l), List.forall_mem_cons.mpr ⟨(coX9_45 l), q_nil⟩⟩, q_nil, q_nil, q_nil, q_nil, q_nil, (fun h => absurd h (by decide))⟩
set_option maxRecDepth 100000 in
set_option maxHeartbeats 4000000 in
theorem ctX9_settle (l : Launch) : q_CT l yX9_settle (.code yX9_settle cX9_settle 4 none) 12 0 0 spX9_settle := by
  refine q_ct_of EX9_settle (by decide +kernel) (okX9_settle l) rfl rfl rfl rfl rfl q_nil (fun ci h => by cases h) rfl ?_
  intro a w K h
  obtain ⟨Y, rfl, rfl, ho, hK1, hK0⟩ := h
  refine ⟨Nat.le_of_ble_eq_true rfl, fun C hC => hC _ _ _ _ _ _ ?_⟩
  refine And.intro (fun cs => ?_) (fun cs => hK0 cs)
  have hK1 := hK1 cs
  have outer : ∀ k t br, t + k = 9 → brOk Y br t → C 10 [(0, .ref 0), (1, .int (nI t))] [] (treatyW 0 (ySt Y br (zf (-2) Y.2.2.2.2.2.1 t))) 0 0 := by
    intro k
    induction k with
    | zero =>
      intro t br ht hb
      have ht : t = 9 := by omega
      subst ht
      refine hC _ _ _ _ _ _ ?_
      refine And.intro (fun c1 => ?_) (fun c1 => absurd (Int32.le_refl _) c1)
      refine ⟨(Y.1, Y.2.1, Y.2.2.1, br, Y.2.2.2.2.1, zf (-2) Y.2.2.2.2.2.1 9, 0, Y.2.2.2.2.2.2.2.1, Y.2.2.2.2.2.2.2.2), 0, 0, rfl, rfl, ho, by omega, ?_⟩
      exact ⟨rfl, hK1 br hb⟩
    | succ k ih =>
      intro t br ht hb
      have hv : vp_in (nI t) 9 := vp_in_nI (by omega) (by omega)
      have hc : (nI t).toNatClampNeg = t := nI_clamp (by omega)
      obtain ⟨h3, h4⟩ := ho t (by omega)
      refine hC _ _ _ _ _ _ ?_
      refine And.intro (fun c1 => absurd c1 (nI_ge (b := 9) (by omega) (by omega))) (fun c1 => ⟨hv, ?_⟩)
      have inner : ∀ k2 i br, i + k2 = tcF Y.1 t → brOk Y br t → (∀ q, q < i → br (t * 4 + q) = foeF Y.2.2.1 (Y.2.1 (t * 4 + q)) 16) → C 26 [(0, .ref 0), (1, .int (nI t)), (2, .int (nI i))] [] (treatyW 0 (ySt Y br (zf (-2) Y.2.2.2.2.2.1 (t + 1)))) 0 0 := by
        intro k2
        induction k2 with
        | zero =>
          intro i br hi hb hq
          refine hC _ _ _ _ _ _ ?_
          refine ⟨hv, And.intro (fun c2 => ?_) (fun c2 => absurd (by show Y.1 (nI t).toNatClampNeg ≤ nI i; rw [hc, h3]; exact nI_le (by omega) (by omega)) c2)⟩
          have h9 := ih (t + 1) br (by omega) (fun r q hr hq2 => by
            by_cases e : r = t
            · subst e; exact hq q (by omega)
            · exact hb r q (by omega) hq2)
          rw [← nI_1 t] at h9
          exact h9
        | succ k2 ih2 =>
          intro i br hi hb hq
          have e2 : nI t * 4 + nI i = nI (t * 4 + i) := by rw [nI_mul4, nI_add]
          have hc2 : (nI t * 4 + nI i).toNatClampNeg = t * 4 + i := by rw [e2]; exact nI_clamp (by omega)
          have hv2 : vp_in (nI t * 4 + nI i) 36 := by rw [e2]; exact vp_in_nI (by omega) (by omega)
          refine hC _ _ _ _ _ _ ?_
          refine ⟨hv, And.intro (fun c2 => absurd (show Y.1 (nI t).toNatClampNeg ≤ nI i from c2) (by rw [hc, h3]; exact nI_ge (by omega) (by omega))) (fun c2 => ?_)⟩
          refine ⟨hv2, ySt Y br (zf (-2) Y.2.2.2.2.2.1 (t + 1)), _, rfl, rfl, hv2, ?_⟩
          have h9 := ih2 (i + 1) (upd br (t * 4 + i) (foeF Y.2.2.1 (Y.2.1 (t * 4 + i)) 16)) (by omega) (fun r q hr hq2 => by
            have := (ho r (by omega)).2
            rw [pk_un (by omega)]; exact hb r q hr hq2) (fun q hq2 => by
            by_cases e : q = i
            · subst e; exact pk_us
            · rw [pk_un (by omega)]; exact hq q (by omega))
          rw [← nI_1 i, ← hc2] at h9
          exact h9
      have h9 := inner (tcF Y.1 t) 0 br (by omega) hb (fun q hq => absurd hq (Nat.not_lt_zero q))
      rw [← zf_s] at h9
      have e1 : ∀ (f : Nat → Int32) (z : Int32), upd f t z = upd f (nI t).toNatClampNeg z := fun f z => by rw [hc]
      rw [e1] at h9
      exact h9
  have h9 := outer 9 0 Y.2.2.2.1 rfl (fun r q hr => absurd hr (Nat.not_lt_zero r))
  rw [zf_0] at h9
  exact h9
end
section
/-! ===== texts: what the machine can't see, by rules of its own ===== -/
def q_JR (cc : ByteArray) (own : String) (C : q_N) : Prop :=
  (∀ pc idx lv st aw ca sl t x, decode cc pc = .ok (.getfield idx, 3) → Cond.fieldLink own idx "java/lang/String" "coder" "B" ∈ q_G → q_str[t]? = some x → C (pc + 3) lv (.int 0 :: st) aw ca sl → C pc lv (.retAddr t :: st) aw ca sl) ∧
  (∀ pc idx lv st aw ca sl t x, decode cc pc = .ok (.getfield idx, 3) → Cond.fieldLink own idx "java/lang/String" "value" "[B" ∈ q_G → q_str[t]? = some x → C (pc + 3) lv (.retAddr (45 + t) :: st) aw ca sl → C pc lv (.retAddr t :: st) aw ca sl) ∧
  (∀ pc lv st aw ca sl t x, decode cc pc = .ok (.arraylength, 1) → q_str[t]? = some x → C (pc + 1) lv (.int (Int32.ofNat x.2.2.2.length) :: st) aw ca sl → C pc lv (.retAddr (45 + t) :: st) aw ca sl) ∧
  (∀ pc lv st aw ca sl t x (i : Int32), decode cc pc = .ok (.baload, 1) → q_str[t]? = some x → vp_in i x.2.2.2.length → C (pc + 1) lv (.int (x.2.2.2.getD i.toNatClampNeg 0) :: st) aw ca sl → C pc lv (.int i :: .retAddr (45 + t) :: st) aw ca sl) ∧
  (∀ pc idx lv st aw ca sl, decode cc pc = .ok (.getstatic idx, 3) → Cond.fieldLink own idx "java/lang/String" "COMPACT_STRINGS" "Z" ∈ q_G → C (pc + 3) lv (.int 1 :: st) aw ca sl → C pc lv st aw ca sl) ∧
  (∀ pc idx lv st aw ca sl, decode cc pc = .ok (.getstatic idx, 3) → Cond.fieldLink own idx "jdk/internal/util/Preconditions" "SIOOBE_FORMATTER" "Ljava/util/function/BiFunction;" ∈ q_G → C (pc + 3) lv (.null :: st) aw ca sl → C (pc + 3) lv (.retAddr 89 :: st) aw ca sl → C pc lv st aw ca sl)
theorem q_ct_ofJ {l : Launch} {y : MethodName} {cc : ByteArray} {maxL : Nat} {ret : Option FieldType} {d mc ms : Nat} {sp : q_P} (E : q_E) (hy : plainName y.cls = true) (hE : q_Eok l y.cls cc E) (hnL : q_nL E = maxL) (hrt : q_rt E = ret) (hdp : q_dp E = d) (hRC : q_RC E = mc) (hRS : q_RS E = ms)
    (hct : ∀ x ∈ q_ct E, x = (44, 4, q_ROOM)) (hin : ∀ ci, q_in E = ci + 1 → y.name = "<init>" ∧ (vwCl[ci]?).map (fun q => q.1) = some y.cls) (hhs : q_hs E = [])
    (body : ∀ (a : List Value) (w : List q_C) (K : q_K), sp a w K → q_cats a ≤ maxL ∧ ∀ C : q_N, (∀ pc lv st aw ca sl, q_go E C K pc lv st aw ca sl → C pc lv st aw ca sl) → q_JR cc y.cls C → C 0 (lv_args 0 a) [] w 0 0) :
    q_CT l y (.code y cc maxL ret) d mc ms sp := by
  intro D cy ad xd xv a w K sz hsp
  obtain ⟨hcat, body⟩ := body a w K hsp
  refine qx_ofW (cc := cc) (maxL := maxL) (ret := ret) hy rfl ?_
  intro p e s m args below meth c s₁ B hml hno hv
  obtain ⟨rfl, hsz, hP, hK, hD0, hamb⟩ := hv
  have hts0 := atoms_spec (ws := Cond.code y cc maxL ret :: q_G) B.pre
  have hts : ∀ w ∈ q_G, w.before (a.map (q_cv ad xd)).toArray s = true := fun w hw => hts0 w (List.mem_cons_of_mem _ hw)
  have hown : s.vm.findClass y.cls = some m.cls := findClass_of_methodNamed B.named
  subst hsz
  have hD := hD0.self (sz := s.heap.size)
  have hA : ∀ q : Nat, s.heap.size ≤ q → va_A (q_cw cy ad xd 0 w) s.heap.size q := fun q h => Or.inr h
  have hS : va_S (va_A (q_cw cy ad xd 0 w) s.heap.size) s.heap s.heap [] := va_S.rf
  have hcx : q_Cx p l s m (a.map (q_cv ad xd)).toArray meth c (q_rm d mc ms) y.cls cc D cy xd xv (va_A (q_cw cy ad xd 0 w) s.heap.size) E :=
    ⟨B.exec, B.bytes, hml.trans hnL.symm, hown, hts, hK, hA, fun x hx => by rw [hct x hx]; exact hamb.2.2.1, hamb, fun ci hci => ⟨(name_of_methodNamed B.named B.method).1.trans (hin ci hci).1, (hin ci hci).2⟩, ⟨by rw [hdp]; exact Nat.le_refl _, by rw [hdp]; exact Nat.le_refl _, hRC.symm, hRS.symm⟩, hE⟩
  have hgo := q_go_ok (e := e) (below := below) (n0 := w.length) (ad0 := ad) hcx (z := K) (Q := qx_MQ below (q_Qc D cy ad xd w.length K (va_A (q_cw cy ad xd 0 w) s.heap.size)) (q_XC D cy ad xd w.length K (va_A (q_cw cy ad xd 0 w) s.heap.size)) (a.map (q_cv ad xd)).toArray s mc ms (va_A (q_cw cy ad xd 0 w) s.heap.size)) (q_Th_of hK B.notSynchronized hno hhs rfl rfl) (q_Rt_of B.exec B.bytes (B.returns.trans hrt.symm) B.notSynchronized rfl rfl)
  have h9 := body _ hgo ⟨
    fun pc idx lv st aw ca sl t x h1 h2 h3 h4 hca hsl ad' ls H locs hn0 had hlv hP hD hS => vk_getf B.exec B.bytes (hamb.1 t x h3).2.2.1 hS hown (hts _ h2) (fun _ h9 => h9) h1 (h4 hca hsl ad' ls H locs hn0 had hlv hP hD hS),
    fun pc idx lv st aw ca sl t x h1 h2 h3 h4 hca hsl ad' ls H locs hn0 had hlv hP hD hS => vk_getf B.exec B.bytes (hamb.1 t x h3).2.2.2.1 hS hown (hts _ h2) (fun _ h9 => h9) h1 (h4 hca hsl ad' ls H locs hn0 had hlv hP hD hS),
    fun pc lv st aw ca sl t x h1 h3 h4 hca hsl ad' ls H locs hn0 had hlv hP hD hS => va_tlen B.exec B.bytes (hamb.1 t x h3).2.2.2.2 hS rfl h1 (h4 hca hsl ad' ls H locs hn0 had hlv hP hD hS),
    fun pc lv st aw ca sl t x i h1 h3 hin h4 hca hsl ad' ls H locs hn0 had hlv hP hD hS => va_tb B.exec B.bytes (hamb.1 t x h3).2.2.2.2 hS hin rfl h1 (h4 hca hsl ad' ls H locs hn0 had hlv hP hD hS),
    fun pc idx lv st aw ca sl h1 h2 h4 hca hsl ad' ls H locs hn0 had hlv hP hD hS => va_gets (C := "java/lang/String") (n := "COMPACT_STRINGS") (d := "Z") (ref := "java/lang/String") B.exec B.bytes hamb.2.2.2.1 hS hown (hts _ h2) (fun _ h9 => h9) h1 (h4 hca hsl ad' ls H locs hn0 had hlv hP hD hS),
    fun pc idx lv st aw ca sl h1 h2 h4 h5 hca hsl ad' ls H locs hn0 had hlv hP hD hS => hamb.2.2.2.2.1.elim
      (fun h6 => va_gets (C := "jdk/internal/util/Preconditions") (n := "SIOOBE_FORMATTER") (d := "Ljava/util/function/BiFunction;") (ref := "jdk/internal/util/Preconditions") B.exec B.bytes h6 hS hown (hts _ h2) (fun _ h9 => h9) h1 (h4 hca hsl ad' ls H locs hn0 had hlv hP hD hS))
      (fun h6 => va_gets (C := "jdk/internal/util/Preconditions") (n := "SIOOBE_FORMATTER") (d := "Ljava/util/function/BiFunction;") (ref := "jdk/internal/util/Preconditions") B.exec B.bytes h6 hS hown (hts _ h2) (fun _ h9 => h9) h1 (h5 hca hsl ad' ls H locs hn0 had hlv hP hD hS))⟩ (Nat.zero_le _) (Nat.zero_le _) ad
  have hlen : (lg_sl (a.map (q_cv ad xd))).length ≤ maxL := by rw [q_sl_len, q_cats_map]; exact hcat
  have hl := lv_entry (a.map (q_cv ad xd)) (n := maxL) hlen
  rw [lg_entry_eq]
  refine h9 _ s.heap [] (Nat.le_refl _) (fun _ _ => rfl) ?_ hP hD hS
  rw [hnL, ← q_args]
  exact hl

def tJ0_coder_7d493 : List q_I := [(0, .getstatic 38, 3, 0, 0), (3, .ifCond .eq 10, 3, 0, 13), (6, .aload_n 0, 1, 0, 0), (7, .getfield 15, 3, 0, 0), (10, .goto 4, 3, 0, 14), (13, .iconst 1, 1, 1, 0), (14, .ireturn, 1, 0, 0)]
theorem tJ0_coder_7d493_ok : (tJ0_coder_7d493.all (q_okI cJ0_coder_7d493)) = true := by decide +kernel

abbrev fdJ0_coder_7d493 : List (Nat ⊕ (Nat × Nat)) := []
def spJ0_coder_7d493 : q_P := fun a w K => ∃ (t : Nat), w = [] ∧ a = [.retAddr t] ∧ t < 44 ∧ K (.inl (some (.int 0))) []
abbrev csJ0_coder_7d493 : q_S := (1, 98, 0, 1, 0, 0, fdJ0_coder_7d493, spJ0_coder_7d493)
def EJ0_coder_7d493 : q_E := (tJ0_coder_7d493, [(7, [0])], 1, [], [], [], [], [], [], [], 0, 0, 0, (some .byte), [], [], 0, 0)
theorem okJ0_coder_7d493 (l : Launch) : q_Eok l RJ0 cJ0_coder_7d493 EJ0_coder_7d493 := ⟨tJ0_coder_7d493_ok, q_nil, q_nil, q_nil, q_nil, q_nil, q_nil, q_nil, (fun h => absurd h (by decide))⟩
set_option maxRecDepth 100000 in
set_option maxHeartbeats 4000000 in
theorem ctJ0_coder_7d493 (l : Launch) : q_CT l yJ0_coder_7d493 (.code yJ0_coder_7d493 cJ0_coder_7d493 1 (some .byte)) 0 0 0 spJ0_coder_7d493 := by
  refine q_ct_ofJ EJ0_coder_7d493 (by decide +kernel) (okJ0_coder_7d493 l) rfl rfl rfl rfl rfl q_nil (fun ci h => by cases h) rfl ?_
  intro a w K h
  obtain ⟨t, rfl, rfl, ht, hK⟩ := h
  refine ⟨Nat.le_of_ble_eq_true rfl, fun C hC hR => ?_⟩
  obtain ⟨r1, r2, r3, r4, r5, r6⟩ := hR
  have hx : ∃ x, q_str[t]? = some x := ⟨_, List.getElem?_eq_getElem (by exact ht)⟩
  obtain ⟨x, hx⟩ := hx
  refine r5 0 38 _ _ _ _ _ (by decide +kernel) (q_G_i 219 (by decide +kernel) rfl) (hC _ _ _ _ _ _ ?_)
  refine And.intro (fun c => absurd c (by decide)) (fun _ => ?_)
  refine r1 7 15 _ _ _ _ _ t x (by decide +kernel) (q_G_i 1957 (by decide +kernel) rfl) hx (hC _ _ _ _ _ _ ?_)
  exact ⟨rfl, hK⟩
def tJ0_isLatin1_aae02 : List q_I := [(0, .getstatic 38, 3, 0, 0), (3, .ifCond .eq 14, 3, 0, 17), (6, .aload_n 0, 1, 0, 0), (7, .getfield 15, 3, 0, 0), (10, .ifCond .ne 7, 3, 0, 17), (13, .iconst 1, 1, 1, 0), (14, .goto 4, 3, 0, 18), (17, .iconst 0, 1, 0, 0), (18, .ireturn, 1, 0, 0)]
theorem tJ0_isLatin1_aae02_ok : (tJ0_isLatin1_aae02.all (q_okI cJ0_isLatin1_aae02)) = true := by decide +kernel

abbrev fdJ0_isLatin1_aae02 : List (Nat ⊕ (Nat × Nat)) := []
def spJ0_isLatin1_aae02 : q_P := fun a w K => ∃ (t : Nat), w = [] ∧ a = [.retAddr t] ∧ t < 44 ∧ K (.inl (some (.int 1))) []
abbrev csJ0_isLatin1_aae02 : q_S := (1, 98, 0, 1, 0, 0, fdJ0_isLatin1_aae02, spJ0_isLatin1_aae02)
def EJ0_isLatin1_aae02 : q_E := (tJ0_isLatin1_aae02, [(7, [0])], 1, [], [], [], [], [], [], [], 0, 0, 0, (some .boolean), [], [], 0, 0)
theorem okJ0_isLatin1_aae02 (l : Launch) : q_Eok l RJ0 cJ0_isLatin1_aae02 EJ0_isLatin1_aae02 := ⟨tJ0_isLatin1_aae02_ok, q_nil, q_nil, q_nil, q_nil, q_nil, q_nil, q_nil, (fun h => absurd h (by decide))⟩
set_option maxRecDepth 100000 in
set_option maxHeartbeats 4000000 in
theorem ctJ0_isLatin1_aae02 (l : Launch) : q_CT l yJ0_isLatin1_aae02 (.code yJ0_isLatin1_aae02 cJ0_isLatin1_aae02 1 (some .boolean)) 0 0 0 spJ0_isLatin1_aae02 := by
  refine q_ct_ofJ EJ0_isLatin1_aae02 (by decide +kernel) (okJ0_isLatin1_aae02 l) rfl rfl rfl rfl rfl q_nil (fun ci h => by cases h) rfl ?_
  intro a w K h
  obtain ⟨t, rfl, rfl, ht, hK⟩ := h
  refine ⟨Nat.le_of_ble_eq_true rfl, fun C hC hR => ?_⟩
  obtain ⟨r1, r2, r3, r4, r5, r6⟩ := hR
  have hx : ∃ x, q_str[t]? = some x := ⟨_, List.getElem?_eq_getElem (by exact ht)⟩
  obtain ⟨x, hx⟩ := hx
  refine r5 0 38 _ _ _ _ _ (by decide +kernel) (q_G_i 219 (by decide +kernel) rfl) (hC _ _ _ _ _ _ ?_)
  refine And.intro (fun c => absurd c (by decide)) (fun _ => ?_)
  refine r1 7 15 _ _ _ _ _ t x (by decide +kernel) (q_G_i 1957 (by decide +kernel) rfl) hx (hC _ _ _ _ _ _ ?_)
  exact And.intro (fun c => absurd rfl c) (fun _ => ⟨rfl, hK⟩)
theorem shr0 (x : Int32) : x >>> ((0 : Int32) &&& 31) = x := by
  rw [show ((0 : Int32) &&& 31) = 0 by decide, Int32.shiftRight_zero]
def tJ0_length_8abf5 : List q_I := [(0, .aload_n 0, 1, 0, 0), (1, .getfield 9, 3, 0, 0), (4, .arraylength, 1, 0, 0), (5, .aload_n 0, 1, 0, 0), (6, .invokevirtual 335, 3, 0, 0), (9, .ishr, 1, 0, 0), (10, .ireturn, 1, 0, 0)]
theorem tJ0_length_8abf5_ok : (tJ0_length_8abf5.all (q_okI cJ0_length_8abf5)) = true := by decide +kernel

abbrev fdJ0_length_8abf5 : List (Nat ⊕ (Nat × Nat)) := []
def spJ0_length_8abf5 : q_P := fun a w K => ∃ (t : Nat) (x : String × Nat × String × List Int32), w = [] ∧ a = [.retAddr t] ∧ q_str[t]? = some x ∧ K (.inl (some (.int (nI x.2.2.2.length)))) []
abbrev csJ0_length_8abf5 : q_S := (1, 98, 1, 1, 0, 0, fdJ0_length_8abf5, spJ0_length_8abf5)
theorem coJ0_335 (l : Launch) : q_CO l RJ0 335 csJ0_coder_7d493 := ⟨yJ0_coder_7d493, cJ0_coder_7d493, (some .byte), 0, ⟨by decide +kernel, by decide +kernel, by decide +kernel⟩, q_G_i 7 (by decide +kernel) rfl, Or.inr (Or.inr (Or.inl ⟨rfl, rfl, rfl, q_G_i 215 (by decide +kernel) rfl, q_G_i 216 (by decide +kernel) rfl, q_G_i 217 (by decide +kernel) rfl, q_G_i 218 (by decide +kernel) rfl, ctJ0_coder_7d493 l⟩))⟩
def EJ0_length_8abf5 : q_E := (tJ0_length_8abf5, [(1, [0]), (4, [0])], 1, [], [(335, csJ0_coder_7d493)], [], [], [], [], [], 1, 0, 0, (some .int), [], [], 0, 0)
theorem okJ0_length_8abf5 (l : Launch) : q_Eok l RJ0 cJ0_length_8abf5 EJ0_length_8abf5 := ⟨tJ0_length_8abf5_ok, q_nil, List.forall_mem_cons.mpr ⟨(coJ0_335 l), q_nil⟩, q_nil, q_nil, q_nil, q_nil, q_nil, (fun h => absurd h (by decide))⟩
set_option maxRecDepth 100000 in
set_option maxHeartbeats 4000000 in
theorem ctJ0_length_8abf5 (l : Launch) : q_CT l yJ0_length_8abf5 (.code yJ0_length_8abf5 cJ0_length_8abf5 1 (some .int)) 1 0 0 spJ0_length_8abf5 := by
  refine q_ct_ofJ EJ0_length_8abf5 (by decide +kernel) (okJ0_length_8abf5 l) rfl rfl rfl rfl rfl q_nil (fun ci h => by cases h) rfl ?_
  intro a w K h
  obtain ⟨t, x, rfl, rfl, hx, hK⟩ := h
  refine ⟨Nat.le_of_ble_eq_true rfl, fun C hC hR => hC _ _ _ _ _ _ ?_⟩
  obtain ⟨r1, r2, r3, r4, r5, r6⟩ := hR
  refine r2 1 9 _ _ _ _ _ t x (by decide +kernel) (q_G_i 1956 (by decide +kernel) rfl) hx ?_
  refine r3 4 _ _ _ _ _ t x (by decide +kernel) hx (hC _ _ _ _ _ _ ?_)
  have ht := q_str_lt hx
  refine ⟨ht, by omega, t, rfl, rfl, ht, ?_⟩
  show K (.inl (some (.int _))) _
  rw [shr0]
  exact hK
def tJ3_checkIndex_8e157 : List q_I := [(0, .iload_n 0, 1, 0, 0), (1, .ifCond .lt 8, 3, 0, 9), (4, .iload_n 0, 1, 0, 0), (5, .iload_n 1, 1, 0, 0), (6, .if_icmp .lt 10, 3, 0, 16), (9, .aload_n 2, 1, 0, 0), (10, .iload_n 0, 1, 0, 0), (11, .iload_n 1, 1, 0, 0), (12, .invokestatic 95, 3, 0, 0), (15, .athrow, 1, 0, 0), (16, .iload_n 0, 1, 0, 0), (17, .ireturn, 1, 0, 0)]
theorem tJ3_checkIndex_8e157_ok : (tJ3_checkIndex_8e157.all (q_okI cJ3_checkIndex_8e157)) = true := by decide +kernel

abbrev fdJ3_checkIndex_8e157 : List (Nat ⊕ (Nat × Nat)) := []
def spJ3_checkIndex_8e157 : q_P := fun a w K => ∃ (i n : Nat) (v : Value), w = [] ∧ a = [.int (nI i), .int (nI n), v] ∧ (v = .null ∨ v = .retAddr 89) ∧ i < n ∧ n < 2 ^ 31 ∧ K (.inl (some (.int (nI i)))) []
abbrev csJ3_checkIndex_8e157 : q_S := (3, 99, 0, 3, 0, 0, fdJ3_checkIndex_8e157, spJ3_checkIndex_8e157)
def EJ3_checkIndex_8e157 : q_E := (tJ3_checkIndex_8e157, [], 3, [], [], [], [], [], [], [], 0, 0, 0, (some .int), [], [], 0, 0)
theorem okJ3_checkIndex_8e157 (l : Launch) : q_Eok l RJ3 cJ3_checkIndex_8e157 EJ3_checkIndex_8e157 := ⟨tJ3_checkIndex_8e157_ok, q_nil, q_nil, q_nil, q_nil, q_nil, q_nil, q_nil, (fun h => absurd h (by decide))⟩
set_option maxRecDepth 100000 in
set_option maxHeartbeats 4000000 in
theorem ctJ3_checkIndex_8e157 (l : Launch) : q_CT l yJ3_checkIndex_8e157 (.code yJ3_checkIndex_8e157 cJ3_checkIndex_8e157 3 (some .int)) 0 0 0 spJ3_checkIndex_8e157 := by
  refine q_ct_of EJ3_checkIndex_8e157 (by decide +kernel) (okJ3_checkIndex_8e157 l) rfl rfl rfl rfl rfl q_nil (fun ci h => by cases h) rfl ?_
  intro a w K h
  obtain ⟨i, n, v, rfl, rfl, hv, hi, hn, hK⟩ := h
  refine ⟨by rcases hv with rfl | rfl <;> exact Nat.le_of_ble_eq_true rfl, fun C hC => hC _ _ _ _ _ _ ?_⟩
  refine And.intro (fun c => absurd c (nI_pos (by omega))) (fun _ => And.intro (fun c => hK) (fun c => absurd (nI_lt hi (by omega)) c))
def tJ0_checkIndex_df160 : List q_I := [(0, .iload_n 0, 1, 0, 0), (1, .iload_n 1, 1, 0, 0), (2, .getstatic 1053, 3, 0, 0), (5, .invokestatic 1059, 3, 0, 0), (8, .pop, 1, 0, 0), (9, .return_, 1, 0, 0)]
theorem tJ0_checkIndex_df160_ok : (tJ0_checkIndex_df160.all (q_okI cJ0_checkIndex_df160)) = true := by decide +kernel

abbrev fdJ0_checkIndex_df160 : List (Nat ⊕ (Nat × Nat)) := []
def spJ0_checkIndex_df160 : q_P := fun a w K => ∃ (i n : Nat), w = [] ∧ a = [.int (nI i), .int (nI n)] ∧ i < n ∧ n < 2 ^ 31 ∧ K (.inl none) []
abbrev csJ0_checkIndex_df160 : q_S := (2, 99, 1, 2, 0, 0, fdJ0_checkIndex_df160, spJ0_checkIndex_df160)
theorem coJ0_1059 (l : Launch) : q_CO l RJ0 1059 csJ3_checkIndex_8e157 := ⟨yJ3_checkIndex_8e157, cJ3_checkIndex_8e157, (some .int), 3, ⟨by decide +kernel, by decide +kernel, by decide +kernel⟩, q_G_i 9 (by decide +kernel) rfl, Or.inr (Or.inr (Or.inr ⟨rfl, rfl, q_G_i 238 (by decide +kernel) rfl, q_G_i 239 (by decide +kernel) rfl, Or.inl ⟨q_G_i 240 (by decide +kernel) rfl, ctJ3_checkIndex_8e157 l⟩⟩))⟩
def EJ0_checkIndex_df160 : q_E := (tJ0_checkIndex_df160, [(2, [0, 1])], 2, [], [(1059, csJ3_checkIndex_8e157)], [], [], [], [], [], 1, 0, 0, none, [], [], 0, 0)
theorem okJ0_checkIndex_df160 (l : Launch) : q_Eok l RJ0 cJ0_checkIndex_df160 EJ0_checkIndex_df160 := ⟨tJ0_checkIndex_df160_ok, q_nil, List.forall_mem_cons.mpr ⟨(coJ0_1059 l), q_nil⟩, q_nil, q_nil, q_nil, q_nil, q_nil, (fun h => absurd h (by decide))⟩
set_option maxRecDepth 100000 in
set_option maxHeartbeats 4000000 in
theorem ctJ0_checkIndex_df160 (l : Launch) : q_CT l yJ0_checkIndex_df160 (.code yJ0_checkIndex_df160 cJ0_checkIndex_df160 2 none) 1 0 0 spJ0_checkIndex_df160 := by
  refine q_ct_ofJ EJ0_checkIndex_df160 (by decide +kernel) (okJ0_checkIndex_df160 l) rfl rfl rfl rfl rfl q_nil (fun ci h => by cases h) rfl ?_
  intro a w K h
  obtain ⟨i, n, rfl, rfl, hi, hn, hK⟩ := h
  refine ⟨Nat.le_of_ble_eq_true rfl, fun C hC hR => hC _ _ _ _ _ _ ?_⟩
  obtain ⟨r1, r2, r3, r4, r5, r6⟩ := hR
  refine r6 2 1053 _ _ _ _ _ (by decide +kernel) (q_G_i 236 (by decide +kernel) rfl) (hC _ _ _ _ _ _ ?_) (hC _ _ _ _ _ _ ?_)
  · exact ⟨i, n, _, rfl, rfl, Or.inl rfl, hi, hn, hK⟩
  · exact ⟨by decide, i, n, _, rfl, rfl, Or.inr rfl, hi, hn, hK⟩
theorem q_str_c : ∀ x ∈ q_str, ∀ b ∈ x.2.2.2, ((b &&& 255).toUInt32 % 65536).toInt32 = b ∧ narrow .char (.int b) = .int b := by decide +kernel
theorem q_str_n : ∀ x ∈ q_str, x.2.2.2.length < 100 := by decide +kernel
def tJ1_charAt_3b067 : List q_I := [(0, .iload_n 1, 1, 0, 0), (1, .aload_n 0, 1, 0, 0), (2, .arraylength, 1, 0, 0), (3, .invokestatic 9, 3, 0, 0), (6, .aload_n 0, 1, 0, 0), (7, .iload_n 1, 1, 0, 0), (8, .baload, 1, 0, 0), (9, .sipush 255, 3, 255, 0), (12, .iand, 1, 0, 0), (13, .i2c, 1, 0, 0), (14, .ireturn, 1, 0, 0)]
theorem tJ1_charAt_3b067_ok : (tJ1_charAt_3b067.all (q_okI cJ1_charAt_3b067)) = true := by decide +kernel

abbrev fdJ1_charAt_3b067 : List (Nat ⊕ (Nat × Nat)) := []
def spJ1_charAt_3b067 : q_P := fun a w K => ∃ (t k : Nat) (x : String × Nat × String × List Int32), w = [] ∧ a = [.retAddr (45 + t), .int (nI k)] ∧ q_str[t]? = some x ∧ k < x.2.2.2.length ∧ K (.inl (some (.int (x.2.2.2.getD k 0)))) []
abbrev csJ1_charAt_3b067 : q_S := (2, 99, 2, 2, 0, 0, fdJ1_charAt_3b067, spJ1_charAt_3b067)
theorem coJ1_9 (l : Launch) : q_CO l RJ1 9 csJ0_checkIndex_df160 := ⟨yJ0_checkIndex_df160, cJ0_checkIndex_df160, none, 2, ⟨by decide +kernel, by decide +kernel, by decide +kernel⟩, q_G_i 7 (by decide +kernel) rfl, Or.inr (Or.inr (Or.inr ⟨rfl, rfl, q_G_i 233 (by decide +kernel) rfl, q_G_i 234 (by decide +kernel) rfl, Or.inl ⟨q_G_i 235 (by decide +kernel) rfl, ctJ0_checkIndex_df160 l⟩⟩))⟩
def EJ1_charAt_3b067 : q_E := (tJ1_charAt_3b067, [(2, [0, 1]), (8, [0, 1])], 2, [], [(9, csJ0_checkIndex_df160)], [], [], [], [], [], 2, 0, 0, (some .char), [], [], 0, 0)
theorem okJ1_charAt_3b067 (l : Launch) : q_Eok l RJ1 cJ1_charAt_3b067 EJ1_charAt_3b067 := ⟨tJ1_charAt_3b067_ok, q_nil, List.forall_mem_cons.mpr ⟨(coJ1_9 l), q_nil⟩, q_nil, q_nil, q_nil, q_nil, q_nil, (fun h => absurd h (by decide))⟩
set_option maxRecDepth 100000 in
set_option maxHeartbeats 4000000 in
theorem ctJ1_charAt_3b067 (l : Launch) : q_CT l yJ1_charAt_3b067 (.code yJ1_charAt_3b067 cJ1_charAt_3b067 2 (some .char)) 2 0 0 spJ1_charAt_3b067 := by
  refine q_ct_ofJ EJ1_charAt_3b067 (by decide +kernel) (okJ1_charAt_3b067 l) rfl rfl rfl rfl rfl q_nil (fun ci h => by cases h) rfl ?_
  intro a w K h
  obtain ⟨t, k, x, rfl, rfl, hx, hk, hK⟩ := h
  have hm := List.mem_of_getElem? hx
  have hn := q_str_n x hm
  have hkc : (nI k).toNatClampNeg = k := nI_clamp (by omega)
  obtain ⟨e1, e2⟩ := q_str_c x hm (x.2.2.2.getD k 0) (by rw [List.getD_eq_getElem?_getD, List.getElem?_eq_getElem hk]; exact List.getElem_mem hk)
  refine ⟨Nat.le_of_ble_eq_true rfl, fun C hC hR => hC _ _ _ _ _ _ ?_⟩
  obtain ⟨r1, r2, r3, r4, r5, r6⟩ := hR
  refine r3 2 _ _ _ _ _ t x (by decide +kernel) hx (hC _ _ _ _ _ _ ?_)
  refine ⟨k, x.2.2.2.length, rfl, rfl, hk, by omega, ?_⟩
  refine r4 8 _ _ _ _ _ t x _ (by decide +kernel) hx (vp_in_nI hk (by omega)) (hC _ _ _ _ _ _ ?_)
  show narrow .char (.int (((x.2.2.2.getD (nI k).toNatClampNeg 0) &&& 255).toUInt32 % 65536).toInt32) = .int (((x.2.2.2.getD (nI k).toNatClampNeg 0) &&& 255).toUInt32 % 65536).toInt32 ∧ K (.inl (some (.int (((x.2.2.2.getD (nI k).toNatClampNeg 0) &&& 255).toUInt32 % 65536).toInt32))) []
  rw [hkc, e1]
  exact ⟨e2, hK⟩
def tJ0_charAt_5068e : List q_I := [(0, .aload_n 0, 1, 0, 0), (1, .invokevirtual 492, 3, 0, 0), (4, .ifCond .eq 12, 3, 0, 16), (7, .aload_n 0, 1, 0, 0), (8, .getfield 9, 3, 0, 0), (11, .iload_n 1, 1, 0, 0), (12, .invokestatic 495, 3, 0, 0), (15, .ireturn, 1, 0, 0), (16, .aload_n 0, 1, 0, 0), (17, .getfield 9, 3, 0, 0), (20, .iload_n 1, 1, 0, 0), (21, .invokestatic 498, 3, 0, 0), (24, .ireturn, 1, 0, 0)]
theorem tJ0_charAt_5068e_ok : (tJ0_charAt_5068e.all (q_okI cJ0_charAt_5068e)) = true := by decide +kernel

abbrev fdJ0_charAt_5068e : List (Nat ⊕ (Nat × Nat)) := []
def spJ0_charAt_5068e : q_P := fun a w K => ∃ (t k : Nat) (x : String × Nat × String × List Int32), w = [] ∧ a = [.retAddr t, .int (nI k)] ∧ q_str[t]? = some x ∧ k < x.2.2.2.length ∧ K (.inl (some (.int (x.2.2.2.getD k 0)))) []
abbrev csJ0_charAt_5068e : q_S := (2, 98, 3, 2, 0, 0, fdJ0_charAt_5068e, spJ0_charAt_5068e)
theorem coJ0_492 (l : Launch) : q_CO l RJ0 492 csJ0_isLatin1_aae02 := ⟨yJ0_isLatin1_aae02, cJ0_isLatin1_aae02, (some .boolean), 0, ⟨by decide +kernel, by decide +kernel, by decide +kernel⟩, q_G_i 7 (by decide +kernel) rfl, Or.inr (Or.inr (Or.inl ⟨rfl, rfl, rfl, q_G_i 226 (by decide +kernel) rfl, q_G_i 227 (by decide +kernel) rfl, q_G_i 228 (by decide +kernel) rfl, q_G_i 229 (by decide +kernel) rfl, ctJ0_isLatin1_aae02 l⟩))⟩
theorem coJ0_495 (l : Launch) : q_CO l RJ0 495 csJ1_charAt_3b067 := ⟨yJ1_charAt_3b067, cJ1_charAt_3b067, (some .char), 2, ⟨by decide +kernel, by decide +kernel, by decide +kernel⟩, q_G_i 8 (by decide +kernel) rfl, Or.inr (Or.inr (Or.inr ⟨rfl, rfl, q_G_i 230 (by decide +kernel) rfl, q_G_i 231 (by decide +kernel) rfl, Or.inl ⟨q_G_i 232 (by decide +kernel) rfl, ctJ1_charAt_3b067 l⟩⟩))⟩
def EJ0_charAt_5068e : q_E := (tJ0_charAt_5068e, [(8, [0, 1])], 2, [], [(492, csJ0_isLatin1_aae02), (495, csJ1_charAt_3b067)], [], [], [], [], [], 3, 0, 0, (some .char), [], [], 0, 0)
theorem okJ0_charAt_5068e (l : Launch) : q_Eok l RJ0 cJ0_charAt_5068e EJ0_charAt_5068e := ⟨tJ0_charAt_5068e_ok, q_nil, List.forall_mem_cons.mpr ⟨(coJ0_492 l), List.forall_mem_cons.mpr ⟨(coJ0_495 l), q_nil⟩⟩, q_nil, q_nil, q_nil, q_nil, q_nil, (fun h => absurd h (by decide))⟩
set_option maxRecDepth 100000 in
set_option maxHeartbeats 4000000 in
theorem ctJ0_charAt_5068e (l : Launch) : q_CT l yJ0_charAt_5068e (.code yJ0_charAt_5068e cJ0_charAt_5068e 2 (some .char)) 3 0 0 spJ0_charAt_5068e := by
  refine q_ct_ofJ EJ0_charAt_5068e (by decide +kernel) (okJ0_charAt_5068e l) rfl rfl rfl rfl rfl q_nil (fun ci h => by cases h) rfl ?_
  intro a w K h
  obtain ⟨t, k, x, rfl, rfl, hx, hk, hK⟩ := h
  have ht := q_str_lt hx
  have hm := List.mem_of_getElem? hx
  obtain ⟨e1, e2⟩ := q_str_c x hm (x.2.2.2.getD k 0) (by rw [List.getD_eq_getElem?_getD, List.getElem?_eq_getElem hk]; exact List.getElem_mem hk)
  refine ⟨Nat.le_of_ble_eq_true rfl, fun C hC hR => hC _ _ _ _ _ _ ?_⟩
  obtain ⟨r1, r2, r3, r4, r5, r6⟩ := hR
  refine ⟨ht, by omega, t, rfl, rfl, ht, And.intro (fun c => absurd c (by decide)) (fun _ => ?_)⟩
  refine r2 8 9 _ _ _ _ _ t x (by decide +kernel) (q_G_i 1956 (by decide +kernel) rfl) hx (hC _ _ _ _ _ _ ?_)
  exact ⟨by omega, t, k, x, rfl, rfl, hx, hk, e2, hK⟩
end
section
def kb (t : Nat) : List Int32 := ((q_str[t]?).map (fun x => x.2.2.2)).getD []
def wlF (l : List Int32) : Nat → Int64
  | 0 => 0
  | k + 1 => 32 * wlF l k + (l.getD k 0 - 97 + 1).toInt64
def wv (t : Nat) : Int64 := wlF (kb t) (kb t).length
/-- the words that are no names, as the constructor lays them -/
def rsv : Nat → Int64 := vp_updL (vp_updL (vp_updL (vp_updL (vp_updL (vp_updL (vp_updL (vp_updL (vp_updL (vp_updL (fun _ => 0) 0 (wv 1)) 1 (wv 2)) 2 (wv 3)) 3 (wv 4)) 4 (wv 5)) 5 (wv 0)) 6 (wv 6)) 7 (wv 7)) 8 (wv 8)) 9 (wv 9)
/-- fault, faultPlace, end, knownFrom, lawsAlone, token, start, next, word, whole -/
abbrev NT : Type := Int32 × Int32 × Nat × Int32 × Int32 × Int32 × Nat × Nat × Int64 × Int32
def readW (o : Nat) (bk : Value) (tx : Nat → Int32) (N : NT) : List q_C := [.inr (7, [.int N.1, .int N.2.1, .ref (o + 1), .ref (o + 2), .int (nI N.2.2.1), bk, .int N.2.2.2.1, .int N.2.2.2.2.1, .int N.2.2.2.2.2.1, .int (nI N.2.2.2.2.2.2.1), .int (nI N.2.2.2.2.2.2.2.1), .long N.2.2.2.2.2.2.2.2.1, .int N.2.2.2.2.2.2.2.2.2]), .inl (2, 10, .inr rsv), .inl (0, 700, .inl tx)]
def nOk (N : NT) : Prop := N.2.2.1 ≤ 700 ∧ N.2.2.2.2.2.2.1 ≤ N.2.2.2.2.2.2.2.1 ∧ N.2.2.2.2.2.2.2.1 ≤ N.2.2.1
def nUp (N : NT) : NT := (N.1, N.2.1, N.2.2.1, N.2.2.2.1, N.2.2.2.2.1, N.2.2.2.2.2.1, 0, N.2.2.2.2.2.2.2)
theorem nOk.s {N : NT} (h : nOk N) : nOk (nUp N) := ⟨h.1, Nat.zero_le _, h.2.2⟩
def failAtF (N : NT) (x p : Int32) : NT := (x, p, N.2.2)
def failF (N : NT) (x : Int32) : NT := (x, nI N.2.2.2.2.2.2.1, N.2.2)

def tX7_failAt : List q_I := [(0, .aload_n 0, 1, 0, 0), (1, .iload_n 1, 1, 0, 0), (2, .putfield 64, 3, 0, 0), (5, .aload_n 0, 1, 0, 0), (6, .iload_n 2, 1, 0, 0), (7, .putfield 67, 3, 0, 0), (10, .iconst 0, 1, 0, 0), (11, .ireturn, 1, 0, 0)]
theorem tX7_failAt_ok : (tX7_failAt.all (q_okI cX7_failAt)) = true := by decide +kernel

abbrev fdX7_failAt : List (Nat ⊕ (Nat × Nat)) := [.inl 0, .inr (0, 2), .inr (0, 3)]
def spX7_failAt : q_P := fun a w K => ∃ (tx : Nat → Int32) (N : NT) (x p : Int32), w = readW 0 (tk 0 5) tx N ∧ a = [.ref 0, .int x, .int p] ∧ K (.inl (some (.int 0))) (readW 0 (tk 0 5) tx (failAtF N x p))
abbrev csX7_failAt : q_S := (3, 7, 0, 3, 0, 0, fdX7_failAt, spX7_failAt)
def EX7_failAt : q_E := (tX7_failAt, [], 3, flX7, [], [], [], [], [], [], 0, 0, 0, (some .boolean), [], [], 0, 0)
theorem okX7_failAt (l : Launch) : q_Eok l RX7 cX7_failAt EX7_failAt := ⟨tX7_failAt_ok, flX7_ok, q_nil, q_nil, q_nil, q_nil, q_nil, q_nil, (fun h => absurd h (by decide))⟩
set_option maxRecDepth 100000 in
set_option maxHeartbeats 4000000 in
theorem ctX7_failAt (l : Launch) : q_CT l yX7_failAt (.code yX7_failAt cX7_failAt 3 (some .boolean)) 0 0 0 spX7_failAt := by
  refine q_ct_of EX7_failAt (by decide +kernel) (okX7_failAt l) rfl rfl rfl rfl rfl q_nil (fun ci h => by cases h) rfl ?_
  intro a w K h
  obtain ⟨tx, N, x, p, rfl, rfl, hK⟩ := h
  refine ⟨Nat.le_of_ble_eq_true rfl, fun C hC => hC _ _ _ _ _ _ ?_⟩
  exact ⟨rfl, hK⟩
def tX7_fail : List q_I := [(0, .aload_n 0, 1, 0, 0), (1, .iload_n 1, 1, 0, 0), (2, .aload_n 0, 1, 0, 0), (3, .getfield 135, 3, 0, 0), (6, .invokevirtual 138, 3, 0, 0), (9, .ireturn, 1, 0, 0)]
theorem tX7_fail_ok : (tX7_fail.all (q_okI cX7_fail)) = true := by decide +kernel

abbrev fdX7_fail : List (Nat ⊕ (Nat × Nat)) := [.inl 0, .inr (0, 2), .inr (0, 3)]
def spX7_fail : q_P := fun a w K => ∃ (tx : Nat → Int32) (N : NT) (x : Int32), w = readW 0 (tk 0 5) tx N ∧ a = [.ref 0, .int x] ∧ K (.inl (some (.int 0))) (readW 0 (tk 0 5) tx (failF N x))
abbrev csX7_fail : q_S := (2, 7, 1, 2, 0, 0, fdX7_fail, spX7_fail)
theorem coX7_138 (l : Launch) : q_CO l RX7 138 csX7_failAt := ⟨yX7_failAt, cX7_failAt, (some .boolean), 2, ⟨by decide +kernel, by decide +kernel, by decide +kernel⟩, q_G_i 6 (by decide +kernel) rfl, Or.inl ⟨by decide, rfl, rfl, q_G_i 604 (by decide +kernel) rfl, q_G_i 606 (by decide +kernel) rfl, q_G_s (n := 13) 9 (by decide +kernel), Or.inl ⟨q_G_i 607 (by decide +kernel) rfl, ctX7_failAt l⟩⟩⟩
def EX7_fail : q_E := (tX7_fail, [], 2, flX7, [(138, csX7_failAt)], [], [], [], [], [], 1, 0, 0, (some .boolean), [], [], 0, 0)
theorem okX7_fail (l : Launch) : q_Eok l RX7 cX7_fail EX7_fail := ⟨tX7_fail_ok, flX7_ok, List.forall_mem_cons.mpr ⟨(coX7_138 l), q_nil⟩, q_nil, q_nil, q_nil, q_nil, q_nil, (fun h => absurd h (by decide))⟩
set_option maxRecDepth 100000 in
set_option maxHeartbeats 4000000 in
theorem ctX7_fail (l : Launch) : q_CT l yX7_fail (.code yX7_fail cX7_fail 2 (some .boolean)) 1 0 0 spX7_fail := by
  refine q_ct_of EX7_fail (by decide +kernel) (okX7_fail l) rfl rfl rfl rfl rfl q_nil (fun ci h => by cases h) rfl ?_
  intro a w K h
  obtain ⟨tx, N, x, rfl, rfl, hK⟩ := h
  refine ⟨Nat.le_of_ble_eq_true rfl, fun C hC => hC _ _ _ _ _ _ ?_⟩
  exact ⟨tx, N, _, _, rfl, rfl, rfl, hK⟩
def seeB (tx : Nat → Int32) (N : NT) (bs : List Int32) : Bool := decide (N.2.2.2.2.2.1 = 1) && (decide (nI N.2.2.2.2.2.2.2.1 - nI N.2.2.2.2.2.2.1 = nI bs.length) && allF (fun i => decide (tx (N.2.2.2.2.2.2.1 + i) = bs.getD i 0)) 0 bs.length)
def tX7_sees : List q_I := [(0, .aload_n 0, 1, 0, 0), (1, .getfield 80, 3, 0, 0), (4, .iconst 1, 1, 1, 0), (5, .if_icmp .ne 19, 3, 0, 24), (8, .aload_n 0, 1, 0, 0), (9, .getfield 70, 3, 0, 0), (12, .aload_n 0, 1, 0, 0), (13, .getfield 135, 3, 0, 0), (16, .isub, 1, 0, 0), (17, .aload_n 1, 1, 0, 0), (18, .invokevirtual 222, 3, 0, 0), (21, .if_icmp .eq 5, 3, 0, 26), (24, .iconst 0, 1, 0, 0), (25, .ireturn, 1, 0, 0), (26, .iconst 0, 1, 0, 0), (27, .istore_n 2, 1, 0, 0), (28, .iload_n 2, 1, 0, 0), (29, .aload_n 1, 1, 0, 0), (30, .invokevirtual 222, 3, 0, 0), (33, .if_icmp .ge 30, 3, 0, 63), (36, .aload_n 0, 1, 0, 0), (37, .getfield 39, 3, 0, 0), (40, .aload_n 0, 1, 0, 0), (41, .getfield 135, 3, 0, 0), (44, .iload_n 2, 1, 0, 0), (45, .iadd, 1, 0, 0), (46, .baload, 1, 0, 0), (47, .aload_n 1, 1, 0, 0), (48, .iload_n 2, 1, 0, 0), (49, .invokevirtual 228, 3, 0, 0), (52, .if_icmp .eq 5, 3, 0, 57), (55, .iconst 0, 1, 0, 0), (56, .ireturn, 1, 0, 0), (57, .iinc 2 1, 3, 1, 0), (60, .goto (-32), 3, 0, 28), (63, .iconst 1, 1, 1, 0), (64, .ireturn, 1, 0, 0)]
theorem tX7_sees_ok : (tX7_sees.all (q_okI cX7_sees)) = true := by decide +kernel

abbrev fdX7_sees : List (Nat ⊕ (Nat × Nat)) := [.inl 0, .inr (0, 2), .inr (0, 3)]
def spX7_sees : q_P := fun a w K => ∃ (tx : Nat → Int32) (N : NT) (t : Nat) (x : String × Nat × String × List Int32), w = readW 0 (tk 0 5) tx N ∧ a = [.ref 0, .retAddr t] ∧ q_str[t]? = some x ∧ nOk N ∧ K (.inl (some (.int (bI (seeB tx N x.2.2.2))))) (readW 0 (tk 0 5) tx N)
abbrev csX7_sees : q_S := (2, 7, 4, 3, 0, 0, fdX7_sees, spX7_sees)
theorem coX7_222 (l : Launch) : q_CO l RX7 222 csJ0_length_8abf5 := ⟨yJ0_length_8abf5, cJ0_length_8abf5, (some .int), 0, ⟨by decide +kernel, by decide +kernel, by decide +kernel⟩, q_G_i 7 (by decide +kernel) rfl, Or.inr (Or.inr (Or.inl ⟨rfl, rfl, rfl, q_G_i 211 (by decide +kernel) rfl, q_G_i 212 (by decide +kernel) rfl, q_G_i 213 (by decide +kernel) rfl, q_G_i 214 (by decide +kernel) rfl, ctJ0_length_8abf5 l⟩))⟩
theorem coX7_228 (l : Launch) : q_CO l RX7 228 csJ0_charAt_5068e := ⟨yJ0_charAt_5068e, cJ0_charAt_5068e, (some .char), 1, ⟨by decide +kernel, by decide +kernel, by decide +kernel⟩, q_G_i 7 (by decide +kernel) rfl, Or.inr (Or.inr (Or.inl ⟨rfl, rfl, rfl, q_G_i 222 (by decide +kernel) rfl, q_G_i 223 (by decide +kernel) rfl, q_G_i 224 (by decide +kernel) rfl, q_G_i 225 (by decide +kernel) rfl, ctJ0_charAt_5068e l⟩))⟩
def EX7_sees : q_E := (tX7_sees, [(28, [0, 1, 2])], 3, flX7, [(222, csJ0_length_8abf5), (228, csJ0_charAt_5068e)], [], [], [], [], [], 4, 0, 0, (some .boolean), [], [], 0, 0)
theorem okX7_sees (l : Launch) : q_Eok l RX7 cX7_sees EX7_sees := ⟨tX7_sees_ok, flX7_ok, List.forall_mem_cons.mpr ⟨(coX7_222 l), List.forall_mem_cons.mpr ⟨(coX7_228 l), q_nil⟩⟩, q_nil, q_nil, q_nil, q_nil, q_nil, (fun h => absurd h (by decide))⟩
set_option maxRecDepth 100000 in
set_option maxHeartbeats 4000000 in
theorem ctX7_sees (l : Launch) : q_CT l yX7_sees (.code yX7_sees cX7_sees 3 (some .boolean)) 4 0 0 spX7_sees := by
  refine q_ct_of EX7_sees (by decide +kernel) (okX7_sees l) rfl rfl rfl rfl rfl q_nil (fun ci h => by cases h) rfl ?_
  intro a w K h
  obtain ⟨tx, N, t, x, rfl, rfl, hx, ⟨n1, n2, n3⟩, hK⟩ := h
  have ht := q_str_lt hx
  have hn := q_str_n x (List.mem_of_getElem? hx)
  refine ⟨Nat.le_of_ble_eq_true rfl, fun C hC => hC _ _ _ _ _ _ ?_⟩
  refine And.intro (fun c => ⟨rfl, ?_⟩) (fun c => ?_)
  · have c : ¬ N.2.2.2.2.2.1 = 1 := c
    rw [seeB, decide_eq_false c, Bool.false_and] at hK; exact hK
  · have c : N.2.2.2.2.2.1 = 1 := c
    rw [seeB, decide_eq_true c, Bool.true_and] at hK
    refine ⟨ht, by omega, t, x, rfl, rfl, hx, And.intro (fun c2 => ?_) (fun c2 => ⟨rfl, ?_⟩)⟩
    · have c2 : nI N.2.2.2.2.2.2.2.1 - nI N.2.2.2.2.2.2.1 = nI x.2.2.2.length := c2
      rw [decide_eq_true c2, Bool.true_and] at hK
      have e9 : N.2.2.2.2.2.2.2.1 - N.2.2.2.2.2.2.1 = x.2.2.2.length := by
        rw [pk_sub n2] at c2
        have := congrArg Int32.toNatClampNeg c2
        rw [nI_clamp (by omega), nI_clamp (by omega)] at this
        exact this
      have loop : ∀ k i, i + k = x.2.2.2.length → K (.inl (some (.int (bI (allF (fun i => decide (tx (N.2.2.2.2.2.2.1 + i) = x.2.2.2.getD i 0)) i k))))) (readW 0 (tk 0 5) tx N) → C 28 [(0, .ref 0), (1, .retAddr t), (2, .int (nI i))] [] (readW 0 (tk 0 5) tx N) 0 0 := by
        intro k
        induction k with
        | zero =>
          intro i hi hK
          refine hC _ _ _ _ _ _ ?_
          refine ⟨ht, by omega, t, x, rfl, rfl, hx, And.intro (fun c3 => ⟨rfl, hK⟩) (fun c3 => absurd (nI_le (by omega) (by omega)) c3)⟩
        | succ k ih =>
          intro i hi hK
          have e2 : nI N.2.2.2.2.2.2.1 + nI i = nI (N.2.2.2.2.2.2.1 + i) := nI_add _ _
          have hv : vp_in (nI N.2.2.2.2.2.2.1 + nI i) 700 := by rw [e2]; exact vp_in_nI (by omega) (by omega)
          have hc : (nI N.2.2.2.2.2.2.1 + nI i).toNatClampNeg = N.2.2.2.2.2.2.1 + i := by rw [e2]; exact nI_clamp (by omega)
          refine hC _ _ _ _ _ _ ?_
          refine ⟨ht, by omega, t, x, rfl, rfl, hx, And.intro (fun c3 => absurd c3 (nI_ge (b := x.2.2.2.length) (by omega) (by omega))) (fun c3 => ⟨hv, ht, by omega, t, i, x, rfl, rfl, hx, by omega, And.intro (fun c4 => ?_) (fun c4 => ⟨rfl, ?_⟩)⟩)⟩
          · have c4 : tx (nI N.2.2.2.2.2.2.1 + nI i).toNatClampNeg = x.2.2.2.getD i 0 := c4
            rw [hc] at c4
            rw [allF, decide_eq_true c4, Bool.true_and] at hK
            have h9 := ih (i + 1) (by omega) hK
            rw [← nI_1 i] at h9
            exact h9
          · have c4 : ¬ tx (nI N.2.2.2.2.2.2.1 + nI i).toNatClampNeg = x.2.2.2.getD i 0 := c4
            rw [hc] at c4
            rw [allF, decide_eq_false c4, Bool.false_and] at hK
            exact hK
      exact loop x.2.2.2.length 0 (by omega) hK
    · have c2 : ¬ nI N.2.2.2.2.2.2.2.1 - nI N.2.2.2.2.2.2.1 = nI x.2.2.2.length := c2
      rw [decide_eq_false c2, Bool.false_and] at hK; exact hK
def tX7_numberOf : List q_I := [(0, .lconst 0, 1, 0, 0), (1, .lstore_n 1, 1, 0, 0), (2, .iconst 0, 1, 0, 0), (3, .istore_n 3, 1, 0, 0), (4, .iload_n 3, 1, 0, 0), (5, .aload_n 0, 1, 0, 0), (6, .invokevirtual 222, 3, 0, 0), (9, .if_icmp .ge 27, 3, 0, 36), (12, .lload_n 1, 1, 0, 0), (13, .ldc2_w 232, 3, 0, 0), (16, .lmul, 1, 0, 0), (17, .aload_n 0, 1, 0, 0), (18, .iload_n 3, 1, 0, 0), (19, .invokevirtual 228, 3, 0, 0), (22, .bipush 97, 2, 97, 0), (24, .isub, 1, 0, 0), (25, .iconst 1, 1, 1, 0), (26, .iadd, 1, 0, 0), (27, .i2l, 1, 0, 0), (28, .ladd, 1, 0, 0), (29, .lstore_n 1, 1, 0, 0), (30, .iinc 3 1, 3, 1, 0), (33, .goto (-29), 3, 0, 4), (36, .lload_n 1, 1, 0, 0), (37, .lreturn, 1, 0, 0)]
theorem tX7_numberOf_ok : (tX7_numberOf.all (q_okI cX7_numberOf)) = true := by decide +kernel

abbrev fdX7_numberOf : List (Nat ⊕ (Nat × Nat)) := []
def spX7_numberOf : q_P := fun a w K => ∃ (t : Nat) (x : String × Nat × String × List Int32), w = [] ∧ a = [.retAddr t] ∧ q_str[t]? = some x ∧ K (.inl (some (.long (wlF x.2.2.2 x.2.2.2.length)))) []
abbrev csX7_numberOf : q_S := (1, 99, 4, 4, 0, 0, fdX7_numberOf, spX7_numberOf)
def EX7_numberOf : q_E := (tX7_numberOf, [(4, [0, 1, 3])], 4, flX7, [(222, csJ0_length_8abf5), (228, csJ0_charAt_5068e)], [(232, 32)], [], [], [], [], 4, 0, 0, (some .long), [], [], 0, 0)
theorem okX7_numberOf (l : Launch) : q_Eok l RX7 cX7_numberOf EX7_numberOf := ⟨tX7_numberOf_ok, flX7_ok, List.forall_mem_cons.mpr ⟨(coX7_222 l), List.forall_mem_cons.mpr ⟨(coX7_228 l), q_nil⟩⟩, List.forall_mem_cons.mpr ⟨q_G_i 221 (by decide +kernel) rfl, q_nil⟩, q_nil, q_nil, q_nil, q_nil, (fun h => absurd h (by decide))⟩
set_option maxRecDepth 100000 in
set_option maxHeartbeats 4000000 in
theorem ctX7_numberOf (l : Launch) : q_CT l yX7_numberOf (.code yX7_numberOf cX7_numberOf 4 (some .long)) 4 0 0 spX7_numberOf := by
  refine q_ct_of EX7_numberOf (by decide +kernel) (okX7_numberOf l) rfl rfl rfl rfl rfl q_nil (fun ci h => by cases h) rfl ?_
  intro a w K h
  obtain ⟨t, x, rfl, rfl, hx, hK⟩ := h
  have ht := q_str_lt hx
  have hn := q_str_n x (List.mem_of_getElem? hx)
  refine ⟨Nat.le_of_ble_eq_true rfl, fun C hC => ?_⟩
  have loop : ∀ k i, i + k = x.2.2.2.length → C 4 [(0, .retAddr t), (1, .long (wlF x.2.2.2 i)), (3, .int (nI i))] [] [] 0 0 := by
    intro k
    induction k with
    | zero =>
      intro i hi
      have hi : i = x.2.2.2.length := hi
      subst hi
      exact hC _ _ _ _ _ _ ⟨ht, by omega, t, x, rfl, rfl, hx, And.intro (fun _ => hK) (fun c3 => absurd (Int32.le_refl _) c3)⟩
    | succ k ih =>
      intro i hi
      have h9 := ih (i + 1) (by omega)
      rw [wlF, Int64.mul_comm, ← nI_1 i] at h9
      exact hC _ _ _ _ _ _ ⟨ht, by omega, t, x, rfl, rfl, hx, And.intro (fun c3 => absurd c3 (nI_ge (b := x.2.2.2.length) (by omega) (by omega))) (fun c3 => ⟨ht, by omega, t, i, x, rfl, rfl, hx, by omega, h9⟩)⟩
  exact hC _ _ _ _ _ _ (loop x.2.2.2.length 0 (by omega))
def isNm (tx : Nat → Int32) (N : NT) : Bool := decide (N.2.2.2.2.2.1 = 1) && allF (fun j => decide (¬ N.2.2.2.2.2.2.2.2.1 = rsv j)) 0 10
def tX7_isName : List q_I := [(0, .aload_n 0, 1, 0, 0), (1, .getfield 80, 3, 0, 0), (4, .iconst 1, 1, 1, 0), (5, .if_icmp .ne 7, 3, 0, 12), (8, .iconst 1, 1, 1, 0), (9, .goto 4, 3, 0, 13), (12, .iconst 0, 1, 0, 0), (13, .istore_n 1, 1, 0, 0), (14, .iconst 0, 1, 0, 0), (15, .istore_n 2, 1, 0, 0), (16, .iload_n 2, 1, 0, 0), (17, .aload_n 0, 1, 0, 0), (18, .getfield 35, 3, 0, 0), (21, .arraylength, 1, 0, 0), (22, .if_icmp .ge 33, 3, 0, 55), (25, .iload_n 1, 1, 0, 0), (26, .ifCond .eq 21, 3, 0, 47), (29, .aload_n 0, 1, 0, 0), (30, .getfield 111, 3, 0, 0), (33, .aload_n 0, 1, 0, 0), (34, .getfield 35, 3, 0, 0), (37, .iload_n 2, 1, 0, 0), (38, .laload, 1, 0, 0), (39, .lcmp, 1, 0, 0), (40, .ifCond .eq 7, 3, 0, 47), (43, .iconst 1, 1, 1, 0), (44, .goto 4, 3, 0, 48), (47, .iconst 0, 1, 0, 0), (48, .istore_n 1, 1, 0, 0), (49, .iinc 2 1, 3, 1, 0), (52, .goto (-36), 3, 0, 16), (55, .iload_n 1, 1, 0, 0), (56, .ireturn, 1, 0, 0)]
theorem tX7_isName_ok : (tX7_isName.all (q_okI cX7_isName)) = true := by decide +kernel

abbrev fdX7_isName : List (Nat ⊕ (Nat × Nat)) := [.inl 0, .inr (0, 2), .inr (0, 3)]
def spX7_isName : q_P := fun a w K => ∃ (tx : Nat → Int32) (N : NT), w = readW 0 (tk 0 5) tx N ∧ a = [.ref 0] ∧ nOk N ∧ K (.inl (some (.int (bI (isNm tx N))))) (readW 0 (tk 0 5) tx N)
abbrev csX7_isName : q_S := (1, 7, 0, 3, 0, 0, fdX7_isName, spX7_isName)
def EX7_isName : q_E := (tX7_isName, [(16, [0, 1, 2])], 3, flX7, [], [], [], [], [], [], 0, 0, 0, (some .boolean), [], [], 0, 0)
theorem okX7_isName (l : Launch) : q_Eok l RX7 cX7_isName EX7_isName := ⟨tX7_isName_ok, flX7_ok, q_nil, q_nil, q_nil, q_nil, q_nil, q_nil, (fun h => absurd h (by decide))⟩
set_option maxRecDepth 100000 in
set_option maxHeartbeats 4000000 in
theorem ctX7_isName (l : Launch) : q_CT l yX7_isName (.code yX7_isName cX7_isName 3 (some .boolean)) 0 0 0 spX7_isName := by
  refine q_ct_of EX7_isName (by decide +kernel) (okX7_isName l) rfl rfl rfl rfl rfl q_nil (fun ci h => by cases h) rfl ?_
  intro a w K h
  obtain ⟨tx, N, rfl, rfl, hN, hK⟩ := h
  refine ⟨Nat.le_of_ble_eq_true rfl, fun C hC => hC _ _ _ _ _ _ ?_⟩
  have loop : ∀ k i (b : Bool), i + k = 10 → K (.inl (some (.int (bI (b && allF (fun j => decide (¬ N.2.2.2.2.2.2.2.2.1 = rsv j)) i k))))) (readW 0 (tk 0 5) tx N) → C 16 [(0, .ref 0), (1, .int (bI b)), (2, .int (nI i))] [] (readW 0 (tk 0 5) tx N) 0 0 := by
    intro k
    induction k with
    | zero =>
      intro i b hi hK
      rw [allF, Bool.and_true] at hK
      refine hC _ _ _ _ _ _ ?_
      exact ⟨Or.inr (Or.inr (Or.inl rfl)), And.intro (fun c1 => ⟨bI_nar b, hK⟩) (fun c1 => absurd (nI_le (a := 10) (b := i) (by omega) (by omega)) c1)⟩
    | succ k ih =>
      intro i b hi hK
      rw [allF] at hK
      have hc : (nI i).toNatClampNeg = i := nI_clamp (by omega)
      have hv : vp_in (nI i) 10 := vp_in_nI (by omega) (by omega)
      refine hC _ _ _ _ _ _ ?_
      refine ⟨Or.inr (Or.inr (Or.inl rfl)), And.intro (fun c1 => absurd c1 (nI_ge (a := i) (b := 10) (by omega) (by omega))) (fun c1 => And.intro (fun c2 => ?_) (fun c2 => ⟨hv, And.intro (fun c3 => ?_) (fun c3 => ?_)⟩))⟩
      · rw [bI_0.mp c2, Bool.false_and] at hK
        have h9 := ih (i + 1) false (by omega) (by rw [Bool.false_and]; exact hK)
        rw [← nI_1 i] at h9
        exact h9
      · have c3 := (lg_cmp_eq _ _).mp c3
        rw [hc] at c3
        rw [decide_eq_false (fun z => z c3), Bool.false_and, Bool.and_false] at hK
        have h9 := ih (i + 1) false (by omega) (by rw [Bool.false_and]; exact hK)
        rw [← nI_1 i] at h9
        exact h9
      · have c3 : ¬ N.2.2.2.2.2.2.2.2.1 = rsv (nI i).toNatClampNeg := fun z => c3 ((lg_cmp_eq _ _).mpr z)
        rw [hc] at c3
        rw [decide_eq_true c3, Bool.true_and, bI_n0.mp c2] at hK
        have h9 := ih (i + 1) true (by omega) hK
        rw [← nI_1 i] at h9
        exact h9
  refine And.intro (fun c => ?_) (fun c => ?_)
  · have c : ¬ N.2.2.2.2.2.1 = 1 := c
    rw [isNm, decide_eq_false c] at hK
    exact loop 10 0 false (by omega) hK
  · have c : N.2.2.2.2.2.1 = 1 := c
    rw [isNm, decide_eq_true c] at hK
    exact loop 10 0 true (by omega) hK
def skB (tx : Nat → Int32) : Nat → Nat → Nat
  | 0, i => i
  | k + 1, i => if tx i = 32 then skB tx k (i + 1) else i
def wdL (tx : Nat → Int32) : Nat → Nat → Int64 → Nat × Int64
  | 0, i, w => (i, w)
  | k + 1, i, w => if 97 ≤ tx i ∧ tx i ≤ 122 then wdL tx k (i + 1) (w * 32 + (tx i - 97 + 1).toInt64) else (i, w)
def whL (tx : Nat → Int32) : Nat → Nat → Int32 → Nat × Int32
  | 0, i, w => (i, w)
  | k + 1, i, w => if 48 ≤ tx i ∧ tx i ≤ 57 then whL tx k (i + 1) (w * 10 + (tx i - 48)) else (i, w)
def nW (N : NT) (i : Nat) (w : Int64) : NT := (N.1, N.2.1, N.2.2.1, N.2.2.2.1, N.2.2.2.2.1, N.2.2.2.2.2.1, N.2.2.2.2.2.2.1, i, w, N.2.2.2.2.2.2.2.2.2)
def nH (N : NT) (i : Nat) (w : Int32) : NT := (N.1, N.2.1, N.2.2.1, N.2.2.2.1, N.2.2.2.2.1, N.2.2.2.2.2.1, N.2.2.2.2.2.2.1, i, N.2.2.2.2.2.2.2.2.1, w)
def nTok (N : NT) (x : Int32) : NT := (N.1, N.2.1, N.2.2.1, N.2.2.2.1, N.2.2.2.2.1, x, N.2.2.2.2.2.2)
def nSt (N : NT) (i : Nat) : NT := (N.1, N.2.1, N.2.2.1, N.2.2.2.1, N.2.2.2.2.1, N.2.2.2.2.2.1, i, N.2.2.2.2.2.2.2)
def nNx (N : NT) (i : Nat) : NT := (N.1, N.2.1, N.2.2.1, N.2.2.2.1, N.2.2.2.2.1, N.2.2.2.2.2.1, N.2.2.2.2.2.2.1, i, N.2.2.2.2.2.2.2.2)
def ovW (tx : Nat → Int32) (N : NT) (r : Nat × Int64) : NT := nTok (nW N r.1 r.2) (if 8 < nI r.1 - nI N.2.2.2.2.2.2.1 then 4 else 1)
def ovH (tx : Nat → Int32) (N : NT) (r : Nat × Int32) : NT := nTok (nH N r.1 r.2) (if 4 < nI r.1 - nI N.2.2.2.2.2.2.1 then 4 else 2)
def tX7_stepOverWord : List q_I := [(0, .aload_n 0, 1, 0, 0), (1, .lconst 0, 1, 0, 0), (2, .putfield 111, 3, 0, 0), (5, .aload_n 0, 1, 0, 0), (6, .getfield 70, 3, 0, 0), (9, .aload_n 0, 1, 0, 0), (10, .getfield 53, 3, 0, 0), (13, .if_icmp .ge 72, 3, 0, 85), (16, .aload_n 0, 1, 0, 0), (17, .getfield 39, 3, 0, 0), (20, .aload_n 0, 1, 0, 0), (21, .getfield 70, 3, 0, 0), (24, .baload, 1, 0, 0), (25, .bipush 97, 2, 97, 0), (27, .if_icmp .lt 58, 3, 0, 85), (30, .aload_n 0, 1, 0, 0), (31, .getfield 39, 3, 0, 0), (34, .aload_n 0, 1, 0, 0), (35, .getfield 70, 3, 0, 0), (38, .baload, 1, 0, 0), (39, .bipush 122, 2, 122, 0), (41, .if_icmp .gt 44, 3, 0, 85), (44, .aload_n 0, 1, 0, 0), (45, .aload_n 0, 1, 0, 0), (46, .getfield 111, 3, 0, 0), (49, .ldc2_w 232, 3, 0, 0), (52, .lmul, 1, 0, 0), (53, .aload_n 0, 1, 0, 0), (54, .getfield 39, 3, 0, 0), (57, .aload_n 0, 1, 0, 0), (58, .getfield 70, 3, 0, 0), (61, .baload, 1, 0, 0), (62, .bipush 97, 2, 97, 0), (64, .isub, 1, 0, 0), (65, .iconst 1, 1, 1, 0), (66, .iadd, 1, 0, 0), (67, .i2l, 1, 0, 0), (68, .ladd, 1, 0, 0), (69, .putfield 111, 3, 0, 0), (72, .aload_n 0, 1, 0, 0), (73, .dup, 1, 0, 0), (74, .getfield 70, 3, 0, 0), (77, .iconst 1, 1, 1, 0), (78, .iadd, 1, 0, 0), (79, .putfield 70, 3, 0, 0), (82, .goto (-77), 3, 0, 5), (85, .aload_n 0, 1, 0, 0), (86, .aload_n 0, 1, 0, 0), (87, .getfield 70, 3, 0, 0), (90, .aload_n 0, 1, 0, 0), (91, .getfield 135, 3, 0, 0), (94, .isub, 1, 0, 0), (95, .bipush 8, 2, 8, 0), (97, .if_icmp .gt 7, 3, 0, 104), (100, .iconst 1, 1, 1, 0), (101, .goto 4, 3, 0, 105), (104, .iconst 4, 1, 4, 0), (105, .putfield 80, 3, 0, 0), (108, .return_, 1, 0, 0)]
theorem tX7_stepOverWord_ok : (tX7_stepOverWord.all (q_okI cX7_stepOverWord)) = true := by decide +kernel

abbrev fdX7_stepOverWord : List (Nat ⊕ (Nat × Nat)) := [.inl 0, .inr (0, 2), .inr (0, 3)]
def spX7_stepOverWord : q_P := fun a w K => ∃ (tx : Nat → Int32) (N : NT), w = readW 0 (tk 0 5) tx N ∧ a = [.ref 0] ∧ nOk N ∧ K (.inl none) (readW 0 (tk 0 5) tx (ovW tx N (wdL tx (N.2.2.1 - N.2.2.2.2.2.2.2.1) N.2.2.2.2.2.2.2.1 0)))
abbrev csX7_stepOverWord : q_S := (1, 7, 0, 1, 0, 0, fdX7_stepOverWord, spX7_stepOverWord)
def EX7_stepOverWord : q_E := (tX7_stepOverWord, [(5, [0]), (85, [0])], 1, flX7, [], [(232, 32)], [], [], [], [], 0, 0, 0, none, [], [], 0, 0)
theorem okX7_stepOverWord (l : Launch) : q_Eok l RX7 cX7_stepOverWord EX7_stepOverWord := ⟨tX7_stepOverWord_ok, flX7_ok, q_nil, List.forall_mem_cons.mpr ⟨q_G_i 221 (by decide +kernel) rfl, q_nil⟩, q_nil, q_nil, q_nil, q_nil, (fun h => absurd h (by decide))⟩
set_option maxRecDepth 100000 in
set_option maxHeartbeats 4000000 in
theorem ctX7_stepOverWord (l : Launch) : q_CT l yX7_stepOverWord (.code yX7_stepOverWord cX7_stepOverWord 1 none) 0 0 0 spX7_stepOverWord := by
  refine q_ct_of EX7_stepOverWord (by decide +kernel) (okX7_stepOverWord l) rfl rfl rfl rfl rfl q_nil (fun ci h => by cases h) rfl ?_
  intro a w K h
  obtain ⟨tx, N, rfl, rfl, ⟨n1, n2, n3⟩, hK⟩ := h
  refine ⟨Nat.le_of_ble_eq_true rfl, fun C hC => hC _ _ _ _ _ _ ?_⟩
  have fin : ∀ r, K (.inl none) (readW 0 (tk 0 5) tx (ovW tx N r)) → C 85 [(0, .ref 0)] [] (readW 0 (tk 0 5) tx (nW N r.1 r.2)) 0 0 := by
    intro r hK
    rw [ovW] at hK
    refine hC _ _ _ _ _ _ (And.intro (fun c => ?_) (fun c => ?_))
    · have c : 8 < nI r.1 - nI N.2.2.2.2.2.2.1 := c
      rw [if_pos c] at hK; exact hK
    · have c : ¬ 8 < nI r.1 - nI N.2.2.2.2.2.2.1 := c
      rw [if_neg c] at hK; exact hK
  have loop : ∀ k i w, i + k = N.2.2.1 → K (.inl none) (readW 0 (tk 0 5) tx (ovW tx N (wdL tx k i w))) → C 5 [(0, .ref 0)] [] (readW 0 (tk 0 5) tx (nW N i w)) 0 0 := by
    intro k
    induction k with
    | zero =>
      intro i w hi hK
      refine hC _ _ _ _ _ _ ?_
      exact And.intro (fun c1 => fin _ hK) (fun c1 => absurd (nI_le (b := i) (a := N.2.2.1) (by omega) (by omega)) c1)
    | succ k ih =>
      intro i w hi hK
      have hv : vp_in (nI i) 700 := vp_in_nI (by omega) (by omega)
      have hc : (nI i).toNatClampNeg = i := nI_clamp (by omega)
      refine hC _ _ _ _ _ _ ?_
      refine And.intro (fun c1 => absurd c1 (nI_ge (a := i) (b := N.2.2.1) (by omega) (by omega))) (fun c1 => ⟨hv, And.intro (fun c2 => ?_) (fun c2 => ⟨hv, And.intro (fun c3 => ?_) (fun c3 => ⟨hv, ?_⟩)⟩)⟩)
      · have c2 : tx (nI i).toNatClampNeg < 97 := c2
        rw [hc] at c2
        rw [wdL, if_neg (fun z => Int32.not_le.mpr c2 z.1)] at hK
        exact fin _ hK
      · have c3 : 122 < tx (nI i).toNatClampNeg := c3
        rw [hc] at c3
        rw [wdL, if_neg (fun z => Int32.not_le.mpr c3 z.2)] at hK
        exact fin _ hK
      · have c2 : ¬ tx (nI i).toNatClampNeg < 97 := c2
        have c3 : ¬ 122 < tx (nI i).toNatClampNeg := c3
        rw [hc] at c2 c3
        rw [wdL, if_pos ⟨Int32.not_lt.mp c2, Int32.not_lt.mp c3⟩] at hK
        have h9 := ih (i + 1) _ (by omega) hK
        have e1 : tx i = tx (nI i).toNatClampNeg := by rw [hc]
        rw [e1] at h9
        unfold nW readW at h9
        rw [← nI_1 i] at h9
        exact h9
  exact loop _ _ _ (by omega) hK
def tX7_stepOverWhole : List q_I := [(0, .aload_n 0, 1, 0, 0), (1, .iconst 0, 1, 0, 0), (2, .putfield 219, 3, 0, 0), (5, .aload_n 0, 1, 0, 0), (6, .getfield 70, 3, 0, 0), (9, .aload_n 0, 1, 0, 0), (10, .getfield 53, 3, 0, 0), (13, .if_icmp .ge 68, 3, 0, 81), (16, .aload_n 0, 1, 0, 0), (17, .getfield 39, 3, 0, 0), (20, .aload_n 0, 1, 0, 0), (21, .getfield 70, 3, 0, 0), (24, .baload, 1, 0, 0), (25, .bipush 48, 2, 48, 0), (27, .if_icmp .lt 54, 3, 0, 81), (30, .aload_n 0, 1, 0, 0), (31, .getfield 39, 3, 0, 0), (34, .aload_n 0, 1, 0, 0), (35, .getfield 70, 3, 0, 0), (38, .baload, 1, 0, 0), (39, .bipush 57, 2, 57, 0), (41, .if_icmp .gt 40, 3, 0, 81), (44, .aload_n 0, 1, 0, 0), (45, .aload_n 0, 1, 0, 0), (46, .getfield 219, 3, 0, 0), (49, .bipush 10, 2, 10, 0), (51, .imul, 1, 0, 0), (52, .aload_n 0, 1, 0, 0), (53, .getfield 39, 3, 0, 0), (56, .aload_n 0, 1, 0, 0), (57, .getfield 70, 3, 0, 0), (60, .baload, 1, 0, 0), (61, .bipush 48, 2, 48, 0), (63, .isub, 1, 0, 0), (64, .iadd, 1, 0, 0), (65, .putfield 219, 3, 0, 0), (68, .aload_n 0, 1, 0, 0), (69, .dup, 1, 0, 0), (70, .getfield 70, 3, 0, 0), (73, .iconst 1, 1, 1, 0), (74, .iadd, 1, 0, 0), (75, .putfield 70, 3, 0, 0), (78, .goto (-73), 3, 0, 5), (81, .aload_n 0, 1, 0, 0), (82, .aload_n 0, 1, 0, 0), (83, .getfield 70, 3, 0, 0), (86, .aload_n 0, 1, 0, 0), (87, .getfield 135, 3, 0, 0), (90, .isub, 1, 0, 0), (91, .iconst 4, 1, 4, 0), (92, .if_icmp .gt 7, 3, 0, 99), (95, .iconst 2, 1, 2, 0), (96, .goto 4, 3, 0, 100), (99, .iconst 4, 1, 4, 0), (100, .putfield 80, 3, 0, 0), (103, .return_, 1, 0, 0)]
theorem tX7_stepOverWhole_ok : (tX7_stepOverWhole.all (q_okI cX7_stepOverWhole)) = true := by decide +kernel

abbrev fdX7_stepOverWhole : List (Nat ⊕ (Nat × Nat)) := [.inl 0, .inr (0, 2), .inr (0, 3)]
def spX7_stepOverWhole : q_P := fun a w K => ∃ (tx : Nat → Int32) (N : NT), w = readW 0 (tk 0 5) tx N ∧ a = [.ref 0] ∧ nOk N ∧ K (.inl none) (readW 0 (tk 0 5) tx (ovH tx N (whL tx (N.2.2.1 - N.2.2.2.2.2.2.2.1) N.2.2.2.2.2.2.2.1 0)))
abbrev csX7_stepOverWhole : q_S := (1, 7, 0, 1, 0, 0, fdX7_stepOverWhole, spX7_stepOverWhole)
def EX7_stepOverWhole : q_E := (tX7_stepOverWhole, [(5, [0]), (81, [0])], 1, flX7, [], [], [], [], [], [], 0, 0, 0, none, [], [], 0, 0)
theorem okX7_stepOverWhole (l : Launch) : q_Eok l RX7 cX7_stepOverWhole EX7_stepOverWhole := ⟨tX7_stepOverWhole_ok, flX7_ok, q_nil, q_nil, q_nil, q_nil, q_nil, q_nil, (fun h => absurd h (by decide))⟩
set_option maxRecDepth 100000 in
set_option maxHeartbeats 4000000 in
theorem ctX7_stepOverWhole (l : Launch) : q_CT l yX7_stepOverWhole (.code yX7_stepOverWhole cX7_stepOverWhole 1 none) 0 0 0 spX7_stepOverWhole := by
  refine q_ct_of EX7_stepOverWhole (by decide +kernel) (okX7_stepOverWhole l) rfl rfl rfl rfl rfl q_nil (fun ci h => by cases h) rfl ?_
  intro a w K h
  obtain ⟨tx, N, rfl, rfl, ⟨n1, n2, n3⟩, hK⟩ := h
  refine ⟨Nat.le_of_ble_eq_true rfl, fun C hC => hC _ _ _ _ _ _ ?_⟩
  have fin : ∀ r, K (.inl none) (readW 0 (tk 0 5) tx (ovH tx N r)) → C 81 [(0, .ref 0)] [] (readW 0 (tk 0 5) tx (nH N r.1 r.2)) 0 0 := by
    intro r hK
    rw [ovH] at hK
    refine hC _ _ _ _ _ _ (And.intro (fun c => ?_) (fun c => ?_))
    · have c : 4 < nI r.1 - nI N.2.2.2.2.2.2.1 := c
      rw [if_pos c] at hK; exact hK
    · have c : ¬ 4 < nI r.1 - nI N.2.2.2.2.2.2.1 := c
      rw [if_neg c] at hK; exact hK
  have loop : ∀ k i w, i + k = N.2.2.1 → K (.inl none) (readW 0 (tk 0 5) tx (ovH tx N (whL tx k i w))) → C 5 [(0, .ref 0)] [] (readW 0 (tk 0 5) tx (nH N i w)) 0 0 := by
    intro k
    induction k with
    | zero =>
      intro i w hi hK
      refine hC _ _ _ _ _ _ ?_
      exact And.intro (fun c1 => fin _ hK) (fun c1 => absurd (nI_le (b := i) (a := N.2.2.1) (by omega) (by omega)) c1)
    | succ k ih =>
      intro i w hi hK
      have hv : vp_in (nI i) 700 := vp_in_nI (by omega) (by omega)
      have hc : (nI i).toNatClampNeg = i := nI_clamp (by omega)
      refine hC _ _ _ _ _ _ ?_
      refine And.intro (fun c1 => absurd c1 (nI_ge (a := i) (b := N.2.2.1) (by omega) (by omega))) (fun c1 => ⟨hv, And.intro (fun c2 => ?_) (fun c2 => ⟨hv, And.intro (fun c3 => ?_) (fun c3 => ⟨hv, ?_⟩)⟩)⟩)
      · have c2 : tx (nI i).toNatClampNeg < 48 := c2
        rw [hc] at c2
        rw [whL, if_neg (fun z => Int32.not_le.mpr c2 z.1)] at hK
        exact fin _ hK
      · have c3 : 57 < tx (nI i).toNatClampNeg := c3
        rw [hc] at c3
        rw [whL, if_neg (fun z => Int32.not_le.mpr c3 z.2)] at hK
        exact fin _ hK
      · have c2 : ¬ tx (nI i).toNatClampNeg < 48 := c2
        have c3 : ¬ 57 < tx (nI i).toNatClampNeg := c3
        rw [hc] at c2 c3
        rw [whL, if_pos ⟨Int32.not_lt.mp c2, Int32.not_lt.mp c3⟩] at hK
        have h9 := ih (i + 1) _ (by omega) hK
        have e1 : tx i = tx (nI i).toNatClampNeg := by rw [hc]
        rw [e1] at h9
        unfold nH readW at h9
        rw [← nI_1 i] at h9
        exact h9
  exact loop _ _ _ (by omega) hK
theorem skB_b (tx : Nat → Int32) : ∀ k i, i ≤ skB tx k i ∧ skB tx k i ≤ i + k
  | 0, i => ⟨Nat.le_refl _, Nat.le_refl _⟩
  | k + 1, i => by
    rw [skB]
    split
    · have := skB_b tx k (i + 1); omega
    · omega
theorem wdL_b (tx : Nat → Int32) : ∀ k i w, i ≤ (wdL tx k i w).1 ∧ (wdL tx k i w).1 ≤ i + k
  | 0, i, w => ⟨Nat.le_refl _, Nat.le_refl _⟩
  | k + 1, i, w => by
    rw [wdL]
    split
    · have := wdL_b tx k (i + 1) (w * 32 + (tx i - 97 + 1).toInt64); omega
    · exact ⟨Nat.le_refl _, Nat.le_add_right _ _⟩
theorem whL_b (tx : Nat → Int32) : ∀ k i w, i ≤ (whL tx k i w).1 ∧ (whL tx k i w).1 ≤ i + k
  | 0, i, w => ⟨Nat.le_refl _, Nat.le_refl _⟩
  | k + 1, i, w => by
    rw [whL]
    split
    · have := whL_b tx k (i + 1) (w * 10 + (tx i - 48)); omega
    · exact ⟨Nat.le_refl _, Nat.le_add_right _ _⟩
/-- the token that begins at s -/
def tokF (tx : Nat → Int32) (N : NT) (s : Nat) : NT :=
  if s < N.2.2.1 then
    (if 97 ≤ tx s ∧ tx s ≤ 122 then ovW tx (nNx (nSt N s) s) (wdL tx (N.2.2.1 - s) s 0)
     else if 48 ≤ tx s ∧ tx s ≤ 57 then ovH tx (nNx (nSt N s) s) (whL tx (N.2.2.1 - s) s 0)
     else nTok (nNx (nSt N s) (s + 1)) (if tx s = 59 then 3 else 4))
  else nTok (nNx (nSt N s) s) 0
def stepF (tx : Nat → Int32) (N : NT) : NT := tokF tx N (skB tx (N.2.2.1 - N.2.2.2.2.2.2.2.1) N.2.2.2.2.2.2.2.1)
theorem stepF_ok0 {tx : Nat → Int32} {N : NT} (h : nOk (nUp N)) : nOk (stepF tx N) ∧ (stepF tx N).2.2.1 = N.2.2.1 := by
  obtain ⟨n1, n2, n3⟩ := h
  have n1 : N.2.2.1 ≤ 700 := n1
  have n3 : N.2.2.2.2.2.2.2.1 ≤ N.2.2.1 := n3
  have h1 := skB_b tx (N.2.2.1 - N.2.2.2.2.2.2.2.1) N.2.2.2.2.2.2.2.1
  unfold stepF
  generalize skB tx (N.2.2.1 - N.2.2.2.2.2.2.2.1) N.2.2.2.2.2.2.2.1 = s at h1
  unfold tokF
  split
  · next hs =>
    split
    · have h2 := wdL_b tx (N.2.2.1 - s) s 0
      refine ⟨⟨n1, h2.1, ?_⟩, rfl⟩
      show (wdL tx (N.2.2.1 - s) s 0).1 ≤ N.2.2.1
      omega
    · split
      · have h2 := whL_b tx (N.2.2.1 - s) s 0
        refine ⟨⟨n1, h2.1, ?_⟩, rfl⟩
        show (whL tx (N.2.2.1 - s) s 0).1 ≤ N.2.2.1
        omega
      · exact ⟨⟨n1, Nat.le_succ _, hs⟩, rfl⟩
  · refine ⟨⟨n1, Nat.le_refl _, ?_⟩, rfl⟩
    show s ≤ N.2.2.1
    omega
theorem stepF_ok {tx : Nat → Int32} {N : NT} (h : nOk N) : nOk (stepF tx N) ∧ (stepF tx N).2.2.1 = N.2.2.1 := stepF_ok0 h.s
def tX7_step : List q_I := [(0, .aload_n 0, 1, 0, 0), (1, .aload_n 0, 1, 0, 0), (2, .getfield 70, 3, 0, 0), (5, .putfield 135, 3, 0, 0), (8, .aload_n 0, 1, 0, 0), (9, .getfield 135, 3, 0, 0), (12, .aload_n 0, 1, 0, 0), (13, .getfield 53, 3, 0, 0), (16, .if_icmp .ge 30, 3, 0, 46), (19, .aload_n 0, 1, 0, 0), (20, .getfield 39, 3, 0, 0), (23, .aload_n 0, 1, 0, 0), (24, .getfield 135, 3, 0, 0), (27, .baload, 1, 0, 0), (28, .bipush 32, 2, 32, 0), (30, .if_icmp .ne 16, 3, 0, 46), (33, .aload_n 0, 1, 0, 0), (34, .dup, 1, 0, 0), (35, .getfield 135, 3, 0, 0), (38, .iconst 1, 1, 1, 0), (39, .iadd, 1, 0, 0), (40, .putfield 135, 3, 0, 0), (43, .goto (-35), 3, 0, 8), (46, .aload_n 0, 1, 0, 0), (47, .aload_n 0, 1, 0, 0), (48, .getfield 135, 3, 0, 0), (51, .putfield 70, 3, 0, 0), (54, .aload_n 0, 1, 0, 0), (55, .getfield 135, 3, 0, 0), (58, .aload_n 0, 1, 0, 0), (59, .getfield 53, 3, 0, 0), (62, .if_icmp .ge 15, 3, 0, 77), (65, .aload_n 0, 1, 0, 0), (66, .getfield 39, 3, 0, 0), (69, .aload_n 0, 1, 0, 0), (70, .getfield 135, 3, 0, 0), (73, .baload, 1, 0, 0), (74, .goto 5, 3, 0, 79), (77, .bipush 32, 2, 32, 0), (79, .istore_n 1, 1, 0, 0), (80, .iload_n 1, 1, 0, 0), (81, .bipush 97, 2, 97, 0), (83, .if_icmp .lt 16, 3, 0, 99), (86, .iload_n 1, 1, 0, 0), (87, .bipush 122, 2, 122, 0), (89, .if_icmp .gt 10, 3, 0, 99), (92, .aload_n 0, 1, 0, 0), (93, .invokevirtual 234, 3, 0, 0), (96, .goto 66, 3, 0, 162), (99, .iload_n 1, 1, 0, 0), (100, .bipush 48, 2, 48, 0), (102, .if_icmp .lt 16, 3, 0, 118), (105, .iload_n 1, 1, 0, 0), (106, .bipush 57, 2, 57, 0), (108, .if_icmp .gt 10, 3, 0, 118), (111, .aload_n 0, 1, 0, 0), (112, .invokevirtual 237, 3, 0, 0), (115, .goto 47, 3, 0, 162), (118, .aload_n 0, 1, 0, 0), (119, .getfield 135, 3, 0, 0), (122, .aload_n 0, 1, 0, 0), (123, .getfield 53, 3, 0, 0), (126, .if_icmp .ge 31, 3, 0, 157), (129, .aload_n 0, 1, 0, 0), (130, .iload_n 1, 1, 0, 0), (131, .bipush 59, 2, 59, 0), (133, .if_icmp .ne 7, 3, 0, 140), (136, .iconst 3, 1, 3, 0), (137, .goto 4, 3, 0, 141), (140, .iconst 4, 1, 4, 0), (141, .putfield 80, 3, 0, 0), (144, .aload_n 0, 1, 0, 0), (145, .aload_n 0, 1, 0, 0), (146, .getfield 135, 3, 0, 0), (149, .iconst 1, 1, 1, 0), (150, .iadd, 1, 0, 0), (151, .putfield 70, 3, 0, 0), (154, .goto 8, 3, 0, 162), (157, .aload_n 0, 1, 0, 0), (158, .iconst 0, 1, 0, 0), (159, .putfield 80, 3, 0, 0), (162, .return_, 1, 0, 0)]
theorem tX7_step_ok : (tX7_step.all (q_okI cX7_step)) = true := by decide +kernel

abbrev fdX7_step : List (Nat ⊕ (Nat × Nat)) := [.inl 0, .inr (0, 2), .inr (0, 3)]
def spX7_step : q_P := fun a w K => ∃ (tx : Nat → Int32) (N : NT), w = readW 0 (tk 0 5) tx N ∧ a = [.ref 0] ∧ nOk (nUp N) ∧ K (.inl none) (readW 0 (tk 0 5) tx (stepF tx N))
abbrev csX7_step : q_S := (1, 7, 1, 2, 0, 0, fdX7_step, spX7_step)
theorem coX7_234 (l : Launch) : q_CO l RX7 234 csX7_stepOverWord := ⟨yX7_stepOverWord, cX7_stepOverWord, none, 0, ⟨by decide +kernel, by decide +kernel, by decide +kernel⟩, q_G_i 6 (by decide +kernel) rfl, Or.inl ⟨by decide, rfl, rfl, q_G_i 576 (by decide +kernel) rfl, q_G_i 578 (by decide +kernel) rfl, q_G_s (n := 13) 3 (by decide +kernel), Or.inl ⟨q_G_i 579 (by decide +kernel) rfl, ctX7_stepOverWord l⟩⟩⟩
theorem coX7_237 (l : Launch) : q_CO l RX7 237 csX7_stepOverWhole := ⟨yX7_stepOverWhole, cX7_stepOverWhole, none, 0, ⟨by decide +kernel, by decide +kernel, by decide +kernel⟩, q_G_i 6 (by decide +kernel) rfl, Or.inl ⟨by decide, rfl, rfl, q_G_i 580 (by decide +kernel) rfl, q_G_i 582 (by decide +kernel) rfl, q_G_s (n := 13) 4 (by decide +kernel), Or.inl ⟨q_G_i 583 (by decide +kernel) rfl, ctX7_stepOverWhole l⟩⟩⟩
def EX7_step : q_E := (tX7_step, [(8, [0]), (46, [0]), (99, [0, 1]), (118, [0, 1])], 2, flX7, [(234, csX7_stepOverWord), (237, csX7_stepOverWhole)], [], [], [], [], [], 1, 0, 0, none, [], [], 0, 0)
theorem okX7_step (l : Launch) : q_Eok l RX7 cX7_step EX7_step := ⟨tX7_step_ok, flX7_ok, List.forall_mem_cons.mpr ⟨(coX7_234 l), List.forall_mem_cons.mpr ⟨(coX7_237 l), q_nil⟩⟩, q_nil, q_nil, q_nil, q_nil, q_nil, (fun h => absurd h (by decide))⟩
set_option maxRecDepth 100000 in
set_option maxHeartbeats 4000000 in
theorem ctX7_step (l : Launch) : q_CT l yX7_step (.code yX7_step cX7_step 2 none) 1 0 0 spX7_step := by
  refine q_ct_of EX7_step (by decide +kernel) (okX7_step l) rfl rfl rfl rfl rfl q_nil (fun ci h => by cases h) rfl ?_
  intro a w K h
  obtain ⟨tx, N, rfl, rfl, ⟨n1, n2, n3⟩, hK⟩ := h
  have n1 : N.2.2.1 ≤ 700 := n1
  have n3 : N.2.2.2.2.2.2.2.1 ≤ N.2.2.1 := n3
  refine ⟨Nat.le_of_ble_eq_true rfl, fun C hC => hC _ _ _ _ _ _ ?_⟩
  have fin : ∀ s, s ≤ N.2.2.1 → K (.inl none) (readW 0 (tk 0 5) tx (tokF tx N s)) → C 46 [(0, .ref 0)] [] (readW 0 (tk 0 5) tx (nSt N s)) 0 0 := by
    intro s hs hK
    refine hC _ _ _ _ _ _ (And.intro (fun c => ?_) (fun c => ?_))
    · have hs2 : ¬ s < N.2.2.1 := fun z => absurd c (nI_ge (a := s) (b := N.2.2.1) z (by omega))
      rw [tokF, if_neg hs2] at hK
      refine And.intro (fun _ => hC _ _ _ _ _ _ ?_) (fun c1 => absurd (by decide) c1)
      refine And.intro (fun _ => hC _ _ _ _ _ _ ?_) (fun c1 => absurd (by decide) c1)
      exact And.intro (fun _ => hK) (fun c3 => absurd c c3)
    · have hs2 : s < N.2.2.1 := lt_of_nI (a := s) (b := N.2.2.1) (by omega) (by omega) c
      have hv : vp_in (nI s) 700 := vp_in_nI (by omega) (by omega)
      have hc : (nI s).toNatClampNeg = s := nI_clamp (by omega)
      rw [tokF, if_pos hs2] at hK
      have sgn : ¬ (97 ≤ tx s ∧ tx s ≤ 122) → ¬ (48 ≤ tx s ∧ tx s ≤ 57) → C 118 [(0, .ref 0), (1, .int (tx s))] [] (readW 0 (tk 0 5) tx (nNx (nSt N s) s)) 0 0 := by
        intro a1 a2
        rw [if_neg a1, if_neg a2] at hK
        refine hC _ _ _ _ _ _ (And.intro (fun c1 => absurd c1 c) (fun _ => And.intro (fun c2 => ?_) (fun c2 => ?_)))
        · have c2 : ¬ tx s = 59 := c2
          rw [if_neg c2] at hK
          unfold nTok nNx nSt readW at hK
          rw [← nI_1 s] at hK
          exact hK
        · have c2 : tx s = 59 := c2
          rw [if_pos c2] at hK
          unfold nTok nNx nSt readW at hK
          rw [← nI_1 s] at hK
          exact hK
      have dig : ¬ (97 ≤ tx s ∧ tx s ≤ 122) → C 99 [(0, .ref 0), (1, .int (tx s))] [] (readW 0 (tk 0 5) tx (nNx (nSt N s) s)) 0 0 := by
        intro a1
        refine hC _ _ _ _ _ _ (And.intro (fun c1 => sgn a1 (fun z => Int32.not_le.mpr c1 z.1)) (fun c1 => And.intro (fun c2 => sgn a1 (fun z => Int32.not_le.mpr c2 z.2)) (fun c2 => ?_)))
        rw [if_neg a1, if_pos ⟨Int32.not_lt.mp c1, Int32.not_lt.mp c2⟩] at hK
        exact ⟨tx, nNx (nSt N s) s, rfl, rfl, ⟨n1, Nat.le_refl _, hs⟩, hK⟩
      refine ⟨hv, ?_⟩
      have e1 : tx (nI s).toNatClampNeg = tx s := by rw [hc]
      have dig2 := dig
      rw [← e1] at dig2
      refine And.intro (fun c1 => dig2 (fun z => Int32.not_le.mpr c1 z.1)) (fun c1 => And.intro (fun c2 => dig2 (fun z => Int32.not_le.mpr c2 z.2)) (fun c2 => ?_))
      have c1 : ¬ tx (nI s).toNatClampNeg < 97 := c1
      have c2 : ¬ 122 < tx (nI s).toNatClampNeg := c2
      rw [hc] at c1 c2
      rw [if_pos ⟨Int32.not_lt.mp c1, Int32.not_lt.mp c2⟩] at hK
      exact ⟨tx, nNx (nSt N s) s, rfl, rfl, ⟨n1, Nat.le_refl _, hs⟩, hK⟩
  have loop : ∀ k i, i + k = N.2.2.1 → K (.inl none) (readW 0 (tk 0 5) tx (tokF tx N (skB tx k i))) → C 8 [(0, .ref 0)] [] (readW 0 (tk 0 5) tx (nSt N i)) 0 0 := by
    intro k
    induction k with
    | zero =>
      intro i hi hK
      refine hC _ _ _ _ _ _ ?_
      exact And.intro (fun c1 => fin i (by omega) hK) (fun c1 => absurd (nI_le (b := i) (a := N.2.2.1) (by omega) (by omega)) c1)
    | succ k ih =>
      intro i hi hK
      have hv : vp_in (nI i) 700 := vp_in_nI (by omega) (by omega)
      have hc : (nI i).toNatClampNeg = i := nI_clamp (by omega)
      rw [skB] at hK
      refine hC _ _ _ _ _ _ ?_
      refine And.intro (fun c1 => absurd c1 (nI_ge (a := i) (b := N.2.2.1) (by omega) (by omega))) (fun c1 => ⟨hv, And.intro (fun c2 => ?_) (fun c2 => ?_)⟩)
      · have c2 : ¬ tx (nI i).toNatClampNeg = 32 := c2
        rw [hc] at c2
        rw [if_neg c2] at hK
        exact fin i (by omega) hK
      · have c2 : tx (nI i).toNatClampNeg = 32 := c2
        rw [hc] at c2
        rw [if_pos c2] at hK
        have h9 := ih (i + 1) (by omega) hK
        unfold nSt readW at h9
        rw [← nI_1 i] at h9
        exact h9
  exact loop _ _ (by omega) hK
def tX7_goBy : List q_I := [(0, .aload_n 0, 1, 0, 0), (1, .aload_n 1, 1, 0, 0), (2, .invokevirtual 87, 3, 0, 0), (5, .ifCond .ne 9, 3, 0, 14), (8, .aload_n 0, 1, 0, 0), (9, .iconst 1, 1, 1, 0), (10, .invokevirtual 83, 3, 0, 0), (13, .ireturn, 1, 0, 0), (14, .aload_n 0, 1, 0, 0), (15, .invokevirtual 73, 3, 0, 0), (18, .iconst 1, 1, 1, 0), (19, .ireturn, 1, 0, 0)]
theorem tX7_goBy_ok : (tX7_goBy.all (q_okI cX7_goBy)) = true := by decide +kernel

abbrev fdX7_goBy : List (Nat ⊕ (Nat × Nat)) := [.inl 0, .inr (0, 2), .inr (0, 3)]
def spX7_goBy : q_P := fun a w K => ∃ (tx : Nat → Int32) (N : NT) (t : Nat) (x : String × Nat × String × List Int32), w = readW 0 (tk 0 5) tx N ∧ a = [.ref 0, .retAddr t] ∧ q_str[t]? = some x ∧ nOk N ∧ (seeB tx N x.2.2.2 = true → K (.inl (some (.int 1))) (readW 0 (tk 0 5) tx (stepF tx N))) ∧ (seeB tx N x.2.2.2 = false → K (.inl (some (.int 0))) (readW 0 (tk 0 5) tx (failF N 1)))
abbrev csX7_goBy : q_S := (2, 7, 5, 2, 0, 0, fdX7_goBy, spX7_goBy)
theorem coX7_87 (l : Launch) : q_CO l RX7 87 csX7_sees := ⟨yX7_sees, cX7_sees, (some .boolean), 1, ⟨by decide +kernel, by decide +kernel, by decide +kernel⟩, q_G_i 6 (by decide +kernel) rfl, Or.inl ⟨by decide, rfl, rfl, q_G_i 588 (by decide +kernel) rfl, q_G_i 590 (by decide +kernel) rfl, q_G_s (n := 13) 6 (by decide +kernel), Or.inl ⟨q_G_i 591 (by decide +kernel) rfl, ctX7_sees l⟩⟩⟩
theorem coX7_83 (l : Launch) : q_CO l RX7 83 csX7_fail := ⟨yX7_fail, cX7_fail, (some .boolean), 1, ⟨by decide +kernel, by decide +kernel, by decide +kernel⟩, q_G_i 6 (by decide +kernel) rfl, Or.inl ⟨by decide, rfl, rfl, q_G_i 600 (by decide +kernel) rfl, q_G_i 602 (by decide +kernel) rfl, q_G_s (n := 13) 8 (by decide +kernel), Or.inl ⟨q_G_i 603 (by decide +kernel) rfl, ctX7_fail l⟩⟩⟩
theorem coX7_73 (l : Launch) : q_CO l RX7 73 csX7_step := ⟨yX7_step, cX7_step, none, 0, ⟨by decide +kernel, by decide +kernel, by decide +kernel⟩, q_G_i 6 (by decide +kernel) rfl, Or.inl ⟨by decide, rfl, rfl, q_G_i 572 (by decide +kernel) rfl, q_G_i 574 (by decide +kernel) rfl, q_G_s (n := 13) 2 (by decide +kernel), Or.inl ⟨q_G_i 575 (by decide +kernel) rfl, ctX7_step l⟩⟩⟩
def EX7_goBy : q_E := (tX7_goBy, [], 2, flX7, [(87, csX7_sees), (83, csX7_fail), (73, csX7_step)], [], [], [], [], [], 5, 0, 0, (some .boolean), [], [], 0, 0)
theorem okX7_goBy (l : Launch) : q_Eok l RX7 cX7_goBy EX7_goBy := ⟨tX7_goBy_ok, flX7_ok, List.forall_mem_cons.mpr ⟨(coX7_87 l), List.forall_mem_cons.mpr ⟨(coX7_83 l), List.forall_mem_cons.mpr ⟨(coX7_73 l), q_nil⟩⟩⟩, q_nil, q_nil, q_nil, q_nil, q_nil, (fun h => absurd h (by decide))⟩
set_option maxRecDepth 100000 in
set_option maxHeartbeats 4000000 in
theorem ctX7_goBy (l : Launch) : q_CT l yX7_goBy (.code yX7_goBy cX7_goBy 2 (some .boolean)) 5 0 0 spX7_goBy := by
  refine q_ct_of EX7_goBy (by decide +kernel) (okX7_goBy l) rfl rfl rfl rfl rfl q_nil (fun ci h => by cases h) rfl ?_
  intro a w K h
  obtain ⟨tx, N, t, x, rfl, rfl, hx, hN, hK1, hK0⟩ := h
  have ht := q_str_lt hx
  refine ⟨Nat.le_of_ble_eq_true rfl, fun C hC => hC _ _ _ _ _ _ ?_⟩
  refine ⟨by omega, tx, N, t, x, rfl, rfl, hx, hN, And.intro (fun c => ?_) (fun c => ?_)⟩
  · exact ⟨tx, N, rfl, rfl, hN.s, rfl, hK1 (bI_n0.mp c)⟩
  · exact ⟨tx, N, _, rfl, rfl, rfl, hK0 (bI_0.mp c)⟩
def numF (tx : Nat → Int32) (N : NT) (lo hi : Int32) : Int32 × NT :=
  if N.2.2.2.2.2.1 = 2 then (if N.2.2.2.2.2.2.2.2.2 < lo ∨ hi < N.2.2.2.2.2.2.2.2.2 then (-1, failF N 4) else (N.2.2.2.2.2.2.2.2.2, stepF tx N)) else (-1, failF N 1)
def tX7_number : List q_I := [(0, .aload_n 0, 1, 0, 0), (1, .getfield 80, 3, 0, 0), (4, .iconst 2, 1, 2, 0), (5, .if_icmp .eq 11, 3, 0, 16), (8, .aload_n 0, 1, 0, 0), (9, .iconst 1, 1, 1, 0), (10, .invokevirtual 83, 3, 0, 0), (13, .pop, 1, 0, 0), (14, .iconst (-1), 1, (-1), 0), (15, .ireturn, 1, 0, 0), (16, .aload_n 0, 1, 0, 0), (17, .getfield 219, 3, 0, 0), (20, .iload_n 1, 1, 0, 0), (21, .if_icmp .lt 11, 3, 0, 32), (24, .aload_n 0, 1, 0, 0), (25, .getfield 219, 3, 0, 0), (28, .iload_n 2, 1, 0, 0), (29, .if_icmp .le 11, 3, 0, 40), (32, .aload_n 0, 1, 0, 0), (33, .iconst 4, 1, 4, 0), (34, .invokevirtual 83, 3, 0, 0), (37, .pop, 1, 0, 0), (38, .iconst (-1), 1, (-1), 0), (39, .ireturn, 1, 0, 0), (40, .aload_n 0, 1, 0, 0), (41, .getfield 219, 3, 0, 0), (44, .istore_n 3, 1, 0, 0), (45, .aload_n 0, 1, 0, 0), (46, .invokevirtual 73, 3, 0, 0), (49, .iload_n 3, 1, 0, 0), (50, .ireturn, 1, 0, 0)]
theorem tX7_number_ok : (tX7_number.all (q_okI cX7_number)) = true := by decide +kernel

abbrev fdX7_number : List (Nat ⊕ (Nat × Nat)) := [.inl 0, .inr (0, 2), .inr (0, 3)]
def spX7_number : q_P := fun a w K => ∃ (tx : Nat → Int32) (N : NT) (lo hi : Int32), w = readW 0 (tk 0 5) tx N ∧ a = [.ref 0, .int lo, .int hi] ∧ nOk N ∧ K (.inl (some (.int (numF tx N lo hi).1))) (readW 0 (tk 0 5) tx (numF tx N lo hi).2)
abbrev csX7_number : q_S := (3, 7, 2, 4, 0, 0, fdX7_number, spX7_number)
def EX7_number : q_E := (tX7_number, [], 4, flX7, [(83, csX7_fail), (73, csX7_step)], [], [], [], [], [], 2, 0, 0, (some .int), [], [], 0, 0)
theorem okX7_number (l : Launch) : q_Eok l RX7 cX7_number EX7_number := ⟨tX7_number_ok, flX7_ok, List.forall_mem_cons.mpr ⟨(coX7_83 l), List.forall_mem_cons.mpr ⟨(coX7_73 l), q_nil⟩⟩, q_nil, q_nil, q_nil, q_nil, q_nil, (fun h => absurd h (by decide))⟩
set_option maxRecDepth 100000 in
set_option maxHeartbeats 4000000 in
theorem ctX7_number (l : Launch) : q_CT l yX7_number (.code yX7_number cX7_number 4 (some .int)) 2 0 0 spX7_number := by
  refine q_ct_of EX7_number (by decide +kernel) (okX7_number l) rfl rfl rfl rfl rfl q_nil (fun ci h => by cases h) rfl ?_
  intro a w K h
  obtain ⟨tx, N, lo, hi, rfl, rfl, hN, hK⟩ := h
  refine ⟨Nat.le_of_ble_eq_true rfl, fun C hC => hC _ _ _ _ _ _ ?_⟩
  refine And.intro (fun c => And.intro (fun c2 => ?_) (fun c2 => And.intro (fun c3 => ?_) (fun c3 => ?_))) (fun c => ?_)
  · rw [numF, if_pos c, if_pos (Or.inl c2)] at hK
    exact ⟨tx, N, _, rfl, rfl, hK⟩
  · rw [numF, if_pos c, if_neg (fun z => z.elim c2 (Int32.not_lt.mpr c3))] at hK
    exact ⟨tx, N, rfl, rfl, hN.s, hK⟩
  · rw [numF, if_pos c, if_pos (Or.inr (Int32.not_le.mp c3))] at hK
    exact ⟨tx, N, _, rfl, rfl, hK⟩
  · rw [numF, if_neg c] at hK
    exact ⟨tx, N, _, rfl, rfl, hK⟩
def useF (tx : Nat → Int32) (B : BT) (N : NT) (s : Int32) : Int32 × NT :=
  if isNm tx N then (match fstO (fun i => decide (B.2.1 i = N.2.2.2.2.2.2.2.2.1)) 0 B.2.2.2.2 with
    | none => (-1, failF N 2)
    | some i => if B.2.2.1 i = s then (B.2.2.2.1 i, stepF tx N) else (-1, failF N 2)) else (-1, failF N 1)
theorem fstO_lt {P : Nat → Bool} : ∀ (n s i : Nat), fstO P s n = some i → s ≤ i ∧ i < s + n
  | 0, s, i, h => by simp [fstO] at h
  | n + 1, s, i, h => by
    rw [fstO] at h
    split at h
    · cases h; omega
    · have := fstO_lt n (s + 1) i h; omega
def tX7_use : List q_I := [(0, .aload_n 0, 1, 0, 0), (1, .invokevirtual 108, 3, 0, 0), (4, .ifCond .ne 11, 3, 0, 15), (7, .aload_n 0, 1, 0, 0), (8, .iconst 1, 1, 1, 0), (9, .invokevirtual 83, 3, 0, 0), (12, .pop, 1, 0, 0), (13, .iconst (-1), 1, (-1), 0), (14, .ireturn, 1, 0, 0), (15, .aload_n 0, 1, 0, 0), (16, .getfield 43, 3, 0, 0), (19, .aload_n 0, 1, 0, 0), (20, .getfield 111, 3, 0, 0), (23, .invokevirtual 115, 3, 0, 0), (26, .istore_n 2, 1, 0, 0), (27, .iload_n 2, 1, 0, 0), (28, .iconst (-1), 1, (-1), 0), (29, .if_icmp .eq 16, 3, 0, 45), (32, .aload_n 0, 1, 0, 0), (33, .getfield 43, 3, 0, 0), (36, .getfield 213, 3, 0, 0), (39, .iload_n 2, 1, 0, 0), (40, .iaload, 1, 0, 0), (41, .iload_n 1, 1, 0, 0), (42, .if_icmp .eq 11, 3, 0, 53), (45, .aload_n 0, 1, 0, 0), (46, .iconst 2, 1, 2, 0), (47, .invokevirtual 83, 3, 0, 0), (50, .pop, 1, 0, 0), (51, .iconst (-1), 1, (-1), 0), (52, .ireturn, 1, 0, 0), (53, .aload_n 0, 1, 0, 0), (54, .invokevirtual 73, 3, 0, 0), (57, .aload_n 0, 1, 0, 0), (58, .getfield 43, 3, 0, 0), (61, .getfield 217, 3, 0, 0), (64, .iload_n 2, 1, 0, 0), (65, .iaload, 1, 0, 0), (66, .ireturn, 1, 0, 0)]
theorem tX7_use_ok : (tX7_use.all (q_okI cX7_use)) = true := by decide +kernel

abbrev fdX7_use : List (Nat ⊕ (Nat × Nat)) := [.inl 0, .inr (0, 2), .inr (0, 3), .inr (0, 5), .inr (3, 0), .inr (3, 1), .inr (3, 2), .inr (3, 3)]
def spX7_use : q_P := fun a w K => ∃ (tx : Nat → Int32) (N : NT) (B : BT) (s : Int32), w = readW 0 (.ref 3) tx N ++ bookO 3 (tk 3 5) (tk 3 6) (tk 3 7) B ∧ a = [.ref 0, .int s] ∧ nOk N ∧ B.2.2.2.2 ≤ 25 ∧ K (.inl (some (.int (useF tx B N s).1))) (readW 0 (.ref 3) tx (useF tx B N s).2 ++ bookO 3 (tk 3 5) (tk 3 6) (tk 3 7) B)
abbrev csX7_use : q_S := (2, 7, 2, 3, 0, 0, fdX7_use, spX7_use)
theorem coX7_108 (l : Launch) : q_CO l RX7 108 csX7_isName := ⟨yX7_isName, cX7_isName, (some .boolean), 0, ⟨by decide +kernel, by decide +kernel, by decide +kernel⟩, q_G_i 6 (by decide +kernel) rfl, Or.inl ⟨by decide, rfl, rfl, q_G_i 612 (by decide +kernel) rfl, q_G_i 614 (by decide +kernel) rfl, q_G_s (n := 13) 11 (by decide +kernel), Or.inl ⟨q_G_i 615 (by decide +kernel) rfl, ctX7_isName l⟩⟩⟩
theorem coX7_115 (l : Launch) : q_CO l RX7 115 csX0_find := ⟨yX0_find, cX0_find, (some .int), 1, ⟨by decide +kernel, by decide +kernel, by decide +kernel⟩, q_G_i 2 (by decide +kernel) rfl, Or.inl ⟨by decide, rfl, rfl, q_G_i 616 (by decide +kernel) rfl, q_G_i 617 (by decide +kernel) rfl, q_G_i 618 (by decide +kernel) rfl, Or.inl ⟨q_G_i 619 (by decide +kernel) rfl, ctX0_find l⟩⟩⟩
def EX7_use : q_E := (tX7_use, [], 3, flX7, [(108, csX7_isName), (83, csX7_fail), (115, csX0_find), (73, csX7_step)], [], [], [], [], [], 2, 0, 0, (some .int), [], [], 0, 0)
theorem okX7_use (l : Launch) : q_Eok l RX7 cX7_use EX7_use := ⟨tX7_use_ok, flX7_ok, List.forall_mem_cons.mpr ⟨(coX7_108 l), List.forall_mem_cons.mpr ⟨(coX7_83 l), List.forall_mem_cons.mpr ⟨(coX7_115 l), List.forall_mem_cons.mpr ⟨(coX7_73 l), q_nil⟩⟩⟩⟩, q_nil, q_nil, q_nil, q_nil, q_nil, (fun h => absurd h (by decide))⟩
set_option maxRecDepth 100000 in
set_option maxHeartbeats 4000000 in
theorem ctX7_use (l : Launch) : q_CT l yX7_use (.code yX7_use cX7_use 3 (some .int)) 2 0 0 spX7_use := by
  refine q_ct_of EX7_use (by decide +kernel) (okX7_use l) rfl rfl rfl rfl rfl q_nil (fun ci h => by cases h) rfl ?_
  intro a w K h
  obtain ⟨tx, N, B, s, rfl, rfl, hN, hB, hK⟩ := h
  refine ⟨Nat.le_of_ble_eq_true rfl, fun C hC => hC _ _ _ _ _ _ ?_⟩
  refine ⟨tx, N, rfl, rfl, hN, And.intro (fun c => ?_) (fun c => ?_)⟩
  · rw [useF, if_pos (bI_n0.mp c)] at hK
    refine ⟨B, _, _, _, _, rfl, rfl, hB, ?_⟩
    cases hf : fstO (fun i => decide (B.2.1 i = N.2.2.2.2.2.2.2.2.1)) 0 B.2.2.2.2 with
    | none =>
      rw [hf] at hK
      refine And.intro (fun _ => ?_) (fun c2 => absurd rfl c2)
      exact ⟨tx, N, _, rfl, rfl, hK⟩
    | some i =>
      rw [hf] at hK
      have hi := (fstO_lt _ _ _ hf).2
      have hv : vp_in (nI i) 25 := vp_in_nI (by omega) (by omega)
      have hc : (nI i).toNatClampNeg = i := nI_clamp (by omega)
      refine And.intro (fun c2 => absurd (show nI i = -1 from c2) (fun z => absurd (show nI i < 0 by rw [z]; decide) (nI_pos (by omega)))) (fun _ => ⟨hv, And.intro (fun c3 => ?_) (fun c3 => ?_)⟩)
      · have c3 : B.2.2.1 (nI i).toNatClampNeg = s := c3
        rw [hc] at c3
        have hK : K (.inl (some (.int (if B.2.2.1 i = s then (B.2.2.2.1 i, stepF tx N) else (-1, failF N 2)).1))) (readW 0 (.ref 3) tx (if B.2.2.1 i = s then (B.2.2.2.1 i, stepF tx N) else (-1, failF N 2)).2 ++ bookO 3 (tk 3 5) (tk 3 6) (tk 3 7) B) := hK
        rw [if_pos c3] at hK
        refine ⟨tx, N, rfl, rfl, hN.s, hv, ?_⟩
        show K (.inl (some (.int (B.2.2.2.1 (nI i).toNatClampNeg)))) _
        rw [hc]; exact hK
      · have c3 : ¬ B.2.2.1 (nI i).toNatClampNeg = s := c3
        rw [hc] at c3
        have hK : K (.inl (some (.int (if B.2.2.1 i = s then (B.2.2.2.1 i, stepF tx N) else (-1, failF N 2)).1))) (readW 0 (.ref 3) tx (if B.2.2.1 i = s then (B.2.2.2.1 i, stepF tx N) else (-1, failF N 2)).2 ++ bookO 3 (tk 3 5) (tk 3 6) (tk 3 7) B) := hK
        rw [if_neg c3] at hK
        exact ⟨tx, N, _, rfl, rfl, hK⟩
  · rw [useF, if_neg (by rw [bI_0.mp c]; decide)] at hK
    exact ⟨tx, N, _, rfl, rfl, hK⟩
end
section
/-- the reader, and the book with all that it holds -/
abbrev ZT : Type := NT × BT × RT × LT × GT
def zW (tx : Nat → Int32) (Z : ZT) : List q_C := readW 0 (.ref 3) tx Z.1 ++ bookW 3 Z.2.1 Z.2.2.1 Z.2.2.2.1 Z.2.2.2.2
def zOk (Z : ZT) : Prop := nOk Z.1 ∧ Z.2.1.2.2.2.2 ≤ 25 ∧ rOk Z.2.2.1 ∧ L_n Z.2.2.2.1 ≤ 24 ∧ gOk Z.2.2.2.2
def zN (Z : ZT) (N : NT) : ZT := (N, Z.2)
def zB (Z : ZT) (N : NT) (B : BT) : ZT := (N, B, Z.2.2)
def zR (Z : ZT) (N : NT) (R : RT) : ZT := (N, Z.2.1, R, Z.2.2.2)
def zL (Z : ZT) (N : NT) (L : LT) : ZT := (N, Z.2.1, Z.2.2.1, L, Z.2.2.2.2)
def zG (Z : ZT) (N : NT) (G : GT) : ZT := (N, Z.2.1, Z.2.2.1, Z.2.2.2.1, G)
theorem nOk_fail {N : NT} {x : Int32} (h : nOk N) : nOk (failF N x) := h
theorem nOk_use {tx : Nat → Int32} {B : BT} {N : NT} {s : Int32} (h : nOk N) : nOk (useF tx B N s).2 := by
  unfold useF
  split
  · split
    · exact h
    · split
      · exact (stepF_ok h).1
      · exact h
  · exact h
theorem nOk_num {tx : Nat → Int32} {N : NT} {a b : Int32} (h : nOk N) : nOk (numF tx N a b).2 := by
  unfold numF
  split
  · split
    · exact h
    · exact (stepF_ok h).1
  · exact h
def rNameK {α : Type} (tx : Nat → Int32) (Z : ZT) (s : Nat) (k : Bool → ZT → α) : α :=
  if Z.2.1.2.2.2.2 < 25 ∧ Z.2.1.1 s < q_ROOM s then
    (if isNm tx (stepF tx Z.1) = true then
      (if oI (fstO (fun i => decide (Z.2.1.2.1 i = (stepF tx Z.1).2.2.2.2.2.2.2.2.1)) 0 Z.2.1.2.2.2.2) = -1 then k true (zB Z (stepF tx (stepF tx Z.1)) (bookTell Z.2.1 (stepF tx Z.1).2.2.2.2.2.2.2.2.1 s))
       else k false (zN Z (failF (stepF tx Z.1) 3)))
     else k false (zN Z (failF (stepF tx Z.1) 1)))
  else k false (zN Z (failF Z.1 5))

def tX7_readName : List q_I := [(0, .aload_n 0, 1, 0, 0), (1, .getfield 43, 3, 0, 0), (4, .iload_n 1, 1, 0, 0), (5, .invokevirtual 103, 3, 0, 0), (8, .ifCond .ne 9, 3, 0, 17), (11, .aload_n 0, 1, 0, 0), (12, .iconst 5, 1, 5, 0), (13, .invokevirtual 83, 3, 0, 0), (16, .ireturn, 1, 0, 0), (17, .aload_n 0, 1, 0, 0), (18, .invokevirtual 73, 3, 0, 0), (21, .aload_n 0, 1, 0, 0), (22, .invokevirtual 108, 3, 0, 0), (25, .ifCond .ne 9, 3, 0, 34), (28, .aload_n 0, 1, 0, 0), (29, .iconst 1, 1, 1, 0), (30, .invokevirtual 83, 3, 0, 0), (33, .ireturn, 1, 0, 0), (34, .aload_n 0, 1, 0, 0), (35, .getfield 43, 3, 0, 0), (38, .aload_n 0, 1, 0, 0), (39, .getfield 111, 3, 0, 0), (42, .invokevirtual 115, 3, 0, 0), (45, .iconst (-1), 1, (-1), 0), (46, .if_icmp .eq 9, 3, 0, 55), (49, .aload_n 0, 1, 0, 0), (50, .iconst 3, 1, 3, 0), (51, .invokevirtual 83, 3, 0, 0), (54, .ireturn, 1, 0, 0), (55, .aload_n 0, 1, 0, 0), (56, .getfield 43, 3, 0, 0), (59, .aload_n 0, 1, 0, 0), (60, .getfield 111, 3, 0, 0), (63, .iload_n 1, 1, 0, 0), (64, .invokevirtual 119, 3, 0, 0), (67, .aload_n 0, 1, 0, 0), (68, .invokevirtual 73, 3, 0, 0), (71, .iconst 1, 1, 1, 0), (72, .ireturn, 1, 0, 0)]
theorem tX7_readName_ok : (tX7_readName.all (q_okI cX7_readName)) = true := by decide +kernel

abbrev fdX7_readName : List (Nat ⊕ (Nat × Nat)) := [.inl 0, .inr (0, 2), .inr (0, 3), .inr (0, 5), .inr (3, 0), .inr (3, 1), .inr (3, 2), .inr (3, 3), .inr (3, 5), .inr (8, 0), .inr (8, 1), .inr (8, 2), .inr (8, 3), .inr (8, 4), .inr (8, 5), .inr (8, 6), .inr (3, 6), .inr (16, 0), .inr (16, 1), .inr (16, 2), .inr (16, 3), .inr (16, 4), .inr (16, 5), .inr (16, 6), .inr (3, 7), .inr (24, 0), .inr (24, 1), .inr (24, 2), .inr (24, 3), .inr (24, 4), .inr (24, 5), .inr (24, 6), .inr (24, 7)]
def spX7_readName : q_P := fun a w K => ∃ (tx : Nat → Int32) (Z : ZT) (s : Nat), w = zW tx Z ∧ a = [.ref 0, .int (nI s)] ∧ zOk Z ∧ s < 4 ∧ rNameK tx Z s (fun b Z' => K (.inl (some (.int (bI b)))) (zW tx Z'))
abbrev csX7_readName : q_S := (2, 7, 2, 2, 0, 0, fdX7_readName, spX7_readName)
theorem coX7_103 (l : Launch) : q_CO l RX7 103 csX0_hasRoom := ⟨yX0_hasRoom, cX0_hasRoom, (some .boolean), 1, ⟨by decide +kernel, by decide +kernel, by decide +kernel⟩, q_G_i 2 (by decide +kernel) rfl, Or.inl ⟨by decide, rfl, rfl, q_G_i 640 (by decide +kernel) rfl, q_G_i 641 (by decide +kernel) rfl, q_G_i 642 (by decide +kernel) rfl, Or.inl ⟨q_G_i 643 (by decide +kernel) rfl, ctX0_hasRoom l⟩⟩⟩
theorem coX7_119 (l : Launch) : q_CO l RX7 119 csX0_tell := ⟨yX0_tell, cX0_tell, none, 2, ⟨by decide +kernel, by decide +kernel, by decide +kernel⟩, q_G_i 2 (by decide +kernel) rfl, Or.inl ⟨by decide, rfl, rfl, q_G_i 646 (by decide +kernel) rfl, q_G_i 647 (by decide +kernel) rfl, q_G_i 648 (by decide +kernel) rfl, Or.inl ⟨q_G_i 649 (by decide +kernel) rfl, ctX0_tell l⟩⟩⟩
def EX7_readName : q_E := (tX7_readName, [], 2, flX7, [(103, csX0_hasRoom), (83, csX7_fail), (73, csX7_step), (108, csX7_isName), (115, csX0_find), (119, csX0_tell)], [], [], [], [], [], 2, 0, 0, (some .boolean), [], [], 0, 0)
theorem okX7_readName (l : Launch) : q_Eok l RX7 cX7_readName EX7_readName := ⟨tX7_readName_ok, flX7_ok, List.forall_mem_cons.mpr ⟨(coX7_103 l), List.forall_mem_cons.mpr ⟨(coX7_83 l), List.forall_mem_cons.mpr ⟨(coX7_73 l), List.forall_mem_cons.mpr ⟨(coX7_108 l), List.forall_mem_cons.mpr ⟨(coX7_115 l), List.forall_mem_cons.mpr ⟨(coX7_119 l), q_nil⟩⟩⟩⟩⟩⟩, q_nil, q_nil, q_nil, q_nil, q_nil, (fun h => absurd h (by decide))⟩
set_option maxRecDepth 100000 in
set_option maxHeartbeats 4000000 in
theorem ctX7_readName (l : Launch) : q_CT l yX7_readName (.code yX7_readName cX7_readName 2 (some .boolean)) 2 0 0 spX7_readName := by
  refine q_ct_of EX7_readName (by decide +kernel) (okX7_readName l) rfl rfl rfl rfl rfl q_nil (fun ci h => by cases h) rfl ?_
  intro a w K h
  obtain ⟨tx, Z, s, rfl, rfl, ⟨hN, hB, hR, hL, hG⟩, hs, hK⟩ := h
  refine ⟨Nat.le_of_ble_eq_true rfl, fun C hC => hC _ _ _ _ _ _ ?_⟩
  have hN1 := (stepF_ok (tx := tx) hN).1
  refine ⟨Z.2.1, _, _, _, s, rfl, rfl, hs, hB, And.intro (fun c => ?_) (fun c => ?_)⟩
  · have c := of_decide_eq_true (bI_n0.mp c)
    rw [rNameK, if_pos c] at hK
    refine ⟨tx, Z.1, rfl, rfl, hN.s, tx, stepF tx Z.1, rfl, rfl, hN1, And.intro (fun c2 => ?_) (fun c2 => ?_)⟩
    · rw [if_pos (bI_n0.mp c2)] at hK
      refine ⟨Z.2.1, _, _, _, _, rfl, rfl, hB, And.intro (fun c3 => ?_) (fun c3 => ?_)⟩
      · rw [if_pos c3] at hK
        exact ⟨Z.2.1, _, _, _, _, s, rfl, rfl, hs, c.1, tx, stepF tx Z.1, rfl, rfl, hN1.s, rfl, hK⟩
      · rw [if_neg c3] at hK
        exact ⟨tx, stepF tx Z.1, _, rfl, rfl, rfl, hK⟩
    · rw [if_neg (by rw [bI_0.mp c2]; decide)] at hK
      exact ⟨tx, stepF tx Z.1, _, rfl, rfl, rfl, hK⟩
  · rw [rNameK, if_neg (of_decide_eq_false (bI_0.mp c))] at hK
    exact ⟨tx, Z.1, _, rfl, rfl, rfl, hK⟩
/-- a use behind a keyword -/
def kwUseK {α : Type} (tx : Nat → Int32) (B : BT) (t : Nat) (s : Int32) (u : Int32 × NT) (k : Int32 → NT → α) : α :=
  if u.1 = -1 then k (-1) u.2 else if seeB tx u.2 (kb t) = true then k (useF tx B (stepF tx u.2) s).1 (useF tx B (stepF tx u.2) s).2 else k (-1) (failF u.2 1)
def rPostK {α : Type} (tx : Nat → Int32) (Z : ZT) (r : Nat) (k : Bool → ZT → α) : α :=
  if rpN Z.2.2.1 r < 3 then kwUseK tx Z.2.1 16 1 (useF tx Z.2.1 (stepF tx Z.1) 3) (fun v N' => if v = -1 then k false (zN Z N') else k true (zR Z N' (roadPost Z.2.2.1 r (useF tx Z.2.1 (stepF tx Z.1) 3).1 v)))
  else k false (zN Z (failF Z.1 5))
def tX7_readPost : List q_I := [(0, .aload_n 0, 1, 0, 0), (1, .getfield 43, 3, 0, 0), (4, .getfield 123, 3, 0, 0), (7, .invokevirtual 159, 3, 0, 0), (10, .ifCond .ne 9, 3, 0, 19), (13, .aload_n 0, 1, 0, 0), (14, .iconst 5, 1, 5, 0), (15, .invokevirtual 83, 3, 0, 0), (18, .ireturn, 1, 0, 0), (19, .aload_n 0, 1, 0, 0), (20, .invokevirtual 73, 3, 0, 0), (23, .aload_n 0, 1, 0, 0), (24, .iconst 3, 1, 3, 0), (25, .invokevirtual 131, 3, 0, 0), (28, .istore_n 1, 1, 0, 0), (29, .iload_n 1, 1, 0, 0), (30, .iconst (-1), 1, (-1), 0), (31, .if_icmp .eq 20, 3, 0, 51), (34, .aload_n 0, 1, 0, 0), (35, .ldc 162, 2, 0, 0), (37, .invokevirtual 144, 3, 0, 0), (40, .ifCond .eq 11, 3, 0, 51), (43, .aload_n 0, 1, 0, 0), (44, .iconst 1, 1, 1, 0), (45, .invokevirtual 131, 3, 0, 0), (48, .goto 4, 3, 0, 52), (51, .iconst (-1), 1, (-1), 0), (52, .istore_n 2, 1, 0, 0), (53, .iload_n 2, 1, 0, 0), (54, .iconst (-1), 1, (-1), 0), (55, .if_icmp .ne 5, 3, 0, 60), (58, .iconst 0, 1, 0, 0), (59, .ireturn, 1, 0, 0), (60, .aload_n 0, 1, 0, 0), (61, .getfield 43, 3, 0, 0), (64, .getfield 123, 3, 0, 0), (67, .iload_n 1, 1, 0, 0), (68, .iload_n 2, 1, 0, 0), (69, .invokevirtual 164, 3, 0, 0), (72, .iconst 1, 1, 1, 0), (73, .ireturn, 1, 0, 0)]
theorem tX7_readPost_ok : (tX7_readPost.all (q_okI cX7_readPost)) = true := by decide +kernel

abbrev fdX7_readPost : List (Nat ⊕ (Nat × Nat)) := [.inl 0, .inr (0, 2), .inr (0, 3), .inr (0, 5), .inr (3, 0), .inr (3, 1), .inr (3, 2), .inr (3, 3), .inr (3, 5), .inr (8, 0), .inr (8, 1), .inr (8, 2), .inr (8, 3), .inr (8, 4), .inr (8, 5), .inr (8, 6), .inr (3, 6), .inr (16, 0), .inr (16, 1), .inr (16, 2), .inr (16, 3), .inr (16, 4), .inr (16, 5), .inr (16, 6), .inr (3, 7), .inr (24, 0), .inr (24, 1), .inr (24, 2), .inr (24, 3), .inr (24, 4), .inr (24, 5), .inr (24, 6), .inr (24, 7)]
def spX7_readPost : q_P := fun a w K => ∃ (tx : Nat → Int32) (Z : ZT) (r : Nat), w = zW tx Z ∧ a = [.ref 0] ∧ zOk Z ∧ Z.2.2.1.2.2.2.2.2.2.2 = r + 1 ∧ rPostK tx Z r (fun b Z' => K (.inl (some (.int (bI b)))) (zW tx Z'))
abbrev csX7_readPost : q_S := (1, 7, 6, 3, 0, 0, fdX7_readPost, spX7_readPost)
theorem coX7_159 (l : Launch) : q_CO l RX7 159 csX8_lastHasPostRoom := ⟨yX8_lastHasPostRoom, cX8_lastHasPostRoom, (some .boolean), 0, ⟨by decide +kernel, by decide +kernel, by decide +kernel⟩, q_G_i 3 (by decide +kernel) rfl, Or.inl ⟨by decide, rfl, rfl, q_G_i 668 (by decide +kernel) rfl, q_G_i 669 (by decide +kernel) rfl, q_G_i 670 (by decide +kernel) rfl, Or.inl ⟨q_G_i 671 (by decide +kernel) rfl, ctX8_lastHasPostRoom l⟩⟩⟩
theorem coX7_131 (l : Launch) : q_CO l RX7 131 csX7_use := ⟨yX7_use, cX7_use, (some .int), 1, ⟨by decide +kernel, by decide +kernel, by decide +kernel⟩, q_G_i 6 (by decide +kernel) rfl, Or.inl ⟨by decide, rfl, rfl, q_G_i 608 (by decide +kernel) rfl, q_G_i 610 (by decide +kernel) rfl, q_G_s (n := 13) 10 (by decide +kernel), Or.inl ⟨q_G_i 611 (by decide +kernel) rfl, ctX7_use l⟩⟩⟩
theorem coX7_144 (l : Launch) : q_CO l RX7 144 csX7_goBy := ⟨yX7_goBy, cX7_goBy, (some .boolean), 1, ⟨by decide +kernel, by decide +kernel, by decide +kernel⟩, q_G_i 6 (by decide +kernel) rfl, Or.inl ⟨by decide, rfl, rfl, q_G_i 623 (by decide +kernel) rfl, q_G_i 625 (by decide +kernel) rfl, q_G_s (n := 13) 12 (by decide +kernel), Or.inl ⟨q_G_i 626 (by decide +kernel) rfl, ctX7_goBy l⟩⟩⟩
theorem coX7_164 (l : Launch) : q_CO l RX7 164 csX8_addPostToLast := ⟨yX8_addPostToLast, cX8_addPostToLast, none, 2, ⟨by decide +kernel, by decide +kernel, by decide +kernel⟩, q_G_i 3 (by decide +kernel) rfl, Or.inl ⟨by decide, rfl, rfl, q_G_i 673 (by decide +kernel) rfl, q_G_i 674 (by decide +kernel) rfl, q_G_i 675 (by decide +kernel) rfl, Or.inl ⟨q_G_i 676 (by decide +kernel) rfl, ctX8_addPostToLast l⟩⟩⟩
def EX7_readPost : q_E := (tX7_readPost, [], 3, flX7, [(159, csX8_lastHasPostRoom), (83, csX7_fail), (73, csX7_step), (131, csX7_use), (144, csX7_goBy), (164, csX8_addPostToLast)], [], [], [(162, 16)], [], [], 6, 0, 0, (some .boolean), [], [], 0, 0)
theorem okX7_readPost (l : Launch) : q_Eok l RX7 cX7_readPost EX7_readPost := ⟨tX7_readPost_ok, flX7_ok, List.forall_mem_cons.mpr ⟨(coX7_159 l), List.forall_mem_cons.mpr ⟨(coX7_83 l), List.forall_mem_cons.mpr ⟨(coX7_73 l), List.forall_mem_cons.mpr ⟨(coX7_131 l), List.forall_mem_cons.mpr ⟨(coX7_144 l), List.forall_mem_cons.mpr ⟨(coX7_164 l), q_nil⟩⟩⟩⟩⟩⟩, q_nil, q_nil, List.forall_mem_cons.mpr ⟨⟨_, rfl, rfl, rfl⟩, q_nil⟩, q_nil, q_nil, (fun h => absurd h (by decide))⟩
set_option maxRecDepth 100000 in
set_option maxHeartbeats 4000000 in
theorem ctX7_readPost (l : Launch) : q_CT l yX7_readPost (.code yX7_readPost cX7_readPost 3 (some .boolean)) 6 0 0 spX7_readPost := by
  refine q_ct_of EX7_readPost (by decide +kernel) (okX7_readPost l) rfl rfl rfl rfl rfl q_nil (fun ci h => by cases h) rfl ?_
  intro a w K h
  obtain ⟨tx, Z, r, rfl, rfl, ⟨hN, hB, hR, hL, hG⟩, hr, hK⟩ := h
  refine ⟨Nat.le_of_ble_eq_true rfl, fun C hC => hC _ _ _ _ _ _ ?_⟩
  have hN1 := (stepF_ok (tx := tx) hN).1
  refine ⟨Z.2.2.1, r, rfl, rfl, hR, hr, And.intro (fun c => ?_) (fun c => ?_)⟩
  · have c := of_decide_eq_true (bI_n0.mp c)
    rw [rPostK, if_pos c, kwUseK] at hK
    refine ⟨tx, Z.1, rfl, rfl, hN.s, tx, stepF tx Z.1, Z.2.1, _, rfl, rfl, hN1, hB, ?_⟩
    have hN2 := nOk_use (tx := tx) (B := Z.2.1) (s := 3) hN1
    generalize useF tx Z.2.1 (stepF tx Z.1) 3 = u at hK hN2 ⊢
    refine And.intro (fun c2 => ?_) (fun c2 => ?_)
    · rw [if_pos c2] at hK
      exact And.intro (fun c3 => absurd rfl c3) (fun _ => ⟨rfl, hK⟩)
    · rw [if_neg c2] at hK
      refine ⟨by decide, tx, u.2, 16, _, rfl, rfl, rfl, hN2, fun c3 => ?_, fun c3 => ?_⟩
      · have c3 : seeB tx u.2 (kb 16) = true := c3
        rw [if_pos c3] at hK
        refine And.intro (fun z => absurd z (by decide)) (fun _ => ?_)
        refine ⟨tx, stepF tx u.2, Z.2.1, _, rfl, rfl, (stepF_ok hN2).1, hB, ?_⟩
        generalize useF tx Z.2.1 (stepF tx u.2) 1 = v at hK ⊢
        refine And.intro (fun c4 => ?_) (fun c4 => ?_)
        · rw [if_neg c4] at hK
          exact ⟨Z.2.2.1, r, _, _, rfl, rfl, hR, hr, c, rfl, hK⟩
        · have c4 : v.1 = -1 := c4
          rw [if_pos c4] at hK
          exact ⟨rfl, hK⟩
      · have c3 : seeB tx u.2 (kb 16) = false := c3
        rw [if_neg (by rw [c3]; decide), if_pos rfl] at hK
        exact And.intro (fun _ => And.intro (fun c4 => absurd rfl c4) (fun _ => ⟨rfl, hK⟩)) (fun z => absurd rfl z)
  · rw [rPostK, if_neg (of_decide_eq_false (bI_0.mp c))] at hK
    exact ⟨tx, Z.1, _, rfl, rfl, rfl, hK⟩
end
section
/-- a number behind a keyword -/
def kwNumK {α : Type} (tx : Nat → Int32) (t : Nat) (lo hi u : Int32) (N : NT) (k : Int32 → NT → α) : α :=
  if u = -1 then k (-1) N else if seeB tx N (kb t) = true then k (numF tx (stepF tx N) lo hi).1 (numF tx (stepF tx N) lo hi).2 else k (-1) (failF N 1)
def rLaw4 {α : Type} (Z : ZT) (ld : Int32) (ac : Bool) (kd o si : Int32) (u : Int32 × NT) (k : Bool → ZT → α) : α :=
  if u.1 = -1 then k false (zN Z u.2) else k true (zL Z u.2 (lawAdd Z.2.2.2.1 ld kd o ac si u.1 u.2.2.2.2.1))
def rLaw3 {α : Type} (tx : Nat → Int32) (Z : ZT) (ld : Int32) (ac : Bool) (kd o si : Int32) (N : NT) (k : Bool → ZT → α) : α :=
  if si = -1 then k false (zN Z N) else if seeB tx N (kb 8) = true then rLaw4 Z ld ac kd o si (numF tx (stepF tx N) si 999) k else rLaw4 Z ld ac kd o si (999, N) k
def rLaw2 {α : Type} (tx : Nat → Int32) (Z : ZT) (ld : Int32) (ac : Bool) (v : Int32 × NT) (k : Bool → ZT → α) : α :=
  kwUseK tx Z.2.1 12 2 v (fun o N => kwNumK tx 13 0 999 o N (fun si N' => rLaw3 tx Z ld ac v.1 o si N' k))
def rLaw1 {α : Type} (tx : Nat → Int32) (Z : ZT) (u : Int32 × NT) (k : Bool → ZT → α) : α :=
  if u.1 = -1 then k false (zN Z u.2) else if seeB tx u.2 (kb 10) = true then rLaw2 tx Z u.1 true (useF tx Z.2.1 (stepF tx u.2) 3) k
  else if seeB tx u.2 (kb 11) = true then rLaw2 tx Z u.1 false (useF tx Z.2.1 (stepF tx u.2) 3) k else k false (zN Z (failF u.2 1))
def rLawK {α : Type} (tx : Nat → Int32) (Z : ZT) (k : Bool → ZT → α) : α :=
  if L_n Z.2.2.2.1 < 24 then rLaw1 tx Z (useF tx Z.2.1 (stepF tx Z.1) 1) k else k false (zN Z (failF Z.1 5))

def tX7_readLaw : List q_I := [(0, .aload_n 0, 1, 0, 0), (1, .getfield 43, 3, 0, 0), (4, .getfield 168, 3, 0, 0), (7, .invokevirtual 172, 3, 0, 0), (10, .ifCond .ne 9, 3, 0, 19), (13, .aload_n 0, 1, 0, 0), (14, .iconst 5, 1, 5, 0), (15, .invokevirtual 83, 3, 0, 0), (18, .ireturn, 1, 0, 0), (19, .aload_n 0, 1, 0, 0), (20, .invokevirtual 73, 3, 0, 0), (23, .aload_n 0, 1, 0, 0), (24, .iconst 1, 1, 1, 0), (25, .invokevirtual 131, 3, 0, 0), (28, .istore_n 1, 1, 0, 0), (29, .iload_n 1, 1, 0, 0), (30, .iconst (-1), 1, (-1), 0), (31, .if_icmp .ne 5, 3, 0, 36), (34, .iconst 0, 1, 0, 0), (35, .ireturn, 1, 0, 0), (36, .aload_n 0, 1, 0, 0), (37, .ldc 175, 2, 0, 0), (39, .invokevirtual 87, 3, 0, 0), (42, .istore_n 2, 1, 0, 0), (43, .iload_n 2, 1, 0, 0), (44, .ifCond .ne 18, 3, 0, 62), (47, .aload_n 0, 1, 0, 0), (48, .ldc 177, 2, 0, 0), (50, .invokevirtual 87, 3, 0, 0), (53, .ifCond .ne 9, 3, 0, 62), (56, .aload_n 0, 1, 0, 0), (57, .iconst 1, 1, 1, 0), (58, .invokevirtual 83, 3, 0, 0), (61, .ireturn, 1, 0, 0), (62, .aload_n 0, 1, 0, 0), (63, .invokevirtual 73, 3, 0, 0), (66, .aload_n 0, 1, 0, 0), (67, .iconst 3, 1, 3, 0), (68, .invokevirtual 131, 3, 0, 0), (71, .istore_n 3, 1, 0, 0), (72, .iload_n 3, 1, 0, 0), (73, .iconst (-1), 1, (-1), 0), (74, .if_icmp .eq 20, 3, 0, 94), (77, .aload_n 0, 1, 0, 0), (78, .ldc 179, 2, 0, 0), (80, .invokevirtual 144, 3, 0, 0), (83, .ifCond .eq 11, 3, 0, 94), (86, .aload_n 0, 1, 0, 0), (87, .iconst 2, 1, 2, 0), (88, .invokevirtual 131, 3, 0, 0), (91, .goto 4, 3, 0, 95), (94, .iconst (-1), 1, (-1), 0), (95, .istore 4, 2, 0, 0), (97, .iload 4, 2, 0, 0), (99, .iconst (-1), 1, (-1), 0), (100, .if_icmp .eq 23, 3, 0, 123), (103, .aload_n 0, 1, 0, 0), (104, .ldc 181, 2, 0, 0), (106, .invokevirtual 144, 3, 0, 0), (109, .ifCond .eq 14, 3, 0, 123), (112, .aload_n 0, 1, 0, 0), (113, .iconst 0, 1, 0, 0), (114, .sipush 999, 3, 999, 0), (117, .invokevirtual 147, 3, 0, 0), (120, .goto 4, 3, 0, 124), (123, .iconst (-1), 1, (-1), 0), (124, .istore 5, 2, 0, 0), (126, .iload 5, 2, 0, 0), (128, .iconst (-1), 1, (-1), 0), (129, .if_icmp .ne 5, 3, 0, 134), (132, .iconst 0, 1, 0, 0), (133, .ireturn, 1, 0, 0), (134, .sipush 999, 3, 999, 0), (137, .istore 6, 2, 0, 0), (139, .aload_n 0, 1, 0, 0), (140, .ldc 31, 2, 0, 0), (142, .invokevirtual 87, 3, 0, 0), (145, .ifCond .eq 18, 3, 0, 163), (148, .aload_n 0, 1, 0, 0), (149, .invokevirtual 73, 3, 0, 0), (152, .aload_n 0, 1, 0, 0), (153, .iload 5, 2, 0, 0), (155, .sipush 999, 3, 999, 0), (158, .invokevirtual 147, 3, 0, 0), (161, .istore 6, 2, 0, 0), (163, .iload 6, 2, 0, 0), (165, .iconst (-1), 1, (-1), 0), (166, .if_icmp .ne 5, 3, 0, 171), (169, .iconst 0, 1, 0, 0), (170, .ireturn, 1, 0, 0), (171, .aload_n 0, 1, 0, 0), (172, .getfield 43, 3, 0, 0), (175, .getfield 168, 3, 0, 0), (178, .iload_n 1, 1, 0, 0), (179, .iload_n 3, 1, 0, 0), (180, .iload 4, 2, 0, 0), (182, .iload_n 2, 1, 0, 0), (183, .iload 5, 2, 0, 0), (185, .iload 6, 2, 0, 0), (187, .aload_n 0, 1, 0, 0), (188, .getfield 61, 3, 0, 0), (191, .invokevirtual 183, 3, 0, 0), (194, .iconst 1, 1, 1, 0), (195, .ireturn, 1, 0, 0)]
theorem tX7_readLaw_ok : (tX7_readLaw.all (q_okI cX7_readLaw)) = true := by decide +kernel

abbrev fdX7_readLaw : List (Nat ⊕ (Nat × Nat)) := [.inl 0, .inr (0, 2), .inr (0, 3), .inr (0, 5), .inr (3, 0), .inr (3, 1), .inr (3, 2), .inr (3, 3), .inr (3, 5), .inr (8, 0), .inr (8, 1), .inr (8, 2), .inr (8, 3), .inr (8, 4), .inr (8, 5), .inr (8, 6), .inr (3, 6), .inr (16, 0), .inr (16, 1), .inr (16, 2), .inr (16, 3), .inr (16, 4), .inr (16, 5), .inr (16, 6), .inr (3, 7), .inr (24, 0), .inr (24, 1), .inr (24, 2), .inr (24, 3), .inr (24, 4), .inr (24, 5), .inr (24, 6), .inr (24, 7)]
def spX7_readLaw : q_P := fun a w K => ∃ (tx : Nat → Int32) (Z : ZT), w = zW tx Z ∧ a = [.ref 0] ∧ zOk Z ∧ rLawK tx Z (fun b Z' => K (.inl (some (.int (bI b)))) (zW tx Z'))
abbrev csX7_readLaw : q_S := (1, 7, 6, 7, 0, 0, fdX7_readLaw, spX7_readLaw)
theorem coX7_172 (l : Launch) : q_CO l RX7 172 csX3_hasRoom := ⟨yX3_hasRoom, cX3_hasRoom, (some .boolean), 0, ⟨by decide +kernel, by decide +kernel, by decide +kernel⟩, q_G_i 4 (by decide +kernel) rfl, Or.inl ⟨by decide, rfl, rfl, q_G_i 596 (by decide +kernel) rfl, q_G_i 597 (by decide +kernel) rfl, q_G_i 598 (by decide +kernel) rfl, Or.inl ⟨q_G_i 599 (by decide +kernel) rfl, ctX3_hasRoom l⟩⟩⟩
theorem coX7_147 (l : Launch) : q_CO l RX7 147 csX7_number := ⟨yX7_number, cX7_number, (some .int), 2, ⟨by decide +kernel, by decide +kernel, by decide +kernel⟩, q_G_i 6 (by decide +kernel) rfl, Or.inl ⟨by decide, rfl, rfl, q_G_i 628 (by decide +kernel) rfl, q_G_i 630 (by decide +kernel) rfl, q_G_s (n := 13) 13 (by decide +kernel), Or.inl ⟨q_G_i 631 (by decide +kernel) rfl, ctX7_number l⟩⟩⟩
theorem coX7_183 (l : Launch) : q_CO l RX7 183 csX3_add := ⟨yX3_add, cX3_add, none, 7, ⟨by decide +kernel, by decide +kernel, by decide +kernel⟩, q_G_i 4 (by decide +kernel) rfl, Or.inl ⟨by decide, rfl, rfl, q_G_i 632 (by decide +kernel) rfl, q_G_i 633 (by decide +kernel) rfl, q_G_i 634 (by decide +kernel) rfl, Or.inl ⟨q_G_i 635 (by decide +kernel) rfl, ctX3_add l⟩⟩⟩
def EX7_readLaw : q_E := (tX7_readLaw, [(62, [0, 1, 2]), (97, [0, 1, 2, 3, 4]), (126, [0, 1, 2, 3, 4, 5]), (163, [0, 1, 2, 3, 4, 5, 6])], 7, flX7, [(172, csX3_hasRoom), (83, csX7_fail), (73, csX7_step), (131, csX7_use), (87, csX7_sees), (144, csX7_goBy), (147, csX7_number), (183, csX3_add)], [], [], [(31, 8), (175, 10), (177, 11), (179, 12), (181, 13)], [], [], 6, 0, 0, (some .boolean), [], [], 0, 0)
theorem okX7_readLaw (l : Launch) : q_Eok l RX7 cX7_readLaw EX7_readLaw := ⟨tX7_readLaw_ok, flX7_ok, List.forall_mem_cons.mpr ⟨(coX7_172 l), List.forall_mem_cons.mpr ⟨(coX7_83 l), List.forall_mem_cons.mpr ⟨(coX7_73 l), List.forall_mem_cons.mpr ⟨(coX7_131 l), List.forall_mem_cons.mpr ⟨(coX7_87 l), List.forall_mem_cons.mpr ⟨(coX7_144 l), List.forall_mem_cons.mpr ⟨(coX7_147 l), List.forall_mem_cons.mpr ⟨(coX7_183 l), q_nil⟩⟩⟩⟩⟩⟩⟩⟩, q_nil, q_nil, List.forall_mem_cons.mpr ⟨⟨_, rfl, rfl, rfl⟩, List.forall_mem_cons.mpr ⟨⟨_, rfl, rfl, rfl⟩, List.forall_mem_cons.mpr ⟨⟨_, rfl, rfl, rfl⟩, List.forall_mem_cons.mpr ⟨⟨_, rfl, rfl, rfl⟩, List.forall_mem_cons.mpr ⟨⟨_, rfl, rfl, rfl⟩, q_nil⟩⟩⟩⟩⟩, q_nil, q_nil, (fun h => absurd h (by decide))⟩
set_option maxRecDepth 100000 in
set_option maxHeartbeats 4000000 in
theorem ctX7_readLaw (l : Launch) : q_CT l yX7_readLaw (.code yX7_readLaw cX7_readLaw 7 (some .boolean)) 6 0 0 spX7_readLaw := by
  refine q_ct_of EX7_readLaw (by decide +kernel) (okX7_readLaw l) rfl rfl rfl rfl rfl q_nil (fun ci h => by cases h) rfl ?_
  intro a w K h
  obtain ⟨tx, Z, rfl, rfl, ⟨hN, hB, hR, hL, hG⟩, hK⟩ := h
  refine ⟨Nat.le_of_ble_eq_true rfl, fun C hC => hC _ _ _ _ _ _ ?_⟩
  have hN1 := (stepF_ok (tx := tx) hN).1
  refine ⟨Z.2.2.2.1, rfl, rfl, hL, And.intro (fun c => ?_) (fun c => ?_)⟩
  · have cL := of_decide_eq_true (bI_n0.mp c)
    rw [rLawK, if_pos cL] at hK
    have at163 : ∀ (ld : Int32) (ac : Bool) (kd o si : Int32) (u : Int32 × NT), rLaw4 Z ld ac kd o si u (fun b Z' => K (.inl (some (.int (bI b)))) (zW tx Z')) → C 163 [(0, .ref 0), (1, .int ld), (2, .int (bI ac)), (3, .int kd), (4, .int o), (5, .int si), (6, .int u.1)] [] (zW tx (zN Z u.2)) 0 0 := by
      intro ld ac kd o si u hK
      refine hC _ _ _ _ _ _ (And.intro (fun c2 => ?_) (fun c2 => ?_))
      · rw [rLaw4, if_neg c2] at hK
        exact ⟨Z.2.2.2.1, _, _, _, _, _, _, _, rfl, rfl, cL, rfl, hK⟩
      · have c2 : u.1 = -1 := c2
        rw [rLaw4, if_pos c2] at hK
        exact ⟨rfl, hK⟩
    have at126 : ∀ (ld : Int32) (ac : Bool) (kd o si : Int32) (N : NT), nOk N → rLaw3 tx Z ld ac kd o si N (fun b Z' => K (.inl (some (.int (bI b)))) (zW tx Z')) → C 126 [(0, .ref 0), (1, .int ld), (2, .int (bI ac)), (3, .int kd), (4, .int o), (5, .int si)] [] (zW tx (zN Z N)) 0 0 := by
      intro ld ac kd o si N hN hK
      refine hC _ _ _ _ _ _ (And.intro (fun c2 => ?_) (fun c2 => ?_))
      · rw [rLaw3, if_neg c2] at hK
        refine ⟨by decide, tx, N, 8, _, rfl, rfl, rfl, hN, And.intro (fun c3 => ?_) (fun c3 => ?_)⟩
        · have c3 : seeB tx N (kb 8) = false := bI_0.mp c3
          rw [if_neg (by rw [c3]; decide)] at hK
          exact at163 ld ac kd o si (999, N) hK
        · have c3 : seeB tx N (kb 8) = true := bI_n0.mp c3
          rw [if_pos c3] at hK
          exact ⟨tx, N, rfl, rfl, hN.s, tx, stepF tx N, _, _, rfl, rfl, (stepF_ok hN).1, at163 ld ac kd o si _ hK⟩
      · have c2 : si = -1 := c2
        rw [rLaw3, if_pos c2] at hK
        exact ⟨rfl, hK⟩
    have at97 : ∀ (ld : Int32) (ac : Bool) (kd o : Int32) (N : NT), nOk N → kwNumK tx 13 0 999 o N (fun si N' => rLaw3 tx Z ld ac kd o si N' (fun b Z' => K (.inl (some (.int (bI b)))) (zW tx Z'))) → C 97 [(0, .ref 0), (1, .int ld), (2, .int (bI ac)), (3, .int kd), (4, .int o)] [] (zW tx (zN Z N)) 0 0 := by
      intro ld ac kd o N hN hK
      rw [kwNumK] at hK
      refine hC _ _ _ _ _ _ (And.intro (fun c2 => ?_) (fun c2 => ?_))
      · have c2 : o = -1 := c2
        rw [if_pos c2] at hK
        exact at126 ld ac kd o (-1) N hN hK
      · rw [if_neg c2] at hK
        refine ⟨by decide, tx, N, 13, _, rfl, rfl, rfl, hN, fun c3 => ?_, fun c3 => ?_⟩
        · have c3 : seeB tx N (kb 13) = true := c3
          rw [if_pos c3] at hK
          refine And.intro (fun z => absurd z (by decide)) (fun _ => ?_)
          exact ⟨tx, stepF tx N, _, _, rfl, rfl, (stepF_ok hN).1, at126 ld ac kd o _ _ (nOk_num (stepF_ok hN).1) hK⟩
        · have c3 : seeB tx N (kb 13) = false := c3
          rw [if_neg (by rw [c3]; decide)] at hK
          exact And.intro (fun _ => at126 ld ac kd o (-1) (failF N 1) hN hK) (fun z => absurd rfl z)
    have at62 : ∀ (ld : Int32) (ac : Bool) (N : NT), nOk N → rLaw2 tx Z ld ac (useF tx Z.2.1 (stepF tx N) 3) (fun b Z' => K (.inl (some (.int (bI b)))) (zW tx Z')) → C 62 [(0, .ref 0), (1, .int ld), (2, .int (bI ac))] [] (zW tx (zN Z N)) 0 0 := by
      intro ld ac N hN hK
      have hN1 := (stepF_ok (tx := tx) hN).1
      have hN2 := nOk_use (tx := tx) (B := Z.2.1) (s := 3) hN1
      refine hC _ _ _ _ _ _ ⟨tx, N, rfl, rfl, hN.s, tx, stepF tx N, Z.2.1, _, rfl, rfl, hN1, hB, ?_⟩
      generalize useF tx Z.2.1 (stepF tx N) 3 = v at hK hN2 ⊢
      rw [rLaw2, kwUseK] at hK
      refine And.intro (fun c2 => ?_) (fun c2 => ?_)
      · rw [if_pos c2] at hK
        exact at97 ld ac v.1 (-1) v.2 hN2 hK
      · rw [if_neg c2] at hK
        refine ⟨by decide, tx, v.2, 12, _, rfl, rfl, rfl, hN2, fun c3 => ?_, fun c3 => ?_⟩
        · have c3 : seeB tx v.2 (kb 12) = true := c3
          rw [if_pos c3] at hK
          refine And.intro (fun z => absurd z (by decide)) (fun _ => ?_)
          exact ⟨tx, stepF tx v.2, Z.2.1, _, rfl, rfl, (stepF_ok hN2).1, hB, at97 ld ac v.1 _ _ (nOk_use (stepF_ok hN2).1) hK⟩
        · have c3 : seeB tx v.2 (kb 12) = false := c3
          rw [if_neg (by rw [c3]; decide)] at hK
          exact And.intro (fun _ => at97 ld ac v.1 (-1) (failF v.2 1) hN2 hK) (fun z => absurd rfl z)
    refine ⟨tx, Z.1, rfl, rfl, hN.s, tx, stepF tx Z.1, Z.2.1, _, rfl, rfl, hN1, hB, ?_⟩
    have hN2 := nOk_use (tx := tx) (B := Z.2.1) (s := 1) hN1
    generalize useF tx Z.2.1 (stepF tx Z.1) 1 = u at hK hN2 ⊢
    rw [rLaw1] at hK
    refine And.intro (fun c2 => ?_) (fun c2 => ?_)
    · rw [if_neg c2] at hK
      refine ⟨by decide, tx, u.2, 10, _, rfl, rfl, rfl, hN2, And.intro (fun c3 => ?_) (fun c3 => ?_)⟩
      · have c3 : seeB tx u.2 (kb 10) = true := bI_n0.mp c3
        rw [if_pos c3] at hK
        have h9 := at62 u.1 true u.2 hN2 hK
        rw [← c3] at h9
        exact h9
      · have c3 : seeB tx u.2 (kb 10) = false := bI_0.mp c3
        rw [if_neg (by rw [c3]; decide)] at hK
        refine ⟨by decide, tx, u.2, 11, _, rfl, rfl, rfl, hN2, And.intro (fun c4 => ?_) (fun c4 => ?_)⟩
        · have c4 : seeB tx u.2 (kb 11) = true := bI_n0.mp c4
          rw [if_pos c4] at hK
          have h9 := at62 u.1 false u.2 hN2 hK
          rw [← c3] at h9
          exact h9
        · have c4 : seeB tx u.2 (kb 11) = false := bI_0.mp c4
          rw [if_neg (by rw [c4]; decide)] at hK
          exact ⟨tx, u.2, _, rfl, rfl, rfl, hK⟩
    · have c2 : u.1 = -1 := c2
      rw [if_pos c2] at hK
      exact ⟨rfl, hK⟩
  · rw [rLawK, if_neg (of_decide_eq_false (bI_0.mp c))] at hK
    exact ⟨tx, Z.1, _, rfl, rfl, rfl, hK⟩
def rCase2 {α : Type} (tx : Nat → Int32) (Z : ZT) (g : Nat) (pr : Bool) (v : Int32 × NT) (k : Bool → ZT → α) : α :=
  kwUseK tx Z.2.1 12 2 v (fun o N => if o = -1 then k false (zN Z N) else k true (zG Z N (giftCase Z.2.2.2.2 g (if pr = true then 1 else 2) v.1 o)))
def rCaseB {α : Type} (Z : ZT) (g : Nat) (u : Int32 × NT) (k : Bool → ZT → α) : α :=
  if u.1 = -1 then k false (zN Z u.2) else k true (zG Z u.2 (giftCase Z.2.2.2.2 g 0 u.1 (-1)))
def rCase1 {α : Type} (tx : Nat → Int32) (Z : ZT) (g : Nat) (N : NT) (k : Bool → ZT → α) : α :=
  if seeB tx N (kb 18) = true then rCaseB Z g (useF tx Z.2.1 (stepF tx N) 0) k
  else if seeB tx N (kb 19) = true then rCase2 tx Z g true (useF tx Z.2.1 (stepF tx N) 3) k
  else if seeB tx N (kb 20) = true then rCase2 tx Z g false (useF tx Z.2.1 (stepF tx N) 3) k else k false (zN Z (failF N 1))
def rCaseK {α : Type} (tx : Nat → Int32) (Z : ZT) (g : Nat) (k : Bool → ZT → α) : α :=
  if gcN Z.2.2.2.2 g < 3 then rCase1 tx Z g (stepF tx Z.1) k else k false (zN Z (failF Z.1 5))
def tX7_readCase : List q_I := [(0, .aload_n 0, 1, 0, 0), (1, .getfield 43, 3, 0, 0), (4, .getfield 186, 3, 0, 0), (7, .invokevirtual 201, 3, 0, 0), (10, .ifCond .ne 9, 3, 0, 19), (13, .aload_n 0, 1, 0, 0), (14, .iconst 5, 1, 5, 0), (15, .invokevirtual 83, 3, 0, 0), (18, .ireturn, 1, 0, 0), (19, .aload_n 0, 1, 0, 0), (20, .invokevirtual 73, 3, 0, 0), (23, .aload_n 0, 1, 0, 0), (24, .ldc 204, 2, 0, 0), (26, .invokevirtual 87, 3, 0, 0), (29, .ifCond .eq 35, 3, 0, 64), (32, .aload_n 0, 1, 0, 0), (33, .invokevirtual 73, 3, 0, 0), (36, .aload_n 0, 1, 0, 0), (37, .iconst 0, 1, 0, 0), (38, .invokevirtual 131, 3, 0, 0), (41, .istore_n 1, 1, 0, 0), (42, .iload_n 1, 1, 0, 0), (43, .iconst (-1), 1, (-1), 0), (44, .if_icmp .ne 5, 3, 0, 49), (47, .iconst 0, 1, 0, 0), (48, .ireturn, 1, 0, 0), (49, .aload_n 0, 1, 0, 0), (50, .getfield 43, 3, 0, 0), (53, .getfield 186, 3, 0, 0), (56, .iconst 0, 1, 0, 0), (57, .iload_n 1, 1, 0, 0), (58, .iconst (-1), 1, (-1), 0), (59, .invokevirtual 206, 3, 0, 0), (62, .iconst 1, 1, 1, 0), (63, .ireturn, 1, 0, 0), (64, .aload_n 0, 1, 0, 0), (65, .ldc 209, 2, 0, 0), (67, .invokevirtual 87, 3, 0, 0), (70, .istore_n 1, 1, 0, 0), (71, .iload_n 1, 1, 0, 0), (72, .ifCond .ne 18, 3, 0, 90), (75, .aload_n 0, 1, 0, 0), (76, .ldc 211, 2, 0, 0), (78, .invokevirtual 87, 3, 0, 0), (81, .ifCond .ne 9, 3, 0, 90), (84, .aload_n 0, 1, 0, 0), (85, .iconst 1, 1, 1, 0), (86, .invokevirtual 83, 3, 0, 0), (89, .ireturn, 1, 0, 0), (90, .aload_n 0, 1, 0, 0), (91, .invokevirtual 73, 3, 0, 0), (94, .aload_n 0, 1, 0, 0), (95, .iconst 3, 1, 3, 0), (96, .invokevirtual 131, 3, 0, 0), (99, .istore_n 2, 1, 0, 0), (100, .iload_n 2, 1, 0, 0), (101, .iconst (-1), 1, (-1), 0), (102, .if_icmp .eq 20, 3, 0, 122), (105, .aload_n 0, 1, 0, 0), (106, .ldc 179, 2, 0, 0), (108, .invokevirtual 144, 3, 0, 0), (111, .ifCond .eq 11, 3, 0, 122), (114, .aload_n 0, 1, 0, 0), (115, .iconst 2, 1, 2, 0), (116, .invokevirtual 131, 3, 0, 0), (119, .goto 4, 3, 0, 123), (122, .iconst (-1), 1, (-1), 0), (123, .istore_n 3, 1, 0, 0), (124, .iload_n 3, 1, 0, 0), (125, .iconst (-1), 1, (-1), 0), (126, .if_icmp .ne 5, 3, 0, 131), (129, .iconst 0, 1, 0, 0), (130, .ireturn, 1, 0, 0), (131, .aload_n 0, 1, 0, 0), (132, .getfield 43, 3, 0, 0), (135, .getfield 186, 3, 0, 0), (138, .iload_n 1, 1, 0, 0), (139, .ifCond .eq 7, 3, 0, 146), (142, .iconst 1, 1, 1, 0), (143, .goto 4, 3, 0, 147), (146, .iconst 2, 1, 2, 0), (147, .iload_n 2, 1, 0, 0), (148, .iload_n 3, 1, 0, 0), (149, .invokevirtual 206, 3, 0, 0), (152, .iconst 1, 1, 1, 0), (153, .ireturn, 1, 0, 0)]
theorem tX7_readCase_ok : (tX7_readCase.all (q_okI cX7_readCase)) = true := by decide +kernel

abbrev fdX7_readCase : List (Nat ⊕ (Nat × Nat)) := [.inl 0, .inr (0, 2), .inr (0, 3), .inr (0, 5), .inr (3, 0), .inr (3, 1), .inr (3, 2), .inr (3, 3), .inr (3, 5), .inr (8, 0), .inr (8, 1), .inr (8, 2), .inr (8, 3), .inr (8, 4), .inr (8, 5), .inr (8, 6), .inr (3, 6), .inr (16, 0), .inr (16, 1), .inr (16, 2), .inr (16, 3), .inr (16, 4), .inr (16, 5), .inr (16, 6), .inr (3, 7), .inr (24, 0), .inr (24, 1), .inr (24, 2), .inr (24, 3), .inr (24, 4), .inr (24, 5), .inr (24, 6), .inr (24, 7)]
def spX7_readCase : q_P := fun a w K => ∃ (tx : Nat → Int32) (Z : ZT) (g : Nat), w = zW tx Z ∧ a = [.ref 0] ∧ zOk Z ∧ Z.2.2.2.2.2.2.2.2.2.2.2.2 = g + 1 ∧ rCaseK tx Z g (fun b Z' => K (.inl (some (.int (bI b)))) (zW tx Z'))
abbrev csX7_readCase : q_S := (1, 7, 6, 4, 0, 0, fdX7_readCase, spX7_readCase)
theorem coX7_201 (l : Launch) : q_CO l RX7 201 csX2_lastHasCaseRoom := ⟨yX2_lastHasCaseRoom, cX2_lastHasCaseRoom, (some .boolean), 0, ⟨by decide +kernel, by decide +kernel, by decide +kernel⟩, q_G_i 5 (by decide +kernel) rfl, Or.inl ⟨by decide, rfl, rfl, q_G_i 694 (by decide +kernel) rfl, q_G_i 695 (by decide +kernel) rfl, q_G_i 696 (by decide +kernel) rfl, Or.inl ⟨q_G_i 697 (by decide +kernel) rfl, ctX2_lastHasCaseRoom l⟩⟩⟩
theorem coX7_206 (l : Launch) : q_CO l RX7 206 csX2_addCaseToLast := ⟨yX2_addCaseToLast, cX2_addCaseToLast, none, 3, ⟨by decide +kernel, by decide +kernel, by decide +kernel⟩, q_G_i 5 (by decide +kernel) rfl, Or.inl ⟨by decide, rfl, rfl, q_G_i 699 (by decide +kernel) rfl, q_G_i 700 (by decide +kernel) rfl, q_G_i 701 (by decide +kernel) rfl, Or.inl ⟨q_G_i 702 (by decide +kernel) rfl, ctX2_addCaseToLast l⟩⟩⟩
def EX7_readCase : q_E := (tX7_readCase, [(90, [0, 1]), (124, [0, 1, 2, 3])], 4, flX7, [(201, csX2_lastHasCaseRoom), (83, csX7_fail), (73, csX7_step), (87, csX7_sees), (131, csX7_use), (206, csX2_addCaseToLast), (144, csX7_goBy)], [], [], [(179, 12), (204, 18), (209, 19), (211, 20)], [], [], 6, 0, 0, (some .boolean), [], [], 0, 0)
theorem okX7_readCase (l : Launch) : q_Eok l RX7 cX7_readCase EX7_readCase := ⟨tX7_readCase_ok, flX7_ok, List.forall_mem_cons.mpr ⟨(coX7_201 l), List.forall_mem_cons.mpr ⟨(coX7_83 l), List.forall_mem_cons.mpr ⟨(coX7_73 l), List.forall_mem_cons.mpr ⟨(coX7_87 l), List.forall_mem_cons.mpr ⟨(coX7_131 l), List.forall_mem_cons.mpr ⟨(coX7_206 l), List.forall_mem_cons.mpr ⟨(coX7_144 l), q_nil⟩⟩⟩⟩⟩⟩⟩, q_nil, q_nil, List.forall_mem_cons.mpr ⟨⟨_, rfl, rfl, rfl⟩, List.forall_mem_cons.mpr ⟨⟨_, rfl, rfl, rfl⟩, List.forall_mem_cons.mpr ⟨⟨_, rfl, rfl, rfl⟩, List.forall_mem_cons.mpr ⟨⟨_, rfl, rfl, rfl⟩, q_nil⟩⟩⟩⟩, q_nil, q_nil, (fun h => absurd h (by decide))⟩
set_option maxRecDepth 100000 in
set_option maxHeartbeats 4000000 in
theorem ctX7_readCase (l : Launch) : q_CT l yX7_readCase (.code yX7_readCase cX7_readCase 4 (some .boolean)) 6 0 0 spX7_readCase := by
  refine q_ct_of EX7_readCase (by decide +kernel) (okX7_readCase l) rfl rfl rfl rfl rfl q_nil (fun ci h => by cases h) rfl ?_
  intro a w K h
  obtain ⟨tx, Z, g, rfl, rfl, ⟨hN, hB, hR, hL, hG⟩, hg, hK⟩ := h
  refine ⟨Nat.le_of_ble_eq_true rfl, fun C hC => hC _ _ _ _ _ _ ?_⟩
  have hN1 := (stepF_ok (tx := tx) hN).1
  refine ⟨Z.2.2.2.2, g, rfl, rfl, hG, hg, And.intro (fun c => ?_) (fun c => ?_)⟩
  · have cG := of_decide_eq_true (bI_n0.mp c)
    rw [rCaseK, if_pos cG] at hK
    refine ⟨tx, Z.1, rfl, rfl, hN.s, ?_⟩
    generalize stepF tx Z.1 = N at hK hN1 ⊢
    rw [rCase1] at hK
    have hN3 := (stepF_ok (tx := tx) hN1).1
    have at124 : ∀ (pr : Bool) (kd o : Int32) (N : NT), (if o = -1 then K (.inl (some (.int (bI false)))) (zW tx (zN Z N)) else K (.inl (some (.int (bI true)))) (zW tx (zG Z N (giftCase Z.2.2.2.2 g (if pr = true then 1 else 2) kd o)))) → C 124 [(0, .ref 0), (1, .int (bI pr)), (2, .int kd), (3, .int o)] [] (zW tx (zN Z N)) 0 0 := by
      intro pr kd o N hK
      refine hC _ _ _ _ _ _ (And.intro (fun c2 => ?_) (fun c2 => ?_))
      · rw [if_neg c2] at hK
        cases pr with
        | true => exact And.intro (fun z => absurd z (by decide)) (fun _ => ⟨Z.2.2.2.2, g, _, _, _, rfl, rfl, hG, hg, cG, rfl, hK⟩)
        | false => exact And.intro (fun _ => ⟨Z.2.2.2.2, g, _, _, _, rfl, rfl, hG, hg, cG, rfl, hK⟩) (fun z => absurd rfl z)
      · have c2 : o = -1 := c2
        rw [if_pos c2] at hK
        exact ⟨rfl, hK⟩
    have at90 : ∀ (pr : Bool) (N : NT), nOk N → rCase2 tx Z g pr (useF tx Z.2.1 (stepF tx N) 3) (fun b Z' => K (.inl (some (.int (bI b)))) (zW tx Z')) → C 90 [(0, .ref 0), (1, .int (bI pr))] [] (zW tx (zN Z N)) 0 0 := by
      intro pr N hN hK
      have hN1 := (stepF_ok (tx := tx) hN).1
      have hN2 := nOk_use (tx := tx) (B := Z.2.1) (s := 3) hN1
      refine hC _ _ _ _ _ _ ⟨tx, N, rfl, rfl, hN.s, tx, stepF tx N, Z.2.1, _, rfl, rfl, hN1, hB, ?_⟩
      generalize useF tx Z.2.1 (stepF tx N) 3 = v at hK hN2 ⊢
      rw [rCase2, kwUseK] at hK
      refine And.intro (fun c2 => ?_) (fun c2 => ?_)
      · rw [if_pos c2] at hK
        exact at124 pr v.1 (-1) v.2 hK
      · rw [if_neg c2] at hK
        refine ⟨by decide, tx, v.2, 12, _, rfl, rfl, rfl, hN2, fun c3 => ?_, fun c3 => ?_⟩
        · have c3 : seeB tx v.2 (kb 12) = true := c3
          rw [if_pos c3] at hK
          refine And.intro (fun z => absurd z (by decide)) (fun _ => ?_)
          exact ⟨tx, stepF tx v.2, Z.2.1, _, rfl, rfl, (stepF_ok hN2).1, hB, at124 pr v.1 _ _ hK⟩
        · have c3 : seeB tx v.2 (kb 12) = false := c3
          rw [if_neg (by rw [c3]; decide)] at hK
          exact And.intro (fun _ => at124 pr v.1 (-1) (failF v.2 1) hK) (fun z => absurd rfl z)
    refine ⟨by decide, tx, N, 18, _, rfl, rfl, rfl, hN1, And.intro (fun c3 => ?_) (fun c3 => ?_)⟩
    · have c3 : seeB tx N (kb 18) = false := bI_0.mp c3
      rw [if_neg (by rw [c3]; decide)] at hK
      refine ⟨by decide, tx, N, 19, _, rfl, rfl, rfl, hN1, And.intro (fun c4 => ?_) (fun c4 => ?_)⟩
      · have c4 : seeB tx N (kb 19) = true := bI_n0.mp c4
        rw [if_pos c4] at hK
        have h9 := at90 true N hN1 hK
        rw [← c4] at h9
        exact h9
      · have c4 : seeB tx N (kb 19) = false := bI_0.mp c4
        rw [if_neg (by rw [c4]; decide)] at hK
        refine ⟨by decide, tx, N, 20, _, rfl, rfl, rfl, hN1, And.intro (fun c5 => ?_) (fun c5 => ?_)⟩
        · have c5 : seeB tx N (kb 20) = true := bI_n0.mp c5
          rw [if_pos c5] at hK
          have h9 := at90 false N hN1 hK
          rw [← c4] at h9
          exact h9
        · have c5 : seeB tx N (kb 20) = false := bI_0.mp c5
          rw [if_neg (by rw [c5]; decide)] at hK
          exact ⟨tx, N, _, rfl, rfl, rfl, hK⟩
    · have c3 : seeB tx N (kb 18) = true := bI_n0.mp c3
      rw [if_pos c3, rCaseB] at hK
      refine ⟨tx, N, rfl, rfl, hN1.s, tx, stepF tx N, Z.2.1, _, rfl, rfl, hN3, hB, ?_⟩
      generalize useF tx Z.2.1 (stepF tx N) 0 = u at hK ⊢
      refine And.intro (fun c4 => ?_) (fun c4 => ?_)
      · rw [if_neg c4] at hK
        exact ⟨Z.2.2.2.2, g, _, _, _, rfl, rfl, hG, hg, cG, rfl, hK⟩
      · have c4 : u.1 = -1 := c4
        rw [if_pos c4] at hK
        exact ⟨rfl, hK⟩
  · rw [rCaseK, if_neg (of_decide_eq_false (bI_0.mp c))] at hK
    exact ⟨tx, Z.1, _, rfl, rfl, rfl, hK⟩
end
section
/-- in order, and the text ends at e -/
def nE (e : Nat) (N : NT) : Prop := nOk N ∧ N.2.2.1 = e
def zE (e : Nat) (Z : ZT) : Prop := nE e Z.1 ∧ Z.2.1.2.2.2.2 ≤ 25 ∧ rOk Z.2.2.1 ∧ L_n Z.2.2.2.1 ≤ 24 ∧ gOk Z.2.2.2.2
theorem zE.ok {e : Nat} {Z : ZT} (h : zE e Z) : zOk Z := ⟨h.1.1, h.2⟩
theorem nE_step {tx : Nat → Int32} {e : Nat} {N : NT} (h : nE e N) : nE e (stepF tx N) := ⟨(stepF_ok h.1).1, (stepF_ok h.1).2.trans h.2⟩
theorem nE_use {tx : Nat → Int32} {e : Nat} {B : BT} {N : NT} {s : Int32} (h : nE e N) : nE e (useF tx B N s).2 := by
  unfold useF
  split
  · split
    · exact h
    · split
      · exact nE_step h
      · exact h
  · exact h
theorem nE_num {tx : Nat → Int32} {e : Nat} {N : NT} {a b : Int32} (h : nE e N) : nE e (numF tx N a b).2 := by
  unfold numF
  split
  · split
    · exact h
    · exact nE_step h
  · exact h
theorem kwUseK_mono {tx : Nat → Int32} {e : Nat} {B : BT} {t : Nat} {s : Int32} {u : Int32 × NT} {k k' : Int32 → NT → Prop} (hu : nE e u.2) (h : ∀ v N, nE e N → k v N → k' v N) (hk : kwUseK tx B t s u k) : kwUseK tx B t s u k' := by
  unfold kwUseK at hk ⊢
  split
  · next c => rw [if_pos c] at hk; exact h _ _ hu hk
  · next c =>
    rw [if_neg c] at hk
    split
    · next c2 => rw [if_pos c2] at hk; exact h _ _ (nE_use (nE_step hu)) hk
    · next c2 => rw [if_neg c2] at hk; exact h _ (failF u.2 1) hu hk
theorem kwNumK_mono {tx : Nat → Int32} {e : Nat} {t : Nat} {a b u : Int32} {N : NT} {k k' : Int32 → NT → Prop} (hu : nE e N) (h : ∀ v N, nE e N → k v N → k' v N) (hk : kwNumK tx t a b u N k) : kwNumK tx t a b u N k' := by
  unfold kwNumK at hk ⊢
  split
  · next c => rw [if_pos c] at hk; exact h _ _ hu hk
  · next c =>
    rw [if_neg c] at hk
    split
    · next c2 => rw [if_pos c2] at hk; exact h _ _ (nE_num (nE_step hu)) hk
    · next c2 => rw [if_neg c2] at hk; exact h _ (failF N 1) hu hk
theorem rOk_post {R : RT} {r : Nat} {a b : Int32} (h : rOk R) (hr : r < R.2.2.2.2.2.2.2) (hl : rpN R r < 3) : rOk (roadPost R r a b) := by
  refine ⟨h.1, fun x hx => ?_⟩
  by_cases e : x = r
  · subst e
    have e1 : (roadPost R x a b).2.2.2.2.1 x = nI (rpN R x + 1) := pk_us
    have e2 : rpN (roadPost R x a b) x = rpN R x + 1 := by rw [rpN, e1]; exact nI_clamp (by omega)
    rw [e1, e2]
    exact ⟨rfl, by omega⟩
  · have e1 : (roadPost R r a b).2.2.2.2.1 x = R.2.2.2.2.1 x := pk_un e
    have e2 : rpN (roadPost R r a b) x = rpN R x := by rw [rpN, e1]; rfl
    rw [e1, e2]
    exact h.2 x hx
theorem rOk_add {R : RT} {x y d c : Int32} (h : rOk R) (hl : R.2.2.2.2.2.2.2 < 16) : rOk (roadAdd R x y d c) := by
  refine ⟨hl, fun r hr => ?_⟩
  by_cases e : r = R.2.2.2.2.2.2.2
  · have e1 : (roadAdd R x y d c).2.2.2.2.1 r = 0 := by rw [e]; exact pk_us
    have e2 : rpN (roadAdd R x y d c) r = 0 := by rw [rpN, e1]; rfl
    rw [e1, e2]
    exact ⟨rfl, by omega⟩
  · have hr : r < R.2.2.2.2.2.2.2 + 1 := hr
    have e1 : (roadAdd R x y d c).2.2.2.2.1 r = R.2.2.2.2.1 r := pk_un e
    have e2 : rpN (roadAdd R x y d c) r = rpN R r := by rw [rpN, e1]; rfl
    rw [e1, e2]
    exact h.2 r (by omega)
theorem gOk_case {G : GT} {g : Nat} {s x o : Int32} (h : gOk G) (hg : g < G.2.2.2.2.2.2.2.2) (hl : gcN G g < 3) : gOk (giftCase G g s x o) := by
  refine ⟨h.1, fun j hj => ?_⟩
  by_cases e : j = g
  · subst e
    have e1 : (giftCase G j s x o).2.2.2.1 j = nI (gcN G j + 1) := pk_us
    have e2 : gcN (giftCase G j s x o) j = gcN G j + 1 := by rw [gcN, e1]; exact nI_clamp (by omega)
    rw [e1, e2]
    exact ⟨rfl, by omega⟩
  · have e1 : (giftCase G g s x o).2.2.2.1 j = G.2.2.2.1 j := pk_un e
    have e2 : gcN (giftCase G g s x o) j = gcN G j := by rw [gcN, e1]; rfl
    rw [e1, e2]
    exact h.2 j hj
theorem gOk_add {G : GT} {k o f : Int32} (h : gOk G) (hl : G.2.2.2.2.2.2.2.2 < 12) : gOk (giftAdd G k o f) := by
  refine ⟨hl, fun j hj => ?_⟩
  by_cases e : j = G.2.2.2.2.2.2.2.2
  · have e1 : (giftAdd G k o f).2.2.2.1 j = 0 := by rw [e]; exact pk_us
    have e2 : gcN (giftAdd G k o f) j = 0 := by rw [gcN, e1]; rfl
    rw [e1, e2]
    exact ⟨rfl, by omega⟩
  · have hj : j < G.2.2.2.2.2.2.2.2 + 1 := hj
    have e1 : (giftAdd G k o f).2.2.2.1 j = G.2.2.2.1 j := pk_un e
    have e2 : gcN (giftAdd G k o f) j = gcN G j := by rw [gcN, e1]; rfl
    rw [e1, e2]
    exact h.2 j (by omega)
theorem rPostK_mono {tx : Nat → Int32} {e : Nat} {Z : ZT} {r : Nat} {k k' : Bool → ZT → Prop} (hz : zE e Z) (hr : Z.2.2.1.2.2.2.2.2.2.2 = r + 1) (h : ∀ b Z', zE e Z' → Z'.2.2.1.2.2.2.2.2.2.2 = r + 1 → k b Z' → k' b Z') (hk : rPostK tx Z r k) : rPostK tx Z r k' := by
  obtain ⟨hN, hB, hR, hL, hG⟩ := hz
  unfold rPostK at hk ⊢
  split
  · next c =>
    rw [if_pos c] at hk
    refine kwUseK_mono (nE_use (nE_step hN)) (fun v N hN hk => ?_) hk
    split
    · next c2 => rw [if_pos c2] at hk; exact h _ _ ⟨hN, hB, hR, hL, hG⟩ hr hk
    · next c2 => rw [if_neg c2] at hk; exact h _ _ ⟨hN, hB, rOk_post hR (by omega) c, hL, hG⟩ hr hk
  · next c => rw [if_neg c] at hk; exact h _ (zN Z (failF Z.1 5)) ⟨hN, hB, hR, hL, hG⟩ hr hk
theorem rCaseK_mono {tx : Nat → Int32} {e : Nat} {Z : ZT} {g : Nat} {k k' : Bool → ZT → Prop} (hz : zE e Z) (hg : Z.2.2.2.2.2.2.2.2.2.2.2.2 = g + 1) (h : ∀ b Z', zE e Z' → Z'.2.2.2.2.2.2.2.2.2.2.2.2 = g + 1 → k b Z' → k' b Z') (hk : rCaseK tx Z g k) : rCaseK tx Z g k' := by
  obtain ⟨hN, hB, hR, hL, hG⟩ := hz
  unfold rCaseK at hk ⊢
  split
  · next c =>
    rw [if_pos c] at hk
    have hN1 := nE_step (tx := tx) hN
    generalize stepF tx Z.1 = N at hk hN1 ⊢
    have two : ∀ pr v, nE e v.2 → rCase2 tx Z g pr v k → rCase2 tx Z g pr v k' := by
      intro pr v hv hk
      refine kwUseK_mono hv (fun o N hN hk => ?_) hk
      split
      · next c2 => rw [if_pos c2] at hk; exact h _ _ ⟨hN, hB, hR, hL, hG⟩ hg hk
      · next c2 => rw [if_neg c2] at hk; exact h _ _ ⟨hN, hB, hR, hL, gOk_case hG (by omega) c⟩ hg hk
    unfold rCase1 at hk ⊢
    split
    · next c2 =>
      rw [if_pos c2] at hk
      have hu := nE_use (tx := tx) (B := Z.2.1) (s := 0) (nE_step (tx := tx) hN1)
      unfold rCaseB at hk ⊢
      split
      · next c3 => rw [if_pos c3] at hk; exact h _ _ ⟨hu, hB, hR, hL, hG⟩ hg hk
      · next c3 => rw [if_neg c3] at hk; exact h _ _ ⟨hu, hB, hR, hL, gOk_case hG (by omega) c⟩ hg hk
    · next c2 =>
      rw [if_neg c2] at hk
      split
      · next c3 => rw [if_pos c3] at hk; exact two _ _ (nE_use (nE_step hN1)) hk
      · next c3 =>
        rw [if_neg c3] at hk
        split
        · next c4 => rw [if_pos c4] at hk; exact two _ _ (nE_use (nE_step hN1)) hk
        · next c4 => rw [if_neg c4] at hk; exact h _ (zN Z (failF N 1)) ⟨hN1, hB, hR, hL, hG⟩ hg hk
  · next c => rw [if_neg c] at hk; exact h _ (zN Z (failF Z.1 5)) ⟨hN, hB, hR, hL, hG⟩ hg hk
def rCasesK {α : Type} (tx : Nat → Int32) (g : Nat) (k : Bool → ZT → α) : Nat → ZT → α
  | 0, Z => k true Z
  | n + 1, Z => if seeB tx Z.1 (kb 9) = true then rCaseK tx Z g (fun b Z' => if b = true then rCasesK tx g k n Z' else k false Z') else k true Z
def rPostsK {α : Type} (tx : Nat → Int32) (r : Nat) (k : Bool → ZT → α) : Nat → ZT → α
  | 0, Z => k true Z
  | n + 1, Z => if seeB tx Z.1 (kb 7) = true then rPostK tx Z r (fun b Z' => if b = true then rPostsK tx r k n Z' else k false Z') else k true Z
def rGift3 {α : Type} (tx : Nat → Int32) (Z : ZT) (kd o f : Int32) (N : NT) (k : Bool → ZT → α) : α :=
  if f = -1 then k false (zN Z N) else rCasesK tx Z.2.2.2.2.2.2.2.2.2.2.2.2 k 4 (zG Z N (giftAdd Z.2.2.2.2 kd o f))
def rGift2 {α : Type} (tx : Nat → Int32) (Z : ZT) (v : Int32 × NT) (k : Bool → ZT → α) : α :=
  kwUseK tx Z.2.1 12 2 v (fun o N => kwNumK tx 17 0 400 o N (fun f N' => rGift3 tx Z v.1 o f N' k))
def rGiftK {α : Type} (tx : Nat → Int32) (Z : ZT) (k : Bool → ZT → α) : α :=
  if Z.2.2.2.2.2.2.2.2.2.2.2.2 < 12 then rGift2 tx Z (useF tx Z.2.1 (stepF tx Z.1) 3) k else k false (zN Z (failF Z.1 5))

def tX7_readGift : List q_I := [(0, .aload_n 0, 1, 0, 0), (1, .getfield 43, 3, 0, 0), (4, .getfield 186, 3, 0, 0), (7, .invokevirtual 190, 3, 0, 0), (10, .ifCond .ne 9, 3, 0, 19), (13, .aload_n 0, 1, 0, 0), (14, .iconst 5, 1, 5, 0), (15, .invokevirtual 83, 3, 0, 0), (18, .ireturn, 1, 0, 0), (19, .aload_n 0, 1, 0, 0), (20, .invokevirtual 73, 3, 0, 0), (23, .aload_n 0, 1, 0, 0), (24, .iconst 3, 1, 3, 0), (25, .invokevirtual 131, 3, 0, 0), (28, .istore_n 1, 1, 0, 0), (29, .iload_n 1, 1, 0, 0), (30, .iconst (-1), 1, (-1), 0), (31, .if_icmp .eq 20, 3, 0, 51), (34, .aload_n 0, 1, 0, 0), (35, .ldc 179, 2, 0, 0), (37, .invokevirtual 144, 3, 0, 0), (40, .ifCond .eq 11, 3, 0, 51), (43, .aload_n 0, 1, 0, 0), (44, .iconst 2, 1, 2, 0), (45, .invokevirtual 131, 3, 0, 0), (48, .goto 4, 3, 0, 52), (51, .iconst (-1), 1, (-1), 0), (52, .istore_n 2, 1, 0, 0), (53, .iload_n 2, 1, 0, 0), (54, .iconst (-1), 1, (-1), 0), (55, .if_icmp .eq 23, 3, 0, 78), (58, .aload_n 0, 1, 0, 0), (59, .ldc 193, 2, 0, 0), (61, .invokevirtual 144, 3, 0, 0), (64, .ifCond .eq 14, 3, 0, 78), (67, .aload_n 0, 1, 0, 0), (68, .iconst 0, 1, 0, 0), (69, .sipush 400, 3, 400, 0), (72, .invokevirtual 147, 3, 0, 0), (75, .goto 4, 3, 0, 79), (78, .iconst (-1), 1, (-1), 0), (79, .istore_n 3, 1, 0, 0), (80, .iload_n 3, 1, 0, 0), (81, .iconst (-1), 1, (-1), 0), (82, .if_icmp .ne 5, 3, 0, 87), (85, .iconst 0, 1, 0, 0), (86, .ireturn, 1, 0, 0), (87, .aload_n 0, 1, 0, 0), (88, .getfield 43, 3, 0, 0), (91, .getfield 186, 3, 0, 0), (94, .iload_n 1, 1, 0, 0), (95, .iload_n 2, 1, 0, 0), (96, .iload_n 3, 1, 0, 0), (97, .invokevirtual 195, 3, 0, 0), (100, .iconst 0, 1, 0, 0), (101, .istore 4, 2, 0, 0), (103, .iload 4, 2, 0, 0), (105, .iconst 3, 1, 3, 0), (106, .if_icmp .gt 27, 3, 0, 133), (109, .aload_n 0, 1, 0, 0), (110, .ldc 33, 2, 0, 0), (112, .invokevirtual 87, 3, 0, 0), (115, .ifCond .eq 18, 3, 0, 133), (118, .aload_n 0, 1, 0, 0), (119, .invokevirtual 198, 3, 0, 0), (122, .ifCond .ne 5, 3, 0, 127), (125, .iconst 0, 1, 0, 0), (126, .ireturn, 1, 0, 0), (127, .iinc 4 1, 3, 1, 0), (130, .goto (-27), 3, 0, 103), (133, .iconst 1, 1, 1, 0), (134, .ireturn, 1, 0, 0)]
theorem tX7_readGift_ok : (tX7_readGift.all (q_okI cX7_readGift)) = true := by decide +kernel

abbrev fdX7_readGift : List (Nat ⊕ (Nat × Nat)) := [.inl 0, .inr (0, 2), .inr (0, 3), .inr (0, 5), .inr (3, 0), .inr (3, 1), .inr (3, 2), .inr (3, 3), .inr (3, 5), .inr (8, 0), .inr (8, 1), .inr (8, 2), .inr (8, 3), .inr (8, 4), .inr (8, 5), .inr (8, 6), .inr (3, 6), .inr (16, 0), .inr (16, 1), .inr (16, 2), .inr (16, 3), .inr (16, 4), .inr (16, 5), .inr (16, 6), .inr (3, 7), .inr (24, 0), .inr (24, 1), .inr (24, 2), .inr (24, 3), .inr (24, 4), .inr (24, 5), .inr (24, 6), .inr (24, 7)]
def spX7_readGift : q_P := fun a w K => ∃ (tx : Nat → Int32) (Z : ZT), w = zW tx Z ∧ a = [.ref 0] ∧ zOk Z ∧ rGiftK tx Z (fun b Z' => K (.inl (some (.int (bI b)))) (zW tx Z'))
abbrev csX7_readGift : q_S := (1, 7, 7, 5, 0, 0, fdX7_readGift, spX7_readGift)
theorem coX7_190 (l : Launch) : q_CO l RX7 190 csX2_hasRoom := ⟨yX2_hasRoom, cX2_hasRoom, (some .boolean), 0, ⟨by decide +kernel, by decide +kernel, by decide +kernel⟩, q_G_i 5 (by decide +kernel) rfl, Or.inl ⟨by decide, rfl, rfl, q_G_i 681 (by decide +kernel) rfl, q_G_i 682 (by decide +kernel) rfl, q_G_i 683 (by decide +kernel) rfl, Or.inl ⟨q_G_i 684 (by decide +kernel) rfl, ctX2_hasRoom l⟩⟩⟩
theorem coX7_195 (l : Launch) : q_CO l RX7 195 csX2_add := ⟨yX2_add, cX2_add, none, 3, ⟨by decide +kernel, by decide +kernel, by decide +kernel⟩, q_G_i 5 (by decide +kernel) rfl, Or.inl ⟨by decide, rfl, rfl, q_G_i 686 (by decide +kernel) rfl, q_G_i 687 (by decide +kernel) rfl, q_G_i 688 (by decide +kernel) rfl, Or.inl ⟨q_G_i 689 (by decide +kernel) rfl, ctX2_add l⟩⟩⟩
theorem coX7_198 (l : Launch) : q_CO l RX7 198 csX7_readCase := ⟨yX7_readCase, cX7_readCase, (some .boolean), 0, ⟨by decide +kernel, by decide +kernel, by decide +kernel⟩, q_G_i 6 (by decide +kernel) rfl, Or.inl ⟨by decide, rfl, rfl, q_G_i 690 (by decide +kernel) rfl, q_G_i 692 (by decide +kernel) rfl, q_G_s (n := 13) 18 (by decide +kernel), Or.inl ⟨q_G_i 693 (by decide +kernel) rfl, ctX7_readCase l⟩⟩⟩
def EX7_readGift : q_E := (tX7_readGift, [(53, [0, 1, 2]), (80, [0, 1, 2, 3]), (103, [0, 4])], 5, flX7, [(190, csX2_hasRoom), (83, csX7_fail), (73, csX7_step), (131, csX7_use), (144, csX7_goBy), (147, csX7_number), (195, csX2_add), (87, csX7_sees), (198, csX7_readCase)], [], [], [(33, 9), (179, 12), (193, 17)], [], [], 7, 0, 0, (some .boolean), [], [], 0, 0)
theorem okX7_readGift (l : Launch) : q_Eok l RX7 cX7_readGift EX7_readGift := ⟨tX7_readGift_ok, flX7_ok, List.forall_mem_cons.mpr ⟨(coX7_190 l), List.forall_mem_cons.mpr ⟨(coX7_83 l), List.forall_mem_cons.mpr ⟨(coX7_73 l), List.forall_mem_cons.mpr ⟨(coX7_131 l), List.forall_mem_cons.mpr ⟨(coX7_144 l), List.forall_mem_cons.mpr ⟨(coX7_147 l), List.forall_mem_cons.mpr ⟨(coX7_195 l), List.forall_mem_cons.mpr ⟨(coX7_87 l), List.forall_mem_cons.mpr ⟨(coX7_198 l), q_nil⟩⟩⟩⟩⟩⟩⟩⟩⟩, q_nil, q_nil, List.forall_mem_cons.mpr ⟨⟨_, rfl, rfl, rfl⟩, List.forall_mem_cons.mpr ⟨⟨_, rfl, rfl, rfl⟩, List.forall_mem_cons.mpr ⟨⟨_, rfl, rfl, rfl⟩, q_nil⟩⟩⟩, q_nil, q_nil, (fun h => absurd h (by decide))⟩
set_option maxRecDepth 100000 in
set_option maxHeartbeats 4000000 in
theorem ctX7_readGift (l : Launch) : q_CT l yX7_readGift (.code yX7_readGift cX7_readGift 5 (some .boolean)) 7 0 0 spX7_readGift := by
  refine q_ct_of EX7_readGift (by decide +kernel) (okX7_readGift l) rfl rfl rfl rfl rfl q_nil (fun ci h => by cases h) rfl ?_
  intro a w K h
  obtain ⟨tx, Z, rfl, rfl, ⟨hN, hB, hR, hL, hG⟩, hK⟩ := h
  refine ⟨Nat.le_of_ble_eq_true rfl, fun C hC => hC _ _ _ _ _ _ ?_⟩
  have hN1 := (stepF_ok (tx := tx) hN).1
  refine ⟨Z.2.2.2.2, rfl, rfl, hG.1, And.intro (fun c => ?_) (fun c => ?_)⟩
  · have cG := of_decide_eq_true (bI_n0.mp c)
    rw [rGiftK, if_pos cG] at hK
    have loop : ∀ n i Z1, i + n = 4 → zOk Z1 → Z1.2.2.2.2.2.2.2.2.2.2.2.2 = Z.2.2.2.2.2.2.2.2.2.2.2.2 + 1 → rCasesK tx Z.2.2.2.2.2.2.2.2.2.2.2.2 (fun b Z' => K (.inl (some (.int (bI b)))) (zW tx Z')) n Z1 → C 103 [(0, .ref 0), (4, .int (nI i))] [] (zW tx Z1) 0 0 := by
      intro n
      induction n with
      | zero =>
        intro i Z1 hi hz hg hK
        refine hC _ _ _ _ _ _ ?_
        exact And.intro (fun _ => ⟨rfl, hK⟩) (fun c1 => absurd (nI_lt (a := 3) (b := i) (by omega) (by omega)) c1)
      | succ n ih =>
        intro i Z1 hi hz hg hK
        rw [rCasesK] at hK
        refine hC _ _ _ _ _ _ ?_
        refine And.intro (fun c1 => absurd c1 (nI_nlt (b := i) (a := 3) (by omega) (by omega))) (fun _ => ?_)
        refine ⟨by decide, tx, Z1.1, 9, _, rfl, rfl, rfl, hz.1, And.intro (fun c2 => ?_) (fun c2 => ?_)⟩
        · have c2 : seeB tx Z1.1 (kb 9) = false := bI_0.mp c2
          rw [if_neg (by rw [c2]; decide)] at hK
          exact ⟨rfl, hK⟩
        · have c2 : seeB tx Z1.1 (kb 9) = true := bI_n0.mp c2
          rw [if_pos c2] at hK
          refine ⟨tx, Z1, Z.2.2.2.2.2.2.2.2.2.2.2.2, rfl, rfl, hz, hg, rCaseK_mono (e := Z1.1.2.2.1) ⟨⟨hz.1, rfl⟩, hz.2⟩ hg (fun b Z' hz' hg' hk => ?_) hK⟩
          cases b with
          | true =>
            rw [if_pos rfl] at hk
            have h9 := ih (i + 1) Z' (by omega) hz'.ok hg' hk
            rw [← nI_1 i] at h9
            exact And.intro (fun _ => h9) (fun z => absurd z (by decide))
          | false =>
            rw [if_neg (by decide)] at hk
            exact And.intro (fun z => absurd rfl z) (fun _ => ⟨rfl, hk⟩)
    have at80 : ∀ (kd o f : Int32) (N : NT), nOk N → rGift3 tx Z kd o f N (fun b Z' => K (.inl (some (.int (bI b)))) (zW tx Z')) → C 80 [(0, .ref 0), (1, .int kd), (2, .int o), (3, .int f)] [] (zW tx (zN Z N)) 0 0 := by
      intro kd o f N hN hK
      refine hC _ _ _ _ _ _ (And.intro (fun c2 => ?_) (fun c2 => ?_))
      · rw [rGift3, if_neg c2] at hK
        refine ⟨Z.2.2.2.2, _, _, _, rfl, rfl, cG, ?_⟩
        exact loop 4 0 (zG Z N (giftAdd Z.2.2.2.2 kd o f)) rfl ⟨hN, hB, hR, hL, gOk_add hG cG⟩ rfl hK
      · have c2 : f = -1 := c2
        rw [rGift3, if_pos c2] at hK
        exact ⟨rfl, hK⟩
    have at53 : ∀ (kd o : Int32) (N : NT), nOk N → kwNumK tx 17 0 400 o N (fun f N' => rGift3 tx Z kd o f N' (fun b Z' => K (.inl (some (.int (bI b)))) (zW tx Z'))) → C 53 [(0, .ref 0), (1, .int kd), (2, .int o)] [] (zW tx (zN Z N)) 0 0 := by
      intro kd o N hN hK
      rw [kwNumK] at hK
      refine hC _ _ _ _ _ _ (And.intro (fun c2 => ?_) (fun c2 => ?_))
      · have c2 : o = -1 := c2
        rw [if_pos c2] at hK
        exact at80 kd o (-1) N hN hK
      · rw [if_neg c2] at hK
        refine ⟨by decide, tx, N, 17, _, rfl, rfl, rfl, hN, fun c3 => ?_, fun c3 => ?_⟩
        · have c3 : seeB tx N (kb 17) = true := c3
          rw [if_pos c3] at hK
          refine And.intro (fun z => absurd z (by decide)) (fun _ => ?_)
          exact ⟨tx, stepF tx N, _, _, rfl, rfl, (stepF_ok hN).1, at80 kd o _ _ (nOk_num (stepF_ok hN).1) hK⟩
        · have c3 : seeB tx N (kb 17) = false := c3
          rw [if_neg (by rw [c3]; decide)] at hK
          exact And.intro (fun _ => at80 kd o (-1) (failF N 1) hN hK) (fun z => absurd rfl z)
    refine ⟨tx, Z.1, rfl, rfl, hN.s, tx, stepF tx Z.1, Z.2.1, _, rfl, rfl, hN1, hB, ?_⟩
    have hN2 := nOk_use (tx := tx) (B := Z.2.1) (s := 3) hN1
    generalize useF tx Z.2.1 (stepF tx Z.1) 3 = v at hK hN2 ⊢
    rw [rGift2, kwUseK] at hK
    refine And.intro (fun c2 => ?_) (fun c2 => ?_)
    · rw [if_pos c2] at hK
      exact at53 v.1 (-1) v.2 hN2 hK
    · rw [if_neg c2] at hK
      refine ⟨by decide, tx, v.2, 12, _, rfl, rfl, rfl, hN2, fun c3 => ?_, fun c3 => ?_⟩
      · have c3 : seeB tx v.2 (kb 12) = true := c3
        rw [if_pos c3] at hK
        refine And.intro (fun z => absurd z (by decide)) (fun _ => ?_)
        exact ⟨tx, stepF tx v.2, Z.2.1, _, rfl, rfl, (stepF_ok hN2).1, hB, at53 v.1 _ _ (nOk_use (stepF_ok hN2).1) hK⟩
      · have c3 : seeB tx v.2 (kb 12) = false := c3
        rw [if_neg (by rw [c3]; decide)] at hK
        exact And.intro (fun _ => at53 v.1 (-1) (failF v.2 1) hN2 hK) (fun z => absurd rfl z)
  · rw [rGiftK, if_neg (of_decide_eq_false (bI_0.mp c))] at hK
    exact ⟨tx, Z.1, _, rfl, rfl, rfl, hK⟩
end
section
def rRoad3 {α : Type} (tx : Nat → Int32) (Z : ZT) (a b d c : Int32) (N : NT) (k : Bool → ZT → α) : α :=
  if c = -1 then k false (zN Z N) else rPostsK tx Z.2.2.1.2.2.2.2.2.2.2 k 4 (zR Z N (roadAdd Z.2.2.1 a b d c))
def rRoad2 {α : Type} (tx : Nat → Int32) (Z : ZT) (a p : Int32) (v : Int32 × NT) (k : Bool → ZT → α) : α :=
  if v.1 = -1 then k false (zN Z v.2) else if v.1 = a then k false (zN Z (failAtF v.2 3 p))
  else kwNumK tx 14 1 60 0 v.2 (fun d N => kwNumK tx 15 0 999 d N (fun c N' => rRoad3 tx Z a v.1 d c N' k))
def rRoad1 {α : Type} (tx : Nat → Int32) (Z : ZT) (u : Int32 × NT) (k : Bool → ZT → α) : α :=
  if u.1 = -1 then rRoad2 tx Z u.1 (nI u.2.2.2.2.2.2.2.1) (-1, u.2) k else rRoad2 tx Z u.1 (nI u.2.2.2.2.2.2.2.1) (useF tx Z.2.1 u.2 0) k
def rRoadK {α : Type} (tx : Nat → Int32) (Z : ZT) (k : Bool → ZT → α) : α :=
  if Z.2.2.1.2.2.2.2.2.2.2 < 16 then rRoad1 tx Z (useF tx Z.2.1 (stepF tx Z.1) 0) k else k false (zN Z (failF Z.1 5))

def tX7_readRoad : List q_I := [(0, .aload_n 0, 1, 0, 0), (1, .getfield 43, 3, 0, 0), (4, .getfield 123, 3, 0, 0), (7, .invokevirtual 127, 3, 0, 0), (10, .ifCond .ne 9, 3, 0, 19), (13, .aload_n 0, 1, 0, 0), (14, .iconst 5, 1, 5, 0), (15, .invokevirtual 83, 3, 0, 0), (18, .ireturn, 1, 0, 0), (19, .aload_n 0, 1, 0, 0), (20, .invokevirtual 73, 3, 0, 0), (23, .aload_n 0, 1, 0, 0), (24, .iconst 0, 1, 0, 0), (25, .invokevirtual 131, 3, 0, 0), (28, .istore_n 1, 1, 0, 0), (29, .aload_n 0, 1, 0, 0), (30, .getfield 135, 3, 0, 0), (33, .istore_n 2, 1, 0, 0), (34, .iload_n 1, 1, 0, 0), (35, .iconst (-1), 1, (-1), 0), (36, .if_icmp .ne 7, 3, 0, 43), (39, .iconst (-1), 1, (-1), 0), (40, .goto 8, 3, 0, 48), (43, .aload_n 0, 1, 0, 0), (44, .iconst 0, 1, 0, 0), (45, .invokevirtual 131, 3, 0, 0), (48, .istore_n 3, 1, 0, 0), (49, .iload_n 3, 1, 0, 0), (50, .iconst (-1), 1, (-1), 0), (51, .if_icmp .ne 5, 3, 0, 56), (54, .iconst 0, 1, 0, 0), (55, .ireturn, 1, 0, 0), (56, .iload_n 3, 1, 0, 0), (57, .iload_n 1, 1, 0, 0), (58, .if_icmp .ne 10, 3, 0, 68), (61, .aload_n 0, 1, 0, 0), (62, .iconst 3, 1, 3, 0), (63, .iload_n 2, 1, 0, 0), (64, .invokevirtual 138, 3, 0, 0), (67, .ireturn, 1, 0, 0), (68, .aload_n 0, 1, 0, 0), (69, .ldc 142, 2, 0, 0), (71, .invokevirtual 144, 3, 0, 0), (74, .ifCond .eq 13, 3, 0, 87), (77, .aload_n 0, 1, 0, 0), (78, .iconst 1, 1, 1, 0), (79, .bipush 60, 2, 60, 0), (81, .invokevirtual 147, 3, 0, 0), (84, .goto 4, 3, 0, 88), (87, .iconst (-1), 1, (-1), 0), (88, .istore 4, 2, 0, 0), (90, .iload 4, 2, 0, 0), (92, .iconst (-1), 1, (-1), 0), (93, .if_icmp .eq 23, 3, 0, 116), (96, .aload_n 0, 1, 0, 0), (97, .ldc 150, 2, 0, 0), (99, .invokevirtual 144, 3, 0, 0), (102, .ifCond .eq 14, 3, 0, 116), (105, .aload_n 0, 1, 0, 0), (106, .iconst 0, 1, 0, 0), (107, .sipush 999, 3, 999, 0), (110, .invokevirtual 147, 3, 0, 0), (113, .goto 4, 3, 0, 117), (116, .iconst (-1), 1, (-1), 0), (117, .istore 5, 2, 0, 0), (119, .iload 5, 2, 0, 0), (121, .iconst (-1), 1, (-1), 0), (122, .if_icmp .ne 5, 3, 0, 127), (125, .iconst 0, 1, 0, 0), (126, .ireturn, 1, 0, 0), (127, .aload_n 0, 1, 0, 0), (128, .getfield 43, 3, 0, 0), (131, .getfield 123, 3, 0, 0), (134, .iload_n 1, 1, 0, 0), (135, .iload_n 3, 1, 0, 0), (136, .iload 4, 2, 0, 0), (138, .iload 5, 2, 0, 0), (140, .invokevirtual 152, 3, 0, 0), (143, .iconst 0, 1, 0, 0), (144, .istore 6, 2, 0, 0), (146, .iload 6, 2, 0, 0), (148, .iconst 3, 1, 3, 0), (149, .if_icmp .gt 27, 3, 0, 176), (152, .aload_n 0, 1, 0, 0), (153, .ldc 29, 2, 0, 0), (155, .invokevirtual 87, 3, 0, 0), (158, .ifCond .eq 18, 3, 0, 176), (161, .aload_n 0, 1, 0, 0), (162, .invokevirtual 156, 3, 0, 0), (165, .ifCond .ne 5, 3, 0, 170), (168, .iconst 0, 1, 0, 0), (169, .ireturn, 1, 0, 0), (170, .iinc 6 1, 3, 1, 0), (173, .goto (-27), 3, 0, 146), (176, .iconst 1, 1, 1, 0), (177, .ireturn, 1, 0, 0)]
theorem tX7_readRoad_ok : (tX7_readRoad.all (q_okI cX7_readRoad)) = true := by decide +kernel

abbrev fdX7_readRoad : List (Nat ⊕ (Nat × Nat)) := [.inl 0, .inr (0, 2), .inr (0, 3), .inr (0, 5), .inr (3, 0), .inr (3, 1), .inr (3, 2), .inr (3, 3), .inr (3, 5), .inr (8, 0), .inr (8, 1), .inr (8, 2), .inr (8, 3), .inr (8, 4), .inr (8, 5), .inr (8, 6), .inr (3, 6), .inr (16, 0), .inr (16, 1), .inr (16, 2), .inr (16, 3), .inr (16, 4), .inr (16, 5), .inr (16, 6), .inr (3, 7), .inr (24, 0), .inr (24, 1), .inr (24, 2), .inr (24, 3), .inr (24, 4), .inr (24, 5), .inr (24, 6), .inr (24, 7)]
def spX7_readRoad : q_P := fun a w K => ∃ (tx : Nat → Int32) (Z : ZT), w = zW tx Z ∧ a = [.ref 0] ∧ zOk Z ∧ rRoadK tx Z (fun b Z' => K (.inl (some (.int (bI b)))) (zW tx Z'))
abbrev csX7_readRoad : q_S := (1, 7, 7, 7, 0, 0, fdX7_readRoad, spX7_readRoad)
theorem coX7_127 (l : Launch) : q_CO l RX7 127 csX8_hasRoom := ⟨yX8_hasRoom, cX8_hasRoom, (some .boolean), 0, ⟨by decide +kernel, by decide +kernel, by decide +kernel⟩, q_G_i 3 (by decide +kernel) rfl, Or.inl ⟨by decide, rfl, rfl, q_G_i 654 (by decide +kernel) rfl, q_G_i 655 (by decide +kernel) rfl, q_G_i 656 (by decide +kernel) rfl, Or.inl ⟨q_G_i 657 (by decide +kernel) rfl, ctX8_hasRoom l⟩⟩⟩
theorem coX7_152 (l : Launch) : q_CO l RX7 152 csX8_add := ⟨yX8_add, cX8_add, none, 4, ⟨by decide +kernel, by decide +kernel, by decide +kernel⟩, q_G_i 3 (by decide +kernel) rfl, Or.inl ⟨by decide, rfl, rfl, q_G_i 660 (by decide +kernel) rfl, q_G_i 661 (by decide +kernel) rfl, q_G_i 662 (by decide +kernel) rfl, Or.inl ⟨q_G_i 663 (by decide +kernel) rfl, ctX8_add l⟩⟩⟩
theorem coX7_156 (l : Launch) : q_CO l RX7 156 csX7_readPost := ⟨yX7_readPost, cX7_readPost, (some .boolean), 0, ⟨by decide +kernel, by decide +kernel, by decide +kernel⟩, q_G_i 6 (by decide +kernel) rfl, Or.inl ⟨by decide, rfl, rfl, q_G_i 664 (by decide +kernel) rfl, q_G_i 666 (by decide +kernel) rfl, q_G_s (n := 13) 16 (by decide +kernel), Or.inl ⟨q_G_i 667 (by decide +kernel) rfl, ctX7_readPost l⟩⟩⟩
def EX7_readRoad : q_E := (tX7_readRoad, [(49, [0, 1, 2, 3]), (90, [0, 1, 3, 4]), (119, [0, 1, 3, 4, 5]), (146, [0, 6])], 7, flX7, [(127, csX8_hasRoom), (83, csX7_fail), (73, csX7_step), (131, csX7_use), (138, csX7_failAt), (144, csX7_goBy), (147, csX7_number), (152, csX8_add), (87, csX7_sees), (156, csX7_readPost)], [], [], [(29, 7), (142, 14), (150, 15)], [], [], 7, 0, 0, (some .boolean), [], [], 0, 0)
theorem okX7_readRoad (l : Launch) : q_Eok l RX7 cX7_readRoad EX7_readRoad := ⟨tX7_readRoad_ok, flX7_ok, List.forall_mem_cons.mpr ⟨(coX7_127 l), List.forall_mem_cons.mpr ⟨(coX7_83 l), List.forall_mem_cons.mpr ⟨(coX7_73 l), List.forall_mem_cons.mpr ⟨(coX7_131 l), List.forall_mem_cons.mpr ⟨(coX7_138 l), List.forall_mem_cons.mpr ⟨(coX7_144 l), List.forall_mem_cons.mpr ⟨(coX7_147 l), List.forall_mem_cons.mpr ⟨(coX7_152 l), List.forall_mem_cons.mpr ⟨(coX7_87 l), List.forall_mem_cons.mpr ⟨(coX7_156 l), q_nil⟩⟩⟩⟩⟩⟩⟩⟩⟩⟩, q_nil, q_nil, List.forall_mem_cons.mpr ⟨⟨_, rfl, rfl, rfl⟩, List.forall_mem_cons.mpr ⟨⟨_, rfl, rfl, rfl⟩, List.forall_mem_cons.mpr ⟨⟨_, rfl, rfl, rfl⟩, q_nil⟩⟩⟩, q_nil, q_nil, (fun h => absurd h (by decide))⟩
set_option maxRecDepth 100000 in
set_option maxHeartbeats 4000000 in
theorem ctX7_readRoad (l : Launch) : q_CT l yX7_readRoad (.code yX7_readRoad cX7_readRoad 7 (some .boolean)) 7 0 0 spX7_readRoad := by
  refine q_ct_of EX7_readRoad (by decide +kernel) (okX7_readRoad l) rfl rfl rfl rfl rfl q_nil (fun ci h => by cases h) rfl ?_
  intro a w K h
  obtain ⟨tx, Z, rfl, rfl, ⟨hN, hB, hR, hL, hG⟩, hK⟩ := h
  refine ⟨Nat.le_of_ble_eq_true rfl, fun C hC => hC _ _ _ _ _ _ ?_⟩
  have hN1 := (stepF_ok (tx := tx) hN).1
  refine ⟨Z.2.2.1, rfl, rfl, hR.1, And.intro (fun c => ?_) (fun c => ?_)⟩
  · have cR := of_decide_eq_true (bI_n0.mp c)
    rw [rRoadK, if_pos cR] at hK
    have loop : ∀ n i Z1, i + n = 4 → zOk Z1 → Z1.2.2.1.2.2.2.2.2.2.2 = Z.2.2.1.2.2.2.2.2.2.2 + 1 → rPostsK tx Z.2.2.1.2.2.2.2.2.2.2 (fun b Z' => K (.inl (some (.int (bI b)))) (zW tx Z')) n Z1 → C 146 [(0, .ref 0), (6, .int (nI i))] [] (zW tx Z1) 0 0 := by
      intro n
      induction n with
      | zero =>
        intro i Z1 hi hz hg hK
        refine hC _ _ _ _ _ _ ?_
        exact And.intro (fun _ => ⟨rfl, hK⟩) (fun c1 => absurd (nI_lt (a := 3) (b := i) (by omega) (by omega)) c1)
      | succ n ih =>
        intro i Z1 hi hz hg hK
        rw [rPostsK] at hK
        refine hC _ _ _ _ _ _ ?_
        refine And.intro (fun c1 => absurd c1 (nI_nlt (b := i) (a := 3) (by omega) (by omega))) (fun _ => ?_)
        refine ⟨by decide, tx, Z1.1, 7, _, rfl, rfl, rfl, hz.1, And.intro (fun c2 => ?_) (fun c2 => ?_)⟩
        · have c2 : seeB tx Z1.1 (kb 7) = false := bI_0.mp c2
          rw [if_neg (by rw [c2]; decide)] at hK
          exact ⟨rfl, hK⟩
        · have c2 : seeB tx Z1.1 (kb 7) = true := bI_n0.mp c2
          rw [if_pos c2] at hK
          refine ⟨tx, Z1, Z.2.2.1.2.2.2.2.2.2.2, rfl, rfl, hz, hg, rPostK_mono (e := Z1.1.2.2.1) ⟨⟨hz.1, rfl⟩, hz.2⟩ hg (fun b Z' hz' hg' hk => ?_) hK⟩
          cases b with
          | true =>
            rw [if_pos rfl] at hk
            have h9 := ih (i + 1) Z' (by omega) hz'.ok hg' hk
            rw [← nI_1 i] at h9
            exact And.intro (fun _ => h9) (fun z => absurd z (by decide))
          | false =>
            rw [if_neg (by decide)] at hk
            exact And.intro (fun z => absurd rfl z) (fun _ => ⟨rfl, hk⟩)
    have at119 : ∀ (a b d c : Int32) (N : NT), nOk N → rRoad3 tx Z a b d c N (fun b Z' => K (.inl (some (.int (bI b)))) (zW tx Z')) → C 119 [(0, .ref 0), (1, .int a), (3, .int b), (4, .int d), (5, .int c)] [] (zW tx (zN Z N)) 0 0 := by
      intro a b d c N hN hK
      refine hC _ _ _ _ _ _ (And.intro (fun c2 => ?_) (fun c2 => ?_))
      · rw [rRoad3, if_neg c2] at hK
        refine ⟨Z.2.2.1, _, _, _, _, rfl, rfl, cR, ?_⟩
        exact loop 4 0 (zR Z N (roadAdd Z.2.2.1 a b d c)) rfl ⟨hN, hB, rOk_add hR cR, hL, hG⟩ rfl hK
      · have c2 : c = -1 := c2
        rw [rRoad3, if_pos c2] at hK
        exact ⟨rfl, hK⟩
    have at90 : ∀ (a b d : Int32) (N : NT), nOk N → kwNumK tx 15 0 999 d N (fun c N' => rRoad3 tx Z a b d c N' (fun b Z' => K (.inl (some (.int (bI b)))) (zW tx Z'))) → C 90 [(0, .ref 0), (1, .int a), (3, .int b), (4, .int d)] [] (zW tx (zN Z N)) 0 0 := by
      intro a b d N hN hK
      rw [kwNumK] at hK
      refine hC _ _ _ _ _ _ (And.intro (fun c2 => ?_) (fun c2 => ?_))
      · have c2 : d = -1 := c2
        rw [if_pos c2] at hK
        exact at119 a b d (-1) N hN hK
      · rw [if_neg c2] at hK
        refine ⟨by decide, tx, N, 15, _, rfl, rfl, rfl, hN, fun c3 => ?_, fun c3 => ?_⟩
        · have c3 : seeB tx N (kb 15) = true := c3
          rw [if_pos c3] at hK
          refine And.intro (fun z => absurd z (by decide)) (fun _ => ?_)
          exact ⟨tx, stepF tx N, _, _, rfl, rfl, (stepF_ok hN).1, at119 a b d _ _ (nOk_num (stepF_ok hN).1) hK⟩
        · have c3 : seeB tx N (kb 15) = false := c3
          rw [if_neg (by rw [c3]; decide)] at hK
          exact And.intro (fun _ => at119 a b d (-1) (failF N 1) hN hK) (fun z => absurd rfl z)
    have at49 : ∀ (a p : Int32) (v : Int32 × NT), nOk v.2 → rRoad2 tx Z a p v (fun b Z' => K (.inl (some (.int (bI b)))) (zW tx Z')) → C 49 [(0, .ref 0), (1, .int a), (2, .int p), (3, .int v.1)] [] (zW tx (zN Z v.2)) 0 0 := by
      intro a p v hv hK
      rw [rRoad2] at hK
      refine hC _ _ _ _ _ _ (And.intro (fun c2 => ?_) (fun c2 => ?_))
      · rw [if_neg c2] at hK
        refine And.intro (fun c3 => ?_) (fun c3 => ?_)
        · have c3 : ¬ v.1 = a := c3
          rw [if_neg c3, kwNumK, if_neg (by decide)] at hK
          refine ⟨by decide, tx, v.2, 14, _, rfl, rfl, rfl, hv, fun c4 => ?_, fun c4 => ?_⟩
          · have c4 : seeB tx v.2 (kb 14) = true := c4
            rw [if_pos c4] at hK
            refine And.intro (fun z => absurd z (by decide)) (fun _ => ?_)
            exact ⟨tx, stepF tx v.2, _, _, rfl, rfl, (stepF_ok hv).1, at90 a v.1 _ _ (nOk_num (stepF_ok hv).1) hK⟩
          · have c4 : seeB tx v.2 (kb 14) = false := c4
            rw [if_neg (by rw [c4]; decide)] at hK
            exact And.intro (fun _ => at90 a v.1 (-1) (failF v.2 1) hv hK) (fun z => absurd rfl z)
        · have c3 : v.1 = a := c3
          rw [if_pos c3] at hK
          exact ⟨tx, v.2, _, _, rfl, rfl, rfl, hK⟩
      · have c2 : v.1 = -1 := c2
        rw [if_pos c2] at hK
        exact ⟨rfl, hK⟩
    refine ⟨tx, Z.1, rfl, rfl, hN.s, tx, stepF tx Z.1, Z.2.1, _, rfl, rfl, hN1, hB, ?_⟩
    have hN2 := nOk_use (tx := tx) (B := Z.2.1) (s := 0) hN1
    generalize useF tx Z.2.1 (stepF tx Z.1) 0 = u at hK hN2 ⊢
    rw [rRoad1] at hK
    refine And.intro (fun c2 => ?_) (fun c2 => ?_)
    · rw [if_neg c2] at hK
      exact ⟨tx, u.2, Z.2.1, _, rfl, rfl, hN2, hB, at49 u.1 _ _ (nOk_use hN2) hK⟩
    · have c2 : u.1 = -1 := c2
      rw [if_pos c2] at hK
      exact at49 u.1 _ (-1, u.2) hN2 hK
  · rw [rRoadK, if_neg (of_decide_eq_false (bI_0.mp c))] at hK
    exact ⟨tx, Z.1, _, rfl, rfl, rfl, hK⟩
theorem rNameK_mono {tx : Nat → Int32} {e : Nat} {Z : ZT} {s : Nat} {k k' : Bool → ZT → Prop} (hz : zE e Z) (h : ∀ b Z', zE e Z' → k b Z' → k' b Z') (hk : rNameK tx Z s k) : rNameK tx Z s k' := by
  obtain ⟨hN, hB, hR, hL, hG⟩ := hz
  have hN1 := nE_step (tx := tx) hN
  unfold rNameK at hk ⊢
  split
  · next c =>
    rw [if_pos c] at hk
    split
    · next c2 =>
      rw [if_pos c2] at hk
      split
      · next c3 => rw [if_pos c3] at hk; exact h _ (zB Z _ _) ⟨nE_step hN1, c.1, hR, hL, hG⟩ hk
      · next c3 => rw [if_neg c3] at hk; exact h _ (zN Z (failF (stepF tx Z.1) 3)) ⟨hN1, hB, hR, hL, hG⟩ hk
    · next c2 => rw [if_neg c2] at hk; exact h _ (zN Z (failF (stepF tx Z.1) 1)) ⟨hN1, hB, hR, hL, hG⟩ hk
  · next c => rw [if_neg c] at hk; exact h _ (zN Z (failF Z.1 5)) ⟨hN, hB, hR, hL, hG⟩ hk
theorem rLawK_mono {tx : Nat → Int32} {e : Nat} {Z : ZT} {k k' : Bool → ZT → Prop} (hz : zE e Z) (h : ∀ b Z', zE e Z' → k b Z' → k' b Z') (hk : rLawK tx Z k) : rLawK tx Z k' := by
  obtain ⟨hN, hB, hR, hL, hG⟩ := hz
  have hN1 := nE_step (tx := tx) hN
  unfold rLawK at hk ⊢
  split
  · next c =>
    rw [if_pos c] at hk
    have four : ∀ ld ac kd o si (u : Int32 × NT), nE e u.2 → rLaw4 Z ld ac kd o si u k → rLaw4 Z ld ac kd o si u k' := by
      intro ld ac kd o si u hu hk
      unfold rLaw4 at hk ⊢
      split
      · next c2 => rw [if_pos c2] at hk; exact h _ (zN Z u.2) ⟨hu, hB, hR, hL, hG⟩ hk
      · next c2 => rw [if_neg c2] at hk; exact h _ (zL Z u.2 _) ⟨hu, hB, hR, c, hG⟩ hk
    have two : ∀ ld ac (v : Int32 × NT), nE e v.2 → rLaw2 tx Z ld ac v k → rLaw2 tx Z ld ac v k' := by
      intro ld ac v hv hk
      refine kwUseK_mono hv (fun o N hN hk => kwNumK_mono hN (fun si N' hN' hk => ?_) hk) hk
      unfold rLaw3 at hk ⊢
      split
      · next c2 => rw [if_pos c2] at hk; exact h _ (zN Z N') ⟨hN', hB, hR, hL, hG⟩ hk
      · next c2 =>
        rw [if_neg c2] at hk
        split
        · next c3 => rw [if_pos c3] at hk; exact four _ _ _ _ _ _ (nE_num (nE_step hN')) hk
        · next c3 => rw [if_neg c3] at hk; exact four _ _ _ _ _ (999, N') hN' hk
    have hu := nE_use (tx := tx) (B := Z.2.1) (s := 1) hN1
    unfold rLaw1 at hk ⊢
    split
    · next c2 => rw [if_pos c2] at hk; exact h _ (zN Z _) ⟨hu, hB, hR, hL, hG⟩ hk
    · next c2 =>
      rw [if_neg c2] at hk
      split
      · next c3 => rw [if_pos c3] at hk; exact two _ _ _ (nE_use (nE_step hu)) hk
      · next c3 =>
        rw [if_neg c3] at hk
        split
        · next c4 => rw [if_pos c4] at hk; exact two _ _ _ (nE_use (nE_step hu)) hk
        · next c4 => rw [if_neg c4] at hk; exact h _ (zN Z (failF (useF tx Z.2.1 (stepF tx Z.1) 1).2 1)) ⟨hu, hB, hR, hL, hG⟩ hk
  · next c => rw [if_neg c] at hk; exact h _ (zN Z (failF Z.1 5)) ⟨hN, hB, hR, hL, hG⟩ hk
theorem rCasesK_mono {tx : Nat → Int32} {e g : Nat} {k k' : Bool → ZT → Prop} (h : ∀ b Z', zE e Z' → k b Z' → k' b Z') : ∀ (n : Nat) (Z : ZT), zE e Z → Z.2.2.2.2.2.2.2.2.2.2.2.2 = g + 1 → rCasesK tx g k n Z → rCasesK tx g k' n Z
  | 0, Z, hz, _, hk => h _ _ hz hk
  | n + 1, Z, hz, hg, hk => by
    rw [rCasesK] at hk ⊢
    split
    · next c =>
      rw [if_pos c] at hk
      refine rCaseK_mono hz hg (fun b Z' hz' hg' hk => ?_) hk
      cases b with
      | true => exact rCasesK_mono h n Z' hz' hg' hk
      | false => exact h _ _ hz' hk
    · next c => rw [if_neg c] at hk; exact h _ _ hz hk
theorem rPostsK_mono {tx : Nat → Int32} {e r : Nat} {k k' : Bool → ZT → Prop} (h : ∀ b Z', zE e Z' → k b Z' → k' b Z') : ∀ (n : Nat) (Z : ZT), zE e Z → Z.2.2.1.2.2.2.2.2.2.2 = r + 1 → rPostsK tx r k n Z → rPostsK tx r k' n Z
  | 0, Z, hz, _, hk => h _ _ hz hk
  | n + 1, Z, hz, hg, hk => by
    rw [rPostsK] at hk ⊢
    split
    · next c =>
      rw [if_pos c] at hk
      refine rPostK_mono hz hg (fun b Z' hz' hg' hk => ?_) hk
      cases b with
      | true => exact rPostsK_mono h n Z' hz' hg' hk
      | false => exact h _ _ hz' hk
    · next c => rw [if_neg c] at hk; exact h _ _ hz hk
theorem rGiftK_mono {tx : Nat → Int32} {e : Nat} {Z : ZT} {k k' : Bool → ZT → Prop} (hz : zE e Z) (h : ∀ b Z', zE e Z' → k b Z' → k' b Z') (hk : rGiftK tx Z k) : rGiftK tx Z k' := by
  obtain ⟨hN, hB, hR, hL, hG⟩ := hz
  unfold rGiftK at hk ⊢
  split
  · next c =>
    rw [if_pos c] at hk
    refine kwUseK_mono (nE_use (nE_step hN)) (fun o N hN hk => kwNumK_mono hN (fun f N' hN' hk => ?_) hk) hk
    unfold rGift3 at hk ⊢
    split
    · next c2 => rw [if_pos c2] at hk; exact h _ (zN Z N') ⟨hN', hB, hR, hL, hG⟩ hk
    · next c2 => rw [if_neg c2] at hk; exact rCasesK_mono h 4 (zG Z N' _) ⟨hN', hB, hR, hL, gOk_add hG c⟩ rfl hk
  · next c => rw [if_neg c] at hk; exact h _ (zN Z (failF Z.1 5)) ⟨hN, hB, hR, hL, hG⟩ hk
theorem rRoadK_mono {tx : Nat → Int32} {e : Nat} {Z : ZT} {k k' : Bool → ZT → Prop} (hz : zE e Z) (h : ∀ b Z', zE e Z' → k b Z' → k' b Z') (hk : rRoadK tx Z k) : rRoadK tx Z k' := by
  obtain ⟨hN, hB, hR, hL, hG⟩ := hz
  unfold rRoadK at hk ⊢
  split
  · next c =>
    rw [if_pos c] at hk
    have two : ∀ a p (v : Int32 × NT), nE e v.2 → rRoad2 tx Z a p v k → rRoad2 tx Z a p v k' := by
      intro a p v hv hk
      unfold rRoad2 at hk ⊢
      split
      · next c2 => rw [if_pos c2] at hk; exact h _ (zN Z v.2) ⟨hv, hB, hR, hL, hG⟩ hk
      · next c2 =>
        rw [if_neg c2] at hk
        split
        · next c3 => rw [if_pos c3] at hk; exact h _ (zN Z (failAtF v.2 3 p)) ⟨hv, hB, hR, hL, hG⟩ hk
        · next c3 =>
          rw [if_neg c3] at hk
          refine kwNumK_mono hv (fun d N hN hk => kwNumK_mono hN (fun cc N' hN' hk => ?_) hk) hk
          unfold rRoad3 at hk ⊢
          split
          · next c4 => rw [if_pos c4] at hk; exact h _ (zN Z N') ⟨hN', hB, hR, hL, hG⟩ hk
          · next c4 => rw [if_neg c4] at hk; exact rPostsK_mono h 4 (zR Z N' _) ⟨hN', hB, rOk_add hR c, hL, hG⟩ rfl hk
    have hu := nE_use (tx := tx) (B := Z.2.1) (s := 0) (nE_step (tx := tx) hN)
    unfold rRoad1 at hk ⊢
    split
    · next c2 => rw [if_pos c2] at hk; exact two _ _ (-1, _) hu hk
    · next c2 => rw [if_neg c2] at hk; exact two _ _ _ (nE_use hu) hk
  · next c => rw [if_neg c] at hk; exact h _ (zN Z (failF Z.1 5)) ⟨hN, hB, hR, hL, hG⟩ hk
end
section
def rLineB {α : Type} (tx : Nat → Int32) (Z : ZT) (k : Bool → ZT → α) : α :=
  if seeB tx Z.1 (kb 1) = true then rNameK tx Z 0 k else
  if seeB tx Z.1 (kb 2) = true then rNameK tx Z 1 k else
  if seeB tx Z.1 (kb 3) = true then rNameK tx Z 2 k else
  if seeB tx Z.1 (kb 4) = true then rNameK tx Z 3 k else
  if seeB tx Z.1 (kb 5) = true then rRoadK tx Z k else
  if seeB tx Z.1 (kb 6) = true then rGiftK tx Z k else
  k false (zN Z (failF Z.1 1))
def rLineK {α : Type} (tx : Nat → Int32) (Z : ZT) (k : Bool → ZT → α) : α :=
  if seeB tx Z.1 (kb 0) = true then rLawK tx Z k else if Z.1.2.2.2.2.1 = 0 then rLineB tx Z k else k false (zN Z (failF Z.1 1))
theorem rLineK_mono {tx : Nat → Int32} {e : Nat} {Z : ZT} {k k' : Bool → ZT → Prop} (hz : zE e Z) (h : ∀ b Z', zE e Z' → k b Z' → k' b Z') (hk : rLineK tx Z k) : rLineK tx Z k' := by
  unfold rLineK at hk ⊢
  split
  · next c => rw [if_pos c] at hk; exact rLawK_mono hz h hk
  next c =>
  rw [if_neg c] at hk
  split
  · next c2 =>
    rw [if_pos c2] at hk
    unfold rLineB at hk ⊢
    split
    · next c3 => rw [if_pos c3] at hk; exact rNameK_mono hz h hk
    next c3 =>
    rw [if_neg c3] at hk
    split
    · next c3 => rw [if_pos c3] at hk; exact rNameK_mono hz h hk
    next c3 =>
    rw [if_neg c3] at hk
    split
    · next c3 => rw [if_pos c3] at hk; exact rNameK_mono hz h hk
    next c3 =>
    rw [if_neg c3] at hk
    split
    · next c3 => rw [if_pos c3] at hk; exact rNameK_mono hz h hk
    next c3 =>
    rw [if_neg c3] at hk
    split
    · next c3 => rw [if_pos c3] at hk; exact rRoadK_mono hz h hk
    next c3 =>
    rw [if_neg c3] at hk
    split
    · next c3 => rw [if_pos c3] at hk; exact rGiftK_mono hz h hk
    next c3 =>
    rw [if_neg c3] at hk
    exact h _ (zN Z (failF Z.1 1)) hz hk
  · next c2 => rw [if_neg c2] at hk; exact h _ (zN Z (failF Z.1 1)) hz hk

def tX7_readLine : List q_I := [(0, .aload_n 0, 1, 0, 0), (1, .ldc 25, 2, 0, 0), (3, .invokevirtual 87, 3, 0, 0), (6, .ifCond .eq 8, 3, 0, 14), (9, .aload_n 0, 1, 0, 0), (10, .invokevirtual 91, 3, 0, 0), (13, .ireturn, 1, 0, 0), (14, .aload_n 0, 1, 0, 0), (15, .getfield 57, 3, 0, 0), (18, .ifCond .eq 9, 3, 0, 27), (21, .aload_n 0, 1, 0, 0), (22, .iconst 1, 1, 1, 0), (23, .invokevirtual 83, 3, 0, 0), (26, .ireturn, 1, 0, 0), (27, .aload_n 0, 1, 0, 0), (28, .ldc 9, 2, 0, 0), (30, .invokevirtual 87, 3, 0, 0), (33, .ifCond .eq 9, 3, 0, 42), (36, .aload_n 0, 1, 0, 0), (37, .iconst 0, 1, 0, 0), (38, .invokevirtual 94, 3, 0, 0), (41, .ireturn, 1, 0, 0), (42, .aload_n 0, 1, 0, 0), (43, .ldc 17, 2, 0, 0), (45, .invokevirtual 87, 3, 0, 0), (48, .ifCond .eq 9, 3, 0, 57), (51, .aload_n 0, 1, 0, 0), (52, .iconst 1, 1, 1, 0), (53, .invokevirtual 94, 3, 0, 0), (56, .ireturn, 1, 0, 0), (57, .aload_n 0, 1, 0, 0), (58, .ldc 19, 2, 0, 0), (60, .invokevirtual 87, 3, 0, 0), (63, .ifCond .eq 9, 3, 0, 72), (66, .aload_n 0, 1, 0, 0), (67, .iconst 2, 1, 2, 0), (68, .invokevirtual 94, 3, 0, 0), (71, .ireturn, 1, 0, 0), (72, .aload_n 0, 1, 0, 0), (73, .ldc 21, 2, 0, 0), (75, .invokevirtual 87, 3, 0, 0), (78, .ifCond .eq 9, 3, 0, 87), (81, .aload_n 0, 1, 0, 0), (82, .iconst 3, 1, 3, 0), (83, .invokevirtual 94, 3, 0, 0), (86, .ireturn, 1, 0, 0), (87, .aload_n 0, 1, 0, 0), (88, .ldc 23, 2, 0, 0), (90, .invokevirtual 87, 3, 0, 0), (93, .ifCond .eq 8, 3, 0, 101), (96, .aload_n 0, 1, 0, 0), (97, .invokevirtual 97, 3, 0, 0), (100, .ireturn, 1, 0, 0), (101, .aload_n 0, 1, 0, 0), (102, .ldc 27, 2, 0, 0), (104, .invokevirtual 87, 3, 0, 0), (107, .ifCond .eq 10, 3, 0, 117), (110, .aload_n 0, 1, 0, 0), (111, .invokevirtual 100, 3, 0, 0), (114, .goto 8, 3, 0, 122), (117, .aload_n 0, 1, 0, 0), (118, .iconst 1, 1, 1, 0), (119, .invokevirtual 83, 3, 0, 0), (122, .ireturn, 1, 0, 0)]
theorem tX7_readLine_ok : (tX7_readLine.all (q_okI cX7_readLine)) = true := by decide +kernel

abbrev fdX7_readLine : List (Nat ⊕ (Nat × Nat)) := [.inl 0, .inr (0, 2), .inr (0, 3), .inr (0, 5), .inr (3, 0), .inr (3, 1), .inr (3, 2), .inr (3, 3), .inr (3, 5), .inr (8, 0), .inr (8, 1), .inr (8, 2), .inr (8, 3), .inr (8, 4), .inr (8, 5), .inr (8, 6), .inr (3, 6), .inr (16, 0), .inr (16, 1), .inr (16, 2), .inr (16, 3), .inr (16, 4), .inr (16, 5), .inr (16, 6), .inr (3, 7), .inr (24, 0), .inr (24, 1), .inr (24, 2), .inr (24, 3), .inr (24, 4), .inr (24, 5), .inr (24, 6), .inr (24, 7)]
def spX7_readLine : q_P := fun a w K => ∃ (tx : Nat → Int32) (Z : ZT), w = zW tx Z ∧ a = [.ref 0] ∧ zOk Z ∧ rLineK tx Z (fun b Z' => K (.inl (some (.int (bI b)))) (zW tx Z'))
abbrev csX7_readLine : q_S := (1, 7, 8, 1, 0, 0, fdX7_readLine, spX7_readLine)
theorem coX7_91 (l : Launch) : q_CO l RX7 91 csX7_readLaw := ⟨yX7_readLaw, cX7_readLaw, (some .boolean), 0, ⟨by decide +kernel, by decide +kernel, by decide +kernel⟩, q_G_i 6 (by decide +kernel) rfl, Or.inl ⟨by decide, rfl, rfl, q_G_i 592 (by decide +kernel) rfl, q_G_i 594 (by decide +kernel) rfl, q_G_s (n := 13) 7 (by decide +kernel), Or.inl ⟨q_G_i 595 (by decide +kernel) rfl, ctX7_readLaw l⟩⟩⟩
theorem coX7_94 (l : Launch) : q_CO l RX7 94 csX7_readName := ⟨yX7_readName, cX7_readName, (some .boolean), 1, ⟨by decide +kernel, by decide +kernel, by decide +kernel⟩, q_G_i 6 (by decide +kernel) rfl, Or.inl ⟨by decide, rfl, rfl, q_G_i 636 (by decide +kernel) rfl, q_G_i 638 (by decide +kernel) rfl, q_G_s (n := 13) 14 (by decide +kernel), Or.inl ⟨q_G_i 639 (by decide +kernel) rfl, ctX7_readName l⟩⟩⟩
theorem coX7_97 (l : Launch) : q_CO l RX7 97 csX7_readRoad := ⟨yX7_readRoad, cX7_readRoad, (some .boolean), 0, ⟨by decide +kernel, by decide +kernel, by decide +kernel⟩, q_G_i 6 (by decide +kernel) rfl, Or.inl ⟨by decide, rfl, rfl, q_G_i 650 (by decide +kernel) rfl, q_G_i 652 (by decide +kernel) rfl, q_G_s (n := 13) 15 (by decide +kernel), Or.inl ⟨q_G_i 653 (by decide +kernel) rfl, ctX7_readRoad l⟩⟩⟩
theorem coX7_100 (l : Launch) : q_CO l RX7 100 csX7_readGift := ⟨yX7_readGift, cX7_readGift, (some .boolean), 0, ⟨by decide +kernel, by decide +kernel, by decide +kernel⟩, q_G_i 6 (by decide +kernel) rfl, Or.inl ⟨by decide, rfl, rfl, q_G_i 677 (by decide +kernel) rfl, q_G_i 679 (by decide +kernel) rfl, q_G_s (n := 13) 17 (by decide +kernel), Or.inl ⟨q_G_i 680 (by decide +kernel) rfl, ctX7_readGift l⟩⟩⟩
def EX7_readLine : q_E := (tX7_readLine, [], 1, flX7, [(87, csX7_sees), (91, csX7_readLaw), (83, csX7_fail), (94, csX7_readName), (97, csX7_readRoad), (100, csX7_readGift)], [], [], [(25, 0), (9, 1), (17, 2), (19, 3), (21, 4), (23, 5), (27, 6)], [], [], 8, 0, 0, (some .boolean), [], [], 0, 0)
theorem okX7_readLine (l : Launch) : q_Eok l RX7 cX7_readLine EX7_readLine := ⟨tX7_readLine_ok, flX7_ok, List.forall_mem_cons.mpr ⟨(coX7_87 l), List.forall_mem_cons.mpr ⟨(coX7_91 l), List.forall_mem_cons.mpr ⟨(coX7_83 l), List.forall_mem_cons.mpr ⟨(coX7_94 l), List.forall_mem_cons.mpr ⟨(coX7_97 l), List.forall_mem_cons.mpr ⟨(coX7_100 l), q_nil⟩⟩⟩⟩⟩⟩, q_nil, q_nil, List.forall_mem_cons.mpr ⟨⟨_, rfl, rfl, rfl⟩, List.forall_mem_cons.mpr ⟨⟨_, rfl, rfl, rfl⟩, List.forall_mem_cons.mpr ⟨⟨_, rfl, rfl, rfl⟩, List.forall_mem_cons.mpr ⟨⟨_, rfl, rfl, rfl⟩, List.forall_mem_cons.mpr ⟨⟨_, rfl, rfl, rfl⟩, List.forall_mem_cons.mpr ⟨⟨_, rfl, rfl, rfl⟩, List.forall_mem_cons.mpr ⟨⟨_, rfl, rfl, rfl⟩, q_nil⟩⟩⟩⟩⟩⟩⟩, q_nil, q_nil, (fun h => absurd h (by decide))⟩
set_option maxRecDepth 100000 in
set_option maxHeartbeats 4000000 in
theorem ctX7_readLine (l : Launch) : q_CT l yX7_readLine (.code yX7_readLine cX7_readLine 1 (some .boolean)) 8 0 0 spX7_readLine := by
  refine q_ct_of EX7_readLine (by decide +kernel) (okX7_readLine l) rfl rfl rfl rfl rfl q_nil (fun ci h => by cases h) rfl ?_
  intro a w K h
  obtain ⟨tx, Z, rfl, rfl, hz, hK⟩ := h
  have hN := hz.1
  have he : zE Z.1.2.2.1 Z := ⟨⟨hz.1, rfl⟩, hz.2⟩
  refine ⟨Nat.le_of_ble_eq_true rfl, fun C hC => hC _ _ _ _ _ _ ?_⟩
  rw [rLineK] at hK
  refine ⟨by decide, tx, Z.1, 0, _, rfl, rfl, rfl, hN, And.intro (fun c => ?_) (fun c => ?_)⟩
  rotate_left
  · have c : seeB tx Z.1 (kb 0) = true := bI_n0.mp c
    rw [if_pos c] at hK
    exact ⟨tx, Z, rfl, rfl, hz, rLawK_mono he (fun b Z' _ hk => ⟨bI_nar b, hk⟩) hK⟩
  replace c : seeB tx Z.1 (kb 0) = false := bI_0.mp c
  rw [if_neg (by rw [c]; decide)] at hK
  refine And.intro (fun c2 => ?_) (fun c2 => ?_)
  rotate_left
  · have c2 : ¬ Z.1.2.2.2.2.1 = 0 := c2
    rw [if_neg c2] at hK
    exact ⟨tx, Z.1, _, rfl, rfl, rfl, hK⟩
  have c2 : Z.1.2.2.2.2.1 = 0 := c2
  rw [if_pos c2, rLineB] at hK
  refine ⟨by decide, tx, Z.1, 1, _, rfl, rfl, rfl, hN, And.intro (fun c => ?_) (fun c => ?_)⟩
  rotate_left
  · have c : seeB tx Z.1 (kb 1) = true := bI_n0.mp c
    rw [if_pos c] at hK
    exact ⟨tx, Z, 0, rfl, rfl, hz, by decide, rNameK_mono he (fun b Z' _ hk => ⟨bI_nar b, hk⟩) hK⟩
  replace c : seeB tx Z.1 (kb 1) = false := bI_0.mp c
  rw [if_neg (by rw [c]; decide)] at hK
  refine ⟨by decide, tx, Z.1, 2, _, rfl, rfl, rfl, hN, And.intro (fun c => ?_) (fun c => ?_)⟩
  rotate_left
  · have c : seeB tx Z.1 (kb 2) = true := bI_n0.mp c
    rw [if_pos c] at hK
    exact ⟨tx, Z, 1, rfl, rfl, hz, by decide, rNameK_mono he (fun b Z' _ hk => ⟨bI_nar b, hk⟩) hK⟩
  replace c : seeB tx Z.1 (kb 2) = false := bI_0.mp c
  rw [if_neg (by rw [c]; decide)] at hK
  refine ⟨by decide, tx, Z.1, 3, _, rfl, rfl, rfl, hN, And.intro (fun c => ?_) (fun c => ?_)⟩
  rotate_left
  · have c : seeB tx Z.1 (kb 3) = true := bI_n0.mp c
    rw [if_pos c] at hK
    exact ⟨tx, Z, 2, rfl, rfl, hz, by decide, rNameK_mono he (fun b Z' _ hk => ⟨bI_nar b, hk⟩) hK⟩
  replace c : seeB tx Z.1 (kb 3) = false := bI_0.mp c
  rw [if_neg (by rw [c]; decide)] at hK
  refine ⟨by decide, tx, Z.1, 4, _, rfl, rfl, rfl, hN, And.intro (fun c => ?_) (fun c => ?_)⟩
  rotate_left
  · have c : seeB tx Z.1 (kb 4) = true := bI_n0.mp c
    rw [if_pos c] at hK
    exact ⟨tx, Z, 3, rfl, rfl, hz, by decide, rNameK_mono he (fun b Z' _ hk => ⟨bI_nar b, hk⟩) hK⟩
  replace c : seeB tx Z.1 (kb 4) = false := bI_0.mp c
  rw [if_neg (by rw [c]; decide)] at hK
  refine ⟨by decide, tx, Z.1, 5, _, rfl, rfl, rfl, hN, And.intro (fun c => ?_) (fun c => ?_)⟩
  rotate_left
  · have c : seeB tx Z.1 (kb 5) = true := bI_n0.mp c
    rw [if_pos c] at hK
    exact ⟨tx, Z, rfl, rfl, hz, rRoadK_mono he (fun b Z' _ hk => ⟨bI_nar b, hk⟩) hK⟩
  replace c : seeB tx Z.1 (kb 5) = false := bI_0.mp c
  rw [if_neg (by rw [c]; decide)] at hK
  refine ⟨by decide, tx, Z.1, 6, _, rfl, rfl, rfl, hN, And.intro (fun c => ?_) (fun c => ?_)⟩
  rotate_left
  · have c : seeB tx Z.1 (kb 6) = true := bI_n0.mp c
    rw [if_pos c] at hK
    exact ⟨tx, Z, rfl, rfl, hz, rGiftK_mono he (fun b Z' _ hk => ⟨bI_nar b, hk⟩) hK⟩
  replace c : seeB tx Z.1 (kb 6) = false := bI_0.mp c
  rw [if_neg (by rw [c]; decide)] at hK
  exact ⟨tx, Z.1, _, rfl, rfl, rfl, hK⟩
def rReadL {α : Type} (tx : Nat → Int32) (k : Bool → ZT → α) : Nat → ZT → α
  | 0, Z => k false (zN Z (failF Z.1 1))
  | n + 1, Z => rLineK tx Z (fun b Z' => if b = true then (if Z'.1.2.2.2.2.2.1 = 0 then k true Z' else if Z'.1.2.2.2.2.2.1 = 3 then rReadL tx k n (zN Z' (stepF tx Z'.1)) else k false (zN Z' (failF Z'.1 1))) else k false Z')
def rStart (N : NT) (n : Nat) (al : Bool) (kn : Int32) : NT := (0, -1, n, kn, bI al, N.2.2.2.2.2.1, N.2.2.2.2.2.2.1, 0, N.2.2.2.2.2.2.2.2)
def rReadK {α : Type} (tx : Nat → Int32) (Z : ZT) (n : Nat) (al : Bool) (kn : Int32) (k : Bool → ZT → α) : α :=
  rReadL tx k (n + 1) (zN Z (stepF tx (rStart Z.1 n al kn)))
def tX7_read : List q_I := [(0, .aload_n 0, 1, 0, 0), (1, .iload_n 1, 1, 0, 0), (2, .aload_n 0, 1, 0, 0), (3, .getfield 39, 3, 0, 0), (6, .arraylength, 1, 0, 0), (7, .invokestatic 47, 3, 0, 0), (10, .putfield 53, 3, 0, 0), (13, .aload_n 0, 1, 0, 0), (14, .aload_n 2, 1, 0, 0), (15, .putfield 43, 3, 0, 0), (18, .aload_n 0, 1, 0, 0), (19, .iload_n 3, 1, 0, 0), (20, .putfield 57, 3, 0, 0), (23, .aload_n 0, 1, 0, 0), (24, .iload 4, 2, 0, 0), (26, .putfield 61, 3, 0, 0), (29, .aload_n 0, 1, 0, 0), (30, .iconst 0, 1, 0, 0), (31, .putfield 64, 3, 0, 0), (34, .aload_n 0, 1, 0, 0), (35, .iconst (-1), 1, (-1), 0), (36, .putfield 67, 3, 0, 0), (39, .aload_n 0, 1, 0, 0), (40, .iconst 0, 1, 0, 0), (41, .putfield 70, 3, 0, 0), (44, .aload_n 0, 1, 0, 0), (45, .invokevirtual 73, 3, 0, 0), (48, .iconst 0, 1, 0, 0), (49, .istore 5, 2, 0, 0), (51, .iload 5, 2, 0, 0), (53, .aload_n 0, 1, 0, 0), (54, .getfield 53, 3, 0, 0), (57, .if_icmp .gt 45, 3, 0, 102), (60, .aload_n 0, 1, 0, 0), (61, .invokevirtual 76, 3, 0, 0), (64, .ifCond .ne 5, 3, 0, 69), (67, .iconst 0, 1, 0, 0), (68, .ireturn, 1, 0, 0), (69, .aload_n 0, 1, 0, 0), (70, .getfield 80, 3, 0, 0), (73, .ifCond .ne 5, 3, 0, 78), (76, .iconst 1, 1, 1, 0), (77, .ireturn, 1, 0, 0), (78, .aload_n 0, 1, 0, 0), (79, .getfield 80, 3, 0, 0), (82, .iconst 3, 1, 3, 0), (83, .if_icmp .eq 9, 3, 0, 92), (86, .aload_n 0, 1, 0, 0), (87, .iconst 1, 1, 1, 0), (88, .invokevirtual 83, 3, 0, 0), (91, .ireturn, 1, 0, 0), (92, .aload_n 0, 1, 0, 0), (93, .invokevirtual 73, 3, 0, 0), (96, .iinc 5 1, 3, 1, 0), (99, .goto (-48), 3, 0, 51), (102, .aload_n 0, 1, 0, 0), (103, .iconst 1, 1, 1, 0), (104, .invokevirtual 83, 3, 0, 0), (107, .ireturn, 1, 0, 0)]
theorem tX7_read_ok : (tX7_read.all (q_okI cX7_read)) = true := by decide +kernel

abbrev fdX7_read : List (Nat ⊕ (Nat × Nat)) := [.inl 0, .inr (0, 2), .inr (0, 3), .inl 2, .inr (3, 0), .inr (3, 1), .inr (3, 2), .inr (3, 3), .inr (3, 5), .inr (8, 0), .inr (8, 1), .inr (8, 2), .inr (8, 3), .inr (8, 4), .inr (8, 5), .inr (8, 6), .inr (3, 6), .inr (16, 0), .inr (16, 1), .inr (16, 2), .inr (16, 3), .inr (16, 4), .inr (16, 5), .inr (16, 6), .inr (3, 7), .inr (24, 0), .inr (24, 1), .inr (24, 2), .inr (24, 3), .inr (24, 4), .inr (24, 5), .inr (24, 6), .inr (24, 7)]
def spX7_read : q_P := fun a w K => ∃ (tx : Nat → Int32) (Z : ZT) (v : Value) (n : Nat) (al : Bool) (kn : Int32), w = readW 0 v tx Z.1 ++ bookW 3 Z.2.1 Z.2.2.1 Z.2.2.2.1 Z.2.2.2.2 ∧ a = [.ref 0, .int (nI n), .ref 3, .int (bI al), .int kn] ∧ n ≤ 700 ∧ Z.2.1.2.2.2.2 ≤ 25 ∧ rOk Z.2.2.1 ∧ L_n Z.2.2.2.1 ≤ 24 ∧ gOk Z.2.2.2.2 ∧ rReadK tx Z n al kn (fun b Z' => K (.inl (some (.int (bI b)))) (zW tx Z'))
abbrev csX7_read : q_S := (5, 7, 9, 6, 0, 0, fdX7_read, spX7_read)
theorem coX7_76 (l : Launch) : q_CO l RX7 76 csX7_readLine := ⟨yX7_readLine, cX7_readLine, (some .boolean), 0, ⟨by decide +kernel, by decide +kernel, by decide +kernel⟩, q_G_i 6 (by decide +kernel) rfl, Or.inl ⟨by decide, rfl, rfl, q_G_i 584 (by decide +kernel) rfl, q_G_i 586 (by decide +kernel) rfl, q_G_s (n := 13) 5 (by decide +kernel), Or.inl ⟨q_G_i 587 (by decide +kernel) rfl, ctX7_readLine l⟩⟩⟩
def EX7_read : q_E := (tX7_read, [(51, [0, 5])], 6, flX7, [(73, csX7_step), (76, csX7_readLine), (83, csX7_fail)], [], [], [], [], [(47, 2)], 9, 0, 0, (some .boolean), [], [], 0, 0)
theorem okX7_read (l : Launch) : q_Eok l RX7 cX7_read EX7_read := ⟨tX7_read_ok, flX7_ok, List.forall_mem_cons.mpr ⟨(coX7_73 l), List.forall_mem_cons.mpr ⟨(coX7_76 l), List.forall_mem_cons.mpr ⟨(coX7_83 l), q_nil⟩⟩⟩, q_nil, q_nil, q_nil, List.forall_mem_cons.mpr ⟨Or.inr (Or.inr ⟨rfl, q_G_i 569 (by decide +kernel) rfl⟩), q_nil⟩, q_nil, (fun h => absurd h (by decide))⟩
set_option maxRecDepth 100000 in
set_option maxHeartbeats 4000000 in
theorem ctX7_read (l : Launch) : q_CT l yX7_read (.code yX7_read cX7_read 6 (some .boolean)) 9 0 0 spX7_read := by
  refine q_ct_of EX7_read (by decide +kernel) (okX7_read l) rfl rfl rfl rfl rfl q_nil (fun ci h => by cases h) rfl ?_
  intro a w K h
  obtain ⟨tx, Z, v, n, al, kn, rfl, rfl, hn, hB, hR, hL, hG, hK⟩ := h
  refine ⟨Nat.le_of_ble_eq_true rfl, fun C hC => hC _ _ _ _ _ _ ?_⟩
  have loop : ∀ m i Z, i + m = n + 1 → zE n Z → rReadL tx (fun b Z' => K (.inl (some (.int (bI b)))) (zW tx Z')) m Z → C 51 [(0, .ref 0), (5, .int (nI i))] [] (zW tx Z) 0 0 := by
    intro m
    induction m with
    | zero =>
      intro i Z hi hz hK
      have h2 := hz.1.2
      refine hC _ _ _ _ _ _ ?_
      refine And.intro (fun _ => ?_) (fun c1 => absurd (by show nI Z.1.2.2.1 < nI i; rw [h2]; exact nI_lt (by omega) (by omega)) c1)
      exact ⟨tx, Z.1, _, rfl, rfl, rfl, hK⟩
    | succ m ih =>
      intro i Z hi hz hK
      have h2 := hz.1.2
      rw [rReadL] at hK
      refine hC _ _ _ _ _ _ ?_
      refine And.intro (fun c1 => absurd (show nI Z.1.2.2.1 < nI i from c1) (by rw [h2]; exact nI_nlt (by omega) (by omega))) (fun _ => ?_)
      refine ⟨tx, Z, rfl, rfl, hz.ok, rLineK_mono hz (fun b Z' hz' hk => ?_) hK⟩
      cases b with
      | false => exact And.intro (fun z => absurd rfl z) (fun _ => ⟨rfl, hk⟩)
      | true =>
        rw [if_pos rfl] at hk
        refine And.intro (fun _ => And.intro (fun c2 => ?_) (fun c2 => ?_)) (fun z => absurd z (by decide))
        · have c2 : ¬ Z'.1.2.2.2.2.2.1 = 0 := c2
          rw [if_neg c2] at hk
          refine And.intro (fun c3 => ?_) (fun c3 => ?_)
          · have c3 : Z'.1.2.2.2.2.2.1 = 3 := c3
            rw [if_pos c3] at hk
            have h9 := ih (i + 1) (zN Z' (stepF tx Z'.1)) (by omega) ⟨nE_step hz'.1, hz'.2⟩ hk
            rw [← nI_1 i] at h9
            exact ⟨tx, Z'.1, rfl, rfl, hz'.1.1.s, h9⟩
          · have c3 : ¬ Z'.1.2.2.2.2.2.1 = 3 := c3
            rw [if_neg c3] at hk
            exact ⟨tx, Z'.1, _, rfl, rfl, rfl, hk⟩
        · have c2 : Z'.1.2.2.2.2.2.1 = 0 := c2
          rw [if_pos c2] at hk
          exact ⟨rfl, hk⟩
  have hmn : mnI (nI n) (Int32.ofNat 700) = nI n := by
    have : nI n ≤ Int32.ofNat 700 := nI_le (a := n) (b := 700) hn (by omega)
    unfold mnI
    rw [if_neg (Int32.not_lt.mpr this)]
  have hs0 : nOk (nUp (rStart Z.1 n al kn)) := ⟨hn, Nat.le_refl _, Nat.zero_le _⟩
  have hz1 : zE n (zN Z (stepF tx (rStart Z.1 n al kn))) := ⟨⟨(stepF_ok0 hs0).1, (stepF_ok0 hs0).2⟩, hB, hR, hL, hG⟩
  have h9 := loop (n + 1) 0 _ (by omega) hz1 hK
  refine ⟨Or.inl rfl, bI_nar al, tx, rStart Z.1 n al kn, (by rw [hmn]; rfl), rfl, hs0, h9⟩
end
