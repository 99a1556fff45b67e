-- ===== PART A: goes FIRST, ahead of the names: the tables' words, and 'selects' of the private methods out of them =====
/-- a private method of a class that the tables say can be made, by its rows of tables_1 -/
def lw_okq (q : MethodName × Nat) : Prop := (q.1.cls ≠ "java/lang/invoke/MethodHandle" ∧ q.1.cls ≠ "java/lang/invoke/VarHandle") ∧ Cond.instantiable q.1.cls q.2 ∈ tables_1 ∧ Cond.privateMethod q.1 ∈ tables_1 ∧ Cond.instanceMethod q.1 ∈ tables_1
theorem lw_p0 : lw_okq (⟨"PewRank$Church", "measureAll", "()V"⟩, 14) := ⟨⟨by decide +kernel, by decide +kernel⟩, List.mem_of_getElem? (i := 27) (by decide +kernel), List.mem_of_getElem? (i := 384) (by decide +kernel), List.mem_of_getElem? (i := 385) (by decide +kernel)⟩
theorem lw_p1 : lw_okq (⟨"PewRank$Church", "measureBench", "(I)V"⟩, 14) := ⟨⟨by decide +kernel, by decide +kernel⟩, List.mem_of_getElem? (i := 27) (by decide +kernel), List.mem_of_getElem? (i := 388) (by decide +kernel), List.mem_of_getElem? (i := 389) (by decide +kernel)⟩
theorem lw_p2 : lw_okq (⟨"PewRank$Church", "isInWay", "(III)Z"⟩, 14) := ⟨⟨by decide +kernel, by decide +kernel⟩, List.mem_of_getElem? (i := 27) (by decide +kernel), List.mem_of_getElem? (i := 392) (by decide +kernel), List.mem_of_getElem? (i := 393) (by decide +kernel)⟩
theorem lw_p3 : lw_okq (⟨"PewRank$Church", "sideOf", "(IIII)I"⟩, 14) := ⟨⟨by decide +kernel, by decide +kernel⟩, List.mem_of_getElem? (i := 27) (by decide +kernel), List.mem_of_getElem? (i := 402) (by decide +kernel), List.mem_of_getElem? (i := 403) (by decide +kernel)⟩
theorem lw_p4 : lw_okq (⟨"PewRank$Church", "heardAt", "(IIIZ)I"⟩, 14) := ⟨⟨by decide +kernel, by decide +kernel⟩, List.mem_of_getElem? (i := 27) (by decide +kernel), List.mem_of_getElem? (i := 406) (by decide +kernel), List.mem_of_getElem? (i := 407) (by decide +kernel)⟩
theorem lw_p5 : lw_okq (⟨"PewRank", "isAsked", "(IIII)Z"⟩, 15) := ⟨⟨by decide +kernel, by decide +kernel⟩, List.mem_of_getElem? (i := 19) (by decide +kernel), List.mem_of_getElem? (i := 684) (by decide +kernel), List.mem_of_getElem? (i := 685) (by decide +kernel)⟩
theorem lw_p6 : lw_okq (⟨"PewRank$Auction", "fillBest", "()V"⟩, 13) := ⟨⟨by decide +kernel, by decide +kernel⟩, List.mem_of_getElem? (i := 160) (by decide +kernel), List.mem_of_getElem? (i := 758) (by decide +kernel), List.mem_of_getElem? (i := 759) (by decide +kernel)⟩
theorem lw_p7 : lw_okq (⟨"PewRank$Auction", "bestWithLot", "(II)I"⟩, 13) := ⟨⟨by decide +kernel, by decide +kernel⟩, List.mem_of_getElem? (i := 160) (by decide +kernel), List.mem_of_getElem? (i := 763) (by decide +kernel), List.mem_of_getElem? (i := 764) (by decide +kernel)⟩
theorem lw_p8 : lw_okq (⟨"PewRank$Auction", "sumWithLot", "(III)I"⟩, 13) := ⟨⟨by decide +kernel, by decide +kernel⟩, List.mem_of_getElem? (i := 160) (by decide +kernel), List.mem_of_getElem? (i := 767) (by decide +kernel), List.mem_of_getElem? (i := 768) (by decide +kernel)⟩
theorem lw_p9 : lw_okq (⟨"PewRank$Auction", "leastLot", "(II)I"⟩, 13) := ⟨⟨by decide +kernel, by decide +kernel⟩, List.mem_of_getElem? (i := 160) (by decide +kernel), List.mem_of_getElem? (i := 772) (by decide +kernel), List.mem_of_getElem? (i := 773) (by decide +kernel)⟩
theorem lw_p10 : lw_okq (⟨"PewRank$Auction", "bestWithout", "(I)I"⟩, 13) := ⟨⟨by decide +kernel, by decide +kernel⟩, List.mem_of_getElem? (i := 160) (by decide +kernel), List.mem_of_getElem? (i := 782) (by decide +kernel), List.mem_of_getElem? (i := 783) (by decide +kernel)⟩
theorem lw_p11 : lw_okq (⟨"PewRank$Auction", "addAhead", "(I)V"⟩, 13) := ⟨⟨by decide +kernel, by decide +kernel⟩, List.mem_of_getElem? (i := 160) (by decide +kernel), List.mem_of_getElem? (i := 786) (by decide +kernel), List.mem_of_getElem? (i := 787) (by decide +kernel)⟩
theorem lw_p12 : lw_okq (⟨"PewRank", "enterRent", "(I)V"⟩, 15) := ⟨⟨by decide +kernel, by decide +kernel⟩, List.mem_of_getElem? (i := 19) (by decide +kernel), List.mem_of_getElem? (i := 790) (by decide +kernel), List.mem_of_getElem? (i := 791) (by decide +kernel)⟩
theorem lw_p13 : lw_okq (⟨"PewRank", "latestSeating", "()LPewRank$Seating;"⟩, 15) := ⟨⟨by decide +kernel, by decide +kernel⟩, List.mem_of_getElem? (i := 19) (by decide +kernel), List.mem_of_getElem? (i := 812) (by decide +kernel), List.mem_of_getElem? (i := 813) (by decide +kernel)⟩
theorem lw_p14 : lw_okq (⟨"PewRank", "seatingOf", "(I)LPewRank$Seating;"⟩, 15) := ⟨⟨by decide +kernel, by decide +kernel⟩, List.mem_of_getElem? (i := 19) (by decide +kernel), List.mem_of_getElem? (i := 816) (by decide +kernel), List.mem_of_getElem? (i := 817) (by decide +kernel)⟩
theorem lw_p15 : lw_okq (⟨"PewRank$Rings", "lookRound", "(ILPewRank$Seating;)V"⟩, 4) := ⟨⟨by decide +kernel, by decide +kernel⟩, List.mem_of_getElem? (i := 215) (by decide +kernel), List.mem_of_getElem? (i := 829) (by decide +kernel), List.mem_of_getElem? (i := 830) (by decide +kernel)⟩
def lw_privs_1 : List (MethodName × Nat) := [(⟨"PewRank$Church", "measureAll", "()V"⟩, 14), (⟨"PewRank$Church", "measureBench", "(I)V"⟩, 14), (⟨"PewRank$Church", "isInWay", "(III)Z"⟩, 14), (⟨"PewRank$Church", "sideOf", "(IIII)I"⟩, 14), (⟨"PewRank$Church", "heardAt", "(IIIZ)I"⟩, 14), (⟨"PewRank", "isAsked", "(IIII)Z"⟩, 15), (⟨"PewRank$Auction", "fillBest", "()V"⟩, 13), (⟨"PewRank$Auction", "bestWithLot", "(II)I"⟩, 13), (⟨"PewRank$Auction", "sumWithLot", "(III)I"⟩, 13), (⟨"PewRank$Auction", "leastLot", "(II)I"⟩, 13), (⟨"PewRank$Auction", "bestWithout", "(I)I"⟩, 13), (⟨"PewRank$Auction", "addAhead", "(I)V"⟩, 13), (⟨"PewRank", "enterRent", "(I)V"⟩, 15), (⟨"PewRank", "latestSeating", "()LPewRank$Seating;"⟩, 15), (⟨"PewRank", "seatingOf", "(I)LPewRank$Seating;"⟩, 15), (⟨"PewRank$Rings", "lookRound", "(ILPewRank$Seating;)V"⟩, 4)]
theorem lw_r1 : ∀ q ∈ lw_privs_1, lw_okq q := List.forall_mem_cons.mpr ⟨lw_p0, List.forall_mem_cons.mpr ⟨lw_p1, List.forall_mem_cons.mpr ⟨lw_p2, List.forall_mem_cons.mpr ⟨lw_p3, List.forall_mem_cons.mpr ⟨lw_p4, List.forall_mem_cons.mpr ⟨lw_p5, List.forall_mem_cons.mpr ⟨lw_p6, List.forall_mem_cons.mpr ⟨lw_p7, List.forall_mem_cons.mpr ⟨lw_p8, List.forall_mem_cons.mpr ⟨lw_p9, List.forall_mem_cons.mpr ⟨lw_p10, List.forall_mem_cons.mpr ⟨lw_p11, List.forall_mem_cons.mpr ⟨lw_p12, List.forall_mem_cons.mpr ⟨lw_p13, List.forall_mem_cons.mpr ⟨lw_p14, List.forall_mem_cons.mpr ⟨lw_p15, fun _ h => absurd h List.not_mem_nil⟩⟩⟩⟩⟩⟩⟩⟩⟩⟩⟩⟩⟩⟩⟩⟩
theorem lw_p16 : lw_okq (⟨"PewRank$Rings", "favourite", "(IILPewRank$Seating;)I"⟩, 4) := ⟨⟨by decide +kernel, by decide +kernel⟩, List.mem_of_getElem? (i := 215) (by decide +kernel), List.mem_of_getElem? (i := 833) (by decide +kernel), List.mem_of_getElem? (i := 834) (by decide +kernel)⟩
theorem lw_p17 : lw_okq (⟨"PewRank$Rings", "worthOfRun", "(LPewRank$Household;ILPewRank$Seating;)I"⟩, 4) := ⟨⟨by decide +kernel, by decide +kernel⟩, List.mem_of_getElem? (i := 215) (by decide +kernel), List.mem_of_getElem? (i := 838) (by decide +kernel), List.mem_of_getElem? (i := 839) (by decide +kernel)⟩
theorem lw_p18 : lw_okq (⟨"PewRank$Rings", "ringed", "(I)I"⟩, 4) := ⟨⟨by decide +kernel, by decide +kernel⟩, List.mem_of_getElem? (i := 215) (by decide +kernel), List.mem_of_getElem? (i := 843) (by decide +kernel), List.mem_of_getElem? (i := 844) (by decide +kernel)⟩
theorem lw_p19 : lw_okq (⟨"PewRank$Rings", "isInRing", "(I)Z"⟩, 4) := ⟨⟨by decide +kernel, by decide +kernel⟩, List.mem_of_getElem? (i := 215) (by decide +kernel), List.mem_of_getElem? (i := 847) (by decide +kernel), List.mem_of_getElem? (i := 848) (by decide +kernel)⟩
theorem lw_p20 : lw_okq (⟨"PewRank$Rings", "letGo", "(I)I"⟩, 4) := ⟨⟨by decide +kernel, by decide +kernel⟩, List.mem_of_getElem? (i := 215) (by decide +kernel), List.mem_of_getElem? (i := 851) (by decide +kernel), List.mem_of_getElem? (i := 852) (by decide +kernel)⟩
theorem lw_p21 : lw_okq (⟨"PewRank$Ledger", "markBest", "(LPewRank$Right;I)V"⟩, 5) := ⟨⟨by decide +kernel, by decide +kernel⟩, List.mem_of_getElem? (i := 103) (by decide +kernel), List.mem_of_getElem? (i := 876) (by decide +kernel), List.mem_of_getElem? (i := 877) (by decide +kernel)⟩
theorem lw_p22 : lw_okq (⟨"PewRank$Sundays", "keepRun", "(II)V"⟩, 9) := ⟨⟨by decide +kernel, by decide +kernel⟩, List.mem_of_getElem? (i := 236) (by decide +kernel), List.mem_of_getElem? (i := 885) (by decide +kernel), List.mem_of_getElem? (i := 886) (by decide +kernel)⟩
theorem lw_p23 : lw_okq (⟨"PewRank$Sundays", "seatStranger", "(IZ)I"⟩, 9) := ⟨⟨by decide +kernel, by decide +kernel⟩, List.mem_of_getElem? (i := 236) (by decide +kernel), List.mem_of_getElem? (i := 893) (by decide +kernel), List.mem_of_getElem? (i := 894) (by decide +kernel)⟩
theorem lw_p24 : lw_okq (⟨"PewRank$Sundays", "openSpots", "(Z)V"⟩, 9) := ⟨⟨by decide +kernel, by decide +kernel⟩, List.mem_of_getElem? (i := 236) (by decide +kernel), List.mem_of_getElem? (i := 897) (by decide +kernel), List.mem_of_getElem? (i := 898) (by decide +kernel)⟩
theorem lw_p25 : lw_okq (⟨"PewRank$Usher", "isRunOpen", "(IIZ)Z"⟩, 7) := ⟨⟨by decide +kernel, by decide +kernel⟩, List.mem_of_getElem? (i := 131) (by decide +kernel), List.mem_of_getElem? (i := 918) (by decide +kernel), List.mem_of_getElem? (i := 919) (by decide +kernel)⟩
theorem lw_p26 : lw_okq (⟨"PewRank$Sundays", "take", "(II)I"⟩, 9) := ⟨⟨by decide +kernel, by decide +kernel⟩, List.mem_of_getElem? (i := 236) (by decide +kernel), List.mem_of_getElem? (i := 923) (by decide +kernel), List.mem_of_getElem? (i := 924) (by decide +kernel)⟩
theorem lw_p27 : lw_okq (⟨"PewRank$Sundays", "seatHousehold", "(IZ)I"⟩, 9) := ⟨⟨by decide +kernel, by decide +kernel⟩, List.mem_of_getElem? (i := 236) (by decide +kernel), List.mem_of_getElem? (i := 927) (by decide +kernel), List.mem_of_getElem? (i := 928) (by decide +kernel)⟩
theorem lw_p28 : lw_okq (⟨"PewRank$Sundays", "isOwnRunFree", "(II)Z"⟩, 9) := ⟨⟨by decide +kernel, by decide +kernel⟩, List.mem_of_getElem? (i := 236) (by decide +kernel), List.mem_of_getElem? (i := 932) (by decide +kernel), List.mem_of_getElem? (i := 933) (by decide +kernel)⟩
theorem lw_p29 : lw_okq (⟨"PewRank$Parish", "rankOf", "(I)I"⟩, 2) := ⟨⟨by decide +kernel, by decide +kernel⟩, List.mem_of_getElem? (i := 87) (by decide +kernel), List.mem_of_getElem? (i := 956) (by decide +kernel), List.mem_of_getElem? (i := 957) (by decide +kernel)⟩
theorem lw_p30 : lw_okq (⟨"PewRank$Usher", "seatByRight", "(LPewRank$Seating;[II)Z"⟩, 7) := ⟨⟨by decide +kernel, by decide +kernel⟩, List.mem_of_getElem? (i := 131) (by decide +kernel), List.mem_of_getElem? (i := 960) (by decide +kernel), List.mem_of_getElem? (i := 961) (by decide +kernel)⟩
theorem lw_p31 : lw_okq (⟨"PewRank$Usher", "openThoseOf", "([II)V"⟩, 7) := ⟨⟨by decide +kernel, by decide +kernel⟩, List.mem_of_getElem? (i := 131) (by decide +kernel), List.mem_of_getElem? (i := 965) (by decide +kernel), List.mem_of_getElem? (i := 966) (by decide +kernel)⟩
def lw_privs_2 : List (MethodName × Nat) := [(⟨"PewRank$Rings", "favourite", "(IILPewRank$Seating;)I"⟩, 4), (⟨"PewRank$Rings", "worthOfRun", "(LPewRank$Household;ILPewRank$Seating;)I"⟩, 4), (⟨"PewRank$Rings", "ringed", "(I)I"⟩, 4), (⟨"PewRank$Rings", "isInRing", "(I)Z"⟩, 4), (⟨"PewRank$Rings", "letGo", "(I)I"⟩, 4), (⟨"PewRank$Ledger", "markBest", "(LPewRank$Right;I)V"⟩, 5), (⟨"PewRank$Sundays", "keepRun", "(II)V"⟩, 9), (⟨"PewRank$Sundays", "seatStranger", "(IZ)I"⟩, 9), (⟨"PewRank$Sundays", "openSpots", "(Z)V"⟩, 9), (⟨"PewRank$Usher", "isRunOpen", "(IIZ)Z"⟩, 7), (⟨"PewRank$Sundays", "take", "(II)I"⟩, 9), (⟨"PewRank$Sundays", "seatHousehold", "(IZ)I"⟩, 9), (⟨"PewRank$Sundays", "isOwnRunFree", "(II)Z"⟩, 9), (⟨"PewRank$Parish", "rankOf", "(I)I"⟩, 2), (⟨"PewRank$Usher", "seatByRight", "(LPewRank$Seating;[II)Z"⟩, 7), (⟨"PewRank$Usher", "openThoseOf", "([II)V"⟩, 7)]
theorem lw_r2 : ∀ q ∈ lw_privs_2, lw_okq q := List.forall_mem_cons.mpr ⟨lw_p16, List.forall_mem_cons.mpr ⟨lw_p17, List.forall_mem_cons.mpr ⟨lw_p18, List.forall_mem_cons.mpr ⟨lw_p19, List.forall_mem_cons.mpr ⟨lw_p20, List.forall_mem_cons.mpr ⟨lw_p21, List.forall_mem_cons.mpr ⟨lw_p22, List.forall_mem_cons.mpr ⟨lw_p23, List.forall_mem_cons.mpr ⟨lw_p24, List.forall_mem_cons.mpr ⟨lw_p25, List.forall_mem_cons.mpr ⟨lw_p26, List.forall_mem_cons.mpr ⟨lw_p27, List.forall_mem_cons.mpr ⟨lw_p28, List.forall_mem_cons.mpr ⟨lw_p29, List.forall_mem_cons.mpr ⟨lw_p30, List.forall_mem_cons.mpr ⟨lw_p31, fun _ h => absurd h List.not_mem_nil⟩⟩⟩⟩⟩⟩⟩⟩⟩⟩⟩⟩⟩⟩⟩⟩
theorem lw_p32 : lw_okq (⟨"PewRank$Usher", "fillBest", "(II)V"⟩, 7) := ⟨⟨by decide +kernel, by decide +kernel⟩, List.mem_of_getElem? (i := 131) (by decide +kernel), List.mem_of_getElem? (i := 976) (by decide +kernel), List.mem_of_getElem? (i := 977) (by decide +kernel)⟩
theorem lw_p33 : lw_okq (⟨"PewRank$Usher", "sumSeated", "(LPewRank$Household;III)J"⟩, 7) := ⟨⟨by decide +kernel, by decide +kernel⟩, List.mem_of_getElem? (i := 131) (by decide +kernel), List.mem_of_getElem? (i := 986) (by decide +kernel), List.mem_of_getElem? (i := 987) (by decide +kernel)⟩
theorem lw_p34 : lw_okq (⟨"PewRank$Usher", "seatByRank", "(LPewRank$Seating;I)V"⟩, 7) := ⟨⟨by decide +kernel, by decide +kernel⟩, List.mem_of_getElem? (i := 131) (by decide +kernel), List.mem_of_getElem? (i := 991) (by decide +kernel), List.mem_of_getElem? (i := 992) (by decide +kernel)⟩
theorem lw_p35 : lw_okq (⟨"PewRank$Usher", "firstOfBest", "(ILPewRank$Household;II)I"⟩, 7) := ⟨⟨by decide +kernel, by decide +kernel⟩, List.mem_of_getElem? (i := 131) (by decide +kernel), List.mem_of_getElem? (i := 995) (by decide +kernel), List.mem_of_getElem? (i := 996) (by decide +kernel)⟩
theorem lw_p36 : lw_okq (⟨"PewRank", "hasComeToCustom", "(I)Z"⟩, 15) := ⟨⟨by decide +kernel, by decide +kernel⟩, List.mem_of_getElem? (i := 19) (by decide +kernel), List.mem_of_getElem? (i := 1004) (by decide +kernel), List.mem_of_getElem? (i := 1005) (by decide +kernel)⟩
theorem lw_p37 : lw_okq (⟨"PewRank", "enterCustom", "(ILPewRank$Seating;)V"⟩, 15) := ⟨⟨by decide +kernel, by decide +kernel⟩, List.mem_of_getElem? (i := 19) (by decide +kernel), List.mem_of_getElem? (i := 1012) (by decide +kernel), List.mem_of_getElem? (i := 1013) (by decide +kernel)⟩
theorem lw_p38 : lw_okq (⟨"PewRank", "ownedUnits", "(I)I"⟩, 15) := ⟨⟨by decide +kernel, by decide +kernel⟩, List.mem_of_getElem? (i := 19) (by decide +kernel), List.mem_of_getElem? (i := 1051) (by decide +kernel), List.mem_of_getElem? (i := 1052) (by decide +kernel)⟩
theorem lw_p39 : lw_okq (⟨"PewRankModel", "isUnit", "(II)Z"⟩, 79) := ⟨⟨by decide +kernel, by decide +kernel⟩, List.mem_of_getElem? (i := 1112) (by decide +kernel), List.mem_of_getElem? (i := 1413) (by decide +kernel), List.mem_of_getElem? (i := 1414) (by decide +kernel)⟩
theorem lw_p40 : lw_okq (⟨"PewRankModel", "isBench", "(I)Z"⟩, 79) := ⟨⟨by decide +kernel, by decide +kernel⟩, List.mem_of_getElem? (i := 1112) (by decide +kernel), List.mem_of_getElem? (i := 1417) (by decide +kernel), List.mem_of_getElem? (i := 1418) (by decide +kernel)⟩
theorem lw_p41 : lw_okq (⟨"PewRankModel", "hearing", "(II)I"⟩, 79) := ⟨⟨by decide +kernel, by decide +kernel⟩, List.mem_of_getElem? (i := 1112) (by decide +kernel), List.mem_of_getElem? (i := 1421) (by decide +kernel), List.mem_of_getElem? (i := 1422) (by decide +kernel)⟩
theorem lw_p42 : lw_okq (⟨"PewRankModel", "inWay", "(II)I"⟩, 79) := ⟨⟨by decide +kernel, by decide +kernel⟩, List.mem_of_getElem? (i := 1112) (by decide +kernel), List.mem_of_getElem? (i := 1425) (by decide +kernel), List.mem_of_getElem? (i := 1426) (by decide +kernel)⟩
theorem lw_p43 : lw_okq (⟨"PewRankModel", "isInWay", "(III)Z"⟩, 79) := ⟨⟨by decide +kernel, by decide +kernel⟩, List.mem_of_getElem? (i := 1112) (by decide +kernel), List.mem_of_getElem? (i := 1429) (by decide +kernel), List.mem_of_getElem? (i := 1430) (by decide +kernel)⟩
theorem lw_p44 : lw_okq (⟨"PewRankModel", "side", "(IIII)I"⟩, 79) := ⟨⟨by decide +kernel, by decide +kernel⟩, List.mem_of_getElem? (i := 1112) (by decide +kernel), List.mem_of_getElem? (i := 1435) (by decide +kernel), List.mem_of_getElem? (i := 1436) (by decide +kernel)⟩
theorem lw_p45 : lw_okq (⟨"PewRankModel", "isThere", "(I)Z"⟩, 79) := ⟨⟨by decide +kernel, by decide +kernel⟩, List.mem_of_getElem? (i := 1112) (by decide +kernel), List.mem_of_getElem? (i := 1456) (by decide +kernel), List.mem_of_getElem? (i := 1457) (by decide +kernel)⟩
theorem lw_p46 : lw_okq (⟨"PewRankModel", "isHouse", "(I)Z"⟩, 79) := ⟨⟨by decide +kernel, by decide +kernel⟩, List.mem_of_getElem? (i := 1112) (by decide +kernel), List.mem_of_getElem? (i := 1460) (by decide +kernel), List.mem_of_getElem? (i := 1461) (by decide +kernel)⟩
theorem lw_p47 : lw_okq (⟨"PewRankModel", "isRun", "(III)Z"⟩, 79) := ⟨⟨by decide +kernel, by decide +kernel⟩, List.mem_of_getElem? (i := 1112) (by decide +kernel), List.mem_of_getElem? (i := 1468) (by decide +kernel), List.mem_of_getElem? (i := 1469) (by decide +kernel)⟩
def lw_privs_3 : List (MethodName × Nat) := [(⟨"PewRank$Usher", "fillBest", "(II)V"⟩, 7), (⟨"PewRank$Usher", "sumSeated", "(LPewRank$Household;III)J"⟩, 7), (⟨"PewRank$Usher", "seatByRank", "(LPewRank$Seating;I)V"⟩, 7), (⟨"PewRank$Usher", "firstOfBest", "(ILPewRank$Household;II)I"⟩, 7), (⟨"PewRank", "hasComeToCustom", "(I)Z"⟩, 15), (⟨"PewRank", "enterCustom", "(ILPewRank$Seating;)V"⟩, 15), (⟨"PewRank", "ownedUnits", "(I)I"⟩, 15), (⟨"PewRankModel", "isUnit", "(II)Z"⟩, 79), (⟨"PewRankModel", "isBench", "(I)Z"⟩, 79), (⟨"PewRankModel", "hearing", "(II)I"⟩, 79), (⟨"PewRankModel", "inWay", "(II)I"⟩, 79), (⟨"PewRankModel", "isInWay", "(III)Z"⟩, 79), (⟨"PewRankModel", "side", "(IIII)I"⟩, 79), (⟨"PewRankModel", "isThere", "(I)Z"⟩, 79), (⟨"PewRankModel", "isHouse", "(I)Z"⟩, 79), (⟨"PewRankModel", "isRun", "(III)Z"⟩, 79)]
theorem lw_r3 : ∀ q ∈ lw_privs_3, lw_okq q := List.forall_mem_cons.mpr ⟨lw_p32, List.forall_mem_cons.mpr ⟨lw_p33, List.forall_mem_cons.mpr ⟨lw_p34, List.forall_mem_cons.mpr ⟨lw_p35, List.forall_mem_cons.mpr ⟨lw_p36, List.forall_mem_cons.mpr ⟨lw_p37, List.forall_mem_cons.mpr ⟨lw_p38, List.forall_mem_cons.mpr ⟨lw_p39, List.forall_mem_cons.mpr ⟨lw_p40, List.forall_mem_cons.mpr ⟨lw_p41, List.forall_mem_cons.mpr ⟨lw_p42, List.forall_mem_cons.mpr ⟨lw_p43, List.forall_mem_cons.mpr ⟨lw_p44, List.forall_mem_cons.mpr ⟨lw_p45, List.forall_mem_cons.mpr ⟨lw_p46, List.forall_mem_cons.mpr ⟨lw_p47, fun _ h => absurd h List.not_mem_nil⟩⟩⟩⟩⟩⟩⟩⟩⟩⟩⟩⟩⟩⟩⟩⟩
theorem lw_p48 : lw_okq (⟨"PewRankModel", "listens", "()V"⟩, 79) := ⟨⟨by decide +kernel, by decide +kernel⟩, List.mem_of_getElem? (i := 1112) (by decide +kernel), List.mem_of_getElem? (i := 1472) (by decide +kernel), List.mem_of_getElem? (i := 1473) (by decide +kernel)⟩
theorem lw_p49 : lw_okq (⟨"PewRankModel", "worthOf", "(IIII)I"⟩, 79) := ⟨⟨by decide +kernel, by decide +kernel⟩, List.mem_of_getElem? (i := 1112) (by decide +kernel), List.mem_of_getElem? (i := 1476) (by decide +kernel), List.mem_of_getElem? (i := 1477) (by decide +kernel)⟩
theorem lw_p50 : lw_okq (⟨"PewRankModel", "adds", "(IIIIIIIIZJ)I"⟩, 79) := ⟨⟨by decide +kernel, by decide +kernel⟩, List.mem_of_getElem? (i := 1112) (by decide +kernel), List.mem_of_getElem? (i := 1486) (by decide +kernel), List.mem_of_getElem? (i := 1487) (by decide +kernel)⟩
theorem lw_p51 : lw_okq (⟨"PewRankModel", "stops", "(I)V"⟩, 79) := ⟨⟨by decide +kernel, by decide +kernel⟩, List.mem_of_getElem? (i := 1112) (by decide +kernel), List.mem_of_getElem? (i := 1494) (by decide +kernel), List.mem_of_getElem? (i := 1495) (by decide +kernel)⟩
theorem lw_p52 : lw_okq (⟨"PewRankModel", "areYears", "(II)Z"⟩, 79) := ⟨⟨by decide +kernel, by decide +kernel⟩, List.mem_of_getElem? (i := 1112) (by decide +kernel), List.mem_of_getElem? (i := 1506) (by decide +kernel), List.mem_of_getElem? (i := 1507) (by decide +kernel)⟩
theorem lw_p53 : lw_okq (⟨"PewRankModel", "ownerOf", "(IIII)I"⟩, 79) := ⟨⟨by decide +kernel, by decide +kernel⟩, List.mem_of_getElem? (i := 1112) (by decide +kernel), List.mem_of_getElem? (i := 1510) (by decide +kernel), List.mem_of_getElem? (i := 1511) (by decide +kernel)⟩
theorem lw_p54 : lw_okq (⟨"PewRankModel", "bestRight", "(IIIIII)I"⟩, 79) := ⟨⟨by decide +kernel, by decide +kernel⟩, List.mem_of_getElem? (i := 1112) (by decide +kernel), List.mem_of_getElem? (i := 1514) (by decide +kernel), List.mem_of_getElem? (i := 1515) (by decide +kernel)⟩
theorem lw_p55 : lw_okq (⟨"PewRankModel", "isFor", "(III)Z"⟩, 79) := ⟨⟨by decide +kernel, by decide +kernel⟩, List.mem_of_getElem? (i := 1112) (by decide +kernel), List.mem_of_getElem? (i := 1518) (by decide +kernel), List.mem_of_getElem? (i := 1519) (by decide +kernel)⟩
theorem lw_p56 : lw_okq (⟨"PewRankModel", "whose", "(III)I"⟩, 79) := ⟨⟨by decide +kernel, by decide +kernel⟩, List.mem_of_getElem? (i := 1112) (by decide +kernel), List.mem_of_getElem? (i := 1522) (by decide +kernel), List.mem_of_getElem? (i := 1523) (by decide +kernel)⟩
theorem lw_p57 : lw_okq (⟨"PewRankModel", "isBetter", "(II)Z"⟩, 79) := ⟨⟨by decide +kernel, by decide +kernel⟩, List.mem_of_getElem? (i := 1112) (by decide +kernel), List.mem_of_getElem? (i := 1526) (by decide +kernel), List.mem_of_getElem? (i := 1527) (by decide +kernel)⟩
theorem lw_p58 : lw_okq (⟨"PewRankModel", "owns", "(II)V"⟩, 79) := ⟨⟨by decide +kernel, by decide +kernel⟩, List.mem_of_getElem? (i := 1112) (by decide +kernel), List.mem_of_getElem? (i := 1538) (by decide +kernel), List.mem_of_getElem? (i := 1539) (by decide +kernel)⟩
theorem lw_p59 : lw_okq (⟨"PewRankModel", "sumsBut", "(I)J"⟩, 79) := ⟨⟨by decide +kernel, by decide +kernel⟩, List.mem_of_getElem? (i := 1112) (by decide +kernel), List.mem_of_getElem? (i := 1564) (by decide +kernel), List.mem_of_getElem? (i := 1565) (by decide +kernel)⟩
theorem lw_p60 : lw_okq (⟨"PewRankModel", "offered", "(II)J"⟩, 79) := ⟨⟨by decide +kernel, by decide +kernel⟩, List.mem_of_getElem? (i := 1112) (by decide +kernel), List.mem_of_getElem? (i := 1568) (by decide +kernel), List.mem_of_getElem? (i := 1569) (by decide +kernel)⟩
theorem lw_p61 : lw_okq (⟨"PewRankModel", "seats", "(Z)V"⟩, 79) := ⟨⟨by decide +kernel, by decide +kernel⟩, List.mem_of_getElem? (i := 1112) (by decide +kernel), List.mem_of_getElem? (i := 1583) (by decide +kernel), List.mem_of_getElem? (i := 1584) (by decide +kernel)⟩
theorem lw_p62 : lw_okq (⟨"PewRankModel", "byRights", "(I)V"⟩, 79) := ⟨⟨by decide +kernel, by decide +kernel⟩, List.mem_of_getElem? (i := 1112) (by decide +kernel), List.mem_of_getElem? (i := 1587) (by decide +kernel), List.mem_of_getElem? (i := 1588) (by decide +kernel)⟩
theorem lw_p63 : lw_okq (⟨"PewRankModel", "isFree", "(IIII)Z"⟩, 79) := ⟨⟨by decide +kernel, by decide +kernel⟩, List.mem_of_getElem? (i := 1112) (by decide +kernel), List.mem_of_getElem? (i := 1591) (by decide +kernel), List.mem_of_getElem? (i := 1592) (by decide +kernel)⟩
def lw_privs_4 : List (MethodName × Nat) := [(⟨"PewRankModel", "listens", "()V"⟩, 79), (⟨"PewRankModel", "worthOf", "(IIII)I"⟩, 79), (⟨"PewRankModel", "adds", "(IIIIIIIIZJ)I"⟩, 79), (⟨"PewRankModel", "stops", "(I)V"⟩, 79), (⟨"PewRankModel", "areYears", "(II)Z"⟩, 79), (⟨"PewRankModel", "ownerOf", "(IIII)I"⟩, 79), (⟨"PewRankModel", "bestRight", "(IIIIII)I"⟩, 79), (⟨"PewRankModel", "isFor", "(III)Z"⟩, 79), (⟨"PewRankModel", "whose", "(III)I"⟩, 79), (⟨"PewRankModel", "isBetter", "(II)Z"⟩, 79), (⟨"PewRankModel", "owns", "(II)V"⟩, 79), (⟨"PewRankModel", "sumsBut", "(I)J"⟩, 79), (⟨"PewRankModel", "offered", "(II)J"⟩, 79), (⟨"PewRankModel", "seats", "(Z)V"⟩, 79), (⟨"PewRankModel", "byRights", "(I)V"⟩, 79), (⟨"PewRankModel", "isFree", "(IIII)Z"⟩, 79)]
theorem lw_r4 : ∀ q ∈ lw_privs_4, lw_okq q := List.forall_mem_cons.mpr ⟨lw_p48, List.forall_mem_cons.mpr ⟨lw_p49, List.forall_mem_cons.mpr ⟨lw_p50, List.forall_mem_cons.mpr ⟨lw_p51, List.forall_mem_cons.mpr ⟨lw_p52, List.forall_mem_cons.mpr ⟨lw_p53, List.forall_mem_cons.mpr ⟨lw_p54, List.forall_mem_cons.mpr ⟨lw_p55, List.forall_mem_cons.mpr ⟨lw_p56, List.forall_mem_cons.mpr ⟨lw_p57, List.forall_mem_cons.mpr ⟨lw_p58, List.forall_mem_cons.mpr ⟨lw_p59, List.forall_mem_cons.mpr ⟨lw_p60, List.forall_mem_cons.mpr ⟨lw_p61, List.forall_mem_cons.mpr ⟨lw_p62, List.forall_mem_cons.mpr ⟨lw_p63, fun _ h => absurd h List.not_mem_nil⟩⟩⟩⟩⟩⟩⟩⟩⟩⟩⟩⟩⟩⟩⟩⟩
theorem lw_p64 : lw_okq (⟨"PewRankModel", "takes", "(IIIZ)V"⟩, 79) := ⟨⟨by decide +kernel, by decide +kernel⟩, List.mem_of_getElem? (i := 1112) (by decide +kernel), List.mem_of_getElem? (i := 1595) (by decide +kernel), List.mem_of_getElem? (i := 1596) (by decide +kernel)⟩
theorem lw_p65 : lw_okq (⟨"PewRankModel", "canByRank", "(II)Z"⟩, 79) := ⟨⟨by decide +kernel, by decide +kernel⟩, List.mem_of_getElem? (i := 1112) (by decide +kernel), List.mem_of_getElem? (i := 1599) (by decide +kernel), List.mem_of_getElem? (i := 1600) (by decide +kernel)⟩
theorem lw_p66 : lw_okq (⟨"PewRankModel", "gains", "(II)J"⟩, 79) := ⟨⟨by decide +kernel, by decide +kernel⟩, List.mem_of_getElem? (i := 1112) (by decide +kernel), List.mem_of_getElem? (i := 1603) (by decide +kernel), List.mem_of_getElem? (i := 1604) (by decide +kernel)⟩
theorem lw_p67 : lw_okq (⟨"PewRankModel", "hasUse", "(I)Z"⟩, 79) := ⟨⟨by decide +kernel, by decide +kernel⟩, List.mem_of_getElem? (i := 1112) (by decide +kernel), List.mem_of_getElem? (i := 1607) (by decide +kernel), List.mem_of_getElem? (i := 1608) (by decide +kernel)⟩
theorem lw_p68 : lw_okq (⟨"PewRankModel", "customs", "(I)V"⟩, 79) := ⟨⟨by decide +kernel, by decide +kernel⟩, List.mem_of_getElem? (i := 1112) (by decide +kernel), List.mem_of_getElem? (i := 1611) (by decide +kernel), List.mem_of_getElem? (i := 1612) (by decide +kernel)⟩
theorem lw_p69 : lw_okq (⟨"PewRankModel", "isPast", "(I)Z"⟩, 79) := ⟨⟨by decide +kernel, by decide +kernel⟩, List.mem_of_getElem? (i := 1112) (by decide +kernel), List.mem_of_getElem? (i := 1619) (by decide +kernel), List.mem_of_getElem? (i := 1620) (by decide +kernel)⟩
theorem lw_p70 : lw_okq (⟨"PewRankModel", "looks", "(I)V"⟩, 79) := ⟨⟨by decide +kernel, by decide +kernel⟩, List.mem_of_getElem? (i := 1112) (by decide +kernel), List.mem_of_getElem? (i := 1635) (by decide +kernel), List.mem_of_getElem? (i := 1636) (by decide +kernel)⟩
theorem lw_p71 : lw_okq (⟨"PewRankModel", "likes", "(II)I"⟩, 79) := ⟨⟨by decide +kernel, by decide +kernel⟩, List.mem_of_getElem? (i := 1112) (by decide +kernel), List.mem_of_getElem? (i := 1639) (by decide +kernel), List.mem_of_getElem? (i := 1640) (by decide +kernel)⟩
theorem lw_p72 : lw_okq (⟨"PewRankModel", "comesBack", "(I)Z"⟩, 79) := ⟨⟨by decide +kernel, by decide +kernel⟩, List.mem_of_getElem? (i := 1112) (by decide +kernel), List.mem_of_getElem? (i := 1643) (by decide +kernel), List.mem_of_getElem? (i := 1644) (by decide +kernel)⟩
theorem lw_p73 : lw_okq (⟨"PewRankModel", "ownRun", "(I)I"⟩, 79) := ⟨⟨by decide +kernel, by decide +kernel⟩, List.mem_of_getElem? (i := 1112) (by decide +kernel), List.mem_of_getElem? (i := 1656) (by decide +kernel), List.mem_of_getElem? (i := 1657) (by decide +kernel)⟩
theorem lw_p74 : lw_okq (⟨"PewRankModel", "bestRun", "(IIIZ)I"⟩, 79) := ⟨⟨by decide +kernel, by decide +kernel⟩, List.mem_of_getElem? (i := 1112) (by decide +kernel), List.mem_of_getElem? (i := 1660) (by decide +kernel), List.mem_of_getElem? (i := 1661) (by decide +kernel)⟩
def lw_privs_5 : List (MethodName × Nat) := [(⟨"PewRankModel", "takes", "(IIIZ)V"⟩, 79), (⟨"PewRankModel", "canByRank", "(II)Z"⟩, 79), (⟨"PewRankModel", "gains", "(II)J"⟩, 79), (⟨"PewRankModel", "hasUse", "(I)Z"⟩, 79), (⟨"PewRankModel", "customs", "(I)V"⟩, 79), (⟨"PewRankModel", "isPast", "(I)Z"⟩, 79), (⟨"PewRankModel", "looks", "(I)V"⟩, 79), (⟨"PewRankModel", "likes", "(II)I"⟩, 79), (⟨"PewRankModel", "comesBack", "(I)Z"⟩, 79), (⟨"PewRankModel", "ownRun", "(I)I"⟩, 79), (⟨"PewRankModel", "bestRun", "(IIIZ)I"⟩, 79)]
theorem lw_r5 : ∀ q ∈ lw_privs_5, lw_okq q := List.forall_mem_cons.mpr ⟨lw_p64, List.forall_mem_cons.mpr ⟨lw_p65, List.forall_mem_cons.mpr ⟨lw_p66, List.forall_mem_cons.mpr ⟨lw_p67, List.forall_mem_cons.mpr ⟨lw_p68, List.forall_mem_cons.mpr ⟨lw_p69, List.forall_mem_cons.mpr ⟨lw_p70, List.forall_mem_cons.mpr ⟨lw_p71, List.forall_mem_cons.mpr ⟨lw_p72, List.forall_mem_cons.mpr ⟨lw_p73, List.forall_mem_cons.mpr ⟨lw_p74, fun _ h => absurd h List.not_mem_nil⟩⟩⟩⟩⟩⟩⟩⟩⟩⟩⟩
def lw_privs : List (MethodName × Nat) := lw_privs_1 ++ (lw_privs_2 ++ (lw_privs_3 ++ (lw_privs_4 ++ (lw_privs_5))))
def lw_tbl : List Cond := k2_sels lw_privs ++ tables_1
theorem lw_privs_ok : ∀ q ∈ lw_privs, lw_okq q := by
  show ∀ q ∈ lw_privs_1 ++ (lw_privs_2 ++ (lw_privs_3 ++ (lw_privs_4 ++ (lw_privs_5)))), lw_okq q
  exact List.forall_mem_append.mpr ⟨lw_r1, List.forall_mem_append.mpr ⟨lw_r2, List.forall_mem_append.mpr ⟨lw_r3, List.forall_mem_append.mpr ⟨lw_r4, lw_r5⟩⟩⟩⟩
def RX0 : String := "PewRank$Auction"
def TX0 : u_T := fun k => match k with
  | 0 => ("PewRank$Auction", "lots", "I", false)
  | 1 => ("PewRank$Auction", "bench", "[I", true)
  | 2 => ("PewRank$Auction", "from", "[I", true)
  | 3 => ("PewRank$Auction", "units", "[I", true)
  | 4 => ("PewRank$Auction", "years", "[I", true)
  | 5 => ("PewRank$Auction", "offered", "[I", true)
  | 6 => ("PewRank$Auction", "best", "[I", true)
  | 7 => ("PewRank$Auction", "ahead", "[I", true)
  | 8 => ("PewRank$Auction", "winning", "[I", true)
  | 9 => ("PewRank$Auction", "wasHeld", "Z", false)
  | 10 => ("PewRank$Auction", "lotOf", "[I", true)
  | 11 => ("PewRank$Auction", "priceOf", "[I", true)
  | _ => ("PewRank$Auction", "offeredInAll", "I", false)
def tyX0 : Nat → FieldType := fun k => match k with
  | 0 => .int
  | 1 => .array .int
  | 2 => .array .int
  | 3 => .array .int
  | 4 => .array .int
  | 5 => .array .int
  | 6 => .array .int
  | 7 => .array .int
  | 8 => .array .int
  | 9 => .boolean
  | 10 => .array .int
  | 11 => .array .int
  | _ => .int
theorem nmX0 : ∀ a, a < 13 → ∀ b, b < 13 → a ≠ b → (TX0 a).2.1 ≠ (TX0 b).2.1 := by decide +kernel
theorem tyX0_ok : ∀ k, k < 13 → parseFieldDescriptor (TX0 k).2.2.1 = some (tyX0 k) := by decide +kernel
abbrev cX0_init : ByteArray := prog_2_method_1_code
def yX0_init : MethodName := ⟨RX0, "<init>", "()V"⟩
abbrev cX0_putUp : ByteArray := prog_2_method_2_code
def yX0_putUp : MethodName := ⟨RX0, "putUp", "(IIII)I"⟩
abbrev cX0_isLot : ByteArray := prog_2_method_3_code
def yX0_isLot : MethodName := ⟨RX0, "isLot", "(I)Z"⟩
abbrev cX0_noteOffer : ByteArray := prog_2_method_4_code
def yX0_noteOffer : MethodName := ⟨RX0, "noteOffer", "(III)V"⟩
abbrev cX0_dropOffersOf : ByteArray := prog_2_method_5_code
def yX0_dropOffersOf : MethodName := ⟨RX0, "dropOffersOf", "(I)V"⟩
abbrev cX0_findWinners : ByteArray := prog_2_method_6_code
def yX0_findWinners : MethodName := ⟨RX0, "findWinners", "()I"⟩
abbrev cX0_findPrices : ByteArray := prog_2_method_7_code
def yX0_findPrices : MethodName := ⟨RX0, "findPrices", "()V"⟩
abbrev cX0_income : ByteArray := prog_2_method_8_code
def yX0_income : MethodName := ⟨RX0, "income", "()J"⟩
abbrev cX0_close : ByteArray := prog_2_method_9_code
def yX0_close : MethodName := ⟨RX0, "close", "()V"⟩
abbrev cX0_fillBest : ByteArray := prog_2_method_10_code
def yX0_fillBest : MethodName := ⟨RX0, "fillBest", "()V"⟩
abbrev cX0_bestWithout : ByteArray := prog_2_method_11_code
def yX0_bestWithout : MethodName := ⟨RX0, "bestWithout", "(I)I"⟩
abbrev cX0_addAhead : ByteArray := prog_2_method_12_code
def yX0_addAhead : MethodName := ⟨RX0, "addAhead", "(I)V"⟩
abbrev cX0_bestWithLot : ByteArray := prog_2_method_13_code
def yX0_bestWithLot : MethodName := ⟨RX0, "bestWithLot", "(II)I"⟩
abbrev cX0_sumWithLot : ByteArray := prog_2_method_14_code
def yX0_sumWithLot : MethodName := ⟨RX0, "sumWithLot", "(III)I"⟩
abbrev cX0_leastLot : ByteArray := prog_2_method_15_code
def yX0_leastLot : MethodName := ⟨RX0, "leastLot", "(II)I"⟩
def RX1 : String := "PewRank$Church"
def TX1 : u_T := fun k => match k with
  | 0 => ("PewRank$Church", "pulpitX", "I", false)
  | 1 => ("PewRank$Church", "pulpitY", "I", false)
  | 2 => ("PewRank$Church", "pulpitLoud", "I", false)
  | 3 => ("PewRank$Church", "pillars", "I", false)
  | 4 => ("PewRank$Church", "pillarX", "[I", true)
  | 5 => ("PewRank$Church", "pillarY", "[I", true)
  | 6 => ("PewRank$Church", "pillarHalf", "[I", true)
  | 7 => ("PewRank$Church", "benches", "I", false)
  | 8 => ("PewRank$Church", "benchX", "[I", true)
  | 9 => ("PewRank$Church", "benchY", "[I", true)
  | 10 => ("PewRank$Church", "benchUnits", "[I", true)
  | 11 => ("PewRank$Church", "isGallery", "[Z", true)
  | 12 => ("PewRank$Church", "hearing", "[I", true)
  | _ => ("PewRank$Church", "inWay", "[I", true)
def tyX1 : Nat → FieldType := fun k => match k with
  | 0 => .int
  | 1 => .int
  | 2 => .int
  | 3 => .int
  | 4 => .array .int
  | 5 => .array .int
  | 6 => .array .int
  | 7 => .int
  | 8 => .array .int
  | 9 => .array .int
  | 10 => .array .int
  | 11 => .array .boolean
  | 12 => .array .int
  | _ => .array .int
theorem nmX1 : ∀ a, a < 14 → ∀ b, b < 14 → a ≠ b → (TX1 a).2.1 ≠ (TX1 b).2.1 := by decide +kernel
theorem tyX1_ok : ∀ k, k < 14 → parseFieldDescriptor (TX1 k).2.2.1 = some (tyX1 k) := by decide +kernel
abbrev cX1_init : ByteArray := prog_3_method_1_code
def yX1_init : MethodName := ⟨RX1, "<init>", "()V"⟩
abbrev cX1_standPulpit : ByteArray := prog_3_method_2_code
def yX1_standPulpit : MethodName := ⟨RX1, "standPulpit", "(III)V"⟩
abbrev cX1_addPillar : ByteArray := prog_3_method_3_code
def yX1_addPillar : MethodName := ⟨RX1, "addPillar", "(III)I"⟩
abbrev cX1_addBench : ByteArray := prog_3_method_4_code
def yX1_addBench : MethodName := ⟨RX1, "addBench", "(IIIZ)I"⟩
abbrev cX1_hasUnit : ByteArray := prog_3_method_5_code
def yX1_hasUnit : MethodName := ⟨RX1, "hasUnit", "(II)Z"⟩
abbrev cX1_hasRun : ByteArray := prog_3_method_6_code
def yX1_hasRun : MethodName := ⟨RX1, "hasRun", "(III)Z"⟩
abbrev cX1_isUnitSpot : ByteArray := prog_3_method_7_code
def yX1_isUnitSpot : MethodName := ⟨RX1, "isUnitSpot", "(I)Z"⟩
abbrev cX1_spotsEnd : ByteArray := prog_3_method_8_code
def yX1_spotsEnd : MethodName := ⟨RX1, "spotsEnd", "()I"⟩
abbrev cX1_worthOf : ByteArray := prog_3_method_9_code
def yX1_worthOf : MethodName := ⟨RX1, "worthOf", "(III)I"⟩
abbrev cX1_measureAll : ByteArray := prog_3_method_10_code
def yX1_measureAll : MethodName := ⟨RX1, "measureAll", "()V"⟩
abbrev cX1_measureBench : ByteArray := prog_3_method_11_code
def yX1_measureBench : MethodName := ⟨RX1, "measureBench", "(I)V"⟩
abbrev cX1_heardAt : ByteArray := prog_3_method_12_code
def yX1_heardAt : MethodName := ⟨RX1, "heardAt", "(IIIZ)I"⟩
abbrev cX1_isInWay : ByteArray := prog_3_method_13_code
def yX1_isInWay : MethodName := ⟨RX1, "isInWay", "(III)Z"⟩
abbrev cX1_sideOf : ByteArray := prog_3_method_14_code
def yX1_sideOf : MethodName := ⟨RX1, "sideOf", "(IIII)I"⟩
def RX2 : String := "PewRank$Household"
def TX2 : u_T := fun k => match k with
  | 0 => ("PewRank$Household", "rank", "I", false)
  | 1 => ("PewRank$Household", "width", "I", false)
  | 2 => ("PewRank$Household", "deaf", "I", false)
  | 3 => ("PewRank$Household", "isGone", "Z", false)
  | _ => ("PewRank$Household", "yearsSat", "I", false)
def tyX2 : Nat → FieldType := fun k => match k with
  | 0 => .int
  | 1 => .int
  | 2 => .int
  | 3 => .boolean
  | _ => .int
theorem nmX2 : ∀ a, a < 5 → ∀ b, b < 5 → a ≠ b → (TX2 a).2.1 ≠ (TX2 b).2.1 := by decide +kernel
theorem tyX2_ok : ∀ k, k < 5 → parseFieldDescriptor (TX2 k).2.2.1 = some (tyX2 k) := by decide +kernel
abbrev cX2_init : ByteArray := prog_4_method_1_code
def yX2_init : MethodName := ⟨RX2, "<init>", "(III)V"⟩
def RX3 : String := "PewRank$Ledger"
def TX3 : u_T := fun k => match k with
  | 0 => ("PewRank$Ledger", "rights", "[LPewRank$Right;", true)
  | 1 => ("PewRank$Ledger", "size", "I", false)
  | 2 => ("PewRank$Ledger", "sales", "I", false)
  | 3 => ("PewRank$Ledger", "plotOwners", "[I", true)
  | _ => ("PewRank$Ledger", "bestAt", "[I", true)
def tyX3 : Nat → FieldType := fun k => match k with
  | 0 => .array (.object "PewRank$Right")
  | 1 => .int
  | 2 => .int
  | 3 => .array .int
  | _ => .array .int
theorem nmX3 : ∀ a, a < 5 → ∀ b, b < 5 → a ≠ b → (TX3 a).2.1 ≠ (TX3 b).2.1 := by decide +kernel
theorem tyX3_ok : ∀ k, k < 5 → parseFieldDescriptor (TX3 k).2.2.1 = some (tyX3 k) := by decide +kernel
abbrev cX3_init : ByteArray := prog_5_method_1_code
def yX3_init : MethodName := ⟨RX3, "<init>", "()V"⟩
abbrev cX3_isPlot : ByteArray := prog_5_method_2_code
def yX3_isPlot : MethodName := ⟨RX3, "isPlot", "(I)Z"⟩
abbrev cX3_plotOwner : ByteArray := prog_5_method_3_code
def yX3_plotOwner : MethodName := ⟨RX3, "plotOwner", "(II)I"⟩
abbrev cX3_givePlot : ByteArray := prog_5_method_4_code
def yX3_givePlot : MethodName := ⟨RX3, "givePlot", "(III)V"⟩
abbrev cX3_passPlots : ByteArray := prog_5_method_5_code
def yX3_passPlots : MethodName := ⟨RX3, "passPlots", "(III)V"⟩
abbrev cX3_numbersLeft : ByteArray := prog_5_method_6_code
def yX3_numbersLeft : MethodName := ⟨RX3, "numbersLeft", "()I"⟩
abbrev cX3_enter : ByteArray := prog_5_method_7_code
def yX3_enter : MethodName := ⟨RX3, "enter", "(LPewRank$Right;)I"⟩
abbrev cX3_find : ByteArray := prog_5_method_8_code
def yX3_find : MethodName := ⟨RX3, "find", "(I)LPewRank$Right;"⟩
abbrev cX3_holderOf : ByteArray := prog_5_method_9_code
def yX3_holderOf : MethodName := ⟨RX3, "holderOf", "(II)I"⟩
abbrev cX3_bestFor : ByteArray := prog_5_method_10_code
def yX3_bestFor : MethodName := ⟨RX3, "bestFor", "(IIIII)I"⟩
abbrev cX3_fillOwners : ByteArray := prog_5_method_11_code
def yX3_fillOwners : MethodName := ⟨RX3, "fillOwners", "(I[I)V"⟩
abbrev cX3_markBest : ByteArray := prog_5_method_12_code
def yX3_markBest : MethodName := ⟨RX3, "markBest", "(LPewRank$Right;I)V"⟩
abbrev cX3_heldBy : ByteArray := prog_5_method_13_code
def yX3_heldBy : MethodName := ⟨RX3, "heldBy", "(II)I"⟩
abbrev cX3_heritableOf : ByteArray := prog_5_method_14_code
def yX3_heritableOf : MethodName := ⟨RX3, "heritableOf", "(II)I"⟩
abbrev cX3_passRights : ByteArray := prog_5_method_15_code
def yX3_passRights : MethodName := ⟨RX3, "passRights", "(III)V"⟩
abbrev cX3_inherited : ByteArray := prog_5_method_16_code
def yX3_inherited : MethodName := ⟨RX3, "inherited", "(LPewRank$Right;III)LPewRank$Right;"⟩
def RX4 : String := "PewRank$Parish"
def TX4 : u_T := fun k => match k with
  | 0 => ("PewRank$Parish", "households", "[LPewRank$Household;", true)
  | _ => ("PewRank$Parish", "size", "I", false)
def tyX4 : Nat → FieldType := fun k => match k with
  | 0 => .array (.object "PewRank$Household")
  | _ => .int
theorem nmX4 : ∀ a, a < 2 → ∀ b, b < 2 → a ≠ b → (TX4 a).2.1 ≠ (TX4 b).2.1 := by decide +kernel
theorem tyX4_ok : ∀ k, k < 2 → parseFieldDescriptor (TX4 k).2.2.1 = some (tyX4 k) := by decide +kernel
abbrev cX4_init : ByteArray := prog_6_method_1_code
def yX4_init : MethodName := ⟨RX4, "<init>", "()V"⟩
abbrev cX4_addHousehold : ByteArray := prog_6_method_2_code
def yX4_addHousehold : MethodName := ⟨RX4, "addHousehold", "(III)I"⟩
abbrev cX4_isHousehold : ByteArray := prog_6_method_3_code
def yX4_isHousehold : MethodName := ⟨RX4, "isHousehold", "(I)Z"⟩
abbrev cX4_find : ByteArray := prog_6_method_4_code
def yX4_find : MethodName := ⟨RX4, "find", "(I)LPewRank$Household;"⟩
abbrev cX4_rankOf : ByteArray := prog_6_method_5_code
def yX4_rankOf : MethodName := ⟨RX4, "rankOf", "(I)I"⟩
abbrev cX4_isStaying : ByteArray := prog_6_method_6_code
def yX4_isStaying : MethodName := ⟨RX4, "isStaying", "(I)Z"⟩
abbrev cX4_staying : ByteArray := prog_6_method_7_code
def yX4_staying : MethodName := ⟨RX4, "staying", "()I"⟩
abbrev cX4_noteYear : ByteArray := prog_6_method_8_code
def yX4_noteYear : MethodName := ⟨RX4, "noteYear", "(IZ)V"⟩
abbrev cX4_fillOrder : ByteArray := prog_6_method_9_code
def yX4_fillOrder : MethodName := ⟨RX4, "fillOrder", "([I)I"⟩
abbrev cX4_worthOfAll : ByteArray := prog_6_method_10_code
def yX4_worthOfAll : MethodName := ⟨RX4, "worthOfAll", "(LPewRank$Seating;)J"⟩
def RX5 : String := "PewRank$Right"
def TX5 : u_T := fun k => match k with
  | 0 => ("PewRank$Right", "kind", "I", true)
  | 1 => ("PewRank$Right", "holder", "I", true)
  | 2 => ("PewRank$Right", "bench", "I", true)
  | 3 => ("PewRank$Right", "from", "I", true)
  | 4 => ("PewRank$Right", "units", "I", true)
  | 5 => ("PewRank$Right", "since", "I", false)
  | 6 => ("PewRank$Right", "firstYear", "I", false)
  | 7 => ("PewRank$Right", "until", "I", false)
  | 8 => ("PewRank$Right", "knownIn", "I", false)
  | 9 => ("PewRank$Right", "heirs", "Z", false)
  | 10 => ("PewRank$Right", "price", "I", false)
  | 11 => ("PewRank$Right", "untilBefore", "I", false)
  | _ => ("PewRank$Right", "endToldIn", "I", false)
def tyX5 : Nat → FieldType := fun k => match k with
  | 0 => .int
  | 1 => .int
  | 2 => .int
  | 3 => .int
  | 4 => .int
  | 5 => .int
  | 6 => .int
  | 7 => .int
  | 8 => .int
  | 9 => .boolean
  | 10 => .int
  | 11 => .int
  | _ => .int
theorem nmX5 : ∀ a, a < 13 → ∀ b, b < 13 → a ≠ b → (TX5 a).2.1 ≠ (TX5 b).2.1 := by decide +kernel
theorem tyX5_ok : ∀ k, k < 13 → parseFieldDescriptor (TX5 k).2.2.1 = some (tyX5 k) := by decide +kernel
abbrev cX5_init : ByteArray := prog_7_method_1_code
def yX5_init : MethodName := ⟨RX5, "<init>", "(IIIII)V"⟩
abbrev cX5_setYears : ByteArray := prog_7_method_2_code
def yX5_setYears : MethodName := ⟨RX5, "setYears", "(IIII)V"⟩
abbrev cX5_endAhead : ByteArray := prog_7_method_3_code
def yX5_endAhead : MethodName := ⟨RX5, "endAhead", "(I)V"⟩
abbrev cX5_isOn : ByteArray := prog_7_method_4_code
def yX5_isOn : MethodName := ⟨RX5, "isOn", "(II)Z"⟩
abbrev cX5_isFor : ByteArray := prog_7_method_5_code
def yX5_isFor : MethodName := ⟨RX5, "isFor", "(II)Z"⟩
abbrev cX5_isStillHeldBy : ByteArray := prog_7_method_6_code
def yX5_isStillHeldBy : MethodName := ⟨RX5, "isStillHeldBy", "(II)Z"⟩
abbrev cX5_isBetterThan : ByteArray := prog_7_method_7_code
def yX5_isBetterThan : MethodName := ⟨RX5, "isBetterThan", "(LPewRank$Right;)Z"⟩
abbrev cX5_detail : ByteArray := prog_7_method_8_code
def yX5_detail : MethodName := ⟨RX5, "detail", "(I)I"⟩
def RX6 : String := "PewRank$Rings"
def TX6 : u_T := fun k => match k with
  | 0 => ("PewRank$Rings", "church", "LPewRank$Church;", true)
  | 1 => ("PewRank$Rings", "parish", "LPewRank$Parish;", true)
  | 2 => ("PewRank$Rings", "looksAt", "[I", true)
  | _ => ("PewRank$Rings", "to", "[I", true)
def tyX6 : Nat → FieldType := fun k => match k with
  | 0 => .object "PewRank$Church"
  | 1 => .object "PewRank$Parish"
  | 2 => .array .int
  | _ => .array .int
theorem nmX6 : ∀ a, a < 4 → ∀ b, b < 4 → a ≠ b → (TX6 a).2.1 ≠ (TX6 b).2.1 := by decide +kernel
theorem tyX6_ok : ∀ k, k < 4 → parseFieldDescriptor (TX6 k).2.2.1 = some (tyX6 k) := by decide +kernel
abbrev cX6_init : ByteArray := prog_8_method_1_code
def yX6_init : MethodName := ⟨RX6, "<init>", "(LPewRank$Church;LPewRank$Parish;)V"⟩
abbrev cX6_turn : ByteArray := prog_8_method_2_code
def yX6_turn : MethodName := ⟨RX6, "turn", "(ILPewRank$Seating;)I"⟩
abbrev cX6_lookRound : ByteArray := prog_8_method_3_code
def yX6_lookRound : MethodName := ⟨RX6, "lookRound", "(ILPewRank$Seating;)V"⟩
abbrev cX6_favourite : ByteArray := prog_8_method_4_code
def yX6_favourite : MethodName := ⟨RX6, "favourite", "(IILPewRank$Seating;)I"⟩
abbrev cX6_worthOfRun : ByteArray := prog_8_method_5_code
def yX6_worthOfRun : MethodName := ⟨RX6, "worthOfRun", "(LPewRank$Household;ILPewRank$Seating;)I"⟩
abbrev cX6_ringed : ByteArray := prog_8_method_6_code
def yX6_ringed : MethodName := ⟨RX6, "ringed", "(I)I"⟩
abbrev cX6_isInRing : ByteArray := prog_8_method_7_code
def yX6_isInRing : MethodName := ⟨RX6, "isInRing", "(I)Z"⟩
abbrev cX6_letGo : ByteArray := prog_8_method_8_code
def yX6_letGo : MethodName := ⟨RX6, "letGo", "(I)I"⟩
def RX7 : String := "PewRank$Rows"
def TX7 : u_T := fun k => match k with
  | 0 => ("PewRank$Rows", "numbers", "[J", true)
  | 1 => ("PewRank$Rows", "lengths", "[I", true)
  | _ => ("PewRank$Rows", "widths", "[I", true)
def tyX7 : Nat → FieldType := fun k => match k with
  | 0 => .array .long
  | 1 => .array .int
  | _ => .array .int
theorem nmX7 : ∀ a, a < 3 → ∀ b, b < 3 → a ≠ b → (TX7 a).2.1 ≠ (TX7 b).2.1 := by decide +kernel
theorem tyX7_ok : ∀ k, k < 3 → parseFieldDescriptor (TX7 k).2.2.1 = some (tyX7 k) := by decide +kernel
abbrev cX7_init : ByteArray := prog_9_method_1_code
def yX7_init : MethodName := ⟨RX7, "<init>", "()V"⟩
abbrev cX7_isPlace : ByteArray := prog_9_method_2_code
def yX7_isPlace : MethodName := ⟨RX7, "isPlace", "(I)Z"⟩
abbrev cX7_isFilled : ByteArray := prog_9_method_3_code
def yX7_isFilled : MethodName := ⟨RX7, "isFilled", "(I)Z"⟩
abbrev cX7_filled : ByteArray := prog_9_method_4_code
def yX7_filled : MethodName := ⟨RX7, "filled", "()I"⟩
abbrev cX7_lengthOf : ByteArray := prog_9_method_5_code
def yX7_lengthOf : MethodName := ⟨RX7, "lengthOf", "(I)I"⟩
abbrev cX7_numberAt : ByteArray := prog_9_method_6_code
def yX7_numberAt : MethodName := ⟨RX7, "numberAt", "(II)J"⟩
abbrev cX7_lay : ByteArray := prog_9_method_7_code
def yX7_lay : MethodName := ⟨RX7, "lay", "(III)V"⟩
abbrev cX7_clear : ByteArray := prog_9_method_8_code
def yX7_clear : MethodName := ⟨RX7, "clear", "(I)V"⟩
abbrev cX7_put : ByteArray := prog_9_method_9_code
def yX7_put : MethodName := ⟨RX7, "put", "(IIJ)I"⟩
abbrev cX7_copy : ByteArray := prog_9_method_10_code
def yX7_copy : MethodName := ⟨RX7, "copy", "(IIIII)I"⟩
abbrev cX7_cut : ByteArray := prog_9_method_11_code
def yX7_cut : MethodName := ⟨RX7, "cut", "(JI)J"⟩
def RX8 : String := "PewRank$Seating"
def TX8 : u_T := fun k => match k with
  | 0 => ("PewRank$Seating", "spot", "[I", true)
  | 1 => ("PewRank$Seating", "width", "[I", true)
  | 2 => ("PewRank$Seating", "worth", "[I", true)
  | 3 => ("PewRank$Seating", "byRight", "[Z", true)
  | _ => ("PewRank$Seating", "sitting", "I", false)
def tyX8 : Nat → FieldType := fun k => match k with
  | 0 => .array .int
  | 1 => .array .int
  | 2 => .array .int
  | 3 => .array .boolean
  | _ => .int
theorem nmX8 : ∀ a, a < 5 → ∀ b, b < 5 → a ≠ b → (TX8 a).2.1 ≠ (TX8 b).2.1 := by decide +kernel
theorem tyX8_ok : ∀ k, k < 5 → parseFieldDescriptor (TX8 k).2.2.1 = some (tyX8 k) := by decide +kernel
abbrev cX8_init : ByteArray := prog_10_method_1_code
def yX8_init : MethodName := ⟨RX8, "<init>", "()V"⟩
abbrev cX8_clear : ByteArray := prog_10_method_2_code
def yX8_clear : MethodName := ⟨RX8, "clear", "()V"⟩
abbrev cX8_put : ByteArray := prog_10_method_3_code
def yX8_put : MethodName := ⟨RX8, "put", "(IIIIZ)V"⟩
abbrev cX8_isSitting : ByteArray := prog_10_method_4_code
def yX8_isSitting : MethodName := ⟨RX8, "isSitting", "(I)Z"⟩
abbrev cX8_isSameRun : ByteArray := prog_10_method_5_code
def yX8_isSameRun : MethodName := ⟨RX8, "isSameRun", "(LPewRank$Seating;I)Z"⟩
abbrev cX8_unitsSatOn : ByteArray := prog_10_method_6_code
def yX8_unitsSatOn : MethodName := ⟨RX8, "unitsSatOn", "()I"⟩
def RX9 : String := "PewRank$Sundays"
def TX9 : u_T := fun k => match k with
  | 0 => ("PewRank$Sundays", "church", "LPewRank$Church;", true)
  | 1 => ("PewRank$Sundays", "parish", "LPewRank$Parish;", true)
  | 2 => ("PewRank$Sundays", "usher", "LPewRank$Usher;", true)
  | 3 => ("PewRank$Sundays", "isSpare", "[Z", true)
  | 4 => ("PewRank$Sundays", "isTaken", "[Z", true)
  | 5 => ("PewRank$Sundays", "latest", "LPewRank$Seating;", false)
  | 6 => ("PewRank$Sundays", "low", "I", false)
  | 7 => ("PewRank$Sundays", "came", "I", false)
  | _ => ("PewRank$Sundays", "spotOf", "[I", true)
def tyX9 : Nat → FieldType := fun k => match k with
  | 0 => .object "PewRank$Church"
  | 1 => .object "PewRank$Parish"
  | 2 => .object "PewRank$Usher"
  | 3 => .array .boolean
  | 4 => .array .boolean
  | 5 => .object "PewRank$Seating"
  | 6 => .int
  | 7 => .int
  | _ => .array .int
theorem nmX9 : ∀ a, a < 9 → ∀ b, b < 9 → a ≠ b → (TX9 a).2.1 ≠ (TX9 b).2.1 := by decide +kernel
theorem tyX9_ok : ∀ k, k < 9 → parseFieldDescriptor (TX9 k).2.2.1 = some (tyX9 k) := by decide +kernel
abbrev cX9_init : ByteArray := prog_11_method_1_code
def yX9_init : MethodName := ⟨RX9, "<init>", "(LPewRank$Church;LPewRank$Parish;LPewRank$Usher;)V"⟩
abbrev cX9_canCome : ByteArray := prog_11_method_2_code
def yX9_canCome : MethodName := ⟨RX9, "canCome", "(LPewRank$Rows;I)Z"⟩
abbrev cX9_open : ByteArray := prog_11_method_3_code
def yX9_open : MethodName := ⟨RX9, "open", "([ILPewRank$Seating;I)V"⟩
abbrev cX9_hold : ByteArray := prog_11_method_4_code
def yX9_hold : MethodName := ⟨RX9, "hold", "(LPewRank$Rows;II)I"⟩
abbrev cX9_keepRun : ByteArray := prog_11_method_5_code
def yX9_keepRun : MethodName := ⟨RX9, "keepRun", "(II)V"⟩
abbrev cX9_seatStranger : ByteArray := prog_11_method_6_code
def yX9_seatStranger : MethodName := ⟨RX9, "seatStranger", "(IZ)I"⟩
abbrev cX9_seatHousehold : ByteArray := prog_11_method_7_code
def yX9_seatHousehold : MethodName := ⟨RX9, "seatHousehold", "(IZ)I"⟩
abbrev cX9_isOwnRunFree : ByteArray := prog_11_method_8_code
def yX9_isOwnRunFree : MethodName := ⟨RX9, "isOwnRunFree", "(II)Z"⟩
abbrev cX9_openSpots : ByteArray := prog_11_method_9_code
def yX9_openSpots : MethodName := ⟨RX9, "openSpots", "(Z)V"⟩
abbrev cX9_take : ByteArray := prog_11_method_10_code
def yX9_take : MethodName := ⟨RX9, "take", "(II)I"⟩
def RX10 : String := "PewRank$Usher"
def TX10 : u_T := fun k => match k with
  | 0 => ("PewRank$Usher", "church", "LPewRank$Church;", true)
  | 1 => ("PewRank$Usher", "parish", "LPewRank$Parish;", true)
  | 2 => ("PewRank$Usher", "reach", "[I", true)
  | 3 => ("PewRank$Usher", "order", "[I", true)
  | 4 => ("PewRank$Usher", "waiting", "[I", true)
  | 5 => ("PewRank$Usher", "waiters", "I", false)
  | _ => ("PewRank$Usher", "best", "[J", true)
def tyX10 : Nat → FieldType := fun k => match k with
  | 0 => .object "PewRank$Church"
  | 1 => .object "PewRank$Parish"
  | 2 => .array .int
  | 3 => .array .int
  | 4 => .array .int
  | 5 => .int
  | _ => .array .long
theorem nmX10 : ∀ a, a < 7 → ∀ b, b < 7 → a ≠ b → (TX10 a).2.1 ≠ (TX10 b).2.1 := by decide +kernel
theorem tyX10_ok : ∀ k, k < 7 → parseFieldDescriptor (TX10 k).2.2.1 = some (tyX10 k) := by decide +kernel
abbrev cX10_init : ByteArray := prog_12_method_1_code
def yX10_init : MethodName := ⟨RX10, "<init>", "(LPewRank$Church;LPewRank$Parish;)V"⟩
abbrev cX10_setOpen : ByteArray := prog_12_method_2_code
def yX10_setOpen : MethodName := ⟨RX10, "setOpen", "(IZ)V"⟩
abbrev cX10_bestRun : ByteArray := prog_12_method_3_code
def yX10_bestRun : MethodName := ⟨RX10, "bestRun", "(IIZ)I"⟩
abbrev cX10_seatAll : ByteArray := prog_12_method_4_code
def yX10_seatAll : MethodName := ⟨RX10, "seatAll", "(LPewRank$Seating;[II)V"⟩
abbrev cX10_openThoseOf : ByteArray := prog_12_method_5_code
def yX10_openThoseOf : MethodName := ⟨RX10, "openThoseOf", "([II)V"⟩
abbrev cX10_isRunOpen : ByteArray := prog_12_method_6_code
def yX10_isRunOpen : MethodName := ⟨RX10, "isRunOpen", "(IIZ)Z"⟩
abbrev cX10_seatByRight : ByteArray := prog_12_method_7_code
def yX10_seatByRight : MethodName := ⟨RX10, "seatByRight", "(LPewRank$Seating;[II)Z"⟩
abbrev cX10_fillBest : ByteArray := prog_12_method_8_code
def yX10_fillBest : MethodName := ⟨RX10, "fillBest", "(II)V"⟩
abbrev cX10_sumSeated : ByteArray := prog_12_method_9_code
def yX10_sumSeated : MethodName := ⟨RX10, "sumSeated", "(LPewRank$Household;III)J"⟩
abbrev cX10_seatByRank : ByteArray := prog_12_method_10_code
def yX10_seatByRank : MethodName := ⟨RX10, "seatByRank", "(LPewRank$Seating;I)V"⟩
abbrev cX10_firstOfBest : ByteArray := prog_12_method_11_code
def yX10_firstOfBest : MethodName := ⟨RX10, "firstOfBest", "(ILPewRank$Household;II)I"⟩
def RX11 : String := "PewRank"
def TX11 : u_T := fun k => match k with
  | 0 => ("PewRank", "church", "LPewRank$Church;", true)
  | 1 => ("PewRank", "parish", "LPewRank$Parish;", true)
  | 2 => ("PewRank", "ledger", "LPewRank$Ledger;", true)
  | 3 => ("PewRank", "usher", "LPewRank$Usher;", true)
  | 4 => ("PewRank", "auction", "LPewRank$Auction;", true)
  | 5 => ("PewRank", "rings", "LPewRank$Rings;", true)
  | 6 => ("PewRank", "sundays", "LPewRank$Sundays;", true)
  | 7 => ("PewRank", "rows", "LPewRank$Rows;", true)
  | 8 => ("PewRank", "history", "[LPewRank$Seating;", true)
  | 9 => ("PewRank", "thought", "LPewRank$Seating;", true)
  | 10 => ("PewRank", "owner", "[I", true)
  | 11 => ("PewRank", "year", "I", false)
  | 12 => ("PewRank", "use", "I", false)
  | 13 => ("PewRank", "low", "I", false)
  | _ => ("PewRank", "fund", "J", false)
def tyX11 : Nat → FieldType := fun k => match k with
  | 0 => .object "PewRank$Church"
  | 1 => .object "PewRank$Parish"
  | 2 => .object "PewRank$Ledger"
  | 3 => .object "PewRank$Usher"
  | 4 => .object "PewRank$Auction"
  | 5 => .object "PewRank$Rings"
  | 6 => .object "PewRank$Sundays"
  | 7 => .object "PewRank$Rows"
  | 8 => .array (.object "PewRank$Seating")
  | 9 => .object "PewRank$Seating"
  | 10 => .array .int
  | 11 => .int
  | 12 => .int
  | 13 => .int
  | _ => .long
theorem nmX11 : ∀ a, a < 15 → ∀ b, b < 15 → a ≠ b → (TX11 a).2.1 ≠ (TX11 b).2.1 := by decide +kernel
theorem tyX11_ok : ∀ k, k < 15 → parseFieldDescriptor (TX11 k).2.2.1 = some (tyX11 k) := by decide +kernel
abbrev cX11_init : ByteArray := prog_1_method_1_code
def yX11_init : MethodName := ⟨RX11, "<init>", "()V"⟩
abbrev cX11_pulpit : ByteArray := prog_1_method_2_code
def yX11_pulpit : MethodName := ⟨RX11, "pulpit", "(III)I"⟩
abbrev cX11_terms : ByteArray := prog_1_method_3_code
def yX11_terms : MethodName := ⟨RX11, "terms", "(II)I"⟩
abbrev cX11_pillar : ByteArray := prog_1_method_4_code
def yX11_pillar : MethodName := ⟨RX11, "pillar", "(III)I"⟩
abbrev cX11_bench : ByteArray := prog_1_method_5_code
def yX11_bench : MethodName := ⟨RX11, "bench", "(IIIZ)I"⟩
abbrev cX11_household : ByteArray := prog_1_method_6_code
def yX11_household : MethodName := ⟨RX11, "household", "(III)I"⟩
abbrev cX11_changed : ByteArray := prog_1_method_7_code
def yX11_changed : MethodName := ⟨RX11, "changed", "(IIII)I"⟩
abbrev cX11_gone : ByteArray := prog_1_method_8_code
def yX11_gone : MethodName := ⟨RX11, "gone", "(II)I"⟩
abbrev cX11_sell : ByteArray := prog_1_method_9_code
def yX11_sell : MethodName := ⟨RX11, "sell", "(II)I"⟩
abbrev cX11_plotOf : ByteArray := prog_1_method_10_code
def yX11_plotOf : MethodName := ⟨RX11, "plotOf", "(II)I"⟩
abbrev cX11_right : ByteArray := prog_1_method_11_code
def yX11_right : MethodName := ⟨RX11, "right", "(IIIIIIIZ)I"⟩
abbrev cX11_ends : ByteArray := prog_1_method_12_code
def yX11_ends : MethodName := ⟨RX11, "ends", "(I)Z"⟩
abbrev cX11_rightOf : ByteArray := prog_1_method_13_code
def yX11_rightOf : MethodName := ⟨RX11, "rightOf", "(II)I"⟩
abbrev cX11_unit : ByteArray := prog_1_method_14_code
def yX11_unit : MethodName := ⟨RX11, "unit", "(III)I"⟩
abbrev cX11_worth : ByteArray := prog_1_method_15_code
def yX11_worth : MethodName := ⟨RX11, "worth", "(III)I"⟩
abbrev cX11_belongs : ByteArray := prog_1_method_16_code
def yX11_belongs : MethodName := ⟨RX11, "belongs", "(IIIII)I"⟩
abbrev cX11_judge : ByteArray := prog_1_method_17_code
def yX11_judge : MethodName := ⟨RX11, "judge", "(IIIIII)I"⟩
abbrev cX11_lot : ByteArray := prog_1_method_18_code
def yX11_lot : MethodName := ⟨RX11, "lot", "(IIII)I"⟩
abbrev cX11_offers : ByteArray := prog_1_method_19_code
def yX11_offers : MethodName := ⟨RX11, "offers", "(II)I"⟩
abbrev cX11_knock : ByteArray := prog_1_method_20_code
def yX11_knock : MethodName := ⟨RX11, "knock", "()J"⟩
abbrev cX11_knocked : ByteArray := prog_1_method_21_code
def yX11_knocked : MethodName := ⟨RX11, "knocked", "(II)J"⟩
abbrev cX11_change : ByteArray := prog_1_method_22_code
def yX11_change : MethodName := ⟨RX11, "change", "(I)I"⟩
abbrev cX11_changedTo : ByteArray := prog_1_method_23_code
def yX11_changedTo : MethodName := ⟨RX11, "changedTo", "(I)I"⟩
abbrev cX11_sunday : ByteArray := prog_1_method_24_code
def yX11_sunday : MethodName := ⟨RX11, "sunday", "(II)I"⟩
abbrev cX11_sat : ByteArray := prog_1_method_25_code
def yX11_sat : MethodName := ⟨RX11, "sat", "(I)I"⟩
abbrev cX11_go : ByteArray := prog_1_method_26_code
def yX11_go : MethodName := ⟨RX11, "go", "()I"⟩
abbrev cX11_seat : ByteArray := prog_1_method_27_code
def yX11_seat : MethodName := ⟨RX11, "seat", "(III)I"⟩
abbrev cX11_moved : ByteArray := prog_1_method_28_code
def yX11_moved : MethodName := ⟨RX11, "moved", "(II)I"⟩
abbrev cX11_beside : ByteArray := prog_1_method_29_code
def yX11_beside : MethodName := ⟨RX11, "beside", "(I)J"⟩
abbrev cX11_householdOf : ByteArray := prog_1_method_30_code
def yX11_householdOf : MethodName := ⟨RX11, "householdOf", "(II)I"⟩
abbrev cX11_benchOf : ByteArray := prog_1_method_31_code
def yX11_benchOf : MethodName := ⟨RX11, "benchOf", "(II)I"⟩
abbrev cX11_count : ByteArray := prog_1_method_32_code
def yX11_count : MethodName := ⟨RX11, "count", "(I)I"⟩
abbrev cX11_fund : ByteArray := prog_1_method_33_code
def yX11_fund : MethodName := ⟨RX11, "fund", "()J"⟩
abbrev cX11_row : ByteArray := prog_1_method_34_code
def yX11_row : MethodName := ⟨RX11, "row", "(III)I"⟩
abbrev cX11_tear : ByteArray := prog_1_method_35_code
def yX11_tear : MethodName := ⟨RX11, "tear", "(I)Z"⟩
abbrev cX11_write : ByteArray := prog_1_method_36_code
def yX11_write : MethodName := ⟨RX11, "write", "(IIJ)I"⟩
abbrev cX11_paste : ByteArray := prog_1_method_37_code
def yX11_paste : MethodName := ⟨RX11, "paste", "(IIIII)I"⟩
abbrev cX11_isWithin : ByteArray := prog_1_method_38_code
def yX11_isWithin : MethodName := ⟨RX11, "isWithin", "(III)Z"⟩
abbrev cX11_isPoint : ByteArray := prog_1_method_39_code
def yX11_isPoint : MethodName := ⟨RX11, "isPoint", "(I)Z"⟩
abbrev cX11_isYear : ByteArray := prog_1_method_40_code
def yX11_isYear : MethodName := ⟨RX11, "isYear", "(I)Z"⟩
abbrev cX11_isHouseholdAsTold : ByteArray := prog_1_method_41_code
def yX11_isHouseholdAsTold : MethodName := ⟨RX11, "isHouseholdAsTold", "(III)Z"⟩
abbrev cX11_isAsked : ByteArray := prog_1_method_42_code
def yX11_isAsked : MethodName := ⟨RX11, "isAsked", "(IIII)Z"⟩
abbrev cX11_seatingOf : ByteArray := prog_1_method_43_code
def yX11_seatingOf : MethodName := ⟨RX11, "seatingOf", "(I)LPewRank$Seating;"⟩
abbrev cX11_latestSeating : ByteArray := prog_1_method_44_code
def yX11_latestSeating : MethodName := ⟨RX11, "latestSeating", "()LPewRank$Seating;"⟩
abbrev cX11_ownedUnits : ByteArray := prog_1_method_45_code
def yX11_ownedUnits : MethodName := ⟨RX11, "ownedUnits", "(I)I"⟩
abbrev cX11_enterRent : ByteArray := prog_1_method_46_code
def yX11_enterRent : MethodName := ⟨RX11, "enterRent", "(I)V"⟩
abbrev cX11_hasComeToCustom : ByteArray := prog_1_method_47_code
def yX11_hasComeToCustom : MethodName := ⟨RX11, "hasComeToCustom", "(I)Z"⟩
abbrev cX11_enterCustom : ByteArray := prog_1_method_48_code
def yX11_enterCustom : MethodName := ⟨RX11, "enterCustom", "(ILPewRank$Seating;)V"⟩
def RX12 : String := "PewRankModel"
def TX12 : u_T := fun k => match k with
  | 0 => ("PewRankModel", "thrown", "I", false)
  | 1 => ("PewRankModel", "width", "[I", true)
  | 2 => ("PewRankModel", "size", "[I", true)
  | 3 => ("PewRankModel", "numbers", "[J", true)
  | 4 => ("PewRankModel", "moved", "[J", true)
  | 5 => ("PewRankModel", "year", "I", false)
  | 6 => ("PewRankModel", "pillars", "I", false)
  | 7 => ("PewRankModel", "benches", "I", false)
  | 8 => ("PewRankModel", "houses", "I", false)
  | 9 => ("PewRankModel", "rights", "I", false)
  | 10 => ("PewRankModel", "lots", "I", false)
  | 11 => ("PewRankModel", "sales", "I", false)
  | 12 => ("PewRankModel", "fund", "J", false)
  | 13 => ("PewRankModel", "pulpitX", "I", false)
  | 14 => ("PewRankModel", "pulpitY", "I", false)
  | 15 => ("PewRankModel", "loud", "I", false)
  | 16 => ("PewRankModel", "use", "I", false)
  | 17 => ("PewRankModel", "low", "I", false)
  | 18 => ("PewRankModel", "px", "[I", true)
  | 19 => ("PewRankModel", "py", "[I", true)
  | 20 => ("PewRankModel", "half", "[I", true)
  | 21 => ("PewRankModel", "bx", "[I", true)
  | 22 => ("PewRankModel", "by", "[I", true)
  | 23 => ("PewRankModel", "units", "[I", true)
  | 24 => ("PewRankModel", "isGallery", "[Z", true)
  | 25 => ("PewRankModel", "rank", "[I", true)
  | 26 => ("PewRankModel", "wide", "[I", true)
  | 27 => ("PewRankModel", "deaf", "[I", true)
  | 28 => ("PewRankModel", "isGone", "[Z", true)
  | 29 => ("PewRankModel", "plots", "[I", true)
  | 30 => ("PewRankModel", "kind", "[I", true)
  | 31 => ("PewRankModel", "holder", "[I", true)
  | 32 => ("PewRankModel", "rBench", "[I", true)
  | 33 => ("PewRankModel", "rFrom", "[I", true)
  | 34 => ("PewRankModel", "rUnits", "[I", true)
  | 35 => ("PewRankModel", "since", "[I", true)
  | 36 => ("PewRankModel", "first", "[I", true)
  | 37 => ("PewRankModel", "until", "[I", true)
  | 38 => ("PewRankModel", "untilWas", "[I", true)
  | 39 => ("PewRankModel", "endKnown", "[I", true)
  | 40 => ("PewRankModel", "known", "[I", true)
  | 41 => ("PewRankModel", "toHeirs", "[Z", true)
  | 42 => ("PewRankModel", "price", "[J", true)
  | 43 => ("PewRankModel", "lotBench", "[I", true)
  | 44 => ("PewRankModel", "lotFrom", "[I", true)
  | 45 => ("PewRankModel", "lotUnits", "[I", true)
  | 46 => ("PewRankModel", "lotYears", "[I", true)
  | 47 => ("PewRankModel", "offer", "[I", true)
  | 48 => ("PewRankModel", "seatBench", "[I", true)
  | 49 => ("PewRankModel", "seatUnit", "[I", true)
  | 50 => ("PewRankModel", "seatUnits", "[I", true)
  | 51 => ("PewRankModel", "seatWorth", "[I", true)
  | 52 => ("PewRankModel", "byRight", "[Z", true)
  | 53 => ("PewRankModel", "hears", "[I", true)
  | 54 => ("PewRankModel", "sees", "[Z", true)
  | 55 => ("PewRankModel", "sums", "[J", true)
  | 56 => ("PewRankModel", "isKnocked", "Z", false)
  | 57 => ("PewRankModel", "gotLot", "[I", true)
  | 58 => ("PewRankModel", "got", "[I", true)
  | 59 => ("PewRankModel", "pays", "[J", true)
  | 60 => ("PewRankModel", "knockHouses", "I", false)
  | 61 => ("PewRankModel", "knockSum", "J", false)
  | 62 => ("PewRankModel", "sitBench", "[I", true)
  | 63 => ("PewRankModel", "sitUnit", "[I", true)
  | 64 => ("PewRankModel", "sitWorth", "[I", true)
  | 65 => ("PewRankModel", "order", "[I", true)
  | 66 => ("PewRankModel", "rest", "[I", true)
  | 67 => ("PewRankModel", "sitRight", "[Z", true)
  | 68 => ("PewRankModel", "owner", "[I", true)
  | 69 => ("PewRankModel", "isSat", "[Z", true)
  | 70 => ("PewRankModel", "best", "[J", true)
  | 71 => ("PewRankModel", "looksAt", "[I", true)
  | 72 => ("PewRankModel", "wouldSit", "[I", true)
  | 73 => ("PewRankModel", "isIn", "[Z", true)
  | 74 => ("PewRankModel", "isRing", "[Z", true)
  | 75 => ("PewRankModel", "hasChanged", "Z", false)
  | 76 => ("PewRankModel", "sat", "[I", true)
  | 77 => ("PewRankModel", "satMany", "I", false)
  | _ => ("PewRankModel", "isKept", "[Z", true)
def tyX12 : Nat → FieldType := fun k => match k with
  | 0 => .int
  | 1 => .array .int
  | 2 => .array .int
  | 3 => .array .long
  | 4 => .array .long
  | 5 => .int
  | 6 => .int
  | 7 => .int
  | 8 => .int
  | 9 => .int
  | 10 => .int
  | 11 => .int
  | 12 => .long
  | 13 => .int
  | 14 => .int
  | 15 => .int
  | 16 => .int
  | 17 => .int
  | 18 => .array .int
  | 19 => .array .int
  | 20 => .array .int
  | 21 => .array .int
  | 22 => .array .int
  | 23 => .array .int
  | 24 => .array .boolean
  | 25 => .array .int
  | 26 => .array .int
  | 27 => .array .int
  | 28 => .array .boolean
  | 29 => .array .int
  | 30 => .array .int
  | 31 => .array .int
  | 32 => .array .int
  | 33 => .array .int
  | 34 => .array .int
  | 35 => .array .int
  | 36 => .array .int
  | 37 => .array .int
  | 38 => .array .int
  | 39 => .array .int
  | 40 => .array .int
  | 41 => .array .boolean
  | 42 => .array .long
  | 43 => .array .int
  | 44 => .array .int
  | 45 => .array .int
  | 46 => .array .int
  | 47 => .array .int
  | 48 => .array .int
  | 49 => .array .int
  | 50 => .array .int
  | 51 => .array .int
  | 52 => .array .boolean
  | 53 => .array .int
  | 54 => .array .boolean
  | 55 => .array .long
  | 56 => .boolean
  | 57 => .array .int
  | 58 => .array .int
  | 59 => .array .long
  | 60 => .int
  | 61 => .long
  | 62 => .array .int
  | 63 => .array .int
  | 64 => .array .int
  | 65 => .array .int
  | 66 => .array .int
  | 67 => .array .boolean
  | 68 => .array .int
  | 69 => .array .boolean
  | 70 => .array .long
  | 71 => .array .int
  | 72 => .array .int
  | 73 => .array .boolean
  | 74 => .array .boolean
  | 75 => .boolean
  | 76 => .array .int
  | 77 => .int
  | _ => .array .boolean
theorem nmX12 : ∀ a, a < 79 → ∀ b, b < 79 → a ≠ b → (TX12 a).2.1 ≠ (TX12 b).2.1 := by decide +kernel
theorem tyX12_ok : ∀ k, k < 79 → parseFieldDescriptor (TX12 k).2.2.1 = some (tyX12 k) := by decide +kernel
abbrev cX12_init : ByteArray := prog_14_method_1_code
def yX12_init : MethodName := ⟨RX12, "<init>", "()V"⟩
abbrev cX12_in : ByteArray := prog_14_method_3_code
def yX12_in : MethodName := ⟨RX12, "in", "(JJJ)Z"⟩
abbrev cX12_isPlace : ByteArray := prog_14_method_4_code
def yX12_isPlace : MethodName := ⟨RX12, "isPlace", "(I)Z"⟩
abbrev cX12_cut : ByteArray := prog_14_method_5_code
def yX12_cut : MethodName := ⟨RX12, "cut", "(IJ)J"⟩
abbrev cX12_row : ByteArray := prog_14_method_6_code
def yX12_row : MethodName := ⟨RX12, "row", "(III)I"⟩
abbrev cX12_tear : ByteArray := prog_14_method_7_code
def yX12_tear : MethodName := ⟨RX12, "tear", "(I)Z"⟩
abbrev cX12_write : ByteArray := prog_14_method_8_code
def yX12_write : MethodName := ⟨RX12, "write", "(IIJ)I"⟩
abbrev cX12_paste : ByteArray := prog_14_method_9_code
def yX12_paste : MethodName := ⟨RX12, "paste", "(IIIII)I"⟩
abbrev cX12_isPoint : ByteArray := prog_14_method_10_code
def yX12_isPoint : MethodName := ⟨RX12, "isPoint", "(II)Z"⟩
abbrev cX12_pulpit : ByteArray := prog_14_method_11_code
def yX12_pulpit : MethodName := ⟨RX12, "pulpit", "(III)I"⟩
abbrev cX12_terms : ByteArray := prog_14_method_12_code
def yX12_terms : MethodName := ⟨RX12, "terms", "(II)I"⟩
abbrev cX12_pillar : ByteArray := prog_14_method_13_code
def yX12_pillar : MethodName := ⟨RX12, "pillar", "(III)I"⟩
abbrev cX12_bench : ByteArray := prog_14_method_14_code
def yX12_bench : MethodName := ⟨RX12, "bench", "(IIIZ)I"⟩
abbrev cX12_isBench : ByteArray := prog_14_method_15_code
def yX12_isBench : MethodName := ⟨RX12, "isBench", "(I)Z"⟩
abbrev cX12_isUnit : ByteArray := prog_14_method_16_code
def yX12_isUnit : MethodName := ⟨RX12, "isUnit", "(II)Z"⟩
abbrev cX12_isRun : ByteArray := prog_14_method_17_code
def yX12_isRun : MethodName := ⟨RX12, "isRun", "(III)Z"⟩
abbrev cX12_side : ByteArray := prog_14_method_18_code
def yX12_side : MethodName := ⟨RX12, "side", "(IIII)I"⟩
abbrev cX12_isInWay : ByteArray := prog_14_method_19_code
def yX12_isInWay : MethodName := ⟨RX12, "isInWay", "(III)Z"⟩
abbrev cX12_inWay : ByteArray := prog_14_method_20_code
def yX12_inWay : MethodName := ⟨RX12, "inWay", "(II)I"⟩
abbrev cX12_hearing : ByteArray := prog_14_method_21_code
def yX12_hearing : MethodName := ⟨RX12, "hearing", "(II)I"⟩
abbrev cX12_unit : ByteArray := prog_14_method_22_code
def yX12_unit : MethodName := ⟨RX12, "unit", "(III)I"⟩
abbrev cX12_listens : ByteArray := prog_14_method_23_code
def yX12_listens : MethodName := ⟨RX12, "listens", "()V"⟩
abbrev cX12_worthOf : ByteArray := prog_14_method_24_code
def yX12_worthOf : MethodName := ⟨RX12, "worthOf", "(IIII)I"⟩
abbrev cX12_isLike : ByteArray := prog_14_method_25_code
def yX12_isLike : MethodName := ⟨RX12, "isLike", "(III)Z"⟩
abbrev cX12_isHouse : ByteArray := prog_14_method_26_code
def yX12_isHouse : MethodName := ⟨RX12, "isHouse", "(I)Z"⟩
abbrev cX12_isThere : ByteArray := prog_14_method_27_code
def yX12_isThere : MethodName := ⟨RX12, "isThere", "(I)Z"⟩
abbrev cX12_household : ByteArray := prog_14_method_28_code
def yX12_household : MethodName := ⟨RX12, "household", "(III)I"⟩
abbrev cX12_changed : ByteArray := prog_14_method_29_code
def yX12_changed : MethodName := ⟨RX12, "changed", "(IIII)I"⟩
abbrev cX12_worth : ByteArray := prog_14_method_30_code
def yX12_worth : MethodName := ⟨RX12, "worth", "(III)I"⟩
abbrev cX12_adds : ByteArray := prog_14_method_31_code
def yX12_adds : MethodName := ⟨RX12, "adds", "(IIIIIIIIZJ)I"⟩
abbrev cX12_right : ByteArray := prog_14_method_32_code
def yX12_right : MethodName := ⟨RX12, "right", "(IIIIIIIZ)I"⟩
abbrev cX12_stops : ByteArray := prog_14_method_33_code
def yX12_stops : MethodName := ⟨RX12, "stops", "(I)V"⟩
abbrev cX12_ends : ByteArray := prog_14_method_34_code
def yX12_ends : MethodName := ⟨RX12, "ends", "(I)Z"⟩
abbrev cX12_rightOf : ByteArray := prog_14_method_35_code
def yX12_rightOf : MethodName := ⟨RX12, "rightOf", "(II)I"⟩
abbrev cX12_whose : ByteArray := prog_14_method_36_code
def yX12_whose : MethodName := ⟨RX12, "whose", "(III)I"⟩
abbrev cX12_isBetter : ByteArray := prog_14_method_37_code
def yX12_isBetter : MethodName := ⟨RX12, "isBetter", "(II)Z"⟩
abbrev cX12_isFor : ByteArray := prog_14_method_38_code
def yX12_isFor : MethodName := ⟨RX12, "isFor", "(III)Z"⟩
abbrev cX12_bestRight : ByteArray := prog_14_method_39_code
def yX12_bestRight : MethodName := ⟨RX12, "bestRight", "(IIIIII)I"⟩
abbrev cX12_ownerOf : ByteArray := prog_14_method_40_code
def yX12_ownerOf : MethodName := ⟨RX12, "ownerOf", "(IIII)I"⟩
abbrev cX12_areYears : ByteArray := prog_14_method_41_code
def yX12_areYears : MethodName := ⟨RX12, "areYears", "(II)Z"⟩
abbrev cX12_belongs : ByteArray := prog_14_method_42_code
def yX12_belongs : MethodName := ⟨RX12, "belongs", "(IIIII)I"⟩
abbrev cX12_judge : ByteArray := prog_14_method_43_code
def yX12_judge : MethodName := ⟨RX12, "judge", "(IIIIII)I"⟩
abbrev cX12_gone : ByteArray := prog_14_method_44_code
def yX12_gone : MethodName := ⟨RX12, "gone", "(II)I"⟩
abbrev cX12_owns : ByteArray := prog_14_method_45_code
def yX12_owns : MethodName := ⟨RX12, "owns", "(II)V"⟩
abbrev cX12_sell : ByteArray := prog_14_method_46_code
def yX12_sell : MethodName := ⟨RX12, "sell", "(II)I"⟩
abbrev cX12_plotOf : ByteArray := prog_14_method_47_code
def yX12_plotOf : MethodName := ⟨RX12, "plotOf", "(II)I"⟩
abbrev cX12_lot : ByteArray := prog_14_method_48_code
def yX12_lot : MethodName := ⟨RX12, "lot", "(IIII)I"⟩
abbrev cX12_offers : ByteArray := prog_14_method_49_code
def yX12_offers : MethodName := ⟨RX12, "offers", "(II)I"⟩
abbrev cX12_offered : ByteArray := prog_14_method_50_code
def yX12_offered : MethodName := ⟨RX12, "offered", "(II)J"⟩
abbrev cX12_sumsBut : ByteArray := prog_14_method_51_code
def yX12_sumsBut : MethodName := ⟨RX12, "sumsBut", "(I)J"⟩
abbrev cX12_knock : ByteArray := prog_14_method_52_code
def yX12_knock : MethodName := ⟨RX12, "knock", "()J"⟩
abbrev cX12_knocked : ByteArray := prog_14_method_53_code
def yX12_knocked : MethodName := ⟨RX12, "knocked", "(II)J"⟩
abbrev cX12_isFree : ByteArray := prog_14_method_54_code
def yX12_isFree : MethodName := ⟨RX12, "isFree", "(IIII)Z"⟩
abbrev cX12_takes : ByteArray := prog_14_method_55_code
def yX12_takes : MethodName := ⟨RX12, "takes", "(IIIZ)V"⟩
abbrev cX12_byRights : ByteArray := prog_14_method_56_code
def yX12_byRights : MethodName := ⟨RX12, "byRights", "(I)V"⟩
abbrev cX12_canByRank : ByteArray := prog_14_method_57_code
def yX12_canByRank : MethodName := ⟨RX12, "canByRank", "(II)Z"⟩
abbrev cX12_gains : ByteArray := prog_14_method_58_code
def yX12_gains : MethodName := ⟨RX12, "gains", "(II)J"⟩
abbrev cX12_seats : ByteArray := prog_14_method_59_code
def yX12_seats : MethodName := ⟨RX12, "seats", "(Z)V"⟩
abbrev cX12_go : ByteArray := prog_14_method_60_code
def yX12_go : MethodName := ⟨RX12, "go", "()I"⟩
abbrev cX12_hasUse : ByteArray := prog_14_method_61_code
def yX12_hasUse : MethodName := ⟨RX12, "hasUse", "(I)Z"⟩
abbrev cX12_customs : ByteArray := prog_14_method_62_code
def yX12_customs : MethodName := ⟨RX12, "customs", "(I)V"⟩
abbrev cX12_isPast : ByteArray := prog_14_method_63_code
def yX12_isPast : MethodName := ⟨RX12, "isPast", "(I)Z"⟩
abbrev cX12_seat : ByteArray := prog_14_method_64_code
def yX12_seat : MethodName := ⟨RX12, "seat", "(III)I"⟩
abbrev cX12_moved : ByteArray := prog_14_method_65_code
def yX12_moved : MethodName := ⟨RX12, "moved", "(II)I"⟩
abbrev cX12_beside : ByteArray := prog_14_method_66_code
def yX12_beside : MethodName := ⟨RX12, "beside", "(I)J"⟩
abbrev cX12_likes : ByteArray := prog_14_method_67_code
def yX12_likes : MethodName := ⟨RX12, "likes", "(II)I"⟩
abbrev cX12_looks : ByteArray := prog_14_method_68_code
def yX12_looks : MethodName := ⟨RX12, "looks", "(I)V"⟩
abbrev cX12_change : ByteArray := prog_14_method_69_code
def yX12_change : MethodName := ⟨RX12, "change", "(I)I"⟩
abbrev cX12_comesBack : ByteArray := prog_14_method_70_code
def yX12_comesBack : MethodName := ⟨RX12, "comesBack", "(I)Z"⟩
abbrev cX12_changedTo : ByteArray := prog_14_method_71_code
def yX12_changedTo : MethodName := ⟨RX12, "changedTo", "(I)I"⟩
abbrev cX12_bestRun : ByteArray := prog_14_method_72_code
def yX12_bestRun : MethodName := ⟨RX12, "bestRun", "(IIIZ)I"⟩
abbrev cX12_ownRun : ByteArray := prog_14_method_73_code
def yX12_ownRun : MethodName := ⟨RX12, "ownRun", "(I)I"⟩
abbrev cX12_sunday : ByteArray := prog_14_method_74_code
def yX12_sunday : MethodName := ⟨RX12, "sunday", "(II)I"⟩
abbrev cX12_sat : ByteArray := prog_14_method_75_code
def yX12_sat : MethodName := ⟨RX12, "sat", "(I)I"⟩
abbrev cX12_householdOf : ByteArray := prog_14_method_76_code
def yX12_householdOf : MethodName := ⟨RX12, "householdOf", "(II)I"⟩
abbrev cX12_benchOf : ByteArray := prog_14_method_77_code
def yX12_benchOf : MethodName := ⟨RX12, "benchOf", "(II)I"⟩
abbrev cX12_count : ByteArray := prog_14_method_78_code
def yX12_count : MethodName := ⟨RX12, "count", "(I)I"⟩
abbrev cX12_fund : ByteArray := prog_14_method_79_code
def yX12_fund : MethodName := ⟨RX12, "fund", "()J"⟩
def RJ6 : String := "java/lang/Integer"
abbrev cJ6_signum_0f7a4 : ByteArray := prog_15_method_56_code
def yJ6_signum_0f7a4 : MethodName := ⟨RJ6, "signum", "(I)I"⟩
def RJ9 : String := "java/lang/Math"
abbrev cJ9_max_7cf53 : ByteArray := prog_16_method_65_code
def yJ9_max_7cf53 : MethodName := ⟨RJ9, "max", "(II)I"⟩
abbrev cJ9_max_f86c9 : ByteArray := prog_16_method_66_code
def yJ9_max_f86c9 : MethodName := ⟨RJ9, "max", "(JJ)J"⟩
abbrev cJ9_min_7cf53 : ByteArray := prog_16_method_69_code
def yJ9_min_7cf53 : MethodName := ⟨RJ9, "min", "(II)I"⟩
def RJ10 : String := "java/lang/System"
def RJ7 : String := "java/util/Arrays"
abbrev cJ7_rangeCheck_23922 : ByteArray := prog_18_method_30_code
def yJ7_rangeCheck_23922 : MethodName := ⟨RJ7, "rangeCheck", "(III)V"⟩
abbrev cJ7_fill_bad5a : ByteArray := prog_18_method_102_code
def yJ7_fill_bad5a : MethodName := ⟨RJ7, "fill", "([JIIJ)V"⟩
abbrev cJ7_fill_53178 : ByteArray := prog_18_method_103_code
def yJ7_fill_53178 : MethodName := ⟨RJ7, "fill", "([II)V"⟩
abbrev cJ7_fill_fda19 : ByteArray := prog_18_method_104_code
def yJ7_fill_fda19 : MethodName := ⟨RJ7, "fill", "([IIII)V"⟩
def RL : String := "PewRankLaw"
abbrev cL_law : ByteArray := code
def yL_law : MethodName := ⟨RL, "law", "([I)Z"⟩
