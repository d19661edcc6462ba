section
-- ===== PART A: goes FIRST, ahead of the names: the tables' words, and 'selects' of the private methods out of them =====
/-- a private method of a class that the tables say can be made, by its rows of tables_1 -/
def lw_okq (q : MethodName × Nat) : Prop := (q.1.cls ≠ "java/lang/invoke/MethodHandle" ∧ q.1.cls ≠ "java/lang/invoke/VarHandle") ∧ Cond.instantiable q.1.cls q.2 ∈ tables_1 ∧ Cond.privateMethod q.1 ∈ tables_1 ∧ Cond.instanceMethod q.1 ∈ tables_1
theorem lw_p0 : lw_okq (⟨"ToldChances$Book", "mixedChance", "(I)I"⟩, 3) := ⟨⟨by decide +kernel, by decide +kernel⟩, List.mem_of_getElem? (i := 29) (by decide +kernel), List.mem_of_getElem? (i := 305) (by decide +kernel), List.mem_of_getElem? (i := 306) (by decide +kernel)⟩
theorem lw_p1 : lw_okq (⟨"ToldChances$LineReader", "readNumber", "(LToldChances$Tape;II)Z"⟩, 3) := ⟨⟨by decide +kernel, by decide +kernel⟩, List.mem_of_getElem? (i := 63) (by decide +kernel), List.mem_of_getElem? (i := 401) (by decide +kernel), List.mem_of_getElem? (i := 402) (by decide +kernel)⟩
theorem lw_p2 : lw_okq (⟨"ToldChances", "perform", "(LToldChances$Command;)I"⟩, 14) := ⟨⟨by decide +kernel, by decide +kernel⟩, List.mem_of_getElem? (i := 21) (by decide +kernel), List.mem_of_getElem? (i := 405) (by decide +kernel), List.mem_of_getElem? (i := 406) (by decide +kernel)⟩
theorem lw_p3 : lw_okq (⟨"ToldChances", "findMeanMiss", "(I)Z"⟩, 14) := ⟨⟨by decide +kernel, by decide +kernel⟩, List.mem_of_getElem? (i := 21) (by decide +kernel), List.mem_of_getElem? (i := 459) (by decide +kernel), List.mem_of_getElem? (i := 460) (by decide +kernel)⟩
theorem lw_p4 : lw_okq (⟨"ToldChances", "tellersAheadOf", "(I)I"⟩, 14) := ⟨⟨by decide +kernel, by decide +kernel⟩, List.mem_of_getElem? (i := 21) (by decide +kernel), List.mem_of_getElem? (i := 497) (by decide +kernel), List.mem_of_getElem? (i := 498) (by decide +kernel)⟩
theorem lw_p5 : lw_okq (⟨"ToldChances", "leastBest", "(I)I"⟩, 14) := ⟨⟨by decide +kernel, by decide +kernel⟩, List.mem_of_getElem? (i := 21) (by decide +kernel), List.mem_of_getElem? (i := 505) (by decide +kernel), List.mem_of_getElem? (i := 506) (by decide +kernel)⟩
theorem lw_p6 : lw_okq (⟨"ToldChances", "believedMiss", "(II)I"⟩, 14) := ⟨⟨by decide +kernel, by decide +kernel⟩, List.mem_of_getElem? (i := 21) (by decide +kernel), List.mem_of_getElem? (i := 509) (by decide +kernel), List.mem_of_getElem? (i := 510) (by decide +kernel)⟩
theorem lw_p7 : lw_okq (⟨"ToldChances", "countHonest", "()I"⟩, 14) := ⟨⟨by decide +kernel, by decide +kernel⟩, List.mem_of_getElem? (i := 21) (by decide +kernel), List.mem_of_getElem? (i := 517) (by decide +kernel), List.mem_of_getElem? (i := 518) (by decide +kernel)⟩
theorem lw_p8 : lw_okq (⟨"ToldChances$Bins", "removeCut", "(I)V"⟩, 7) := ⟨⟨by decide +kernel, by decide +kernel⟩, List.mem_of_getElem? (i := 112) (by decide +kernel), List.mem_of_getElem? (i := 533) (by decide +kernel), List.mem_of_getElem? (i := 534) (by decide +kernel)⟩
theorem lw_p9 : lw_okq (⟨"ToldChances$Bins", "insertCut", "(II)V"⟩, 7) := ⟨⟨by decide +kernel, by decide +kernel⟩, List.mem_of_getElem? (i := 112) (by decide +kernel), List.mem_of_getElem? (i := 537) (by decide +kernel), List.mem_of_getElem? (i := 538) (by decide +kernel)⟩
theorem lw_p10 : lw_okq (⟨"ToldChances", "sortCases", "(I)Z"⟩, 14) := ⟨⟨by decide +kernel, by decide +kernel⟩, List.mem_of_getElem? (i := 21) (by decide +kernel), List.mem_of_getElem? (i := 565) (by decide +kernel), List.mem_of_getElem? (i := 566) (by decide +kernel)⟩
theorem lw_p11 : lw_okq (⟨"ToldChances", "joinParts", "()V"⟩, 14) := ⟨⟨by decide +kernel, by decide +kernel⟩, List.mem_of_getElem? (i := 21) (by decide +kernel), List.mem_of_getElem? (i := 569) (by decide +kernel), List.mem_of_getElem? (i := 570) (by decide +kernel)⟩
theorem lw_p12 : lw_okq (⟨"ToldChances$Bins", "binTerm", "(IIJJ)J"⟩, 7) := ⟨⟨by decide +kernel, by decide +kernel⟩, List.mem_of_getElem? (i := 112) (by decide +kernel), List.mem_of_getElem? (i := 578) (by decide +kernel), List.mem_of_getElem? (i := 579) (by decide +kernel)⟩
theorem lw_p13 : lw_okq (⟨"ToldChances$PoolRow", "sortByChance", "(LToldChances$Cases;)V"⟩, 7) := ⟨⟨by decide +kernel, by decide +kernel⟩, List.mem_of_getElem? (i := 144) (by decide +kernel), List.mem_of_getElem? (i := 629) (by decide +kernel), List.mem_of_getElem? (i := 630) (by decide +kernel)⟩
theorem lw_p14 : lw_okq (⟨"ToldChances$PoolRow", "addPool", "(I)V"⟩, 7) := ⟨⟨by decide +kernel, by decide +kernel⟩, List.mem_of_getElem? (i := 144) (by decide +kernel), List.mem_of_getElem? (i := 633) (by decide +kernel), List.mem_of_getElem? (i := 634) (by decide +kernel)⟩
theorem lw_p15 : lw_okq (⟨"ToldChances$PoolRow", "isShareGreater", "(I)Z"⟩, 7) := ⟨⟨by decide +kernel, by decide +kernel⟩, List.mem_of_getElem? (i := 144) (by decide +kernel), List.mem_of_getElem? (i := 637) (by decide +kernel), List.mem_of_getElem? (i := 638) (by decide +kernel)⟩
def lw_privs_1 : List (MethodName × Nat) := [(⟨"ToldChances$Book", "mixedChance", "(I)I"⟩, 3), (⟨"ToldChances$LineReader", "readNumber", "(LToldChances$Tape;II)Z"⟩, 3), (⟨"ToldChances", "perform", "(LToldChances$Command;)I"⟩, 14), (⟨"ToldChances", "findMeanMiss", "(I)Z"⟩, 14), (⟨"ToldChances", "tellersAheadOf", "(I)I"⟩, 14), (⟨"ToldChances", "leastBest", "(I)I"⟩, 14), (⟨"ToldChances", "believedMiss", "(II)I"⟩, 14), (⟨"ToldChances", "countHonest", "()I"⟩, 14), (⟨"ToldChances$Bins", "removeCut", "(I)V"⟩, 7), (⟨"ToldChances$Bins", "insertCut", "(II)V"⟩, 7), (⟨"ToldChances", "sortCases", "(I)Z"⟩, 14), (⟨"ToldChances", "joinParts", "()V"⟩, 14), (⟨"ToldChances$Bins", "binTerm", "(IIJJ)J"⟩, 7), (⟨"ToldChances$PoolRow", "sortByChance", "(LToldChances$Cases;)V"⟩, 7), (⟨"ToldChances$PoolRow", "addPool", "(I)V"⟩, 7), (⟨"ToldChances$PoolRow", "isShareGreater", "(I)Z"⟩, 7)]
theorem lw_r1 : ∀ q ∈ lw_privs_1, lw_okq q := List.forall_mem_cons.mpr ⟨lw_p0, List.forall_mem_cons.mpr ⟨lw_p1, List.forall_mem_cons.mpr ⟨lw_p2, List.forall_mem_cons.mpr ⟨lw_p3, List.forall_mem_cons.mpr ⟨lw_p4, List.forall_mem_cons.mpr ⟨lw_p5, List.forall_mem_cons.mpr ⟨lw_p6, List.forall_mem_cons.mpr ⟨lw_p7, List.forall_mem_cons.mpr ⟨lw_p8, List.forall_mem_cons.mpr ⟨lw_p9, List.forall_mem_cons.mpr ⟨lw_p10, List.forall_mem_cons.mpr ⟨lw_p11, List.forall_mem_cons.mpr ⟨lw_p12, List.forall_mem_cons.mpr ⟨lw_p13, List.forall_mem_cons.mpr ⟨lw_p14, List.forall_mem_cons.mpr ⟨lw_p15, fun _ h => absurd h List.not_mem_nil⟩⟩⟩⟩⟩⟩⟩⟩⟩⟩⟩⟩⟩⟩⟩⟩
theorem lw_p16 : lw_okq (⟨"ToldChances$PoolRow", "mergeDown", "(I)V"⟩, 7) := ⟨⟨by decide +kernel, by decide +kernel⟩, List.mem_of_getElem? (i := 144) (by decide +kernel), List.mem_of_getElem? (i := 641) (by decide +kernel), List.mem_of_getElem? (i := 642) (by decide +kernel)⟩
theorem lw_p17 : lw_okq (⟨"ToldChances", "countWins", "(II)V"⟩, 14) := ⟨⟨by decide +kernel, by decide +kernel⟩, List.mem_of_getElem? (i := 21) (by decide +kernel), List.mem_of_getElem? (i := 668) (by decide +kernel), List.mem_of_getElem? (i := 669) (by decide +kernel)⟩
theorem lw_p18 : lw_okq (⟨"ToldChances", "writeReport", "(I)V"⟩, 14) := ⟨⟨by decide +kernel, by decide +kernel⟩, List.mem_of_getElem? (i := 21) (by decide +kernel), List.mem_of_getElem? (i := 684) (by decide +kernel), List.mem_of_getElem? (i := 685) (by decide +kernel)⟩
theorem lw_p19 : lw_okq (⟨"ToldChancesModel", "becomes", "(II)I"⟩, 30) := ⟨⟨by decide +kernel, by decide +kernel⟩, List.mem_of_getElem? (i := 728) (by decide +kernel), List.mem_of_getElem? (i := 846) (by decide +kernel), List.mem_of_getElem? (i := 847) (by decide +kernel)⟩
theorem lw_p20 : lw_okq (⟨"ToldChancesModel", "toldBy", "(II)I"⟩, 30) := ⟨⟨by decide +kernel, by decide +kernel⟩, List.mem_of_getElem? (i := 728) (by decide +kernel), List.mem_of_getElem? (i := 869) (by decide +kernel), List.mem_of_getElem? (i := 870) (by decide +kernel)⟩
theorem lw_p21 : lw_okq (⟨"ToldChancesModel", "readsLine", "()Z"⟩, 30) := ⟨⟨by decide +kernel, by decide +kernel⟩, List.mem_of_getElem? (i := 728) (by decide +kernel), List.mem_of_getElem? (i := 889) (by decide +kernel), List.mem_of_getElem? (i := 890) (by decide +kernel)⟩
theorem lw_p22 : lw_okq (⟨"ToldChancesModel", "readsWord", "()Z"⟩, 30) := ⟨⟨by decide +kernel, by decide +kernel⟩, List.mem_of_getElem? (i := 728) (by decide +kernel), List.mem_of_getElem? (i := 893) (by decide +kernel), List.mem_of_getElem? (i := 894) (by decide +kernel)⟩
theorem lw_p23 : lw_okq (⟨"ToldChancesModel", "wordLong", "(I)I"⟩, 30) := ⟨⟨by decide +kernel, by decide +kernel⟩, List.mem_of_getElem? (i := 728) (by decide +kernel), List.mem_of_getElem? (i := 897) (by decide +kernel), List.mem_of_getElem? (i := 898) (by decide +kernel)⟩
theorem lw_p24 : lw_okq (⟨"ToldChancesModel", "readsNumber", "(I)Z"⟩, 30) := ⟨⟨by decide +kernel, by decide +kernel⟩, List.mem_of_getElem? (i := 728) (by decide +kernel), List.mem_of_getElem? (i := 904) (by decide +kernel), List.mem_of_getElem? (i := 905) (by decide +kernel)⟩
theorem lw_p25 : lw_okq (⟨"ToldChancesModel", "isFigure", "()Z"⟩, 30) := ⟨⟨by decide +kernel, by decide +kernel⟩, List.mem_of_getElem? (i := 728) (by decide +kernel), List.mem_of_getElem? (i := 908) (by decide +kernel), List.mem_of_getElem? (i := 909) (by decide +kernel)⟩
theorem lw_p26 : lw_okq (⟨"ToldChancesModel", "does", "()I"⟩, 30) := ⟨⟨by decide +kernel, by decide +kernel⟩, List.mem_of_getElem? (i := 728) (by decide +kernel), List.mem_of_getElem? (i := 915) (by decide +kernel), List.mem_of_getElem? (i := 916) (by decide +kernel)⟩
theorem lw_p27 : lw_okq (⟨"ToldChancesModel", "isOnTape", "(I)Z"⟩, 30) := ⟨⟨by decide +kernel, by decide +kernel⟩, List.mem_of_getElem? (i := 728) (by decide +kernel), List.mem_of_getElem? (i := 929) (by decide +kernel), List.mem_of_getElem? (i := 930) (by decide +kernel)⟩
theorem lw_p28 : lw_okq (⟨"ToldChancesModel", "missOf", "(IZ)I"⟩, 30) := ⟨⟨by decide +kernel, by decide +kernel⟩, List.mem_of_getElem? (i := 728) (by decide +kernel), List.mem_of_getElem? (i := 937) (by decide +kernel), List.mem_of_getElem? (i := 938) (by decide +kernel)⟩
theorem lw_p29 : lw_okq (⟨"ToldChancesModel", "cases", "(I)I"⟩, 30) := ⟨⟨by decide +kernel, by decide +kernel⟩, List.mem_of_getElem? (i := 728) (by decide +kernel), List.mem_of_getElem? (i := 945) (by decide +kernel), List.mem_of_getElem? (i := 946) (by decide +kernel)⟩
theorem lw_p30 : lw_okq (⟨"ToldChancesModel", "isCase", "(II)Z"⟩, 30) := ⟨⟨by decide +kernel, by decide +kernel⟩, List.mem_of_getElem? (i := 728) (by decide +kernel), List.mem_of_getElem? (i := 949) (by decide +kernel), List.mem_of_getElem? (i := 950) (by decide +kernel)⟩
theorem lw_p31 : lw_okq (⟨"ToldChancesModel", "misses", "(I)J"⟩, 30) := ⟨⟨by decide +kernel, by decide +kernel⟩, List.mem_of_getElem? (i := 728) (by decide +kernel), List.mem_of_getElem? (i := 954) (by decide +kernel), List.mem_of_getElem? (i := 955) (by decide +kernel)⟩
def lw_privs_2 : List (MethodName × Nat) := [(⟨"ToldChances$PoolRow", "mergeDown", "(I)V"⟩, 7), (⟨"ToldChances", "countWins", "(II)V"⟩, 14), (⟨"ToldChances", "writeReport", "(I)V"⟩, 14), (⟨"ToldChancesModel", "becomes", "(II)I"⟩, 30), (⟨"ToldChancesModel", "toldBy", "(II)I"⟩, 30), (⟨"ToldChancesModel", "readsLine", "()Z"⟩, 30), (⟨"ToldChancesModel", "readsWord", "()Z"⟩, 30), (⟨"ToldChancesModel", "wordLong", "(I)I"⟩, 30), (⟨"ToldChancesModel", "readsNumber", "(I)Z"⟩, 30), (⟨"ToldChancesModel", "isFigure", "()Z"⟩, 30), (⟨"ToldChancesModel", "does", "()I"⟩, 30), (⟨"ToldChancesModel", "isOnTape", "(I)Z"⟩, 30), (⟨"ToldChancesModel", "missOf", "(IZ)I"⟩, 30), (⟨"ToldChancesModel", "cases", "(I)I"⟩, 30), (⟨"ToldChancesModel", "isCase", "(II)Z"⟩, 30), (⟨"ToldChancesModel", "misses", "(I)J"⟩, 30)]
theorem lw_r2 : ∀ q ∈ lw_privs_2, lw_okq q := List.forall_mem_cons.mpr ⟨lw_p16, List.forall_mem_cons.mpr ⟨lw_p17, List.forall_mem_cons.mpr ⟨lw_p18, List.forall_mem_cons.mpr ⟨lw_p19, List.forall_mem_cons.mpr ⟨lw_p20, List.forall_mem_cons.mpr ⟨lw_p21, List.forall_mem_cons.mpr ⟨lw_p22, List.forall_mem_cons.mpr ⟨lw_p23, List.forall_mem_cons.mpr ⟨lw_p24, List.forall_mem_cons.mpr ⟨lw_p25, List.forall_mem_cons.mpr ⟨lw_p26, List.forall_mem_cons.mpr ⟨lw_p27, List.forall_mem_cons.mpr ⟨lw_p28, List.forall_mem_cons.mpr ⟨lw_p29, List.forall_mem_cons.mpr ⟨lw_p30, List.forall_mem_cons.mpr ⟨lw_p31, fun _ h => absurd h List.not_mem_nil⟩⟩⟩⟩⟩⟩⟩⟩⟩⟩⟩⟩⟩⟩⟩⟩
theorem lw_p32 : lw_okq (⟨"ToldChancesModel", "becomesFraction", "(JJ)V"⟩, 30) := ⟨⟨by decide +kernel, by decide +kernel⟩, List.mem_of_getElem? (i := 728) (by decide +kernel), List.mem_of_getElem? (i := 958) (by decide +kernel), List.mem_of_getElem? (i := 959) (by decide +kernel)⟩
theorem lw_p33 : lw_okq (⟨"ToldChancesModel", "part", "(I)J"⟩, 30) := ⟨⟨by decide +kernel, by decide +kernel⟩, List.mem_of_getElem? (i := 728) (by decide +kernel), List.mem_of_getElem? (i := 962) (by decide +kernel), List.mem_of_getElem? (i := 963) (by decide +kernel)⟩
theorem lw_p34 : lw_okq (⟨"ToldChancesModel", "isAhead", "(II)Z"⟩, 30) := ⟨⟨by decide +kernel, by decide +kernel⟩, List.mem_of_getElem? (i := 728) (by decide +kernel), List.mem_of_getElem? (i := 970) (by decide +kernel), List.mem_of_getElem? (i := 971) (by decide +kernel)⟩
theorem lw_p35 : lw_okq (⟨"ToldChancesModel", "lureOf", "(I)I"⟩, 30) := ⟨⟨by decide +kernel, by decide +kernel⟩, List.mem_of_getElem? (i := 728) (by decide +kernel), List.mem_of_getElem? (i := 978) (by decide +kernel), List.mem_of_getElem? (i := 979) (by decide +kernel)⟩
theorem lw_p36 : lw_okq (⟨"ToldChancesModel", "sumBy", "(II)I"⟩, 30) := ⟨⟨by decide +kernel, by decide +kernel⟩, List.mem_of_getElem? (i := 728) (by decide +kernel), List.mem_of_getElem? (i := 982) (by decide +kernel), List.mem_of_getElem? (i := 983) (by decide +kernel)⟩
theorem lw_p37 : lw_okq (⟨"ToldChancesModel", "cuts", "()I"⟩, 30) := ⟨⟨by decide +kernel, by decide +kernel⟩, List.mem_of_getElem? (i := 728) (by decide +kernel), List.mem_of_getElem? (i := 994) (by decide +kernel), List.mem_of_getElem? (i := 995) (by decide +kernel)⟩
theorem lw_p38 : lw_okq (⟨"ToldChancesModel", "counts", "(I)V"⟩, 30) := ⟨⟨by decide +kernel, by decide +kernel⟩, List.mem_of_getElem? (i := 728) (by decide +kernel), List.mem_of_getElem? (i := 1002) (by decide +kernel), List.mem_of_getElem? (i := 1003) (by decide +kernel)⟩
theorem lw_p39 : lw_okq (⟨"ToldChancesModel", "binOf", "(I)I"⟩, 30) := ⟨⟨by decide +kernel, by decide +kernel⟩, List.mem_of_getElem? (i := 728) (by decide +kernel), List.mem_of_getElem? (i := 1006) (by decide +kernel), List.mem_of_getElem? (i := 1007) (by decide +kernel)⟩
theorem lw_p40 : lw_okq (⟨"ToldChancesModel", "leastIn", "(I)I"⟩, 30) := ⟨⟨by decide +kernel, by decide +kernel⟩, List.mem_of_getElem? (i := 728) (by decide +kernel), List.mem_of_getElem? (i := 1010) (by decide +kernel), List.mem_of_getElem? (i := 1011) (by decide +kernel)⟩
theorem lw_p41 : lw_okq (⟨"ToldChancesModel", "greatestIn", "(I)I"⟩, 30) := ⟨⟨by decide +kernel, by decide +kernel⟩, List.mem_of_getElem? (i := 728) (by decide +kernel), List.mem_of_getElem? (i := 1014) (by decide +kernel), List.mem_of_getElem? (i := 1015) (by decide +kernel)⟩
theorem lw_p42 : lw_okq (⟨"ToldChancesModel", "noFraction", "()V"⟩, 30) := ⟨⟨by decide +kernel, by decide +kernel⟩, List.mem_of_getElem? (i := 728) (by decide +kernel), List.mem_of_getElem? (i := 1022) (by decide +kernel), List.mem_of_getElem? (i := 1023) (by decide +kernel)⟩
theorem lw_p43 : lw_okq (⟨"ToldChancesModel", "addPart", "(II)V"⟩, 30) := ⟨⟨by decide +kernel, by decide +kernel⟩, List.mem_of_getElem? (i := 728) (by decide +kernel), List.mem_of_getElem? (i := 1026) (by decide +kernel), List.mem_of_getElem? (i := 1027) (by decide +kernel)⟩
theorem lw_p44 : lw_okq (⟨"ToldChancesModel", "adds", "(JJ)V"⟩, 30) := ⟨⟨by decide +kernel, by decide +kernel⟩, List.mem_of_getElem? (i := 728) (by decide +kernel), List.mem_of_getElem? (i := 1030) (by decide +kernel), List.mem_of_getElem? (i := 1031) (by decide +kernel)⟩
theorem lw_p45 : lw_okq (⟨"ToldChancesModel", "inBin", "(II)J"⟩, 30) := ⟨⟨by decide +kernel, by decide +kernel⟩, List.mem_of_getElem? (i := 728) (by decide +kernel), List.mem_of_getElem? (i := 1034) (by decide +kernel), List.mem_of_getElem? (i := 1035) (by decide +kernel)⟩
theorem lw_p46 : lw_okq (⟨"ToldChancesModel", "wholeOf", "(I)J"⟩, 30) := ⟨⟨by decide +kernel, by decide +kernel⟩, List.mem_of_getElem? (i := 728) (by decide +kernel), List.mem_of_getElem? (i := 1040) (by decide +kernel), List.mem_of_getElem? (i := 1041) (by decide +kernel)⟩
theorem lw_p47 : lw_okq (⟨"ToldChancesModel", "findPools", "(I)V"⟩, 30) := ⟨⟨by decide +kernel, by decide +kernel⟩, List.mem_of_getElem? (i := 728) (by decide +kernel), List.mem_of_getElem? (i := 1057) (by decide +kernel), List.mem_of_getElem? (i := 1058) (by decide +kernel)⟩
def lw_privs_3 : List (MethodName × Nat) := [(⟨"ToldChancesModel", "becomesFraction", "(JJ)V"⟩, 30), (⟨"ToldChancesModel", "part", "(I)J"⟩, 30), (⟨"ToldChancesModel", "isAhead", "(II)Z"⟩, 30), (⟨"ToldChancesModel", "lureOf", "(I)I"⟩, 30), (⟨"ToldChancesModel", "sumBy", "(II)I"⟩, 30), (⟨"ToldChancesModel", "cuts", "()I"⟩, 30), (⟨"ToldChancesModel", "counts", "(I)V"⟩, 30), (⟨"ToldChancesModel", "binOf", "(I)I"⟩, 30), (⟨"ToldChancesModel", "leastIn", "(I)I"⟩, 30), (⟨"ToldChancesModel", "greatestIn", "(I)I"⟩, 30), (⟨"ToldChancesModel", "noFraction", "()V"⟩, 30), (⟨"ToldChancesModel", "addPart", "(II)V"⟩, 30), (⟨"ToldChancesModel", "adds", "(JJ)V"⟩, 30), (⟨"ToldChancesModel", "inBin", "(II)J"⟩, 30), (⟨"ToldChancesModel", "wholeOf", "(I)J"⟩, 30), (⟨"ToldChancesModel", "findPools", "(I)V"⟩, 30)]
theorem lw_r3 : ∀ q ∈ lw_privs_3, lw_okq q := List.forall_mem_cons.mpr ⟨lw_p32, List.forall_mem_cons.mpr ⟨lw_p33, List.forall_mem_cons.mpr ⟨lw_p34, List.forall_mem_cons.mpr ⟨lw_p35, List.forall_mem_cons.mpr ⟨lw_p36, List.forall_mem_cons.mpr ⟨lw_p37, List.forall_mem_cons.mpr ⟨lw_p38, List.forall_mem_cons.mpr ⟨lw_p39, List.forall_mem_cons.mpr ⟨lw_p40, List.forall_mem_cons.mpr ⟨lw_p41, List.forall_mem_cons.mpr ⟨lw_p42, List.forall_mem_cons.mpr ⟨lw_p43, List.forall_mem_cons.mpr ⟨lw_p44, List.forall_mem_cons.mpr ⟨lw_p45, List.forall_mem_cons.mpr ⟨lw_p46, List.forall_mem_cons.mpr ⟨lw_p47, fun _ h => absurd h List.not_mem_nil⟩⟩⟩⟩⟩⟩⟩⟩⟩⟩⟩⟩⟩⟩⟩⟩
theorem lw_p48 : lw_okq (⟨"ToldChancesModel", "isFlat", "(I)Z"⟩, 30) := ⟨⟨by decide +kernel, by decide +kernel⟩, List.mem_of_getElem? (i := 728) (by decide +kernel), List.mem_of_getElem? (i := 1061) (by decide +kernel), List.mem_of_getElem? (i := 1062) (by decide +kernel)⟩
theorem lw_p49 : lw_okq (⟨"ToldChancesModel", "joinsLast", "()V"⟩, 30) := ⟨⟨by decide +kernel, by decide +kernel⟩, List.mem_of_getElem? (i := 728) (by decide +kernel), List.mem_of_getElem? (i := 1065) (by decide +kernel), List.mem_of_getElem? (i := 1066) (by decide +kernel)⟩
theorem lw_p50 : lw_okq (⟨"ToldChancesModel", "compares", "(II)V"⟩, 30) := ⟨⟨by decide +kernel, by decide +kernel⟩, List.mem_of_getElem? (i := 728) (by decide +kernel), List.mem_of_getElem? (i := 1081) (by decide +kernel), List.mem_of_getElem? (i := 1082) (by decide +kernel)⟩
theorem lw_p51 : lw_okq (⟨"ToldChancesModel", "writesReport", "(I)V"⟩, 30) := ⟨⟨by decide +kernel, by decide +kernel⟩, List.mem_of_getElem? (i := 728) (by decide +kernel), List.mem_of_getElem? (i := 1096) (by decide +kernel), List.mem_of_getElem? (i := 1097) (by decide +kernel)⟩
theorem lw_p52 : lw_okq (⟨"ToldChancesModel", "writes", "(I)V"⟩, 30) := ⟨⟨by decide +kernel, by decide +kernel⟩, List.mem_of_getElem? (i := 728) (by decide +kernel), List.mem_of_getElem? (i := 1100) (by decide +kernel), List.mem_of_getElem? (i := 1101) (by decide +kernel)⟩
theorem lw_p53 : lw_okq (⟨"ToldChancesModel", "writesNumber", "(J)V"⟩, 30) := ⟨⟨by decide +kernel, by decide +kernel⟩, List.mem_of_getElem? (i := 728) (by decide +kernel), List.mem_of_getElem? (i := 1104) (by decide +kernel), List.mem_of_getElem? (i := 1105) (by decide +kernel)⟩
def lw_privs_4 : List (MethodName × Nat) := [(⟨"ToldChancesModel", "isFlat", "(I)Z"⟩, 30), (⟨"ToldChancesModel", "joinsLast", "()V"⟩, 30), (⟨"ToldChancesModel", "compares", "(II)V"⟩, 30), (⟨"ToldChancesModel", "writesReport", "(I)V"⟩, 30), (⟨"ToldChancesModel", "writes", "(I)V"⟩, 30), (⟨"ToldChancesModel", "writesNumber", "(J)V"⟩, 30)]
theorem lw_r4 : ∀ q ∈ lw_privs_4, lw_okq q := List.forall_mem_cons.mpr ⟨lw_p48, List.forall_mem_cons.mpr ⟨lw_p49, List.forall_mem_cons.mpr ⟨lw_p50, List.forall_mem_cons.mpr ⟨lw_p51, List.forall_mem_cons.mpr ⟨lw_p52, List.forall_mem_cons.mpr ⟨lw_p53, fun _ h => absurd h List.not_mem_nil⟩⟩⟩⟩⟩⟩
def lw_privs : List (MethodName × Nat) := lw_privs_1 ++ (lw_privs_2 ++ (lw_privs_3 ++ (lw_privs_4)))
def lw_tbl : List Cond := k2_sels lw_privs ++ tables_1
theorem lw_privs_ok : ∀ q ∈ lw_privs, lw_okq q := by
  show ∀ q ∈ lw_privs_1 ++ (lw_privs_2 ++ (lw_privs_3 ++ (lw_privs_4))), lw_okq q
  exact List.forall_mem_append.mpr ⟨lw_r1, List.forall_mem_append.mpr ⟨lw_r2, List.forall_mem_append.mpr ⟨lw_r3, lw_r4⟩⟩⟩

/-- the words that a method may lean on -/
def tc_tb : List Cond := lw_tbl.filter goodWord
theorem tc_tbS {w : Cond} (i : Nat) (h : (k2_sels lw_privs)[i]? = some w) (hg : goodWord w = true) : w ∈ tc_tb := List.mem_filter.mpr ⟨List.mem_append_left _ (List.mem_of_getElem? h), hg⟩
theorem tc_tb1 {w : Cond} (i : Nat) (h : tables_1_1[i]? = some w) (hg : goodWord w = true) : w ∈ tc_tb := List.mem_filter.mpr ⟨List.mem_append_right _ (List.mem_append_left _ (List.mem_of_getElem? h)), hg⟩
theorem tc_tb2 {w : Cond} (i : Nat) (h : tables_1_2[i]? = some w) (hg : goodWord w = true) : w ∈ tc_tb := List.mem_filter.mpr ⟨List.mem_append_right _ (List.mem_append_right _ (List.mem_append_left _ (List.mem_of_getElem? h))), hg⟩
theorem tc_tb3 {w : Cond} (i : Nat) (h : tables_1_3[i]? = some w) (hg : goodWord w = true) : w ∈ tc_tb := List.mem_filter.mpr ⟨List.mem_append_right _ (List.mem_append_right _ (List.mem_append_right _ (List.mem_append_left _ (List.mem_of_getElem? h)))), hg⟩
theorem tc_tb4 {w : Cond} (i : Nat) (h : tables_1_4[i]? = some w) (hg : goodWord w = true) : w ∈ tc_tb := List.mem_filter.mpr ⟨List.mem_append_right _ (List.mem_append_right _ (List.mem_append_right _ (List.mem_append_right _ (List.mem_append_left _ (List.mem_of_getElem? h))))), hg⟩
theorem tc_tb5 {w : Cond} (i : Nat) (h : tables_1_5[i]? = some w) (hg : goodWord w = true) : w ∈ tc_tb := List.mem_filter.mpr ⟨List.mem_append_right _ (List.mem_append_right _ (List.mem_append_right _ (List.mem_append_right _ (List.mem_append_right _ (List.mem_of_getElem? h))))), hg⟩
theorem tc_tb_lw {w : Cond} (h : w ∈ tc_tb) : w ∈ lw_tbl := (List.mem_filter.mp h).1
theorem tc_tb_good {w : Cond} (h : w ∈ tc_tb) : (w.onTables && w.keeps) = true ∨ ∃ ty, w = .arrayClass ty := good_of_word (List.mem_filter.mp h).2
/-- a callee's words among a caller's -/
theorem tc_goodIn {Ts : List Cond} (hT : ∀ w ∈ tc_tb, w ∈ Ts) {c : Cond} (h : c ∈ tc_tb) : GoodIn Ts (c :: tc_tb) := by
  intro w hw
  have hw' : w ∈ tc_tb := by
    rcases List.mem_cons.mp hw with rfl | h9
    · exact h
    · exact h9
  exact ⟨hT w hw', tc_tb_good hw'⟩
end
section
def RX0 : String := "ToldChances$Bins"
def TX0 : u_T := fun k => match k with
  | 0 => ("ToldChances$Bins", "cuts", "[I", true)
  | 1 => ("ToldChances$Bins", "cutCount", "I", false)
  | 2 => ("ToldChances$Bins", "counts", "[I", true)
  | 3 => ("ToldChances$Bins", "yeses", "[I", true)
  | 4 => ("ToldChances$Bins", "sums", "[I", true)
  | 5 => ("ToldChances$Bins", "squareSums", "[I", true)
  | _ => ("ToldChances$Bins", "yesSums", "[I", true)
def tyX0 : Nat → FieldType := fun k => match k with
  | 0 => .array .int
  | 1 => .int
  | 2 => .array .int
  | 3 => .array .int
  | 4 => .array .int
  | 5 => .array .int
  | _ => .array .int
theorem nmX0 : ∀ a, a < 7 → ∀ b, b < 7 → a ≠ b → (TX0 a).2.1 ≠ (TX0 b).2.1 := by decide +kernel
theorem tyX0_ok : ∀ k, k < 7 → parseFieldDescriptor (TX0 k).2.2.1 = some (tyX0 k) := by decide +kernel
abbrev cX0_init : ByteArray := prog_2_method_1_code
def yX0_init : MethodName := ⟨RX0, "<init>", "()V"⟩
abbrev cX0_flipCut : ByteArray := prog_2_method_2_code
def yX0_flipCut : MethodName := ⟨RX0, "flipCut", "(I)Z"⟩
abbrev cX0_insertCut : ByteArray := prog_2_method_3_code
def yX0_insertCut : MethodName := ⟨RX0, "insertCut", "(II)V"⟩
abbrev cX0_removeCut : ByteArray := prog_2_method_4_code
def yX0_removeCut : MethodName := ⟨RX0, "removeCut", "(I)V"⟩
abbrev cX0_hasBin : ByteArray := prog_2_method_5_code
def yX0_hasBin : MethodName := ⟨RX0, "hasBin", "(I)Z"⟩
abbrev cX0_binOf : ByteArray := prog_2_method_6_code
def yX0_binOf : MethodName := ⟨RX0, "binOf", "(I)I"⟩
abbrev cX0_leastOf : ByteArray := prog_2_method_7_code
def yX0_leastOf : MethodName := ⟨RX0, "leastOf", "(I)I"⟩
abbrev cX0_greatestOf : ByteArray := prog_2_method_8_code
def yX0_greatestOf : MethodName := ⟨RX0, "greatestOf", "(I)I"⟩
abbrev cX0_sortIn : ByteArray := prog_2_method_9_code
def yX0_sortIn : MethodName := ⟨RX0, "sortIn", "(LToldChances$Cases;)V"⟩
abbrev cX0_findPart : ByteArray := prog_2_method_10_code
def yX0_findPart : MethodName := ⟨RX0, "findPart", "(ILToldChances$Cases;LToldChances$Fraction;)V"⟩
abbrev cX0_binTerm : ByteArray := prog_2_method_11_code
def yX0_binTerm : MethodName := ⟨RX0, "binTerm", "(IIJJ)J"⟩
abbrev cX0_scaleOf : ByteArray := prog_2_method_12_code
def yX0_scaleOf : MethodName := ⟨RX0, "scaleOf", "(IJ)J"⟩
abbrev cX0_findJoinLoss : ByteArray := prog_2_method_13_code
def yX0_findJoinLoss : MethodName := ⟨RX0, "findJoinLoss", "(ILToldChances$Cases;LToldChances$Fraction;)V"⟩
abbrev cX0_squared : ByteArray := prog_2_method_14_code
def yX0_squared : MethodName := ⟨RX0, "squared", "(J)J"⟩
def RX1 : String := "ToldChances$Book"
def TX1 : u_T := fun k => match k with
  | 0 => ("ToldChances$Book", "chances", "[I", true)
  | 1 => ("ToldChances$Book", "weights", "[I", true)
  | _ => ("ToldChances$Book", "states", "[I", true)
def tyX1 : Nat → FieldType := fun k => match k with
  | 0 => .array .int
  | 1 => .array .int
  | _ => .array .int
theorem nmX1 : ∀ a, a < 3 → ∀ b, b < 3 → a ≠ b → (TX1 a).2.1 ≠ (TX1 b).2.1 := by decide +kernel
theorem tyX1_ok : ∀ k, k < 3 → parseFieldDescriptor (TX1 k).2.2.1 = some (tyX1 k) := by decide +kernel
abbrev cX1_init : ByteArray := prog_3_method_1_code
def yX1_init : MethodName := ⟨RX1, "<init>", "()V"⟩
abbrev cX1_swapChance : ByteArray := prog_3_method_2_code
def yX1_swapChance : MethodName := ⟨RX1, "swapChance", "(III)I"⟩
abbrev cX1_swapState : ByteArray := prog_3_method_3_code
def yX1_swapState : MethodName := ⟨RX1, "swapState", "(II)I"⟩
abbrev cX1_swapWeight : ByteArray := prog_3_method_4_code
def yX1_swapWeight : MethodName := ⟨RX1, "swapWeight", "(II)I"⟩
abbrev cX1_chanceOf : ByteArray := prog_3_method_5_code
def yX1_chanceOf : MethodName := ⟨RX1, "chanceOf", "(II)I"⟩
abbrev cX1_mixedChance : ByteArray := prog_3_method_6_code
def yX1_mixedChance : MethodName := ⟨RX1, "mixedChance", "(I)I"⟩
abbrev cX1_isCase : ByteArray := prog_3_method_7_code
def yX1_isCase : MethodName := ⟨RX1, "isCase", "(II)Z"⟩
abbrev cX1_countState : ByteArray := prog_3_method_8_code
def yX1_countState : MethodName := ⟨RX1, "countState", "(I)I"⟩
abbrev cX1_countTold : ByteArray := prog_3_method_9_code
def yX1_countTold : MethodName := ⟨RX1, "countTold", "()I"⟩
abbrev cX1_countCases : ByteArray := prog_3_method_10_code
def yX1_countCases : MethodName := ⟨RX1, "countCases", "()I"⟩
def RX2 : String := "ToldChances$Cases"
def TX2 : u_T := fun k => match k with
  | 0 => ("ToldChances$Cases", "chances", "[I", true)
  | 1 => ("ToldChances$Cases", "isYes", "[Z", true)
  | 2 => ("ToldChances$Cases", "count", "I", false)
  | _ => ("ToldChances$Cases", "yesCount", "I", false)
def tyX2 : Nat → FieldType := fun k => match k with
  | 0 => .array .int
  | 1 => .array .boolean
  | 2 => .int
  | _ => .int
theorem nmX2 : ∀ a, a < 4 → ∀ b, b < 4 → a ≠ b → (TX2 a).2.1 ≠ (TX2 b).2.1 := by decide +kernel
theorem tyX2_ok : ∀ k, k < 4 → parseFieldDescriptor (TX2 k).2.2.1 = some (tyX2 k) := by decide +kernel
abbrev cX2_init : ByteArray := prog_4_method_1_code
def yX2_init : MethodName := ⟨RX2, "<init>", "()V"⟩
abbrev cX2_gather : ByteArray := prog_4_method_2_code
def yX2_gather : MethodName := ⟨RX2, "gather", "(LToldChances$Book;I)V"⟩
abbrev cX2_missSum : ByteArray := prog_4_method_3_code
def yX2_missSum : MethodName := ⟨RX2, "missSum", "(LToldChances$Rule;)J"⟩
abbrev cX2_halvesWellRanked : ByteArray := prog_4_method_4_code
def yX2_halvesWellRanked : MethodName := ⟨RX2, "halvesWellRanked", "()J"⟩
def RX3 : String := "ToldChances$Command"
abbrev cX3_greatest : ByteArray := prog_5_method_4_code
def yX3_greatest : MethodName := ⟨RX3, "greatest", "(I)I"⟩
def RX4 : String := "ToldChances$Fraction"
def TX4 : u_T := fun k => match k with
  | 0 => ("ToldChances$Fraction", "upper", "J", false)
  | _ => ("ToldChances$Fraction", "lower", "J", false)
def tyX4 : Nat → FieldType := fun k => match k with
  | 0 => .long
  | _ => .long
theorem nmX4 : ∀ a, a < 2 → ∀ b, b < 2 → a ≠ b → (TX4 a).2.1 ≠ (TX4 b).2.1 := by decide +kernel
theorem tyX4_ok : ∀ k, k < 2 → parseFieldDescriptor (TX4 k).2.2.1 = some (tyX4 k) := by decide +kernel
abbrev cX4_init : ByteArray := prog_6_method_1_code
def yX4_init : MethodName := ⟨RX4, "<init>", "()V"⟩
abbrev cX4_become : ByteArray := prog_6_method_2_code
def yX4_become : MethodName := ⟨RX4, "become", "(JJ)V"⟩
abbrev cX4_add : ByteArray := prog_6_method_3_code
def yX4_add : MethodName := ⟨RX4, "add", "(JJ)V"⟩
abbrev cX4_divideBy : ByteArray := prog_6_method_4_code
def yX4_divideBy : MethodName := ⟨RX4, "divideBy", "(J)V"⟩
abbrev cX4_pick : ByteArray := prog_6_method_5_code
def yX4_pick : MethodName := ⟨RX4, "pick", "(I)J"⟩
abbrev cX4_sharedBy : ByteArray := prog_6_method_6_code
def yX4_sharedBy : MethodName := ⟨RX4, "sharedBy", "(JJ)J"⟩
def RX5 : String := "ToldChances$LineReader"
def TX5 : u_T := fun k => match k with
  | 0 => ("ToldChances$LineReader", "numbers", "[I", true)
  | 1 => ("ToldChances$LineReader", "whole", "Z", false)
  | _ => ("ToldChances$LineReader", "place", "I", false)
def tyX5 : Nat → FieldType := fun k => match k with
  | 0 => .array .int
  | 1 => .boolean
  | _ => .int
theorem nmX5 : ∀ a, a < 3 → ∀ b, b < 3 → a ≠ b → (TX5 a).2.1 ≠ (TX5 b).2.1 := by decide +kernel
theorem tyX5_ok : ∀ k, k < 3 → parseFieldDescriptor (TX5 k).2.2.1 = some (tyX5 k) := by decide +kernel
abbrev cX5_init : ByteArray := prog_7_method_1_code
def yX5_init : MethodName := ⟨RX5, "<init>", "()V"⟩
abbrev cX5_reach : ByteArray := prog_7_method_2_code
def yX5_reach : MethodName := ⟨RX5, "reach", "(LToldChances$Tape;LToldChances$Command;)I"⟩
abbrev cX5_readNumber : ByteArray := prog_7_method_3_code
def yX5_readNumber : MethodName := ⟨RX5, "readNumber", "(LToldChances$Tape;II)Z"⟩
def RX6 : String := "ToldChances$Paper"
def TX6 : u_T := fun k => match k with
  | 0 => ("ToldChances$Paper", "signs", "[I", true)
  | _ => ("ToldChances$Paper", "length", "I", false)
def tyX6 : Nat → FieldType := fun k => match k with
  | 0 => .array .int
  | _ => .int
theorem nmX6 : ∀ a, a < 2 → ∀ b, b < 2 → a ≠ b → (TX6 a).2.1 ≠ (TX6 b).2.1 := by decide +kernel
theorem tyX6_ok : ∀ k, k < 2 → parseFieldDescriptor (TX6 k).2.2.1 = some (tyX6 k) := by decide +kernel
abbrev cX6_init : ByteArray := prog_8_method_1_code
def yX6_init : MethodName := ⟨RX6, "<init>", "()V"⟩
abbrev cX6_clear : ByteArray := prog_8_method_2_code
def yX6_clear : MethodName := ⟨RX6, "clear", "()V"⟩
abbrev cX6_put : ByteArray := prog_8_method_3_code
def yX6_put : MethodName := ⟨RX6, "put", "(I)V"⟩
abbrev cX6_putWord : ByteArray := prog_8_method_4_code
def yX6_putWord : MethodName := ⟨RX6, "putWord", "(Ljava/lang/String;)V"⟩
abbrev cX6_putNumber : ByteArray := prog_8_method_5_code
def yX6_putNumber : MethodName := ⟨RX6, "putNumber", "(J)V"⟩
def RX7 : String := "ToldChances$PoolRow"
def TX7 : u_T := fun k => match k with
  | 0 => ("ToldChances$PoolRow", "countsByChance", "[I", true)
  | 1 => ("ToldChances$PoolRow", "yesesByChance", "[I", true)
  | 2 => ("ToldChances$PoolRow", "least", "[I", true)
  | 3 => ("ToldChances$PoolRow", "greatest", "[I", true)
  | 4 => ("ToldChances$PoolRow", "counts", "[I", true)
  | 5 => ("ToldChances$PoolRow", "yeses", "[I", true)
  | _ => ("ToldChances$PoolRow", "count", "I", false)
def tyX7 : Nat → FieldType := fun k => match k with
  | 0 => .array .int
  | 1 => .array .int
  | 2 => .array .int
  | 3 => .array .int
  | 4 => .array .int
  | 5 => .array .int
  | _ => .int
theorem nmX7 : ∀ a, a < 7 → ∀ b, b < 7 → a ≠ b → (TX7 a).2.1 ≠ (TX7 b).2.1 := by decide +kernel
theorem tyX7_ok : ∀ k, k < 7 → parseFieldDescriptor (TX7 k).2.2.1 = some (tyX7 k) := by decide +kernel
abbrev cX7_init : ByteArray := prog_9_method_1_code
def yX7_init : MethodName := ⟨RX7, "<init>", "()V"⟩
abbrev cX7_fill : ByteArray := prog_9_method_2_code
def yX7_fill : MethodName := ⟨RX7, "fill", "(LToldChances$Cases;)V"⟩
abbrev cX7_sortByChance : ByteArray := prog_9_method_3_code
def yX7_sortByChance : MethodName := ⟨RX7, "sortByChance", "(LToldChances$Cases;)V"⟩
abbrev cX7_addPool : ByteArray := prog_9_method_4_code
def yX7_addPool : MethodName := ⟨RX7, "addPool", "(I)V"⟩
abbrev cX7_isShareGreater : ByteArray := prog_9_method_5_code
def yX7_isShareGreater : MethodName := ⟨RX7, "isShareGreater", "(I)Z"⟩
abbrev cX7_mergeDown : ByteArray := prog_9_method_6_code
def yX7_mergeDown : MethodName := ⟨RX7, "mergeDown", "(I)V"⟩
abbrev cX7_tellOf : ByteArray := prog_9_method_7_code
def yX7_tellOf : MethodName := ⟨RX7, "tellOf", "(II)I"⟩
abbrev cX7_findFlat : ByteArray := prog_9_method_8_code
def yX7_findFlat : MethodName := ⟨RX7, "findFlat", "(ILToldChances$Fraction;)V"⟩
def RX8 : String := "ToldChances$Rule"
abbrev cX8_missOf : ByteArray := prog_10_method_4_code
def yX8_missOf : MethodName := ⟨RX8, "missOf", "(IZ)I"⟩
def RX9 : String := "ToldChances$Tape"
def TX9 : u_T := fun k => match k with
  | 0 => ("ToldChances$Tape", "codes", "[I", true)
  | _ => ("ToldChances$Tape", "length", "I", false)
def tyX9 : Nat → FieldType := fun k => match k with
  | 0 => .array .int
  | _ => .int
theorem nmX9 : ∀ a, a < 2 → ∀ b, b < 2 → a ≠ b → (TX9 a).2.1 ≠ (TX9 b).2.1 := by decide +kernel
theorem tyX9_ok : ∀ k, k < 2 → parseFieldDescriptor (TX9 k).2.2.1 = some (tyX9 k) := by decide +kernel
abbrev cX9_init : ByteArray := prog_11_method_1_code
def yX9_init : MethodName := ⟨RX9, "<init>", "()V"⟩
abbrev cX9_put : ByteArray := prog_11_method_2_code
def yX9_put : MethodName := ⟨RX9, "put", "(I)Z"⟩
abbrev cX9_clear : ByteArray := prog_11_method_3_code
def yX9_clear : MethodName := ⟨RX9, "clear", "()I"⟩
abbrev cX9_codeAt : ByteArray := prog_11_method_4_code
def yX9_codeAt : MethodName := ⟨RX9, "codeAt", "(I)I"⟩
abbrev cX9_spells : ByteArray := prog_11_method_5_code
def yX9_spells : MethodName := ⟨RX9, "spells", "(Ljava/lang/String;)Z"⟩
abbrev cX9_sharedWith : ByteArray := prog_11_method_6_code
def yX9_sharedWith : MethodName := ⟨RX9, "sharedWith", "(Ljava/lang/String;)I"⟩
def RX10 : String := "ToldChances"
def TX10 : u_T := fun k => match k with
  | 0 => ("ToldChances", "book", "LToldChances$Book;", true)
  | 1 => ("ToldChances", "tape", "LToldChances$Tape;", true)
  | 2 => ("ToldChances", "reader", "LToldChances$LineReader;", true)
  | 3 => ("ToldChances", "cases", "LToldChances$Cases;", true)
  | 4 => ("ToldChances", "bins", "LToldChances$Bins;", true)
  | 5 => ("ToldChances", "poolRow", "LToldChances$PoolRow;", true)
  | 6 => ("ToldChances", "result", "LToldChances$Fraction;", true)
  | 7 => ("ToldChances", "addend", "LToldChances$Fraction;", true)
  | 8 => ("ToldChances", "paper", "LToldChances$Paper;", true)
  | 9 => ("ToldChances", "missSums", "[J", true)
  | 10 => ("ToldChances", "caseCounts", "[I", true)
  | 11 => ("ToldChances", "winCounts", "[I", true)
  | 12 => ("ToldChances", "honestCounts", "[I", true)
  | _ => ("ToldChances", "current", "LToldChances$Rule;", false)
def tyX10 : Nat → FieldType := fun k => match k with
  | 0 => .object "ToldChances$Book"
  | 1 => .object "ToldChances$Tape"
  | 2 => .object "ToldChances$LineReader"
  | 3 => .object "ToldChances$Cases"
  | 4 => .object "ToldChances$Bins"
  | 5 => .object "ToldChances$PoolRow"
  | 6 => .object "ToldChances$Fraction"
  | 7 => .object "ToldChances$Fraction"
  | 8 => .object "ToldChances$Paper"
  | 9 => .array .long
  | 10 => .array .int
  | 11 => .array .int
  | 12 => .array .int
  | _ => .object "ToldChances$Rule"
theorem nmX10 : ∀ a, a < 14 → ∀ b, b < 14 → a ≠ b → (TX10 a).2.1 ≠ (TX10 b).2.1 := by decide +kernel
theorem tyX10_ok : ∀ k, k < 14 → parseFieldDescriptor (TX10 k).2.2.1 = some (tyX10 k) := by decide +kernel
abbrev cX10_init : ByteArray := prog_1_method_1_code
def yX10_init : MethodName := ⟨RX10, "<init>", "()V"⟩
abbrev cX10_tell : ByteArray := prog_1_method_2_code
def yX10_tell : MethodName := ⟨RX10, "tell", "(III)I"⟩
abbrev cX10_drop : ByteArray := prog_1_method_3_code
def yX10_drop : MethodName := ⟨RX10, "drop", "(II)I"⟩
abbrev cX10_yes : ByteArray := prog_1_method_4_code
def yX10_yes : MethodName := ⟨RX10, "yes", "(I)I"⟩
abbrev cX10_no : ByteArray := prog_1_method_5_code
def yX10_no : MethodName := ⟨RX10, "no", "(I)I"⟩
abbrev cX10_open : ByteArray := prog_1_method_6_code
def yX10_open : MethodName := ⟨RX10, "open", "(I)I"⟩
abbrev cX10_weigh : ByteArray := prog_1_method_7_code
def yX10_weigh : MethodName := ⟨RX10, "weigh", "(II)I"⟩
abbrev cX10_told : ByteArray := prog_1_method_8_code
def yX10_told : MethodName := ⟨RX10, "told", "(II)I"⟩
abbrev cX10_came : ByteArray := prog_1_method_9_code
def yX10_came : MethodName := ⟨RX10, "came", "(I)I"⟩
abbrev cX10_key : ByteArray := prog_1_method_10_code
def yX10_key : MethodName := ⟨RX10, "key", "(I)I"⟩
abbrev cX10_wipe : ByteArray := prog_1_method_11_code
def yX10_wipe : MethodName := ⟨RX10, "wipe", "()I"⟩
abbrev cX10_line : ByteArray := prog_1_method_12_code
def yX10_line : MethodName := ⟨RX10, "line", "()I"⟩
abbrev cX10_perform : ByteArray := prog_1_method_13_code
def yX10_perform : MethodName := ⟨RX10, "perform", "(LToldChances$Command;)I"⟩
abbrev cX10_rule : ByteArray := prog_1_method_14_code
def yX10_rule : MethodName := ⟨RX10, "rule", "()I"⟩
abbrev cX10_miss : ByteArray := prog_1_method_15_code
def yX10_miss : MethodName := ⟨RX10, "miss", "(II)I"⟩
abbrev cX10_score : ByteArray := prog_1_method_16_code
def yX10_score : MethodName := ⟨RX10, "score", "(II)J"⟩
abbrev cX10_rank : ByteArray := prog_1_method_17_code
def yX10_rank : MethodName := ⟨RX10, "rank", "(I)I"⟩
abbrev cX10_lure : ByteArray := prog_1_method_18_code
def yX10_lure : MethodName := ⟨RX10, "lure", "(I)I"⟩
abbrev cX10_honest : ByteArray := prog_1_method_19_code
def yX10_honest : MethodName := ⟨RX10, "honest", "()I"⟩
abbrev cX10_findMeanMiss : ByteArray := prog_1_method_20_code
def yX10_findMeanMiss : MethodName := ⟨RX10, "findMeanMiss", "(I)Z"⟩
abbrev cX10_tellersAheadOf : ByteArray := prog_1_method_21_code
def yX10_tellersAheadOf : MethodName := ⟨RX10, "tellersAheadOf", "(I)I"⟩
abbrev cX10_leastBest : ByteArray := prog_1_method_22_code
def yX10_leastBest : MethodName := ⟨RX10, "leastBest", "(I)I"⟩
abbrev cX10_countHonest : ByteArray := prog_1_method_23_code
def yX10_countHonest : MethodName := ⟨RX10, "countHonest", "()I"⟩
abbrev cX10_believedMiss : ByteArray := prog_1_method_24_code
def yX10_believedMiss : MethodName := ⟨RX10, "believedMiss", "(II)I"⟩
abbrev cX10_cut : ByteArray := prog_1_method_25_code
def yX10_cut : MethodName := ⟨RX10, "cut", "(I)I"⟩
abbrev cX10_bin : ByteArray := prog_1_method_26_code
def yX10_bin : MethodName := ⟨RX10, "bin", "(III)I"⟩
abbrev cX10_split : ByteArray := prog_1_method_27_code
def yX10_split : MethodName := ⟨RX10, "split", "(III)J"⟩
abbrev cX10_joined : ByteArray := prog_1_method_28_code
def yX10_joined : MethodName := ⟨RX10, "joined", "(III)J"⟩
abbrev cX10_area : ByteArray := prog_1_method_29_code
def yX10_area : MethodName := ⟨RX10, "area", "(II)J"⟩
abbrev cX10_pools : ByteArray := prog_1_method_30_code
def yX10_pools : MethodName := ⟨RX10, "pools", "(I)I"⟩
abbrev cX10_pool : ByteArray := prog_1_method_31_code
def yX10_pool : MethodName := ⟨RX10, "pool", "(III)I"⟩
abbrev cX10_flat : ByteArray := prog_1_method_32_code
def yX10_flat : MethodName := ⟨RX10, "flat", "(II)J"⟩
abbrev cX10_better : ByteArray := prog_1_method_33_code
def yX10_better : MethodName := ⟨RX10, "better", "(III)I"⟩
abbrev cX10_luck : ByteArray := prog_1_method_34_code
def yX10_luck : MethodName := ⟨RX10, "luck", "(III)J"⟩
abbrev cX10_sortCases : ByteArray := prog_1_method_35_code
def yX10_sortCases : MethodName := ⟨RX10, "sortCases", "(I)Z"⟩
abbrev cX10_joinParts : ByteArray := prog_1_method_36_code
def yX10_joinParts : MethodName := ⟨RX10, "joinParts", "()V"⟩
abbrev cX10_countWins : ByteArray := prog_1_method_37_code
def yX10_countWins : MethodName := ⟨RX10, "countWins", "(II)V"⟩
abbrev cX10_waysWithAtLeast : ByteArray := prog_1_method_38_code
def yX10_waysWithAtLeast : MethodName := ⟨RX10, "waysWithAtLeast", "(II)J"⟩
abbrev cX10_report : ByteArray := prog_1_method_39_code
def yX10_report : MethodName := ⟨RX10, "report", "(II)I"⟩
abbrev cX10_many : ByteArray := prog_1_method_40_code
def yX10_many : MethodName := ⟨RX10, "many", "(I)I"⟩
abbrev cX10_writeReport : ByteArray := prog_1_method_41_code
def yX10_writeReport : MethodName := ⟨RX10, "writeReport", "(I)V"⟩
abbrev cX10_signOf : ByteArray := prog_1_method_42_code
def yX10_signOf : MethodName := ⟨RX10, "signOf", "(IZ)I"⟩
abbrev cX10_isPlainTeller : ByteArray := prog_1_method_43_code
def yX10_isPlainTeller : MethodName := ⟨RX10, "isPlainTeller", "(I)Z"⟩
abbrev cX10_isTeller : ByteArray := prog_1_method_44_code
def yX10_isTeller : MethodName := ⟨RX10, "isTeller", "(I)Z"⟩
abbrev cX10_isEvent : ByteArray := prog_1_method_45_code
def yX10_isEvent : MethodName := ⟨RX10, "isEvent", "(I)Z"⟩
abbrev cX10_isChance : ByteArray := prog_1_method_46_code
def yX10_isChance : MethodName := ⟨RX10, "isChance", "(I)Z"⟩
abbrev cX10_isWhich : ByteArray := prog_1_method_47_code
def yX10_isWhich : MethodName := ⟨RX10, "isWhich", "(I)Z"⟩
def RX11 : String := "ToldChancesModel"
def TX11 : u_T := fun k => match k with
  | 0 => ("ToldChancesModel", "chance", "[I", true)
  | 1 => ("ToldChancesModel", "state", "[I", true)
  | 2 => ("ToldChancesModel", "weight", "[I", true)
  | 3 => ("ToldChancesModel", "tape", "[I", true)
  | 4 => ("ToldChancesModel", "taped", "I", false)
  | 5 => ("ToldChancesModel", "signs", "[I", true)
  | 6 => ("ToldChancesModel", "place", "I", false)
  | 7 => ("ToldChancesModel", "word", "I", false)
  | 8 => ("ToldChancesModel", "numbers", "[I", true)
  | 9 => ("ToldChancesModel", "rule", "I", false)
  | 10 => ("ToldChancesModel", "up", "J", false)
  | 11 => ("ToldChancesModel", "down", "J", false)
  | 12 => ("ToldChancesModel", "isCut", "[Z", true)
  | 13 => ("ToldChancesModel", "binMany", "[I", true)
  | 14 => ("ToldChancesModel", "binYes", "[I", true)
  | 15 => ("ToldChancesModel", "binSum", "[I", true)
  | 16 => ("ToldChancesModel", "binSquares", "[I", true)
  | 17 => ("ToldChancesModel", "binBoth", "[I", true)
  | 18 => ("ToldChancesModel", "all", "I", false)
  | 19 => ("ToldChancesModel", "allYes", "I", false)
  | 20 => ("ToldChancesModel", "pools", "I", false)
  | 21 => ("ToldChancesModel", "poolLeast", "[I", true)
  | 22 => ("ToldChancesModel", "poolMost", "[I", true)
  | 23 => ("ToldChancesModel", "poolMany", "[I", true)
  | 24 => ("ToldChancesModel", "poolYes", "[I", true)
  | 25 => ("ToldChancesModel", "both", "I", false)
  | 26 => ("ToldChancesModel", "first", "I", false)
  | 27 => ("ToldChancesModel", "second", "I", false)
  | 28 => ("ToldChancesModel", "report", "[I", true)
  | _ => ("ToldChancesModel", "written", "I", false)
def tyX11 : Nat → FieldType := fun k => match k with
  | 0 => .array .int
  | 1 => .array .int
  | 2 => .array .int
  | 3 => .array .int
  | 4 => .int
  | 5 => .array .int
  | 6 => .int
  | 7 => .int
  | 8 => .array .int
  | 9 => .int
  | 10 => .long
  | 11 => .long
  | 12 => .array .boolean
  | 13 => .array .int
  | 14 => .array .int
  | 15 => .array .int
  | 16 => .array .int
  | 17 => .array .int
  | 18 => .int
  | 19 => .int
  | 20 => .int
  | 21 => .array .int
  | 22 => .array .int
  | 23 => .array .int
  | 24 => .array .int
  | 25 => .int
  | 26 => .int
  | 27 => .int
  | 28 => .array .int
  | _ => .int
theorem nmX11 : ∀ a, a < 30 → ∀ b, b < 30 → a ≠ b → (TX11 a).2.1 ≠ (TX11 b).2.1 := by decide +kernel
theorem tyX11_ok : ∀ k, k < 30 → parseFieldDescriptor (TX11 k).2.2.1 = some (tyX11 k) := by decide +kernel
abbrev cX11_init : ByteArray := prog_13_method_1_code
def yX11_init : MethodName := ⟨RX11, "<init>", "()V"⟩
abbrev cX11_within : ByteArray := prog_13_method_2_code
def yX11_within : MethodName := ⟨RX11, "within", "(III)Z"⟩
abbrev cX11_isOne : ByteArray := prog_13_method_3_code
def yX11_isOne : MethodName := ⟨RX11, "isOne", "(I)Z"⟩
abbrev cX11_isAny : ByteArray := prog_13_method_4_code
def yX11_isAny : MethodName := ⟨RX11, "isAny", "(I)Z"⟩
abbrev cX11_isEvent : ByteArray := prog_13_method_5_code
def yX11_isEvent : MethodName := ⟨RX11, "isEvent", "(I)Z"⟩
abbrev cX11_tell : ByteArray := prog_13_method_6_code
def yX11_tell : MethodName := ⟨RX11, "tell", "(III)I"⟩
abbrev cX11_drop : ByteArray := prog_13_method_7_code
def yX11_drop : MethodName := ⟨RX11, "drop", "(II)I"⟩
abbrev cX11_becomes : ByteArray := prog_13_method_8_code
def yX11_becomes : MethodName := ⟨RX11, "becomes", "(II)I"⟩
abbrev cX11_yes : ByteArray := prog_13_method_9_code
def yX11_yes : MethodName := ⟨RX11, "yes", "(I)I"⟩
abbrev cX11_no : ByteArray := prog_13_method_10_code
def yX11_no : MethodName := ⟨RX11, "no", "(I)I"⟩
abbrev cX11_open : ByteArray := prog_13_method_11_code
def yX11_open : MethodName := ⟨RX11, "open", "(I)I"⟩
abbrev cX11_weigh : ByteArray := prog_13_method_12_code
def yX11_weigh : MethodName := ⟨RX11, "weigh", "(II)I"⟩
abbrev cX11_toldBy : ByteArray := prog_13_method_13_code
def yX11_toldBy : MethodName := ⟨RX11, "toldBy", "(II)I"⟩
abbrev cX11_told : ByteArray := prog_13_method_14_code
def yX11_told : MethodName := ⟨RX11, "told", "(II)I"⟩
abbrev cX11_came : ByteArray := prog_13_method_15_code
def yX11_came : MethodName := ⟨RX11, "came", "(I)I"⟩
abbrev cX11_key : ByteArray := prog_13_method_16_code
def yX11_key : MethodName := ⟨RX11, "key", "(I)I"⟩
abbrev cX11_wipe : ByteArray := prog_13_method_17_code
def yX11_wipe : MethodName := ⟨RX11, "wipe", "()I"⟩
abbrev cX11_wordLong : ByteArray := prog_13_method_18_code
def yX11_wordLong : MethodName := ⟨RX11, "wordLong", "(I)I"⟩
abbrev cX11_readsWord : ByteArray := prog_13_method_19_code
def yX11_readsWord : MethodName := ⟨RX11, "readsWord", "()Z"⟩
abbrev cX11_manyNumbers : ByteArray := prog_13_method_20_code
def yX11_manyNumbers : MethodName := ⟨RX11, "manyNumbers", "(I)I"⟩
abbrev cX11_greatest : ByteArray := prog_13_method_21_code
def yX11_greatest : MethodName := ⟨RX11, "greatest", "(II)I"⟩
abbrev cX11_isFigure : ByteArray := prog_13_method_22_code
def yX11_isFigure : MethodName := ⟨RX11, "isFigure", "()Z"⟩
abbrev cX11_readsNumber : ByteArray := prog_13_method_23_code
def yX11_readsNumber : MethodName := ⟨RX11, "readsNumber", "(I)Z"⟩
abbrev cX11_readsLine : ByteArray := prog_13_method_24_code
def yX11_readsLine : MethodName := ⟨RX11, "readsLine", "()Z"⟩
abbrev cX11_line : ByteArray := prog_13_method_25_code
def yX11_line : MethodName := ⟨RX11, "line", "()I"⟩
abbrev cX11_does : ByteArray := prog_13_method_26_code
def yX11_does : MethodName := ⟨RX11, "does", "()I"⟩
abbrev cX11_isOnTape : ByteArray := prog_13_method_27_code
def yX11_isOnTape : MethodName := ⟨RX11, "isOnTape", "(I)Z"⟩
abbrev cX11_rule : ByteArray := prog_13_method_28_code
def yX11_rule : MethodName := ⟨RX11, "rule", "()I"⟩
abbrev cX11_missOf : ByteArray := prog_13_method_29_code
def yX11_missOf : MethodName := ⟨RX11, "missOf", "(IZ)I"⟩
abbrev cX11_miss : ByteArray := prog_13_method_30_code
def yX11_miss : MethodName := ⟨RX11, "miss", "(II)I"⟩
abbrev cX11_isCase : ByteArray := prog_13_method_31_code
def yX11_isCase : MethodName := ⟨RX11, "isCase", "(II)Z"⟩
abbrev cX11_cases : ByteArray := prog_13_method_32_code
def yX11_cases : MethodName := ⟨RX11, "cases", "(I)I"⟩
abbrev cX11_misses : ByteArray := prog_13_method_33_code
def yX11_misses : MethodName := ⟨RX11, "misses", "(I)J"⟩
abbrev cX11_becomesFraction : ByteArray := prog_13_method_34_code
def yX11_becomesFraction : MethodName := ⟨RX11, "becomesFraction", "(JJ)V"⟩
abbrev cX11_adds : ByteArray := prog_13_method_35_code
def yX11_adds : MethodName := ⟨RX11, "adds", "(JJ)V"⟩
abbrev cX11_part : ByteArray := prog_13_method_36_code
def yX11_part : MethodName := ⟨RX11, "part", "(I)J"⟩
abbrev cX11_score : ByteArray := prog_13_method_37_code
def yX11_score : MethodName := ⟨RX11, "score", "(II)J"⟩
abbrev cX11_isAhead : ByteArray := prog_13_method_38_code
def yX11_isAhead : MethodName := ⟨RX11, "isAhead", "(II)Z"⟩
abbrev cX11_rank : ByteArray := prog_13_method_39_code
def yX11_rank : MethodName := ⟨RX11, "rank", "(I)I"⟩
abbrev cX11_sumBy : ByteArray := prog_13_method_40_code
def yX11_sumBy : MethodName := ⟨RX11, "sumBy", "(II)I"⟩
abbrev cX11_lureOf : ByteArray := prog_13_method_41_code
def yX11_lureOf : MethodName := ⟨RX11, "lureOf", "(I)I"⟩
abbrev cX11_lure : ByteArray := prog_13_method_42_code
def yX11_lure : MethodName := ⟨RX11, "lure", "(I)I"⟩
abbrev cX11_honest : ByteArray := prog_13_method_43_code
def yX11_honest : MethodName := ⟨RX11, "honest", "()I"⟩
abbrev cX11_cuts : ByteArray := prog_13_method_44_code
def yX11_cuts : MethodName := ⟨RX11, "cuts", "()I"⟩
abbrev cX11_cut : ByteArray := prog_13_method_45_code
def yX11_cut : MethodName := ⟨RX11, "cut", "(I)I"⟩
abbrev cX11_binOf : ByteArray := prog_13_method_46_code
def yX11_binOf : MethodName := ⟨RX11, "binOf", "(I)I"⟩
abbrev cX11_counts : ByteArray := prog_13_method_47_code
def yX11_counts : MethodName := ⟨RX11, "counts", "(I)V"⟩
abbrev cX11_leastIn : ByteArray := prog_13_method_48_code
def yX11_leastIn : MethodName := ⟨RX11, "leastIn", "(I)I"⟩
abbrev cX11_greatestIn : ByteArray := prog_13_method_49_code
def yX11_greatestIn : MethodName := ⟨RX11, "greatestIn", "(I)I"⟩
abbrev cX11_bin : ByteArray := prog_13_method_50_code
def yX11_bin : MethodName := ⟨RX11, "bin", "(III)I"⟩
abbrev cX11_inBin : ByteArray := prog_13_method_51_code
def yX11_inBin : MethodName := ⟨RX11, "inBin", "(II)J"⟩
abbrev cX11_wholeOf : ByteArray := prog_13_method_52_code
def yX11_wholeOf : MethodName := ⟨RX11, "wholeOf", "(I)J"⟩
abbrev cX11_addPart : ByteArray := prog_13_method_53_code
def yX11_addPart : MethodName := ⟨RX11, "addPart", "(II)V"⟩
abbrev cX11_noFraction : ByteArray := prog_13_method_54_code
def yX11_noFraction : MethodName := ⟨RX11, "noFraction", "()V"⟩
abbrev cX11_split : ByteArray := prog_13_method_55_code
def yX11_split : MethodName := ⟨RX11, "split", "(III)J"⟩
abbrev cX11_joined : ByteArray := prog_13_method_56_code
def yX11_joined : MethodName := ⟨RX11, "joined", "(III)J"⟩
abbrev cX11_area : ByteArray := prog_13_method_57_code
def yX11_area : MethodName := ⟨RX11, "area", "(II)J"⟩
abbrev cX11_isFlat : ByteArray := prog_13_method_58_code
def yX11_isFlat : MethodName := ⟨RX11, "isFlat", "(I)Z"⟩
abbrev cX11_joinsLast : ByteArray := prog_13_method_59_code
def yX11_joinsLast : MethodName := ⟨RX11, "joinsLast", "()V"⟩
abbrev cX11_findPools : ByteArray := prog_13_method_60_code
def yX11_findPools : MethodName := ⟨RX11, "findPools", "(I)V"⟩
abbrev cX11_pools : ByteArray := prog_13_method_61_code
def yX11_pools : MethodName := ⟨RX11, "pools", "(I)I"⟩
abbrev cX11_pool : ByteArray := prog_13_method_62_code
def yX11_pool : MethodName := ⟨RX11, "pool", "(III)I"⟩
abbrev cX11_flat : ByteArray := prog_13_method_63_code
def yX11_flat : MethodName := ⟨RX11, "flat", "(II)J"⟩
abbrev cX11_compares : ByteArray := prog_13_method_64_code
def yX11_compares : MethodName := ⟨RX11, "compares", "(II)V"⟩
abbrev cX11_better : ByteArray := prog_13_method_65_code
def yX11_better : MethodName := ⟨RX11, "better", "(III)I"⟩
abbrev cX11_choose : ByteArray := prog_13_method_66_code
def yX11_choose : MethodName := ⟨RX11, "choose", "(II)J"⟩
abbrev cX11_luck : ByteArray := prog_13_method_67_code
def yX11_luck : MethodName := ⟨RX11, "luck", "(III)J"⟩
abbrev cX11_writes : ByteArray := prog_13_method_68_code
def yX11_writes : MethodName := ⟨RX11, "writes", "(I)V"⟩
abbrev cX11_writesNumber : ByteArray := prog_13_method_69_code
def yX11_writesNumber : MethodName := ⟨RX11, "writesNumber", "(J)V"⟩
abbrev cX11_writesReport : ByteArray := prog_13_method_70_code
def yX11_writesReport : MethodName := ⟨RX11, "writesReport", "(I)V"⟩
abbrev cX11_report : ByteArray := prog_13_method_71_code
def yX11_report : MethodName := ⟨RX11, "report", "(II)I"⟩
abbrev cX11_many : ByteArray := prog_13_method_72_code
def yX11_many : MethodName := ⟨RX11, "many", "(I)I"⟩
def RJx29ce0 : String := "java/lang/Enum"
def RJ6 : String := "java/lang/Integer"
abbrev cJ6_compare_7cf53 : ByteArray := prog_15_method_40_code
def yJ6_compare_7cf53 : MethodName := ⟨RJ6, "compare", "(II)I"⟩
def RJ9 : String := "java/lang/Math"
abbrev cJ9_abs_067f4 : ByteArray := prog_16_method_61_code
def yJ9_abs_067f4 : MethodName := ⟨RJ9, "abs", "(J)J"⟩
abbrev cJ9_max_7cf53 : ByteArray := prog_16_method_65_code
def yJ9_max_7cf53 : MethodName := ⟨RJ9, "max", "(II)I"⟩
def RJ0 : String := "java/lang/String"
abbrev cJ0_length_8abf5 : ByteArray := prog_17_method_54_code
def yJ0_length_8abf5 : MethodName := ⟨RJ0, "length", "()I"⟩
abbrev cJ0_charAt_5068e : ByteArray := prog_17_method_56_code
def yJ0_charAt_5068e : MethodName := ⟨RJ0, "charAt", "(I)C"⟩
abbrev cJ0_coder_7d493 : ByteArray := prog_17_method_152_code
def yJ0_coder_7d493 : MethodName := ⟨RJ0, "coder", "()B"⟩
abbrev cJ0_isLatin1_aae02 : ByteArray := prog_17_method_154_code
def yJ0_isLatin1_aae02 : MethodName := ⟨RJ0, "isLatin1", "()Z"⟩
abbrev cJ0_checkIndex_df160 : ByteArray := prog_17_method_155_code
def yJ0_checkIndex_df160 : MethodName := ⟨RJ0, "checkIndex", "(II)V"⟩
def RJ1 : String := "java/lang/StringLatin1"
abbrev cJ1_charAt_3b067 : ByteArray := prog_18_method_2_code
def yJ1_charAt_3b067 : MethodName := ⟨RJ1, "charAt", "([BI)C"⟩
def RJ2 : String := "java/lang/StringUTF16"
abbrev cJ2_getChar_3b067 : ByteArray := prog_19_method_5_code
def yJ2_getChar_3b067 : MethodName := ⟨RJ2, "getChar", "([BI)C"⟩
abbrev cJ2_length_9d52b : ByteArray := prog_19_method_6_code
def yJ2_length_9d52b : MethodName := ⟨RJ2, "length", "([B)I"⟩
abbrev cJ2_charAt_3b067 : ByteArray := prog_19_method_83_code
def yJ2_charAt_3b067 : MethodName := ⟨RJ2, "charAt", "([BI)C"⟩
abbrev cJ2_checkIndex_2214a : ByteArray := prog_19_method_91_code
def yJ2_checkIndex_2214a : MethodName := ⟨RJ2, "checkIndex", "(I[B)V"⟩
def RJ3 : String := "jdk/internal/util/Preconditions"
abbrev cJ3_checkIndex_8e157 : ByteArray := prog_20_method_11_code
def yJ3_checkIndex_8e157 : MethodName := ⟨RJ3, "checkIndex", "(IILjava/util/function/BiFunction;)I"⟩
def RL : String := "ToldChancesLaw"
abbrev cL_law : ByteArray := code
def yL_law : MethodName := ⟨RL, "law", "([I)Z"⟩
end
section
/-! A walk is not written out instruction by instruction: each instruction is a small function on predicates (tb_..: what must hold ahead of it so that what is asked for holds behind it), and one law (to_..) says that the machine does so. A method's blocks are made of them (by a program); what a block asks is then plain mathematics over tc_S. -/
/-- values: an int, a long, a reference (its kind, its number) -/
abbrev tc_V : Type := Int32 ⊕ Int64 ⊕ (Nat × Nat)
/-- the state: what the cells of ints hold, what the cells of longs hold (a cell, a place), the rule -/
abbrev tc_S : Type := (Nat → Nat → Int32) × (Nat → Nat → Int64) × Nat
abbrev tc_L : Type := List (Nat × tc_V)
abbrev tc_B : Type := tc_L → List tc_V → tc_S → Prop
abbrev tc_Q : Type := Option tc_V → tc_S → Prop
abbrev tc_I (x : Int32) : tc_V := .inl x
abbrev tc_J (x : Int64) : tc_V := .inr (.inl x)
abbrev tc_R (k i : Nat) : tc_V := .inr (.inr (k, i))
def tc_v (ad : Nat → Nat → Nat) : tc_V → Value
  | .inl x => .int x
  | .inr (.inl x) => .long x
  | .inr (.inr q) => .ref (ad q.1 q.2)
def tc_cat : tc_V → Nat
  | .inr (.inl _) => 2
  | _ => 1
theorem tc_cat_v (ad : Nat → Nat → Nat) (v : tc_V) : (tc_v ad v).category = tc_cat v := by
  rcases v with x | x | q <;> rfl
def tc_ui (S : tc_S) (i k : Nat) (x : Int32) : tc_S := (fun j => if j = i then upd (S.1 j) k x else S.1 j, S.2)
def tc_ul (S : tc_S) (i k : Nat) (x : Int64) : tc_S := (S.1, fun j => if j = i then vp_updL (S.2.1 j) k x else S.2.1 j, S.2.2)
def tc_ur (S : tc_S) (r : Nat) : tc_S := (S.1, S.2.1, r)
/-- the classes of the world's objects -/
abbrev tc_cl : List vw_C := [(RX0, TX0, 7), (RX1, TX1, 3), (RX2, TX2, 4), (RX4, TX4, 2), (RX5, TX5, 3), (RX6, TX6, 2), (RX7, TX7, 7), (RX9, TX9, 2), (RX10, TX10, 14), (RX11, TX11, 30)]
/-- the kinds of arrays: 0 int, 1 boolean, 2 long -/
abbrev tc_ty (cA : Nat → ClassId) : List (ClassId × FieldType) := [(cA 0, .int), (cA 1, .boolean), (cA 2, .long)]
abbrev tc_C : Type := (Nat × List (Nat × Nat)) ⊕ (Nat × Nat)
/-- the world's cells: an object (its class, its fields: 0 an int, 1 a long, 2 a cell, 3 the rule) or an array (its kind, its length) -/
def tc_lay : List tc_C := [
  .inl (8, [(2, 1), (2, 2), (2, 3), (2, 4), (2, 5), (2, 6), (2, 7), (2, 8), (2, 9), (2, 10), (2, 11), (2, 12), (2, 13), (3, 0)]),
  .inl (1, [(2, 14), (2, 15), (2, 16)]),
  .inl (7, [(2, 17), (0, 0)]),
  .inl (4, [(2, 18), (0, 0), (0, 0)]),
  .inl (2, [(2, 19), (2, 20), (0, 0), (0, 0)]),
  .inl (0, [(2, 21), (0, 0), (2, 22), (2, 23), (2, 24), (2, 25), (2, 26)]),
  .inl (6, [(2, 27), (2, 28), (2, 29), (2, 30), (2, 31), (2, 32), (0, 0)]),
  .inl (3, [(1, 0), (1, 0)]),
  .inl (3, [(1, 0), (1, 0)]),
  .inl (5, [(2, 33), (0, 0)]),
  .inr (2, 5), .inr (0, 5), .inr (0, 3), .inr (0, 4),
  .inr (0, 160), .inr (0, 4), .inr (0, 40),
  .inr (0, 24), .inr (0, 3),
  .inr (0, 40), .inr (1, 40),
  .inr (0, 9), .inr (0, 10), .inr (0, 10), .inr (0, 10), .inr (0, 10), .inr (0, 10),
  .inr (0, 101), .inr (0, 101), .inr (0, 40), .inr (0, 40), .inr (0, 40), .inr (0, 40),
  .inr (0, 100),
  .inl (9, [(2, 35), (2, 36), (2, 37), (2, 38), (0, 0), (2, 39), (0, 0), (0, 0), (2, 40), (0, 0), (1, 0), (1, 0), (2, 41), (2, 42), (2, 43), (2, 44), (2, 45), (2, 46), (0, 0), (0, 0), (0, 0), (2, 47), (2, 48), (2, 49), (2, 50), (0, 0), (0, 0), (0, 0), (2, 51), (0, 0)]),
  .inr (0, 160), .inr (0, 40), .inr (0, 4), .inr (0, 24), .inr (0, 60), .inr (0, 3), .inr (1, 101),
  .inr (0, 10), .inr (0, 10), .inr (0, 10), .inr (0, 10), .inr (0, 10),
  .inr (0, 101), .inr (0, 101), .inr (0, 101), .inr (0, 101), .inr (0, 100)]
def tc_fv (S : tc_S) (i k : Nat) (f : Nat × Nat) : tc_V := match f.1 with
  | 0 => .inl (S.1 i k)
  | 1 => .inr (.inl (S.2.1 i k))
  | 2 => .inr (.inr (0, f.2))
  | _ => .inr (.inr (1, S.2.2))
def tc_cell (ad : Nat → Nat → Nat) (cA : Nat → ClassId) (S : tc_S) (i : Nat) (c : tc_C) : Nat × va_E := (ad 0 i, match c with
  | .inl o => .inr (o.1, o.2.mapIdx (fun k f => tc_v ad (tc_fv S i k f)))
  | .inr a => .inl (cA a.1, a.2, if a.1 = 2 then .inr (.inl (S.2.1 i)) else .inl (S.1 i)))
def tc_W (ad : Nat → Nat → Nat) (cA : Nat → ClassId) (S : tc_S) : va_W := tc_lay.mapIdx (fun i c => tc_cell ad cA S i c)
theorem tc_W_at {ad : Nat → Nat → Nat} {cA : Nat → ClassId} {S : tc_S} {i : Nat} {c : tc_C} (h : tc_lay[i]? = some c) : (tc_W ad cA S)[i]? = some (tc_cell ad cA S i c) := by
  simp only [tc_W, List.getElem?_mapIdx, h, Option.map_some]
theorem tc_W_set {ad : Nat → Nat → Nat} {cA : Nat → ClassId} {S S' : tc_S} {i : Nat} {c : tc_C} {q : Nat × va_E} (h : tc_lay[i]? = some c) (hq : tc_cell ad cA S' i c = q) (ho : ∀ (j : Nat) (c' : tc_C), j ≠ i → tc_lay[j]? = some c' → tc_cell ad cA S' j c' = tc_cell ad cA S j c') : (tc_W ad cA S).set i q = tc_W ad cA S' := by
  apply List.ext_getElem?
  intro j
  rw [List.getElem?_set]
  by_cases hj : i = j
  · subst hj
    have h1 : i < (tc_W ad cA S).length := by
      have := (List.getElem?_eq_some_iff.mp (tc_W_at (ad := ad) (cA := cA) (S := S) h)).1
      exact this
    rw [if_pos rfl, if_pos h1, tc_W_at h, hq]
  · rw [if_neg hj]
    cases hc : tc_lay[j]? with
    | none => simp only [tc_W, List.getElem?_mapIdx, hc, Option.map_none]
    | some c' => rw [tc_W_at hc, tc_W_at hc, ho j c' (fun e => hj e.symm) hc]
theorem tc_cell_ui {ad : Nat → Nat → Nat} {cA : Nat → ClassId} {S : tc_S} {i k j : Nat} {x : Int32} {c : tc_C} (h : j ≠ i) : tc_cell ad cA (tc_ui S i k x) j c = tc_cell ad cA S j c := by
  have e : (tc_ui S i k x).1 j = S.1 j := if_neg h
  have e2 : (tc_ui S i k x).2 = S.2 := rfl
  have ef : ∀ k', tc_fv (tc_ui S i k x) j k' = tc_fv S j k' := by
    intro k'
    funext f
    simp only [tc_fv, e, e2]
  simp only [tc_cell, e, e2, ef]
theorem tc_cell_ul {ad : Nat → Nat → Nat} {cA : Nat → ClassId} {S : tc_S} {i k j : Nat} {x : Int64} {c : tc_C} (h : j ≠ i) : tc_cell ad cA (tc_ul S i k x) j c = tc_cell ad cA S j c := by
  have e : (tc_ul S i k x).2.1 j = S.2.1 j := if_neg h
  have e1 : (tc_ul S i k x).1 = S.1 := rfl
  have e2 : (tc_ul S i k x).2.2 = S.2.2 := rfl
  have ef : ∀ k', tc_fv (tc_ul S i k x) j k' = tc_fv S j k' := by
    intro k'
    funext f
    simp only [tc_fv, e, e1, e2]
  simp only [tc_cell, e, e1, ef]
/-- the rule stands in cell 0 alone -/
theorem tc_lay_r : ∀ (j : Nat) (c : tc_C), j ≠ 0 → tc_lay[j]? = some c → (match c with
    | .inl o => o.2.all (fun f => f.1 != 3)
    | .inr _ => true) = true := by
  intro j c hj h
  have h0 : (tc_lay.drop 1).all (fun c => match c with
    | .inl o => o.2.all (fun f => f.1 != 3)
    | .inr _ => true) = true := by decide +kernel
  obtain ⟨i, rfl⟩ : ∃ i, j = i + 1 := ⟨j - 1, by omega⟩
  have h1 : (tc_lay.drop 1)[i]? = some c := by
    rw [List.getElem?_drop, Nat.add_comm]
    exact h
  exact List.all_eq_true.mp h0 c (List.mem_of_getElem? h1)
/-- what never changes: statics, constants, their texts -/
def tc_zs : List (String × String × String × tc_V) := [("ToldChances$Rule", "SQUARE", "LToldChances$Rule;", tc_R 1 0), ("ToldChances$Rule", "LINE", "LToldChances$Rule;", tc_R 1 1), ("ToldChances$Rule", "EDGE", "LToldChances$Rule;", tc_R 1 2), ("ToldChances$Rule", "CUBE", "LToldChances$Rule;", tc_R 1 3),
  ("ToldChances$Command", "TELL", "LToldChances$Command;", tc_R 2 0), ("ToldChances$Command", "DROP", "LToldChances$Command;", tc_R 2 1), ("ToldChances$Command", "YES", "LToldChances$Command;", tc_R 2 2), ("ToldChances$Command", "NO", "LToldChances$Command;", tc_R 2 3), ("ToldChances$Command", "OPEN", "LToldChances$Command;", tc_R 2 4), ("ToldChances$Command", "WEIGH", "LToldChances$Command;", tc_R 2 5),
  ("ToldChances", "RULES", "[LToldChances$Rule;", tc_R 4 0), ("ToldChances", "COMMANDS", "[LToldChances$Command;", tc_R 4 1), ("java/lang/String", "COMPACT_STRINGS", "Z", tc_I 1)]
/-- fields of constants: kind and how many, declarer, name, descriptor, what they hold -/
def tc_fs : List ((Nat × Nat) × String × String × String × (Nat → tc_V)) := [((1, 4), "ToldChances$Rule", "number", "I", fun i => tc_I (nI i)), ((1, 4), "ToldChances$Rule", "word", "Ljava/lang/String;", fun i => tc_R 3 i),
  ((2, 6), "ToldChances$Command", "word", "Ljava/lang/String;", fun i => tc_R 3 (4 + i)), ((2, 6), "ToldChances$Command", "numbers", "I", fun i => tc_I ([3, 2, 1, 1, 1, 2].getD i 0)), ((2, 6), "ToldChances$Command", "first", "I", fun i => tc_I ([3, 3, 39, 39, 39, 3].getD i 0)), ((2, 6), "ToldChances$Command", "second", "I", fun i => tc_I ([39, 39, 0, 0, 0, 9].getD i 0)), ((2, 6), "ToldChances$Command", "third", "I", fun i => tc_I ([100, 0, 0, 0, 0, 0].getD i 0))]
def tc_len : List Nat := [6, 4, 4, 4, 4, 4, 3, 2, 4, 5]
def tc_byt : List (List Int32) := [[115, 113, 117, 97, 114, 101], [108, 105, 110, 101], [101, 100, 103, 101], [99, 117, 98, 101], [116, 101, 108, 108], [100, 114, 111, 112], [121, 101, 115], [110, 111], [111, 112, 101, 110], [119, 101, 105, 103, 104]]
def tc_St (ad : Nat → Nat → Nat) (A : Nat → Prop) (U : State) (H : Heap) : Prop :=
  (∀ z ∈ tc_zs, va_Z z.1 z.2.1 z.2.2.1 (tc_v ad z.2.2.2) A U H) ∧ (∀ i, i < 4 → va_O "ToldChances$Rule" (ad 1 i) A U H) ∧ (∀ i, i < 6 → va_O "ToldChances$Command" (ad 2 i) A U H) ∧ vk_S 10 tc_len tc_byt (ad 3) (ad 6) A U H ∧
  (∀ f ∈ tc_fs, ∀ i, i < f.1.2 → va_OF f.2.1 f.2.2.1 f.2.2.2.1 (tc_v ad (f.2.2.2.2 i)) (ad f.1.1 i) A U H) ∧
  va_T (.object "ToldChances$Rule") (ad 4 0) 4 (fun j => .ref (ad 1 j)) A U H ∧ va_T (.object "ToldChances$Command") (ad 4 1) 6 (fun j => .ref (ad 2 j)) A U H ∧
  (∀ i j, i < 4 → j < 4 → ad 1 i = ad 1 j → i = j) ∧ (∀ i j, i < 6 → j < 6 → ad 2 i = ad 2 j → i = j) ∧ va_Zq "jdk/internal/util/Preconditions" "SIOOBE_FORMATTER" "Ljava/util/function/BiFunction;" A U H
theorem tc_St.moved {ad : Nat → Nat → Nat} {A : Nat → Prop} {u U : State} {H : Heap} (hvm : u.vm.Alike U.vm) (h : tc_St ad A u H) : tc_St ad A U H := by
  obtain ⟨h1, h2, h3, h4, h5, h6, h7, h8, h9, h10⟩ := h
  exact ⟨fun z hz => (h1 z hz).moved hvm, fun i hi => (h2 i hi).moved hvm, fun i hi => (h3 i hi).moved hvm, h4.moved hvm, fun f hf i hi => (h5 f hf i hi).moved hvm, h6.moved hvm, h7.moved hvm, h8, h9, h10.moved hvm⟩
theorem tc_St.kept {ad : Nat → Nat → Nat} {A : Nat → Prop} {U : State} {H H1 : Heap} (h : tc_St ad A U H) (hq : ∀ a : Nat, a < H.size → ¬ A a → H1[a]? = H[a]?) : tc_St ad A U H1 := by
  obtain ⟨h1, h2, h3, h4, h5, h6, h7, h8, h9, h10⟩ := h
  exact ⟨fun z hz => (h1 z hz).kept hq, fun i hi => (h2 i hi).kept hq, fun i hi => (h3 i hi).kept hq, h4.kept hq, fun f hf i hi => (h5 f hf i hi).kept hq, h6.kept hq, h7.kept hq, h8, h9, h10.kept hq⟩
theorem tc_St.narrow {ad : Nat → Nat → Nat} {A B : Nat → Prop} {U : State} {H : Heap} (h : tc_St ad A U H) (hAB : ∀ q, B q → A q) : tc_St ad B U H := by
  obtain ⟨h1, h2, h3, h4, h5, h6, h7, h8, h9, h10⟩ := h
  exact ⟨fun z hz => (h1 z hz).narrow hAB, fun i hi => (h2 i hi).narrow hAB, fun i hi => (h3 i hi).narrow hAB, h4.narrow hAB, fun f hf i hi => (h5 f hf i hi).narrow hAB, h6.narrow hAB, h7.narrow hAB, h8, h9, h10.narrow hAB⟩
/-- where a method stands: all that doesn't change while it runs -/
abbrev tc_Z : Type := Program × Launch × Env × Room × State × MethodId × Array Value × List Frame × Method × Code × (Nat × Nat) × (State → Prop) × List Cond × va_G × (Nat → Nat → Nat) × (Nat → ClassId) × (Nat → Prop)
def tc_Cx (R : Room) (cc : ByteArray) (nL : Nat) (own : String) (Z : tc_Z) : Prop := match Z with
  | (p, _, _, R', s, m, args, _, _, c, n, _, Ts, D, ad, cA, A) => R' = R ∧ CallFix p m c cc nL s args Ts own ∧ va_K D tc_cl (tc_ty cA) s ∧ (∀ q, s.heap.size ≤ q → A q) ∧ tc_St ad A s s.heap ∧ (∀ w ∈ tc_tb, w ∈ Ts) ∧ (n.1 ≤ R.cells ∧ n.2 ≤ R.slots)
abbrev tc_cL (ad : Nat → Nat → Nat) (L : tc_L) : List (Nat × Value) := L.map (fun q => (q.1, tc_v ad q.2))
def tc_At (nL : Nat) (Z : tc_Z) (pc : Nat) : tc_B := fun L K S => match Z with
  | (p, l, e, R, s, m, args, below, meth, c, n, Q, _, D, ad, cA, A) => ∀ (H : Heap) (locs : List Loc) (ls : Array Slot), va_P D tc_cl (tc_W ad cA S) H → va_D A (tc_W ad cA S) → va_S A s.heap H locs → lv_has ls nL (tc_cL ad L) → W p l e R s m args below meth c H locs n.1 n.2 Q (F0 m pc ls (K.map (tc_v ad)))
def tc_Ok (nL : Nat) (Z : tc_Z) (pc : Nat) (b : tc_B) : Prop := ∀ L K S, b L K S → tc_At nL Z pc L K S
/-! locals -/
def tc_lk : tc_L → Nat → Option tc_V
  | [], _ => none
  | (j, v) :: r, i => match Nat.beq j i with
    | true => some v
    | false => tc_lk r i
theorem tc_lk_mem {L : tc_L} {i : Nat} {v : tc_V} (h : tc_lk L i = some v) : (i, v) ∈ L := by
  induction L with
  | nil => cases h
  | cons q r ih =>
    obtain ⟨j, w⟩ := q
    simp only [tc_lk] at h
    split at h
    · rename_i e
      have : j = i := Nat.eq_of_beq_eq_true e
      subst this
      cases h
      exact List.mem_cons_self
    · exact List.mem_cons_of_mem _ (ih h)
theorem tc_ld {ad : Nat → Nat → Nat} {ls : Array Slot} {nL : Nat} {L : tc_L} (hl : lv_has ls nL (tc_cL ad L)) {i : Nat} {v : tc_V} (h : tc_lk L i = some v) : ls[i]? = some (.val (tc_v ad v)) :=
  hl.2.2 (i, tc_v ad v) (List.mem_map.mpr ⟨(i, v), tc_lk_mem h, rfl⟩)
def tc_st1 (L : tc_L) (i : Nat) (v : tc_V) : tc_L := (i, v) :: L.filter (fun q => !(q.1 == i) && !(q.1 + 1 == i && tc_cat q.2 == 2))
def tc_st2 (L : tc_L) (i : Nat) (v : tc_V) : tc_L := (i, v) :: L.filter (fun q => !(q.1 == i) && (!(q.1 == i + 1) && !(q.1 + 1 == i && tc_cat q.2 == 2)))
theorem tc_st1_c (ad : Nat → Nat → Nat) (L : tc_L) (i : Nat) (v : tc_V) : (i, tc_v ad v) :: (tc_cL ad L).filter (fun q => !(q.1 == i) && !(q.1 + 1 == i && q.2.category == 2)) = tc_cL ad (tc_st1 L i v) := by
  simp only [tc_st1, tc_cL, List.map_cons, List.filter_map, Function.comp_def, tc_cat_v]
theorem tc_st2_c (ad : Nat → Nat → Nat) (L : tc_L) (i : Nat) (v : tc_V) : (i, tc_v ad v) :: (tc_cL ad L).filter (fun q => !(q.1 == i) && (!(q.1 == i + 1) && !(q.1 + 1 == i && q.2.category == 2))) = tc_cL ad (tc_st2 L i v) := by
  simp only [tc_st2, tc_cL, List.map_cons, List.filter_map, Function.comp_def, tc_cat_v]
def tc_mask (live : List Nat) (L : tc_L) : tc_L := live.filterMap (fun i => (tc_lk L i).map (fun v => (i, v)))
theorem tc_mask_has {ad : Nat → Nat → Nat} {ls : Array Slot} {nL : Nat} {L : tc_L} (hl : lv_has ls nL (tc_cL ad L)) (live : List Nat) : lv_has ls nL (tc_cL ad (tc_mask live L)) := by
  refine ⟨hl.1, hl.2.1, fun q hq => ?_⟩
  obtain ⟨q', hq', rfl⟩ := List.mem_map.mp hq
  obtain ⟨i, -, hi⟩ := List.mem_filterMap.mp hq'
  cases hv : tc_lk L i with
  | none => rw [hv] at hi; cases hi
  | some v =>
    rw [hv] at hi
    cases hi
    exact tc_ld hl hv
def tc_num : Nat → List tc_V → tc_L
  | _, [] => []
  | i, v :: r => (i, v) :: tc_num (i + tc_cat v) r
theorem tc_num_c (ad : Nat → Nat → Nat) : ∀ (vs : List tc_V) (i : Nat), lv_args i (vs.map (tc_v ad)) = tc_cL ad (tc_num i vs) := by
  intro vs
  induction vs with
  | nil => intro i; rfl
  | cons v r ih =>
    intro i
    simp only [List.map_cons, lv_args, tc_num, tc_cat_v]
    rw [ih]
    rcases v with x | x | q <;> rfl
theorem tc_sl_len (ad : Nat → Nat → Nat) (vs : List tc_V) : (lg_sl (vs.map (tc_v ad))).length = (vs.map tc_cat).sum := by
  induction vs with
  | nil => rfl
  | cons v r ih =>
    have e : lg_sl ((v :: r).map (tc_v ad)) = (if (tc_v ad v).category = 2 then [.val (tc_v ad v), .second] else [.val (tc_v ad v)]) ++ lg_sl (r.map (tc_v ad)) := by
      simp only [lg_sl, List.map_cons, List.flatMap_cons]
    rw [e, List.length_append, ih, List.map_cons, List.sum_cons, tc_cat_v]
    rcases v with x | x | q <;> rfl
end
section
/-! one row an instruction -/
section TCROWS
variable {R : Room} {cc : ByteArray} {nL : Nat} {own : String} {Z : tc_Z} {pc : Nat} {k kt kf : tc_B}
def tb_cut (P : tc_B) (live : List Nat) : tc_B := fun L K S => P (tc_mask live L) K S
theorem to_cut {P : tc_B} (live : List Nat) (h : tc_Ok nL Z pc P) : tc_Ok nL Z pc (tb_cut P live) := by
  obtain ⟨p, l, e, R', s, m, args, below, meth, c, n, Q, Ts, D, ad, cA, A⟩ := Z
  intro L K S hb9 H locs ls hP hD hS hl
  exact h _ _ _ hb9 H locs ls hP hD hS (tc_mask_has hl live)
theorem to_at {L : tc_L} {K : List tc_V} {S : tc_S} {b : tc_B} (h : tc_Ok nL Z pc b) (hb : b L K S) : tc_At nL Z pc L K S := h L K S hb
-- constants
def tb_i (x : Int32) (k : tc_B) : tc_B := fun L K S => k L (.inl x :: K) S
def tb_j (x : Int64) (k : tc_B) : tc_B := fun L K S => k L (.inr (.inl x) :: K) S
theorem to_iconst {n : Int} {x : Int32} (X : tc_Cx R cc nL own Z) (hd : decode cc pc = .ok (.iconst n, 1)) (hv : Int32.ofInt n = x) (h : tc_Ok nL Z (pc + 1) k) : tc_Ok nL Z pc (tb_i x k) := by
  obtain ⟨p, l, e, R', s, m, args, below, meth, c, n, Q, Ts, D, ad, cA, A⟩ := Z
  obtain ⟨rfl, ⟨hx, hb, hml, hown, hts⟩, hK, hA, hSt, hTs, hn⟩ := X
  intro L K S hb9 H locs ls hP hD hS hl
  exact lv_iconst hx hb hd hv (h _ _ _ hb9 H locs ls hP hD hS hl)
theorem to_bipush {n : Int} {x : Int32} (X : tc_Cx R cc nL own Z) (hd : decode cc pc = .ok (.bipush n, 2)) (hv : (Int8.ofInt n).toInt32 = x) (h : tc_Ok nL Z (pc + 2) k) : tc_Ok nL Z pc (tb_i x k) := by
  obtain ⟨p, l, e, R', s, m, args, below, meth, c, n, Q, Ts, D, ad, cA, A⟩ := Z
  obtain ⟨rfl, ⟨hx, hb, hml, hown, hts⟩, hK, hA, hSt, hTs, hn⟩ := X
  intro L K S hb9 H locs ls hP hD hS hl
  exact lv_bipush hx hb hd hv (h _ _ _ hb9 H locs ls hP hD hS hl)
theorem to_sipush {n : Int} {x : Int32} (X : tc_Cx R cc nL own Z) (hd : decode cc pc = .ok (.sipush n, 3)) (hv : (Int16.ofInt n).toInt32 = x) (h : tc_Ok nL Z (pc + 3) k) : tc_Ok nL Z pc (tb_i x k) := by
  obtain ⟨p, l, e, R', s, m, args, below, meth, c, n, Q, Ts, D, ad, cA, A⟩ := Z
  obtain ⟨rfl, ⟨hx, hb, hml, hown, hts⟩, hK, hA, hSt, hTs, hn⟩ := X
  intro L K S hb9 H locs ls hP hD hS hl
  exact lv_sipush hx hb hd hv (h _ _ _ hb9 H locs ls hP hD hS hl)
theorem to_lconst {n : Fin 2} {x : Int64} (X : tc_Cx R cc nL own Z) (hd : decode cc pc = .ok (.lconst n, 1)) (hv : Int64.ofNat (n : Nat) = x) (h : tc_Ok nL Z (pc + 1) k) : tc_Ok nL Z pc (tb_j x k) := by
  obtain ⟨p, l, e, R', s, m, args, below, meth, c, n, Q, Ts, D, ad, cA, A⟩ := Z
  obtain ⟨rfl, ⟨hx, hb, hml, hown, hts⟩, hK, hA, hSt, hTs, hn⟩ := X
  intro L K S hb9 H locs ls hP hD hS hl
  exact lv_lconst hx hb hd hv (h _ _ _ hb9 H locs ls hP hD hS hl)
theorem to_ldc2 {ix : Nat} {x : Int64} (X : tc_Cx R cc nL own Z) (hw : Cond.constantLong own ix x ∈ tc_tb) (hd : decode cc pc = .ok (.ldc2_w ix, 3)) (h : tc_Ok nL Z (pc + 3) k) : tc_Ok nL Z pc (tb_j x k) := by
  obtain ⟨p, l, e, R', s, m, args, below, meth, c, n, Q, Ts, D, ad, cA, A⟩ := Z
  obtain ⟨rfl, ⟨hx, hb, hml, hown, hts⟩, hK, hA, hSt, hTs, hn⟩ := X
  intro L K S hb9 H locs ls hP hD hS hl
  exact lv_ldc2 hx hb hown (hts _ (hTs _ hw)) hd (h _ _ _ hb9 H locs ls hP hD hS hl)
-- locals
def tb_iload (i : Nat) (k : tc_B) : tc_B := fun L K S => match tc_lk L i with
  | some (.inl x) => k L (.inl x :: K) S
  | _ => False
def tb_lload (i : Nat) (k : tc_B) : tc_B := fun L K S => match tc_lk L i with
  | some (.inr (.inl x)) => k L (.inr (.inl x) :: K) S
  | _ => False
def tb_aload (i : Nat) (k : tc_B) : tc_B := fun L K S => match tc_lk L i with
  | some (.inr (.inr x)) => k L (.inr (.inr x) :: K) S
  | _ => False
theorem to_iload_n {i : Fin 4} {j : Nat} (X : tc_Cx R cc nL own Z) (hd : decode cc pc = .ok (.iload_n i, 1)) (hi : (i : Nat) = j) (h : tc_Ok nL Z (pc + 1) k) : tc_Ok nL Z pc (tb_iload j k) := by
  obtain ⟨p, l, e, R', s, m, args, below, meth, c, n, Q, Ts, D, ad, cA, A⟩ := Z
  obtain ⟨rfl, ⟨hx, hb, hml, hown, hts⟩, hK, hA, hSt, hTs, hn⟩ := X
  intro L K S hb9 H locs ls hP hD hS hl
  simp only [tb_iload] at hb9
  split at hb9
  · exact lv_iload_n hx hb hd hi (tc_ld hl (by assumption)) (h _ _ _ hb9 H locs ls hP hD hS hl)
  · exact hb9.elim
theorem to_iload {j : Nat} (X : tc_Cx R cc nL own Z) (hd : decode cc pc = .ok (.iload j, 2)) (h : tc_Ok nL Z (pc + 2) k) : tc_Ok nL Z pc (tb_iload j k) := by
  obtain ⟨p, l, e, R', s, m, args, below, meth, c, n, Q, Ts, D, ad, cA, A⟩ := Z
  obtain ⟨rfl, ⟨hx, hb, hml, hown, hts⟩, hK, hA, hSt, hTs, hn⟩ := X
  intro L K S hb9 H locs ls hP hD hS hl
  simp only [tb_iload] at hb9
  split at hb9
  · exact lv_iload hx hb hd (tc_ld hl (by assumption)) (h _ _ _ hb9 H locs ls hP hD hS hl)
  · exact hb9.elim
theorem to_lload_n {i : Fin 4} {j : Nat} (X : tc_Cx R cc nL own Z) (hd : decode cc pc = .ok (.lload_n i, 1)) (hi : (i : Nat) = j) (h : tc_Ok nL Z (pc + 1) k) : tc_Ok nL Z pc (tb_lload j k) := by
  obtain ⟨p, l, e, R', s, m, args, below, meth, c, n, Q, Ts, D, ad, cA, A⟩ := Z
  obtain ⟨rfl, ⟨hx, hb, hml, hown, hts⟩, hK, hA, hSt, hTs, hn⟩ := X
  intro L K S hb9 H locs ls hP hD hS hl
  simp only [tb_lload] at hb9
  split at hb9
  · exact lv_lload_n hx hb hd hi (tc_ld hl (by assumption)) (h _ _ _ hb9 H locs ls hP hD hS hl)
  · exact hb9.elim
theorem to_lload {j : Nat} (X : tc_Cx R cc nL own Z) (hd : decode cc pc = .ok (.lload j, 2)) (h : tc_Ok nL Z (pc + 2) k) : tc_Ok nL Z pc (tb_lload j k) := by
  obtain ⟨p, l, e, R', s, m, args, below, meth, c, n, Q, Ts, D, ad, cA, A⟩ := Z
  obtain ⟨rfl, ⟨hx, hb, hml, hown, hts⟩, hK, hA, hSt, hTs, hn⟩ := X
  intro L K S hb9 H locs ls hP hD hS hl
  simp only [tb_lload] at hb9
  split at hb9
  · exact lv_lload hx hb hd (tc_ld hl (by assumption)) (h _ _ _ hb9 H locs ls hP hD hS hl)
  · exact hb9.elim
theorem to_aload_n {i : Fin 4} {j : Nat} (X : tc_Cx R cc nL own Z) (hd : decode cc pc = .ok (.aload_n i, 1)) (hi : (i : Nat) = j) (h : tc_Ok nL Z (pc + 1) k) : tc_Ok nL Z pc (tb_aload j k) := by
  obtain ⟨p, l, e, R', s, m, args, below, meth, c, n, Q, Ts, D, ad, cA, A⟩ := Z
  obtain ⟨rfl, ⟨hx, hb, hml, hown, hts⟩, hK, hA, hSt, hTs, hn⟩ := X
  intro L K S hb9 H locs ls hP hD hS hl
  simp only [tb_aload] at hb9
  split at hb9
  · exact lv_aload_n hx hb hd hi (tc_ld hl (by assumption)) (h _ _ _ hb9 H locs ls hP hD hS hl)
  · exact hb9.elim
theorem to_aload {j : Nat} (X : tc_Cx R cc nL own Z) (hd : decode cc pc = .ok (.aload j, 2)) (h : tc_Ok nL Z (pc + 2) k) : tc_Ok nL Z pc (tb_aload j k) := by
  obtain ⟨p, l, e, R', s, m, args, below, meth, c, n, Q, Ts, D, ad, cA, A⟩ := Z
  obtain ⟨rfl, ⟨hx, hb, hml, hown, hts⟩, hK, hA, hSt, hTs, hn⟩ := X
  intro L K S hb9 H locs ls hP hD hS hl
  simp only [tb_aload] at hb9
  split at hb9
  · exact lv_aload hx hb hd (tc_ld hl (by assumption)) (h _ _ _ hb9 H locs ls hP hD hS hl)
  · exact hb9.elim
def tb_istore (i : Nat) (k : tc_B) : tc_B := fun L K S => match K with
  | .inl x :: r => k (tc_st1 L i (.inl x)) r S
  | _ => False
def tb_lstore (i : Nat) (k : tc_B) : tc_B := fun L K S => match K with
  | .inr (.inl x) :: r => k (tc_st2 L i (.inr (.inl x))) r S
  | _ => False
def tb_astore (i : Nat) (k : tc_B) : tc_B := fun L K S => match K with
  | .inr (.inr x) :: r => k (tc_st1 L i (.inr (.inr x))) r S
  | _ => False
theorem to_istore_n {i : Fin 4} {j : Nat} (X : tc_Cx R cc nL own Z) (hd : decode cc pc = .ok (.istore_n i, 1)) (hi : (i : Nat) = j) (hj : j < nL) (h : tc_Ok nL Z (pc + 1) k) : tc_Ok nL Z pc (tb_istore j k) := by
  obtain ⟨p, l, e, R', s, m, args, below, meth, c, n, Q, Ts, D, ad, cA, A⟩ := Z
  obtain ⟨rfl, ⟨hx, hb, hml, hown, hts⟩, hK, hA, hSt, hTs, hn⟩ := X
  intro L K S hb9 H locs ls hP hD hS hl
  simp only [tb_istore] at hb9
  split at hb9
  · rename_i x r
    exact lv_istore_n hx hb hd hi hl hj (tc_st1_c ad L j (.inl x)) (fun ls' hl' => h _ _ _ hb9 H locs ls' hP hD hS hl')
  · exact hb9.elim
theorem to_istore {j : Nat} (X : tc_Cx R cc nL own Z) (hd : decode cc pc = .ok (.istore j, 2)) (hj : j < nL) (h : tc_Ok nL Z (pc + 2) k) : tc_Ok nL Z pc (tb_istore j k) := by
  obtain ⟨p, l, e, R', s, m, args, below, meth, c, n, Q, Ts, D, ad, cA, A⟩ := Z
  obtain ⟨rfl, ⟨hx, hb, hml, hown, hts⟩, hK, hA, hSt, hTs, hn⟩ := X
  intro L K S hb9 H locs ls hP hD hS hl
  simp only [tb_istore] at hb9
  split at hb9
  · rename_i x r
    exact lv_istore hx hb hd hl hj (tc_st1_c ad L j (.inl x)) (fun ls' hl' => h _ _ _ hb9 H locs ls' hP hD hS hl')
  · exact hb9.elim
theorem to_lstore_n {i : Fin 4} {j : Nat} (X : tc_Cx R cc nL own Z) (hd : decode cc pc = .ok (.lstore_n i, 1)) (hi : (i : Nat) = j) (hj : j + 1 < nL) (h : tc_Ok nL Z (pc + 1) k) : tc_Ok nL Z pc (tb_lstore j k) := by
  obtain ⟨p, l, e, R', s, m, args, below, meth, c, n, Q, Ts, D, ad, cA, A⟩ := Z
  obtain ⟨rfl, ⟨hx, hb, hml, hown, hts⟩, hK, hA, hSt, hTs, hn⟩ := X
  intro L K S hb9 H locs ls hP hD hS hl
  simp only [tb_lstore] at hb9
  split at hb9
  · rename_i x r
    exact lv_lstore_n hx hb hd hi hl hj (tc_st2_c ad L j (.inr (.inl x))) (fun ls' hl' => h _ _ _ hb9 H locs ls' hP hD hS hl')
  · exact hb9.elim
theorem to_lstore {j : Nat} (X : tc_Cx R cc nL own Z) (hd : decode cc pc = .ok (.lstore j, 2)) (hj : j + 1 < nL) (h : tc_Ok nL Z (pc + 2) k) : tc_Ok nL Z pc (tb_lstore j k) := by
  obtain ⟨p, l, e, R', s, m, args, below, meth, c, n, Q, Ts, D, ad, cA, A⟩ := Z
  obtain ⟨rfl, ⟨hx, hb, hml, hown, hts⟩, hK, hA, hSt, hTs, hn⟩ := X
  intro L K S hb9 H locs ls hP hD hS hl
  simp only [tb_lstore] at hb9
  split at hb9
  · rename_i x r
    exact lv_lstore hx hb hd hl hj (tc_st2_c ad L j (.inr (.inl x))) (fun ls' hl' => h _ _ _ hb9 H locs ls' hP hD hS hl')
  · exact hb9.elim
theorem to_astore_n {i : Fin 4} {j : Nat} (X : tc_Cx R cc nL own Z) (hd : decode cc pc = .ok (.astore_n i, 1)) (hi : (i : Nat) = j) (hj : j < nL) (h : tc_Ok nL Z (pc + 1) k) : tc_Ok nL Z pc (tb_astore j k) := by
  obtain ⟨p, l, e, R', s, m, args, below, meth, c, n, Q, Ts, D, ad, cA, A⟩ := Z
  obtain ⟨rfl, ⟨hx, hb, hml, hown, hts⟩, hK, hA, hSt, hTs, hn⟩ := X
  intro L K S hb9 H locs ls hP hD hS hl
  simp only [tb_astore] at hb9
  split at hb9
  · rename_i x r
    exact lv_astore_n hx hb hd hi hl hj (tc_st1_c ad L j (.inr (.inr x))) (fun ls' hl' => h _ _ _ hb9 H locs ls' hP hD hS hl')
  · exact hb9.elim
def tb_iinc (i : Nat) (d : Int32) (k : tc_B) : tc_B := fun L K S => match tc_lk L i with
  | some (.inl x) => k (tc_st1 L i (.inl (x + d))) K S
  | _ => False
theorem to_iinc {j : Nat} {n : Int} {d : Int32} (X : tc_Cx R cc nL own Z) (hd : decode cc pc = .ok (.iinc j n, 3)) (hv : Int32.ofInt n = d) (hj : j < nL) (h : tc_Ok nL Z (pc + 3) k) : tc_Ok nL Z pc (tb_iinc j d k) := by
  obtain ⟨p, l, e, R', s, m, args, below, meth, c, n, Q, Ts, D, ad, cA, A⟩ := Z
  obtain ⟨rfl, ⟨hx, hb, hml, hown, hts⟩, hK, hA, hSt, hTs, hn⟩ := X
  intro L K S hb9 H locs ls hP hD hS hl
  simp only [tb_iinc] at hb9
  split at hb9
  · rename_i x hx9
    obtain ⟨i9, hi9⟩ := List.getElem?_of_mem (List.mem_map.mpr ⟨(j, .inl x), tc_lk_mem hx9, rfl⟩ : (j, tc_v ad (.inl x)) ∈ tc_cL ad L)
    exact lv_iinc (v := x + d) hx hb hd hl hi9 (by rw [hv]) hj (tc_st1_c ad L j (.inl (x + d))) (fun ls' hl' => h _ _ _ hb9 H locs ls' hP hD hS hl')
  · exact hb9.elim
-- arithmetic
def tb_ii (f : Int32 → Int32 → Int32) (k : tc_B) : tc_B := fun L K S => match K with
  | .inl y :: .inl x :: r => k L (.inl (f x y) :: r) S
  | _ => False
def tb_jj (f : Int64 → Int64 → Int64) (k : tc_B) : tc_B := fun L K S => match K with
  | .inr (.inl y) :: .inr (.inl x) :: r => k L (.inr (.inl (f x y)) :: r) S
  | _ => False
def tb_iadd (k : tc_B) : tc_B := tb_ii (fun x y => x + y) k
def tb_isub (k : tc_B) : tc_B := tb_ii (fun x y => x - y) k
def tb_imul (k : tc_B) : tc_B := tb_ii (fun x y => x * y) k
def tb_iand (k : tc_B) : tc_B := tb_ii (fun x y => x &&& y) k
def tb_ladd (k : tc_B) : tc_B := tb_jj (fun x y => x + y) k
def tb_lsub (k : tc_B) : tc_B := tb_jj (fun x y => x - y) k
def tb_lmul (k : tc_B) : tc_B := tb_jj (fun x y => x * y) k
theorem to_iadd (X : tc_Cx R cc nL own Z) (hd : decode cc pc = .ok (.iadd, 1)) (h : tc_Ok nL Z (pc + 1) k) : tc_Ok nL Z pc (tb_iadd k) := by
  obtain ⟨p, l, e, R', s, m, args, below, meth, c, n, Q, Ts, D, ad, cA, A⟩ := Z
  obtain ⟨rfl, ⟨hx, hb, hml, hown, hts⟩, hK, hA, hSt, hTs, hn⟩ := X
  intro L K S hb9 H locs ls hP hD hS hl
  simp only [tb_iadd, tb_ii] at hb9
  split at hb9
  · exact lv_iadd hx hb hd (h _ _ _ hb9 H locs ls hP hD hS hl)
  · exact hb9.elim
theorem to_isub (X : tc_Cx R cc nL own Z) (hd : decode cc pc = .ok (.isub, 1)) (h : tc_Ok nL Z (pc + 1) k) : tc_Ok nL Z pc (tb_isub k) := by
  obtain ⟨p, l, e, R', s, m, args, below, meth, c, n, Q, Ts, D, ad, cA, A⟩ := Z
  obtain ⟨rfl, ⟨hx, hb, hml, hown, hts⟩, hK, hA, hSt, hTs, hn⟩ := X
  intro L K S hb9 H locs ls hP hD hS hl
  simp only [tb_isub, tb_ii] at hb9
  split at hb9
  · exact lv_isub hx hb hd (h _ _ _ hb9 H locs ls hP hD hS hl)
  · exact hb9.elim
theorem to_imul (X : tc_Cx R cc nL own Z) (hd : decode cc pc = .ok (.imul, 1)) (h : tc_Ok nL Z (pc + 1) k) : tc_Ok nL Z pc (tb_imul k) := by
  obtain ⟨p, l, e, R', s, m, args, below, meth, c, n, Q, Ts, D, ad, cA, A⟩ := Z
  obtain ⟨rfl, ⟨hx, hb, hml, hown, hts⟩, hK, hA, hSt, hTs, hn⟩ := X
  intro L K S hb9 H locs ls hP hD hS hl
  simp only [tb_imul, tb_ii] at hb9
  split at hb9
  · exact lv_imul hx hb hd (h _ _ _ hb9 H locs ls hP hD hS hl)
  · exact hb9.elim
theorem to_iand (X : tc_Cx R cc nL own Z) (hd : decode cc pc = .ok (.iand, 1)) (h : tc_Ok nL Z (pc + 1) k) : tc_Ok nL Z pc (tb_iand k) := by
  obtain ⟨p, l, e, R', s, m, args, below, meth, c, n, Q, Ts, D, ad, cA, A⟩ := Z
  obtain ⟨rfl, ⟨hx, hb, hml, hown, hts⟩, hK, hA, hSt, hTs, hn⟩ := X
  intro L K S hb9 H locs ls hP hD hS hl
  simp only [tb_iand, tb_ii] at hb9
  split at hb9
  · exact lv_iand hx hb hd (h _ _ _ hb9 H locs ls hP hD hS hl)
  · exact hb9.elim
theorem to_ladd (X : tc_Cx R cc nL own Z) (hd : decode cc pc = .ok (.ladd, 1)) (h : tc_Ok nL Z (pc + 1) k) : tc_Ok nL Z pc (tb_ladd k) := by
  obtain ⟨p, l, e, R', s, m, args, below, meth, c, n, Q, Ts, D, ad, cA, A⟩ := Z
  obtain ⟨rfl, ⟨hx, hb, hml, hown, hts⟩, hK, hA, hSt, hTs, hn⟩ := X
  intro L K S hb9 H locs ls hP hD hS hl
  simp only [tb_ladd, tb_jj] at hb9
  split at hb9
  · exact lv_ladd hx hb hd (h _ _ _ hb9 H locs ls hP hD hS hl)
  · exact hb9.elim
theorem to_lsub (X : tc_Cx R cc nL own Z) (hd : decode cc pc = .ok (.lsub, 1)) (h : tc_Ok nL Z (pc + 1) k) : tc_Ok nL Z pc (tb_lsub k) := by
  obtain ⟨p, l, e, R', s, m, args, below, meth, c, n, Q, Ts, D, ad, cA, A⟩ := Z
  obtain ⟨rfl, ⟨hx, hb, hml, hown, hts⟩, hK, hA, hSt, hTs, hn⟩ := X
  intro L K S hb9 H locs ls hP hD hS hl
  simp only [tb_lsub, tb_jj] at hb9
  split at hb9
  · exact lv_lsub hx hb hd (h _ _ _ hb9 H locs ls hP hD hS hl)
  · exact hb9.elim
theorem to_lmul (X : tc_Cx R cc nL own Z) (hd : decode cc pc = .ok (.lmul, 1)) (h : tc_Ok nL Z (pc + 1) k) : tc_Ok nL Z pc (tb_lmul k) := by
  obtain ⟨p, l, e, R', s, m, args, below, meth, c, n, Q, Ts, D, ad, cA, A⟩ := Z
  obtain ⟨rfl, ⟨hx, hb, hml, hown, hts⟩, hK, hA, hSt, hTs, hn⟩ := X
  intro L K S hb9 H locs ls hP hD hS hl
  simp only [tb_lmul, tb_jj] at hb9
  split at hb9
  · exact lv_lmul hx hb hd (h _ _ _ hb9 H locs ls hP hD hS hl)
  · exact hb9.elim
def tb_idiv (k : tc_B) : tc_B := fun L K S => match K with
  | .inl y :: .inl x :: r => ¬ y = 0 ∧ k L (.inl (x / y) :: r) S
  | _ => False
def tb_ldiv (k : tc_B) : tc_B := fun L K S => match K with
  | .inr (.inl y) :: .inr (.inl x) :: r => ¬ y = 0 ∧ k L (.inr (.inl (x / y)) :: r) S
  | _ => False
def tb_lrem (k : tc_B) : tc_B := fun L K S => match K with
  | .inr (.inl y) :: .inr (.inl x) :: r => ¬ y = 0 ∧ k L (.inr (.inl (x - x / y * y)) :: r) S
  | _ => False
def tb_lneg (k : tc_B) : tc_B := fun L K S => match K with
  | .inr (.inl x) :: r => k L (.inr (.inl (-x)) :: r) S
  | _ => False
def tb_lshl (k : tc_B) : tc_B := fun L K S => match K with
  | .inl y :: .inr (.inl x) :: r => k L (.inr (.inl (x <<< (y.toInt64 &&& 63))) :: r) S
  | _ => False
def tb_i2l (k : tc_B) : tc_B := fun L K S => match K with
  | .inl x :: r => k L (.inr (.inl x.toInt64) :: r) S
  | _ => False
def tb_l2i (k : tc_B) : tc_B := fun L K S => match K with
  | .inr (.inl x) :: r => k L (.inl x.toInt32 :: r) S
  | _ => False
def tb_lcmp (k : tc_B) : tc_B := fun L K S => match K with
  | .inr (.inl y) :: .inr (.inl x) :: r => k L (.inl (lg_cmp x y) :: r) S
  | _ => False
theorem to_idiv (X : tc_Cx R cc nL own Z) (hd : decode cc pc = .ok (.idiv, 1)) (h : tc_Ok nL Z (pc + 1) k) : tc_Ok nL Z pc (tb_idiv k) := by
  obtain ⟨p, l, e, R', s, m, args, below, meth, c, n, Q, Ts, D, ad, cA, A⟩ := Z
  obtain ⟨rfl, ⟨hx, hb, hml, hown, hts⟩, hK, hA, hSt, hTs, hn⟩ := X
  intro L K S hb9 H locs ls hP hD hS hl
  simp only [tb_idiv] at hb9
  split at hb9
  · exact lv_idiv hx hb hd hb9.1 (h _ _ _ hb9.2 H locs ls hP hD hS hl)
  · exact hb9.elim
theorem to_ldiv (X : tc_Cx R cc nL own Z) (hd : decode cc pc = .ok (.ldiv, 1)) (h : tc_Ok nL Z (pc + 1) k) : tc_Ok nL Z pc (tb_ldiv k) := by
  obtain ⟨p, l, e, R', s, m, args, below, meth, c, n, Q, Ts, D, ad, cA, A⟩ := Z
  obtain ⟨rfl, ⟨hx, hb, hml, hown, hts⟩, hK, hA, hSt, hTs, hn⟩ := X
  intro L K S hb9 H locs ls hP hD hS hl
  simp only [tb_ldiv] at hb9
  split at hb9
  · exact lv_ldiv hx hb hd hb9.1 (h _ _ _ hb9.2 H locs ls hP hD hS hl)
  · exact hb9.elim
theorem to_lrem (X : tc_Cx R cc nL own Z) (hd : decode cc pc = .ok (.lrem, 1)) (h : tc_Ok nL Z (pc + 1) k) : tc_Ok nL Z pc (tb_lrem k) := by
  obtain ⟨p, l, e, R', s, m, args, below, meth, c, n, Q, Ts, D, ad, cA, A⟩ := Z
  obtain ⟨rfl, ⟨hx, hb, hml, hown, hts⟩, hK, hA, hSt, hTs, hn⟩ := X
  intro L K S hb9 H locs ls hP hD hS hl
  simp only [tb_lrem] at hb9
  split at hb9
  · exact lv_lrem hx hb hd hb9.1 (h _ _ _ hb9.2 H locs ls hP hD hS hl)
  · exact hb9.elim
theorem to_lneg (X : tc_Cx R cc nL own Z) (hd : decode cc pc = .ok (.lneg, 1)) (h : tc_Ok nL Z (pc + 1) k) : tc_Ok nL Z pc (tb_lneg k) := by
  obtain ⟨p, l, e, R', s, m, args, below, meth, c, n, Q, Ts, D, ad, cA, A⟩ := Z
  obtain ⟨rfl, ⟨hx, hb, hml, hown, hts⟩, hK, hA, hSt, hTs, hn⟩ := X
  intro L K S hb9 H locs ls hP hD hS hl
  simp only [tb_lneg] at hb9
  split at hb9
  · exact lv_lneg hx hb hd (h _ _ _ hb9 H locs ls hP hD hS hl)
  · exact hb9.elim
theorem to_lshl (X : tc_Cx R cc nL own Z) (hd : decode cc pc = .ok (.lshl, 1)) (h : tc_Ok nL Z (pc + 1) k) : tc_Ok nL Z pc (tb_lshl k) := by
  obtain ⟨p, l, e, R', s, m, args, below, meth, c, n, Q, Ts, D, ad, cA, A⟩ := Z
  obtain ⟨rfl, ⟨hx, hb, hml, hown, hts⟩, hK, hA, hSt, hTs, hn⟩ := X
  intro L K S hb9 H locs ls hP hD hS hl
  simp only [tb_lshl] at hb9
  split at hb9
  · exact lv_lshl hx hb hd rfl (h _ _ _ hb9 H locs ls hP hD hS hl)
  · exact hb9.elim
theorem to_i2l (X : tc_Cx R cc nL own Z) (hd : decode cc pc = .ok (.i2l, 1)) (h : tc_Ok nL Z (pc + 1) k) : tc_Ok nL Z pc (tb_i2l k) := by
  obtain ⟨p, l, e, R', s, m, args, below, meth, c, n, Q, Ts, D, ad, cA, A⟩ := Z
  obtain ⟨rfl, ⟨hx, hb, hml, hown, hts⟩, hK, hA, hSt, hTs, hn⟩ := X
  intro L K S hb9 H locs ls hP hD hS hl
  simp only [tb_i2l] at hb9
  split at hb9
  · exact lv_i2l hx hb hd rfl (h _ _ _ hb9 H locs ls hP hD hS hl)
  · exact hb9.elim
theorem to_l2i (X : tc_Cx R cc nL own Z) (hd : decode cc pc = .ok (.l2i, 1)) (h : tc_Ok nL Z (pc + 1) k) : tc_Ok nL Z pc (tb_l2i k) := by
  obtain ⟨p, l, e, R', s, m, args, below, meth, c, n, Q, Ts, D, ad, cA, A⟩ := Z
  obtain ⟨rfl, ⟨hx, hb, hml, hown, hts⟩, hK, hA, hSt, hTs, hn⟩ := X
  intro L K S hb9 H locs ls hP hD hS hl
  simp only [tb_l2i] at hb9
  split at hb9
  · exact lv_l2i hx hb hd rfl (h _ _ _ hb9 H locs ls hP hD hS hl)
  · exact hb9.elim
theorem to_lcmp (X : tc_Cx R cc nL own Z) (hd : decode cc pc = .ok (.lcmp, 1)) (h : tc_Ok nL Z (pc + 1) k) : tc_Ok nL Z pc (tb_lcmp k) := by
  obtain ⟨p, l, e, R', s, m, args, below, meth, c, n, Q, Ts, D, ad, cA, A⟩ := Z
  obtain ⟨rfl, ⟨hx, hb, hml, hown, hts⟩, hK, hA, hSt, hTs, hn⟩ := X
  intro L K S hb9 H locs ls hP hD hS hl
  simp only [tb_lcmp] at hb9
  split at hb9
  · exact W.lcmp hx hb hd (h _ _ _ hb9 H locs ls hP hD hS hl)
  · exact hb9.elim
-- the stack
def tb_dup (k : tc_B) : tc_B := fun L K S => match K with
  | .inl x :: r => k L (.inl x :: .inl x :: r) S
  | .inr (.inr x) :: r => k L (.inr (.inr x) :: .inr (.inr x) :: r) S
  | _ => False
def tb_pop (k : tc_B) : tc_B := fun L K S => match K with
  | .inl _ :: r => k L r S
  | .inr (.inr _) :: r => k L r S
  | _ => False
/-- over an array and an index -/
def tb_dup2 (k : tc_B) : tc_B := fun L K S => match K with
  | .inl x :: .inr (.inr y) :: r => k L (.inl x :: .inr (.inr y) :: .inl x :: .inr (.inr y) :: r) S
  | _ => False
theorem to_dup (X : tc_Cx R cc nL own Z) (hd : decode cc pc = .ok (.dup, 1)) (h : tc_Ok nL Z (pc + 1) k) : tc_Ok nL Z pc (tb_dup k) := by
  obtain ⟨p, l, e, R', s, m, args, below, meth, c, n, Q, Ts, D, ad, cA, A⟩ := Z
  obtain ⟨rfl, ⟨hx, hb, hml, hown, hts⟩, hK, hA, hSt, hTs, hn⟩ := X
  intro L K S hb9 H locs ls hP hD hS hl
  simp only [tb_dup] at hb9
  split at hb9
  · exact lv_dup hx hb hd rfl (h _ _ _ hb9 H locs ls hP hD hS hl)
  · exact lv_dup hx hb hd rfl (h _ _ _ hb9 H locs ls hP hD hS hl)
  · exact hb9.elim
theorem to_pop (X : tc_Cx R cc nL own Z) (hd : decode cc pc = .ok (.pop, 1)) (h : tc_Ok nL Z (pc + 1) k) : tc_Ok nL Z pc (tb_pop k) := by
  obtain ⟨p, l, e, R', s, m, args, below, meth, c, n, Q, Ts, D, ad, cA, A⟩ := Z
  obtain ⟨rfl, ⟨hx, hb, hml, hown, hts⟩, hK, hA, hSt, hTs, hn⟩ := X
  intro L K S hb9 H locs ls hP hD hS hl
  simp only [tb_pop] at hb9
  split at hb9
  · exact lv_pop hx hb hd rfl (h _ _ _ hb9 H locs ls hP hD hS hl)
  · exact lv_pop hx hb hd rfl (h _ _ _ hb9 H locs ls hP hD hS hl)
  · exact hb9.elim
theorem to_dup2 (X : tc_Cx R cc nL own Z) (hd : decode cc pc = .ok (.dup2, 1)) (h : tc_Ok nL Z (pc + 1) k) : tc_Ok nL Z pc (tb_dup2 k) := by
  obtain ⟨p, l, e, R', s, m, args, below, meth, c, n, Q, Ts, D, ad, cA, A⟩ := Z
  obtain ⟨rfl, ⟨hx, hb, hml, hown, hts⟩, hK, hA, hSt, hTs, hn⟩ := X
  intro L K S hb9 H locs ls hP hD hS hl
  simp only [tb_dup2] at hb9
  split at hb9
  · exact lv_dup2_11 hx hb hd rfl rfl (h _ _ _ hb9 H locs ls hP hD hS hl)
  · exact hb9.elim
-- branches
def tb_if (c : Int32 → Prop) (kt kf : tc_B) : tc_B := fun L K S => match K with
  | .inl x :: r => (c x → kt L r S) ∧ (¬ c x → kf L r S)
  | _ => False
def tb_icmp (c : Int32 → Int32 → Prop) (kt kf : tc_B) : tc_B := fun L K S => match K with
  | .inl y :: .inl x :: r => (c x y → kt L r S) ∧ (¬ c x y → kf L r S)
  | _ => False
def tb_if_eq (kt kf : tc_B) : tc_B := tb_if (fun x => x = 0) kt kf
theorem to_if_eq {off : Int} {tgt : Nat} (X : tc_Cx R cc nL own Z) (hd : decode cc pc = .ok (.ifCond .eq off, 3)) (hg : (pc : Int) + off = (tgt : Int)) (ht : tc_Ok nL Z tgt kt) (hf : tc_Ok nL Z (pc + 3) kf) : tc_Ok nL Z pc (tb_if_eq kt kf) := by
  obtain ⟨p, l, e, R', s, m, args, below, meth, c, n, Q, Ts, D, ad, cA, A⟩ := Z
  obtain ⟨rfl, ⟨hx, hb, hml, hown, hts⟩, hK, hA, hSt, hTs, hn⟩ := X
  intro L K S hb9 H locs ls hP hD hS hl
  simp only [tb_if_eq, tb_if] at hb9
  split at hb9
  · exact lv_if_eq hx hb hd hg (fun z => ht _ _ _ (hb9.1 z) H locs ls hP hD hS hl) (fun z => hf _ _ _ (hb9.2 z) H locs ls hP hD hS hl)
  · exact hb9.elim
def tb_if_ne (kt kf : tc_B) : tc_B := tb_if (fun x => x = 0) kf kt
theorem to_if_ne {off : Int} {tgt : Nat} (X : tc_Cx R cc nL own Z) (hd : decode cc pc = .ok (.ifCond .ne off, 3)) (hg : (pc : Int) + off = (tgt : Int)) (ht : tc_Ok nL Z tgt kt) (hf : tc_Ok nL Z (pc + 3) kf) : tc_Ok nL Z pc (tb_if_ne kt kf) := by
  obtain ⟨p, l, e, R', s, m, args, below, meth, c, n, Q, Ts, D, ad, cA, A⟩ := Z
  obtain ⟨rfl, ⟨hx, hb, hml, hown, hts⟩, hK, hA, hSt, hTs, hn⟩ := X
  intro L K S hb9 H locs ls hP hD hS hl
  simp only [tb_if_ne, tb_if] at hb9
  split at hb9
  · exact lv_if_ne hx hb hd hg (fun z => ht _ _ _ (hb9.2 z) H locs ls hP hD hS hl) (fun z => hf _ _ _ (hb9.1 z) H locs ls hP hD hS hl)
  · exact hb9.elim
def tb_if_lt (kt kf : tc_B) : tc_B := tb_if (fun x => x < 0) kt kf
theorem to_if_lt {off : Int} {tgt : Nat} (X : tc_Cx R cc nL own Z) (hd : decode cc pc = .ok (.ifCond .lt off, 3)) (hg : (pc : Int) + off = (tgt : Int)) (ht : tc_Ok nL Z tgt kt) (hf : tc_Ok nL Z (pc + 3) kf) : tc_Ok nL Z pc (tb_if_lt kt kf) := by
  obtain ⟨p, l, e, R', s, m, args, below, meth, c, n, Q, Ts, D, ad, cA, A⟩ := Z
  obtain ⟨rfl, ⟨hx, hb, hml, hown, hts⟩, hK, hA, hSt, hTs, hn⟩ := X
  intro L K S hb9 H locs ls hP hD hS hl
  simp only [tb_if_lt, tb_if] at hb9
  split at hb9
  · exact lv_if_lt hx hb hd hg (fun z => ht _ _ _ (hb9.1 z) H locs ls hP hD hS hl) (fun z => hf _ _ _ (hb9.2 z) H locs ls hP hD hS hl)
  · exact hb9.elim
def tb_if_ge (kt kf : tc_B) : tc_B := tb_if (fun x => 0 ≤ x) kt kf
theorem to_if_ge {off : Int} {tgt : Nat} (X : tc_Cx R cc nL own Z) (hd : decode cc pc = .ok (.ifCond .ge off, 3)) (hg : (pc : Int) + off = (tgt : Int)) (ht : tc_Ok nL Z tgt kt) (hf : tc_Ok nL Z (pc + 3) kf) : tc_Ok nL Z pc (tb_if_ge kt kf) := by
  obtain ⟨p, l, e, R', s, m, args, below, meth, c, n, Q, Ts, D, ad, cA, A⟩ := Z
  obtain ⟨rfl, ⟨hx, hb, hml, hown, hts⟩, hK, hA, hSt, hTs, hn⟩ := X
  intro L K S hb9 H locs ls hP hD hS hl
  simp only [tb_if_ge, tb_if] at hb9
  split at hb9
  · exact lv_if_ge hx hb hd hg (fun z => ht _ _ _ (hb9.1 z) H locs ls hP hD hS hl) (fun z => hf _ _ _ (hb9.2 z) H locs ls hP hD hS hl)
  · exact hb9.elim
def tb_if_gt (kt kf : tc_B) : tc_B := tb_if (fun x => 0 < x) kt kf
theorem to_if_gt {off : Int} {tgt : Nat} (X : tc_Cx R cc nL own Z) (hd : decode cc pc = .ok (.ifCond .gt off, 3)) (hg : (pc : Int) + off = (tgt : Int)) (ht : tc_Ok nL Z tgt kt) (hf : tc_Ok nL Z (pc + 3) kf) : tc_Ok nL Z pc (tb_if_gt kt kf) := by
  obtain ⟨p, l, e, R', s, m, args, below, meth, c, n, Q, Ts, D, ad, cA, A⟩ := Z
  obtain ⟨rfl, ⟨hx, hb, hml, hown, hts⟩, hK, hA, hSt, hTs, hn⟩ := X
  intro L K S hb9 H locs ls hP hD hS hl
  simp only [tb_if_gt, tb_if] at hb9
  split at hb9
  · exact lv_if_gt hx hb hd hg (fun z => ht _ _ _ (hb9.1 z) H locs ls hP hD hS hl) (fun z => hf _ _ _ (hb9.2 z) H locs ls hP hD hS hl)
  · exact hb9.elim
def tb_if_le (kt kf : tc_B) : tc_B := tb_if (fun x => x ≤ 0) kt kf
theorem to_if_le {off : Int} {tgt : Nat} (X : tc_Cx R cc nL own Z) (hd : decode cc pc = .ok (.ifCond .le off, 3)) (hg : (pc : Int) + off = (tgt : Int)) (ht : tc_Ok nL Z tgt kt) (hf : tc_Ok nL Z (pc + 3) kf) : tc_Ok nL Z pc (tb_if_le kt kf) := by
  obtain ⟨p, l, e, R', s, m, args, below, meth, c, n, Q, Ts, D, ad, cA, A⟩ := Z
  obtain ⟨rfl, ⟨hx, hb, hml, hown, hts⟩, hK, hA, hSt, hTs, hn⟩ := X
  intro L K S hb9 H locs ls hP hD hS hl
  simp only [tb_if_le, tb_if] at hb9
  split at hb9
  · exact lv_if_le hx hb hd hg (fun z => ht _ _ _ (hb9.1 z) H locs ls hP hD hS hl) (fun z => hf _ _ _ (hb9.2 z) H locs ls hP hD hS hl)
  · exact hb9.elim
def tb_icmp_eq (kt kf : tc_B) : tc_B := tb_icmp (fun x y => x = y) kt kf
theorem to_icmp_eq {off : Int} {tgt : Nat} (X : tc_Cx R cc nL own Z) (hd : decode cc pc = .ok (.if_icmp .eq off, 3)) (hg : (pc : Int) + off = (tgt : Int)) (ht : tc_Ok nL Z tgt kt) (hf : tc_Ok nL Z (pc + 3) kf) : tc_Ok nL Z pc (tb_icmp_eq kt kf) := by
  obtain ⟨p, l, e, R', s, m, args, below, meth, c, n, Q, Ts, D, ad, cA, A⟩ := Z
  obtain ⟨rfl, ⟨hx, hb, hml, hown, hts⟩, hK, hA, hSt, hTs, hn⟩ := X
  intro L K S hb9 H locs ls hP hD hS hl
  simp only [tb_icmp_eq, tb_icmp] at hb9
  split at hb9
  · exact lv_icmp_eq hx hb hd hg (fun z => ht _ _ _ (hb9.1 z) H locs ls hP hD hS hl) (fun z => hf _ _ _ (hb9.2 z) H locs ls hP hD hS hl)
  · exact hb9.elim
def tb_icmp_ne (kt kf : tc_B) : tc_B := tb_icmp (fun x y => x = y) kf kt
theorem to_icmp_ne {off : Int} {tgt : Nat} (X : tc_Cx R cc nL own Z) (hd : decode cc pc = .ok (.if_icmp .ne off, 3)) (hg : (pc : Int) + off = (tgt : Int)) (ht : tc_Ok nL Z tgt kt) (hf : tc_Ok nL Z (pc + 3) kf) : tc_Ok nL Z pc (tb_icmp_ne kt kf) := by
  obtain ⟨p, l, e, R', s, m, args, below, meth, c, n, Q, Ts, D, ad, cA, A⟩ := Z
  obtain ⟨rfl, ⟨hx, hb, hml, hown, hts⟩, hK, hA, hSt, hTs, hn⟩ := X
  intro L K S hb9 H locs ls hP hD hS hl
  simp only [tb_icmp_ne, tb_icmp] at hb9
  split at hb9
  · exact lv_icmp_ne hx hb hd hg (fun z => ht _ _ _ (hb9.2 z) H locs ls hP hD hS hl) (fun z => hf _ _ _ (hb9.1 z) H locs ls hP hD hS hl)
  · exact hb9.elim
def tb_icmp_lt (kt kf : tc_B) : tc_B := tb_icmp (fun x y => x < y) kt kf
theorem to_icmp_lt {off : Int} {tgt : Nat} (X : tc_Cx R cc nL own Z) (hd : decode cc pc = .ok (.if_icmp .lt off, 3)) (hg : (pc : Int) + off = (tgt : Int)) (ht : tc_Ok nL Z tgt kt) (hf : tc_Ok nL Z (pc + 3) kf) : tc_Ok nL Z pc (tb_icmp_lt kt kf) := by
  obtain ⟨p, l, e, R', s, m, args, below, meth, c, n, Q, Ts, D, ad, cA, A⟩ := Z
  obtain ⟨rfl, ⟨hx, hb, hml, hown, hts⟩, hK, hA, hSt, hTs, hn⟩ := X
  intro L K S hb9 H locs ls hP hD hS hl
  simp only [tb_icmp_lt, tb_icmp] at hb9
  split at hb9
  · exact lv_icmp_lt hx hb hd hg (fun z => ht _ _ _ (hb9.1 z) H locs ls hP hD hS hl) (fun z => hf _ _ _ (hb9.2 z) H locs ls hP hD hS hl)
  · exact hb9.elim
def tb_icmp_ge (kt kf : tc_B) : tc_B := tb_icmp (fun x y => y ≤ x) kt kf
theorem to_icmp_ge {off : Int} {tgt : Nat} (X : tc_Cx R cc nL own Z) (hd : decode cc pc = .ok (.if_icmp .ge off, 3)) (hg : (pc : Int) + off = (tgt : Int)) (ht : tc_Ok nL Z tgt kt) (hf : tc_Ok nL Z (pc + 3) kf) : tc_Ok nL Z pc (tb_icmp_ge kt kf) := by
  obtain ⟨p, l, e, R', s, m, args, below, meth, c, n, Q, Ts, D, ad, cA, A⟩ := Z
  obtain ⟨rfl, ⟨hx, hb, hml, hown, hts⟩, hK, hA, hSt, hTs, hn⟩ := X
  intro L K S hb9 H locs ls hP hD hS hl
  simp only [tb_icmp_ge, tb_icmp] at hb9
  split at hb9
  · exact lv_icmp_ge hx hb hd hg (fun z => ht _ _ _ (hb9.1 z) H locs ls hP hD hS hl) (fun z => hf _ _ _ (hb9.2 z) H locs ls hP hD hS hl)
  · exact hb9.elim
def tb_icmp_gt (kt kf : tc_B) : tc_B := tb_icmp (fun x y => y < x) kt kf
theorem to_icmp_gt {off : Int} {tgt : Nat} (X : tc_Cx R cc nL own Z) (hd : decode cc pc = .ok (.if_icmp .gt off, 3)) (hg : (pc : Int) + off = (tgt : Int)) (ht : tc_Ok nL Z tgt kt) (hf : tc_Ok nL Z (pc + 3) kf) : tc_Ok nL Z pc (tb_icmp_gt kt kf) := by
  obtain ⟨p, l, e, R', s, m, args, below, meth, c, n, Q, Ts, D, ad, cA, A⟩ := Z
  obtain ⟨rfl, ⟨hx, hb, hml, hown, hts⟩, hK, hA, hSt, hTs, hn⟩ := X
  intro L K S hb9 H locs ls hP hD hS hl
  simp only [tb_icmp_gt, tb_icmp] at hb9
  split at hb9
  · exact lv_icmp_gt hx hb hd hg (fun z => ht _ _ _ (hb9.1 z) H locs ls hP hD hS hl) (fun z => hf _ _ _ (hb9.2 z) H locs ls hP hD hS hl)
  · exact hb9.elim
def tb_icmp_le (kt kf : tc_B) : tc_B := tb_icmp (fun x y => x ≤ y) kt kf
theorem to_icmp_le {off : Int} {tgt : Nat} (X : tc_Cx R cc nL own Z) (hd : decode cc pc = .ok (.if_icmp .le off, 3)) (hg : (pc : Int) + off = (tgt : Int)) (ht : tc_Ok nL Z tgt kt) (hf : tc_Ok nL Z (pc + 3) kf) : tc_Ok nL Z pc (tb_icmp_le kt kf) := by
  obtain ⟨p, l, e, R', s, m, args, below, meth, c, n, Q, Ts, D, ad, cA, A⟩ := Z
  obtain ⟨rfl, ⟨hx, hb, hml, hown, hts⟩, hK, hA, hSt, hTs, hn⟩ := X
  intro L K S hb9 H locs ls hP hD hS hl
  simp only [tb_icmp_le, tb_icmp] at hb9
  split at hb9
  · exact lv_icmp_le hx hb hd hg (fun z => ht _ _ _ (hb9.1 z) H locs ls hP hD hS hl) (fun z => hf _ _ _ (hb9.2 z) H locs ls hP hD hS hl)
  · exact hb9.elim
theorem to_goto {off : Int} {tgt : Nat} (X : tc_Cx R cc nL own Z) (hd : decode cc pc = .ok (.goto off, 3)) (hg : (pc : Int) + off = (tgt : Int)) (h : tc_Ok nL Z tgt k) : tc_Ok nL Z pc k := by
  obtain ⟨p, l, e, R', s, m, args, below, meth, c, n, Q, Ts, D, ad, cA, A⟩ := Z
  obtain ⟨rfl, ⟨hx, hb, hml, hown, hts⟩, hK, hA, hSt, hTs, hn⟩ := X
  intro L K S hb9 H locs ls hP hD hS hl
  exact lv_goto hx hb hd hg (h _ _ _ hb9 H locs ls hP hD hS hl)
end TCROWS
end
section
/-! fields, arrays, statics, constants, switches -/
def tc_fld (ci k : Nat) (q : Nat × Nat) : Option (Nat × Nat) := match q.1 with
  | 0 => (match tc_lay[q.2]? with
    | some (.inl o) => (match Nat.beq o.1 ci with
      | true => o.2[k]?
      | false => none)
    | _ => none)
  | _ => none
theorem tc_fld_spec {ci k : Nat} {q f : Nat × Nat} (h : tc_fld ci k q = some f) : ∃ (i : Nat) (fs : List (Nat × Nat)), q = (0, i) ∧ tc_lay[i]? = some (.inl (ci, fs)) ∧ fs[k]? = some f := by
  obtain ⟨q1, i⟩ := q
  simp only [tc_fld] at h
  split at h
  · split at h
    · rename_i o ho
      split at h
      · rename_i hb
        obtain ⟨o1, fs⟩ := o
        have e : o1 = ci := Nat.eq_of_beq_eq_true hb
        subst e
        exact ⟨i, fs, rfl, ho, h⟩
      · cases h
    · cases h
  · cases h
def tc_arr (q : Nat × Nat) : Option (Nat × Nat) := match q.1 with
  | 0 => (match tc_lay[q.2]? with
    | some (.inr a) => some a
    | _ => none)
  | _ => none
theorem tc_arr_spec {q a : Nat × Nat} (h : tc_arr q = some a) : ∃ i : Nat, q = (0, i) ∧ tc_lay[i]? = some (.inr a) := by
  obtain ⟨q1, i⟩ := q
  simp only [tc_arr] at h
  split at h
  · split at h
    · rename_i o ho
      cases h
      exact ⟨i, rfl, ho⟩
    · cases h
  · cases h
theorem tc_cell_o {ad : Nat → Nat → Nat} {cA : Nat → ClassId} {S : tc_S} {i ci : Nat} {fs : List (Nat × Nat)} : tc_cell ad cA S i (.inl (ci, fs)) = (ad 0 i, .inr (ci, fs.mapIdx (fun k f => tc_v ad (tc_fv S i k f)))) := rfl
theorem tc_cell_i {ad : Nat → Nat → Nat} {cA : Nat → ClassId} {S : tc_S} {i n : Nat} : tc_cell ad cA S i (.inr (0, n)) = (ad 0 i, .inl (cA 0, n, .inl (S.1 i))) := rfl
theorem tc_cell_z {ad : Nat → Nat → Nat} {cA : Nat → ClassId} {S : tc_S} {i n : Nat} : tc_cell ad cA S i (.inr (1, n)) = (ad 0 i, .inl (cA 1, n, .inl (S.1 i))) := rfl
theorem tc_cell_j {ad : Nat → Nat → Nat} {cA : Nat → ClassId} {S : tc_S} {i n : Nat} : tc_cell ad cA S i (.inr (2, n)) = (ad 0 i, .inl (cA 2, n, .inr (.inl (S.2.1 i)))) := rfl
theorem tc_ui_self (S : tc_S) (i k : Nat) (x : Int32) : (tc_ui S i k x).1 i = upd (S.1 i) k x := if_pos rfl
theorem tc_ul_self (S : tc_S) (i k : Nat) (x : Int64) : (tc_ul S i k x).2.1 i = vp_updL (S.2.1 i) k x := if_pos rfl
theorem tc_put_i {ad : Nat → Nat → Nat} {S : tc_S} {i k c0 : Nat} {x : Int32} {fs : List (Nat × Nat)} (hk : fs[k]? = some (0, c0)) : fs.mapIdx (fun k' f => tc_v ad (tc_fv (tc_ui S i k x) i k' f)) = (fs.mapIdx (fun k' f => tc_v ad (tc_fv S i k' f))).set k (.int x) := by
  apply List.ext_getElem?
  intro j
  rw [List.getElem?_set, List.getElem?_mapIdx, List.getElem?_mapIdx, List.length_mapIdx]
  have hl := (List.getElem?_eq_some_iff.mp hk).1
  by_cases hj : k = j
  · subst hj
    rw [if_pos rfl, if_pos hl, hk]
    simp only [Option.map_some, tc_fv, tc_ui_self, upd, if_pos, tc_v]
  · rw [if_neg hj]
    cases hf : fs[j]? with
    | none => rfl
    | some f =>
      have e : (tc_ui S i k x).1 i j = S.1 i j := by
        rw [tc_ui_self]
        exact if_neg (fun e => hj e.symm)
      have e2 : (tc_ui S i k x).2 = S.2 := rfl
      simp only [Option.map_some, tc_fv, e, e2]
theorem tc_put_j {ad : Nat → Nat → Nat} {S : tc_S} {i k c0 : Nat} {x : Int64} {fs : List (Nat × Nat)} (hk : fs[k]? = some (1, c0)) : fs.mapIdx (fun k' f => tc_v ad (tc_fv (tc_ul S i k x) i k' f)) = (fs.mapIdx (fun k' f => tc_v ad (tc_fv S i k' f))).set k (.long x) := by
  apply List.ext_getElem?
  intro j
  rw [List.getElem?_set, List.getElem?_mapIdx, List.getElem?_mapIdx, List.length_mapIdx]
  have hl := (List.getElem?_eq_some_iff.mp hk).1
  by_cases hj : k = j
  · subst hj
    rw [if_pos rfl, if_pos hl, hk]
    simp only [Option.map_some, tc_fv, tc_ul_self, vp_updL, if_pos, tc_v]
  · rw [if_neg hj]
    cases hf : fs[j]? with
    | none => rfl
    | some f =>
      have e : (tc_ul S i k x).2.1 i j = S.2.1 i j := by
        rw [tc_ul_self]
        exact if_neg (fun e => hj e.symm)
      have e1 : (tc_ul S i k x).1 = S.1 := rfl
      have e2 : (tc_ul S i k x).2.2 = S.2.2 := rfl
      simp only [Option.map_some, tc_fv, e, e1, e2]
section TCHEAP
variable {R : Room} {cc : ByteArray} {nL : Nat} {own : String} {Z : tc_Z} {pc : Nat} {k kt kf : tc_B}
def tb_getf (ci f : Nat) (k : tc_B) : tc_B := fun L K S => match K with
  | .inr (.inr q) :: r => (match tc_fld ci f q with
    | some t => k L (tc_fv S q.2 f t :: r) S
    | none => False)
  | _ => False
theorem to_getf {ci f ix N : Nat} {C : String} {T : u_T} (X : tc_Cx R cc nL own Z) (hc : tc_cl[ci]? = some (C, T, N)) (hf : f < N) (hin : ∀ w ∈ u_ws C T N, w ∈ tc_tb) (hw : Cond.fieldLink own ix (T f).1 (T f).2.1 (T f).2.2.1 ∈ tc_tb) (hd : decode cc pc = .ok (.getfield ix, 3)) (h : tc_Ok nL Z (pc + 3) k) : tc_Ok nL Z pc (tb_getf ci f k) := by
  obtain ⟨p, l, e, R', s, m, args, below, meth, c, n, Q, Ts, D, ad, cA, A⟩ := Z
  obtain ⟨rfl, ⟨hx, hb, hml, hown, hts⟩, hK, hA, hSt, hTs, hn⟩ := X
  intro L K S hb9 H locs ls hP hD hS hl
  simp only [tb_getf] at hb9
  split at hb9
  · split at hb9
    · rename_i q r o t ht
      obtain ⟨i, fs, rfl, h1, h2⟩ := tc_fld_spec ht
      exact va_get (D := D) (ci := ci) (v := tc_v ad (tc_fv S i f t)) (C := C) (T := T) (N := N) hx hb hts (fun w hw => hTs w (hin w hw)) hown hK hP i (tc_W_at h1) hc f hf (hts _ (hTs _ hw)) (fun _ h9 => h9) (by rw [List.getElem?_mapIdx, h2]; rfl) hd (h _ _ _ hb9 H locs ls hP hD hS hl)
    · exact hb9.elim
  · exact hb9.elim
def tb_putI (ci f : Nat) (k : tc_B) : tc_B := fun L K S => match K with
  | .inl x :: .inr (.inr q) :: r => (match tc_fld ci f q with
    | some (0, _) => k L r (tc_ui S q.2 f x)
    | _ => False)
  | _ => False
def tb_putZ (ci f : Nat) (k : tc_B) : tc_B := fun L K S => match K with
  | .inl x :: .inr (.inr q) :: r => (match tc_fld ci f q with
    | some (0, _) => (narrow .boolean (.int x) = .int x ∧ fits .boolean (.int x) = true) ∧ k L r (tc_ui S q.2 f x)
    | _ => False)
  | _ => False
def tb_putJ (ci f : Nat) (k : tc_B) : tc_B := fun L K S => match K with
  | .inr (.inl x) :: .inr (.inr q) :: r => (match tc_fld ci f q with
    | some (1, _) => k L r (tc_ul S q.2 f x)
    | _ => False)
  | _ => False
def tb_putR (ci f : Nat) (k : tc_B) : tc_B := fun L K S => match K with
  | .inr (.inr (1, x)) :: .inr (.inr q) :: r => (match tc_fld ci f q with
    | some (3, _) => k L r (tc_ur S x)
    | _ => False)
  | _ => False
theorem to_putI {ci f ix N : Nat} {C : String} {T : u_T} {ty0 : Nat → FieldType} (X : tc_Cx R cc nL own Z) (hc : tc_cl[ci]? = some (C, T, N)) (hf : f < N) (hin : ∀ w ∈ u_ws C T N, w ∈ tc_tb) (hty : ∀ k, k < N → parseFieldDescriptor (T k).2.2.1 = some (ty0 k)) (hnm : ∀ a, a < N → ∀ b, b < N → a ≠ b → (T a).2.1 ≠ (T b).2.1) (hfin : (T f).2.2.2 = false) (ht : ty0 f = .int) (hw : Cond.fieldLink own ix (T f).1 (T f).2.1 (T f).2.2.1 ∈ tc_tb) (hd : decode cc pc = .ok (.putfield ix, 3)) (h : tc_Ok nL Z (pc + 3) k) : tc_Ok nL Z pc (tb_putI ci f k) := by
  obtain ⟨p, l, e, R', s, m, args, below, meth, c, n, Q, Ts, D, ad, cA, A⟩ := Z
  obtain ⟨rfl, ⟨hx, hb, hml, hown, hts⟩, hK, hA, hSt, hTs, hn⟩ := X
  intro L K S hb9 H locs ls hP hD hS hl
  simp only [tb_putI] at hb9
  split at hb9
  · split at hb9
    · rename_i x q r o z ht9
      obtain ⟨i, fs, rfl, h1, h2⟩ := tc_fld_spec ht9
      have hset : (tc_W ad cA S).set i (ad 0 i, .inr (ci, (fs.mapIdx (fun k' f => tc_v ad (tc_fv S i k' f))).set f (.int x))) = tc_W ad cA (tc_ui S i f x) := tc_W_set h1 (by rw [tc_cell_o, tc_put_i h2]) (fun j c' hj _ => tc_cell_ui hj)
      refine va_put (D := D) (ci := ci) (v := .int x) (ty := .int) (C := C) (T := T) (N := N) hx hb hts (fun w hw => hTs w (hin w hw)) ty0 hty hnm hown hK hP hD hS i (tc_W_at h1) hc f hf (hts _ (hTs _ hw)) (fun _ h9 => h9) hfin (by rw [hty f hf, ht]) rfl rfl (by rw [List.length_mapIdx]; exact (List.getElem?_eq_some_iff.mp h2).1) hd (fun H1 locs1 hP1 hD1 hS1 => ?_)
      rw [hset] at hP1 hD1
      exact h _ _ _ hb9 H1 locs1 ls hP1 hD1 hS1 hl
    · exact hb9.elim
  · exact hb9.elim
theorem to_putZ {ci f ix N : Nat} {C : String} {T : u_T} {ty0 : Nat → FieldType} (X : tc_Cx R cc nL own Z) (hc : tc_cl[ci]? = some (C, T, N)) (hf : f < N) (hin : ∀ w ∈ u_ws C T N, w ∈ tc_tb) (hty : ∀ k, k < N → parseFieldDescriptor (T k).2.2.1 = some (ty0 k)) (hnm : ∀ a, a < N → ∀ b, b < N → a ≠ b → (T a).2.1 ≠ (T b).2.1) (hfin : (T f).2.2.2 = false) (ht : ty0 f = .boolean) (hw : Cond.fieldLink own ix (T f).1 (T f).2.1 (T f).2.2.1 ∈ tc_tb) (hd : decode cc pc = .ok (.putfield ix, 3)) (h : tc_Ok nL Z (pc + 3) k) : tc_Ok nL Z pc (tb_putZ ci f k) := by
  obtain ⟨p, l, e, R', s, m, args, below, meth, c, n, Q, Ts, D, ad, cA, A⟩ := Z
  obtain ⟨rfl, ⟨hx, hb, hml, hown, hts⟩, hK, hA, hSt, hTs, hn⟩ := X
  intro L K S hb9 H locs ls hP hD hS hl
  simp only [tb_putZ] at hb9
  split at hb9
  · split at hb9
    · rename_i x q r o z ht9
      obtain ⟨i, fs, rfl, h1, h2⟩ := tc_fld_spec ht9
      have hset : (tc_W ad cA S).set i (ad 0 i, .inr (ci, (fs.mapIdx (fun k' f => tc_v ad (tc_fv S i k' f))).set f (.int x))) = tc_W ad cA (tc_ui S i f x) := tc_W_set h1 (by rw [tc_cell_o, tc_put_i h2]) (fun j c' hj _ => tc_cell_ui hj)
      refine va_put (D := D) (ci := ci) (v := .int x) (ty := .boolean) (C := C) (T := T) (N := N) hx hb hts (fun w hw => hTs w (hin w hw)) ty0 hty hnm hown hK hP hD hS i (tc_W_at h1) hc f hf (hts _ (hTs _ hw)) (fun _ h9 => h9) hfin (by rw [hty f hf, ht]) hb9.1.1 hb9.1.2 (by rw [List.length_mapIdx]; exact (List.getElem?_eq_some_iff.mp h2).1) hd (fun H1 locs1 hP1 hD1 hS1 => ?_)
      rw [hset] at hP1 hD1
      exact h _ _ _ hb9.2 H1 locs1 ls hP1 hD1 hS1 hl
    · exact hb9.elim
  · exact hb9.elim
theorem to_putJ {ci f ix N : Nat} {C : String} {T : u_T} {ty0 : Nat → FieldType} (X : tc_Cx R cc nL own Z) (hc : tc_cl[ci]? = some (C, T, N)) (hf : f < N) (hin : ∀ w ∈ u_ws C T N, w ∈ tc_tb) (hty : ∀ k, k < N → parseFieldDescriptor (T k).2.2.1 = some (ty0 k)) (hnm : ∀ a, a < N → ∀ b, b < N → a ≠ b → (T a).2.1 ≠ (T b).2.1) (hfin : (T f).2.2.2 = false) (ht : ty0 f = .long) (hw : Cond.fieldLink own ix (T f).1 (T f).2.1 (T f).2.2.1 ∈ tc_tb) (hd : decode cc pc = .ok (.putfield ix, 3)) (h : tc_Ok nL Z (pc + 3) k) : tc_Ok nL Z pc (tb_putJ ci f k) := by
  obtain ⟨p, l, e, R', s, m, args, below, meth, c, n, Q, Ts, D, ad, cA, A⟩ := Z
  obtain ⟨rfl, ⟨hx, hb, hml, hown, hts⟩, hK, hA, hSt, hTs, hn⟩ := X
  intro L K S hb9 H locs ls hP hD hS hl
  simp only [tb_putJ] at hb9
  split at hb9
  · split at hb9
    · rename_i x q r o z ht9
      obtain ⟨i, fs, rfl, h1, h2⟩ := tc_fld_spec ht9
      have hset : (tc_W ad cA S).set i (ad 0 i, .inr (ci, (fs.mapIdx (fun k' f => tc_v ad (tc_fv S i k' f))).set f (.long x))) = tc_W ad cA (tc_ul S i f x) := tc_W_set h1 (by rw [tc_cell_o, tc_put_j h2]) (fun j c' hj _ => tc_cell_ul hj)
      refine va_put (D := D) (ci := ci) (v := .long x) (ty := .long) (C := C) (T := T) (N := N) hx hb hts (fun w hw => hTs w (hin w hw)) ty0 hty hnm hown hK hP hD hS i (tc_W_at h1) hc f hf (hts _ (hTs _ hw)) (fun _ h9 => h9) hfin (by rw [hty f hf, ht]) rfl rfl (by rw [List.length_mapIdx]; exact (List.getElem?_eq_some_iff.mp h2).1) hd (fun H1 locs1 hP1 hD1 hS1 => ?_)
      rw [hset] at hP1 hD1
      exact h _ _ _ hb9 H1 locs1 ls hP1 hD1 hS1 hl
    · exact hb9.elim
  · exact hb9.elim
-- arrays
def tb_iald (k : tc_B) : tc_B := fun L K S => match K with
  | .inl i :: .inr (.inr q) :: r => (match tc_arr q with
    | some (0, n) => vp_in i n ∧ k L (.inl (S.1 q.2 i.toNatClampNeg) :: r) S
    | _ => False)
  | _ => False
def tb_zald (k : tc_B) : tc_B := fun L K S => match K with
  | .inl i :: .inr (.inr q) :: r => (match tc_arr q with
    | some (1, n) => vp_in i n ∧ k L (.inl (S.1 q.2 i.toNatClampNeg) :: r) S
    | _ => False)
  | _ => False
def tb_jald (k : tc_B) : tc_B := fun L K S => match K with
  | .inl i :: .inr (.inr q) :: r => (match tc_arr q with
    | some (2, n) => vp_in i n ∧ k L (.inr (.inl (S.2.1 q.2 i.toNatClampNeg)) :: r) S
    | _ => False)
  | _ => False
theorem to_iald (X : tc_Cx R cc nL own Z) (hd : decode cc pc = .ok (.iaload, 1)) (h : tc_Ok nL Z (pc + 1) k) : tc_Ok nL Z pc (tb_iald k) := by
  obtain ⟨p, l, e, R', s, m, args, below, meth, c, n, Q, Ts, D, ad, cA, A⟩ := Z
  obtain ⟨rfl, ⟨hx, hb, hml, hown, hts⟩, hK, hA, hSt, hTs, hn⟩ := X
  intro L K S hb9 H locs ls hP hD hS hl
  simp only [tb_iald] at hb9
  split at hb9
  · split at hb9
    · rename_i x q r o nn ht9
      obtain ⟨i, rfl, h1⟩ := tc_arr_spec ht9
      exact va_iald hx hb hK hP i 0 (tc_W_at h1) rfl hb9.1 hd (h _ _ _ hb9.2 H locs ls hP hD hS hl)
    · exact hb9.elim
  · exact hb9.elim
theorem to_zald (X : tc_Cx R cc nL own Z) (hd : decode cc pc = .ok (.baload, 1)) (h : tc_Ok nL Z (pc + 1) k) : tc_Ok nL Z pc (tb_zald k) := by
  obtain ⟨p, l, e, R', s, m, args, below, meth, c, n, Q, Ts, D, ad, cA, A⟩ := Z
  obtain ⟨rfl, ⟨hx, hb, hml, hown, hts⟩, hK, hA, hSt, hTs, hn⟩ := X
  intro L K S hb9 H locs ls hP hD hS hl
  simp only [tb_zald] at hb9
  split at hb9
  · split at hb9
    · rename_i x q r o nn ht9
      obtain ⟨i, rfl, h1⟩ := tc_arr_spec ht9
      exact va_zald hx hb hK hP i 1 (tc_W_at h1) rfl hb9.1 hd (h _ _ _ hb9.2 H locs ls hP hD hS hl)
    · exact hb9.elim
  · exact hb9.elim
theorem to_jald (X : tc_Cx R cc nL own Z) (hd : decode cc pc = .ok (.laload, 1)) (h : tc_Ok nL Z (pc + 1) k) : tc_Ok nL Z pc (tb_jald k) := by
  obtain ⟨p, l, e, R', s, m, args, below, meth, c, n, Q, Ts, D, ad, cA, A⟩ := Z
  obtain ⟨rfl, ⟨hx, hb, hml, hown, hts⟩, hK, hA, hSt, hTs, hn⟩ := X
  intro L K S hb9 H locs ls hP hD hS hl
  simp only [tb_jald] at hb9
  split at hb9
  · split at hb9
    · rename_i x q r o nn ht9
      obtain ⟨i, rfl, h1⟩ := tc_arr_spec ht9
      exact va_lald hx hb hK hP i 2 (tc_W_at h1) rfl hb9.1 hd (h _ _ _ hb9.2 H locs ls hP hD hS hl)
    · exact hb9.elim
  · exact hb9.elim
def tb_iast (k : tc_B) : tc_B := fun L K S => match K with
  | .inl x :: .inl i :: .inr (.inr q) :: r => (match tc_arr q with
    | some (0, n) => vp_in i n ∧ k L r (tc_ui S q.2 i.toNatClampNeg x)
    | _ => False)
  | _ => False
def tb_zast (k : tc_B) : tc_B := fun L K S => match K with
  | .inl x :: .inl i :: .inr (.inr q) :: r => (match tc_arr q with
    | some (1, n) => vp_in i n ∧ k L r (tc_ui S q.2 i.toNatClampNeg (vp_nar .boolean x))
    | _ => False)
  | _ => False
def tb_jast (k : tc_B) : tc_B := fun L K S => match K with
  | .inr (.inl x) :: .inl i :: .inr (.inr q) :: r => (match tc_arr q with
    | some (2, n) => vp_in i n ∧ k L r (tc_ul S q.2 i.toNatClampNeg x)
    | _ => False)
  | _ => False
theorem to_iast (X : tc_Cx R cc nL own Z) (hd : decode cc pc = .ok (.iastore, 1)) (h : tc_Ok nL Z (pc + 1) k) : tc_Ok nL Z pc (tb_iast k) := by
  obtain ⟨p, l, e, R', s, m, args, below, meth, c, n, Q, Ts, D, ad, cA, A⟩ := Z
  obtain ⟨rfl, ⟨hx, hb, hml, hown, hts⟩, hK, hA, hSt, hTs, hn⟩ := X
  intro L K S hb9 H locs ls hP hD hS hl
  simp only [tb_iast] at hb9
  split at hb9
  · split at hb9
    · rename_i x y q r o nn ht9
      obtain ⟨i, rfl, h1⟩ := tc_arr_spec ht9
      have hset : (tc_W ad cA S).set i (ad 0 i, .inl (cA 0, nn, .inl (upd (S.1 i) y.toNatClampNeg x))) = tc_W ad cA (tc_ui S i y.toNatClampNeg x) := tc_W_set h1 (by rw [tc_cell_i, tc_ui_self]) (fun j c' hj _ => tc_cell_ui hj)
      refine va_iast hx hb hK hP hD hS i 0 (tc_W_at h1) rfl hb9.1 hd (fun H1 locs1 hP1 hD1 hS1 => ?_)
      rw [hset] at hP1 hD1
      exact h _ _ _ hb9.2 H1 locs1 ls hP1 hD1 hS1 hl
    · exact hb9.elim
  · exact hb9.elim
theorem to_zast (X : tc_Cx R cc nL own Z) (hd : decode cc pc = .ok (.bastore, 1)) (h : tc_Ok nL Z (pc + 1) k) : tc_Ok nL Z pc (tb_zast k) := by
  obtain ⟨p, l, e, R', s, m, args, below, meth, c, n, Q, Ts, D, ad, cA, A⟩ := Z
  obtain ⟨rfl, ⟨hx, hb, hml, hown, hts⟩, hK, hA, hSt, hTs, hn⟩ := X
  intro L K S hb9 H locs ls hP hD hS hl
  simp only [tb_zast] at hb9
  split at hb9
  · split at hb9
    · rename_i x y q r o nn ht9
      obtain ⟨i, rfl, h1⟩ := tc_arr_spec ht9
      have hset : (tc_W ad cA S).set i (ad 0 i, .inl (cA 1, nn, .inl (upd (S.1 i) y.toNatClampNeg (vp_nar .boolean x)))) = tc_W ad cA (tc_ui S i y.toNatClampNeg (vp_nar .boolean x)) := tc_W_set h1 (by rw [tc_cell_z, tc_ui_self]) (fun j c' hj _ => tc_cell_ui hj)
      refine va_zast hx hb hK hP hD hS i 1 (tc_W_at h1) rfl hb9.1 hd (fun H1 locs1 hP1 hD1 hS1 => ?_)
      rw [hset] at hP1 hD1
      exact h _ _ _ hb9.2 H1 locs1 ls hP1 hD1 hS1 hl
    · exact hb9.elim
  · exact hb9.elim
theorem to_jast (X : tc_Cx R cc nL own Z) (hd : decode cc pc = .ok (.lastore, 1)) (h : tc_Ok nL Z (pc + 1) k) : tc_Ok nL Z pc (tb_jast k) := by
  obtain ⟨p, l, e, R', s, m, args, below, meth, c, n, Q, Ts, D, ad, cA, A⟩ := Z
  obtain ⟨rfl, ⟨hx, hb, hml, hown, hts⟩, hK, hA, hSt, hTs, hn⟩ := X
  intro L K S hb9 H locs ls hP hD hS hl
  simp only [tb_jast] at hb9
  split at hb9
  · split at hb9
    · rename_i x y q r o nn ht9
      obtain ⟨i, rfl, h1⟩ := tc_arr_spec ht9
      have hset : (tc_W ad cA S).set i (ad 0 i, .inl (cA 2, nn, .inr (.inl (vp_updL (S.2.1 i) y.toNatClampNeg x)))) = tc_W ad cA (tc_ul S i y.toNatClampNeg x) := tc_W_set h1 (by rw [tc_cell_j, tc_ul_self]) (fun j c' hj _ => tc_cell_ul hj)
      refine va_last hx hb hK hP hD hS i 2 (tc_W_at h1) rfl hb9.1 hd (fun H1 locs1 hP1 hD1 hS1 => ?_)
      rw [hset] at hP1 hD1
      exact h _ _ _ hb9.2 H1 locs1 ls hP1 hD1 hS1 hl
    · exact hb9.elim
  · exact hb9.elim
def tb_alen (k : tc_B) : tc_B := fun L K S => match K with
  | .inr (.inr q) :: r => (match tc_arr q with
    | some (0, n) => k L (.inl (Int32.ofNat n) :: r) S
    | _ => False)
  | _ => False
theorem to_alen (X : tc_Cx R cc nL own Z) (hd : decode cc pc = .ok (.arraylength, 1)) (h : tc_Ok nL Z (pc + 1) k) : tc_Ok nL Z pc (tb_alen k) := by
  obtain ⟨p, l, e, R', s, m, args, below, meth, c, n, Q, Ts, D, ad, cA, A⟩ := Z
  obtain ⟨rfl, ⟨hx, hb, hml, hown, hts⟩, hK, hA, hSt, hTs, hn⟩ := X
  intro L K S hb9 H locs ls hP hD hS hl
  simp only [tb_alen] at hb9
  split at hb9
  · split at hb9
    · rename_i q r o nn ht9
      obtain ⟨i, rfl, h1⟩ := tc_arr_spec ht9
      exact va_alen (ty := .int) hx hb hK hP i 0 (tc_W_at h1) rfl rfl hd (h _ _ _ hb9 H locs ls hP hD hS hl)
    · exact hb9.elim
  · exact hb9.elim
-- statics and constants
def tb_gets (z : tc_V) (k : tc_B) : tc_B := fun L K S => k L (z :: K) S
theorem to_gets {C f d : String} {ix : Nat} {z : tc_V} (X : tc_Cx R cc nL own Z) (hz : (C, f, d, z) ∈ tc_zs) (hw : Cond.fieldLink own ix C f d ∈ tc_tb) (hd : decode cc pc = .ok (.getstatic ix, 3)) (h : tc_Ok nL Z (pc + 3) k) : tc_Ok nL Z pc (tb_gets z k) := by
  obtain ⟨p, l, e, R', s, m, args, below, meth, c, n, Q, Ts, D, ad, cA, A⟩ := Z
  obtain ⟨rfl, ⟨hx, hb, hml, hown, hts⟩, hK, hA, hSt, hTs, hn⟩ := X
  intro L K S hb9 H locs ls hP hD hS hl
  exact va_gets hx hb (hSt.1 _ hz) hS hown (hts _ (hTs _ hw)) (fun _ h9 => h9) hd (h _ _ _ hb9 H locs ls hP hD hS hl)
def tb_getE (kd N : Nat) (f : Nat → tc_V) (k : tc_B) : tc_B := fun L K S => match K with
  | .inr (.inr q) :: r => (match Nat.beq q.1 kd with
    | true => q.2 < N ∧ k L (f q.2 :: r) S
    | false => False)
  | _ => False
theorem to_getE {kd N ix : Nat} {o fn d : String} {f : Nat → tc_V} (X : tc_Cx R cc nL own Z) (hz : ((kd, N), o, fn, d, f) ∈ tc_fs) (hw : Cond.fieldLink own ix o fn d ∈ tc_tb) (hd : decode cc pc = .ok (.getfield ix, 3)) (h : tc_Ok nL Z (pc + 3) k) : tc_Ok nL Z pc (tb_getE kd N f k) := by
  obtain ⟨p, l, e, R', s, m, args, below, meth, c, n, Q, Ts, D, ad, cA, A⟩ := Z
  obtain ⟨rfl, ⟨hx, hb, hml, hown, hts⟩, hK, hA, hSt, hTs, hn⟩ := X
  intro L K S hb9 H locs ls hP hD hS hl
  simp only [tb_getE] at hb9
  split at hb9
  · split at hb9
    · rename_i q r o hq
      obtain ⟨q1, i⟩ := q
      have e9 : q1 = kd := Nat.eq_of_beq_eq_true hq
      subst e9
      exact vk_getf hx hb (hSt.2.2.2.2.1 _ hz i hb9.1) hS hown (hts _ (hTs _ hw)) (fun _ h9 => h9) hd (h _ _ _ hb9.2 H locs ls hP hD hS hl)
    · exact hb9.elim
  · exact hb9.elim
def tb_aaldR (k : tc_B) : tc_B := fun L K S => match K with
  | .inl i :: .inr (.inr (4, 0)) :: r => vp_in i 4 ∧ k L (.inr (.inr (1, i.toNatClampNeg)) :: r) S
  | _ => False
def tb_aaldC (k : tc_B) : tc_B := fun L K S => match K with
  | .inl i :: .inr (.inr (4, 1)) :: r => vp_in i 6 ∧ k L (.inr (.inr (2, i.toNatClampNeg)) :: r) S
  | _ => False
theorem to_aaldR (X : tc_Cx R cc nL own Z) (hd : decode cc pc = .ok (.aaload, 1)) (h : tc_Ok nL Z (pc + 1) k) : tc_Ok nL Z pc (tb_aaldR k) := by
  obtain ⟨p, l, e, R', s, m, args, below, meth, c, n, Q, Ts, D, ad, cA, A⟩ := Z
  obtain ⟨rfl, ⟨hx, hb, hml, hown, hts⟩, hK, hA, hSt, hTs, hn⟩ := X
  intro L K S hb9 H locs ls hP hD hS hl
  simp only [tb_aaldR] at hb9
  split at hb9
  · exact vb_tq hx hb hSt.2.2.2.2.2.1 hS hb9.1 rfl hd (h _ _ _ hb9.2 H locs ls hP hD hS hl)
  · exact hb9.elim
theorem to_aaldC (X : tc_Cx R cc nL own Z) (hd : decode cc pc = .ok (.aaload, 1)) (h : tc_Ok nL Z (pc + 1) k) : tc_Ok nL Z pc (tb_aaldC k) := by
  obtain ⟨p, l, e, R', s, m, args, below, meth, c, n, Q, Ts, D, ad, cA, A⟩ := Z
  obtain ⟨rfl, ⟨hx, hb, hml, hown, hts⟩, hK, hA, hSt, hTs, hn⟩ := X
  intro L K S hb9 H locs ls hP hD hS hl
  simp only [tb_aaldC] at hb9
  split at hb9
  · exact vb_tq hx hb hSt.2.2.2.2.2.2.1 hS hb9.1 rfl hd (h _ _ _ hb9.2 H locs ls hP hD hS hl)
  · exact hb9.elim
def tb_alenR (k : tc_B) : tc_B := fun L K S => match K with
  | .inr (.inr (4, 0)) :: r => k L (.inl 4 :: r) S
  | _ => False
def tb_alenC (k : tc_B) : tc_B := fun L K S => match K with
  | .inr (.inr (4, 1)) :: r => k L (.inl 6 :: r) S
  | _ => False
theorem to_alenR (X : tc_Cx R cc nL own Z) (hd : decode cc pc = .ok (.arraylength, 1)) (h : tc_Ok nL Z (pc + 1) k) : tc_Ok nL Z pc (tb_alenR k) := by
  obtain ⟨p, l, e, R', s, m, args, below, meth, c, n, Q, Ts, D, ad, cA, A⟩ := Z
  obtain ⟨rfl, ⟨hx, hb, hml, hown, hts⟩, hK, hA, hSt, hTs, hn⟩ := X
  intro L K S hb9 H locs ls hP hD hS hl
  simp only [tb_alenR] at hb9
  split at hb9
  · exact va_tlen hx hb hSt.2.2.2.2.2.1 hS (by decide) hd (h _ _ _ hb9 H locs ls hP hD hS hl)
  · exact hb9.elim
theorem to_alenC (X : tc_Cx R cc nL own Z) (hd : decode cc pc = .ok (.arraylength, 1)) (h : tc_Ok nL Z (pc + 1) k) : tc_Ok nL Z pc (tb_alenC k) := by
  obtain ⟨p, l, e, R', s, m, args, below, meth, c, n, Q, Ts, D, ad, cA, A⟩ := Z
  obtain ⟨rfl, ⟨hx, hb, hml, hown, hts⟩, hK, hA, hSt, hTs, hn⟩ := X
  intro L K S hb9 H locs ls hP hD hS hl
  simp only [tb_alenC] at hb9
  split at hb9
  · exact va_tlen hx hb hSt.2.2.2.2.2.2.1 hS (by decide) hd (h _ _ _ hb9 H locs ls hP hD hS hl)
  · exact hb9.elim
def tb_acmpR (kt kf : tc_B) : tc_B := fun L K S => match K with
  | .inr (.inr (1, y)) :: .inr (.inr (1, x)) :: r => x < 4 ∧ y < 4 ∧ (x = y → kf L r S) ∧ (¬ x = y → kt L r S)
  | _ => False
def tb_acmpC (kt kf : tc_B) : tc_B := fun L K S => match K with
  | .inr (.inr (2, y)) :: .inr (.inr (2, x)) :: r => x < 6 ∧ y < 6 ∧ (x = y → kf L r S) ∧ (¬ x = y → kt L r S)
  | _ => False
theorem to_acmpR {off : Int} {tgt : Nat} (X : tc_Cx R cc nL own Z) (hd : decode cc pc = .ok (.if_acmp .ne off, 3)) (hg : (pc : Int) + off = (tgt : Int)) (ht : tc_Ok nL Z tgt kt) (hf : tc_Ok nL Z (pc + 3) kf) : tc_Ok nL Z pc (tb_acmpR kt kf) := by
  obtain ⟨p, l, e, R', s, m, args, below, meth, c, n, Q, Ts, D, ad, cA, A⟩ := Z
  obtain ⟨rfl, ⟨hx, hb, hml, hown, hts⟩, hK, hA, hSt, hTs, hn⟩ := X
  intro L K S hb9 H locs ls hP hD hS hl
  simp only [tb_acmpR] at hb9
  split at hb9
  · rename_i y x r
    obtain ⟨b1, b2, b3, b4⟩ := hb9
    exact lv_acmp_ne (rx := some (ad 1 x)) (ry := some (ad 1 y)) hx hb hd hg (fun z => ht _ _ _ (b4 (fun e9 => z (by rw [e9]))) H locs ls hP hD hS hl) (fun z => hf _ _ _ (b3 (hSt.2.2.2.2.2.2.2.1 x y b1 b2 (Option.some.inj z))) H locs ls hP hD hS hl)
  · exact hb9.elim
theorem to_acmpC {off : Int} {tgt : Nat} (X : tc_Cx R cc nL own Z) (hd : decode cc pc = .ok (.if_acmp .ne off, 3)) (hg : (pc : Int) + off = (tgt : Int)) (ht : tc_Ok nL Z tgt kt) (hf : tc_Ok nL Z (pc + 3) kf) : tc_Ok nL Z pc (tb_acmpC kt kf) := by
  obtain ⟨p, l, e, R', s, m, args, below, meth, c, n, Q, Ts, D, ad, cA, A⟩ := Z
  obtain ⟨rfl, ⟨hx, hb, hml, hown, hts⟩, hK, hA, hSt, hTs, hn⟩ := X
  intro L K S hb9 H locs ls hP hD hS hl
  simp only [tb_acmpC] at hb9
  split at hb9
  · rename_i y x r
    obtain ⟨b1, b2, b3, b4⟩ := hb9
    exact lv_acmp_ne (rx := some (ad 2 x)) (ry := some (ad 2 y)) hx hb hd hg (fun z => ht _ _ _ (b4 (fun e9 => z (by rw [e9]))) H locs ls hP hD hS hl) (fun z => hf _ _ _ (b3 (hSt.2.2.2.2.2.2.2.2.1 x y b1 b2 (Option.some.inj z))) H locs ls hP hD hS hl)
  · exact hb9.elim
-- Math
def tb_mmax (k : tc_B) : tc_B := fun L K S => match K with
  | .inl y :: .inl x :: r => (match Nat.ble ((r.map tc_cat).sum + 13) 21 with
    | true => k L (.inl (if x < y then y else x) :: r) S
    | false => False)
  | _ => False
def tb_mabs (k : tc_B) : tc_B := fun L K S => match K with
  | .inr (.inl x) :: r => (match Nat.ble ((r.map tc_cat).sum + 13) 21 with
    | true => k L (.inr (.inl (if 0 < x then x else -x)) :: r) S
    | false => False)
  | _ => False
theorem tc_sumc (ad : Nat → Nat → Nat) (r : List tc_V) : ((r.map (tc_v ad)).map fun v => v.category).sum = (r.map tc_cat).sum := by
  rw [List.map_map]
  congr 1
  exact List.map_congr_left (fun v _ => tc_cat_v ad v)
theorem to_mmax {ix : Nat} (X : tc_Cx R cc nL own Z) (hR : 1 ≤ R.frames ∧ 21 ≤ R.locals) (h1 : Cond.methodLink own ix Lib.Math.max.name ∈ tc_tb) (h2 : Cond.static Lib.Math.max.name ∈ tc_tb) (h3 : Cond.initialized "java/lang/Math" ∈ tc_tb) (h4 : Cond.code Lib.Math.max.name Lib.Math.max.code 2 (some .int) ∈ tc_tb) (hd : decode cc pc = .ok (.invokestatic ix, 3)) (h : tc_Ok nL Z (pc + 3) k) : tc_Ok nL Z pc (tb_mmax k) := by
  obtain ⟨p, l, e, R', s, m, args, below, meth, c, n, Q, Ts, D, ad, cA, A⟩ := Z
  obtain ⟨rfl, ⟨hx, hb, hml, hown, hts⟩, hK, hA, hSt, hTs, hn⟩ := X
  intro L K S hb9 H locs ls hP hD hS hl
  simp only [tb_mmax] at hb9
  split at hb9
  · split at hb9
    · rename_i y x r o hle
      exact va_mmax hx hb (by rw [hml, hl.1]) hown (hts _ (hTs _ h1)) (hts _ (hTs _ h2)) (hts _ (hTs _ h3)) (hts _ (hTs _ h4)) hR.1 (by have q1 := Nat.le_of_ble_eq_true hle; have q2 := hR.2; rw [tc_sumc]; omega) hn.1 hn.2 hd (h _ _ _ hb9 H locs ls hP hD hS hl)
    · exact hb9.elim
  · exact hb9.elim
theorem to_mabs {ix : Nat} (X : tc_Cx R cc nL own Z) (hR : 1 ≤ R.frames ∧ 21 ≤ R.locals) (h1 : Cond.methodLink own ix Lib.MathLoose.abs_long.x ∈ tc_tb) (h2 : Cond.static Lib.MathLoose.abs_long.x ∈ tc_tb) (h3 : Cond.initialized "java/lang/Math" ∈ tc_tb) (h4 : Cond.code Lib.MathLoose.abs_long.x Lib.MathLoose.abs_long.code 2 (some .long) ∈ tc_tb) (hd : decode cc pc = .ok (.invokestatic ix, 3)) (h : tc_Ok nL Z (pc + 3) k) : tc_Ok nL Z pc (tb_mabs k) := by
  obtain ⟨p, l, e, R', s, m, args, below, meth, c, n, Q, Ts, D, ad, cA, A⟩ := Z
  obtain ⟨rfl, ⟨hx, hb, hml, hown, hts⟩, hK, hA, hSt, hTs, hn⟩ := X
  intro L K S hb9 H locs ls hP hD hS hl
  simp only [tb_mabs] at hb9
  split at hb9
  · split at hb9
    · rename_i x r o hle
      exact va_mabs_long hx hb (by rw [hml, hl.1]) hown (hts _ (hTs _ h1)) (hts _ (hTs _ h2)) (hts _ (hTs _ h3)) (hts _ (hTs _ h4)) hR.1 (by have q1 := Nat.le_of_ble_eq_true hle; have q2 := hR.2; rw [tc_sumc]; omega) hn.1 hn.2 hd (h _ _ _ hb9 H locs ls hP hD hS hl)
    · exact hb9.elim
  · exact hb9.elim
-- switches
def tc_sw (x : Int32) (r : List tc_V) (L : tc_L) (S : tc_S) : Int32 → List tc_B → Prop
  | _, [] => True
  | i, k :: ks => (x = i → k L r S) ∧ tc_sw x r L S (i + 1) ks
def tb_tsw (lo hi : Int32) (ks : List tc_B) (kd : tc_B) : tc_B := fun L K S => match K with
  | .inl x :: r => ((x < lo ∨ hi < x) → kd L r S) ∧ tc_sw x r L S lo ks
  | _ => False
def tc_swOk (nL : Nat) (Z : tc_Z) : List Nat → List tc_B → Prop
  | [], [] => True
  | t :: ts, k :: ks => tc_Ok nL Z t k ∧ tc_swOk nL Z ts ks
  | _, _ => False
theorem tc_sw_at {x : Int32} {r : List tc_V} {L : tc_L} {S : tc_S} {Z : tc_Z} : ∀ (ks : List tc_B) (ts : List Nat) (lo : Int32) (j t : Nat), tc_sw x r L S lo ks → tc_swOk nL Z ts ks → ts[j]? = some t → x = lo + Int32.ofNat j → tc_At nL Z t L r S := by
  intro ks
  induction ks with
  | nil =>
    intro ts lo j t h1 h2 h3 h4
    cases ts with
    | nil => simp at h3
    | cons a b => exact h2.elim
  | cons k ks ih =>
    intro ts lo j t h1 h2 h3 h4
    cases ts with
    | nil => exact h2.elim
    | cons a b =>
      cases j with
      | zero =>
        simp at h3
        subst h3
        exact h2.1 _ _ _ (h1.1 (by rw [h4]; simp))
      | succ j =>
        simp at h3
        refine ih b (lo + 1) j t h1.2 h2.2 h3 ?_
        rw [h4, show Int32.ofNat (j + 1) = nI (j + 1) from rfl, nI_succ, Int32.add_assoc, Int32.add_comm 1]
        rfl
theorem to_tsw {dflt lo hi : Int} {offs : Array Int} {len td : Nat} {lo' hi' : Int32} {ks : List tc_B} {kd : tc_B} (ts : List Nat) (X : tc_Cx R cc nL own Z) (hd : decode cc pc = .ok (.tableswitch dflt lo hi offs, len)) (hlo : lo'.toInt = lo) (hhi : hi'.toInt = hi) (h0 : 0 ≤ lo ∧ hi < 1000000) (hts9 : offs.toList.map (fun o => (pc : Int) + o) = ts.map Int.ofNat) (hlen : hi < lo + ts.length) (hdt : (pc : Int) + dflt = (td : Int)) (hdf : tc_Ok nL Z td kd) (h : tc_swOk nL Z ts ks) : tc_Ok nL Z pc (tb_tsw lo' hi' ks kd) := by
  intro L K S hb9
  simp only [tb_tsw] at hb9
  split at hb9
  · rename_i x r
    by_cases hout : x < lo' ∨ hi' < x
    · have h2 := hdf _ _ _ (hb9.1 hout)
      obtain ⟨p, l, e, R', s, m, args, below, meth, c, n, Q, Ts, D, ad, cA, A⟩ := Z
      obtain ⟨rfl, ⟨hx, hb, hml, hown, hts⟩, hK, hA, hSt, hTs, hn⟩ := X
      intro H locs ls hP hD hS hl
      refine lv_tableOut hx hb hd ?_ hdt (h2 H locs ls hP hD hS hl)
      rcases hout with q | q
      · exact Or.inl (by rw [← hlo]; exact Int32.lt_iff_toInt_lt.mp q)
      · exact Or.inr (by rw [← hhi]; exact Int32.lt_iff_toInt_lt.mp q)
    · have q1 : ¬ x.toInt < lo := by rw [← hlo]; exact fun q => hout (Or.inl (Int32.lt_iff_toInt_lt.mpr q))
      have q2 : ¬ hi < x.toInt := by rw [← hhi]; exact fun q => hout (Or.inr (Int32.lt_iff_toInt_lt.mpr q))
      obtain ⟨j, hj⟩ : ∃ j : Nat, x.toInt - lo = j := ⟨(x.toInt - lo).toNat, by omega⟩
      have hjl : j < ts.length := by omega
      obtain ⟨t, ht⟩ : ∃ t, ts[j]? = some t := ⟨ts[j], List.getElem?_eq_getElem hjl⟩
      have ho : (offs.toList.map (fun o => (pc : Int) + o))[j]? = some (Int.ofNat t) := by
        rw [hts9, List.getElem?_map, ht]
        rfl
      rw [List.getElem?_map] at ho
      cases hof : offs.toList[j]? with
      | none => rw [hof] at ho; cases ho
      | some off =>
        rw [hof] at ho
        have hpc : (pc : Int) + off = (t : Int) := Option.some.inj ho
        have hxe : x = lo' + Int32.ofNat j := by
          apply Int32.toInt_inj.mp
          have e1 : (Int32.ofNat j).toInt = (j : Int) := nI_toInt (by omega)
          rw [Jvm.Kit.i32_add (by rw [e1]; omega) (by rw [e1]; omega), e1, hlo]
          omega
        have h2 := tc_sw_at ks ts lo' j t hb9.2 h ht hxe
        obtain ⟨p, l, e, R', s, m, args, below, meth, c, n, Q, Ts, D, ad, cA, A⟩ := Z
        obtain ⟨rfl, ⟨hx, hb, hml, hown, hts⟩, hK, hA, hSt, hTs, hn⟩ := X
        intro H locs ls hP hD hS hl
        refine lv_tableIn (off := off) (tgt := t) hx hb hd q1 q2 ?_ hpc (h2 H locs ls hP hD hS hl)
        rw [hj]
        show offs[((j : Int)).toNat]? = some off
        rw [Int.toNat_natCast, ← Array.getElem?_toList]
        exact hof
  · exact hb9.elim
end TCHEAP
end
section
/-! ends of methods, contracts, calls -/
section TCRET
variable {R : Room} {cc : ByteArray} {nL : Nat} {own : String} {Z : tc_Z} {pc : Nat} {k kt kf : tc_B} {q : tc_Q}
theorem tc_cell_ur {ad : Nat → Nat → Nat} {cA : Nat → ClassId} {S : tc_S} {x j : Nat} {c : tc_C} (hj : j ≠ 0) (h : tc_lay[j]? = some c) : tc_cell ad cA (tc_ur S x) j c = tc_cell ad cA S j c := by
  have h0 := tc_lay_r j c hj h
  rcases c with o | a
  · obtain ⟨ci, fs⟩ := o
    rw [tc_cell_o, tc_cell_o]
    have e : fs.mapIdx (fun k f => tc_v ad (tc_fv (tc_ur S x) j k f)) = fs.mapIdx (fun k f => tc_v ad (tc_fv S j k f)) := by
      apply List.ext_getElem?
      intro i
      rw [List.getElem?_mapIdx, List.getElem?_mapIdx]
      cases hf : fs[i]? with
      | none => rfl
      | some f =>
        have h3 : (f.1 != 3) = true := List.all_eq_true.mp h0 f (List.mem_of_getElem? hf)
        obtain ⟨f1, f2⟩ := f
        simp only [Option.map_some]
        match f1, h3 with
        | 0, _ => rfl
        | 1, _ => rfl
        | 2, _ => rfl
        | 3, h3 => cases h3
        | n + 4, _ =>
          exact absurd (List.mem_of_getElem? hf) (by
            intro hm
            have h4 : tc_lay.all (fun c => match c with
              | .inl o => o.2.all (fun f => Nat.ble f.1 3)
              | .inr _ => true) = true := by decide +kernel
            have h5 := List.all_eq_true.mp h4 _ (List.mem_of_getElem? h)
            have h6 := List.all_eq_true.mp h5 _ hm
            have h7 := Nat.le_of_ble_eq_true h6
            simp at h7)
    rw [e]
  · rfl
def tc_fs0 : List (Nat × Nat) := [(2, 1), (2, 2), (2, 3), (2, 4), (2, 5), (2, 6), (2, 7), (2, 8), (2, 9), (2, 10), (2, 11), (2, 12), (2, 13), (3, 0)]
theorem tc_lay0 : tc_lay[0]? = some (.inl (8, tc_fs0)) := rfl
theorem tc_put_r {ad : Nat → Nat → Nat} {S : tc_S} {x : Nat} : tc_fs0.mapIdx (fun k' f => tc_v ad (tc_fv (tc_ur S x) 0 k' f)) = (tc_fs0.mapIdx (fun k' f => tc_v ad (tc_fv S 0 k' f))).set 13 (.ref (ad 1 x)) := rfl
theorem to_putR {ix : Nat} (X : tc_Cx R cc nL own Z) (hin : ∀ w ∈ u_ws RX10 TX10 14, w ∈ tc_tb) (hw : Cond.fieldLink own ix "ToldChances" "current" "LToldChances$Rule;" ∈ tc_tb) (hd : decode cc pc = .ok (.putfield ix, 3)) (h : tc_Ok nL Z (pc + 3) k) : tc_Ok nL Z pc (tb_putR 8 13 k) := by
  obtain ⟨p, l, e, R', s, m, args, below, meth, c, n, Q, Ts, D, ad, cA, A⟩ := Z
  obtain ⟨rfl, ⟨hx, hb, hml, hown, hts⟩, hK, hA, hSt, hTs, hn⟩ := X
  intro L K S hb9 H locs ls hP hD hS hl
  simp only [tb_putR] at hb9
  split at hb9
  · split at hb9
    · rename_i x q r o z ht9
      obtain ⟨i, fs, rfl, h1, h2⟩ := tc_fld_spec ht9
      have hi0 : i = 0 := by
        by_cases hi : i = 0
        · exact hi
        · have h5 := tc_lay_r i _ hi h1
          have h6 := List.all_eq_true.mp h5 _ (List.mem_of_getElem? h2)
          cases h6
      subst hi0
      have hfs : fs = tc_fs0 := by
        rw [tc_lay0] at h1
        have h8 := Sum.inl.inj (Option.some.inj h1)
        exact ((Prod.mk.inj h8).2).symm
      subst hfs
      have hset : (tc_W ad cA S).set 0 (ad 0 0, .inr (8, (tc_fs0.mapIdx (fun k' f => tc_v ad (tc_fv S 0 k' f))).set 13 (.ref (ad 1 x)))) = tc_W ad cA (tc_ur S x) := tc_W_set h1 (by rw [tc_cell_o, tc_put_r]) (fun j c' hj hc => tc_cell_ur hj hc)
      refine va_put (D := D) (ci := 8) (v := .ref (ad 1 x)) (ty := .object "ToldChances$Rule") (C := RX10) (T := TX10) (N := 14) hx hb hts (fun w hw => hTs w (hin w hw)) tyX10 tyX10_ok nmX10 hown hK hP hD hS 0 (tc_W_at h1) rfl 13 (by decide) (hts _ (hTs _ hw)) (fun _ h9 => h9) rfl (by decide +kernel) rfl rfl (by rw [List.length_mapIdx]; exact (List.getElem?_eq_some_iff.mp h2).1) hd (fun H1 locs1 hP1 hD1 hS1 => ?_)
      rw [hset] at hP1 hD1
      exact h _ _ _ hb9 H1 locs1 ls hP1 hD1 hS1 hl
    · exact hb9.elim
  · exact hb9.elim
/-- what a method answers: 0 an int, 1 a boolean, 2 a long, 3 nothing, 4 a byte, 5 a char -/
def tc_ret : Nat → Option FieldType
  | 0 => some .int
  | 1 => some .boolean
  | 2 => some .long
  | 4 => some .byte
  | 5 => some .char
  | _ => none
def tc_Rt (rk : Nat) (cc : ByteArray) (nL : Nat) (Z : tc_Z) (q : tc_Q) : Prop := match rk with
  | 0 => ∀ pc L x S, q (some (.inl x)) S → decode cc pc = .ok (.ireturn, 1) → tc_At nL Z pc L [.inl x] S
  | 1 => ∀ pc L x S, q (some (.inl x)) S → narrow .boolean (.int x) = .int x → decode cc pc = .ok (.ireturn, 1) → tc_At nL Z pc L [.inl x] S
  | 2 => ∀ pc L x S, q (some (.inr (.inl x))) S → decode cc pc = .ok (.lreturn, 1) → tc_At nL Z pc L [.inr (.inl x)] S
  | 4 => ∀ pc L x S, q (some (.inl x)) S → narrow .byte (.int x) = .int x → decode cc pc = .ok (.ireturn, 1) → tc_At nL Z pc L [.inl x] S
  | 5 => ∀ pc L x S, q (some (.inl x)) S → narrow .char (.int x) = .int x → decode cc pc = .ok (.ireturn, 1) → tc_At nL Z pc L [.inl x] S
  | _ => ∀ pc L S, q none S → decode cc pc = .ok (.return_, 1) → tc_At nL Z pc L [] S
def tb_iret (q : tc_Q) : tc_B := fun _ K S => match K with
  | [.inl x] => q (some (.inl x)) S
  | _ => False
def tb_zret (q : tc_Q) : tc_B := fun _ K S => match K with
  | [.inl x] => narrow .boolean (.int x) = .int x ∧ q (some (.inl x)) S
  | _ => False
def tb_jret (q : tc_Q) : tc_B := fun _ K S => match K with
  | [.inr (.inl x)] => q (some (.inr (.inl x))) S
  | _ => False
def tb_vret (q : tc_Q) : tc_B := fun _ K S => match K with
  | [] => q none S
  | _ => False
theorem to_iret (hr : tc_Rt 0 cc nL Z q) (hd : decode cc pc = .ok (.ireturn, 1)) : tc_Ok nL Z pc (tb_iret q) := by
  intro L K S hb9
  simp only [tb_iret] at hb9
  split at hb9
  · exact hr pc L _ S hb9 hd
  · exact hb9.elim
def tb_bret (q : tc_Q) : tc_B := fun _ K S => match K with
  | [.inl x] => narrow .byte (.int x) = .int x ∧ q (some (.inl x)) S
  | _ => False
def tb_cret (q : tc_Q) : tc_B := fun _ K S => match K with
  | [.inl x] => narrow .char (.int x) = .int x ∧ q (some (.inl x)) S
  | _ => False
theorem to_bret (hr : tc_Rt 4 cc nL Z q) (hd : decode cc pc = .ok (.ireturn, 1)) : tc_Ok nL Z pc (tb_bret q) := by
  intro L K S hb9
  simp only [tb_bret] at hb9
  split at hb9
  · exact hr pc L _ S hb9.2 hb9.1 hd
  · exact hb9.elim
theorem to_cret (hr : tc_Rt 5 cc nL Z q) (hd : decode cc pc = .ok (.ireturn, 1)) : tc_Ok nL Z pc (tb_cret q) := by
  intro L K S hb9
  simp only [tb_cret] at hb9
  split at hb9
  · exact hr pc L _ S hb9.2 hb9.1 hd
  · exact hb9.elim
theorem to_zret (hr : tc_Rt 1 cc nL Z q) (hd : decode cc pc = .ok (.ireturn, 1)) : tc_Ok nL Z pc (tb_zret q) := by
  intro L K S hb9
  simp only [tb_zret] at hb9
  split at hb9
  · exact hr pc L _ S hb9.2 hb9.1 hd
  · exact hb9.elim
theorem to_jret (hr : tc_Rt 2 cc nL Z q) (hd : decode cc pc = .ok (.lreturn, 1)) : tc_Ok nL Z pc (tb_jret q) := by
  intro L K S hb9
  simp only [tb_jret] at hb9
  split at hb9
  · exact hr pc L _ S hb9 hd
  · exact hb9.elim
theorem to_vret (hr : tc_Rt 3 cc nL Z q) (hd : decode cc pc = .ok (.return_, 1)) : tc_Ok nL Z pc (tb_vret q) := by
  intro L K S hb9
  simp only [tb_vret] at hb9
  split at hb9
  · exact hr pc L S hb9 hd
  · exact hb9.elim
end TCRET
def tc_Pre (D : va_G) (ad : Nat → Nat → Nat) (cA : Nat → ClassId) (S : tc_S) (sz : Nat) (U : State) : Prop := U.heap.size = sz ∧ va_P D tc_cl (tc_W ad cA S) U.heap ∧ va_K D tc_cl (tc_ty cA) U ∧ va_D (fun _ => True) (tc_W ad cA S) ∧ tc_St ad (va_A (tc_W ad cA S) sz) U U.heap
def tc_Be (D : va_G) (ad : Nat → Nat → Nat) (cA : Nat → ClassId) (A : Nat → Prop) (u : tc_S) (t : State) : Prop := va_P D tc_cl (tc_W ad cA u) t.heap ∧ va_K D tc_cl (tc_ty cA) t ∧ va_D A (tc_W ad cA u)
def tc_Po (rk : Nat) (D : va_G) (ad : Nat → Nat → Nat) (cA : Nat → ClassId) (q : tc_Q) (A : Nat → Prop) : Array Value → State → Outcome → State → Prop := match rk with
  | 0 => va_Qi (fun r u => q (some (.inl r)) u) (tc_Be D ad cA A) A
  | 1 => va_Qi (fun r u => q (some (.inl r)) u) (tc_Be D ad cA A) A
  | 2 => va_Ql (fun r u => q (some (.inr (.inl r))) u) (tc_Be D ad cA A) A
  | 4 => va_Qi (fun r u => q (some (.inl r)) u) (tc_Be D ad cA A) A
  | 5 => va_Qi (fun r u => q (some (.inl r)) u) (tc_Be D ad cA A) A
  | _ => va_Qv (fun u => q none u) (tc_Be D ad cA A) A
/-- a method's contract: what Rm asks of its arguments and of the state is enough for q to hold of its answer and of the state behind it -/
def tc_Met (y : MethodName) (c : Cond) (rm : Room) (rk nL : Nat) (Rm : List tc_V → tc_S → tc_Q → Prop) : Prop :=
  ∀ (l : Launch) (D : va_G) (ad : Nat → Nat → Nat) (cA : Nat → ClassId) (vs : List tc_V) (S : tc_S) (q : tc_Q) (sz : Nat), (vs.map tc_cat).sum ≤ nL → Rm vs S q →
    Met l y (c :: tc_tb) rm (va_Pc (vs.map (tc_v ad)) (tc_Pre D ad cA S sz)) (tc_Po rk D ad cA q (va_A (tc_W ad cA S) sz)) 0 0 (va_A (tc_W ad cA S) sz)
theorem tc_met {y : MethodName} {cc : ByteArray} {nL rk : Nat} {rm : Room} {Rm : List tc_V → tc_S → tc_Q → Prop} (hy : plainName y.cls = true) (hrm : rm.cells = 0 ∧ rm.slots = 0) (body : ∀ (Z : tc_Z) (q : tc_Q), tc_Cx rm cc nL y.cls Z → tc_Rt rk cc nL Z q → ∀ (vs : List tc_V) (S : tc_S), Rm vs S q → tc_At nL Z 0 (tc_num 0 vs) [] S) : tc_Met y (Cond.code y cc nL (tc_ret rk)) rm rk nL Rm := by
  intro l D ad cA vs S q sz hvs hR
  refine Met.ofW (cc := cc) (maxL := nL) (ret := tc_ret rk) hy rfl ?_
  intro p e s m args below meth c s₁ B hml hv
  obtain ⟨rfl, hsz, hP, hK, hD0, hSt⟩ := hv
  subst hsz
  have hx := B.exec
  have hb := B.bytes
  have hr := B.returns
  have hts := atoms_spec (ws := Cond.code y cc nL (tc_ret rk) :: tc_tb) B.pre
  have hown : s.vm.findClass y.cls = some m.cls := findClass_of_methodNamed B.named
  have hlocks := B.notSynchronized
  have hD := hD0.self (sz := s.heap.size)
  have hA : ∀ q : Nat, s.heap.size ≤ q → va_A (tc_W ad cA S) s.heap.size q := fun q h => Or.inr h
  have hS : va_S (va_A (tc_W ad cA S) s.heap.size) s.heap s.heap [] := va_S.rf
  have hl := lv_entry (vs.map (tc_v ad)) (n := nL) (by rw [tc_sl_len]; exact hvs)
  rw [lg_entry_eq]
  rw [tc_num_c] at hl
  have X : tc_Cx rm cc nL y.cls (p, l, e, rm, s, m, (vs.map (tc_v ad)).toArray, below, meth, c, (0, 0), MQ below (tc_Po rk D ad cA q (va_A (tc_W ad cA S) s.heap.size)) (vs.map (tc_v ad)).toArray s 0 0 (va_A (tc_W ad cA S) s.heap.size), Cond.code y cc nL (tc_ret rk) :: tc_tb, D, ad, cA, va_A (tc_W ad cA S) s.heap.size) := ⟨rfl, ⟨hx, hb, hml, hown, hts⟩, hK, hA, hSt, fun w hw => List.mem_cons_of_mem _ hw, Nat.zero_le _, Nat.zero_le _⟩
  refine body _ q X ?_ vs S hR s.heap [] _ hP hD hS hl
  match rk, hr with
  | 0, hr =>
    intro pc L x S' hq hd H locs ls hP hD hS hl
    exact W.iret (v := x) hx hb hr (fun t ht hW => ⟨⟨x, S', rfl, hq, by rw [ht]; exact hP, va_K.moved hW.alike hK, hD⟩, hS.F ht⟩) hS.2.2 hd
  | 1, hr =>
    intro pc L x S' hq hz hd H locs ls hP hD hS hl
    exact W.zret (v := x) (ty := .boolean) hx hb hr hz (fun t ht hW => ⟨⟨x, S', rfl, hq, by rw [ht]; exact hP, va_K.moved hW.alike hK, hD⟩, hS.F ht⟩) hS.2.2 hd
  | 2, hr =>
    intro pc L x S' hq hd H locs ls hP hD hS hl
    exact W.lret (v := x) hx hb hr (fun t ht hW => ⟨⟨x, S', rfl, hq, by rw [ht]; exact hP, va_K.moved hW.alike hK, hD⟩, hS.F ht⟩) hS.2.2 hd
  | 4, hr =>
    intro pc L x S' hq hz hd H locs ls hP hD hS hl
    exact W.zret (v := x) (ty := .byte) hx hb hr hz (fun t ht hW => ⟨⟨x, S', rfl, hq, by rw [ht]; exact hP, va_K.moved hW.alike hK, hD⟩, hS.F ht⟩) hS.2.2 hd
  | 5, hr =>
    intro pc L x S' hq hz hd H locs ls hP hD hS hl
    exact W.zret (v := x) (ty := .char) hx hb hr hz (fun t ht hW => ⟨⟨x, S', rfl, hq, by rw [ht]; exact hP, va_K.moved hW.alike hK, hD⟩, hS.F ht⟩) hS.2.2 hd
  | 3, hr =>
    intro pc L S' hq hd H locs ls hP hD hS hl
    exact W.vret hx hb hr (fun t ht hW => ⟨⟨S', rfl, hq, by rw [ht]; exact hP, va_K.moved hW.alike hK, hD⟩, hS.F ht⟩) hS.2.2 hd
  | n + 6, hr =>
    intro pc L S' hq hd H locs ls hP hD hS hl
    exact W.vret hx hb hr (fun t ht hW => ⟨⟨S', rfl, hq, by rw [ht]; exact hP, va_K.moved hW.alike hK, hD⟩, hS.F ht⟩) hS.2.2 hd
/-! calls -/
section TCCALL
variable {R : Room} {cc : ByteArray} {nL : Nat} {own : String} {Z : tc_Z} {pc : Nat} {k : tc_B}
/-- n arguments above the receiver, an object of class ci; the callee has room for them; not too much below them -/
def tc_ckV (n nL' ci : Nat) (K : List tc_V) : Bool := match K[n]? with
  | some (.inr (.inr (0, i))) => (match tc_lay[i]? with
    | some (.inl o) => Nat.beq o.1 ci && Nat.ble ((K.take (n + 1)).reverse.map tc_cat).sum nL' && Nat.ble ((K.drop (n + 1)).map tc_cat).sum 8
    | _ => false)
  | _ => false
def tb_callV (n nL' ci : Nat) (Rm : List tc_V → tc_S → tc_Q → Prop) (k : tc_B) : tc_B := fun L K S => match tc_ckV n nL' ci K with
  | true => Rm (K.take (n + 1)).reverse S (fun r S' => k L (r.toList ++ K.drop (n + 1)) S')
  | false => False
/-- a receiver that is a constant of kind kd -/
def tc_ckE (n nL' kd : Nat) (K : List tc_V) : Option Nat := match K[n]? with
  | some (.inr (.inr q)) => (match Nat.beq q.1 kd && Nat.ble ((K.take (n + 1)).reverse.map tc_cat).sum nL' && Nat.ble ((K.drop (n + 1)).map tc_cat).sum 8 with
    | true => some q.2
    | false => none)
  | _ => none
def tb_callE (n nL' kd N : Nat) (Rm : List tc_V → tc_S → tc_Q → Prop) (k : tc_B) : tc_B := fun L K S => match tc_ckE n nL' kd K with
  | some i => i < N ∧ Rm (K.take (n + 1)).reverse S (fun r S' => k L (r.toList ++ K.drop (n + 1)) S')
  | none => False
def tc_ckS (n nL' : Nat) (K : List tc_V) : Bool := Nat.ble n K.length && Nat.ble ((K.take n).reverse.map tc_cat).sum nL' && Nat.ble ((K.drop n).map tc_cat).sum 8
def tb_callS (n nL' : Nat) (Rm : List tc_V → tc_S → tc_Q → Prop) (k : tc_B) : tc_B := fun L K S => match tc_ckS n nL' K with
  | true => Rm (K.take n).reverse S (fun r S' => k L (r.toList ++ K.drop n) S')
  | false => False
theorem tc_blind {l : Launch} {av : List Value} {D : va_G} {ad : Nat → Nat → Nat} {cA : Nat → ClassId} {S : tc_S} {sz : Nat} : FrameBlind (va_Pc av (tc_Pre D ad cA S sz)) := by
  intro a U g mk q
  obtain ⟨q0, q1, qP, qK, qD, qS⟩ := q
  exact ⟨q0, q1, qP, va_K.moved (u := U) (U := U.calling g mk a) (Vm.Alike.refl U.vm) qK, qD, tc_St.moved (u := U) (U := U.calling g mk a) (Vm.Alike.refl U.vm) qS⟩
/-- behind the call -/
theorem tc_back {p : Program} {l : Launch} {e : Env} {s : State} {m : MethodId} {args : Array Value} {below : List Frame} {meth : Method} {c : Code} {n : Nat × Nat} {Q : State → Prop} {Ts : List Cond} {D : va_G} {ad : Nat → Nat → Nat} {cA : Nat → ClassId} {A : Nat → Prop} {rk : Nat} {L : tc_L} {rest : List tc_V} {S : tc_S} {H : Heap} {locs : List Loc} {ls : Array Slot} {st0 : List Value} {a : Array Value}
    (hA : ∀ q, s.heap.size ≤ q → A q) (h : tc_Ok nL (p, l, e, R, s, m, args, below, meth, c, n, Q, Ts, D, ad, cA, A) (pc + 3) k) (hP : va_P D tc_cl (tc_W ad cA S) H) (hD : va_D A (tc_W ad cA S)) (hS : va_S A s.heap H locs) (hl : lv_has ls nL (tc_cL ad L))
    (hrun : va_Run p l e R s m args below meth c H locs n.1 n.2 0 0 (F0 m pc ls st0) (rest.map (tc_v ad)) (tc_Po rk D ad cA (fun r S' => k L (r.toList ++ rest) S') (va_A (tc_W ad cA S) H.size) a) (va_A (tc_W ad cA S) H.size)) :
    W p l e R s m args below meth c H locs n.1 n.2 Q (F0 m pc ls st0) := by
  have hF : ∀ q, va_A (tc_W ad cA S) H.size q → A q := by
    intro q hq
    rcases hq with ⟨i, e9, hi⟩ | hq
    · exact hD.2 i (q, e9) hi
    · exact hA q (Nat.le_trans hS.1 hq)
  match rk, hrun with
  | 0, hrun =>
    refine va_calli (a := a) hrun hS (fun q _ h9 => hF q h9) hF (fun r u t H1 locs1 ht hvm hw hB hz1 hk1 hS1 => ?_)
    obtain ⟨b1, b2, b3⟩ := hB
    rw [ht] at b1
    exact h _ _ _ hw H1 locs1 ls b1 (b3.weaken (fun _ _ _ h9 => hF _ h9)) hS1 hl
  | 1, hrun =>
    refine va_calli (a := a) hrun hS (fun q _ h9 => hF q h9) hF (fun r u t H1 locs1 ht hvm hw hB hz1 hk1 hS1 => ?_)
    obtain ⟨b1, b2, b3⟩ := hB
    rw [ht] at b1
    exact h _ _ _ hw H1 locs1 ls b1 (b3.weaken (fun _ _ _ h9 => hF _ h9)) hS1 hl
  | 2, hrun =>
    refine va_calll (a := a) hrun hS (fun q _ h9 => hF q h9) hF (fun r u t H1 locs1 ht hvm hw hB hz1 hk1 hS1 => ?_)
    obtain ⟨b1, b2, b3⟩ := hB
    rw [ht] at b1
    exact h _ _ _ hw H1 locs1 ls b1 (b3.weaken (fun _ _ _ h9 => hF _ h9)) hS1 hl
  | 4, hrun =>
    refine va_calli (a := a) hrun hS (fun q _ h9 => hF q h9) hF (fun r u t H1 locs1 ht hvm hw hB hz1 hk1 hS1 => ?_)
    obtain ⟨b1, b2, b3⟩ := hB
    rw [ht] at b1
    exact h _ _ _ hw H1 locs1 ls b1 (b3.weaken (fun _ _ _ h9 => hF _ h9)) hS1 hl
  | 5, hrun =>
    refine va_calli (a := a) hrun hS (fun q _ h9 => hF q h9) hF (fun r u t H1 locs1 ht hvm hw hB hz1 hk1 hS1 => ?_)
    obtain ⟨b1, b2, b3⟩ := hB
    rw [ht] at b1
    exact h _ _ _ hw H1 locs1 ls b1 (b3.weaken (fun _ _ _ h9 => hF _ h9)) hS1 hl
  | 3, hrun =>
    refine va_callv (a := a) hrun hS (fun q _ h9 => hF q h9) hF (fun u t H1 locs1 ht hvm hw hB hz1 hk1 hS1 => ?_)
    obtain ⟨b1, b2, b3⟩ := hB
    rw [ht] at b1
    exact h _ _ _ hw H1 locs1 ls b1 (b3.weaken (fun _ _ _ h9 => hF _ h9)) hS1 hl
  | n9 + 6, hrun =>
    refine va_callv (a := a) hrun hS (fun q _ h9 => hF q h9) hF (fun u t H1 locs1 ht hvm hw hB hz1 hk1 hS1 => ?_)
    obtain ⟨b1, b2, b3⟩ := hB
    rw [ht] at b1
    exact h _ _ _ hw H1 locs1 ls b1 (b3.weaken (fun _ _ _ h9 => hF _ h9)) hS1 hl
theorem tc_pre {s U : State} {args : Array Value} {D : va_G} {ad : Nat → Nat → Nat} {cA : Nat → ClassId} {A : Nat → Prop} {S : tc_S} {H : Heap} {locs : List Loc} (hK : va_K D tc_cl (tc_ty cA) s) (hA : ∀ q, s.heap.size ≤ q → A q) (hSt : tc_St ad A s s.heap) (hP : va_P D tc_cl (tc_W ad cA S) H) (hD : va_D A (tc_W ad cA S)) (hS : va_S A s.heap H locs) (hU : U.heap = H) (hW : s.WarmedH U.vm) : tc_Pre D ad cA S H.size U := by
  have hF : ∀ q, va_A (tc_W ad cA S) H.size q → A q := by
    intro q hq
    rcases hq with ⟨i, e9, hi⟩ | hq
    · exact hD.2 i (q, e9) hi
    · exact hA q (Nat.le_trans hS.1 hq)
  refine ⟨by rw [hU], by rw [hU]; exact hP, va_K.moved hW.alike hK, hD.weaken (fun _ _ _ _ => trivial), ?_⟩
  rw [hU]
  exact ((hSt.kept hS.2.1).narrow hF).moved hW.alike
theorem tc_revc {n : Nat} {K : List tc_V} {v : tc_V} {ad : Nat → Nat → Nat} (h : K[n]? = some v) : (K.take (n + 1)).reverse = v :: (K.take n).reverse ∧ K.map (tc_v ad) = ((K.take n).reverse.map (tc_v ad)).reverse ++ tc_v ad v :: (K.drop (n + 1)).map (tc_v ad) := by
  have hn := (List.getElem?_eq_some_iff.mp h).1
  have hv := (List.getElem?_eq_some_iff.mp h).2
  have e1 : K.take (n + 1) = K.take n ++ [v] := by rw [List.take_succ_eq_append_getElem hn, hv]
  have e2 : K = K.take n ++ v :: K.drop (n + 1) := by
    rw [← hv]
    rw [List.getElem_cons_drop, List.take_append_drop]
  refine ⟨by rw [e1, List.reverse_append]; rfl, ?_⟩
  conv => lhs; rw [e2]
  rw [List.map_append, List.map_cons, ← List.map_reverse, List.reverse_reverse]
theorem tc_ckV_spec {n nL' ci : Nat} {K : List tc_V} (h : tc_ckV n nL' ci K = true) : ∃ (i : Nat) (fs : List (Nat × Nat)), K[n]? = some (.inr (.inr (0, i))) ∧ tc_lay[i]? = some (.inl (ci, fs)) ∧ ((K.take (n + 1)).reverse.map tc_cat).sum ≤ nL' ∧ ((K.drop (n + 1)).map tc_cat).sum ≤ 8 := by
  unfold tc_ckV at h
  cases hv : K[n]? with
  | none => rw [hv] at h; cases h
  | some v =>
    rw [hv] at h
    rcases v with x | x | ⟨k, i⟩
    · cases h
    · cases h
    · match k, h with
      | 0, h =>
        cases ho : tc_lay[i]? with
        | none => simp only [ho] at h; cases h
        | some o =>
          simp only [ho] at h
          rcases o with o | o
          · obtain ⟨o1, fs⟩ := o
            simp only [Bool.and_eq_true] at h
            have e := Nat.eq_of_beq_eq_true h.1.1
            subst e
            exact ⟨i, fs, rfl, ho, Nat.le_of_ble_eq_true h.1.2, Nat.le_of_ble_eq_true h.2⟩
          · cases h
theorem tc_ckE_spec {n nL' kd i : Nat} {K : List tc_V} (h : tc_ckE n nL' kd K = some i) : K[n]? = some (.inr (.inr (kd, i))) ∧ ((K.take (n + 1)).reverse.map tc_cat).sum ≤ nL' ∧ ((K.drop (n + 1)).map tc_cat).sum ≤ 8 := by
  unfold tc_ckE at h
  cases hv : K[n]? with
  | none => rw [hv] at h; cases h
  | some v =>
    rw [hv] at h
    rcases v with x | x | ⟨k, j⟩
    · cases h
    · cases h
    · simp only at h
      split at h
      · rename_i hb
        simp only [Bool.and_eq_true] at hb
        have e := Nat.eq_of_beq_eq_true hb.1.1
        cases h
        exact ⟨by rw [e], Nat.le_of_ble_eq_true hb.1.2, Nat.le_of_ble_eq_true hb.2⟩
      · cases h
theorem tc_len_take {n : Nat} {K : List tc_V} {v : tc_V} {f : tc_V → Value} (h : K[n]? = some v) : ((K.take n).reverse.map f).length = n := by
  rw [List.length_map, List.length_reverse, List.length_take]
  exact Nat.min_eq_left (Nat.le_of_lt (List.getElem?_eq_some_iff.mp h).1)
theorem goodIn_app9 {big a b : List Cond} (ha : GoodIn big a) (hb : GoodIn big b) : GoodIn big (a ++ b) := fun w h => (List.mem_append.mp h).elim (ha w) (hb w)
theorem goodIn_sub9 {big ws : List Cond} (h : ∀ w ∈ ws, w ∈ big ∧ ((w.onTables && w.keeps) = true ∨ ∃ ty, w = .arrayClass ty)) : GoodIn big ws := h
theorem to_callV {ci n ix nL' rk : Nat} {C : vw_C} {y : MethodName} {cc' : ByteArray} {rm : Room} {ret : Option FieldType} {Rm : List tc_V → tc_S → tc_Q → Prop} (X : tc_Cx R cc nL own Z) (hM : tc_Met y (Cond.code y cc' nL' ret) rm rk nL' Rm) (hc : tc_cl[ci]? = some C) (hrm : rm.cells = 0 ∧ rm.slots = 0) (hR : rm.frames + 1 ≤ R.frames ∧ 8 + (nL' + 11) + rm.locals ≤ R.locals)
    (h1 : Cond.methodLink own ix y ∈ tc_tb) (h2 : Cond.instanceMethod y ∈ tc_tb) (h3 : Cond.selects C.1 y y ∈ tc_tb) (h4 : Cond.initialized C.1 ∈ tc_tb) (h5 : Cond.code y cc' nL' ret ∈ tc_tb)
    (hy : y.cls = C.1 ∧ y.cls ≠ "java/lang/invoke/MethodHandle" ∧ y.cls ≠ "java/lang/invoke/VarHandle" ∧ (parseMethodDescriptor y.desc).map (fun d => d.parameters.length) = some n) (hd : decode cc pc = .ok (.invokevirtual ix, 3)) (h : tc_Ok nL Z (pc + 3) k) : tc_Ok nL Z pc (tb_callV n nL' ci Rm k) := by
  obtain ⟨p, l, e, R', s, m, args, below, meth, c, nn, Q, Ts, D, ad, cA, A⟩ := Z
  obtain ⟨rfl, ⟨hx, hb, hml, hown, hts⟩, hK, hA, hSt, hTs, hn⟩ := X
  intro L K S hb9 H locs ls hP hD hS hl
  simp only [tb_callV] at hb9
  split at hb9
  · rename_i hck
    obtain ⟨i, fs, hv, ho, g1, g2⟩ := tc_ckV_spec hck
    obtain ⟨e1, e2⟩ := tc_revc (ad := ad) hv
    rw [e1] at hb9 g1
    have hMM := hM l D ad cA _ S _ H.size g1 hb9
    have hG : GoodIn Ts (wsV own ix C.1 y (Cond.code y cc' nL' ret :: tc_tb)) := goodIn_app9 (goodIn_sub9 (by
      intro w hw
      simp only [List.mem_cons, List.not_mem_nil, or_false] at hw
      rcases hw with rfl | rfl | rfl | rfl
      · exact ⟨hTs _ h1, tc_tb_good h1⟩
      · exact ⟨hTs _ h2, tc_tb_good h2⟩
      · exact ⟨hTs _ h3, tc_tb_good h3⟩
      · exact ⟨hTs _ h4, tc_tb_good h4⟩)) (tc_goodIn hTs h5)
    refine tc_back (rest := K.drop (n + 1)) hA h hP hD hS hl (va_runV (As := (K.take n).reverse.map (tc_v ad)) (rest := (K.drop (n + 1)).map (tc_v ad)) ⟨hx, hb, hml, hown, hts⟩ hMM (cwV n hts hG rfl hrm.1 hrm.2 hy hR) ⟨tc_blind (l := l), va_recv hK hP hc (tc_W_at ho), fun U hU hW => ⟨rfl, tc_pre (args := args) hK hA hSt hP hD hS hU hW⟩⟩ rfl (tc_len_take hv) hl.1 e2 (by rw [tc_sumc]; simpa [JFrame.monitorRoom] using g2) hd ⟨hn.1, hn.2⟩)
  · exact hb9.elim
theorem to_callE {kd N n ix nL' rk : Nat} {C : String} {y : MethodName} {cc' : ByteArray} {rm : Room} {ret : Option FieldType} {Rm : List tc_V → tc_S → tc_Q → Prop} (X : tc_Cx R cc nL own Z) (hM : tc_Met y (Cond.code y cc' nL' ret) rm rk nL' Rm) (hkd : (kd = 1 ∧ N = 4 ∧ C = "ToldChances$Rule") ∨ (kd = 2 ∧ N = 6 ∧ C = "ToldChances$Command") ∨ (kd = 3 ∧ N = 10 ∧ C = "java/lang/String")) (hrm : rm.cells = 0 ∧ rm.slots = 0) (hR : rm.frames + 1 ≤ R.frames ∧ 8 + (nL' + 11) + rm.locals ≤ R.locals)
    (h1 : Cond.methodLink own ix y ∈ tc_tb) (h2 : Cond.instanceMethod y ∈ tc_tb) (h3 : Cond.selects C y y ∈ tc_tb) (h4 : Cond.initialized C ∈ tc_tb) (h5 : Cond.code y cc' nL' ret ∈ tc_tb)
    (hy : y.cls = C ∧ y.cls ≠ "java/lang/invoke/MethodHandle" ∧ y.cls ≠ "java/lang/invoke/VarHandle" ∧ (parseMethodDescriptor y.desc).map (fun d => d.parameters.length) = some n) (hd : decode cc pc = .ok (.invokevirtual ix, 3)) (h : tc_Ok nL Z (pc + 3) k) : tc_Ok nL Z pc (tb_callE n nL' kd N Rm k) := by
  obtain ⟨p, l, e, R', s, m, args, below, meth, c, nn, Q, Ts, D, ad, cA, A⟩ := Z
  obtain ⟨rfl, ⟨hx, hb, hml, hown, hts⟩, hK, hA, hSt, hTs, hn⟩ := X
  intro L K S hb9 H locs ls hP hD hS hl
  simp only [tb_callE] at hb9
  split at hb9
  · rename_i o i hck
    obtain ⟨hv, g1, g2⟩ := tc_ckE_spec hck
    obtain ⟨e1, e2⟩ := tc_revc (ad := ad) hv
    obtain ⟨hiN, hb9⟩ := hb9
    rw [e1] at hb9 g1
    have hMM := hM l D ad cA _ S _ H.size g1 hb9
    have hrec : ∃ cell : Cell, H[ad kd i]? = some cell ∧ cell.vm.isStatics = false ∧ s.vm.findClass C = some cell.cls := by
      rcases hkd with ⟨rfl, rfl, rfl⟩ | ⟨rfl, rfl, rfl⟩ | ⟨rfl, rfl, rfl⟩
      · obtain ⟨cell, w1, w2, w3, -⟩ := (hSt.kept hS.2.1).2.1 i hiN
        exact ⟨cell, w1, w2, w3⟩
      · obtain ⟨cell, w1, w2, w3, -⟩ := (hSt.kept hS.2.1).2.2.1 i hiN
        exact ⟨cell, w1, w2, w3⟩
      · obtain ⟨cell, w1, w2, w3, -⟩ := ((hSt.kept hS.2.1).2.2.2.1.1 i hiN).1
        exact ⟨cell, w1, w2, w3⟩
    have hG : GoodIn Ts (wsV own ix C y (Cond.code y cc' nL' ret :: tc_tb)) := goodIn_app9 (goodIn_sub9 (by
      intro w hw
      simp only [List.mem_cons, List.not_mem_nil, or_false] at hw
      rcases hw with rfl | rfl | rfl | rfl
      · exact ⟨hTs _ h1, tc_tb_good h1⟩
      · exact ⟨hTs _ h2, tc_tb_good h2⟩
      · exact ⟨hTs _ h3, tc_tb_good h3⟩
      · exact ⟨hTs _ h4, tc_tb_good h4⟩)) (tc_goodIn hTs h5)
    refine tc_back (rest := K.drop (n + 1)) hA h hP hD hS hl (va_runV (As := (K.take n).reverse.map (tc_v ad)) (rest := (K.drop (n + 1)).map (tc_v ad)) ⟨hx, hb, hml, hown, hts⟩ hMM (cwV n hts hG rfl hrm.1 hrm.2 hy hR) ⟨tc_blind (l := l), hrec, fun U hU hW => ⟨rfl, tc_pre (args := args) hK hA hSt hP hD hS hU hW⟩⟩ rfl (tc_len_take hv) hl.1 e2 (by rw [tc_sumc]; simpa [JFrame.monitorRoom] using g2) hd ⟨hn.1, hn.2⟩)
  · exact hb9.elim
theorem to_callS {n ix nL' rk : Nat} {y : MethodName} {cc' : ByteArray} {rm : Room} {ret : Option FieldType} {Rm : List tc_V → tc_S → tc_Q → Prop} (X : tc_Cx R cc nL own Z) (hM : tc_Met y (Cond.code y cc' nL' ret) rm rk nL' Rm) (hrm : rm.cells = 0 ∧ rm.slots = 0) (hR : rm.frames + 1 ≤ R.frames ∧ 8 + (nL' + 11) + rm.locals ≤ R.locals)
    (h1 : Cond.methodLink own ix y ∈ tc_tb) (h2 : Cond.static y ∈ tc_tb) (h4 : Cond.initialized y.cls ∈ tc_tb) (h5 : Cond.code y cc' nL' ret ∈ tc_tb)
    (hy : y.cls ≠ "java/lang/invoke/MethodHandle" ∧ y.cls ≠ "java/lang/invoke/VarHandle" ∧ (parseMethodDescriptor y.desc).map (fun d => d.parameters.length) = some n) (hd : decode cc pc = .ok (.invokestatic ix, 3)) (h : tc_Ok nL Z (pc + 3) k) : tc_Ok nL Z pc (tb_callS n nL' Rm k) := by
  obtain ⟨p, l, e, R', s, m, args, below, meth, c, nn, Q, Ts, D, ad, cA, A⟩ := Z
  obtain ⟨rfl, ⟨hx, hb, hml, hown, hts⟩, hK, hA, hSt, hTs, hn⟩ := X
  intro L K S hb9 H locs ls hP hD hS hl
  simp only [tb_callS] at hb9
  split at hb9
  · rename_i hck
    simp only [tc_ckS, Bool.and_eq_true] at hck
    have g0 := Nat.le_of_ble_eq_true hck.1.1
    have g1 := Nat.le_of_ble_eq_true hck.1.2
    have g2 := Nat.le_of_ble_eq_true hck.2
    have e2 : K.map (tc_v ad) = ((K.take n).reverse.map (tc_v ad)).reverse ++ (K.drop n).map (tc_v ad) := by
      rw [← List.map_reverse, List.reverse_reverse, ← List.map_append, List.take_append_drop]
    have hlen : ((K.take n).reverse.map (tc_v ad)).length = n := by
      rw [List.length_map, List.length_reverse, List.length_take]
      exact Nat.min_eq_left g0
    have hMM := hM l D ad cA _ S _ H.size g1 hb9
    refine tc_back (rest := K.drop n) hA h hP hD hS hl (va_runS (As := (K.take n).reverse.map (tc_v ad)) (rest := (K.drop n).map (tc_v ad)) ⟨hx, hb, hml, hown, hts⟩ hMM ⟨callB_of n hts (tc_goodIn hTs h5) rfl hrm.1 hrm.2 (hts _ (hTs _ h4)) (hts _ (hTs _ h1)) hy hR, hts _ (hTs _ h2)⟩ ⟨tc_blind (l := l), fun U hU hW => ⟨rfl, tc_pre (args := args) hK hA hSt hP hD hS hU hW⟩⟩ rfl hlen hl.1 e2 (by rw [tc_sumc]; simpa [JFrame.monitorRoom] using g2) hd ⟨hn.1, hn.2⟩)
  · exact hb9.elim
end TCCALL
end
section
theorem wc_J0_length_8abf5 : Cond.code yJ0_length_8abf5 cJ0_length_8abf5 1 (some .int) ∈ tc_tb := tc_tb2 105 (by decide +kernel) (by decide +kernel)
theorem wc_J0_coder_7d493 : Cond.code yJ0_coder_7d493 cJ0_coder_7d493 1 (some .byte) ∈ tc_tb := tc_tb2 109 (by decide +kernel) (by decide +kernel)
theorem wc_J0_charAt_5068e : Cond.code yJ0_charAt_5068e cJ0_charAt_5068e 2 (some .char) ∈ tc_tb := tc_tb2 119 (by decide +kernel) (by decide +kernel)
theorem wc_J0_isLatin1_aae02 : Cond.code yJ0_isLatin1_aae02 cJ0_isLatin1_aae02 1 (some .boolean) ∈ tc_tb := tc_tb2 123 (by decide +kernel) (by decide +kernel)
theorem wc_J1_charAt_3b067 : Cond.code yJ1_charAt_3b067 cJ1_charAt_3b067 2 (some .char) ∈ tc_tb := tc_tb2 126 (by decide +kernel) (by decide +kernel)
theorem wc_J0_checkIndex_df160 : Cond.code yJ0_checkIndex_df160 cJ0_checkIndex_df160 2 none ∈ tc_tb := tc_tb2 129 (by decide +kernel) (by decide +kernel)
theorem wc_J3_checkIndex_8e157 : Cond.code yJ3_checkIndex_8e157 cJ3_checkIndex_8e157 3 (some .int) ∈ tc_tb := tc_tb2 134 (by decide +kernel) (by decide +kernel)
theorem wi_J0_length_8abf5 : Cond.instanceMethod yJ0_length_8abf5 ∈ tc_tb := tc_tb2 103 (by decide +kernel) (by decide +kernel)
theorem wl_J0_length_8abf5 : Cond.selects RJ0 yJ0_length_8abf5 yJ0_length_8abf5 ∈ tc_tb := tc_tb2 104 (by decide +kernel) (by decide +kernel)
theorem wi_J0_coder_7d493 : Cond.instanceMethod yJ0_coder_7d493 ∈ tc_tb := tc_tb2 107 (by decide +kernel) (by decide +kernel)
theorem wl_J0_coder_7d493 : Cond.selects RJ0 yJ0_coder_7d493 yJ0_coder_7d493 ∈ tc_tb := tc_tb2 108 (by decide +kernel) (by decide +kernel)
theorem wi_J0_charAt_5068e : Cond.instanceMethod yJ0_charAt_5068e ∈ tc_tb := tc_tb2 117 (by decide +kernel) (by decide +kernel)
theorem wl_J0_charAt_5068e : Cond.selects RJ0 yJ0_charAt_5068e yJ0_charAt_5068e ∈ tc_tb := tc_tb2 118 (by decide +kernel) (by decide +kernel)
theorem wi_J0_isLatin1_aae02 : Cond.instanceMethod yJ0_isLatin1_aae02 ∈ tc_tb := tc_tb2 121 (by decide +kernel) (by decide +kernel)
theorem wl_J0_isLatin1_aae02 : Cond.selects RJ0 yJ0_isLatin1_aae02 yJ0_isLatin1_aae02 ∈ tc_tb := tc_tb2 122 (by decide +kernel) (by decide +kernel)
theorem ws_J1_charAt_3b067 : Cond.static yJ1_charAt_3b067 ∈ tc_tb := tc_tb2 125 (by decide +kernel) (by decide +kernel)
theorem ws_J0_checkIndex_df160 : Cond.static yJ0_checkIndex_df160 ∈ tc_tb := tc_tb2 128 (by decide +kernel) (by decide +kernel)
theorem ws_J3_checkIndex_8e157 : Cond.static yJ3_checkIndex_8e157 ∈ tc_tb := tc_tb2 133 (by decide +kernel) (by decide +kernel)
theorem wn_RJ0 : Cond.initialized RJ0 ∈ tc_tb := tc_tb1 13 (by decide +kernel) (by decide +kernel)
theorem wn_RJ1 : Cond.initialized RJ1 ∈ tc_tb := tc_tb1 14 (by decide +kernel) (by decide +kernel)
theorem wn_RJ3 : Cond.initialized RJ3 ∈ tc_tb := tc_tb1 15 (by decide +kernel) (by decide +kernel)
theorem wf_RJ0_9 : Cond.fieldLink RJ0 9 "java/lang/String" "value" "[B" ∈ tc_tb := tc_tb5 154 (by decide +kernel) (by decide +kernel)
theorem wf_RJ0_15 : Cond.fieldLink RJ0 15 "java/lang/String" "coder" "B" ∈ tc_tb := tc_tb5 155 (by decide +kernel) (by decide +kernel)
theorem wf_RJ0_38 : Cond.fieldLink RJ0 38 "java/lang/String" "COMPACT_STRINGS" "Z" ∈ tc_tb := tc_tb2 110 (by decide +kernel) (by decide +kernel)
theorem wf_RJ0_1053 : Cond.fieldLink RJ0 1053 "jdk/internal/util/Preconditions" "SIOOBE_FORMATTER" "Ljava/util/function/BiFunction;" ∈ tc_tb := tc_tb2 130 (by decide +kernel) (by decide +kernel)
theorem wm_RJ0_335 : Cond.methodLink RJ0 335 yJ0_coder_7d493 ∈ tc_tb := tc_tb2 106 (by decide +kernel) (by decide +kernel)
theorem wm_RJ0_492 : Cond.methodLink RJ0 492 yJ0_isLatin1_aae02 ∈ tc_tb := tc_tb2 120 (by decide +kernel) (by decide +kernel)
theorem wm_RJ0_495 : Cond.methodLink RJ0 495 yJ1_charAt_3b067 ∈ tc_tb := tc_tb2 124 (by decide +kernel) (by decide +kernel)
theorem wm_RJ1_9 : Cond.methodLink RJ1 9 yJ0_checkIndex_df160 ∈ tc_tb := tc_tb2 127 (by decide +kernel) (by decide +kernel)
theorem wm_RJ0_1059 : Cond.methodLink RJ0 1059 yJ3_checkIndex_8e157 ∈ tc_tb := tc_tb2 132 (by decide +kernel) (by decide +kernel)
theorem dJ0_length_8abf5_0 : decode cJ0_length_8abf5 0 = .ok (.aload_n 0, 1) := by decide +kernel
theorem dJ0_length_8abf5_1 : decode cJ0_length_8abf5 1 = .ok (.getfield 9, 3) := by decide +kernel
theorem dJ0_length_8abf5_4 : decode cJ0_length_8abf5 4 = .ok (.arraylength, 1) := by decide +kernel
theorem dJ0_length_8abf5_5 : decode cJ0_length_8abf5 5 = .ok (.aload_n 0, 1) := by decide +kernel
theorem dJ0_length_8abf5_6 : decode cJ0_length_8abf5 6 = .ok (.invokevirtual 335, 3) := by decide +kernel
theorem dJ0_length_8abf5_9 : decode cJ0_length_8abf5 9 = .ok (.ishr, 1) := by decide +kernel
theorem dJ0_length_8abf5_10 : decode cJ0_length_8abf5 10 = .ok (.ireturn, 1) := by decide +kernel
theorem dJ0_coder_7d493_0 : decode cJ0_coder_7d493 0 = .ok (.getstatic 38, 3) := by decide +kernel
theorem dJ0_coder_7d493_3 : decode cJ0_coder_7d493 3 = .ok (.ifCond .eq 10, 3) := by decide +kernel
theorem dJ0_coder_7d493_6 : decode cJ0_coder_7d493 6 = .ok (.aload_n 0, 1) := by decide +kernel
theorem dJ0_coder_7d493_7 : decode cJ0_coder_7d493 7 = .ok (.getfield 15, 3) := by decide +kernel
theorem dJ0_coder_7d493_10 : decode cJ0_coder_7d493 10 = .ok (.goto 4, 3) := by decide +kernel
theorem dJ0_coder_7d493_13 : decode cJ0_coder_7d493 13 = .ok (.iconst 1, 1) := by decide +kernel
theorem dJ0_coder_7d493_14 : decode cJ0_coder_7d493 14 = .ok (.ireturn, 1) := by decide +kernel
theorem dJ0_charAt_5068e_0 : decode cJ0_charAt_5068e 0 = .ok (.aload_n 0, 1) := by decide +kernel
theorem dJ0_charAt_5068e_1 : decode cJ0_charAt_5068e 1 = .ok (.invokevirtual 492, 3) := by decide +kernel
theorem dJ0_charAt_5068e_4 : decode cJ0_charAt_5068e 4 = .ok (.ifCond .eq 12, 3) := by decide +kernel
theorem dJ0_charAt_5068e_7 : decode cJ0_charAt_5068e 7 = .ok (.aload_n 0, 1) := by decide +kernel
theorem dJ0_charAt_5068e_8 : decode cJ0_charAt_5068e 8 = .ok (.getfield 9, 3) := by decide +kernel
theorem dJ0_charAt_5068e_11 : decode cJ0_charAt_5068e 11 = .ok (.iload_n 1, 1) := by decide +kernel
theorem dJ0_charAt_5068e_12 : decode cJ0_charAt_5068e 12 = .ok (.invokestatic 495, 3) := by decide +kernel
theorem dJ0_charAt_5068e_15 : decode cJ0_charAt_5068e 15 = .ok (.ireturn, 1) := by decide +kernel
theorem dJ0_charAt_5068e_16 : decode cJ0_charAt_5068e 16 = .ok (.aload_n 0, 1) := by decide +kernel
theorem dJ0_charAt_5068e_17 : decode cJ0_charAt_5068e 17 = .ok (.getfield 9, 3) := by decide +kernel
theorem dJ0_charAt_5068e_20 : decode cJ0_charAt_5068e 20 = .ok (.iload_n 1, 1) := by decide +kernel
theorem dJ0_charAt_5068e_21 : decode cJ0_charAt_5068e 21 = .ok (.invokestatic 498, 3) := by decide +kernel
theorem dJ0_charAt_5068e_24 : decode cJ0_charAt_5068e 24 = .ok (.ireturn, 1) := by decide +kernel
theorem dJ0_isLatin1_aae02_0 : decode cJ0_isLatin1_aae02 0 = .ok (.getstatic 38, 3) := by decide +kernel
theorem dJ0_isLatin1_aae02_3 : decode cJ0_isLatin1_aae02 3 = .ok (.ifCond .eq 14, 3) := by decide +kernel
theorem dJ0_isLatin1_aae02_6 : decode cJ0_isLatin1_aae02 6 = .ok (.aload_n 0, 1) := by decide +kernel
theorem dJ0_isLatin1_aae02_7 : decode cJ0_isLatin1_aae02 7 = .ok (.getfield 15, 3) := by decide +kernel
theorem dJ0_isLatin1_aae02_10 : decode cJ0_isLatin1_aae02 10 = .ok (.ifCond .ne 7, 3) := by decide +kernel
theorem dJ0_isLatin1_aae02_13 : decode cJ0_isLatin1_aae02 13 = .ok (.iconst 1, 1) := by decide +kernel
theorem dJ0_isLatin1_aae02_14 : decode cJ0_isLatin1_aae02 14 = .ok (.goto 4, 3) := by decide +kernel
theorem dJ0_isLatin1_aae02_17 : decode cJ0_isLatin1_aae02 17 = .ok (.iconst 0, 1) := by decide +kernel
theorem dJ0_isLatin1_aae02_18 : decode cJ0_isLatin1_aae02 18 = .ok (.ireturn, 1) := by decide +kernel
theorem dJ1_charAt_3b067_0 : decode cJ1_charAt_3b067 0 = .ok (.iload_n 1, 1) := by decide +kernel
theorem dJ1_charAt_3b067_1 : decode cJ1_charAt_3b067 1 = .ok (.aload_n 0, 1) := by decide +kernel
theorem dJ1_charAt_3b067_2 : decode cJ1_charAt_3b067 2 = .ok (.arraylength, 1) := by decide +kernel
theorem dJ1_charAt_3b067_3 : decode cJ1_charAt_3b067 3 = .ok (.invokestatic 9, 3) := by decide +kernel
theorem dJ1_charAt_3b067_6 : decode cJ1_charAt_3b067 6 = .ok (.aload_n 0, 1) := by decide +kernel
theorem dJ1_charAt_3b067_7 : decode cJ1_charAt_3b067 7 = .ok (.iload_n 1, 1) := by decide +kernel
theorem dJ1_charAt_3b067_8 : decode cJ1_charAt_3b067 8 = .ok (.baload, 1) := by decide +kernel
theorem dJ1_charAt_3b067_9 : decode cJ1_charAt_3b067 9 = .ok (.sipush 255, 3) := by decide +kernel
theorem dJ1_charAt_3b067_12 : decode cJ1_charAt_3b067 12 = .ok (.iand, 1) := by decide +kernel
theorem dJ1_charAt_3b067_13 : decode cJ1_charAt_3b067 13 = .ok (.i2c, 1) := by decide +kernel
theorem dJ1_charAt_3b067_14 : decode cJ1_charAt_3b067 14 = .ok (.ireturn, 1) := by decide +kernel
theorem dJ0_checkIndex_df160_0 : decode cJ0_checkIndex_df160 0 = .ok (.iload_n 0, 1) := by decide +kernel
theorem dJ0_checkIndex_df160_1 : decode cJ0_checkIndex_df160 1 = .ok (.iload_n 1, 1) := by decide +kernel
theorem dJ0_checkIndex_df160_2 : decode cJ0_checkIndex_df160 2 = .ok (.getstatic 1053, 3) := by decide +kernel
theorem dJ0_checkIndex_df160_5 : decode cJ0_checkIndex_df160 5 = .ok (.invokestatic 1059, 3) := by decide +kernel
theorem dJ0_checkIndex_df160_8 : decode cJ0_checkIndex_df160 8 = .ok (.pop, 1) := by decide +kernel
theorem dJ0_checkIndex_df160_9 : decode cJ0_checkIndex_df160 9 = .ok (.return_, 1) := by decide +kernel
theorem dJ3_checkIndex_8e157_0 : decode cJ3_checkIndex_8e157 0 = .ok (.iload_n 0, 1) := by decide +kernel
theorem dJ3_checkIndex_8e157_1 : decode cJ3_checkIndex_8e157 1 = .ok (.ifCond .lt 8, 3) := by decide +kernel
theorem dJ3_checkIndex_8e157_4 : decode cJ3_checkIndex_8e157 4 = .ok (.iload_n 0, 1) := by decide +kernel
theorem dJ3_checkIndex_8e157_5 : decode cJ3_checkIndex_8e157 5 = .ok (.iload_n 1, 1) := by decide +kernel
theorem dJ3_checkIndex_8e157_6 : decode cJ3_checkIndex_8e157 6 = .ok (.if_icmp .lt 10, 3) := by decide +kernel
theorem dJ3_checkIndex_8e157_9 : decode cJ3_checkIndex_8e157 9 = .ok (.aload_n 2, 1) := by decide +kernel
theorem dJ3_checkIndex_8e157_10 : decode cJ3_checkIndex_8e157 10 = .ok (.iload_n 0, 1) := by decide +kernel
theorem dJ3_checkIndex_8e157_11 : decode cJ3_checkIndex_8e157 11 = .ok (.iload_n 1, 1) := by decide +kernel
theorem dJ3_checkIndex_8e157_12 : decode cJ3_checkIndex_8e157 12 = .ok (.invokestatic 95, 3) := by decide +kernel
theorem dJ3_checkIndex_8e157_15 : decode cJ3_checkIndex_8e157 15 = .ok (.athrow, 1) := by decide +kernel
theorem dJ3_checkIndex_8e157_16 : decode cJ3_checkIndex_8e157 16 = .ok (.iload_n 0, 1) := by decide +kernel
theorem dJ3_checkIndex_8e157_17 : decode cJ3_checkIndex_8e157 17 = .ok (.ireturn, 1) := by decide +kernel
/-! texts: length() and charAt() of the constants -/
section TCSTR
variable {R : Room} {cc : ByteArray} {nL : Nat} {own : String} {Z : tc_Z} {pc : Nat} {k : tc_B}
def tb_sval (k : tc_B) : tc_B := fun L K S => match K with
  | .inr (.inr (3, i)) :: r => i < 10 ∧ k L (.inr (.inr (6, i)) :: r) S
  | _ => False
theorem to_sval {ix : Nat} (X : tc_Cx R cc nL own Z) (hw : Cond.fieldLink own ix "java/lang/String" "value" "[B" ∈ tc_tb) (hd : decode cc pc = .ok (.getfield ix, 3)) (h : tc_Ok nL Z (pc + 3) k) : tc_Ok nL Z pc (tb_sval k) := by
  obtain ⟨p, l, e, R', s, m, args, below, meth, c, n, Q, Ts, D, ad, cA, A⟩ := Z
  obtain ⟨rfl, ⟨hx, hb, hml, hown, hts⟩, hK, hA, hSt, hTs, hn⟩ := X
  intro L K S hb9 H locs ls hP hD hS hl
  simp only [tb_sval] at hb9
  split at hb9
  · exact vk_getf hx hb (hSt.2.2.2.1.1 _ hb9.1).2.2.1 hS hown (hts _ (hTs _ hw)) (fun _ h9 => h9) hd (h _ _ _ hb9.2 H locs ls hP hD hS hl)
  · exact hb9.elim
def tb_scod (k : tc_B) : tc_B := fun L K S => match K with
  | .inr (.inr (3, i)) :: r => i < 10 ∧ k L (.inl 0 :: r) S
  | _ => False
theorem to_scod {ix : Nat} (X : tc_Cx R cc nL own Z) (hw : Cond.fieldLink own ix "java/lang/String" "coder" "B" ∈ tc_tb) (hd : decode cc pc = .ok (.getfield ix, 3)) (h : tc_Ok nL Z (pc + 3) k) : tc_Ok nL Z pc (tb_scod k) := by
  obtain ⟨p, l, e, R', s, m, args, below, meth, c, n, Q, Ts, D, ad, cA, A⟩ := Z
  obtain ⟨rfl, ⟨hx, hb, hml, hown, hts⟩, hK, hA, hSt, hTs, hn⟩ := X
  intro L K S hb9 H locs ls hP hD hS hl
  simp only [tb_scod] at hb9
  split at hb9
  · exact vk_getf hx hb (hSt.2.2.2.1.1 _ hb9.1).2.1 hS hown (hts _ (hTs _ hw)) (fun _ h9 => h9) hd (h _ _ _ hb9.2 H locs ls hP hD hS hl)
  · exact hb9.elim
def tb_blen (k : tc_B) : tc_B := fun L K S => match K with
  | .inr (.inr (6, i)) :: r => i < 10 ∧ k L (.inl (nI (tc_len.getD i 0)) :: r) S
  | _ => False
theorem to_blen (X : tc_Cx R cc nL own Z) (hd : decode cc pc = .ok (.arraylength, 1)) (h : tc_Ok nL Z (pc + 1) k) : tc_Ok nL Z pc (tb_blen k) := by
  obtain ⟨p, l, e, R', s, m, args, below, meth, c, n, Q, Ts, D, ad, cA, A⟩ := Z
  obtain ⟨rfl, ⟨hx, hb, hml, hown, hts⟩, hK, hA, hSt, hTs, hn⟩ := X
  intro L K S hb9 H locs ls hP hD hS hl
  simp only [tb_blen] at hb9
  split at hb9
  · exact va_tlen hx hb (hSt.2.2.2.1.1 _ hb9.1).2.2.2 hS rfl hd (h _ _ _ hb9.2 H locs ls hP hD hS hl)
  · exact hb9.elim
def tb_bald (k : tc_B) : tc_B := fun L K S => match K with
  | .inl x :: .inr (.inr (6, i)) :: r => i < 10 ∧ vp_in x (tc_len.getD i 0) ∧ k L (.inl ((tc_byt.getD i []).getD x.toNatClampNeg 0) :: r) S
  | _ => False
theorem to_bald (X : tc_Cx R cc nL own Z) (hd : decode cc pc = .ok (.baload, 1)) (h : tc_Ok nL Z (pc + 1) k) : tc_Ok nL Z pc (tb_bald k) := by
  obtain ⟨p, l, e, R', s, m, args, below, meth, c, n, Q, Ts, D, ad, cA, A⟩ := Z
  obtain ⟨rfl, ⟨hx, hb, hml, hown, hts⟩, hK, hA, hSt, hTs, hn⟩ := X
  intro L K S hb9 H locs ls hP hD hS hl
  simp only [tb_bald] at hb9
  split at hb9
  · exact va_tb hx hb (hSt.2.2.2.1.1 _ hb9.1).2.2.2 hS hb9.2.1 rfl hd (h _ _ _ hb9.2.2 H locs ls hP hD hS hl)
  · exact hb9.elim
def tb_ishr (k : tc_B) : tc_B := tb_ii (fun x y => x >>> (y &&& 31)) k
theorem to_ishr (X : tc_Cx R cc nL own Z) (hd : decode cc pc = .ok (.ishr, 1)) (h : tc_Ok nL Z (pc + 1) k) : tc_Ok nL Z pc (tb_ishr k) := by
  obtain ⟨p, l, e, R', s, m, args, below, meth, c, n, Q, Ts, D, ad, cA, A⟩ := Z
  obtain ⟨rfl, ⟨hx, hb, hml, hown, hts⟩, hK, hA, hSt, hTs, hn⟩ := X
  intro L K S hb9 H locs ls hP hD hS hl
  simp only [tb_ishr, tb_ii] at hb9
  split at hb9
  · exact lv_ishr hx hb hd (h _ _ _ hb9 H locs ls hP hD hS hl)
  · exact hb9.elim
def tb_i2c (k : tc_B) : tc_B := fun L K S => match K with
  | .inl x :: r => k L (.inl (x.toUInt32 % 65536).toInt32 :: r) S
  | _ => False
theorem to_i2c (X : tc_Cx R cc nL own Z) (hd : decode cc pc = .ok (.i2c, 1)) (h : tc_Ok nL Z (pc + 1) k) : tc_Ok nL Z pc (tb_i2c k) := by
  obtain ⟨p, l, e, R', s, m, args, below, meth, c, n, Q, Ts, D, ad, cA, A⟩ := Z
  obtain ⟨rfl, ⟨hx, hb, hml, hown, hts⟩, hK, hA, hSt, hTs, hn⟩ := X
  intro L K S hb9 H locs ls hP hD hS hl
  simp only [tb_i2c] at hb9
  split at hb9
  · exact lv_i2c hx hb hd rfl (h _ _ _ hb9 H locs ls hP hD hS hl)
  · exact hb9.elim
end TCSTR

theorem c_pre9 (l : Launch) (D : va_G) (ad : Nat → Nat → Nat) (cA : Nat → ClassId) (S : tc_S) (sz : Nat) (a b : Int32) (v9 : Value) (hv9 : v9 = .null ∨ ∃ t, v9 = .ref t) (h0 : ¬ a < 0) (h1 : a < b) : Met l yJ3_checkIndex_8e157 (Cond.code yJ3_checkIndex_8e157 cJ3_checkIndex_8e157 3 (some .int) :: tc_tb) ({ frames := 0, cells := 0, slots := 0, locals := 0 } : Room) (va_Pc [.int a, .int b, v9] (tc_Pre D ad cA S sz)) (va_Qi (fun _ u => u = S) (tc_Be D ad cA (va_A (tc_W ad cA S) sz)) (va_A (tc_W ad cA S) sz)) 0 0 (va_A (tc_W ad cA S) sz) := by
  refine Met.ofW (cc := cJ3_checkIndex_8e157) (maxL := 3) (ret := (some .int)) (by decide) rfl ?_
  intro p e s m args below meth c s₁ B hml hv
  obtain ⟨rfl, hsz, hP, hK, hD0, hSt⟩ := hv
  subst hsz
  have hx := B.exec
  have hb := B.bytes
  have hr := B.returns
  have hlocks := B.notSynchronized
  have hD := hD0.self (sz := s.heap.size)
  have hS : va_S (va_A (tc_W ad cA S) s.heap.size) s.heap s.heap [] := va_S.rf
  have hl := lv_entry ([.int a, .int b, v9]) (n := 3) (by rcases hv9 with rfl | ⟨t, rfl⟩ <;> simp [lg_sl, Value.category])
  rw [lg_entry_eq]
  generalize (lg_sl ([.int a, .int b, v9]) ++ List.replicate (3 - (lg_sl ([.int a, .int b, v9])).length) Slot.unset).toArray = ls at hl ⊢
  have hl : lv_has ls 3 [(0, .int a), (1, .int b), (2, v9)] := hl
  refine lv_iload_n hx hb dJ3_checkIndex_8e157_0 rfl (lv_at hl 0 rfl) ?_
  refine lv_if_lt (tgt := 9) hx hb dJ3_checkIndex_8e157_1 (by decide) (fun z => absurd z h0) (fun _ => ?_)
  refine lv_iload_n hx hb dJ3_checkIndex_8e157_4 rfl (lv_at hl 0 rfl) ?_
  refine lv_iload_n hx hb dJ3_checkIndex_8e157_5 rfl (lv_at hl 1 rfl) ?_
  refine lv_icmp_lt (tgt := 16) hx hb dJ3_checkIndex_8e157_6 (by decide) (fun _ => ?_) (fun z => absurd h1 z)
  refine lv_iload_n hx hb dJ3_checkIndex_8e157_16 rfl (lv_at hl 0 rfl) ?_
  exact W.iret (v := a) hx hb hr (fun t ht hW => ⟨⟨a, S, rfl, rfl, by rw [ht]; exact hP, va_K.moved hW.alike hK, hD⟩, hS.F ht⟩) hS.2.2 dJ3_checkIndex_8e157_17
def RJ0_checkIndex_df160 (vs : List tc_V) (S : tc_S) (q : tc_Q) : Prop := match vs with
  | [.inl a, .inl b] => (¬ a < 0 ∧ a < b) ∧ q none S
  | _ => False
theorem metJ0_checkIndex_df160 : tc_Met yJ0_checkIndex_df160 (Cond.code yJ0_checkIndex_df160 cJ0_checkIndex_df160 2 none) ({ frames := 1, cells := 0, slots := 0, locals := 22 } : Room) 3 2 RJ0_checkIndex_df160 := by
  refine tc_met (rk := 3) (by decide) ⟨rfl, rfl⟩ ?_
  intro Z q X hr vs S h
  simp only [RJ0_checkIndex_df160] at h
  split at h
  · rename_i a b
    obtain ⟨⟨h0, h1⟩, hq⟩ := h
    have hret := hr 9 [(0, .inl a), (1, .inl b)] S hq dJ0_checkIndex_df160_9
    obtain ⟨p, l, e, R', s, m, args, below, meth, c, n, Q, Ts, D, ad, cA, A⟩ := Z
    obtain ⟨rfl, ⟨hx, hb, hml, hown, hts⟩, hK, hA, hSt, hTs, hn⟩ := X
    intro H locs ls hP hD hS hl
    have hl : lv_has ls 2 [(0, .int a), (1, .int b)] := hl
    refine lv_iload_n hx hb dJ0_checkIndex_df160_0 rfl (lv_at hl 0 rfl) ?_
    refine lv_iload_n hx hb dJ0_checkIndex_df160_1 rfl (lv_at hl 1 rfl) ?_
    have hF : ∀ q, va_A (tc_W ad cA S) H.size q → A q := by
      intro q hq
      rcases hq with ⟨i, e9, hi⟩ | hq
      · exact hD.2 i (q, e9) hi
      · exact hA q (Nat.le_trans hS.1 hq)
    have go : ∀ v9 : Value, (v9 = .null ∨ ∃ t, v9 = .ref t) → W p l e ({ frames := 1, cells := 0, slots := 0, locals := 22 } : Room) s m args below meth c H locs n.1 n.2 Q (F0 m 5 ls [v9, .int b, .int a]) := by
      intro v9 hv9
      refine va_calli (a := [.int a, .int b, v9].toArray) (va_runS (As := [.int a, .int b, v9]) (rest := []) (maxL := 3) (ret := some .int) (bytes := cJ3_checkIndex_8e157) ⟨hx, hb, hml, hown, hts⟩ (c_pre9 l D ad cA S H.size a b v9 hv9 h0 h1) ⟨callB_of 3 hts (tc_goodIn hTs wc_J3_checkIndex_8e157) rfl rfl rfl (hts _ (hTs _ wn_RJ3)) (hts _ (hTs _ wm_RJ0_1059)) ⟨by decide +kernel, by decide +kernel, by decide +kernel⟩ ⟨by decide, by decide⟩, hts _ (hTs _ ws_J3_checkIndex_8e157)⟩ ⟨?_, fun U hU hW => ⟨rfl, tc_pre (args := args) hK hA hSt hP hD hS hU hW⟩⟩ rfl rfl hl.1 rfl (lv_room (Nat.le_of_ble_eq_true rfl)) dJ0_checkIndex_df160_5 ⟨hn.1, hn.2⟩) hS (fun q _ h9 => hF q h9) hF (fun r u t H1 locs1 ht hvm hw hB hz1 hk1 hS1 => ?_)
      · exact tc_blind (l := l)
      · obtain ⟨b1, b2, b3⟩ := hB
        rw [ht, hw] at b1
        rw [hw] at b3
        refine lv_pop hx hb dJ0_checkIndex_df160_8 rfl ?_
        exact hret H1 locs1 ls b1 (b3.weaken (fun _ _ _ h9 => hF _ h9)) hS1 hl
    rcases hSt.2.2.2.2.2.2.2.2.2 with hz | ⟨t, hz⟩
    · exact va_gets hx hb hz hS hown (hts _ (hTs _ wf_RJ0_1053)) (fun _ h9 => h9) dJ0_checkIndex_df160_2 (go .null (Or.inl rfl))
    · exact va_gets hx hb hz hS hown (hts _ (hTs _ wf_RJ0_1053)) (fun _ h9 => h9) dJ0_checkIndex_df160_2 (go (.ref t) (Or.inr ⟨t, rfl⟩))
  · exact h.elim
def bkJ0_coder_7d493_0 (q : tc_Q) : tc_B := tb_gets (tc_I 1) <| tb_if_eq (tb_i 1 <| tb_bret q) <| tb_aload 0 <| tb_scod <| tb_bret q
theorem okJ0_coder_7d493_0 {Z : tc_Z} {q : tc_Q} (X : tc_Cx ({ frames := 0, cells := 0, slots := 0, locals := 0 } : Room) cJ0_coder_7d493 1 RJ0 Z) (hr : tc_Rt 4 cJ0_coder_7d493 1 Z q) : tc_Ok 1 Z 0 (bkJ0_coder_7d493_0 q) := by
  unfold bkJ0_coder_7d493_0
  refine to_gets (pc := 0) X (List.mem_of_getElem? (i := 12) rfl) wf_RJ0_38 dJ0_coder_7d493_0 ?_
  refine to_if_eq (pc := 3) (tgt := 13) X dJ0_coder_7d493_3 (by decide) ?_ ?_
  · refine to_iconst (pc := 13) X dJ0_coder_7d493_13 (by decide) ?_
    exact to_bret (pc := 14) hr dJ0_coder_7d493_14
  refine to_aload_n (pc := 6) X dJ0_coder_7d493_6 rfl ?_
  refine to_scod (pc := 7) X wf_RJ0_15 dJ0_coder_7d493_7 ?_
  refine to_goto (pc := 10) (tgt := 14) X dJ0_coder_7d493_10 (by decide) ?_
  exact to_bret (pc := 14) hr dJ0_coder_7d493_14
def RJ0_coder_7d493 (vs : List tc_V) (S : tc_S) (q : tc_Q) : Prop := match vs with
  | [.inr (.inr (3, i))] => i < 10 ∧ q (some (.inl 0)) S
  | _ => False
theorem metJ0_coder_7d493 : tc_Met yJ0_coder_7d493 (Cond.code yJ0_coder_7d493 cJ0_coder_7d493 1 (some .byte)) ({ frames := 0, cells := 0, slots := 0, locals := 0 } : Room) 4 1 RJ0_coder_7d493 := tc_met (rk := 4) (by decide) ⟨rfl, rfl⟩ (fun Z q X hr vs S h => by
  simp only [RJ0_coder_7d493] at h
  split at h
  · exact okJ0_coder_7d493_0 X hr _ _ _ (show (_ → _) ∧ (_ → _) from ⟨fun z => absurd z (by decide), fun _ => ⟨h.1, by decide +kernel, h.2⟩⟩)
  · exact h.elim)
def bkJ0_isLatin1_aae02_0 (q : tc_Q) : tc_B := tb_gets (tc_I 1) <| tb_if_eq (tb_i 0 <| tb_zret q) <| tb_aload 0 <| tb_scod <| tb_if_ne (tb_i 0 <| tb_zret q) <| tb_i 1 <| tb_zret q
theorem okJ0_isLatin1_aae02_0 {Z : tc_Z} {q : tc_Q} (X : tc_Cx ({ frames := 0, cells := 0, slots := 0, locals := 0 } : Room) cJ0_isLatin1_aae02 1 RJ0 Z) (hr : tc_Rt 1 cJ0_isLatin1_aae02 1 Z q) : tc_Ok 1 Z 0 (bkJ0_isLatin1_aae02_0 q) := by
  unfold bkJ0_isLatin1_aae02_0
  refine to_gets (pc := 0) X (List.mem_of_getElem? (i := 12) rfl) wf_RJ0_38 dJ0_isLatin1_aae02_0 ?_
  refine to_if_eq (pc := 3) (tgt := 17) X dJ0_isLatin1_aae02_3 (by decide) ?_ ?_
  · refine to_iconst (pc := 17) X dJ0_isLatin1_aae02_17 (by decide) ?_
    exact to_zret (pc := 18) hr dJ0_isLatin1_aae02_18
  refine to_aload_n (pc := 6) X dJ0_isLatin1_aae02_6 rfl ?_
  refine to_scod (pc := 7) X wf_RJ0_15 dJ0_isLatin1_aae02_7 ?_
  refine to_if_ne (pc := 10) (tgt := 17) X dJ0_isLatin1_aae02_10 (by decide) ?_ ?_
  · refine to_iconst (pc := 17) X dJ0_isLatin1_aae02_17 (by decide) ?_
    exact to_zret (pc := 18) hr dJ0_isLatin1_aae02_18
  refine to_iconst (pc := 13) X dJ0_isLatin1_aae02_13 (by decide) ?_
  refine to_goto (pc := 14) (tgt := 18) X dJ0_isLatin1_aae02_14 (by decide) ?_
  exact to_zret (pc := 18) hr dJ0_isLatin1_aae02_18
def RJ0_isLatin1_aae02 (vs : List tc_V) (S : tc_S) (q : tc_Q) : Prop := match vs with
  | [.inr (.inr (3, i))] => i < 10 ∧ q (some (.inl 1)) S
  | _ => False
theorem metJ0_isLatin1_aae02 : tc_Met yJ0_isLatin1_aae02 (Cond.code yJ0_isLatin1_aae02 cJ0_isLatin1_aae02 1 (some .boolean)) ({ frames := 0, cells := 0, slots := 0, locals := 0 } : Room) 1 1 RJ0_isLatin1_aae02 := tc_met (rk := 1) (by decide) ⟨rfl, rfl⟩ (fun Z q X hr vs S h => by
  simp only [RJ0_isLatin1_aae02] at h
  split at h
  · exact okJ0_isLatin1_aae02_0 X hr _ _ _ (show (_ → _) ∧ (_ → _) from ⟨fun z => absurd z (by decide), fun _ => ⟨h.1, (show (_ → _) ∧ (_ → _) from ⟨fun _ => ⟨by decide +kernel, h.2⟩, fun z => absurd rfl z⟩)⟩⟩)
  · exact h.elim)
def bkJ0_length_8abf5_0 (q : tc_Q) : tc_B := tb_aload 0 <| tb_sval <| tb_blen <| tb_aload 0 <| tb_callE 0 1 3 10 RJ0_coder_7d493 <| tb_ishr <| tb_iret q
theorem okJ0_length_8abf5_0 {Z : tc_Z} {q : tc_Q} (X : tc_Cx ({ frames := 1, cells := 0, slots := 0, locals := 20 } : Room) cJ0_length_8abf5 1 RJ0 Z) (hr : tc_Rt 0 cJ0_length_8abf5 1 Z q) : tc_Ok 1 Z 0 (bkJ0_length_8abf5_0 q) := by
  unfold bkJ0_length_8abf5_0
  refine to_aload_n (pc := 0) X dJ0_length_8abf5_0 rfl ?_
  refine to_sval (pc := 1) X wf_RJ0_9 dJ0_length_8abf5_1 ?_
  refine to_blen (pc := 4) X dJ0_length_8abf5_4 ?_
  refine to_aload_n (pc := 5) X dJ0_length_8abf5_5 rfl ?_
  refine to_callE (pc := 6) X metJ0_coder_7d493 (Or.inr (Or.inr ⟨rfl, rfl, rfl⟩)) ⟨rfl, rfl⟩ (by decide) wm_RJ0_335 wi_J0_coder_7d493 wl_J0_coder_7d493 wn_RJ0 wc_J0_coder_7d493 ⟨by decide +kernel, by decide +kernel, by decide +kernel, by decide +kernel⟩ dJ0_length_8abf5_6 ?_
  refine to_ishr (pc := 9) X dJ0_length_8abf5_9 ?_
  exact to_iret (pc := 10) hr dJ0_length_8abf5_10
def RJ0_length_8abf5 (vs : List tc_V) (S : tc_S) (q : tc_Q) : Prop := match vs with
  | [.inr (.inr (3, i))] => i < 10 ∧ q (some (.inl (nI (tc_len.getD i 0)))) S
  | _ => False
theorem tc_len_lt : ∀ i, i < 10 → tc_len.getD i 0 < 2 ^ 31 := by decide
theorem metJ0_length_8abf5 : tc_Met yJ0_length_8abf5 (Cond.code yJ0_length_8abf5 cJ0_length_8abf5 1 (some .int)) ({ frames := 1, cells := 0, slots := 0, locals := 20 } : Room) 0 1 RJ0_length_8abf5 := tc_met (rk := 0) (by decide) ⟨rfl, rfl⟩ (fun Z q X hr vs S h => by
  simp only [RJ0_length_8abf5] at h
  split at h
  · rename_i i
    refine okJ0_length_8abf5_0 X hr _ _ _ (show _ ∧ _ from ⟨h.1, (show _ ∧ _ from ⟨h.1, (show _ ∧ _ from ⟨h.1, (show _ ∧ _ from ⟨h.1, ?_⟩)⟩)⟩)⟩)
    show q (some (.inl (nI (tc_len.getD i 0) >>> ((0 : Int32) &&& 31)))) S
    rw [sc_shr0 (tc_len_lt i h.1)]
    exact h.2
  · exact h.elim)
def bkJ1_charAt_3b067_0 (q : tc_Q) : tc_B := tb_iload 1 <| tb_aload 0 <| tb_blen <| tb_callS 2 2 RJ0_checkIndex_df160 <| tb_aload 0 <| tb_iload 1 <| tb_bald <| tb_i 255 <| tb_iand <| tb_i2c <| tb_cret q
theorem okJ1_charAt_3b067_0 {Z : tc_Z} {q : tc_Q} (X : tc_Cx ({ frames := 2, cells := 0, slots := 0, locals := 43 } : Room) cJ1_charAt_3b067 2 RJ1 Z) (hr : tc_Rt 5 cJ1_charAt_3b067 2 Z q) : tc_Ok 2 Z 0 (bkJ1_charAt_3b067_0 q) := by
  unfold bkJ1_charAt_3b067_0
  refine to_iload_n (pc := 0) X dJ1_charAt_3b067_0 rfl ?_
  refine to_aload_n (pc := 1) X dJ1_charAt_3b067_1 rfl ?_
  refine to_blen (pc := 2) X dJ1_charAt_3b067_2 ?_
  refine to_callS (pc := 3) X metJ0_checkIndex_df160 ⟨rfl, rfl⟩ (by decide) wm_RJ1_9 ws_J0_checkIndex_df160 wn_RJ0 wc_J0_checkIndex_df160 ⟨by decide +kernel, by decide +kernel, by decide +kernel⟩ dJ1_charAt_3b067_3 ?_
  refine to_aload_n (pc := 6) X dJ1_charAt_3b067_6 rfl ?_
  refine to_iload_n (pc := 7) X dJ1_charAt_3b067_7 rfl ?_
  refine to_bald (pc := 8) X dJ1_charAt_3b067_8 ?_
  refine to_sipush (pc := 9) X dJ1_charAt_3b067_9 (by decide) ?_
  refine to_iand (pc := 12) X dJ1_charAt_3b067_12 ?_
  refine to_i2c (pc := 13) X dJ1_charAt_3b067_13 ?_
  exact to_cret (pc := 14) hr dJ1_charAt_3b067_14
def tc_ch (i k : Nat) : Int32 := (tc_byt.getD i []).getD k 0
theorem tc_ch_and : ∀ i, i < 10 → ∀ k, k < tc_len.getD i 0 → tc_ch i k &&& 255 = tc_ch i k := by decide
def RJ1_charAt_3b067 (vs : List tc_V) (S : tc_S) (q : tc_Q) : Prop := match vs with
  | [.inr (.inr (6, i)), .inl x] => i < 10 ∧ vp_in x (tc_len.getD i 0) ∧ q (some (.inl (tc_ch i x.toNatClampNeg))) S
  | _ => False
theorem tc_in_lt {x : Int32} {n : Nat} (h : vp_in x n) (hn : n < 2 ^ 31) : ¬ x < 0 ∧ x < nI n ∧ x.toNatClampNeg < n := by
  obtain ⟨j, hj, rfl⟩ := vp_in_of h hn
  exact ⟨nI_pos (by omega), nI_lt hj hn, by rw [nI_clamp (by omega)]; exact hj⟩
theorem metJ1_charAt_3b067 : tc_Met yJ1_charAt_3b067 (Cond.code yJ1_charAt_3b067 cJ1_charAt_3b067 2 (some .char)) ({ frames := 2, cells := 0, slots := 0, locals := 43 } : Room) 5 2 RJ1_charAt_3b067 := tc_met (rk := 5) (by decide) ⟨rfl, rfl⟩ (fun Z q X hr vs S h => by
  simp only [RJ1_charAt_3b067] at h
  split at h
  · rename_i i x
    obtain ⟨hi, hx, hq⟩ := h
    obtain ⟨g1, g2, g3⟩ := tc_in_lt hx (tc_len_lt i hi)
    have e1 : tc_ch i x.toNatClampNeg &&& 255 = tc_ch i x.toNatClampNeg := tc_ch_and i hi _ g3
    refine okJ1_charAt_3b067_0 X hr _ _ _ (show _ ∧ _ from ⟨hi, (show (_ ∧ _) ∧ _ from ⟨⟨g1, g2⟩, (show _ ∧ _ ∧ _ from ⟨hi, hx, ?_⟩)⟩)⟩)
    show narrow .char (.int (((tc_ch i x.toNatClampNeg &&& 255).toUInt32 % 65536).toInt32)) = .int (((tc_ch i x.toNatClampNeg &&& 255).toUInt32 % 65536).toInt32) ∧ q (some (.inl (((tc_ch i x.toNatClampNeg &&& 255).toUInt32 % 65536).toInt32))) S
    rw [sc_c2]
    refine ⟨sc_nar _, ?_⟩
    rw [e1]
    exact hq
  · exact h.elim)
def bkJ0_charAt_5068e_0 (q : tc_Q) : tc_B := tb_aload 0 <| tb_callE 0 1 3 10 RJ0_isLatin1_aae02 <| tb_if_eq (fun _ _ _ => False) <| tb_aload 0 <| tb_sval <| tb_iload 1 <| tb_callS 2 2 RJ1_charAt_3b067 <| tb_cret q
theorem okJ0_charAt_5068e_0 {Z : tc_Z} {q : tc_Q} (X : tc_Cx ({ frames := 3, cells := 0, slots := 0, locals := 66 } : Room) cJ0_charAt_5068e 2 RJ0 Z) (hr : tc_Rt 5 cJ0_charAt_5068e 2 Z q) : tc_Ok 2 Z 0 (bkJ0_charAt_5068e_0 q) := by
  unfold bkJ0_charAt_5068e_0
  refine to_aload_n (pc := 0) X dJ0_charAt_5068e_0 rfl ?_
  refine to_callE (pc := 1) X metJ0_isLatin1_aae02 (Or.inr (Or.inr ⟨rfl, rfl, rfl⟩)) ⟨rfl, rfl⟩ (by decide) wm_RJ0_492 wi_J0_isLatin1_aae02 wl_J0_isLatin1_aae02 wn_RJ0 wc_J0_isLatin1_aae02 ⟨by decide +kernel, by decide +kernel, by decide +kernel, by decide +kernel⟩ dJ0_charAt_5068e_1 ?_
  refine to_if_eq (pc := 4) (tgt := 16) X dJ0_charAt_5068e_4 (by decide) (fun _ _ _ h => h.elim) ?_
  refine to_aload_n (pc := 7) X dJ0_charAt_5068e_7 rfl ?_
  refine to_sval (pc := 8) X wf_RJ0_9 dJ0_charAt_5068e_8 ?_
  refine to_iload_n (pc := 11) X dJ0_charAt_5068e_11 rfl ?_
  refine to_callS (pc := 12) X metJ1_charAt_3b067 ⟨rfl, rfl⟩ (by decide) wm_RJ0_495 ws_J1_charAt_3b067 wn_RJ1 wc_J1_charAt_3b067 ⟨by decide +kernel, by decide +kernel, by decide +kernel⟩ dJ0_charAt_5068e_12 ?_
  exact to_cret (pc := 15) hr dJ0_charAt_5068e_15
def RJ0_charAt_5068e (vs : List tc_V) (S : tc_S) (q : tc_Q) : Prop := match vs with
  | [.inr (.inr (3, i)), .inl x] => i < 10 ∧ vp_in x (tc_len.getD i 0) ∧ q (some (.inl (tc_ch i x.toNatClampNeg))) S
  | _ => False
theorem metJ0_charAt_5068e : tc_Met yJ0_charAt_5068e (Cond.code yJ0_charAt_5068e cJ0_charAt_5068e 2 (some .char)) ({ frames := 3, cells := 0, slots := 0, locals := 66 } : Room) 5 2 RJ0_charAt_5068e := tc_met (rk := 5) (by decide) ⟨rfl, rfl⟩ (fun Z q X hr vs S h => by
  simp only [RJ0_charAt_5068e] at h
  split at h
  · rename_i i x
    obtain ⟨hi, hx, hq⟩ := h
    obtain ⟨g1, g2, g3⟩ := tc_in_lt hx (tc_len_lt i hi)
    have e1 : tc_ch i x.toNatClampNeg &&& 255 = tc_ch i x.toNatClampNeg := tc_ch_and i hi _ g3
    refine okJ0_charAt_5068e_0 X hr _ _ _ (show _ ∧ _ ∧ _ from ⟨hi, hi, (show (_ → _) ∧ (_ → _) from ⟨fun z => absurd z (by decide), fun _ => (show _ ∧ _ from ⟨hi, (show _ ∧ _ ∧ _ from ⟨hi, hx, ?_⟩)⟩)⟩)⟩)
    show narrow .char (.int (tc_ch i x.toNatClampNeg)) = .int (tc_ch i x.toNatClampNeg) ∧ q (some (.inl (tc_ch i x.toNatClampNeg))) S
    refine ⟨?_, hq⟩
    rw [← e1]
    exact sc_nar _
  · exact h.elim)
theorem cvJ0_length_8abf5 {R : Room} {cc : ByteArray} {nL pc ix : Nat} {own : String} {Z : tc_Z} {k : tc_B} (X : tc_Cx R cc nL own Z) (h1 : Cond.methodLink own ix yJ0_length_8abf5 ∈ tc_tb) (hR : 1 + 1 ≤ R.frames ∧ 8 + (1 + 11) + 20 ≤ R.locals) (hd : decode cc pc = .ok (.invokevirtual ix, 3)) (h : tc_Ok nL Z (pc + 3) k) : tc_Ok nL Z pc (tb_callE 0 1 3 10 RJ0_length_8abf5 k) := to_callE X metJ0_length_8abf5 (Or.inr (Or.inr ⟨rfl, rfl, rfl⟩)) ⟨rfl, rfl⟩ hR h1 wi_J0_length_8abf5 wl_J0_length_8abf5 wn_RJ0 wc_J0_length_8abf5 ⟨by decide +kernel, by decide +kernel, by decide +kernel, by decide +kernel⟩ hd h
theorem cvJ0_charAt_5068e {R : Room} {cc : ByteArray} {nL pc ix : Nat} {own : String} {Z : tc_Z} {k : tc_B} (X : tc_Cx R cc nL own Z) (h1 : Cond.methodLink own ix yJ0_charAt_5068e ∈ tc_tb) (hR : 3 + 1 ≤ R.frames ∧ 8 + (2 + 11) + 66 ≤ R.locals) (hd : decode cc pc = .ok (.invokevirtual ix, 3)) (h : tc_Ok nL Z (pc + 3) k) : tc_Ok nL Z pc (tb_callE 1 2 3 10 RJ0_charAt_5068e k) := to_callE X metJ0_charAt_5068e (Or.inr (Or.inr ⟨rfl, rfl, rfl⟩)) ⟨rfl, rfl⟩ hR h1 wi_J0_charAt_5068e wl_J0_charAt_5068e wn_RJ0 wc_J0_charAt_5068e ⟨by decide +kernel, by decide +kernel, by decide +kernel, by decide +kernel⟩ hd h
end
