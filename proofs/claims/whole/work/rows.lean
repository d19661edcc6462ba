section
-- ===== PART A: goes FIRST, ahead of the names: the tables' words, and 'selects' of the private methods out of them =====
/-- a private method of a class that the tables say can be made, by its rows of tables_1 -/
def lw_okq (q : MethodName × Nat) : Prop := (q.1.cls ≠ "java/lang/invoke/MethodHandle" ∧ q.1.cls ≠ "java/lang/invoke/VarHandle") ∧ Cond.instantiable q.1.cls q.2 ∈ tables_1 ∧ Cond.privateMethod q.1 ∈ tables_1 ∧ Cond.instanceMethod q.1 ∈ tables_1
theorem lw_p0 : lw_okq (⟨"ToldChances$Book", "mixedChance", "(I)I"⟩, 3) := ⟨⟨by decide +kernel, by decide +kernel⟩, List.mem_of_getElem? (i := 29) (by decide +kernel), List.mem_of_getElem? (i := 305) (by decide +kernel), List.mem_of_getElem? (i := 306) (by decide +kernel)⟩
theorem lw_p1 : lw_okq (⟨"ToldChances$LineReader", "readNumber", "(LToldChances$Tape;II)Z"⟩, 3) := ⟨⟨by decide +kernel, by decide +kernel⟩, List.mem_of_getElem? (i := 63) (by decide +kernel), List.mem_of_getElem? (i := 401) (by decide +kernel), List.mem_of_getElem? (i := 402) (by decide +kernel)⟩
theorem lw_p2 : lw_okq (⟨"ToldChances", "perform", "(LToldChances$Command;)I"⟩, 14) := ⟨⟨by decide +kernel, by decide +kernel⟩, List.mem_of_getElem? (i := 21) (by decide +kernel), List.mem_of_getElem? (i := 405) (by decide +kernel), List.mem_of_getElem? (i := 406) (by decide +kernel)⟩
theorem lw_p3 : lw_okq (⟨"ToldChances", "findMeanMiss", "(I)Z"⟩, 14) := ⟨⟨by decide +kernel, by decide +kernel⟩, List.mem_of_getElem? (i := 21) (by decide +kernel), List.mem_of_getElem? (i := 459) (by decide +kernel), List.mem_of_getElem? (i := 460) (by decide +kernel)⟩
theorem lw_p4 : lw_okq (⟨"ToldChances", "tellersAheadOf", "(I)I"⟩, 14) := ⟨⟨by decide +kernel, by decide +kernel⟩, List.mem_of_getElem? (i := 21) (by decide +kernel), List.mem_of_getElem? (i := 497) (by decide +kernel), List.mem_of_getElem? (i := 498) (by decide +kernel)⟩
theorem lw_p5 : lw_okq (⟨"ToldChances", "leastBest", "(I)I"⟩, 14) := ⟨⟨by decide +kernel, by decide +kernel⟩, List.mem_of_getElem? (i := 21) (by decide +kernel), List.mem_of_getElem? (i := 505) (by decide +kernel), List.mem_of_getElem? (i := 506) (by decide +kernel)⟩
theorem lw_p6 : lw_okq (⟨"ToldChances", "believedMiss", "(II)I"⟩, 14) := ⟨⟨by decide +kernel, by decide +kernel⟩, List.mem_of_getElem? (i := 21) (by decide +kernel), List.mem_of_getElem? (i := 509) (by decide +kernel), List.mem_of_getElem? (i := 510) (by decide +kernel)⟩
theorem lw_p7 : lw_okq (⟨"ToldChances", "countHonest", "()I"⟩, 14) := ⟨⟨by decide +kernel, by decide +kernel⟩, List.mem_of_getElem? (i := 21) (by decide +kernel), List.mem_of_getElem? (i := 517) (by decide +kernel), List.mem_of_getElem? (i := 518) (by decide +kernel)⟩
theorem lw_p8 : lw_okq (⟨"ToldChances$Bins", "removeCut", "(I)V"⟩, 7) := ⟨⟨by decide +kernel, by decide +kernel⟩, List.mem_of_getElem? (i := 112) (by decide +kernel), List.mem_of_getElem? (i := 533) (by decide +kernel), List.mem_of_getElem? (i := 534) (by decide +kernel)⟩
theorem lw_p9 : lw_okq (⟨"ToldChances$Bins", "insertCut", "(II)V"⟩, 7) := ⟨⟨by decide +kernel, by decide +kernel⟩, List.mem_of_getElem? (i := 112) (by decide +kernel), List.mem_of_getElem? (i := 537) (by decide +kernel), List.mem_of_getElem? (i := 538) (by decide +kernel)⟩
theorem lw_p10 : lw_okq (⟨"ToldChances", "sortCases", "(I)Z"⟩, 14) := ⟨⟨by decide +kernel, by decide +kernel⟩, List.mem_of_getElem? (i := 21) (by decide +kernel), List.mem_of_getElem? (i := 565) (by decide +kernel), List.mem_of_getElem? (i := 566) (by decide +kernel)⟩
theorem lw_p11 : lw_okq (⟨"ToldChances", "joinParts", "()V"⟩, 14) := ⟨⟨by decide +kernel, by decide +kernel⟩, List.mem_of_getElem? (i := 21) (by decide +kernel), List.mem_of_getElem? (i := 569) (by decide +kernel), List.mem_of_getElem? (i := 570) (by decide +kernel)⟩
theorem lw_p12 : lw_okq (⟨"ToldChances$Bins", "binTerm", "(IIJJ)J"⟩, 7) := ⟨⟨by decide +kernel, by decide +kernel⟩, List.mem_of_getElem? (i := 112) (by decide +kernel), List.mem_of_getElem? (i := 578) (by decide +kernel), List.mem_of_getElem? (i := 579) (by decide +kernel)⟩
theorem lw_p13 : lw_okq (⟨"ToldChances$PoolRow", "sortByChance", "(LToldChances$Cases;)V"⟩, 7) := ⟨⟨by decide +kernel, by decide +kernel⟩, List.mem_of_getElem? (i := 144) (by decide +kernel), List.mem_of_getElem? (i := 629) (by decide +kernel), List.mem_of_getElem? (i := 630) (by decide +kernel)⟩
theorem lw_p14 : lw_okq (⟨"ToldChances$PoolRow", "addPool", "(I)V"⟩, 7) := ⟨⟨by decide +kernel, by decide +kernel⟩, List.mem_of_getElem? (i := 144) (by decide +kernel), List.mem_of_getElem? (i := 633) (by decide +kernel), List.mem_of_getElem? (i := 634) (by decide +kernel)⟩
theorem lw_p15 : lw_okq (⟨"ToldChances$PoolRow", "isShareGreater", "(I)Z"⟩, 7) := ⟨⟨by decide +kernel, by decide +kernel⟩, List.mem_of_getElem? (i := 144) (by decide +kernel), List.mem_of_getElem? (i := 637) (by decide +kernel), List.mem_of_getElem? (i := 638) (by decide +kernel)⟩
def lw_privs_1 : List (MethodName × Nat) := [(⟨"ToldChances$Book", "mixedChance", "(I)I"⟩, 3), (⟨"ToldChances$LineReader", "readNumber", "(LToldChances$Tape;II)Z"⟩, 3), (⟨"ToldChances", "perform", "(LToldChances$Command;)I"⟩, 14), (⟨"ToldChances", "findMeanMiss", "(I)Z"⟩, 14), (⟨"ToldChances", "tellersAheadOf", "(I)I"⟩, 14), (⟨"ToldChances", "leastBest", "(I)I"⟩, 14), (⟨"ToldChances", "believedMiss", "(II)I"⟩, 14), (⟨"ToldChances", "countHonest", "()I"⟩, 14), (⟨"ToldChances$Bins", "removeCut", "(I)V"⟩, 7), (⟨"ToldChances$Bins", "insertCut", "(II)V"⟩, 7), (⟨"ToldChances", "sortCases", "(I)Z"⟩, 14), (⟨"ToldChances", "joinParts", "()V"⟩, 14), (⟨"ToldChances$Bins", "binTerm", "(IIJJ)J"⟩, 7), (⟨"ToldChances$PoolRow", "sortByChance", "(LToldChances$Cases;)V"⟩, 7), (⟨"ToldChances$PoolRow", "addPool", "(I)V"⟩, 7), (⟨"ToldChances$PoolRow", "isShareGreater", "(I)Z"⟩, 7)]
theorem lw_r1 : ∀ q ∈ lw_privs_1, lw_okq q := List.forall_mem_cons.mpr ⟨lw_p0, List.forall_mem_cons.mpr ⟨lw_p1, List.forall_mem_cons.mpr ⟨lw_p2, List.forall_mem_cons.mpr ⟨lw_p3, List.forall_mem_cons.mpr ⟨lw_p4, List.forall_mem_cons.mpr ⟨lw_p5, List.forall_mem_cons.mpr ⟨lw_p6, List.forall_mem_cons.mpr ⟨lw_p7, List.forall_mem_cons.mpr ⟨lw_p8, List.forall_mem_cons.mpr ⟨lw_p9, List.forall_mem_cons.mpr ⟨lw_p10, List.forall_mem_cons.mpr ⟨lw_p11, List.forall_mem_cons.mpr ⟨lw_p12, List.forall_mem_cons.mpr ⟨lw_p13, List.forall_mem_cons.mpr ⟨lw_p14, List.forall_mem_cons.mpr ⟨lw_p15, fun _ h => absurd h List.not_mem_nil⟩⟩⟩⟩⟩⟩⟩⟩⟩⟩⟩⟩⟩⟩⟩⟩
theorem lw_p16 : lw_okq (⟨"ToldChances$PoolRow", "mergeDown", "(I)V"⟩, 7) := ⟨⟨by decide +kernel, by decide +kernel⟩, List.mem_of_getElem? (i := 144) (by decide +kernel), List.mem_of_getElem? (i := 641) (by decide +kernel), List.mem_of_getElem? (i := 642) (by decide +kernel)⟩
theorem lw_p17 : lw_okq (⟨"ToldChances", "countWins", "(II)V"⟩, 14) := ⟨⟨by decide +kernel, by decide +kernel⟩, List.mem_of_getElem? (i := 21) (by decide +kernel), List.mem_of_getElem? (i := 668) (by decide +kernel), List.mem_of_getElem? (i := 669) (by decide +kernel)⟩
theorem lw_p18 : lw_okq (⟨"ToldChances", "writeReport", "(I)V"⟩, 14) := ⟨⟨by decide +kernel, by decide +kernel⟩, List.mem_of_getElem? (i := 21) (by decide +kernel), List.mem_of_getElem? (i := 684) (by decide +kernel), List.mem_of_getElem? (i := 685) (by decide +kernel)⟩
theorem lw_p19 : lw_okq (⟨"ToldChancesModel", "becomes", "(II)I"⟩, 30) := ⟨⟨by decide +kernel, by decide +kernel⟩, List.mem_of_getElem? (i := 728) (by decide +kernel), List.mem_of_getElem? (i := 846) (by decide +kernel), List.mem_of_getElem? (i := 847) (by decide +kernel)⟩
theorem lw_p20 : lw_okq (⟨"ToldChancesModel", "toldBy", "(II)I"⟩, 30) := ⟨⟨by decide +kernel, by decide +kernel⟩, List.mem_of_getElem? (i := 728) (by decide +kernel), List.mem_of_getElem? (i := 869) (by decide +kernel), List.mem_of_getElem? (i := 870) (by decide +kernel)⟩
theorem lw_p21 : lw_okq (⟨"ToldChancesModel", "readsLine", "()Z"⟩, 30) := ⟨⟨by decide +kernel, by decide +kernel⟩, List.mem_of_getElem? (i := 728) (by decide +kernel), List.mem_of_getElem? (i := 889) (by decide +kernel), List.mem_of_getElem? (i := 890) (by decide +kernel)⟩
theorem lw_p22 : lw_okq (⟨"ToldChancesModel", "readsWord", "()Z"⟩, 30) := ⟨⟨by decide +kernel, by decide +kernel⟩, List.mem_of_getElem? (i := 728) (by decide +kernel), List.mem_of_getElem? (i := 893) (by decide +kernel), List.mem_of_getElem? (i := 894) (by decide +kernel)⟩
theorem lw_p23 : lw_okq (⟨"ToldChancesModel", "wordLong", "(I)I"⟩, 30) := ⟨⟨by decide +kernel, by decide +kernel⟩, List.mem_of_getElem? (i := 728) (by decide +kernel), List.mem_of_getElem? (i := 897) (by decide +kernel), List.mem_of_getElem? (i := 898) (by decide +kernel)⟩
theorem lw_p24 : lw_okq (⟨"ToldChancesModel", "readsNumber", "(I)Z"⟩, 30) := ⟨⟨by decide +kernel, by decide +kernel⟩, List.mem_of_getElem? (i := 728) (by decide +kernel), List.mem_of_getElem? (i := 904) (by decide +kernel), List.mem_of_getElem? (i := 905) (by decide +kernel)⟩
theorem lw_p25 : lw_okq (⟨"ToldChancesModel", "isFigure", "()Z"⟩, 30) := ⟨⟨by decide +kernel, by decide +kernel⟩, List.mem_of_getElem? (i := 728) (by decide +kernel), List.mem_of_getElem? (i := 908) (by decide +kernel), List.mem_of_getElem? (i := 909) (by decide +kernel)⟩
theorem lw_p26 : lw_okq (⟨"ToldChancesModel", "does", "()I"⟩, 30) := ⟨⟨by decide +kernel, by decide +kernel⟩, List.mem_of_getElem? (i := 728) (by decide +kernel), List.mem_of_getElem? (i := 915) (by decide +kernel), List.mem_of_getElem? (i := 916) (by decide +kernel)⟩
theorem lw_p27 : lw_okq (⟨"ToldChancesModel", "isOnTape", "(I)Z"⟩, 30) := ⟨⟨by decide +kernel, by decide +kernel⟩, List.mem_of_getElem? (i := 728) (by decide +kernel), List.mem_of_getElem? (i := 929) (by decide +kernel), List.mem_of_getElem? (i := 930) (by decide +kernel)⟩
theorem lw_p28 : lw_okq (⟨"ToldChancesModel", "missOf", "(IZ)I"⟩, 30) := ⟨⟨by decide +kernel, by decide +kernel⟩, List.mem_of_getElem? (i := 728) (by decide +kernel), List.mem_of_getElem? (i := 937) (by decide +kernel), List.mem_of_getElem? (i := 938) (by decide +kernel)⟩
theorem lw_p29 : lw_okq (⟨"ToldChancesModel", "cases", "(I)I"⟩, 30) := ⟨⟨by decide +kernel, by decide +kernel⟩, List.mem_of_getElem? (i := 728) (by decide +kernel), List.mem_of_getElem? (i := 945) (by decide +kernel), List.mem_of_getElem? (i := 946) (by decide +kernel)⟩
theorem lw_p30 : lw_okq (⟨"ToldChancesModel", "isCase", "(II)Z"⟩, 30) := ⟨⟨by decide +kernel, by decide +kernel⟩, List.mem_of_getElem? (i := 728) (by decide +kernel), List.mem_of_getElem? (i := 949) (by decide +kernel), List.mem_of_getElem? (i := 950) (by decide +kernel)⟩
theorem lw_p31 : lw_okq (⟨"ToldChancesModel", "misses", "(I)J"⟩, 30) := ⟨⟨by decide +kernel, by decide +kernel⟩, List.mem_of_getElem? (i := 728) (by decide +kernel), List.mem_of_getElem? (i := 954) (by decide +kernel), List.mem_of_getElem? (i := 955) (by decide +kernel)⟩
def lw_privs_2 : List (MethodName × Nat) := [(⟨"ToldChances$PoolRow", "mergeDown", "(I)V"⟩, 7), (⟨"ToldChances", "countWins", "(II)V"⟩, 14), (⟨"ToldChances", "writeReport", "(I)V"⟩, 14), (⟨"ToldChancesModel", "becomes", "(II)I"⟩, 30), (⟨"ToldChancesModel", "toldBy", "(II)I"⟩, 30), (⟨"ToldChancesModel", "readsLine", "()Z"⟩, 30), (⟨"ToldChancesModel", "readsWord", "()Z"⟩, 30), (⟨"ToldChancesModel", "wordLong", "(I)I"⟩, 30), (⟨"ToldChancesModel", "readsNumber", "(I)Z"⟩, 30), (⟨"ToldChancesModel", "isFigure", "()Z"⟩, 30), (⟨"ToldChancesModel", "does", "()I"⟩, 30), (⟨"ToldChancesModel", "isOnTape", "(I)Z"⟩, 30), (⟨"ToldChancesModel", "missOf", "(IZ)I"⟩, 30), (⟨"ToldChancesModel", "cases", "(I)I"⟩, 30), (⟨"ToldChancesModel", "isCase", "(II)Z"⟩, 30), (⟨"ToldChancesModel", "misses", "(I)J"⟩, 30)]
theorem lw_r2 : ∀ q ∈ lw_privs_2, lw_okq q := List.forall_mem_cons.mpr ⟨lw_p16, List.forall_mem_cons.mpr ⟨lw_p17, List.forall_mem_cons.mpr ⟨lw_p18, List.forall_mem_cons.mpr ⟨lw_p19, List.forall_mem_cons.mpr ⟨lw_p20, List.forall_mem_cons.mpr ⟨lw_p21, List.forall_mem_cons.mpr ⟨lw_p22, List.forall_mem_cons.mpr ⟨lw_p23, List.forall_mem_cons.mpr ⟨lw_p24, List.forall_mem_cons.mpr ⟨lw_p25, List.forall_mem_cons.mpr ⟨lw_p26, List.forall_mem_cons.mpr ⟨lw_p27, List.forall_mem_cons.mpr ⟨lw_p28, List.forall_mem_cons.mpr ⟨lw_p29, List.forall_mem_cons.mpr ⟨lw_p30, List.forall_mem_cons.mpr ⟨lw_p31, fun _ h => absurd h List.not_mem_nil⟩⟩⟩⟩⟩⟩⟩⟩⟩⟩⟩⟩⟩⟩⟩⟩
theorem lw_p32 : lw_okq (⟨"ToldChancesModel", "becomesFraction", "(JJ)V"⟩, 30) := ⟨⟨by decide +kernel, by decide +kernel⟩, List.mem_of_getElem? (i := 728) (by decide +kernel), List.mem_of_getElem? (i := 958) (by decide +kernel), List.mem_of_getElem? (i := 959) (by decide +kernel)⟩
theorem lw_p33 : lw_okq (⟨"ToldChancesModel", "part", "(I)J"⟩, 30) := ⟨⟨by decide +kernel, by decide +kernel⟩, List.mem_of_getElem? (i := 728) (by decide +kernel), List.mem_of_getElem? (i := 962) (by decide +kernel), List.mem_of_getElem? (i := 963) (by decide +kernel)⟩
theorem lw_p34 : lw_okq (⟨"ToldChancesModel", "isAhead", "(II)Z"⟩, 30) := ⟨⟨by decide +kernel, by decide +kernel⟩, List.mem_of_getElem? (i := 728) (by decide +kernel), List.mem_of_getElem? (i := 970) (by decide +kernel), List.mem_of_getElem? (i := 971) (by decide +kernel)⟩
theorem lw_p35 : lw_okq (⟨"ToldChancesModel", "lureOf", "(I)I"⟩, 30) := ⟨⟨by decide +kernel, by decide +kernel⟩, List.mem_of_getElem? (i := 728) (by decide +kernel), List.mem_of_getElem? (i := 978) (by decide +kernel), List.mem_of_getElem? (i := 979) (by decide +kernel)⟩
theorem lw_p36 : lw_okq (⟨"ToldChancesModel", "sumBy", "(II)I"⟩, 30) := ⟨⟨by decide +kernel, by decide +kernel⟩, List.mem_of_getElem? (i := 728) (by decide +kernel), List.mem_of_getElem? (i := 982) (by decide +kernel), List.mem_of_getElem? (i := 983) (by decide +kernel)⟩
theorem lw_p37 : lw_okq (⟨"ToldChancesModel", "cuts", "()I"⟩, 30) := ⟨⟨by decide +kernel, by decide +kernel⟩, List.mem_of_getElem? (i := 728) (by decide +kernel), List.mem_of_getElem? (i := 994) (by decide +kernel), List.mem_of_getElem? (i := 995) (by decide +kernel)⟩
theorem lw_p38 : lw_okq (⟨"ToldChancesModel", "counts", "(I)V"⟩, 30) := ⟨⟨by decide +kernel, by decide +kernel⟩, List.mem_of_getElem? (i := 728) (by decide +kernel), List.mem_of_getElem? (i := 1002) (by decide +kernel), List.mem_of_getElem? (i := 1003) (by decide +kernel)⟩
theorem lw_p39 : lw_okq (⟨"ToldChancesModel", "binOf", "(I)I"⟩, 30) := ⟨⟨by decide +kernel, by decide +kernel⟩, List.mem_of_getElem? (i := 728) (by decide +kernel), List.mem_of_getElem? (i := 1006) (by decide +kernel), List.mem_of_getElem? (i := 1007) (by decide +kernel)⟩
theorem lw_p40 : lw_okq (⟨"ToldChancesModel", "leastIn", "(I)I"⟩, 30) := ⟨⟨by decide +kernel, by decide +kernel⟩, List.mem_of_getElem? (i := 728) (by decide +kernel), List.mem_of_getElem? (i := 1010) (by decide +kernel), List.mem_of_getElem? (i := 1011) (by decide +kernel)⟩
theorem lw_p41 : lw_okq (⟨"ToldChancesModel", "greatestIn", "(I)I"⟩, 30) := ⟨⟨by decide +kernel, by decide +kernel⟩, List.mem_of_getElem? (i := 728) (by decide +kernel), List.mem_of_getElem? (i := 1014) (by decide +kernel), List.mem_of_getElem? (i := 1015) (by decide +kernel)⟩
theorem lw_p42 : lw_okq (⟨"ToldChancesModel", "noFraction", "()V"⟩, 30) := ⟨⟨by decide +kernel, by decide +kernel⟩, List.mem_of_getElem? (i := 728) (by decide +kernel), List.mem_of_getElem? (i := 1022) (by decide +kernel), List.mem_of_getElem? (i := 1023) (by decide +kernel)⟩
theorem lw_p43 : lw_okq (⟨"ToldChancesModel", "addPart", "(II)V"⟩, 30) := ⟨⟨by decide +kernel, by decide +kernel⟩, List.mem_of_getElem? (i := 728) (by decide +kernel), List.mem_of_getElem? (i := 1026) (by decide +kernel), List.mem_of_getElem? (i := 1027) (by decide +kernel)⟩
theorem lw_p44 : lw_okq (⟨"ToldChancesModel", "adds", "(JJ)V"⟩, 30) := ⟨⟨by decide +kernel, by decide +kernel⟩, List.mem_of_getElem? (i := 728) (by decide +kernel), List.mem_of_getElem? (i := 1030) (by decide +kernel), List.mem_of_getElem? (i := 1031) (by decide +kernel)⟩
theorem lw_p45 : lw_okq (⟨"ToldChancesModel", "inBin", "(II)J"⟩, 30) := ⟨⟨by decide +kernel, by decide +kernel⟩, List.mem_of_getElem? (i := 728) (by decide +kernel), List.mem_of_getElem? (i := 1034) (by decide +kernel), List.mem_of_getElem? (i := 1035) (by decide +kernel)⟩
theorem lw_p46 : lw_okq (⟨"ToldChancesModel", "wholeOf", "(I)J"⟩, 30) := ⟨⟨by decide +kernel, by decide +kernel⟩, List.mem_of_getElem? (i := 728) (by decide +kernel), List.mem_of_getElem? (i := 1040) (by decide +kernel), List.mem_of_getElem? (i := 1041) (by decide +kernel)⟩
theorem lw_p47 : lw_okq (⟨"ToldChancesModel", "findPools", "(I)V"⟩, 30) := ⟨⟨by decide +kernel, by decide +kernel⟩, List.mem_of_getElem? (i := 728) (by decide +kernel), List.mem_of_getElem? (i := 1057) (by decide +kernel), List.mem_of_getElem? (i := 1058) (by decide +kernel)⟩
def lw_privs_3 : List (MethodName × Nat) := [(⟨"ToldChancesModel", "becomesFraction", "(JJ)V"⟩, 30), (⟨"ToldChancesModel", "part", "(I)J"⟩, 30), (⟨"ToldChancesModel", "isAhead", "(II)Z"⟩, 30), (⟨"ToldChancesModel", "lureOf", "(I)I"⟩, 30), (⟨"ToldChancesModel", "sumBy", "(II)I"⟩, 30), (⟨"ToldChancesModel", "cuts", "()I"⟩, 30), (⟨"ToldChancesModel", "counts", "(I)V"⟩, 30), (⟨"ToldChancesModel", "binOf", "(I)I"⟩, 30), (⟨"ToldChancesModel", "leastIn", "(I)I"⟩, 30), (⟨"ToldChancesModel", "greatestIn", "(I)I"⟩, 30), (⟨"ToldChancesModel", "noFraction", "()V"⟩, 30), (⟨"ToldChancesModel", "addPart", "(II)V"⟩, 30), (⟨"ToldChancesModel", "adds", "(JJ)V"⟩, 30), (⟨"ToldChancesModel", "inBin", "(II)J"⟩, 30), (⟨"ToldChancesModel", "wholeOf", "(I)J"⟩, 30), (⟨"ToldChancesModel", "findPools", "(I)V"⟩, 30)]
theorem lw_r3 : ∀ q ∈ lw_privs_3, lw_okq q := List.forall_mem_cons.mpr ⟨lw_p32, List.forall_mem_cons.mpr ⟨lw_p33, List.forall_mem_cons.mpr ⟨lw_p34, List.forall_mem_cons.mpr ⟨lw_p35, List.forall_mem_cons.mpr ⟨lw_p36, List.forall_mem_cons.mpr ⟨lw_p37, List.forall_mem_cons.mpr ⟨lw_p38, List.forall_mem_cons.mpr ⟨lw_p39, List.forall_mem_cons.mpr ⟨lw_p40, List.forall_mem_cons.mpr ⟨lw_p41, List.forall_mem_cons.mpr ⟨lw_p42, List.forall_mem_cons.mpr ⟨lw_p43, List.forall_mem_cons.mpr ⟨lw_p44, List.forall_mem_cons.mpr ⟨lw_p45, List.forall_mem_cons.mpr ⟨lw_p46, List.forall_mem_cons.mpr ⟨lw_p47, fun _ h => absurd h List.not_mem_nil⟩⟩⟩⟩⟩⟩⟩⟩⟩⟩⟩⟩⟩⟩⟩⟩
theorem lw_p48 : lw_okq (⟨"ToldChancesModel", "isFlat", "(I)Z"⟩, 30) := ⟨⟨by decide +kernel, by decide +kernel⟩, List.mem_of_getElem? (i := 728) (by decide +kernel), List.mem_of_getElem? (i := 1061) (by decide +kernel), List.mem_of_getElem? (i := 1062) (by decide +kernel)⟩
theorem lw_p49 : lw_okq (⟨"ToldChancesModel", "joinsLast", "()V"⟩, 30) := ⟨⟨by decide +kernel, by decide +kernel⟩, List.mem_of_getElem? (i := 728) (by decide +kernel), List.mem_of_getElem? (i := 1065) (by decide +kernel), List.mem_of_getElem? (i := 1066) (by decide +kernel)⟩
theorem lw_p50 : lw_okq (⟨"ToldChancesModel", "compares", "(II)V"⟩, 30) := ⟨⟨by decide +kernel, by decide +kernel⟩, List.mem_of_getElem? (i := 728) (by decide +kernel), List.mem_of_getElem? (i := 1081) (by decide +kernel), List.mem_of_getElem? (i := 1082) (by decide +kernel)⟩
theorem lw_p51 : lw_okq (⟨"ToldChancesModel", "writesReport", "(I)V"⟩, 30) := ⟨⟨by decide +kernel, by decide +kernel⟩, List.mem_of_getElem? (i := 728) (by decide +kernel), List.mem_of_getElem? (i := 1096) (by decide +kernel), List.mem_of_getElem? (i := 1097) (by decide +kernel)⟩
theorem lw_p52 : lw_okq (⟨"ToldChancesModel", "writes", "(I)V"⟩, 30) := ⟨⟨by decide +kernel, by decide +kernel⟩, List.mem_of_getElem? (i := 728) (by decide +kernel), List.mem_of_getElem? (i := 1100) (by decide +kernel), List.mem_of_getElem? (i := 1101) (by decide +kernel)⟩
theorem lw_p53 : lw_okq (⟨"ToldChancesModel", "writesNumber", "(J)V"⟩, 30) := ⟨⟨by decide +kernel, by decide +kernel⟩, List.mem_of_getElem? (i := 728) (by decide +kernel), List.mem_of_getElem? (i := 1104) (by decide +kernel), List.mem_of_getElem? (i := 1105) (by decide +kernel)⟩
def lw_privs_4 : List (MethodName × Nat) := [(⟨"ToldChancesModel", "isFlat", "(I)Z"⟩, 30), (⟨"ToldChancesModel", "joinsLast", "()V"⟩, 30), (⟨"ToldChancesModel", "compares", "(II)V"⟩, 30), (⟨"ToldChancesModel", "writesReport", "(I)V"⟩, 30), (⟨"ToldChancesModel", "writes", "(I)V"⟩, 30), (⟨"ToldChancesModel", "writesNumber", "(J)V"⟩, 30)]
theorem lw_r4 : ∀ q ∈ lw_privs_4, lw_okq q := List.forall_mem_cons.mpr ⟨lw_p48, List.forall_mem_cons.mpr ⟨lw_p49, List.forall_mem_cons.mpr ⟨lw_p50, List.forall_mem_cons.mpr ⟨lw_p51, List.forall_mem_cons.mpr ⟨lw_p52, List.forall_mem_cons.mpr ⟨lw_p53, fun _ h => absurd h List.not_mem_nil⟩⟩⟩⟩⟩⟩
def lw_privs : List (MethodName × Nat) := lw_privs_1 ++ (lw_privs_2 ++ (lw_privs_3 ++ (lw_privs_4)))
def lw_tbl : List Cond := k2_sels lw_privs ++ tables_1
theorem lw_privs_ok : ∀ q ∈ lw_privs, lw_okq q := by
  show ∀ q ∈ lw_privs_1 ++ (lw_privs_2 ++ (lw_privs_3 ++ (lw_privs_4))), lw_okq q
  exact List.forall_mem_append.mpr ⟨lw_r1, List.forall_mem_append.mpr ⟨lw_r2, List.forall_mem_append.mpr ⟨lw_r3, lw_r4⟩⟩⟩

/-- the words that a method may lean on -/
def tc_tb : List Cond := lw_tbl.filter goodWord
theorem tc_tbS {w : Cond} (i : Nat) (h : (k2_sels lw_privs)[i]? = some w) (hg : goodWord w = true) : w ∈ tc_tb := List.mem_filter.mpr ⟨List.mem_append_left _ (List.mem_of_getElem? h), hg⟩
theorem tc_tb1 {w : Cond} (i : Nat) (h : tables_1_1[i]? = some w) (hg : goodWord w = true) : w ∈ tc_tb := List.mem_filter.mpr ⟨List.mem_append_right _ (List.mem_append_left _ (List.mem_of_getElem? h)), hg⟩
theorem tc_tb2 {w : Cond} (i : Nat) (h : tables_1_2[i]? = some w) (hg : goodWord w = true) : w ∈ tc_tb := List.mem_filter.mpr ⟨List.mem_append_right _ (List.mem_append_right _ (List.mem_append_left _ (List.mem_of_getElem? h))), hg⟩
theorem tc_tb3 {w : Cond} (i : Nat) (h : tables_1_3[i]? = some w) (hg : goodWord w = true) : w ∈ tc_tb := List.mem_filter.mpr ⟨List.mem_append_right _ (List.mem_append_right _ (List.mem_append_right _ (List.mem_append_left _ (List.mem_of_getElem? h)))), hg⟩
theorem tc_tb4 {w : Cond} (i : Nat) (h : tables_1_4[i]? = some w) (hg : goodWord w = true) : w ∈ tc_tb := List.mem_filter.mpr ⟨List.mem_append_right _ (List.mem_append_right _ (List.mem_append_right _ (List.mem_append_right _ (List.mem_append_left _ (List.mem_of_getElem? h))))), hg⟩
theorem tc_tb5 {w : Cond} (i : Nat) (h : tables_1_5[i]? = some w) (hg : goodWord w = true) : w ∈ tc_tb := List.mem_filter.mpr ⟨List.mem_append_right _ (List.mem_append_right _ (List.mem_append_right _ (List.mem_append_right _ (List.mem_append_right _ (List.mem_of_getElem? h))))), hg⟩
theorem tc_tb_lw {w : Cond} (h : w ∈ tc_tb) : w ∈ lw_tbl := (List.mem_filter.mp h).1
theorem tc_tb_good {w : Cond} (h : w ∈ tc_tb) : (w.onTables && w.keeps) = true ∨ ∃ ty, w = .arrayClass ty := good_of_word (List.mem_filter.mp h).2
/-- a callee's words among a caller's -/
theorem tc_goodIn {Ts : List Cond} (hT : ∀ w ∈ tc_tb, w ∈ Ts) {c : Cond} (h : c ∈ tc_tb) : GoodIn Ts (c :: tc_tb) := by
  intro w hw
  have hw' : w ∈ tc_tb := by
    rcases List.mem_cons.mp hw with rfl | h9
    · exact h
    · exact h9
  exact ⟨hT w hw', tc_tb_good hw'⟩
end
section
def RX0 : String := "ToldChances$Bins"
def TX0 : u_T := fun k => match k with
  | 0 => ("ToldChances$Bins", "cuts", "[I", true)
  | 1 => ("ToldChances$Bins", "cutCount", "I", false)
  | 2 => ("ToldChances$Bins", "counts", "[I", true)
  | 3 => ("ToldChances$Bins", "yeses", "[I", true)
  | 4 => ("ToldChances$Bins", "sums", "[I", true)
  | 5 => ("ToldChances$Bins", "squareSums", "[I", true)
  | _ => ("ToldChances$Bins", "yesSums", "[I", true)
def tyX0 : Nat → FieldType := fun k => match k with
  | 0 => .array .int
  | 1 => .int
  | 2 => .array .int
  | 3 => .array .int
  | 4 => .array .int
  | 5 => .array .int
  | _ => .array .int
theorem nmX0 : ∀ a, a < 7 → ∀ b, b < 7 → a ≠ b → (TX0 a).2.1 ≠ (TX0 b).2.1 := by decide +kernel
theorem tyX0_ok : ∀ k, k < 7 → parseFieldDescriptor (TX0 k).2.2.1 = some (tyX0 k) := by decide +kernel
abbrev cX0_init : ByteArray := prog_2_method_1_code
def yX0_init : MethodName := ⟨RX0, "<init>", "()V"⟩
abbrev cX0_flipCut : ByteArray := prog_2_method_2_code
def yX0_flipCut : MethodName := ⟨RX0, "flipCut", "(I)Z"⟩
abbrev cX0_insertCut : ByteArray := prog_2_method_3_code
def yX0_insertCut : MethodName := ⟨RX0, "insertCut", "(II)V"⟩
abbrev cX0_removeCut : ByteArray := prog_2_method_4_code
def yX0_removeCut : MethodName := ⟨RX0, "removeCut", "(I)V"⟩
abbrev cX0_hasBin : ByteArray := prog_2_method_5_code
def yX0_hasBin : MethodName := ⟨RX0, "hasBin", "(I)Z"⟩
abbrev cX0_binOf : ByteArray := prog_2_method_6_code
def yX0_binOf : MethodName := ⟨RX0, "binOf", "(I)I"⟩
abbrev cX0_leastOf : ByteArray := prog_2_method_7_code
def yX0_leastOf : MethodName := ⟨RX0, "leastOf", "(I)I"⟩
abbrev cX0_greatestOf : ByteArray := prog_2_method_8_code
def yX0_greatestOf : MethodName := ⟨RX0, "greatestOf", "(I)I"⟩
abbrev cX0_sortIn : ByteArray := prog_2_method_9_code
def yX0_sortIn : MethodName := ⟨RX0, "sortIn", "(LToldChances$Cases;)V"⟩
abbrev cX0_findPart : ByteArray := prog_2_method_10_code
def yX0_findPart : MethodName := ⟨RX0, "findPart", "(ILToldChances$Cases;LToldChances$Fraction;)V"⟩
abbrev cX0_binTerm : ByteArray := prog_2_method_11_code
def yX0_binTerm : MethodName := ⟨RX0, "binTerm", "(IIJJ)J"⟩
abbrev cX0_scaleOf : ByteArray := prog_2_method_12_code
def yX0_scaleOf : MethodName := ⟨RX0, "scaleOf", "(IJ)J"⟩
abbrev cX0_findJoinLoss : ByteArray := prog_2_method_13_code
def yX0_findJoinLoss : MethodName := ⟨RX0, "findJoinLoss", "(ILToldChances$Cases;LToldChances$Fraction;)V"⟩
abbrev cX0_squared : ByteArray := prog_2_method_14_code
def yX0_squared : MethodName := ⟨RX0, "squared", "(J)J"⟩
def RX1 : String := "ToldChances$Book"
def TX1 : u_T := fun k => match k with
  | 0 => ("ToldChances$Book", "chances", "[I", true)
  | 1 => ("ToldChances$Book", "weights", "[I", true)
  | _ => ("ToldChances$Book", "states", "[I", true)
def tyX1 : Nat → FieldType := fun k => match k with
  | 0 => .array .int
  | 1 => .array .int
  | _ => .array .int
theorem nmX1 : ∀ a, a < 3 → ∀ b, b < 3 → a ≠ b → (TX1 a).2.1 ≠ (TX1 b).2.1 := by decide +kernel
theorem tyX1_ok : ∀ k, k < 3 → parseFieldDescriptor (TX1 k).2.2.1 = some (tyX1 k) := by decide +kernel
abbrev cX1_init : ByteArray := prog_3_method_1_code
def yX1_init : MethodName := ⟨RX1, "<init>", "()V"⟩
abbrev cX1_swapChance : ByteArray := prog_3_method_2_code
def yX1_swapChance : MethodName := ⟨RX1, "swapChance", "(III)I"⟩
abbrev cX1_swapState : ByteArray := prog_3_method_3_code
def yX1_swapState : MethodName := ⟨RX1, "swapState", "(II)I"⟩
abbrev cX1_swapWeight : ByteArray := prog_3_method_4_code
def yX1_swapWeight : MethodName := ⟨RX1, "swapWeight", "(II)I"⟩
abbrev cX1_chanceOf : ByteArray := prog_3_method_5_code
def yX1_chanceOf : MethodName := ⟨RX1, "chanceOf", "(II)I"⟩
abbrev cX1_mixedChance : ByteArray := prog_3_method_6_code
def yX1_mixedChance : MethodName := ⟨RX1, "mixedChance", "(I)I"⟩
abbrev cX1_isCase : ByteArray := prog_3_method_7_code
def yX1_isCase : MethodName := ⟨RX1, "isCase", "(II)Z"⟩
abbrev cX1_countState : ByteArray := prog_3_method_8_code
def yX1_countState : MethodName := ⟨RX1, "countState", "(I)I"⟩
abbrev cX1_countTold : ByteArray := prog_3_method_9_code
def yX1_countTold : MethodName := ⟨RX1, "countTold", "()I"⟩
abbrev cX1_countCases : ByteArray := prog_3_method_10_code
def yX1_countCases : MethodName := ⟨RX1, "countCases", "()I"⟩
def RX2 : String := "ToldChances$Cases"
def TX2 : u_T := fun k => match k with
  | 0 => ("ToldChances$Cases", "chances", "[I", true)
  | 1 => ("ToldChances$Cases", "isYes", "[Z", true)
  | 2 => ("ToldChances$Cases", "count", "I", false)
  | _ => ("ToldChances$Cases", "yesCount", "I", false)
def tyX2 : Nat → FieldType := fun k => match k with
  | 0 => .array .int
  | 1 => .array .boolean
  | 2 => .int
  | _ => .int
theorem nmX2 : ∀ a, a < 4 → ∀ b, b < 4 → a ≠ b → (TX2 a).2.1 ≠ (TX2 b).2.1 := by decide +kernel
theorem tyX2_ok : ∀ k, k < 4 → parseFieldDescriptor (TX2 k).2.2.1 = some (tyX2 k) := by decide +kernel
abbrev cX2_init : ByteArray := prog_4_method_1_code
def yX2_init : MethodName := ⟨RX2, "<init>", "()V"⟩
abbrev cX2_gather : ByteArray := prog_4_method_2_code
def yX2_gather : MethodName := ⟨RX2, "gather", "(LToldChances$Book;I)V"⟩
abbrev cX2_missSum : ByteArray := prog_4_method_3_code
def yX2_missSum : MethodName := ⟨RX2, "missSum", "(LToldChances$Rule;)J"⟩
abbrev cX2_halvesWellRanked : ByteArray := prog_4_method_4_code
def yX2_halvesWellRanked : MethodName := ⟨RX2, "halvesWellRanked", "()J"⟩
def RX3 : String := "ToldChances$Command"
abbrev cX3_greatest : ByteArray := prog_5_method_4_code
def yX3_greatest : MethodName := ⟨RX3, "greatest", "(I)I"⟩
def RX4 : String := "ToldChances$Fraction"
def TX4 : u_T := fun k => match k with
  | 0 => ("ToldChances$Fraction", "upper", "J", false)
  | _ => ("ToldChances$Fraction", "lower", "J", false)
def tyX4 : Nat → FieldType := fun k => match k with
  | 0 => .long
  | _ => .long
theorem nmX4 : ∀ a, a < 2 → ∀ b, b < 2 → a ≠ b → (TX4 a).2.1 ≠ (TX4 b).2.1 := by decide +kernel
theorem tyX4_ok : ∀ k, k < 2 → parseFieldDescriptor (TX4 k).2.2.1 = some (tyX4 k) := by decide +kernel
abbrev cX4_init : ByteArray := prog_6_method_1_code
def yX4_init : MethodName := ⟨RX4, "<init>", "()V"⟩
abbrev cX4_become : ByteArray := prog_6_method_2_code
def yX4_become : MethodName := ⟨RX4, "become", "(JJ)V"⟩
abbrev cX4_add : ByteArray := prog_6_method_3_code
def yX4_add : MethodName := ⟨RX4, "add", "(JJ)V"⟩
abbrev cX4_divideBy : ByteArray := prog_6_method_4_code
def yX4_divideBy : MethodName := ⟨RX4, "divideBy", "(J)V"⟩
abbrev cX4_pick : ByteArray := prog_6_method_5_code
def yX4_pick : MethodName := ⟨RX4, "pick", "(I)J"⟩
abbrev cX4_sharedBy : ByteArray := prog_6_method_6_code
def yX4_sharedBy : MethodName := ⟨RX4, "sharedBy", "(JJ)J"⟩
def RX5 : String := "ToldChances$LineReader"
def TX5 : u_T := fun k => match k with
  | 0 => ("ToldChances$LineReader", "numbers", "[I", true)
  | 1 => ("ToldChances$LineReader", "whole", "Z", false)
  | _ => ("ToldChances$LineReader", "place", "I", false)
def tyX5 : Nat → FieldType := fun k => match k with
  | 0 => .array .int
  | 1 => .boolean
  | _ => .int
theorem nmX5 : ∀ a, a < 3 → ∀ b, b < 3 → a ≠ b → (TX5 a).2.1 ≠ (TX5 b).2.1 := by decide +kernel
theorem tyX5_ok : ∀ k, k < 3 → parseFieldDescriptor (TX5 k).2.2.1 = some (tyX5 k) := by decide +kernel
abbrev cX5_init : ByteArray := prog_7_method_1_code
def yX5_init : MethodName := ⟨RX5, "<init>", "()V"⟩
abbrev cX5_reach : ByteArray := prog_7_method_2_code
def yX5_reach : MethodName := ⟨RX5, "reach", "(LToldChances$Tape;LToldChances$Command;)I"⟩
abbrev cX5_readNumber : ByteArray := prog_7_method_3_code
def yX5_readNumber : MethodName := ⟨RX5, "readNumber", "(LToldChances$Tape;II)Z"⟩
def RX6 : String := "ToldChances$Paper"
def TX6 : u_T := fun k => match k with
  | 0 => ("ToldChances$Paper", "signs", "[I", true)
  | _ => ("ToldChances$Paper", "length", "I", false)
def tyX6 : Nat → FieldType := fun k => match k with
  | 0 => .array .int
  | _ => .int
theorem nmX6 : ∀ a, a < 2 → ∀ b, b < 2 → a ≠ b → (TX6 a).2.1 ≠ (TX6 b).2.1 := by decide +kernel
theorem tyX6_ok : ∀ k, k < 2 → parseFieldDescriptor (TX6 k).2.2.1 = some (tyX6 k) := by decide +kernel
abbrev cX6_init : ByteArray := prog_8_method_1_code
def yX6_init : MethodName := ⟨RX6, "<init>", "()V"⟩
abbrev cX6_clear : ByteArray := prog_8_method_2_code
def yX6_clear : MethodName := ⟨RX6, "clear", "()V"⟩
abbrev cX6_put : ByteArray := prog_8_method_3_code
def yX6_put : MethodName := ⟨RX6, "put", "(I)V"⟩
abbrev cX6_putWord : ByteArray := prog_8_method_4_code
def yX6_putWord : MethodName := ⟨RX6, "putWord", "(Ljava/lang/String;)V"⟩
abbrev cX6_putNumber : ByteArray := prog_8_method_5_code
def yX6_putNumber : MethodName := ⟨RX6, "putNumber", "(J)V"⟩
def RX7 : String := "ToldChances$PoolRow"
def TX7 : u_T := fun k => match k with
  | 0 => ("ToldChances$PoolRow", "countsByChance", "[I", true)
  | 1 => ("ToldChances$PoolRow", "yesesByChance", "[I", true)
  | 2 => ("ToldChances$PoolRow", "least", "[I", true)
  | 3 => ("ToldChances$PoolRow", "greatest", "[I", true)
  | 4 => ("ToldChances$PoolRow", "counts", "[I", true)
  | 5 => ("ToldChances$PoolRow", "yeses", "[I", true)
  | _ => ("ToldChances$PoolRow", "count", "I", false)
def tyX7 : Nat → FieldType := fun k => match k with
  | 0 => .array .int
  | 1 => .array .int
  | 2 => .array .int
  | 3 => .array .int
  | 4 => .array .int
  | 5 => .array .int
  | _ => .int
theorem nmX7 : ∀ a, a < 7 → ∀ b, b < 7 → a ≠ b → (TX7 a).2.1 ≠ (TX7 b).2.1 := by decide +kernel
theorem tyX7_ok : ∀ k, k < 7 → parseFieldDescriptor (TX7 k).2.2.1 = some (tyX7 k) := by decide +kernel
abbrev cX7_init : ByteArray := prog_9_method_1_code
def yX7_init : MethodName := ⟨RX7, "<init>", "()V"⟩
abbrev cX7_fill : ByteArray := prog_9_method_2_code
def yX7_fill : MethodName := ⟨RX7, "fill", "(LToldChances$Cases;)V"⟩
abbrev cX7_sortByChance : ByteArray := prog_9_method_3_code
def yX7_sortByChance : MethodName := ⟨RX7, "sortByChance", "(LToldChances$Cases;)V"⟩
abbrev cX7_addPool : ByteArray := prog_9_method_4_code
def yX7_addPool : MethodName := ⟨RX7, "addPool", "(I)V"⟩
abbrev cX7_isShareGreater : ByteArray := prog_9_method_5_code
def yX7_isShareGreater : MethodName := ⟨RX7, "isShareGreater", "(I)Z"⟩
abbrev cX7_mergeDown : ByteArray := prog_9_method_6_code
def yX7_mergeDown : MethodName := ⟨RX7, "mergeDown", "(I)V"⟩
abbrev cX7_tellOf : ByteArray := prog_9_method_7_code
def yX7_tellOf : MethodName := ⟨RX7, "tellOf", "(II)I"⟩
abbrev cX7_findFlat : ByteArray := prog_9_method_8_code
def yX7_findFlat : MethodName := ⟨RX7, "findFlat", "(ILToldChances$Fraction;)V"⟩
def RX8 : String := "ToldChances$Rule"
abbrev cX8_missOf : ByteArray := prog_10_method_4_code
def yX8_missOf : MethodName := ⟨RX8, "missOf", "(IZ)I"⟩
def RX9 : String := "ToldChances$Tape"
def TX9 : u_T := fun k => match k with
  | 0 => ("ToldChances$Tape", "codes", "[I", true)
  | _ => ("ToldChances$Tape", "length", "I", false)
def tyX9 : Nat → FieldType := fun k => match k with
  | 0 => .array .int
  | _ => .int
theorem nmX9 : ∀ a, a < 2 → ∀ b, b < 2 → a ≠ b → (TX9 a).2.1 ≠ (TX9 b).2.1 := by decide +kernel
theorem tyX9_ok : ∀ k, k < 2 → parseFieldDescriptor (TX9 k).2.2.1 = some (tyX9 k) := by decide +kernel
abbrev cX9_init : ByteArray := prog_11_method_1_code
def yX9_init : MethodName := ⟨RX9, "<init>", "()V"⟩
abbrev cX9_put : ByteArray := prog_11_method_2_code
def yX9_put : MethodName := ⟨RX9, "put", "(I)Z"⟩
abbrev cX9_clear : ByteArray := prog_11_method_3_code
def yX9_clear : MethodName := ⟨RX9, "clear", "()I"⟩
abbrev cX9_codeAt : ByteArray := prog_11_method_4_code
def yX9_codeAt : MethodName := ⟨RX9, "codeAt", "(I)I"⟩
abbrev cX9_spells : ByteArray := prog_11_method_5_code
def yX9_spells : MethodName := ⟨RX9, "spells", "(Ljava/lang/String;)Z"⟩
abbrev cX9_sharedWith : ByteArray := prog_11_method_6_code
def yX9_sharedWith : MethodName := ⟨RX9, "sharedWith", "(Ljava/lang/String;)I"⟩
def RX10 : String := "ToldChances"
def TX10 : u_T := fun k => match k with
  | 0 => ("ToldChances", "book", "LToldChances$Book;", true)
  | 1 => ("ToldChances", "tape", "LToldChances$Tape;", true)
  | 2 => ("ToldChances", "reader", "LToldChances$LineReader;", true)
  | 3 => ("ToldChances", "cases", "LToldChances$Cases;", true)
  | 4 => ("ToldChances", "bins", "LToldChances$Bins;", true)
  | 5 => ("ToldChances", "poolRow", "LToldChances$PoolRow;", true)
  | 6 => ("ToldChances", "result", "LToldChances$Fraction;", true)
  | 7 => ("ToldChances", "addend", "LToldChances$Fraction;", true)
  | 8 => ("ToldChances", "paper", "LToldChances$Paper;", true)
  | 9 => ("ToldChances", "missSums", "[J", true)
  | 10 => ("ToldChances", "caseCounts", "[I", true)
  | 11 => ("ToldChances", "winCounts", "[I", true)
  | 12 => ("ToldChances", "honestCounts", "[I", true)
  | _ => ("ToldChances", "current", "LToldChances$Rule;", false)
def tyX10 : Nat → FieldType := fun k => match k with
  | 0 => .object "ToldChances$Book"
  | 1 => .object "ToldChances$Tape"
  | 2 => .object "ToldChances$LineReader"
  | 3 => .object "ToldChances$Cases"
  | 4 => .object "ToldChances$Bins"
  | 5 => .object "ToldChances$PoolRow"
  | 6 => .object "ToldChances$Fraction"
  | 7 => .object "ToldChances$Fraction"
  | 8 => .object "ToldChances$Paper"
  | 9 => .array .long
  | 10 => .array .int
  | 11 => .array .int
  | 12 => .array .int
  | _ => .object "ToldChances$Rule"
theorem nmX10 : ∀ a, a < 14 → ∀ b, b < 14 → a ≠ b → (TX10 a).2.1 ≠ (TX10 b).2.1 := by decide +kernel
theorem tyX10_ok : ∀ k, k < 14 → parseFieldDescriptor (TX10 k).2.2.1 = some (tyX10 k) := by decide +kernel
abbrev cX10_init : ByteArray := prog_1_method_1_code
def yX10_init : MethodName := ⟨RX10, "<init>", "()V"⟩
abbrev cX10_tell : ByteArray := prog_1_method_2_code
def yX10_tell : MethodName := ⟨RX10, "tell", "(III)I"⟩
abbrev cX10_drop : ByteArray := prog_1_method_3_code
def yX10_drop : MethodName := ⟨RX10, "drop", "(II)I"⟩
abbrev cX10_yes : ByteArray := prog_1_method_4_code
def yX10_yes : MethodName := ⟨RX10, "yes", "(I)I"⟩
abbrev cX10_no : ByteArray := prog_1_method_5_code
def yX10_no : MethodName := ⟨RX10, "no", "(I)I"⟩
abbrev cX10_open : ByteArray := prog_1_method_6_code
def yX10_open : MethodName := ⟨RX10, "open", "(I)I"⟩
abbrev cX10_weigh : ByteArray := prog_1_method_7_code
def yX10_weigh : MethodName := ⟨RX10, "weigh", "(II)I"⟩
abbrev cX10_told : ByteArray := prog_1_method_8_code
def yX10_told : MethodName := ⟨RX10, "told", "(II)I"⟩
abbrev cX10_came : ByteArray := prog_1_method_9_code
def yX10_came : MethodName := ⟨RX10, "came", "(I)I"⟩
abbrev cX10_key : ByteArray := prog_1_method_10_code
def yX10_key : MethodName := ⟨RX10, "key", "(I)I"⟩
abbrev cX10_wipe : ByteArray := prog_1_method_11_code
def yX10_wipe : MethodName := ⟨RX10, "wipe", "()I"⟩
abbrev cX10_line : ByteArray := prog_1_method_12_code
def yX10_line : MethodName := ⟨RX10, "line", "()I"⟩
abbrev cX10_perform : ByteArray := prog_1_method_13_code
def yX10_perform : MethodName := ⟨RX10, "perform", "(LToldChances$Command;)I"⟩
abbrev cX10_rule : ByteArray := prog_1_method_14_code
def yX10_rule : MethodName := ⟨RX10, "rule", "()I"⟩
abbrev cX10_miss : ByteArray := prog_1_method_15_code
def yX10_miss : MethodName := ⟨RX10, "miss", "(II)I"⟩
abbrev cX10_score : ByteArray := prog_1_method_16_code
def yX10_score : MethodName := ⟨RX10, "score", "(II)J"⟩
abbrev cX10_rank : ByteArray := prog_1_method_17_code
def yX10_rank : MethodName := ⟨RX10, "rank", "(I)I"⟩
abbrev cX10_lure : ByteArray := prog_1_method_18_code
def yX10_lure : MethodName := ⟨RX10, "lure", "(I)I"⟩
abbrev cX10_honest : ByteArray := prog_1_method_19_code
def yX10_honest : MethodName := ⟨RX10, "honest", "()I"⟩
abbrev cX10_findMeanMiss : ByteArray := prog_1_method_20_code
def yX10_findMeanMiss : MethodName := ⟨RX10, "findMeanMiss", "(I)Z"⟩
abbrev cX10_tellersAheadOf : ByteArray := prog_1_method_21_code
def yX10_tellersAheadOf : MethodName := ⟨RX10, "tellersAheadOf", "(I)I"⟩
abbrev cX10_leastBest : ByteArray := prog_1_method_22_code
def yX10_leastBest : MethodName := ⟨RX10, "leastBest", "(I)I"⟩
abbrev cX10_countHonest : ByteArray := prog_1_method_23_code
def yX10_countHonest : MethodName := ⟨RX10, "countHonest", "()I"⟩
abbrev cX10_believedMiss : ByteArray := prog_1_method_24_code
def yX10_believedMiss : MethodName := ⟨RX10, "believedMiss", "(II)I"⟩
abbrev cX10_cut : ByteArray := prog_1_method_25_code
def yX10_cut : MethodName := ⟨RX10, "cut", "(I)I"⟩
abbrev cX10_bin : ByteArray := prog_1_method_26_code
def yX10_bin : MethodName := ⟨RX10, "bin", "(III)I"⟩
abbrev cX10_split : ByteArray := prog_1_method_27_code
def yX10_split : MethodName := ⟨RX10, "split", "(III)J"⟩
abbrev cX10_joined : ByteArray := prog_1_method_28_code
def yX10_joined : MethodName := ⟨RX10, "joined", "(III)J"⟩
abbrev cX10_area : ByteArray := prog_1_method_29_code
def yX10_area : MethodName := ⟨RX10, "area", "(II)J"⟩
abbrev cX10_pools : ByteArray := prog_1_method_30_code
def yX10_pools : MethodName := ⟨RX10, "pools", "(I)I"⟩
abbrev cX10_pool : ByteArray := prog_1_method_31_code
def yX10_pool : MethodName := ⟨RX10, "pool", "(III)I"⟩
abbrev cX10_flat : ByteArray := prog_1_method_32_code
def yX10_flat : MethodName := ⟨RX10, "flat", "(II)J"⟩
abbrev cX10_better : ByteArray := prog_1_method_33_code
def yX10_better : MethodName := ⟨RX10, "better", "(III)I"⟩
abbrev cX10_luck : ByteArray := prog_1_method_34_code
def yX10_luck : MethodName := ⟨RX10, "luck", "(III)J"⟩
abbrev cX10_sortCases : ByteArray := prog_1_method_35_code
def yX10_sortCases : MethodName := ⟨RX10, "sortCases", "(I)Z"⟩
abbrev cX10_joinParts : ByteArray := prog_1_method_36_code
def yX10_joinParts : MethodName := ⟨RX10, "joinParts", "()V"⟩
abbrev cX10_countWins : ByteArray := prog_1_method_37_code
def yX10_countWins : MethodName := ⟨RX10, "countWins", "(II)V"⟩
abbrev cX10_waysWithAtLeast : ByteArray := prog_1_method_38_code
def yX10_waysWithAtLeast : MethodName := ⟨RX10, "waysWithAtLeast", "(II)J"⟩
abbrev cX10_report : ByteArray := prog_1_method_39_code
def yX10_report : MethodName := ⟨RX10, "report", "(II)I"⟩
abbrev cX10_many : ByteArray := prog_1_method_40_code
def yX10_many : MethodName := ⟨RX10, "many", "(I)I"⟩
abbrev cX10_writeReport : ByteArray := prog_1_method_41_code
def yX10_writeReport : MethodName := ⟨RX10, "writeReport", "(I)V"⟩
abbrev cX10_signOf : ByteArray := prog_1_method_42_code
def yX10_signOf : MethodName := ⟨RX10, "signOf", "(IZ)I"⟩
abbrev cX10_isPlainTeller : ByteArray := prog_1_method_43_code
def yX10_isPlainTeller : MethodName := ⟨RX10, "isPlainTeller", "(I)Z"⟩
abbrev cX10_isTeller : ByteArray := prog_1_method_44_code
def yX10_isTeller : MethodName := ⟨RX10, "isTeller", "(I)Z"⟩
abbrev cX10_isEvent : ByteArray := prog_1_method_45_code
def yX10_isEvent : MethodName := ⟨RX10, "isEvent", "(I)Z"⟩
abbrev cX10_isChance : ByteArray := prog_1_method_46_code
def yX10_isChance : MethodName := ⟨RX10, "isChance", "(I)Z"⟩
abbrev cX10_isWhich : ByteArray := prog_1_method_47_code
def yX10_isWhich : MethodName := ⟨RX10, "isWhich", "(I)Z"⟩
def RX11 : String := "ToldChancesModel"
def TX11 : u_T := fun k => match k with
  | 0 => ("ToldChancesModel", "chance", "[I", true)
  | 1 => ("ToldChancesModel", "state", "[I", true)
  | 2 => ("ToldChancesModel", "weight", "[I", true)
  | 3 => ("ToldChancesModel", "tape", "[I", true)
  | 4 => ("ToldChancesModel", "taped", "I", false)
  | 5 => ("ToldChancesModel", "signs", "[I", true)
  | 6 => ("ToldChancesModel", "place", "I", false)
  | 7 => ("ToldChancesModel", "word", "I", false)
  | 8 => ("ToldChancesModel", "numbers", "[I", true)
  | 9 => ("ToldChancesModel", "rule", "I", false)
  | 10 => ("ToldChancesModel", "up", "J", false)
  | 11 => ("ToldChancesModel", "down", "J", false)
  | 12 => ("ToldChancesModel", "isCut", "[Z", true)
  | 13 => ("ToldChancesModel", "binMany", "[I", true)
  | 14 => ("ToldChancesModel", "binYes", "[I", true)
  | 15 => ("ToldChancesModel", "binSum", "[I", true)
  | 16 => ("ToldChancesModel", "binSquares", "[I", true)
  | 17 => ("ToldChancesModel", "binBoth", "[I", true)
  | 18 => ("ToldChancesModel", "all", "I", false)
  | 19 => ("ToldChancesModel", "allYes", "I", false)
  | 20 => ("ToldChancesModel", "pools", "I", false)
  | 21 => ("ToldChancesModel", "poolLeast", "[I", true)
  | 22 => ("ToldChancesModel", "poolMost", "[I", true)
  | 23 => ("ToldChancesModel", "poolMany", "[I", true)
  | 24 => ("ToldChancesModel", "poolYes", "[I", true)
  | 25 => ("ToldChancesModel", "both", "I", false)
  | 26 => ("ToldChancesModel", "first", "I", false)
  | 27 => ("ToldChancesModel", "second", "I", false)
  | 28 => ("ToldChancesModel", "report", "[I", true)
  | _ => ("ToldChancesModel", "written", "I", false)
def tyX11 : Nat → FieldType := fun k => match k with
  | 0 => .array .int
  | 1 => .array .int
  | 2 => .array .int
  | 3 => .array .int
  | 4 => .int
  | 5 => .array .int
  | 6 => .int
  | 7 => .int
  | 8 => .array .int
  | 9 => .int
  | 10 => .long
  | 11 => .long
  | 12 => .array .boolean
  | 13 => .array .int
  | 14 => .array .int
  | 15 => .array .int
  | 16 => .array .int
  | 17 => .array .int
  | 18 => .int
  | 19 => .int
  | 20 => .int
  | 21 => .array .int
  | 22 => .array .int
  | 23 => .array .int
  | 24 => .array .int
  | 25 => .int
  | 26 => .int
  | 27 => .int
  | 28 => .array .int
  | _ => .int
theorem nmX11 : ∀ a, a < 30 → ∀ b, b < 30 → a ≠ b → (TX11 a).2.1 ≠ (TX11 b).2.1 := by decide +kernel
theorem tyX11_ok : ∀ k, k < 30 → parseFieldDescriptor (TX11 k).2.2.1 = some (tyX11 k) := by decide +kernel
abbrev cX11_init : ByteArray := prog_13_method_1_code
def yX11_init : MethodName := ⟨RX11, "<init>", "()V"⟩
abbrev cX11_within : ByteArray := prog_13_method_2_code
def yX11_within : MethodName := ⟨RX11, "within", "(III)Z"⟩
abbrev cX11_isOne : ByteArray := prog_13_method_3_code
def yX11_isOne : MethodName := ⟨RX11, "isOne", "(I)Z"⟩
abbrev cX11_isAny : ByteArray := prog_13_method_4_code
def yX11_isAny : MethodName := ⟨RX11, "isAny", "(I)Z"⟩
abbrev cX11_isEvent : ByteArray := prog_13_method_5_code
def yX11_isEvent : MethodName := ⟨RX11, "isEvent", "(I)Z"⟩
abbrev cX11_tell : ByteArray := prog_13_method_6_code
def yX11_tell : MethodName := ⟨RX11, "tell", "(III)I"⟩
abbrev cX11_drop : ByteArray := prog_13_method_7_code
def yX11_drop : MethodName := ⟨RX11, "drop", "(II)I"⟩
abbrev cX11_becomes : ByteArray := prog_13_method_8_code
def yX11_becomes : MethodName := ⟨RX11, "becomes", "(II)I"⟩
abbrev cX11_yes : ByteArray := prog_13_method_9_code
def yX11_yes : MethodName := ⟨RX11, "yes", "(I)I"⟩
abbrev cX11_no : ByteArray := prog_13_method_10_code
def yX11_no : MethodName := ⟨RX11, "no", "(I)I"⟩
abbrev cX11_open : ByteArray := prog_13_method_11_code
def yX11_open : MethodName := ⟨RX11, "open", "(I)I"⟩
abbrev cX11_weigh : ByteArray := prog_13_method_12_code
def yX11_weigh : MethodName := ⟨RX11, "weigh", "(II)I"⟩
abbrev cX11_toldBy : ByteArray := prog_13_method_13_code
def yX11_toldBy : MethodName := ⟨RX11, "toldBy", "(II)I"⟩
abbrev cX11_told : ByteArray := prog_13_method_14_code
def yX11_told : MethodName := ⟨RX11, "told", "(II)I"⟩
abbrev cX11_came : ByteArray := prog_13_method_15_code
def yX11_came : MethodName := ⟨RX11, "came", "(I)I"⟩
abbrev cX11_key : ByteArray := prog_13_method_16_code
def yX11_key : MethodName := ⟨RX11, "key", "(I)I"⟩
abbrev cX11_wipe : ByteArray := prog_13_method_17_code
def yX11_wipe : MethodName := ⟨RX11, "wipe", "()I"⟩
abbrev cX11_wordLong : ByteArray := prog_13_method_18_code
def yX11_wordLong : MethodName := ⟨RX11, "wordLong", "(I)I"⟩
abbrev cX11_readsWord : ByteArray := prog_13_method_19_code
def yX11_readsWord : MethodName := ⟨RX11, "readsWord", "()Z"⟩
abbrev cX11_manyNumbers : ByteArray := prog_13_method_20_code
def yX11_manyNumbers : MethodName := ⟨RX11, "manyNumbers", "(I)I"⟩
abbrev cX11_greatest : ByteArray := prog_13_method_21_code
def yX11_greatest : MethodName := ⟨RX11, "greatest", "(II)I"⟩
abbrev cX11_isFigure : ByteArray := prog_13_method_22_code
def yX11_isFigure : MethodName := ⟨RX11, "isFigure", "()Z"⟩
abbrev cX11_readsNumber : ByteArray := prog_13_method_23_code
def yX11_readsNumber : MethodName := ⟨RX11, "readsNumber", "(I)Z"⟩
abbrev cX11_readsLine : ByteArray := prog_13_method_24_code
def yX11_readsLine : MethodName := ⟨RX11, "readsLine", "()Z"⟩
abbrev cX11_line : ByteArray := prog_13_method_25_code
def yX11_line : MethodName := ⟨RX11, "line", "()I"⟩
abbrev cX11_does : ByteArray := prog_13_method_26_code
def yX11_does : MethodName := ⟨RX11, "does", "()I"⟩
abbrev cX11_isOnTape : ByteArray := prog_13_method_27_code
def yX11_isOnTape : MethodName := ⟨RX11, "isOnTape", "(I)Z"⟩
abbrev cX11_rule : ByteArray := prog_13_method_28_code
def yX11_rule : MethodName := ⟨RX11, "rule", "()I"⟩
abbrev cX11_missOf : ByteArray := prog_13_method_29_code
def yX11_missOf : MethodName := ⟨RX11, "missOf", "(IZ)I"⟩
abbrev cX11_miss : ByteArray := prog_13_method_30_code
def yX11_miss : MethodName := ⟨RX11, "miss", "(II)I"⟩
abbrev cX11_isCase : ByteArray := prog_13_method_31_code
def yX11_isCase : MethodName := ⟨RX11, "isCase", "(II)Z"⟩
abbrev cX11_cases : ByteArray := prog_13_method_32_code
def yX11_cases : MethodName := ⟨RX11, "cases", "(I)I"⟩
abbrev cX11_misses : ByteArray := prog_13_method_33_code
def yX11_misses : MethodName := ⟨RX11, "misses", "(I)J"⟩
abbrev cX11_becomesFraction : ByteArray := prog_13_method_34_code
def yX11_becomesFraction : MethodName := ⟨RX11, "becomesFraction", "(JJ)V"⟩
abbrev cX11_adds : ByteArray := prog_13_method_35_code
def yX11_adds : MethodName := ⟨RX11, "adds", "(JJ)V"⟩
abbrev cX11_part : ByteArray := prog_13_method_36_code
def yX11_part : MethodName := ⟨RX11, "part", "(I)J"⟩
abbrev cX11_score : ByteArray := prog_13_method_37_code
def yX11_score : MethodName := ⟨RX11, "score", "(II)J"⟩
abbrev cX11_isAhead : ByteArray := prog_13_method_38_code
def yX11_isAhead : MethodName := ⟨RX11, "isAhead", "(II)Z"⟩
abbrev cX11_rank : ByteArray := prog_13_method_39_code
def yX11_rank : MethodName := ⟨RX11, "rank", "(I)I"⟩
abbrev cX11_sumBy : ByteArray := prog_13_method_40_code
def yX11_sumBy : MethodName := ⟨RX11, "sumBy", "(II)I"⟩
abbrev cX11_lureOf : ByteArray := prog_13_method_41_code
def yX11_lureOf : MethodName := ⟨RX11, "lureOf", "(I)I"⟩
abbrev cX11_lure : ByteArray := prog_13_method_42_code
def yX11_lure : MethodName := ⟨RX11, "lure", "(I)I"⟩
abbrev cX11_honest : ByteArray := prog_13_method_43_code
def yX11_honest : MethodName := ⟨RX11, "honest", "()I"⟩
abbrev cX11_cuts : ByteArray := prog_13_method_44_code
def yX11_cuts : MethodName := ⟨RX11, "cuts", "()I"⟩
abbrev cX11_cut : ByteArray := prog_13_method_45_code
def yX11_cut : MethodName := ⟨RX11, "cut", "(I)I"⟩
abbrev cX11_binOf : ByteArray := prog_13_method_46_code
def yX11_binOf : MethodName := ⟨RX11, "binOf", "(I)I"⟩
abbrev cX11_counts : ByteArray := prog_13_method_47_code
def yX11_counts : MethodName := ⟨RX11, "counts", "(I)V"⟩
abbrev cX11_leastIn : ByteArray := prog_13_method_48_code
def yX11_leastIn : MethodName := ⟨RX11, "leastIn", "(I)I"⟩
abbrev cX11_greatestIn : ByteArray := prog_13_method_49_code
def yX11_greatestIn : MethodName := ⟨RX11, "greatestIn", "(I)I"⟩
abbrev cX11_bin : ByteArray := prog_13_method_50_code
def yX11_bin : MethodName := ⟨RX11, "bin", "(III)I"⟩
abbrev cX11_inBin : ByteArray := prog_13_method_51_code
def yX11_inBin : MethodName := ⟨RX11, "inBin", "(II)J"⟩
abbrev cX11_wholeOf : ByteArray := prog_13_method_52_code
def yX11_wholeOf : MethodName := ⟨RX11, "wholeOf", "(I)J"⟩
abbrev cX11_addPart : ByteArray := prog_13_method_53_code
def yX11_addPart : MethodName := ⟨RX11, "addPart", "(II)V"⟩
abbrev cX11_noFraction : ByteArray := prog_13_method_54_code
def yX11_noFraction : MethodName := ⟨RX11, "noFraction", "()V"⟩
abbrev cX11_split : ByteArray := prog_13_method_55_code
def yX11_split : MethodName := ⟨RX11, "split", "(III)J"⟩
abbrev cX11_joined : ByteArray := prog_13_method_56_code
def yX11_joined : MethodName := ⟨RX11, "joined", "(III)J"⟩
abbrev cX11_area : ByteArray := prog_13_method_57_code
def yX11_area : MethodName := ⟨RX11, "area", "(II)J"⟩
abbrev cX11_isFlat : ByteArray := prog_13_method_58_code
def yX11_isFlat : MethodName := ⟨RX11, "isFlat", "(I)Z"⟩
abbrev cX11_joinsLast : ByteArray := prog_13_method_59_code
def yX11_joinsLast : MethodName := ⟨RX11, "joinsLast", "()V"⟩
abbrev cX11_findPools : ByteArray := prog_13_method_60_code
def yX11_findPools : MethodName := ⟨RX11, "findPools", "(I)V"⟩
abbrev cX11_pools : ByteArray := prog_13_method_61_code
def yX11_pools : MethodName := ⟨RX11, "pools", "(I)I"⟩
abbrev cX11_pool : ByteArray := prog_13_method_62_code
def yX11_pool : MethodName := ⟨RX11, "pool", "(III)I"⟩
abbrev cX11_flat : ByteArray := prog_13_method_63_code
def yX11_flat : MethodName := ⟨RX11, "flat", "(II)J"⟩
abbrev cX11_compares : ByteArray := prog_13_method_64_code
def yX11_compares : MethodName := ⟨RX11, "compares", "(II)V"⟩
abbrev cX11_better : ByteArray := prog_13_method_65_code
def yX11_better : MethodName := ⟨RX11, "better", "(III)I"⟩
abbrev cX11_choose : ByteArray := prog_13_method_66_code
def yX11_choose : MethodName := ⟨RX11, "choose", "(II)J"⟩
abbrev cX11_luck : ByteArray := prog_13_method_67_code
def yX11_luck : MethodName := ⟨RX11, "luck", "(III)J"⟩
abbrev cX11_writes : ByteArray := prog_13_method_68_code
def yX11_writes : MethodName := ⟨RX11, "writes", "(I)V"⟩
abbrev cX11_writesNumber : ByteArray := prog_13_method_69_code
def yX11_writesNumber : MethodName := ⟨RX11, "writesNumber", "(J)V"⟩
abbrev cX11_writesReport : ByteArray := prog_13_method_70_code
def yX11_writesReport : MethodName := ⟨RX11, "writesReport", "(I)V"⟩
abbrev cX11_report : ByteArray := prog_13_method_71_code
def yX11_report : MethodName := ⟨RX11, "report", "(II)I"⟩
abbrev cX11_many : ByteArray := prog_13_method_72_code
def yX11_many : MethodName := ⟨RX11, "many", "(I)I"⟩
def RJx29ce0 : String := "java/lang/Enum"
def RJ6 : String := "java/lang/Integer"
abbrev cJ6_compare_7cf53 : ByteArray := prog_15_method_40_code
def yJ6_compare_7cf53 : MethodName := ⟨RJ6, "compare", "(II)I"⟩
def RJ9 : String := "java/lang/Math"
abbrev cJ9_abs_067f4 : ByteArray := prog_16_method_61_code
def yJ9_abs_067f4 : MethodName := ⟨RJ9, "abs", "(J)J"⟩
abbrev cJ9_max_7cf53 : ByteArray := prog_16_method_65_code
def yJ9_max_7cf53 : MethodName := ⟨RJ9, "max", "(II)I"⟩
def RJ0 : String := "java/lang/String"
abbrev cJ0_length_8abf5 : ByteArray := prog_17_method_54_code
def yJ0_length_8abf5 : MethodName := ⟨RJ0, "length", "()I"⟩
abbrev cJ0_charAt_5068e : ByteArray := prog_17_method_56_code
def yJ0_charAt_5068e : MethodName := ⟨RJ0, "charAt", "(I)C"⟩
abbrev cJ0_coder_7d493 : ByteArray := prog_17_method_152_code
def yJ0_coder_7d493 : MethodName := ⟨RJ0, "coder", "()B"⟩
abbrev cJ0_isLatin1_aae02 : ByteArray := prog_17_method_154_code
def yJ0_isLatin1_aae02 : MethodName := ⟨RJ0, "isLatin1", "()Z"⟩
abbrev cJ0_checkIndex_df160 : ByteArray := prog_17_method_155_code
def yJ0_checkIndex_df160 : MethodName := ⟨RJ0, "checkIndex", "(II)V"⟩
def RJ1 : String := "java/lang/StringLatin1"
abbrev cJ1_charAt_3b067 : ByteArray := prog_18_method_2_code
def yJ1_charAt_3b067 : MethodName := ⟨RJ1, "charAt", "([BI)C"⟩
def RJ2 : String := "java/lang/StringUTF16"
abbrev cJ2_getChar_3b067 : ByteArray := prog_19_method_5_code
def yJ2_getChar_3b067 : MethodName := ⟨RJ2, "getChar", "([BI)C"⟩
abbrev cJ2_length_9d52b : ByteArray := prog_19_method_6_code
def yJ2_length_9d52b : MethodName := ⟨RJ2, "length", "([B)I"⟩
abbrev cJ2_charAt_3b067 : ByteArray := prog_19_method_83_code
def yJ2_charAt_3b067 : MethodName := ⟨RJ2, "charAt", "([BI)C"⟩
abbrev cJ2_checkIndex_2214a : ByteArray := prog_19_method_91_code
def yJ2_checkIndex_2214a : MethodName := ⟨RJ2, "checkIndex", "(I[B)V"⟩
def RJ3 : String := "jdk/internal/util/Preconditions"
abbrev cJ3_checkIndex_8e157 : ByteArray := prog_20_method_11_code
def yJ3_checkIndex_8e157 : MethodName := ⟨RJ3, "checkIndex", "(IILjava/util/function/BiFunction;)I"⟩
def RL : String := "ToldChancesLaw"
abbrev cL_law : ByteArray := code
def yL_law : MethodName := ⟨RL, "law", "([I)Z"⟩
end
section
/-! A walk is not written out instruction by instruction: each instruction is a small function on predicates (tb_..: what must hold ahead of it so that what is asked for holds behind it), and one law (to_..) says that the machine does so. A method's blocks are made of them (by a program); what a block asks is then plain mathematics over tc_S. -/
/-- values: an int, a long, a reference (its kind, its number) -/
abbrev tc_V : Type := Int32 ⊕ Int64 ⊕ (Nat × Nat)
/-- the state: what the cells of ints hold, what the cells of longs hold (a cell, a place), the rule -/
abbrev tc_S : Type := (Nat → Nat → Int32) × (Nat → Nat → Int64) × Nat
abbrev tc_L : Type := List (Nat × tc_V)
abbrev tc_B : Type := tc_L → List tc_V → tc_S → Prop
abbrev tc_Q : Type := Option tc_V → tc_S → Prop
abbrev tc_I (x : Int32) : tc_V := .inl x
abbrev tc_J (x : Int64) : tc_V := .inr (.inl x)
abbrev tc_R (k i : Nat) : tc_V := .inr (.inr (k, i))
def tc_v (ad : Nat → Nat → Nat) : tc_V → Value
  | .inl x => .int x
  | .inr (.inl x) => .long x
  | .inr (.inr q) => .ref (ad q.1 q.2)
def tc_cat : tc_V → Nat
  | .inr (.inl _) => 2
  | _ => 1
theorem tc_cat_v (ad : Nat → Nat → Nat) (v : tc_V) : (tc_v ad v).category = tc_cat v := by
  rcases v with x | x | q <;> rfl
def tc_ui (S : tc_S) (i k : Nat) (x : Int32) : tc_S := (fun j => if j = i then upd (S.1 j) k x else S.1 j, S.2)
def tc_ul (S : tc_S) (i k : Nat) (x : Int64) : tc_S := (S.1, fun j => if j = i then vp_updL (S.2.1 j) k x else S.2.1 j, S.2.2)
def tc_ur (S : tc_S) (r : Nat) : tc_S := (S.1, S.2.1, r)
/-- the classes of the world's objects -/
abbrev tc_cl : List vw_C := [(RX0, TX0, 7), (RX1, TX1, 3), (RX2, TX2, 4), (RX4, TX4, 2), (RX5, TX5, 3), (RX6, TX6, 2), (RX7, TX7, 7), (RX9, TX9, 2), (RX10, TX10, 14), (RX11, TX11, 30)]
/-- the kinds of arrays: 0 int, 1 boolean, 2 long -/
abbrev tc_ty (cA : Nat → ClassId) : List (ClassId × FieldType) := [(cA 0, .int), (cA 1, .boolean), (cA 2, .long)]
abbrev tc_C : Type := (Nat × List (Nat × Nat)) ⊕ (Nat × Nat)
/-- the world's cells: an object (its class, its fields: 0 an int, 1 a long, 2 a cell, 3 the rule) or an array (its kind, its length) -/
def tc_lay : List tc_C := [
  .inl (8, [(2, 1), (2, 2), (2, 3), (2, 4), (2, 5), (2, 6), (2, 7), (2, 8), (2, 9), (2, 10), (2, 11), (2, 12), (2, 13), (3, 0)]),
  .inl (1, [(2, 14), (2, 15), (2, 16)]),
  .inl (7, [(2, 17), (0, 0)]),
  .inl (4, [(2, 18), (0, 0), (0, 0)]),
  .inl (2, [(2, 19), (2, 20), (0, 0), (0, 0)]),
  .inl (0, [(2, 21), (0, 0), (2, 22), (2, 23), (2, 24), (2, 25), (2, 26)]),
  .inl (6, [(2, 27), (2, 28), (2, 29), (2, 30), (2, 31), (2, 32), (0, 0)]),
  .inl (3, [(1, 0), (1, 0)]),
  .inl (3, [(1, 0), (1, 0)]),
  .inl (5, [(2, 33), (0, 0)]),
  .inr (2, 5), .inr (0, 5), .inr (0, 3), .inr (0, 4),
  .inr (0, 160), .inr (0, 4), .inr (0, 40),
  .inr (0, 24), .inr (0, 3),
  .inr (0, 40), .inr (1, 40),
  .inr (0, 9), .inr (0, 10), .inr (0, 10), .inr (0, 10), .inr (0, 10), .inr (0, 10),
  .inr (0, 101), .inr (0, 101), .inr (0, 40), .inr (0, 40), .inr (0, 40), .inr (0, 40),
  .inr (0, 100),
  .inl (9, [(2, 35), (2, 36), (2, 37), (2, 38), (0, 0), (2, 39), (0, 0), (0, 0), (2, 40), (0, 0), (1, 0), (1, 0), (2, 41), (2, 42), (2, 43), (2, 44), (2, 45), (2, 46), (0, 0), (0, 0), (0, 0), (2, 47), (2, 48), (2, 49), (2, 50), (0, 0), (0, 0), (0, 0), (2, 51), (0, 0)]),
  .inr (0, 160), .inr (0, 40), .inr (0, 4), .inr (0, 24), .inr (0, 60), .inr (0, 3), .inr (1, 101),
  .inr (0, 10), .inr (0, 10), .inr (0, 10), .inr (0, 10), .inr (0, 10),
  .inr (0, 101), .inr (0, 101), .inr (0, 101), .inr (0, 101), .inr (0, 100)]
def tc_fv (S : tc_S) (i k : Nat) (f : Nat × Nat) : tc_V := match f.1 with
  | 0 => .inl (S.1 i k)
  | 1 => .inr (.inl (S.2.1 i k))
  | 2 => .inr (.inr (0, f.2))
  | _ => .inr (.inr (1, S.2.2))
def tc_cell (ad : Nat → Nat → Nat) (cA : Nat → ClassId) (S : tc_S) (i : Nat) (c : tc_C) : Nat × va_E := (ad 0 i, match c with
  | .inl o => .inr (o.1, o.2.mapIdx (fun k f => tc_v ad (tc_fv S i k f)))
  | .inr a => .inl (cA a.1, a.2, if a.1 = 2 then .inr (.inl (S.2.1 i)) else .inl (S.1 i)))
def tc_W (ad : Nat → Nat → Nat) (cA : Nat → ClassId) (S : tc_S) : va_W := tc_lay.mapIdx (fun i c => tc_cell ad cA S i c)
theorem tc_W_at {ad : Nat → Nat → Nat} {cA : Nat → ClassId} {S : tc_S} {i : Nat} {c : tc_C} (h : tc_lay[i]? = some c) : (tc_W ad cA S)[i]? = some (tc_cell ad cA S i c) := by
  simp only [tc_W, List.getElem?_mapIdx, h, Option.map_some]
theorem tc_W_set {ad : Nat → Nat → Nat} {cA : Nat → ClassId} {S S' : tc_S} {i : Nat} {c : tc_C} {q : Nat × va_E} (h : tc_lay[i]? = some c) (hq : tc_cell ad cA S' i c = q) (ho : ∀ (j : Nat) (c' : tc_C), j ≠ i → tc_lay[j]? = some c' → tc_cell ad cA S' j c' = tc_cell ad cA S j c') : (tc_W ad cA S).set i q = tc_W ad cA S' := by
  apply List.ext_getElem?
  intro j
  rw [List.getElem?_set]
  by_cases hj : i = j
  · subst hj
    have h1 : i < (tc_W ad cA S).length := by
      have := (List.getElem?_eq_some_iff.mp (tc_W_at (ad := ad) (cA := cA) (S := S) h)).1
      exact this
    rw [if_pos rfl, if_pos h1, tc_W_at h, hq]
  · rw [if_neg hj]
    cases hc : tc_lay[j]? with
    | none => simp only [tc_W, List.getElem?_mapIdx, hc, Option.map_none]
    | some c' => rw [tc_W_at hc, tc_W_at hc, ho j c' (fun e => hj e.symm) hc]
theorem tc_cell_ui {ad : Nat → Nat → Nat} {cA : Nat → ClassId} {S : tc_S} {i k j : Nat} {x : Int32} {c : tc_C} (h : j ≠ i) : tc_cell ad cA (tc_ui S i k x) j c = tc_cell ad cA S j c := by
  have e : (tc_ui S i k x).1 j = S.1 j := if_neg h
  have e2 : (tc_ui S i k x).2 = S.2 := rfl
  have ef : ∀ k', tc_fv (tc_ui S i k x) j k' = tc_fv S j k' := by
    intro k'
    funext f
    simp only [tc_fv, e, e2]
  simp only [tc_cell, e, e2, ef]
theorem tc_cell_ul {ad : Nat → Nat → Nat} {cA : Nat → ClassId} {S : tc_S} {i k j : Nat} {x : Int64} {c : tc_C} (h : j ≠ i) : tc_cell ad cA (tc_ul S i k x) j c = tc_cell ad cA S j c := by
  have e : (tc_ul S i k x).2.1 j = S.2.1 j := if_neg h
  have e1 : (tc_ul S i k x).1 = S.1 := rfl
  have e2 : (tc_ul S i k x).2.2 = S.2.2 := rfl
  have ef : ∀ k', tc_fv (tc_ul S i k x) j k' = tc_fv S j k' := by
    intro k'
    funext f
    simp only [tc_fv, e, e1, e2]
  simp only [tc_cell, e, e1, ef]
/-- the rule stands in cell 0 alone -/
theorem tc_lay_r : ∀ (j : Nat) (c : tc_C), j ≠ 0 → tc_lay[j]? = some c → (match c with
    | .inl o => o.2.all (fun f => f.1 != 3)
    | .inr _ => true) = true := by
  intro j c hj h
  have h0 : (tc_lay.drop 1).all (fun c => match c with
    | .inl o => o.2.all (fun f => f.1 != 3)
    | .inr _ => true) = true := by decide +kernel
  obtain ⟨i, rfl⟩ : ∃ i, j = i + 1 := ⟨j - 1, by omega⟩
  have h1 : (tc_lay.drop 1)[i]? = some c := by
    rw [List.getElem?_drop, Nat.add_comm]
    exact h
  exact List.all_eq_true.mp h0 c (List.mem_of_getElem? h1)
/-- what never changes: statics, constants, their texts -/
def tc_zs : List (String × String × String × tc_V) := [("ToldChances$Rule", "SQUARE", "LToldChances$Rule;", tc_R 1 0), ("ToldChances$Rule", "LINE", "LToldChances$Rule;", tc_R 1 1), ("ToldChances$Rule", "EDGE", "LToldChances$Rule;", tc_R 1 2), ("ToldChances$Rule", "CUBE", "LToldChances$Rule;", tc_R 1 3),
  ("ToldChances$Command", "TELL", "LToldChances$Command;", tc_R 2 0), ("ToldChances$Command", "DROP", "LToldChances$Command;", tc_R 2 1), ("ToldChances$Command", "YES", "LToldChances$Command;", tc_R 2 2), ("ToldChances$Command", "NO", "LToldChances$Command;", tc_R 2 3), ("ToldChances$Command", "OPEN", "LToldChances$Command;", tc_R 2 4), ("ToldChances$Command", "WEIGH", "LToldChances$Command;", tc_R 2 5),
  ("ToldChances", "RULES", "[LToldChances$Rule;", tc_R 4 0), ("ToldChances", "COMMANDS", "[LToldChances$Command;", tc_R 4 1), ("java/lang/String", "COMPACT_STRINGS", "Z", tc_I 1)]
/-- fields of constants: kind and how many, declarer, name, descriptor, what they hold -/
def tc_fs : List ((Nat × Nat) × String × String × String × (Nat → tc_V)) := [((1, 4), "ToldChances$Rule", "number", "I", fun i => tc_I (nI i)), ((1, 4), "ToldChances$Rule", "word", "Ljava/lang/String;", fun i => tc_R 3 i),
  ((2, 6), "ToldChances$Command", "word", "Ljava/lang/String;", fun i => tc_R 3 (4 + i)), ((2, 6), "ToldChances$Command", "numbers", "I", fun i => tc_I ([3, 2, 1, 1, 1, 2].getD i 0)), ((2, 6), "ToldChances$Command", "first", "I", fun i => tc_I ([3, 3, 39, 39, 39, 3].getD i 0)), ((2, 6), "ToldChances$Command", "second", "I", fun i => tc_I ([39, 39, 0, 0, 0, 9].getD i 0)), ((2, 6), "ToldChances$Command", "third", "I", fun i => tc_I ([100, 0, 0, 0, 0, 0].getD i 0))]
def tc_len : List Nat := [6, 4, 4, 4, 4, 4, 3, 2, 4, 5]
def tc_byt : List (List Int32) := [[115, 113, 117, 97, 114, 101], [108, 105, 110, 101], [101, 100, 103, 101], [99, 117, 98, 101], [116, 101, 108, 108], [100, 114, 111, 112], [121, 101, 115], [110, 111], [111, 112, 101, 110], [119, 101, 105, 103, 104]]
def tc_St (ad : Nat → Nat → Nat) (A : Nat → Prop) (U : State) (H : Heap) : Prop :=
  (∀ z ∈ tc_zs, va_Z z.1 z.2.1 z.2.2.1 (tc_v ad z.2.2.2) A U H) ∧ (∀ i, i < 4 → va_O "ToldChances$Rule" (ad 1 i) A U H) ∧ (∀ i, i < 6 → va_O "ToldChances$Command" (ad 2 i) A U H) ∧ vk_S 10 tc_len tc_byt (ad 3) (ad 6) A U H ∧
  (∀ f ∈ tc_fs, ∀ i, i < f.1.2 → va_OF f.2.1 f.2.2.1 f.2.2.2.1 (tc_v ad (f.2.2.2.2 i)) (ad f.1.1 i) A U H) ∧
  va_T (.object "ToldChances$Rule") (ad 4 0) 4 (fun j => .ref (ad 1 j)) A U H ∧ va_T (.object "ToldChances$Command") (ad 4 1) 6 (fun j => .ref (ad 2 j)) A U H ∧
  (∀ i j, i < 4 → j < 4 → ad 1 i = ad 1 j → i = j) ∧ (∀ i j, i < 6 → j < 6 → ad 2 i = ad 2 j → i = j) ∧ va_Zq "jdk/internal/util/Preconditions" "SIOOBE_FORMATTER" "Ljava/util/function/BiFunction;" A U H
theorem tc_St.moved {ad : Nat → Nat → Nat} {A : Nat → Prop} {u U : State} {H : Heap} (hvm : u.vm.Alike U.vm) (h : tc_St ad A u H) : tc_St ad A U H := by
  obtain ⟨h1, h2, h3, h4, h5, h6, h7, h8, h9, h10⟩ := h
  exact ⟨fun z hz => (h1 z hz).moved hvm, fun i hi => (h2 i hi).moved hvm, fun i hi => (h3 i hi).moved hvm, h4.moved hvm, fun f hf i hi => (h5 f hf i hi).moved hvm, h6.moved hvm, h7.moved hvm, h8, h9, h10.moved hvm⟩
theorem tc_St.kept {ad : Nat → Nat → Nat} {A : Nat → Prop} {U : State} {H H1 : Heap} (h : tc_St ad A U H) (hq : ∀ a : Nat, a < H.size → ¬ A a → H1[a]? = H[a]?) : tc_St ad A U H1 := by
  obtain ⟨h1, h2, h3, h4, h5, h6, h7, h8, h9, h10⟩ := h
  exact ⟨fun z hz => (h1 z hz).kept hq, fun i hi => (h2 i hi).kept hq, fun i hi => (h3 i hi).kept hq, h4.kept hq, fun f hf i hi => (h5 f hf i hi).kept hq, h6.kept hq, h7.kept hq, h8, h9, h10.kept hq⟩
theorem tc_St.narrow {ad : Nat → Nat → Nat} {A B : Nat → Prop} {U : State} {H : Heap} (h : tc_St ad A U H) (hAB : ∀ q, B q → A q) : tc_St ad B U H := by
  obtain ⟨h1, h2, h3, h4, h5, h6, h7, h8, h9, h10⟩ := h
  exact ⟨fun z hz => (h1 z hz).narrow hAB, fun i hi => (h2 i hi).narrow hAB, fun i hi => (h3 i hi).narrow hAB, h4.narrow hAB, fun f hf i hi => (h5 f hf i hi).narrow hAB, h6.narrow hAB, h7.narrow hAB, h8, h9, h10.narrow hAB⟩
/-- where a method stands: all that doesn't change while it runs -/
abbrev tc_Z : Type := Program × Launch × Env × Room × State × MethodId × Array Value × List Frame × Method × Code × (Nat × Nat) × (State → Prop) × List Cond × va_G × (Nat → Nat → Nat) × (Nat → ClassId) × (Nat → Prop)
def tc_Cx (R : Room) (cc : ByteArray) (nL : Nat) (own : String) (Z : tc_Z) : Prop := match Z with
  | (p, _, _, R', s, m, args, _, _, c, n, _, Ts, D, ad, cA, A) => R' = R ∧ CallFix p m c cc nL s args Ts own ∧ va_K D tc_cl (tc_ty cA) s ∧ (∀ q, s.heap.size ≤ q → A q) ∧ tc_St ad A s s.heap ∧ (∀ w ∈ tc_tb, w ∈ Ts) ∧ (n.1 ≤ R.cells ∧ n.2 ≤ R.slots)
abbrev tc_cL (ad : Nat → Nat → Nat) (L : tc_L) : List (Nat × Value) := L.map (fun q => (q.1, tc_v ad q.2))
def tc_At (nL : Nat) (Z : tc_Z) (pc : Nat) : tc_B := fun L K S => match Z with
  | (p, l, e, R, s, m, args, below, meth, c, n, Q, _, D, ad, cA, A) => ∀ (H : Heap) (locs : List Loc) (ls : Array Slot), va_P D tc_cl (tc_W ad cA S) H → va_D A (tc_W ad cA S) → va_S A s.heap H locs → lv_has ls nL (tc_cL ad L) → W p l e R s m args below meth c H locs n.1 n.2 Q (F0 m pc ls (K.map (tc_v ad)))
def tc_Ok (nL : Nat) (Z : tc_Z) (pc : Nat) (b : tc_B) : Prop := ∀ L K S, b L K S → tc_At nL Z pc L K S
/-! locals -/
def tc_lk : tc_L → Nat → Option tc_V
  | [], _ => none
  | (j, v) :: r, i => match Nat.beq j i with
    | true => some v
    | false => tc_lk r i
theorem tc_lk_mem {L : tc_L} {i : Nat} {v : tc_V} (h : tc_lk L i = some v) : (i, v) ∈ L := by
  induction L with
  | nil => cases h
  | cons q r ih =>
    obtain ⟨j, w⟩ := q
    simp only [tc_lk] at h
    split at h
    · rename_i e
      have : j = i := Nat.eq_of_beq_eq_true e
      subst this
      cases h
      exact List.mem_cons_self
    · exact List.mem_cons_of_mem _ (ih h)
theorem tc_ld {ad : Nat → Nat → Nat} {ls : Array Slot} {nL : Nat} {L : tc_L} (hl : lv_has ls nL (tc_cL ad L)) {i : Nat} {v : tc_V} (h : tc_lk L i = some v) : ls[i]? = some (.val (tc_v ad v)) :=
  hl.2.2 (i, tc_v ad v) (List.mem_map.mpr ⟨(i, v), tc_lk_mem h, rfl⟩)
def tc_st1 (L : tc_L) (i : Nat) (v : tc_V) : tc_L := (i, v) :: L.filter (fun q => !(q.1 == i) && !(q.1 + 1 == i && tc_cat q.2 == 2))
def tc_st2 (L : tc_L) (i : Nat) (v : tc_V) : tc_L := (i, v) :: L.filter (fun q => !(q.1 == i) && (!(q.1 == i + 1) && !(q.1 + 1 == i && tc_cat q.2 == 2)))
theorem tc_st1_c (ad : Nat → Nat → Nat) (L : tc_L) (i : Nat) (v : tc_V) : (i, tc_v ad v) :: (tc_cL ad L).filter (fun q => !(q.1 == i) && !(q.1 + 1 == i && q.2.category == 2)) = tc_cL ad (tc_st1 L i v) := by
  simp only [tc_st1, tc_cL, List.map_cons, List.filter_map, Function.comp_def, tc_cat_v]
theorem tc_st2_c (ad : Nat → Nat → Nat) (L : tc_L) (i : Nat) (v : tc_V) : (i, tc_v ad v) :: (tc_cL ad L).filter (fun q => !(q.1 == i) && (!(q.1 == i + 1) && !(q.1 + 1 == i && q.2.category == 2))) = tc_cL ad (tc_st2 L i v) := by
  simp only [tc_st2, tc_cL, List.map_cons, List.filter_map, Function.comp_def, tc_cat_v]
def tc_mask (live : List Nat) (L : tc_L) : tc_L := live.filterMap (fun i => (tc_lk L i).map (fun v => (i, v)))
theorem tc_mask_has {ad : Nat → Nat → Nat} {ls : Array Slot} {nL : Nat} {L : tc_L} (hl : lv_has ls nL (tc_cL ad L)) (live : List Nat) : lv_has ls nL (tc_cL ad (tc_mask live L)) := by
  refine ⟨hl.1, hl.2.1, fun q hq => ?_⟩
  obtain ⟨q', hq', rfl⟩ := List.mem_map.mp hq
  obtain ⟨i, -, hi⟩ := List.mem_filterMap.mp hq'
  cases hv : tc_lk L i with
  | none => rw [hv] at hi; cases hi
  | some v =>
    rw [hv] at hi
    cases hi
    exact tc_ld hl hv
def tc_num : Nat → List tc_V → tc_L
  | _, [] => []
  | i, v :: r => (i, v) :: tc_num (i + tc_cat v) r
theorem tc_num_c (ad : Nat → Nat → Nat) : ∀ (vs : List tc_V) (i : Nat), lv_args i (vs.map (tc_v ad)) = tc_cL ad (tc_num i vs) := by
  intro vs
  induction vs with
  | nil => intro i; rfl
  | cons v r ih =>
    intro i
    simp only [List.map_cons, lv_args, tc_num, tc_cat_v]
    rw [ih]
    rcases v with x | x | q <;> rfl
theorem tc_sl_len (ad : Nat → Nat → Nat) (vs : List tc_V) : (lg_sl (vs.map (tc_v ad))).length = (vs.map tc_cat).sum := by
  induction vs with
  | nil => rfl
  | cons v r ih =>
    have e : lg_sl ((v :: r).map (tc_v ad)) = (if (tc_v ad v).category = 2 then [.val (tc_v ad v), .second] else [.val (tc_v ad v)]) ++ lg_sl (r.map (tc_v ad)) := by
      simp only [lg_sl, List.map_cons, List.flatMap_cons]
    rw [e, List.length_append, ih, List.map_cons, List.sum_cons, tc_cat_v]
    rcases v with x | x | q <;> rfl
end
section
/-! one row an instruction -/
section TCROWS
variable {R : Room} {cc : ByteArray} {nL : Nat} {own : String} {Z : tc_Z} {pc : Nat} {k kt kf : tc_B}
def tb_cut (P : tc_B) (live : List Nat) : tc_B := fun L K S => P (tc_mask live L) K S
theorem to_cut {P : tc_B} (live : List Nat) (h : tc_Ok nL Z pc P) : tc_Ok nL Z pc (tb_cut P live) := by
  obtain ⟨p, l, e, R', s, m, args, below, meth, c, n, Q, Ts, D, ad, cA, A⟩ := Z
  intro L K S hb9 H locs ls hP hD hS hl
  exact h _ _ _ hb9 H locs ls hP hD hS (tc_mask_has hl live)
theorem to_at {L : tc_L} {K : List tc_V} {S : tc_S} {b : tc_B} (h : tc_Ok nL Z pc b) (hb : b L K S) : tc_At nL Z pc L K S := h L K S hb
-- constants
def tb_i (x : Int32) (k : tc_B) : tc_B := fun L K S => k L (.inl x :: K) S
def tb_j (x : Int64) (k : tc_B) : tc_B := fun L K S => k L (.inr (.inl x) :: K) S
theorem to_iconst {n : Int} {x : Int32} (X : tc_Cx R cc nL own Z) (hd : decode cc pc = .ok (.iconst n, 1)) (hv : Int32.ofInt n = x) (h : tc_Ok nL Z (pc + 1) k) : tc_Ok nL Z pc (tb_i x k) := by
  obtain ⟨p, l, e, R', s, m, args, below, meth, c, n, Q, Ts, D, ad, cA, A⟩ := Z
  obtain ⟨rfl, ⟨hx, hb, hml, hown, hts⟩, hK, hA, hSt, hTs, hn⟩ := X
  intro L K S hb9 H locs ls hP hD hS hl
  exact lv_iconst hx hb hd hv (h _ _ _ hb9 H locs ls hP hD hS hl)
theorem to_bipush {n : Int} {x : Int32} (X : tc_Cx R cc nL own Z) (hd : decode cc pc = .ok (.bipush n, 2)) (hv : (Int8.ofInt n).toInt32 = x) (h : tc_Ok nL Z (pc + 2) k) : tc_Ok nL Z pc (tb_i x k) := by
  obtain ⟨p, l, e, R', s, m, args, below, meth, c, n, Q, Ts, D, ad, cA, A⟩ := Z
  obtain ⟨rfl, ⟨hx, hb, hml, hown, hts⟩, hK, hA, hSt, hTs, hn⟩ := X
  intro L K S hb9 H locs ls hP hD hS hl
  exact lv_bipush hx hb hd hv (h _ _ _ hb9 H locs ls hP hD hS hl)
theorem to_sipush {n : Int} {x : Int32} (X : tc_Cx R cc nL own Z) (hd : decode cc pc = .ok (.sipush n, 3)) (hv : (Int16.ofInt n).toInt32 = x) (h : tc_Ok nL Z (pc + 3) k) : tc_Ok nL Z pc (tb_i x k) := by
  obtain ⟨p, l, e, R', s, m, args, below, meth, c, n, Q, Ts, D, ad, cA, A⟩ := Z
  obtain ⟨rfl, ⟨hx, hb, hml, hown, hts⟩, hK, hA, hSt, hTs, hn⟩ := X
  intro L K S hb9 H locs ls hP hD hS hl
  exact lv_sipush hx hb hd hv (h _ _ _ hb9 H locs ls hP hD hS hl)
theorem to_lconst {n : Fin 2} {x : Int64} (X : tc_Cx R cc nL own Z) (hd : decode cc pc = .ok (.lconst n, 1)) (hv : Int64.ofNat (n : Nat) = x) (h : tc_Ok nL Z (pc + 1) k) : tc_Ok nL Z pc (tb_j x k) := by
  obtain ⟨p, l, e, R', s, m, args, below, meth, c, n, Q, Ts, D, ad, cA, A⟩ := Z
  obtain ⟨rfl, ⟨hx, hb, hml, hown, hts⟩, hK, hA, hSt, hTs, hn⟩ := X
  intro L K S hb9 H locs ls hP hD hS hl
  exact lv_lconst hx hb hd hv (h _ _ _ hb9 H locs ls hP hD hS hl)
theorem to_ldc2 {ix : Nat} {x : Int64} (X : tc_Cx R cc nL own Z) (hw : Cond.constantLong own ix x ∈ tc_tb) (hd : decode cc pc = .ok (.ldc2_w ix, 3)) (h : tc_Ok nL Z (pc + 3) k) : tc_Ok nL Z pc (tb_j x k) := by
  obtain ⟨p, l, e, R', s, m, args, below, meth, c, n, Q, Ts, D, ad, cA, A⟩ := Z
  obtain ⟨rfl, ⟨hx, hb, hml, hown, hts⟩, hK, hA, hSt, hTs, hn⟩ := X
  intro L K S hb9 H locs ls hP hD hS hl
  exact lv_ldc2 hx hb hown (hts _ (hTs _ hw)) hd (h _ _ _ hb9 H locs ls hP hD hS hl)
-- locals
def tb_iload (i : Nat) (k : tc_B) : tc_B := fun L K S => match tc_lk L i with
  | some (.inl x) => k L (.inl x :: K) S
  | _ => False
def tb_lload (i : Nat) (k : tc_B) : tc_B := fun L K S => match tc_lk L i with
  | some (.inr (.inl x)) => k L (.inr (.inl x) :: K) S
  | _ => False
def tb_aload (i : Nat) (k : tc_B) : tc_B := fun L K S => match tc_lk L i with
  | some (.inr (.inr x)) => k L (.inr (.inr x) :: K) S
  | _ => False
theorem to_iload_n {i : Fin 4} {j : Nat} (X : tc_Cx R cc nL own Z) (hd : decode cc pc = .ok (.iload_n i, 1)) (hi : (i : Nat) = j) (h : tc_Ok nL Z (pc + 1) k) : tc_Ok nL Z pc (tb_iload j k) := by
  obtain ⟨p, l, e, R', s, m, args, below, meth, c, n, Q, Ts, D, ad, cA, A⟩ := Z
  obtain ⟨rfl, ⟨hx, hb, hml, hown, hts⟩, hK, hA, hSt, hTs, hn⟩ := X
  intro L K S hb9 H locs ls hP hD hS hl
  simp only [tb_iload] at hb9
  split at hb9
  · exact lv_iload_n hx hb hd hi (tc_ld hl (by assumption)) (h _ _ _ hb9 H locs ls hP hD hS hl)
  · exact hb9.elim
theorem to_iload {j : Nat} (X : tc_Cx R cc nL own Z) (hd : decode cc pc = .ok (.iload j, 2)) (h : tc_Ok nL Z (pc + 2) k) : tc_Ok nL Z pc (tb_iload j k) := by
  obtain ⟨p, l, e, R', s, m, args, below, meth, c, n, Q, Ts, D, ad, cA, A⟩ := Z
  obtain ⟨rfl, ⟨hx, hb, hml, hown, hts⟩, hK, hA, hSt, hTs, hn⟩ := X
  intro L K S hb9 H locs ls hP hD hS hl
  simp only [tb_iload] at hb9
  split at hb9
  · exact lv_iload hx hb hd (tc_ld hl (by assumption)) (h _ _ _ hb9 H locs ls hP hD hS hl)
  · exact hb9.elim
theorem to_lload_n {i : Fin 4} {j : Nat} (X : tc_Cx R cc nL own Z) (hd : decode cc pc = .ok (.lload_n i, 1)) (hi : (i : Nat) = j) (h : tc_Ok nL Z (pc + 1) k) : tc_Ok nL Z pc (tb_lload j k) := by
  obtain ⟨p, l, e, R', s, m, args, below, meth, c, n, Q, Ts, D, ad, cA, A⟩ := Z
  obtain ⟨rfl, ⟨hx, hb, hml, hown, hts⟩, hK, hA, hSt, hTs, hn⟩ := X
  intro L K S hb9 H locs ls hP hD hS hl
  simp only [tb_lload] at hb9
  split at hb9
  · exact lv_lload_n hx hb hd hi (tc_ld hl (by assumption)) (h _ _ _ hb9 H locs ls hP hD hS hl)
  · exact hb9.elim
theorem to_lload {j : Nat} (X : tc_Cx R cc nL own Z) (hd : decode cc pc = .ok (.lload j, 2)) (h : tc_Ok nL Z (pc + 2) k) : tc_Ok nL Z pc (tb_lload j k) := by
  obtain ⟨p, l, e, R', s, m, args, below, meth, c, n, Q, Ts, D, ad, cA, A⟩ := Z
  obtain ⟨rfl, ⟨hx, hb, hml, hown, hts⟩, hK, hA, hSt, hTs, hn⟩ := X
  intro L K S hb9 H locs ls hP hD hS hl
  simp only [tb_lload] at hb9
  split at hb9
  · exact lv_lload hx hb hd (tc_ld hl (by assumption)) (h _ _ _ hb9 H locs ls hP hD hS hl)
  · exact hb9.elim
theorem to_aload_n {i : Fin 4} {j : Nat} (X : tc_Cx R cc nL own Z) (hd : decode cc pc = .ok (.aload_n i, 1)) (hi : (i : Nat) = j) (h : tc_Ok nL Z (pc + 1) k) : tc_Ok nL Z pc (tb_aload j k) := by
  obtain ⟨p, l, e, R', s, m, args, below, meth, c, n, Q, Ts, D, ad, cA, A⟩ := Z
  obtain ⟨rfl, ⟨hx, hb, hml, hown, hts⟩, hK, hA, hSt, hTs, hn⟩ := X
  intro L K S hb9 H locs ls hP hD hS hl
  simp only [tb_aload] at hb9
  split at hb9
  · exact lv_aload_n hx hb hd hi (tc_ld hl (by assumption)) (h _ _ _ hb9 H locs ls hP hD hS hl)
  · exact hb9.elim
theorem to_aload {j : Nat} (X : tc_Cx R cc nL own Z) (hd : decode cc pc = .ok (.aload j, 2)) (h : tc_Ok nL Z (pc + 2) k) : tc_Ok nL Z pc (tb_aload j k) := by
  obtain ⟨p, l, e, R', s, m, args, below, meth, c, n, Q, Ts, D, ad, cA, A⟩ := Z
  obtain ⟨rfl, ⟨hx, hb, hml, hown, hts⟩, hK, hA, hSt, hTs, hn⟩ := X
  intro L K S hb9 H locs ls hP hD hS hl
  simp only [tb_aload] at hb9
  split at hb9
  · exact lv_aload hx hb hd (tc_ld hl (by assumption)) (h _ _ _ hb9 H locs ls hP hD hS hl)
  · exact hb9.elim
def tb_istore (i : Nat) (k : tc_B) : tc_B := fun L K S => match K with
  | .inl x :: r => k (tc_st1 L i (.inl x)) r S
  | _ => False
def tb_lstore (i : Nat) (k : tc_B) : tc_B := fun L K S => match K with
  | .inr (.inl x) :: r => k (tc_st2 L i (.inr (.inl x))) r S
  | _ => False
def tb_astore (i : Nat) (k : tc_B) : tc_B := fun L K S => match K with
  | .inr (.inr x) :: r => k (tc_st1 L i (.inr (.inr x))) r S
  | _ => False
theorem to_istore_n {i : Fin 4} {j : Nat} (X : tc_Cx R cc nL own Z) (hd : decode cc pc = .ok (.istore_n i, 1)) (hi : (i : Nat) = j) (hj : j < nL) (h : tc_Ok nL Z (pc + 1) k) : tc_Ok nL Z pc (tb_istore j k) := by
  obtain ⟨p, l, e, R', s, m, args, below, meth, c, n, Q, Ts, D, ad, cA, A⟩ := Z
  obtain ⟨rfl, ⟨hx, hb, hml, hown, hts⟩, hK, hA, hSt, hTs, hn⟩ := X
  intro L K S hb9 H locs ls hP hD hS hl
  simp only [tb_istore] at hb9
  split at hb9
  · rename_i x r
    exact lv_istore_n hx hb hd hi hl hj (tc_st1_c ad L j (.inl x)) (fun ls' hl' => h _ _ _ hb9 H locs ls' hP hD hS hl')
  · exact hb9.elim
theorem to_istore {j : Nat} (X : tc_Cx R cc nL own Z) (hd : decode cc pc = .ok (.istore j, 2)) (hj : j < nL) (h : tc_Ok nL Z (pc + 2) k) : tc_Ok nL Z pc (tb_istore j k) := by
  obtain ⟨p, l, e, R', s, m, args, below, meth, c, n, Q, Ts, D, ad, cA, A⟩ := Z
  obtain ⟨rfl, ⟨hx, hb, hml, hown, hts⟩, hK, hA, hSt, hTs, hn⟩ := X
  intro L K S hb9 H locs ls hP hD hS hl
  simp only [tb_istore] at hb9
  split at hb9
  · rename_i x r
    exact lv_istore hx hb hd hl hj (tc_st1_c ad L j (.inl x)) (fun ls' hl' => h _ _ _ hb9 H locs ls' hP hD hS hl')
  · exact hb9.elim
theorem to_lstore_n {i : Fin 4} {j : Nat} (X : tc_Cx R cc nL own Z) (hd : decode cc pc = .ok (.lstore_n i, 1)) (hi : (i : Nat) = j) (hj : j + 1 < nL) (h : tc_Ok nL Z (pc + 1) k) : tc_Ok nL Z pc (tb_lstore j k) := by
  obtain ⟨p, l, e, R', s, m, args, below, meth, c, n, Q, Ts, D, ad, cA, A⟩ := Z
  obtain ⟨rfl, ⟨hx, hb, hml, hown, hts⟩, hK, hA, hSt, hTs, hn⟩ := X
  intro L K S hb9 H locs ls hP hD hS hl
  simp only [tb_lstore] at hb9
  split at hb9
  · rename_i x r
    exact lv_lstore_n hx hb hd hi hl hj (tc_st2_c ad L j (.inr (.inl x))) (fun ls' hl' => h _ _ _ hb9 H locs ls' hP hD hS hl')
  · exact hb9.elim
theorem to_lstore {j : Nat} (X : tc_Cx R cc nL own Z) (hd : decode cc pc = .ok (.lstore j, 2)) (hj : j + 1 < nL) (h : tc_Ok nL Z (pc + 2) k) : tc_Ok nL Z pc (tb_lstore j k) := by
  obtain ⟨p, l, e, R', s, m, args, below, meth, c, n, Q, Ts, D, ad, cA, A⟩ := Z
  obtain ⟨rfl, ⟨hx, hb, hml, hown, hts⟩, hK, hA, hSt, hTs, hn⟩ := X
  intro L K S hb9 H locs ls hP hD hS hl
  simp only [tb_lstore] at hb9
  split at hb9
  · rename_i x r
    exact lv_lstore hx hb hd hl hj (tc_st2_c ad L j (.inr (.inl x))) (fun ls' hl' => h _ _ _ hb9 H locs ls' hP hD hS hl')
  · exact hb9.elim
theorem to_astore_n {i : Fin 4} {j : Nat} (X : tc_Cx R cc nL own Z) (hd : decode cc pc = .ok (.astore_n i, 1)) (hi : (i : Nat) = j) (hj : j < nL) (h : tc_Ok nL Z (pc + 1) k) : tc_Ok nL Z pc (tb_astore j k) := by
  obtain ⟨p, l, e, R', s, m, args, below, meth, c, n, Q, Ts, D, ad, cA, A⟩ := Z
  obtain ⟨rfl, ⟨hx, hb, hml, hown, hts⟩, hK, hA, hSt, hTs, hn⟩ := X
  intro L K S hb9 H locs ls hP hD hS hl
  simp only [tb_astore] at hb9
  split at hb9
  · rename_i x r
    exact lv_astore_n hx hb hd hi hl hj (tc_st1_c ad L j (.inr (.inr x))) (fun ls' hl' => h _ _ _ hb9 H locs ls' hP hD hS hl')
  · exact hb9.elim
def tb_iinc (i : Nat) (d : Int32) (k : tc_B) : tc_B := fun L K S => match tc_lk L i with
  | some (.inl x) => k (tc_st1 L i (.inl (x + d))) K S
  | _ => False
theorem to_iinc {j : Nat} {n : Int} {d : Int32} (X : tc_Cx R cc nL own Z) (hd : decode cc pc = .ok (.iinc j n, 3)) (hv : Int32.ofInt n = d) (hj : j < nL) (h : tc_Ok nL Z (pc + 3) k) : tc_Ok nL Z pc (tb_iinc j d k) := by
  obtain ⟨p, l, e, R', s, m, args, below, meth, c, n, Q, Ts, D, ad, cA, A⟩ := Z
  obtain ⟨rfl, ⟨hx, hb, hml, hown, hts⟩, hK, hA, hSt, hTs, hn⟩ := X
  intro L K S hb9 H locs ls hP hD hS hl
  simp only [tb_iinc] at hb9
  split at hb9
  · rename_i x hx9
    obtain ⟨i9, hi9⟩ := List.getElem?_of_mem (List.mem_map.mpr ⟨(j, .inl x), tc_lk_mem hx9, rfl⟩ : (j, tc_v ad (.inl x)) ∈ tc_cL ad L)
    exact lv_iinc (v := x + d) hx hb hd hl hi9 (by rw [hv]) hj (tc_st1_c ad L j (.inl (x + d))) (fun ls' hl' => h _ _ _ hb9 H locs ls' hP hD hS hl')
  · exact hb9.elim
-- arithmetic
def tb_ii (f : Int32 → Int32 → Int32) (k : tc_B) : tc_B := fun L K S => match K with
  | .inl y :: .inl x :: r => k L (.inl (f x y) :: r) S
  | _ => False
def tb_jj (f : Int64 → Int64 → Int64) (k : tc_B) : tc_B := fun L K S => match K with
  | .inr (.inl y) :: .inr (.inl x) :: r => k L (.inr (.inl (f x y)) :: r) S
  | _ => False
def tb_iadd (k : tc_B) : tc_B := tb_ii (fun x y => x + y) k
def tb_isub (k : tc_B) : tc_B := tb_ii (fun x y => x - y) k
def tb_imul (k : tc_B) : tc_B := tb_ii (fun x y => x * y) k
def tb_iand (k : tc_B) : tc_B := tb_ii (fun x y => x &&& y) k
def tb_ladd (k : tc_B) : tc_B := tb_jj (fun x y => x + y) k
def tb_lsub (k : tc_B) : tc_B := tb_jj (fun x y => x - y) k
def tb_lmul (k : tc_B) : tc_B := tb_jj (fun x y => x * y) k
theorem to_iadd (X : tc_Cx R cc nL own Z) (hd : decode cc pc = .ok (.iadd, 1)) (h : tc_Ok nL Z (pc + 1) k) : tc_Ok nL Z pc (tb_iadd k) := by
  obtain ⟨p, l, e, R', s, m, args, below, meth, c, n, Q, Ts, D, ad, cA, A⟩ := Z
  obtain ⟨rfl, ⟨hx, hb, hml, hown, hts⟩, hK, hA, hSt, hTs, hn⟩ := X
  intro L K S hb9 H locs ls hP hD hS hl
  simp only [tb_iadd, tb_ii] at hb9
  split at hb9
  · exact lv_iadd hx hb hd (h _ _ _ hb9 H locs ls hP hD hS hl)
  · exact hb9.elim
theorem to_isub (X : tc_Cx R cc nL own Z) (hd : decode cc pc = .ok (.isub, 1)) (h : tc_Ok nL Z (pc + 1) k) : tc_Ok nL Z pc (tb_isub k) := by
  obtain ⟨p, l, e, R', s, m, args, below, meth, c, n, Q, Ts, D, ad, cA, A⟩ := Z
  obtain ⟨rfl, ⟨hx, hb, hml, hown, hts⟩, hK, hA, hSt, hTs, hn⟩ := X
  intro L K S hb9 H locs ls hP hD hS hl
  simp only [tb_isub, tb_ii] at hb9
  split at hb9
  · exact lv_isub hx hb hd (h _ _ _ hb9 H locs ls hP hD hS hl)
  · exact hb9.elim
theorem to_imul (X : tc_Cx R cc nL own Z) (hd : decode cc pc = .ok (.imul, 1)) (h : tc_Ok nL Z (pc + 1) k) : tc_Ok nL Z pc (tb_imul k) := by
  obtain ⟨p, l, e, R', s, m, args, below, meth, c, n, Q, Ts, D, ad, cA, A⟩ := Z
  obtain ⟨rfl, ⟨hx, hb, hml, hown, hts⟩, hK, hA, hSt, hTs, hn⟩ := X
  intro L K S hb9 H locs ls hP hD hS hl
  simp only [tb_imul, tb_ii] at hb9
  split at hb9
  · exact lv_imul hx hb hd (h _ _ _ hb9 H locs ls hP hD hS hl)
  · exact hb9.elim
theorem to_iand (X : tc_Cx R cc nL own Z) (hd : decode cc pc = .ok (.iand, 1)) (h : tc_Ok nL Z (pc + 1) k) : tc_Ok nL Z pc (tb_iand k) := by
  obtain ⟨p, l, e, R', s, m, args, below, meth, c, n, Q, Ts, D, ad, cA, A⟩ := Z
  obtain ⟨rfl, ⟨hx, hb, hml, hown, hts⟩, hK, hA, hSt, hTs, hn⟩ := X
  intro L K S hb9 H locs ls hP hD hS hl
  simp only [tb_iand, tb_ii] at hb9
  split at hb9
  · exact lv_iand hx hb hd (h _ _ _ hb9 H locs ls hP hD hS hl)
  · exact hb9.elim
theorem to_ladd (X : tc_Cx R cc nL own Z) (hd : decode cc pc = .ok (.ladd, 1)) (h : tc_Ok nL Z (pc + 1) k) : tc_Ok nL Z pc (tb_ladd k) := by
  obtain ⟨p, l, e, R', s, m, args, below, meth, c, n, Q, Ts, D, ad, cA, A⟩ := Z
  obtain ⟨rfl, ⟨hx, hb, hml, hown, hts⟩, hK, hA, hSt, hTs, hn⟩ := X
  intro L K S hb9 H locs ls hP hD hS hl
  simp only [tb_ladd, tb_jj] at hb9
  split at hb9
  · exact lv_ladd hx hb hd (h _ _ _ hb9 H locs ls hP hD hS hl)
  · exact hb9.elim
theorem to_lsub (X : tc_Cx R cc nL own Z) (hd : decode cc pc = .ok (.lsub, 1)) (h : tc_Ok nL Z (pc + 1) k) : tc_Ok nL Z pc (tb_lsub k) := by
  obtain ⟨p, l, e, R', s, m, args, below, meth, c, n, Q, Ts, D, ad, cA, A⟩ := Z
  obtain ⟨rfl, ⟨hx, hb, hml, hown, hts⟩, hK, hA, hSt, hTs, hn⟩ := X
  intro L K S hb9 H locs ls hP hD hS hl
  simp only [tb_lsub, tb_jj] at hb9
  split at hb9
  · exact lv_lsub hx hb hd (h _ _ _ hb9 H locs ls hP hD hS hl)
  · exact hb9.elim
theorem to_lmul (X : tc_Cx R cc nL own Z) (hd : decode cc pc = .ok (.lmul, 1)) (h : tc_Ok nL Z (pc + 1) k) : tc_Ok nL Z pc (tb_lmul k) := by
  obtain ⟨p, l, e, R', s, m, args, below, meth, c, n, Q, Ts, D, ad, cA, A⟩ := Z
  obtain ⟨rfl, ⟨hx, hb, hml, hown, hts⟩, hK, hA, hSt, hTs, hn⟩ := X
  intro L K S hb9 H locs ls hP hD hS hl
  simp only [tb_lmul, tb_jj] at hb9
  split at hb9
  · exact lv_lmul hx hb hd (h _ _ _ hb9 H locs ls hP hD hS hl)
  · exact hb9.elim
def tb_idiv (k : tc_B) : tc_B := fun L K S => match K with
  | .inl y :: .inl x :: r => ¬ y = 0 ∧ k L (.inl (x / y) :: r) S
  | _ => False
def tb_ldiv (k : tc_B) : tc_B := fun L K S => match K with
  | .inr (.inl y) :: .inr (.inl x) :: r => ¬ y = 0 ∧ k L (.inr (.inl (x / y)) :: r) S
  | _ => False
def tb_lrem (k : tc_B) : tc_B := fun L K S => match K with
  | .inr (.inl y) :: .inr (.inl x) :: r => ¬ y = 0 ∧ k L (.inr (.inl (x - x / y * y)) :: r) S
  | _ => False
def tb_lneg (k : tc_B) : tc_B := fun L K S => match K with
  | .inr (.inl x) :: r => k L (.inr (.inl (-x)) :: r) S
  | _ => False
def tb_lshl (k : tc_B) : tc_B := fun L K S => match K with
  | .inl y :: .inr (.inl x) :: r => k L (.inr (.inl (x <<< (y.toInt64 &&& 63))) :: r) S
  | _ => False
def tb_i2l (k : tc_B) : tc_B := fun L K S => match K with
  | .inl x :: r => k L (.inr (.inl x.toInt64) :: r) S
  | _ => False
def tb_l2i (k : tc_B) : tc_B := fun L K S => match K with
  | .inr (.inl x) :: r => k L (.inl x.toInt32 :: r) S
  | _ => False
def tb_lcmp (k : tc_B) : tc_B := fun L K S => match K with
  | .inr (.inl y) :: .inr (.inl x) :: r => k L (.inl (lg_cmp x y) :: r) S
  | _ => False
theorem to_idiv (X : tc_Cx R cc nL own Z) (hd : decode cc pc = .ok (.idiv, 1)) (h : tc_Ok nL Z (pc + 1) k) : tc_Ok nL Z pc (tb_idiv k) := by
  obtain ⟨p, l, e, R', s, m, args, below, meth, c, n, Q, Ts, D, ad, cA, A⟩ := Z
  obtain ⟨rfl, ⟨hx, hb, hml, hown, hts⟩, hK, hA, hSt, hTs, hn⟩ := X
  intro L K S hb9 H locs ls hP hD hS hl
  simp only [tb_idiv] at hb9
  split at hb9
  · exact lv_idiv hx hb hd hb9.1 (h _ _ _ hb9.2 H locs ls hP hD hS hl)
  · exact hb9.elim
theorem to_ldiv (X : tc_Cx R cc nL own Z) (hd : decode cc pc = .ok (.ldiv, 1)) (h : tc_Ok nL Z (pc + 1) k) : tc_Ok nL Z pc (tb_ldiv k) := by
  obtain ⟨p, l, e, R', s, m, args, below, meth, c, n, Q, Ts, D, ad, cA, A⟩ := Z
  obtain ⟨rfl, ⟨hx, hb, hml, hown, hts⟩, hK, hA, hSt, hTs, hn⟩ := X
  intro L K S hb9 H locs ls hP hD hS hl
  simp only [tb_ldiv] at hb9
  split at hb9
  · exact lv_ldiv hx hb hd hb9.1 (h _ _ _ hb9.2 H locs ls hP hD hS hl)
  · exact hb9.elim
theorem to_lrem (X : tc_Cx R cc nL own Z) (hd : decode cc pc = .ok (.lrem, 1)) (h : tc_Ok nL Z (pc + 1) k) : tc_Ok nL Z pc (tb_lrem k) := by
  obtain ⟨p, l, e, R', s, m, args, below, meth, c, n, Q, Ts, D, ad, cA, A⟩ := Z
  obtain ⟨rfl, ⟨hx, hb, hml, hown, hts⟩, hK, hA, hSt, hTs, hn⟩ := X
  intro L K S hb9 H locs ls hP hD hS hl
  simp only [tb_lrem] at hb9
  split at hb9
  · exact lv_lrem hx hb hd hb9.1 (h _ _ _ hb9.2 H locs ls hP hD hS hl)
  · exact hb9.elim
theorem to_lneg (X : tc_Cx R cc nL own Z) (hd : decode cc pc = .ok (.lneg, 1)) (h : tc_Ok nL Z (pc + 1) k) : tc_Ok nL Z pc (tb_lneg k) := by
  obtain ⟨p, l, e, R', s, m, args, below, meth, c, n, Q, Ts, D, ad, cA, A⟩ := Z
  obtain ⟨rfl, ⟨hx, hb, hml, hown, hts⟩, hK, hA, hSt, hTs, hn⟩ := X
  intro L K S hb9 H locs ls hP hD hS hl
  simp only [tb_lneg] at hb9
  split at hb9
  · exact lv_lneg hx hb hd (h _ _ _ hb9 H locs ls hP hD hS hl)
  · exact hb9.elim
theorem to_lshl (X : tc_Cx R cc nL own Z) (hd : decode cc pc = .ok (.lshl, 1)) (h : tc_Ok nL Z (pc + 1) k) : tc_Ok nL Z pc (tb_lshl k) := by
  obtain ⟨p, l, e, R', s, m, args, below, meth, c, n, Q, Ts, D, ad, cA, A⟩ := Z
  obtain ⟨rfl, ⟨hx, hb, hml, hown, hts⟩, hK, hA, hSt, hTs, hn⟩ := X
  intro L K S hb9 H locs ls hP hD hS hl
  simp only [tb_lshl] at hb9
  split at hb9
  · exact lv_lshl hx hb hd rfl (h _ _ _ hb9 H locs ls hP hD hS hl)
  · exact hb9.elim
theorem to_i2l (X : tc_Cx R cc nL own Z) (hd : decode cc pc = .ok (.i2l, 1)) (h : tc_Ok nL Z (pc + 1) k) : tc_Ok nL Z pc (tb_i2l k) := by
  obtain ⟨p, l, e, R', s, m, args, below, meth, c, n, Q, Ts, D, ad, cA, A⟩ := Z
  obtain ⟨rfl, ⟨hx, hb, hml, hown, hts⟩, hK, hA, hSt, hTs, hn⟩ := X
  intro L K S hb9 H locs ls hP hD hS hl
  simp only [tb_i2l] at hb9
  split at hb9
  · exact lv_i2l hx hb hd rfl (h _ _ _ hb9 H locs ls hP hD hS hl)
  · exact hb9.elim
theorem to_l2i (X : tc_Cx R cc nL own Z) (hd : decode cc pc = .ok (.l2i, 1)) (h : tc_Ok nL Z (pc + 1) k) : tc_Ok nL Z pc (tb_l2i k) := by
  obtain ⟨p, l, e, R', s, m, args, below, meth, c, n, Q, Ts, D, ad, cA, A⟩ := Z
  obtain ⟨rfl, ⟨hx, hb, hml, hown, hts⟩, hK, hA, hSt, hTs, hn⟩ := X
  intro L K S hb9 H locs ls hP hD hS hl
  simp only [tb_l2i] at hb9
  split at hb9
  · exact lv_l2i hx hb hd rfl (h _ _ _ hb9 H locs ls hP hD hS hl)
  · exact hb9.elim
theorem to_lcmp (X : tc_Cx R cc nL own Z) (hd : decode cc pc = .ok (.lcmp, 1)) (h : tc_Ok nL Z (pc + 1) k) : tc_Ok nL Z pc (tb_lcmp k) := by
  obtain ⟨p, l, e, R', s, m, args, below, meth, c, n, Q, Ts, D, ad, cA, A⟩ := Z
  obtain ⟨rfl, ⟨hx, hb, hml, hown, hts⟩, hK, hA, hSt, hTs, hn⟩ := X
  intro L K S hb9 H locs ls hP hD hS hl
  simp only [tb_lcmp] at hb9
  split at hb9
  · exact W.lcmp hx hb hd (h _ _ _ hb9 H locs ls hP hD hS hl)
  · exact hb9.elim
-- the stack
def tb_dup (k : tc_B) : tc_B := fun L K S => match K with
  | .inl x :: r => k L (.inl x :: .inl x :: r) S
  | .inr (.inr x) :: r => k L (.inr (.inr x) :: .inr (.inr x) :: r) S
  | _ => False
def tb_pop (k : tc_B) : tc_B := fun L K S => match K with
  | .inl _ :: r => k L r S
  | .inr (.inr _) :: r => k L r S
  | _ => False
/-- over an array and an index -/
def tb_dup2 (k : tc_B) : tc_B := fun L K S => match K with
  | .inl x :: .inr (.inr y) :: r => k L (.inl x :: .inr (.inr y) :: .inl x :: .inr (.inr y) :: r) S
  | _ => False
theorem to_dup (X : tc_Cx R cc nL own Z) (hd : decode cc pc = .ok (.dup, 1)) (h : tc_Ok nL Z (pc + 1) k) : tc_Ok nL Z pc (tb_dup k) := by
  obtain ⟨p, l, e, R', s, m, args, below, meth, c, n, Q, Ts, D, ad, cA, A⟩ := Z
  obtain ⟨rfl, ⟨hx, hb, hml, hown, hts⟩, hK, hA, hSt, hTs, hn⟩ := X
  intro L K S hb9 H locs ls hP hD hS hl
  simp only [tb_dup] at hb9
  split at hb9
  · exact lv_dup hx hb hd rfl (h _ _ _ hb9 H locs ls hP hD hS hl)
  · exact lv_dup hx hb hd rfl (h _ _ _ hb9 H locs ls hP hD hS hl)
  · exact hb9.elim
theorem to_pop (X : tc_Cx R cc nL own Z) (hd : decode cc pc = .ok (.pop, 1)) (h : tc_Ok nL Z (pc + 1) k) : tc_Ok nL Z pc (tb_pop k) := by
  obtain ⟨p, l, e, R', s, m, args, below, meth, c, n, Q, Ts, D, ad, cA, A⟩ := Z
  obtain ⟨rfl, ⟨hx, hb, hml, hown, hts⟩, hK, hA, hSt, hTs, hn⟩ := X
  intro L K S hb9 H locs ls hP hD hS hl
  simp only [tb_pop] at hb9
  split at hb9
  · exact lv_pop hx hb hd rfl (h _ _ _ hb9 H locs ls hP hD hS hl)
  · exact lv_pop hx hb hd rfl (h _ _ _ hb9 H locs ls hP hD hS hl)
  · exact hb9.elim
theorem to_dup2 (X : tc_Cx R cc nL own Z) (hd : decode cc pc = .ok (.dup2, 1)) (h : tc_Ok nL Z (pc + 1) k) : tc_Ok nL Z pc (tb_dup2 k) := by
  obtain ⟨p, l, e, R', s, m, args, below, meth, c, n, Q, Ts, D, ad, cA, A⟩ := Z
  obtain ⟨rfl, ⟨hx, hb, hml, hown, hts⟩, hK, hA, hSt, hTs, hn⟩ := X
  intro L K S hb9 H locs ls hP hD hS hl
  simp only [tb_dup2] at hb9
  split at hb9
  · exact lv_dup2_11 hx hb hd rfl rfl (h _ _ _ hb9 H locs ls hP hD hS hl)
  · exact hb9.elim
-- branches
def tb_if (c : Int32 → Prop) (kt kf : tc_B) : tc_B := fun L K S => match K with
  | .inl x :: r => (c x → kt L r S) ∧ (¬ c x → kf L r S)
  | _ => False
def tb_icmp (c : Int32 → Int32 → Prop) (kt kf : tc_B) : tc_B := fun L K S => match K with
  | .inl y :: .inl x :: r => (c x y → kt L r S) ∧ (¬ c x y → kf L r S)
  | _ => False
def tb_if_eq (kt kf : tc_B) : tc_B := tb_if (fun x => x = 0) kt kf
theorem to_if_eq {off : Int} {tgt : Nat} (X : tc_Cx R cc nL own Z) (hd : decode cc pc = .ok (.ifCond .eq off, 3)) (hg : (pc : Int) + off = (tgt : Int)) (ht : tc_Ok nL Z tgt kt) (hf : tc_Ok nL Z (pc + 3) kf) : tc_Ok nL Z pc (tb_if_eq kt kf) := by
  obtain ⟨p, l, e, R', s, m, args, below, meth, c, n, Q, Ts, D, ad, cA, A⟩ := Z
  obtain ⟨rfl, ⟨hx, hb, hml, hown, hts⟩, hK, hA, hSt, hTs, hn⟩ := X
  intro L K S hb9 H locs ls hP hD hS hl
  simp only [tb_if_eq, tb_if] at hb9
  split at hb9
  · exact lv_if_eq hx hb hd hg (fun z => ht _ _ _ (hb9.1 z) H locs ls hP hD hS hl) (fun z => hf _ _ _ (hb9.2 z) H locs ls hP hD hS hl)
  · exact hb9.elim
def tb_if_ne (kt kf : tc_B) : tc_B := tb_if (fun x => x = 0) kf kt
theorem to_if_ne {off : Int} {tgt : Nat} (X : tc_Cx R cc nL own Z) (hd : decode cc pc = .ok (.ifCond .ne off, 3)) (hg : (pc : Int) + off = (tgt : Int)) (ht : tc_Ok nL Z tgt kt) (hf : tc_Ok nL Z (pc + 3) kf) : tc_Ok nL Z pc (tb_if_ne kt kf) := by
  obtain ⟨p, l, e, R', s, m, args, below, meth, c, n, Q, Ts, D, ad, cA, A⟩ := Z
  obtain ⟨rfl, ⟨hx, hb, hml, hown, hts⟩, hK, hA, hSt, hTs, hn⟩ := X
  intro L K S hb9 H locs ls hP hD hS hl
  simp only [tb_if_ne, tb_if] at hb9
  split at hb9
  · exact lv_if_ne hx hb hd hg (fun z => ht _ _ _ (hb9.2 z) H locs ls hP hD hS hl) (fun z => hf _ _ _ (hb9.1 z) H locs ls hP hD hS hl)
  · exact hb9.elim
def tb_if_lt (kt kf : tc_B) : tc_B := tb_if (fun x => x < 0) kt kf
theorem to_if_lt {off : Int} {tgt : Nat} (X : tc_Cx R cc nL own Z) (hd : decode cc pc = .ok (.ifCond .lt off, 3)) (hg : (pc : Int) + off = (tgt : Int)) (ht : tc_Ok nL Z tgt kt) (hf : tc_Ok nL Z (pc + 3) kf) : tc_Ok nL Z pc (tb_if_lt kt kf) := by
  obtain ⟨p, l, e, R', s, m, args, below, meth, c, n, Q, Ts, D, ad, cA, A⟩ := Z
  obtain ⟨rfl, ⟨hx, hb, hml, hown, hts⟩, hK, hA, hSt, hTs, hn⟩ := X
  intro L K S hb9 H locs ls hP hD hS hl
  simp only [tb_if_lt, tb_if] at hb9
  split at hb9
  · exact lv_if_lt hx hb hd hg (fun z => ht _ _ _ (hb9.1 z) H locs ls hP hD hS hl) (fun z => hf _ _ _ (hb9.2 z) H locs ls hP hD hS hl)
  · exact hb9.elim
def tb_if_ge (kt kf : tc_B) : tc_B := tb_if (fun x => 0 ≤ x) kt kf
theorem to_if_ge {off : Int} {tgt : Nat} (X : tc_Cx R cc nL own Z) (hd : decode cc pc = .ok (.ifCond .ge off, 3)) (hg : (pc : Int) + off = (tgt : Int)) (ht : tc_Ok nL Z tgt kt) (hf : tc_Ok nL Z (pc + 3) kf) : tc_Ok nL Z pc (tb_if_ge kt kf) := by
  obtain ⟨p, l, e, R', s, m, args, below, meth, c, n, Q, Ts, D, ad, cA, A⟩ := Z
  obtain ⟨rfl, ⟨hx, hb, hml, hown, hts⟩, hK, hA, hSt, hTs, hn⟩ := X
  intro L K S hb9 H locs ls hP hD hS hl
  simp only [tb_if_ge, tb_if] at hb9
  split at hb9
  · exact lv_if_ge hx hb hd hg (fun z => ht _ _ _ (hb9.1 z) H locs ls hP hD hS hl) (fun z => hf _ _ _ (hb9.2 z) H locs ls hP hD hS hl)
  · exact hb9.elim
def tb_if_gt (kt kf : tc_B) : tc_B := tb_if (fun x => 0 < x) kt kf
theorem to_if_gt {off : Int} {tgt : Nat} (X : tc_Cx R cc nL own Z) (hd : decode cc pc = .ok (.ifCond .gt off, 3)) (hg : (pc : Int) + off = (tgt : Int)) (ht : tc_Ok nL Z tgt kt) (hf : tc_Ok nL Z (pc + 3) kf) : tc_Ok nL Z pc (tb_if_gt kt kf) := by
  obtain ⟨p, l, e, R', s, m, args, below, meth, c, n, Q, Ts, D, ad, cA, A⟩ := Z
  obtain ⟨rfl, ⟨hx, hb, hml, hown, hts⟩, hK, hA, hSt, hTs, hn⟩ := X
  intro L K S hb9 H locs ls hP hD hS hl
  simp only [tb_if_gt, tb_if] at hb9
  split at hb9
  · exact lv_if_gt hx hb hd hg (fun z => ht _ _ _ (hb9.1 z) H locs ls hP hD hS hl) (fun z => hf _ _ _ (hb9.2 z) H locs ls hP hD hS hl)
  · exact hb9.elim
def tb_if_le (kt kf : tc_B) : tc_B := tb_if (fun x => x ≤ 0) kt kf
theorem to_if_le {off : Int} {tgt : Nat} (X : tc_Cx R cc nL own Z) (hd : decode cc pc = .ok (.ifCond .le off, 3)) (hg : (pc : Int) + off = (tgt : Int)) (ht : tc_Ok nL Z tgt kt) (hf : tc_Ok nL Z (pc + 3) kf) : tc_Ok nL Z pc (tb_if_le kt kf) := by
  obtain ⟨p, l, e, R', s, m, args, below, meth, c, n, Q, Ts, D, ad, cA, A⟩ := Z
  obtain ⟨rfl, ⟨hx, hb, hml, hown, hts⟩, hK, hA, hSt, hTs, hn⟩ := X
  intro L K S hb9 H locs ls hP hD hS hl
  simp only [tb_if_le, tb_if] at hb9
  split at hb9
  · exact lv_if_le hx hb hd hg (fun z => ht _ _ _ (hb9.1 z) H locs ls hP hD hS hl) (fun z => hf _ _ _ (hb9.2 z) H locs ls hP hD hS hl)
  · exact hb9.elim
def tb_icmp_eq (kt kf : tc_B) : tc_B := tb_icmp (fun x y => x = y) kt kf
theorem to_icmp_eq {off : Int} {tgt : Nat} (X : tc_Cx R cc nL own Z) (hd : decode cc pc = .ok (.if_icmp .eq off, 3)) (hg : (pc : Int) + off = (tgt : Int)) (ht : tc_Ok nL Z tgt kt) (hf : tc_Ok nL Z (pc + 3) kf) : tc_Ok nL Z pc (tb_icmp_eq kt kf) := by
  obtain ⟨p, l, e, R', s, m, args, below, meth, c, n, Q, Ts, D, ad, cA, A⟩ := Z
  obtain ⟨rfl, ⟨hx, hb, hml, hown, hts⟩, hK, hA, hSt, hTs, hn⟩ := X
  intro L K S hb9 H locs ls hP hD hS hl
  simp only [tb_icmp_eq, tb_icmp] at hb9
  split at hb9
  · exact lv_icmp_eq hx hb hd hg (fun z => ht _ _ _ (hb9.1 z) H locs ls hP hD hS hl) (fun z => hf _ _ _ (hb9.2 z) H locs ls hP hD hS hl)
  · exact hb9.elim
def tb_icmp_ne (kt kf : tc_B) : tc_B := tb_icmp (fun x y => x = y) kf kt
theorem to_icmp_ne {off : Int} {tgt : Nat} (X : tc_Cx R cc nL own Z) (hd : decode cc pc = .ok (.if_icmp .ne off, 3)) (hg : (pc : Int) + off = (tgt : Int)) (ht : tc_Ok nL Z tgt kt) (hf : tc_Ok nL Z (pc + 3) kf) : tc_Ok nL Z pc (tb_icmp_ne kt kf) := by
  obtain ⟨p, l, e, R', s, m, args, below, meth, c, n, Q, Ts, D, ad, cA, A⟩ := Z
  obtain ⟨rfl, ⟨hx, hb, hml, hown, hts⟩, hK, hA, hSt, hTs, hn⟩ := X
  intro L K S hb9 H locs ls hP hD hS hl
  simp only [tb_icmp_ne, tb_icmp] at hb9
  split at hb9
  · exact lv_icmp_ne hx hb hd hg (fun z => ht _ _ _ (hb9.2 z) H locs ls hP hD hS hl) (fun z => hf _ _ _ (hb9.1 z) H locs ls hP hD hS hl)
  · exact hb9.elim
def tb_icmp_lt (kt kf : tc_B) : tc_B := tb_icmp (fun x y => x < y) kt kf
theorem to_icmp_lt {off : Int} {tgt : Nat} (X : tc_Cx R cc nL own Z) (hd : decode cc pc = .ok (.if_icmp .lt off, 3)) (hg : (pc : Int) + off = (tgt : Int)) (ht : tc_Ok nL Z tgt kt) (hf : tc_Ok nL Z (pc + 3) kf) : tc_Ok nL Z pc (tb_icmp_lt kt kf) := by
  obtain ⟨p, l, e, R', s, m, args, below, meth, c, n, Q, Ts, D, ad, cA, A⟩ := Z
  obtain ⟨rfl, ⟨hx, hb, hml, hown, hts⟩, hK, hA, hSt, hTs, hn⟩ := X
  intro L K S hb9 H locs ls hP hD hS hl
  simp only [tb_icmp_lt, tb_icmp] at hb9
  split at hb9
  · exact lv_icmp_lt hx hb hd hg (fun z => ht _ _ _ (hb9.1 z) H locs ls hP hD hS hl) (fun z => hf _ _ _ (hb9.2 z) H locs ls hP hD hS hl)
  · exact hb9.elim
def tb_icmp_ge (kt kf : tc_B) : tc_B := tb_icmp (fun x y => y ≤ x) kt kf
theorem to_icmp_ge {off : Int} {tgt : Nat} (X : tc_Cx R cc nL own Z) (hd : decode cc pc = .ok (.if_icmp .ge off, 3)) (hg : (pc : Int) + off = (tgt : Int)) (ht : tc_Ok nL Z tgt kt) (hf : tc_Ok nL Z (pc + 3) kf) : tc_Ok nL Z pc (tb_icmp_ge kt kf) := by
  obtain ⟨p, l, e, R', s, m, args, below, meth, c, n, Q, Ts, D, ad, cA, A⟩ := Z
  obtain ⟨rfl, ⟨hx, hb, hml, hown, hts⟩, hK, hA, hSt, hTs, hn⟩ := X
  intro L K S hb9 H locs ls hP hD hS hl
  simp only [tb_icmp_ge, tb_icmp] at hb9
  split at hb9
  · exact lv_icmp_ge hx hb hd hg (fun z => ht _ _ _ (hb9.1 z) H locs ls hP hD hS hl) (fun z => hf _ _ _ (hb9.2 z) H locs ls hP hD hS hl)
  · exact hb9.elim
def tb_icmp_gt (kt kf : tc_B) : tc_B := tb_icmp (fun x y => y < x) kt kf
theorem to_icmp_gt {off : Int} {tgt : Nat} (X : tc_Cx R cc nL own Z) (hd : decode cc pc = .ok (.if_icmp .gt off, 3)) (hg : (pc : Int) + off = (tgt : Int)) (ht : tc_Ok nL Z tgt kt) (hf : tc_Ok nL Z (pc + 3) kf) : tc_Ok nL Z pc (tb_icmp_gt kt kf) := by
  obtain ⟨p, l, e, R', s, m, args, below, meth, c, n, Q, Ts, D, ad, cA, A⟩ := Z
  obtain ⟨rfl, ⟨hx, hb, hml, hown, hts⟩, hK, hA, hSt, hTs, hn⟩ := X
  intro L K S hb9 H locs ls hP hD hS hl
  simp only [tb_icmp_gt, tb_icmp] at hb9
  split at hb9
  · exact lv_icmp_gt hx hb hd hg (fun z => ht _ _ _ (hb9.1 z) H locs ls hP hD hS hl) (fun z => hf _ _ _ (hb9.2 z) H locs ls hP hD hS hl)
  · exact hb9.elim
def tb_icmp_le (kt kf : tc_B) : tc_B := tb_icmp (fun x y => x ≤ y) kt kf
theorem to_icmp_le {off : Int} {tgt : Nat} (X : tc_Cx R cc nL own Z) (hd : decode cc pc = .ok (.if_icmp .le off, 3)) (hg : (pc : Int) + off = (tgt : Int)) (ht : tc_Ok nL Z tgt kt) (hf : tc_Ok nL Z (pc + 3) kf) : tc_Ok nL Z pc (tb_icmp_le kt kf) := by
  obtain ⟨p, l, e, R', s, m, args, below, meth, c, n, Q, Ts, D, ad, cA, A⟩ := Z
  obtain ⟨rfl, ⟨hx, hb, hml, hown, hts⟩, hK, hA, hSt, hTs, hn⟩ := X
  intro L K S hb9 H locs ls hP hD hS hl
  simp only [tb_icmp_le, tb_icmp] at hb9
  split at hb9
  · exact lv_icmp_le hx hb hd hg (fun z => ht _ _ _ (hb9.1 z) H locs ls hP hD hS hl) (fun z => hf _ _ _ (hb9.2 z) H locs ls hP hD hS hl)
  · exact hb9.elim
theorem to_goto {off : Int} {tgt : Nat} (X : tc_Cx R cc nL own Z) (hd : decode cc pc = .ok (.goto off, 3)) (hg : (pc : Int) + off = (tgt : Int)) (h : tc_Ok nL Z tgt k) : tc_Ok nL Z pc k := by
  obtain ⟨p, l, e, R', s, m, args, below, meth, c, n, Q, Ts, D, ad, cA, A⟩ := Z
  obtain ⟨rfl, ⟨hx, hb, hml, hown, hts⟩, hK, hA, hSt, hTs, hn⟩ := X
  intro L K S hb9 H locs ls hP hD hS hl
  exact lv_goto hx hb hd hg (h _ _ _ hb9 H locs ls hP hD hS hl)
end TCROWS
end
section
/-! fields, arrays, statics, constants, switches -/
def tc_fld (ci k : Nat) (q : Nat × Nat) : Option (Nat × Nat) := match q.1 with
  | 0 => (match tc_lay[q.2]? with
    | some (.inl o) => (match Nat.beq o.1 ci with
      | true => o.2[k]?
      | false => none)
    | _ => none)
  | _ => none
theorem tc_fld_spec {ci k : Nat} {q f : Nat × Nat} (h : tc_fld ci k q = some f) : ∃ (i : Nat) (fs : List (Nat × Nat)), q = (0, i) ∧ tc_lay[i]? = some (.inl (ci, fs)) ∧ fs[k]? = some f := by
  obtain ⟨q1, i⟩ := q
  simp only [tc_fld] at h
  split at h
  · split at h
    · rename_i o ho
      split at h
      · rename_i hb
        obtain ⟨o1, fs⟩ := o
        have e : o1 = ci := Nat.eq_of_beq_eq_true hb
        subst e
        exact ⟨i, fs, rfl, ho, h⟩
      · cases h
    · cases h
  · cases h
def tc_arr (q : Nat × Nat) : Option (Nat × Nat) := match q.1 with
  | 0 => (match tc_lay[q.2]? with
    | some (.inr a) => some a
    | _ => none)
  | _ => none
theorem tc_arr_spec {q a : Nat × Nat} (h : tc_arr q = some a) : ∃ i : Nat, q = (0, i) ∧ tc_lay[i]? = some (.inr a) := by
  obtain ⟨q1, i⟩ := q
  simp only [tc_arr] at h
  split at h
  · split at h
    · rename_i o ho
      cases h
      exact ⟨i, rfl, ho⟩
    · cases h
  · cases h
theorem tc_cell_o {ad : Nat → Nat → Nat} {cA : Nat → ClassId} {S : tc_S} {i ci : Nat} {fs : List (Nat × Nat)} : tc_cell ad cA S i (.inl (ci, fs)) = (ad 0 i, .inr (ci, fs.mapIdx (fun k f => tc_v ad (tc_fv S i k f)))) := rfl
theorem tc_cell_i {ad : Nat → Nat → Nat} {cA : Nat → ClassId} {S : tc_S} {i n : Nat} : tc_cell ad cA S i (.inr (0, n)) = (ad 0 i, .inl (cA 0, n, .inl (S.1 i))) := rfl
theorem tc_cell_z {ad : Nat → Nat → Nat} {cA : Nat → ClassId} {S : tc_S} {i n : Nat} : tc_cell ad cA S i (.inr (1, n)) = (ad 0 i, .inl (cA 1, n, .inl (S.1 i))) := rfl
theorem tc_cell_j {ad : Nat → Nat → Nat} {cA : Nat → ClassId} {S : tc_S} {i n : Nat} : tc_cell ad cA S i (.inr (2, n)) = (ad 0 i, .inl (cA 2, n, .inr (.inl (S.2.1 i)))) := rfl
theorem tc_ui_self (S : tc_S) (i k : Nat) (x : Int32) : (tc_ui S i k x).1 i = upd (S.1 i) k x := if_pos rfl
theorem tc_ul_self (S : tc_S) (i k : Nat) (x : Int64) : (tc_ul S i k x).2.1 i = vp_updL (S.2.1 i) k x := if_pos rfl
theorem tc_put_i {ad : Nat → Nat → Nat} {S : tc_S} {i k c0 : Nat} {x : Int32} {fs : List (Nat × Nat)} (hk : fs[k]? = some (0, c0)) : fs.mapIdx (fun k' f => tc_v ad (tc_fv (tc_ui S i k x) i k' f)) = (fs.mapIdx (fun k' f => tc_v ad (tc_fv S i k' f))).set k (.int x) := by
  apply List.ext_getElem?
  intro j
  rw [List.getElem?_set, List.getElem?_mapIdx, List.getElem?_mapIdx, List.length_mapIdx]
  have hl := (List.getElem?_eq_some_iff.mp hk).1
  by_cases hj : k = j
  · subst hj
    rw [if_pos rfl, if_pos hl, hk]
    simp only [Option.map_some, tc_fv, tc_ui_self, upd, if_pos, tc_v]
  · rw [if_neg hj]
    cases hf : fs[j]? with
    | none => rfl
    | some f =>
      have e : (tc_ui S i k x).1 i j = S.1 i j := by
        rw [tc_ui_self]
        exact if_neg (fun e => hj e.symm)
      have e2 : (tc_ui S i k x).2 = S.2 := rfl
      simp only [Option.map_some, tc_fv, e, e2]
theorem tc_put_j {ad : Nat → Nat → Nat} {S : tc_S} {i k c0 : Nat} {x : Int64} {fs : List (Nat × Nat)} (hk : fs[k]? = some (1, c0)) : fs.mapIdx (fun k' f => tc_v ad (tc_fv (tc_ul S i k x) i k' f)) = (fs.mapIdx (fun k' f => tc_v ad (tc_fv S i k' f))).set k (.long x) := by
  apply List.ext_getElem?
  intro j
  rw [List.getElem?_set, List.getElem?_mapIdx, List.getElem?_mapIdx, List.length_mapIdx]
  have hl := (List.getElem?_eq_some_iff.mp hk).1
  by_cases hj : k = j
  · subst hj
    rw [if_pos rfl, if_pos hl, hk]
    simp only [Option.map_some, tc_fv, tc_ul_self, vp_updL, if_pos, tc_v]
  · rw [if_neg hj]
    cases hf : fs[j]? with
    | none => rfl
    | some f =>
      have e : (tc_ul S i k x).2.1 i j = S.2.1 i j := by
        rw [tc_ul_self]
        exact if_neg (fun e => hj e.symm)
      have e1 : (tc_ul S i k x).1 = S.1 := rfl
      have e2 : (tc_ul S i k x).2.2 = S.2.2 := rfl
      simp only [Option.map_some, tc_fv, e, e1, e2]
section TCHEAP
variable {R : Room} {cc : ByteArray} {nL : Nat} {own : String} {Z : tc_Z} {pc : Nat} {k kt kf : tc_B}
def tb_getf (ci f : Nat) (k : tc_B) : tc_B := fun L K S => match K with
  | .inr (.inr q) :: r => (match tc_fld ci f q with
    | some t => k L (tc_fv S q.2 f t :: r) S
    | none => False)
  | _ => False
theorem to_getf {ci f ix N : Nat} {C : String} {T : u_T} (X : tc_Cx R cc nL own Z) (hc : tc_cl[ci]? = some (C, T, N)) (hf : f < N) (hin : ∀ w ∈ u_ws C T N, w ∈ tc_tb) (hw : Cond.fieldLink own ix (T f).1 (T f).2.1 (T f).2.2.1 ∈ tc_tb) (hd : decode cc pc = .ok (.getfield ix, 3)) (h : tc_Ok nL Z (pc + 3) k) : tc_Ok nL Z pc (tb_getf ci f k) := by
  obtain ⟨p, l, e, R', s, m, args, below, meth, c, n, Q, Ts, D, ad, cA, A⟩ := Z
  obtain ⟨rfl, ⟨hx, hb, hml, hown, hts⟩, hK, hA, hSt, hTs, hn⟩ := X
  intro L K S hb9 H locs ls hP hD hS hl
  simp only [tb_getf] at hb9
  split at hb9
  · split at hb9
    · rename_i q r o t ht
      obtain ⟨i, fs, rfl, h1, h2⟩ := tc_fld_spec ht
      exact va_get (D := D) (ci := ci) (v := tc_v ad (tc_fv S i f t)) (C := C) (T := T) (N := N) hx hb hts (fun w hw => hTs w (hin w hw)) hown hK hP i (tc_W_at h1) hc f hf (hts _ (hTs _ hw)) (fun _ h9 => h9) (by rw [List.getElem?_mapIdx, h2]; rfl) hd (h _ _ _ hb9 H locs ls hP hD hS hl)
    · exact hb9.elim
  · exact hb9.elim
def tb_putI (ci f : Nat) (k : tc_B) : tc_B := fun L K S => match K with
  | .inl x :: .inr (.inr q) :: r => (match tc_fld ci f q with
    | some (0, _) => k L r (tc_ui S q.2 f x)
    | _ => False)
  | _ => False
def tb_putZ (ci f : Nat) (k : tc_B) : tc_B := fun L K S => match K with
  | .inl x :: .inr (.inr q) :: r => (match tc_fld ci f q with
    | some (0, _) => (narrow .boolean (.int x) = .int x ∧ fits .boolean (.int x) = true) ∧ k L r (tc_ui S q.2 f x)
    | _ => False)
  | _ => False
def tb_putJ (ci f : Nat) (k : tc_B) : tc_B := fun L K S => match K with
  | .inr (.inl x) :: .inr (.inr q) :: r => (match tc_fld ci f q with
    | some (1, _) => k L r (tc_ul S q.2 f x)
    | _ => False)
  | _ => False
def tb_putR (ci f : Nat) (k : tc_B) : tc_B := fun L K S => match K with
  | .inr (.inr (1, x)) :: .inr (.inr q) :: r => (match tc_fld ci f q with
    | some (3, _) => k L r (tc_ur S x)
    | _ => False)
  | _ => False
theorem to_putI {ci f ix N : Nat} {C : String} {T : u_T} {ty0 : Nat → FieldType} (X : tc_Cx R cc nL own Z) (hc : tc_cl[ci]? = some (C, T, N)) (hf : f < N) (hin : ∀ w ∈ u_ws C T N, w ∈ tc_tb) (hty : ∀ k, k < N → parseFieldDescriptor (T k).2.2.1 = some (ty0 k)) (hnm : ∀ a, a < N → ∀ b, b < N → a ≠ b → (T a).2.1 ≠ (T b).2.1) (hfin : (T f).2.2.2 = false) (ht : ty0 f = .int) (hw : Cond.fieldLink own ix (T f).1 (T f).2.1 (T f).2.2.1 ∈ tc_tb) (hd : decode cc pc = .ok (.putfield ix, 3)) (h : tc_Ok nL Z (pc + 3) k) : tc_Ok nL Z pc (tb_putI ci f k) := by
  obtain ⟨p, l, e, R', s, m, args, below, meth, c, n, Q, Ts, D, ad, cA, A⟩ := Z
  obtain ⟨rfl, ⟨hx, hb, hml, hown, hts⟩, hK, hA, hSt, hTs, hn⟩ := X
  intro L K S hb9 H locs ls hP hD hS hl
  simp only [tb_putI] at hb9
  split at hb9
  · split at hb9
    · rename_i x q r o z ht9
      obtain ⟨i, fs, rfl, h1, h2⟩ := tc_fld_spec ht9
      have hset : (tc_W ad cA S).set i (ad 0 i, .inr (ci, (fs.mapIdx (fun k' f => tc_v ad (tc_fv S i k' f))).set f (.int x))) = tc_W ad cA (tc_ui S i f x) := tc_W_set h1 (by rw [tc_cell_o, tc_put_i h2]) (fun j c' hj _ => tc_cell_ui hj)
      refine va_put (D := D) (ci := ci) (v := .int x) (ty := .int) (C := C) (T := T) (N := N) hx hb hts (fun w hw => hTs w (hin w hw)) ty0 hty hnm hown hK hP hD hS i (tc_W_at h1) hc f hf (hts _ (hTs _ hw)) (fun _ h9 => h9) hfin (by rw [hty f hf, ht]) rfl rfl (by rw [List.length_mapIdx]; exact (List.getElem?_eq_some_iff.mp h2).1) hd (fun H1 locs1 hP1 hD1 hS1 => ?_)
      rw [hset] at hP1 hD1
      exact h _ _ _ hb9 H1 locs1 ls hP1 hD1 hS1 hl
    · exact hb9.elim
  · exact hb9.elim
theorem to_putZ {ci f ix N : Nat} {C : String} {T : u_T} {ty0 : Nat → FieldType} (X : tc_Cx R cc nL own Z) (hc : tc_cl[ci]? = some (C, T, N)) (hf : f < N) (hin : ∀ w ∈ u_ws C T N, w ∈ tc_tb) (hty : ∀ k, k < N → parseFieldDescriptor (T k).2.2.1 = some (ty0 k)) (hnm : ∀ a, a < N → ∀ b, b < N → a ≠ b → (T a).2.1 ≠ (T b).2.1) (hfin : (T f).2.2.2 = false) (ht : ty0 f = .boolean) (hw : Cond.fieldLink own ix (T f).1 (T f).2.1 (T f).2.2.1 ∈ tc_tb) (hd : decode cc pc = .ok (.putfield ix, 3)) (h : tc_Ok nL Z (pc + 3) k) : tc_Ok nL Z pc (tb_putZ ci f k) := by
  obtain ⟨p, l, e, R', s, m, args, below, meth, c, n, Q, Ts, D, ad, cA, A⟩ := Z
  obtain ⟨rfl, ⟨hx, hb, hml, hown, hts⟩, hK, hA, hSt, hTs, hn⟩ := X
  intro L K S hb9 H locs ls hP hD hS hl
  simp only [tb_putZ] at hb9
  split at hb9
  · split at hb9
    · rename_i x q r o z ht9
      obtain ⟨i, fs, rfl, h1, h2⟩ := tc_fld_spec ht9
      have hset : (tc_W ad cA S).set i (ad 0 i, .inr (ci, (fs.mapIdx (fun k' f => tc_v ad (tc_fv S i k' f))).set f (.int x))) = tc_W ad cA (tc_ui S i f x) := tc_W_set h1 (by rw [tc_cell_o, tc_put_i h2]) (fun j c' hj _ => tc_cell_ui hj)
      refine va_put (D := D) (ci := ci) (v := .int x) (ty := .boolean) (C := C) (T := T) (N := N) hx hb hts (fun w hw => hTs w (hin w hw)) ty0 hty hnm hown hK hP hD hS i (tc_W_at h1) hc f hf (hts _ (hTs _ hw)) (fun _ h9 => h9) hfin (by rw [hty f hf, ht]) hb9.1.1 hb9.1.2 (by rw [List.length_mapIdx]; exact (List.getElem?_eq_some_iff.mp h2).1) hd (fun H1 locs1 hP1 hD1 hS1 => ?_)
      rw [hset] at hP1 hD1
      exact h _ _ _ hb9.2 H1 locs1 ls hP1 hD1 hS1 hl
    · exact hb9.elim
  · exact hb9.elim
theorem to_putJ {ci f ix N : Nat} {C : String} {T : u_T} {ty0 : Nat → FieldType} (X : tc_Cx R cc nL own Z) (hc : tc_cl[ci]? = some (C, T, N)) (hf : f < N) (hin : ∀ w ∈ u_ws C T N, w ∈ tc_tb) (hty : ∀ k, k < N → parseFieldDescriptor (T k).2.2.1 = some (ty0 k)) (hnm : ∀ a, a < N → ∀ b, b < N → a ≠ b → (T a).2.1 ≠ (T b).2.1) (hfin : (T f).2.2.2 = false) (ht : ty0 f = .long) (hw : Cond.fieldLink own ix (T f).1 (T f).2.1 (T f).2.2.1 ∈ tc_tb) (hd : decode cc pc = .ok (.putfield ix, 3)) (h : tc_Ok nL Z (pc + 3) k) : tc_Ok nL Z pc (tb_putJ ci f k) := by
  obtain ⟨p, l, e, R', s, m, args, below, meth, c, n, Q, Ts, D, ad, cA, A⟩ := Z
  obtain ⟨rfl, ⟨hx, hb, hml, hown, hts⟩, hK, hA, hSt, hTs, hn⟩ := X
  intro L K S hb9 H locs ls hP hD hS hl
  simp only [tb_putJ] at hb9
  split at hb9
  · split at hb9
    · rename_i x q r o z ht9
      obtain ⟨i, fs, rfl, h1, h2⟩ := tc_fld_spec ht9
      have hset : (tc_W ad cA S).set i (ad 0 i, .inr (ci, (fs.mapIdx (fun k' f => tc_v ad (tc_fv S i k' f))).set f (.long x))) = tc_W ad cA (tc_ul S i f x) := tc_W_set h1 (by rw [tc_cell_o, tc_put_j h2]) (fun j c' hj _ => tc_cell_ul hj)
      refine va_put (D := D) (ci := ci) (v := .long x) (ty := .long) (C := C) (T := T) (N := N) hx hb hts (fun w hw => hTs w (hin w hw)) ty0 hty hnm hown hK hP hD hS i (tc_W_at h1) hc f hf (hts _ (hTs _ hw)) (fun _ h9 => h9) hfin (by rw [hty f hf, ht]) rfl rfl (by rw [List.length_mapIdx]; exact (List.getElem?_eq_some_iff.mp h2).1) hd (fun H1 locs1 hP1 hD1 hS1 => ?_)
      rw [hset] at hP1 hD1
      exact h _ _ _ hb9 H1 locs1 ls hP1 hD1 hS1 hl
    · exact hb9.elim
  · exact hb9.elim
-- arrays
def tb_iald (k : tc_B) : tc_B := fun L K S => match K with
  | .inl i :: .inr (.inr q) :: r => (match tc_arr q with
    | some (0, n) => vp_in i n ∧ k L (.inl (S.1 q.2 i.toNatClampNeg) :: r) S
    | _ => False)
  | _ => False
def tb_zald (k : tc_B) : tc_B := fun L K S => match K with
  | .inl i :: .inr (.inr q) :: r => (match tc_arr q with
    | some (1, n) => vp_in i n ∧ k L (.inl (S.1 q.2 i.toNatClampNeg) :: r) S
    | _ => False)
  | _ => False
def tb_jald (k : tc_B) : tc_B := fun L K S => match K with
  | .inl i :: .inr (.inr q) :: r => (match tc_arr q with
    | some (2, n) => vp_in i n ∧ k L (.inr (.inl (S.2.1 q.2 i.toNatClampNeg)) :: r) S
    | _ => False)
  | _ => False
theorem to_iald (X : tc_Cx R cc nL own Z) (hd : decode cc pc = .ok (.iaload, 1)) (h : tc_Ok nL Z (pc + 1) k) : tc_Ok nL Z pc (tb_iald k) := by
  obtain ⟨p, l, e, R', s, m, args, below, meth, c, n, Q, Ts, D, ad, cA, A⟩ := Z
  obtain ⟨rfl, ⟨hx, hb, hml, hown, hts⟩, hK, hA, hSt, hTs, hn⟩ := X
  intro L K S hb9 H locs ls hP hD hS hl
  simp only [tb_iald] at hb9
  split at hb9
  · split at hb9
    · rename_i x q r o nn ht9
      obtain ⟨i, rfl, h1⟩ := tc_arr_spec ht9
      exact va_iald hx hb hK hP i 0 (tc_W_at h1) rfl hb9.1 hd (h _ _ _ hb9.2 H locs ls hP hD hS hl)
    · exact hb9.elim
  · exact hb9.elim
theorem to_zald (X : tc_Cx R cc nL own Z) (hd : decode cc pc = .ok (.baload, 1)) (h : tc_Ok nL Z (pc + 1) k) : tc_Ok nL Z pc (tb_zald k) := by
  obtain ⟨p, l, e, R', s, m, args, below, meth, c, n, Q, Ts, D, ad, cA, A⟩ := Z
  obtain ⟨rfl, ⟨hx, hb, hml, hown, hts⟩, hK, hA, hSt, hTs, hn⟩ := X
  intro L K S hb9 H locs ls hP hD hS hl
  simp only [tb_zald] at hb9
  split at hb9
  · split at hb9
    · rename_i x q r o nn ht9
      obtain ⟨i, rfl, h1⟩ := tc_arr_spec ht9
      exact va_zald hx hb hK hP i 1 (tc_W_at h1) rfl hb9.1 hd (h _ _ _ hb9.2 H locs ls hP hD hS hl)
    · exact hb9.elim
  · exact hb9.elim
theorem to_jald (X : tc_Cx R cc nL own Z) (hd : decode cc pc = .ok (.laload, 1)) (h : tc_Ok nL Z (pc + 1) k) : tc_Ok nL Z pc (tb_jald k) := by
  obtain ⟨p, l, e, R', s, m, args, below, meth, c, n, Q, Ts, D, ad, cA, A⟩ := Z
  obtain ⟨rfl, ⟨hx, hb, hml, hown, hts⟩, hK, hA, hSt, hTs, hn⟩ := X
  intro L K S hb9 H locs ls hP hD hS hl
  simp only [tb_jald] at hb9
  split at hb9
  · split at hb9
    · rename_i x q r o nn ht9
      obtain ⟨i, rfl, h1⟩ := tc_arr_spec ht9
      exact va_lald hx hb hK hP i 2 (tc_W_at h1) rfl hb9.1 hd (h _ _ _ hb9.2 H locs ls hP hD hS hl)
    · exact hb9.elim
  · exact hb9.elim
def tb_iast (k : tc_B) : tc_B := fun L K S => match K with
  | .inl x :: .inl i :: .inr (.inr q) :: r => (match tc_arr q with
    | some (0, n) => vp_in i n ∧ k L r (tc_ui S q.2 i.toNatClampNeg x)
    | _ => False)
  | _ => False
def tb_zast (k : tc_B) : tc_B := fun L K S => match K with
  | .inl x :: .inl i :: .inr (.inr q) :: r => (match tc_arr q with
    | some (1, n) => vp_in i n ∧ k L r (tc_ui S q.2 i.toNatClampNeg (vp_nar .boolean x))
    | _ => False)
  | _ => False
def tb_jast (k : tc_B) : tc_B := fun L K S => match K with
  | .inr (.inl x) :: .inl i :: .inr (.inr q) :: r => (match tc_arr q with
    | some (2, n) => vp_in i n ∧ k L r (tc_ul S q.2 i.toNatClampNeg x)
    | _ => False)
  | _ => False
theorem to_iast (X : tc_Cx R cc nL own Z) (hd : decode cc pc = .ok (.iastore, 1)) (h : tc_Ok nL Z (pc + 1) k) : tc_Ok nL Z pc (tb_iast k) := by
  obtain ⟨p, l, e, R', s, m, args, below, meth, c, n, Q, Ts, D, ad, cA, A⟩ := Z
  obtain ⟨rfl, ⟨hx, hb, hml, hown, hts⟩, hK, hA, hSt, hTs, hn⟩ := X
  intro L K S hb9 H locs ls hP hD hS hl
  simp only [tb_iast] at hb9
  split at hb9
  · split at hb9
    · rename_i x y q r o nn ht9
      obtain ⟨i, rfl, h1⟩ := tc_arr_spec ht9
      have hset : (tc_W ad cA S).set i (ad 0 i, .inl (cA 0, nn, .inl (upd (S.1 i) y.toNatClampNeg x))) = tc_W ad cA (tc_ui S i y.toNatClampNeg x) := tc_W_set h1 (by rw [tc_cell_i, tc_ui_self]) (fun j c' hj _ => tc_cell_ui hj)
      refine va_iast hx hb hK hP hD hS i 0 (tc_W_at h1) rfl hb9.1 hd (fun H1 locs1 hP1 hD1 hS1 => ?_)
      rw [hset] at hP1 hD1
      exact h _ _ _ hb9.2 H1 locs1 ls hP1 hD1 hS1 hl
    · exact hb9.elim
  · exact hb9.elim
theorem to_zast (X : tc_Cx R cc nL own Z) (hd : decode cc pc = .ok (.bastore, 1)) (h : tc_Ok nL Z (pc + 1) k) : tc_Ok nL Z pc (tb_zast k) := by
  obtain ⟨p, l, e, R', s, m, args, below, meth, c, n, Q, Ts, D, ad, cA, A⟩ := Z
  obtain ⟨rfl, ⟨hx, hb, hml, hown, hts⟩, hK, hA, hSt, hTs, hn⟩ := X
  intro L K S hb9 H locs ls hP hD hS hl
  simp only [tb_zast] at hb9
  split at hb9
  · split at hb9
    · rename_i x y q r o nn ht9
      obtain ⟨i, rfl, h1⟩ := tc_arr_spec ht9
      have hset : (tc_W ad cA S).set i (ad 0 i, .inl (cA 1, nn, .inl (upd (S.1 i) y.toNatClampNeg (vp_nar .boolean x)))) = tc_W ad cA (tc_ui S i y.toNatClampNeg (vp_nar .boolean x)) := tc_W_set h1 (by rw [tc_cell_z, tc_ui_self]) (fun j c' hj _ => tc_cell_ui hj)
      refine va_zast hx hb hK hP hD hS i 1 (tc_W_at h1) rfl hb9.1 hd (fun H1 locs1 hP1 hD1 hS1 => ?_)
      rw [hset] at hP1 hD1
      exact h _ _ _ hb9.2 H1 locs1 ls hP1 hD1 hS1 hl
    · exact hb9.elim
  · exact hb9.elim
theorem to_jast (X : tc_Cx R cc nL own Z) (hd : decode cc pc = .ok (.lastore, 1)) (h : tc_Ok nL Z (pc + 1) k) : tc_Ok nL Z pc (tb_jast k) := by
  obtain ⟨p, l, e, R', s, m, args, below, meth, c, n, Q, Ts, D, ad, cA, A⟩ := Z
  obtain ⟨rfl, ⟨hx, hb, hml, hown, hts⟩, hK, hA, hSt, hTs, hn⟩ := X
  intro L K S hb9 H locs ls hP hD hS hl
  simp only [tb_jast] at hb9
  split at hb9
  · split at hb9
    · rename_i x y q r o nn ht9
      obtain ⟨i, rfl, h1⟩ := tc_arr_spec ht9
      have hset : (tc_W ad cA S).set i (ad 0 i, .inl (cA 2, nn, .inr (.inl (vp_updL (S.2.1 i) y.toNatClampNeg x)))) = tc_W ad cA (tc_ul S i y.toNatClampNeg x) := tc_W_set h1 (by rw [tc_cell_j, tc_ul_self]) (fun j c' hj _ => tc_cell_ul hj)
      refine va_last hx hb hK hP hD hS i 2 (tc_W_at h1) rfl hb9.1 hd (fun H1 locs1 hP1 hD1 hS1 => ?_)
      rw [hset] at hP1 hD1
      exact h _ _ _ hb9.2 H1 locs1 ls hP1 hD1 hS1 hl
    · exact hb9.elim
  · exact hb9.elim
def tb_alen (k : tc_B) : tc_B := fun L K S => match K with
  | .inr (.inr q) :: r => (match tc_arr q with
    | some (0, n) => k L (.inl (Int32.ofNat n) :: r) S
    | _ => False)
  | _ => False
theorem to_alen (X : tc_Cx R cc nL own Z) (hd : decode cc pc = .ok (.arraylength, 1)) (h : tc_Ok nL Z (pc + 1) k) : tc_Ok nL Z pc (tb_alen k) := by
  obtain ⟨p, l, e, R', s, m, args, below, meth, c, n, Q, Ts, D, ad, cA, A⟩ := Z
  obtain ⟨rfl, ⟨hx, hb, hml, hown, hts⟩, hK, hA, hSt, hTs, hn⟩ := X
  intro L K S hb9 H locs ls hP hD hS hl
  simp only [tb_alen] at hb9
  split at hb9
  · split at hb9
    · rename_i q r o nn ht9
      obtain ⟨i, rfl, h1⟩ := tc_arr_spec ht9
      exact va_alen (ty := .int) hx hb hK hP i 0 (tc_W_at h1) rfl rfl hd (h _ _ _ hb9 H locs ls hP hD hS hl)
    · exact hb9.elim
  · exact hb9.elim
-- statics and constants
def tb_gets (z : tc_V) (k : tc_B) : tc_B := fun L K S => k L (z :: K) S
theorem to_gets {C f d : String} {ix : Nat} {z : tc_V} (X : tc_Cx R cc nL own Z) (hz : (C, f, d, z) ∈ tc_zs) (hw : Cond.fieldLink own ix C f d ∈ tc_tb) (hd : decode cc pc = .ok (.getstatic ix, 3)) (h : tc_Ok nL Z (pc + 3) k) : tc_Ok nL Z pc (tb_gets z k) := by
  obtain ⟨p, l, e, R', s, m, args, below, meth, c, n, Q, Ts, D, ad, cA, A⟩ := Z
  obtain ⟨rfl, ⟨hx, hb, hml, hown, hts⟩, hK, hA, hSt, hTs, hn⟩ := X
  intro L K S hb9 H locs ls hP hD hS hl
  exact va_gets hx hb (hSt.1 _ hz) hS hown (hts _ (hTs _ hw)) (fun _ h9 => h9) hd (h _ _ _ hb9 H locs ls hP hD hS hl)
def tb_getE (kd N : Nat) (f : Nat → tc_V) (k : tc_B) : tc_B := fun L K S => match K with
  | .inr (.inr q) :: r => (match Nat.beq q.1 kd with
    | true => q.2 < N ∧ k L (f q.2 :: r) S
    | false => False)
  | _ => False
theorem to_getE {kd N ix : Nat} {o fn d : String} {f : Nat → tc_V} (X : tc_Cx R cc nL own Z) (hz : ((kd, N), o, fn, d, f) ∈ tc_fs) (hw : Cond.fieldLink own ix o fn d ∈ tc_tb) (hd : decode cc pc = .ok (.getfield ix, 3)) (h : tc_Ok nL Z (pc + 3) k) : tc_Ok nL Z pc (tb_getE kd N f k) := by
  obtain ⟨p, l, e, R', s, m, args, below, meth, c, n, Q, Ts, D, ad, cA, A⟩ := Z
  obtain ⟨rfl, ⟨hx, hb, hml, hown, hts⟩, hK, hA, hSt, hTs, hn⟩ := X
  intro L K S hb9 H locs ls hP hD hS hl
  simp only [tb_getE] at hb9
  split at hb9
  · split at hb9
    · rename_i q r o hq
      obtain ⟨q1, i⟩ := q
      have e9 : q1 = kd := Nat.eq_of_beq_eq_true hq
      subst e9
      exact vk_getf hx hb (hSt.2.2.2.2.1 _ hz i hb9.1) hS hown (hts _ (hTs _ hw)) (fun _ h9 => h9) hd (h _ _ _ hb9.2 H locs ls hP hD hS hl)
    · exact hb9.elim
  · exact hb9.elim
def tb_aaldR (k : tc_B) : tc_B := fun L K S => match K with
  | .inl i :: .inr (.inr (4, 0)) :: r => vp_in i 4 ∧ k L (.inr (.inr (1, i.toNatClampNeg)) :: r) S
  | _ => False
def tb_aaldC (k : tc_B) : tc_B := fun L K S => match K with
  | .inl i :: .inr (.inr (4, 1)) :: r => vp_in i 6 ∧ k L (.inr (.inr (2, i.toNatClampNeg)) :: r) S
  | _ => False
theorem to_aaldR (X : tc_Cx R cc nL own Z) (hd : decode cc pc = .ok (.aaload, 1)) (h : tc_Ok nL Z (pc + 1) k) : tc_Ok nL Z pc (tb_aaldR k) := by
  obtain ⟨p, l, e, R', s, m, args, below, meth, c, n, Q, Ts, D, ad, cA, A⟩ := Z
  obtain ⟨rfl, ⟨hx, hb, hml, hown, hts⟩, hK, hA, hSt, hTs, hn⟩ := X
  intro L K S hb9 H locs ls hP hD hS hl
  simp only [tb_aaldR] at hb9
  split at hb9
  · exact vb_tq hx hb hSt.2.2.2.2.2.1 hS hb9.1 rfl hd (h _ _ _ hb9.2 H locs ls hP hD hS hl)
  · exact hb9.elim
theorem to_aaldC (X : tc_Cx R cc nL own Z) (hd : decode cc pc = .ok (.aaload, 1)) (h : tc_Ok nL Z (pc + 1) k) : tc_Ok nL Z pc (tb_aaldC k) := by
  obtain ⟨p, l, e, R', s, m, args, below, meth, c, n, Q, Ts, D, ad, cA, A⟩ := Z
  obtain ⟨rfl, ⟨hx, hb, hml, hown, hts⟩, hK, hA, hSt, hTs, hn⟩ := X
  intro L K S hb9 H locs ls hP hD hS hl
  simp only [tb_aaldC] at hb9
  split at hb9
  · exact vb_tq hx hb hSt.2.2.2.2.2.2.1 hS hb9.1 rfl hd (h _ _ _ hb9.2 H locs ls hP hD hS hl)
  · exact hb9.elim
def tb_alenR (k : tc_B) : tc_B := fun L K S => match K with
  | .inr (.inr (4, 0)) :: r => k L (.inl 4 :: r) S
  | _ => False
def tb_alenC (k : tc_B) : tc_B := fun L K S => match K with
  | .inr (.inr (4, 1)) :: r => k L (.inl 6 :: r) S
  | _ => False
theorem to_alenR (X : tc_Cx R cc nL own Z) (hd : decode cc pc = .ok (.arraylength, 1)) (h : tc_Ok nL Z (pc + 1) k) : tc_Ok nL Z pc (tb_alenR k) := by
  obtain ⟨p, l, e, R', s, m, args, below, meth, c, n, Q, Ts, D, ad, cA, A⟩ := Z
  obtain ⟨rfl, ⟨hx, hb, hml, hown, hts⟩, hK, hA, hSt, hTs, hn⟩ := X
  intro L K S hb9 H locs ls hP hD hS hl
  simp only [tb_alenR] at hb9
  split at hb9
  · exact va_tlen hx hb hSt.2.2.2.2.2.1 hS (by decide) hd (h _ _ _ hb9 H locs ls hP hD hS hl)
  · exact hb9.elim
theorem to_alenC (X : tc_Cx R cc nL own Z) (hd : decode cc pc = .ok (.arraylength, 1)) (h : tc_Ok nL Z (pc + 1) k) : tc_Ok nL Z pc (tb_alenC k) := by
  obtain ⟨p, l, e, R', s, m, args, below, meth, c, n, Q, Ts, D, ad, cA, A⟩ := Z
  obtain ⟨rfl, ⟨hx, hb, hml, hown, hts⟩, hK, hA, hSt, hTs, hn⟩ := X
  intro L K S hb9 H locs ls hP hD hS hl
  simp only [tb_alenC] at hb9
  split at hb9
  · exact va_tlen hx hb hSt.2.2.2.2.2.2.1 hS (by decide) hd (h _ _ _ hb9 H locs ls hP hD hS hl)
  · exact hb9.elim
def tb_acmpR (kt kf : tc_B) : tc_B := fun L K S => match K with
  | .inr (.inr (1, y)) :: .inr (.inr (1, x)) :: r => x < 4 ∧ y < 4 ∧ (x = y → kf L r S) ∧ (¬ x = y → kt L r S)
  | _ => False
def tb_acmpC (kt kf : tc_B) : tc_B := fun L K S => match K with
  | .inr (.inr (2, y)) :: .inr (.inr (2, x)) :: r => x < 6 ∧ y < 6 ∧ (x = y → kf L r S) ∧ (¬ x = y → kt L r S)
  | _ => False
theorem to_acmpR {off : Int} {tgt : Nat} (X : tc_Cx R cc nL own Z) (hd : decode cc pc = .ok (.if_acmp .ne off, 3)) (hg : (pc : Int) + off = (tgt : Int)) (ht : tc_Ok nL Z tgt kt) (hf : tc_Ok nL Z (pc + 3) kf) : tc_Ok nL Z pc (tb_acmpR kt kf) := by
  obtain ⟨p, l, e, R', s, m, args, below, meth, c, n, Q, Ts, D, ad, cA, A⟩ := Z
  obtain ⟨rfl, ⟨hx, hb, hml, hown, hts⟩, hK, hA, hSt, hTs, hn⟩ := X
  intro L K S hb9 H locs ls hP hD hS hl
  simp only [tb_acmpR] at hb9
  split at hb9
  · rename_i y x r
    obtain ⟨b1, b2, b3, b4⟩ := hb9
    exact lv_acmp_ne (rx := some (ad 1 x)) (ry := some (ad 1 y)) hx hb hd hg (fun z => ht _ _ _ (b4 (fun e9 => z (by rw [e9]))) H locs ls hP hD hS hl) (fun z => hf _ _ _ (b3 (hSt.2.2.2.2.2.2.2.1 x y b1 b2 (Option.some.inj z))) H locs ls hP hD hS hl)
  · exact hb9.elim
theorem to_acmpC {off : Int} {tgt : Nat} (X : tc_Cx R cc nL own Z) (hd : decode cc pc = .ok (.if_acmp .ne off, 3)) (hg : (pc : Int) + off = (tgt : Int)) (ht : tc_Ok nL Z tgt kt) (hf : tc_Ok nL Z (pc + 3) kf) : tc_Ok nL Z pc (tb_acmpC kt kf) := by
  obtain ⟨p, l, e, R', s, m, args, below, meth, c, n, Q, Ts, D, ad, cA, A⟩ := Z
  obtain ⟨rfl, ⟨hx, hb, hml, hown, hts⟩, hK, hA, hSt, hTs, hn⟩ := X
  intro L K S hb9 H locs ls hP hD hS hl
  simp only [tb_acmpC] at hb9
  split at hb9
  · rename_i y x r
    obtain ⟨b1, b2, b3, b4⟩ := hb9
    exact lv_acmp_ne (rx := some (ad 2 x)) (ry := some (ad 2 y)) hx hb hd hg (fun z => ht _ _ _ (b4 (fun e9 => z (by rw [e9]))) H locs ls hP hD hS hl) (fun z => hf _ _ _ (b3 (hSt.2.2.2.2.2.2.2.2.1 x y b1 b2 (Option.some.inj z))) H locs ls hP hD hS hl)
  · exact hb9.elim
-- Math
def tb_mmax (k : tc_B) : tc_B := fun L K S => match K with
  | .inl y :: .inl x :: r => (match Nat.ble ((r.map tc_cat).sum + 13) 21 with
    | true => k L (.inl (if x < y then y else x) :: r) S
    | false => False)
  | _ => False
def tb_mabs (k : tc_B) : tc_B := fun L K S => match K with
  | .inr (.inl x) :: r => (match Nat.ble ((r.map tc_cat).sum + 13) 21 with
    | true => k L (.inr (.inl (if 0 < x then x else -x)) :: r) S
    | false => False)
  | _ => False
theorem tc_sumc (ad : Nat → Nat → Nat) (r : List tc_V) : ((r.map (tc_v ad)).map fun v => v.category).sum = (r.map tc_cat).sum := by
  rw [List.map_map]
  congr 1
  exact List.map_congr_left (fun v _ => tc_cat_v ad v)
theorem to_mmax {ix : Nat} (X : tc_Cx R cc nL own Z) (hR : 1 ≤ R.frames ∧ 21 ≤ R.locals) (h1 : Cond.methodLink own ix Lib.Math.max.name ∈ tc_tb) (h2 : Cond.static Lib.Math.max.name ∈ tc_tb) (h3 : Cond.initialized "java/lang/Math" ∈ tc_tb) (h4 : Cond.code Lib.Math.max.name Lib.Math.max.code 2 (some .int) ∈ tc_tb) (hd : decode cc pc = .ok (.invokestatic ix, 3)) (h : tc_Ok nL Z (pc + 3) k) : tc_Ok nL Z pc (tb_mmax k) := by
  obtain ⟨p, l, e, R', s, m, args, below, meth, c, n, Q, Ts, D, ad, cA, A⟩ := Z
  obtain ⟨rfl, ⟨hx, hb, hml, hown, hts⟩, hK, hA, hSt, hTs, hn⟩ := X
  intro L K S hb9 H locs ls hP hD hS hl
  simp only [tb_mmax] at hb9
  split at hb9
  · split at hb9
    · rename_i y x r o hle
      exact va_mmax hx hb (by rw [hml, hl.1]) hown (hts _ (hTs _ h1)) (hts _ (hTs _ h2)) (hts _ (hTs _ h3)) (hts _ (hTs _ h4)) hR.1 (by have q1 := Nat.le_of_ble_eq_true hle; have q2 := hR.2; rw [tc_sumc]; omega) hn.1 hn.2 hd (h _ _ _ hb9 H locs ls hP hD hS hl)
    · exact hb9.elim
  · exact hb9.elim
theorem to_mabs {ix : Nat} (X : tc_Cx R cc nL own Z) (hR : 1 ≤ R.frames ∧ 21 ≤ R.locals) (h1 : Cond.methodLink own ix Lib.MathLoose.abs_long.x ∈ tc_tb) (h2 : Cond.static Lib.MathLoose.abs_long.x ∈ tc_tb) (h3 : Cond.initialized "java/lang/Math" ∈ tc_tb) (h4 : Cond.code Lib.MathLoose.abs_long.x Lib.MathLoose.abs_long.code 2 (some .long) ∈ tc_tb) (hd : decode cc pc = .ok (.invokestatic ix, 3)) (h : tc_Ok nL Z (pc + 3) k) : tc_Ok nL Z pc (tb_mabs k) := by
  obtain ⟨p, l, e, R', s, m, args, below, meth, c, n, Q, Ts, D, ad, cA, A⟩ := Z
  obtain ⟨rfl, ⟨hx, hb, hml, hown, hts⟩, hK, hA, hSt, hTs, hn⟩ := X
  intro L K S hb9 H locs ls hP hD hS hl
  simp only [tb_mabs] at hb9
  split at hb9
  · split at hb9
    · rename_i x r o hle
      exact va_mabs_long hx hb (by rw [hml, hl.1]) hown (hts _ (hTs _ h1)) (hts _ (hTs _ h2)) (hts _ (hTs _ h3)) (hts _ (hTs _ h4)) hR.1 (by have q1 := Nat.le_of_ble_eq_true hle; have q2 := hR.2; rw [tc_sumc]; omega) hn.1 hn.2 hd (h _ _ _ hb9 H locs ls hP hD hS hl)
    · exact hb9.elim
  · exact hb9.elim
-- switches
def tc_sw (x : Int32) (r : List tc_V) (L : tc_L) (S : tc_S) : Int32 → List tc_B → Prop
  | _, [] => True
  | i, k :: ks => (x = i → k L r S) ∧ tc_sw x r L S (i + 1) ks
def tb_tsw (lo hi : Int32) (ks : List tc_B) (kd : tc_B) : tc_B := fun L K S => match K with
  | .inl x :: r => ((x < lo ∨ hi < x) → kd L r S) ∧ tc_sw x r L S lo ks
  | _ => False
def tc_swOk (nL : Nat) (Z : tc_Z) : List Nat → List tc_B → Prop
  | [], [] => True
  | t :: ts, k :: ks => tc_Ok nL Z t k ∧ tc_swOk nL Z ts ks
  | _, _ => False
theorem tc_sw_at {x : Int32} {r : List tc_V} {L : tc_L} {S : tc_S} {Z : tc_Z} : ∀ (ks : List tc_B) (ts : List Nat) (lo : Int32) (j t : Nat), tc_sw x r L S lo ks → tc_swOk nL Z ts ks → ts[j]? = some t → x = lo + Int32.ofNat j → tc_At nL Z t L r S := by
  intro ks
  induction ks with
  | nil =>
    intro ts lo j t h1 h2 h3 h4
    cases ts with
    | nil => simp at h3
    | cons a b => exact h2.elim
  | cons k ks ih =>
    intro ts lo j t h1 h2 h3 h4
    cases ts with
    | nil => exact h2.elim
    | cons a b =>
      cases j with
      | zero =>
        simp at h3
        subst h3
        exact h2.1 _ _ _ (h1.1 (by rw [h4]; simp))
      | succ j =>
        simp at h3
        refine ih b (lo + 1) j t h1.2 h2.2 h3 ?_
        rw [h4, show Int32.ofNat (j + 1) = nI (j + 1) from rfl, nI_succ, Int32.add_assoc, Int32.add_comm 1]
        rfl
theorem to_tsw {dflt lo hi : Int} {offs : Array Int} {len td : Nat} {lo' hi' : Int32} {ks : List tc_B} {kd : tc_B} (ts : List Nat) (X : tc_Cx R cc nL own Z) (hd : decode cc pc = .ok (.tableswitch dflt lo hi offs, len)) (hlo : lo'.toInt = lo) (hhi : hi'.toInt = hi) (h0 : 0 ≤ lo ∧ hi < 1000000) (hts9 : offs.toList.map (fun o => (pc : Int) + o) = ts.map Int.ofNat) (hlen : hi < lo + ts.length) (hdt : (pc : Int) + dflt = (td : Int)) (hdf : tc_Ok nL Z td kd) (h : tc_swOk nL Z ts ks) : tc_Ok nL Z pc (tb_tsw lo' hi' ks kd) := by
  intro L K S hb9
  simp only [tb_tsw] at hb9
  split at hb9
  · rename_i x r
    by_cases hout : x < lo' ∨ hi' < x
    · have h2 := hdf _ _ _ (hb9.1 hout)
      obtain ⟨p, l, e, R', s, m, args, below, meth, c, n, Q, Ts, D, ad, cA, A⟩ := Z
      obtain ⟨rfl, ⟨hx, hb, hml, hown, hts⟩, hK, hA, hSt, hTs, hn⟩ := X
      intro H locs ls hP hD hS hl
      refine lv_tableOut hx hb hd ?_ hdt (h2 H locs ls hP hD hS hl)
      rcases hout with q | q
      · exact Or.inl (by rw [← hlo]; exact Int32.lt_iff_toInt_lt.mp q)
      · exact Or.inr (by rw [← hhi]; exact Int32.lt_iff_toInt_lt.mp q)
    · have q1 : ¬ x.toInt < lo := by rw [← hlo]; exact fun q => hout (Or.inl (Int32.lt_iff_toInt_lt.mpr q))
      have q2 : ¬ hi < x.toInt := by rw [← hhi]; exact fun q => hout (Or.inr (Int32.lt_iff_toInt_lt.mpr q))
      obtain ⟨j, hj⟩ : ∃ j : Nat, x.toInt - lo = j := ⟨(x.toInt - lo).toNat, by omega⟩
      have hjl : j < ts.length := by omega
      obtain ⟨t, ht⟩ : ∃ t, ts[j]? = some t := ⟨ts[j], List.getElem?_eq_getElem hjl⟩
      have ho : (offs.toList.map (fun o => (pc : Int) + o))[j]? = some (Int.ofNat t) := by
        rw [hts9, List.getElem?_map, ht]
        rfl
      rw [List.getElem?_map] at ho
      cases hof : offs.toList[j]? with
      | none => rw [hof] at ho; cases ho
      | some off =>
        rw [hof] at ho
        have hpc : (pc : Int) + off = (t : Int) := Option.some.inj ho
        have hxe : x = lo' + Int32.ofNat j := by
          apply Int32.toInt_inj.mp
          have e1 : (Int32.ofNat j).toInt = (j : Int) := nI_toInt (by omega)
          rw [Jvm.Kit.i32_add (by rw [e1]; omega) (by rw [e1]; omega), e1, hlo]
          omega
        have h2 := tc_sw_at ks ts lo' j t hb9.2 h ht hxe
        obtain ⟨p, l, e, R', s, m, args, below, meth, c, n, Q, Ts, D, ad, cA, A⟩ := Z
        obtain ⟨rfl, ⟨hx, hb, hml, hown, hts⟩, hK, hA, hSt, hTs, hn⟩ := X
        intro H locs ls hP hD hS hl
        refine lv_tableIn (off := off) (tgt := t) hx hb hd q1 q2 ?_ hpc (h2 H locs ls hP hD hS hl)
        rw [hj]
        show offs[((j : Int)).toNat]? = some off
        rw [Int.toNat_natCast, ← Array.getElem?_toList]
        exact hof
  · exact hb9.elim
end TCHEAP
end
section
/-! ends of methods, contracts, calls -/
section TCRET
variable {R : Room} {cc : ByteArray} {nL : Nat} {own : String} {Z : tc_Z} {pc : Nat} {k kt kf : tc_B} {q : tc_Q}
theorem tc_cell_ur {ad : Nat → Nat → Nat} {cA : Nat → ClassId} {S : tc_S} {x j : Nat} {c : tc_C} (hj : j ≠ 0) (h : tc_lay[j]? = some c) : tc_cell ad cA (tc_ur S x) j c = tc_cell ad cA S j c := by
  have h0 := tc_lay_r j c hj h
  rcases c with o | a
  · obtain ⟨ci, fs⟩ := o
    rw [tc_cell_o, tc_cell_o]
    have e : fs.mapIdx (fun k f => tc_v ad (tc_fv (tc_ur S x) j k f)) = fs.mapIdx (fun k f => tc_v ad (tc_fv S j k f)) := by
      apply List.ext_getElem?
      intro i
      rw [List.getElem?_mapIdx, List.getElem?_mapIdx]
      cases hf : fs[i]? with
      | none => rfl
      | some f =>
        have h3 : (f.1 != 3) = true := List.all_eq_true.mp h0 f (List.mem_of_getElem? hf)
        obtain ⟨f1, f2⟩ := f
        simp only [Option.map_some]
        match f1, h3 with
        | 0, _ => rfl
        | 1, _ => rfl
        | 2, _ => rfl
        | 3, h3 => cases h3
        | n + 4, _ =>
          exact absurd (List.mem_of_getElem? hf) (by
            intro hm
            have h4 : tc_lay.all (fun c => match c with
              | .inl o => o.2.all (fun f => Nat.ble f.1 3)
              | .inr _ => true) = true := by decide +kernel
            have h5 := List.all_eq_true.mp h4 _ (List.mem_of_getElem? h)
            have h6 := List.all_eq_true.mp h5 _ hm
            have h7 := Nat.le_of_ble_eq_true h6
            simp at h7)
    rw [e]
  · rfl
def tc_fs0 : List (Nat × Nat) := [(2, 1), (2, 2), (2, 3), (2, 4), (2, 5), (2, 6), (2, 7), (2, 8), (2, 9), (2, 10), (2, 11), (2, 12), (2, 13), (3, 0)]
theorem tc_lay0 : tc_lay[0]? = some (.inl (8, tc_fs0)) := rfl
theorem tc_put_r {ad : Nat → Nat → Nat} {S : tc_S} {x : Nat} : tc_fs0.mapIdx (fun k' f => tc_v ad (tc_fv (tc_ur S x) 0 k' f)) = (tc_fs0.mapIdx (fun k' f => tc_v ad (tc_fv S 0 k' f))).set 13 (.ref (ad 1 x)) := rfl
theorem to_putR {ix : Nat} (X : tc_Cx R cc nL own Z) (hin : ∀ w ∈ u_ws RX10 TX10 14, w ∈ tc_tb) (hw : Cond.fieldLink own ix "ToldChances" "current" "LToldChances$Rule;" ∈ tc_tb) (hd : decode cc pc = .ok (.putfield ix, 3)) (h : tc_Ok nL Z (pc + 3) k) : tc_Ok nL Z pc (tb_putR 8 13 k) := by
  obtain ⟨p, l, e, R', s, m, args, below, meth, c, n, Q, Ts, D, ad, cA, A⟩ := Z
  obtain ⟨rfl, ⟨hx, hb, hml, hown, hts⟩, hK, hA, hSt, hTs, hn⟩ := X
  intro L K S hb9 H locs ls hP hD hS hl
  simp only [tb_putR] at hb9
  split at hb9
  · split at hb9
    · rename_i x q r o z ht9
      obtain ⟨i, fs, rfl, h1, h2⟩ := tc_fld_spec ht9
      have hi0 : i = 0 := by
        by_cases hi : i = 0
        · exact hi
        · have h5 := tc_lay_r i _ hi h1
          have h6 := List.all_eq_true.mp h5 _ (List.mem_of_getElem? h2)
          cases h6
      subst hi0
      have hfs : fs = tc_fs0 := by
        rw [tc_lay0] at h1
        have h8 := Sum.inl.inj (Option.some.inj h1)
        exact ((Prod.mk.inj h8).2).symm
      subst hfs
      have hset : (tc_W ad cA S).set 0 (ad 0 0, .inr (8, (tc_fs0.mapIdx (fun k' f => tc_v ad (tc_fv S 0 k' f))).set 13 (.ref (ad 1 x)))) = tc_W ad cA (tc_ur S x) := tc_W_set h1 (by rw [tc_cell_o, tc_put_r]) (fun j c' hj hc => tc_cell_ur hj hc)
      refine va_put (D := D) (ci := 8) (v := .ref (ad 1 x)) (ty := .object "ToldChances$Rule") (C := RX10) (T := TX10) (N := 14) hx hb hts (fun w hw => hTs w (hin w hw)) tyX10 tyX10_ok nmX10 hown hK hP hD hS 0 (tc_W_at h1) rfl 13 (by decide) (hts _ (hTs _ hw)) (fun _ h9 => h9) rfl (by decide +kernel) rfl rfl (by rw [List.length_mapIdx]; exact (List.getElem?_eq_some_iff.mp h2).1) hd (fun H1 locs1 hP1 hD1 hS1 => ?_)
      rw [hset] at hP1 hD1
      exact h _ _ _ hb9 H1 locs1 ls hP1 hD1 hS1 hl
    · exact hb9.elim
  · exact hb9.elim
/-- what a method answers: 0 an int, 1 a boolean, 2 a long, 3 nothing -/
def tc_ret : Nat → Option FieldType
  | 0 => some .int
  | 1 => some .boolean
  | 2 => some .long
  | _ => none
def tc_Rt (rk : Nat) (cc : ByteArray) (nL : Nat) (Z : tc_Z) (q : tc_Q) : Prop := match rk with
  | 0 => ∀ pc L x S, q (some (.inl x)) S → decode cc pc = .ok (.ireturn, 1) → tc_At nL Z pc L [.inl x] S
  | 1 => ∀ pc L x S, q (some (.inl x)) S → narrow .boolean (.int x) = .int x → decode cc pc = .ok (.ireturn, 1) → tc_At nL Z pc L [.inl x] S
  | 2 => ∀ pc L x S, q (some (.inr (.inl x))) S → decode cc pc = .ok (.lreturn, 1) → tc_At nL Z pc L [.inr (.inl x)] S
  | _ => ∀ pc L S, q none S → decode cc pc = .ok (.return_, 1) → tc_At nL Z pc L [] S
def tb_iret (q : tc_Q) : tc_B := fun _ K S => match K with
  | [.inl x] => q (some (.inl x)) S
  | _ => False
def tb_zret (q : tc_Q) : tc_B := fun _ K S => match K with
  | [.inl x] => narrow .boolean (.int x) = .int x ∧ q (some (.inl x)) S
  | _ => False
def tb_jret (q : tc_Q) : tc_B := fun _ K S => match K with
  | [.inr (.inl x)] => q (some (.inr (.inl x))) S
  | _ => False
def tb_vret (q : tc_Q) : tc_B := fun _ K S => match K with
  | [] => q none S
  | _ => False
theorem to_iret (hr : tc_Rt 0 cc nL Z q) (hd : decode cc pc = .ok (.ireturn, 1)) : tc_Ok nL Z pc (tb_iret q) := by
  intro L K S hb9
  simp only [tb_iret] at hb9
  split at hb9
  · exact hr pc L _ S hb9 hd
  · exact hb9.elim
theorem to_zret (hr : tc_Rt 1 cc nL Z q) (hd : decode cc pc = .ok (.ireturn, 1)) : tc_Ok nL Z pc (tb_zret q) := by
  intro L K S hb9
  simp only [tb_zret] at hb9
  split at hb9
  · exact hr pc L _ S hb9.2 hb9.1 hd
  · exact hb9.elim
theorem to_jret (hr : tc_Rt 2 cc nL Z q) (hd : decode cc pc = .ok (.lreturn, 1)) : tc_Ok nL Z pc (tb_jret q) := by
  intro L K S hb9
  simp only [tb_jret] at hb9
  split at hb9
  · exact hr pc L _ S hb9 hd
  · exact hb9.elim
theorem to_vret (hr : tc_Rt 3 cc nL Z q) (hd : decode cc pc = .ok (.return_, 1)) : tc_Ok nL Z pc (tb_vret q) := by
  intro L K S hb9
  simp only [tb_vret] at hb9
  split at hb9
  · exact hr pc L S hb9 hd
  · exact hb9.elim
end TCRET
def tc_Pre (D : va_G) (ad : Nat → Nat → Nat) (cA : Nat → ClassId) (S : tc_S) (sz : Nat) (U : State) : Prop := U.heap.size = sz ∧ va_P D tc_cl (tc_W ad cA S) U.heap ∧ va_K D tc_cl (tc_ty cA) U ∧ va_D (fun _ => True) (tc_W ad cA S) ∧ tc_St ad (va_A (tc_W ad cA S) sz) U U.heap
def tc_Be (D : va_G) (ad : Nat → Nat → Nat) (cA : Nat → ClassId) (A : Nat → Prop) (u : tc_S) (t : State) : Prop := va_P D tc_cl (tc_W ad cA u) t.heap ∧ va_K D tc_cl (tc_ty cA) t ∧ va_D A (tc_W ad cA u)
def tc_Po (rk : Nat) (D : va_G) (ad : Nat → Nat → Nat) (cA : Nat → ClassId) (q : tc_Q) (A : Nat → Prop) : Array Value → State → Outcome → State → Prop := match rk with
  | 0 => va_Qi (fun r u => q (some (.inl r)) u) (tc_Be D ad cA A) A
  | 1 => va_Qi (fun r u => q (some (.inl r)) u) (tc_Be D ad cA A) A
  | 2 => va_Ql (fun r u => q (some (.inr (.inl r))) u) (tc_Be D ad cA A) A
  | _ => va_Qv (fun u => q none u) (tc_Be D ad cA A) A
/-- a method's contract: what Rm asks of its arguments and of the state is enough for q to hold of its answer and of the state behind it -/
def tc_Met (y : MethodName) (c : Cond) (rm : Room) (rk nL : Nat) (Rm : List tc_V → tc_S → tc_Q → Prop) : Prop :=
  ∀ (l : Launch) (D : va_G) (ad : Nat → Nat → Nat) (cA : Nat → ClassId) (vs : List tc_V) (S : tc_S) (q : tc_Q) (sz : Nat), (vs.map tc_cat).sum ≤ nL → Rm vs S q →
    Met l y (c :: tc_tb) rm (va_Pc (vs.map (tc_v ad)) (tc_Pre D ad cA S sz)) (tc_Po rk D ad cA q (va_A (tc_W ad cA S) sz)) 0 0 (va_A (tc_W ad cA S) sz)
theorem tc_met {y : MethodName} {cc : ByteArray} {nL rk : Nat} {rm : Room} {Rm : List tc_V → tc_S → tc_Q → Prop} (hy : plainName y.cls = true) (hrm : rm.cells = 0 ∧ rm.slots = 0) (body : ∀ (Z : tc_Z) (q : tc_Q), tc_Cx rm cc nL y.cls Z → tc_Rt rk cc nL Z q → ∀ (vs : List tc_V) (S : tc_S), Rm vs S q → tc_At nL Z 0 (tc_num 0 vs) [] S) : tc_Met y (Cond.code y cc nL (tc_ret rk)) rm rk nL Rm := by
  intro l D ad cA vs S q sz hvs hR
  refine Met.ofW (cc := cc) (maxL := nL) (ret := tc_ret rk) hy rfl ?_
  intro p e s m args below meth c s₁ B hml hv
  obtain ⟨rfl, hsz, hP, hK, hD0, hSt⟩ := hv
  subst hsz
  have hx := B.exec
  have hb := B.bytes
  have hr := B.returns
  have hts := atoms_spec (ws := Cond.code y cc nL (tc_ret rk) :: tc_tb) B.pre
  have hown : s.vm.findClass y.cls = some m.cls := findClass_of_methodNamed B.named
  have hlocks := B.notSynchronized
  have hD := hD0.self (sz := s.heap.size)
  have hA : ∀ q : Nat, s.heap.size ≤ q → va_A (tc_W ad cA S) s.heap.size q := fun q h => Or.inr h
  have hS : va_S (va_A (tc_W ad cA S) s.heap.size) s.heap s.heap [] := va_S.rf
  have hl := lv_entry (vs.map (tc_v ad)) (n := nL) (by rw [tc_sl_len]; exact hvs)
  rw [lg_entry_eq]
  rw [tc_num_c] at hl
  have X : tc_Cx rm cc nL y.cls (p, l, e, rm, s, m, (vs.map (tc_v ad)).toArray, below, meth, c, (0, 0), MQ below (tc_Po rk D ad cA q (va_A (tc_W ad cA S) s.heap.size)) (vs.map (tc_v ad)).toArray s 0 0 (va_A (tc_W ad cA S) s.heap.size), Cond.code y cc nL (tc_ret rk) :: tc_tb, D, ad, cA, va_A (tc_W ad cA S) s.heap.size) := ⟨rfl, ⟨hx, hb, hml, hown, hts⟩, hK, hA, hSt, fun w hw => List.mem_cons_of_mem _ hw, Nat.zero_le _, Nat.zero_le _⟩
  refine body _ q X ?_ vs S hR s.heap [] _ hP hD hS hl
  match rk, hr with
  | 0, hr =>
    intro pc L x S' hq hd H locs ls hP hD hS hl
    exact W.iret (v := x) hx hb hr (fun t ht hW => ⟨⟨x, S', rfl, hq, by rw [ht]; exact hP, va_K.moved hW.alike hK, hD⟩, hS.F ht⟩) hS.2.2 hd
  | 1, hr =>
    intro pc L x S' hq hz hd H locs ls hP hD hS hl
    exact W.zret (v := x) (ty := .boolean) hx hb hr hz (fun t ht hW => ⟨⟨x, S', rfl, hq, by rw [ht]; exact hP, va_K.moved hW.alike hK, hD⟩, hS.F ht⟩) hS.2.2 hd
  | 2, hr =>
    intro pc L x S' hq hd H locs ls hP hD hS hl
    exact W.lret (v := x) hx hb hr (fun t ht hW => ⟨⟨x, S', rfl, hq, by rw [ht]; exact hP, va_K.moved hW.alike hK, hD⟩, hS.F ht⟩) hS.2.2 hd
  | n + 3, hr =>
    intro pc L S' hq hd H locs ls hP hD hS hl
    exact W.vret hx hb hr (fun t ht hW => ⟨⟨S', rfl, hq, by rw [ht]; exact hP, va_K.moved hW.alike hK, hD⟩, hS.F ht⟩) hS.2.2 hd
/-! calls -/
section TCCALL
variable {R : Room} {cc : ByteArray} {nL : Nat} {own : String} {Z : tc_Z} {pc : Nat} {k : tc_B}
/-- n arguments above the receiver, an object of class ci; the callee has room for them; not too much below them -/
def tc_ckV (n nL' ci : Nat) (K : List tc_V) : Bool := match K[n]? with
  | some (.inr (.inr (0, i))) => (match tc_lay[i]? with
    | some (.inl o) => Nat.beq o.1 ci && Nat.ble ((K.take (n + 1)).reverse.map tc_cat).sum nL' && Nat.ble ((K.drop (n + 1)).map tc_cat).sum 8
    | _ => false)
  | _ => false
def tb_callV (n nL' ci : Nat) (Rm : List tc_V → tc_S → tc_Q → Prop) (k : tc_B) : tc_B := fun L K S => match tc_ckV n nL' ci K with
  | true => Rm (K.take (n + 1)).reverse S (fun r S' => k L (r.toList ++ K.drop (n + 1)) S')
  | false => False
/-- a receiver that is a constant of kind kd -/
def tc_ckE (n nL' kd : Nat) (K : List tc_V) : Option Nat := match K[n]? with
  | some (.inr (.inr q)) => (match Nat.beq q.1 kd && Nat.ble ((K.take (n + 1)).reverse.map tc_cat).sum nL' && Nat.ble ((K.drop (n + 1)).map tc_cat).sum 8 with
    | true => some q.2
    | false => none)
  | _ => none
def tb_callE (n nL' kd N : Nat) (Rm : List tc_V → tc_S → tc_Q → Prop) (k : tc_B) : tc_B := fun L K S => match tc_ckE n nL' kd K with
  | some i => i < N ∧ Rm (K.take (n + 1)).reverse S (fun r S' => k L (r.toList ++ K.drop (n + 1)) S')
  | none => False
def tc_ckS (n nL' : Nat) (K : List tc_V) : Bool := Nat.ble n K.length && Nat.ble ((K.take n).reverse.map tc_cat).sum nL' && Nat.ble ((K.drop n).map tc_cat).sum 8
def tb_callS (n nL' : Nat) (Rm : List tc_V → tc_S → tc_Q → Prop) (k : tc_B) : tc_B := fun L K S => match tc_ckS n nL' K with
  | true => Rm (K.take n).reverse S (fun r S' => k L (r.toList ++ K.drop n) S')
  | false => False
theorem tc_blind {l : Launch} {av : List Value} {D : va_G} {ad : Nat → Nat → Nat} {cA : Nat → ClassId} {S : tc_S} {sz : Nat} : FrameBlind (va_Pc av (tc_Pre D ad cA S sz)) := by
  intro a U g mk q
  obtain ⟨q0, q1, qP, qK, qD, qS⟩ := q
  exact ⟨q0, q1, qP, va_K.moved (u := U) (U := U.calling g mk a) (Vm.Alike.refl U.vm) qK, qD, tc_St.moved (u := U) (U := U.calling g mk a) (Vm.Alike.refl U.vm) qS⟩
/-- behind the call -/
theorem tc_back {p : Program} {l : Launch} {e : Env} {s : State} {m : MethodId} {args : Array Value} {below : List Frame} {meth : Method} {c : Code} {n : Nat × Nat} {Q : State → Prop} {Ts : List Cond} {D : va_G} {ad : Nat → Nat → Nat} {cA : Nat → ClassId} {A : Nat → Prop} {rk : Nat} {L : tc_L} {rest : List tc_V} {S : tc_S} {H : Heap} {locs : List Loc} {ls : Array Slot} {st0 : List Value} {a : Array Value}
    (hA : ∀ q, s.heap.size ≤ q → A q) (h : tc_Ok nL (p, l, e, R, s, m, args, below, meth, c, n, Q, Ts, D, ad, cA, A) (pc + 3) k) (hP : va_P D tc_cl (tc_W ad cA S) H) (hD : va_D A (tc_W ad cA S)) (hS : va_S A s.heap H locs) (hl : lv_has ls nL (tc_cL ad L))
    (hrun : va_Run p l e R s m args below meth c H locs n.1 n.2 0 0 (F0 m pc ls st0) (rest.map (tc_v ad)) (tc_Po rk D ad cA (fun r S' => k L (r.toList ++ rest) S') (va_A (tc_W ad cA S) H.size) a) (va_A (tc_W ad cA S) H.size)) :
    W p l e R s m args below meth c H locs n.1 n.2 Q (F0 m pc ls st0) := by
  have hF : ∀ q, va_A (tc_W ad cA S) H.size q → A q := by
    intro q hq
    rcases hq with ⟨i, e9, hi⟩ | hq
    · exact hD.2 i (q, e9) hi
    · exact hA q (Nat.le_trans hS.1 hq)
  match rk, hrun with
  | 0, hrun =>
    refine va_calli (a := a) hrun hS (fun q _ h9 => hF q h9) hF (fun r u t H1 locs1 ht hvm hw hB hz1 hk1 hS1 => ?_)
    obtain ⟨b1, b2, b3⟩ := hB
    rw [ht] at b1
    exact h _ _ _ hw H1 locs1 ls b1 (b3.weaken (fun _ _ _ h9 => hF _ h9)) hS1 hl
  | 1, hrun =>
    refine va_calli (a := a) hrun hS (fun q _ h9 => hF q h9) hF (fun r u t H1 locs1 ht hvm hw hB hz1 hk1 hS1 => ?_)
    obtain ⟨b1, b2, b3⟩ := hB
    rw [ht] at b1
    exact h _ _ _ hw H1 locs1 ls b1 (b3.weaken (fun _ _ _ h9 => hF _ h9)) hS1 hl
  | 2, hrun =>
    refine va_calll (a := a) hrun hS (fun q _ h9 => hF q h9) hF (fun r u t H1 locs1 ht hvm hw hB hz1 hk1 hS1 => ?_)
    obtain ⟨b1, b2, b3⟩ := hB
    rw [ht] at b1
    exact h _ _ _ hw H1 locs1 ls b1 (b3.weaken (fun _ _ _ h9 => hF _ h9)) hS1 hl
  | n9 + 3, hrun =>
    refine va_callv (a := a) hrun hS (fun q _ h9 => hF q h9) hF (fun u t H1 locs1 ht hvm hw hB hz1 hk1 hS1 => ?_)
    obtain ⟨b1, b2, b3⟩ := hB
    rw [ht] at b1
    exact h _ _ _ hw H1 locs1 ls b1 (b3.weaken (fun _ _ _ h9 => hF _ h9)) hS1 hl
theorem tc_pre {s U : State} {args : Array Value} {D : va_G} {ad : Nat → Nat → Nat} {cA : Nat → ClassId} {A : Nat → Prop} {S : tc_S} {H : Heap} {locs : List Loc} (hK : va_K D tc_cl (tc_ty cA) s) (hA : ∀ q, s.heap.size ≤ q → A q) (hSt : tc_St ad A s s.heap) (hP : va_P D tc_cl (tc_W ad cA S) H) (hD : va_D A (tc_W ad cA S)) (hS : va_S A s.heap H locs) (hU : U.heap = H) (hW : s.WarmedH U.vm) : tc_Pre D ad cA S H.size U := by
  have hF : ∀ q, va_A (tc_W ad cA S) H.size q → A q := by
    intro q hq
    rcases hq with ⟨i, e9, hi⟩ | hq
    · exact hD.2 i (q, e9) hi
    · exact hA q (Nat.le_trans hS.1 hq)
  refine ⟨by rw [hU], by rw [hU]; exact hP, va_K.moved hW.alike hK, hD.weaken (fun _ _ _ _ => trivial), ?_⟩
  rw [hU]
  exact ((hSt.kept hS.2.1).narrow hF).moved hW.alike
theorem tc_revc {n : Nat} {K : List tc_V} {v : tc_V} {ad : Nat → Nat → Nat} (h : K[n]? = some v) : (K.take (n + 1)).reverse = v :: (K.take n).reverse ∧ K.map (tc_v ad) = ((K.take n).reverse.map (tc_v ad)).reverse ++ tc_v ad v :: (K.drop (n + 1)).map (tc_v ad) := by
  have hn := (List.getElem?_eq_some_iff.mp h).1
  have hv := (List.getElem?_eq_some_iff.mp h).2
  have e1 : K.take (n + 1) = K.take n ++ [v] := by rw [List.take_succ_eq_append_getElem hn, hv]
  have e2 : K = K.take n ++ v :: K.drop (n + 1) := by
    rw [← hv]
    rw [List.getElem_cons_drop, List.take_append_drop]
  refine ⟨by rw [e1, List.reverse_append]; rfl, ?_⟩
  conv => lhs; rw [e2]
  rw [List.map_append, List.map_cons, ← List.map_reverse, List.reverse_reverse]
theorem tc_ckV_spec {n nL' ci : Nat} {K : List tc_V} (h : tc_ckV n nL' ci K = true) : ∃ (i : Nat) (fs : List (Nat × Nat)), K[n]? = some (.inr (.inr (0, i))) ∧ tc_lay[i]? = some (.inl (ci, fs)) ∧ ((K.take (n + 1)).reverse.map tc_cat).sum ≤ nL' ∧ ((K.drop (n + 1)).map tc_cat).sum ≤ 8 := by
  unfold tc_ckV at h
  cases hv : K[n]? with
  | none => rw [hv] at h; cases h
  | some v =>
    rw [hv] at h
    rcases v with x | x | ⟨k, i⟩
    · cases h
    · cases h
    · match k, h with
      | 0, h =>
        cases ho : tc_lay[i]? with
        | none => simp only [ho] at h; cases h
        | some o =>
          simp only [ho] at h
          rcases o with o | o
          · obtain ⟨o1, fs⟩ := o
            simp only [Bool.and_eq_true] at h
            have e := Nat.eq_of_beq_eq_true h.1.1
            subst e
            exact ⟨i, fs, rfl, ho, Nat.le_of_ble_eq_true h.1.2, Nat.le_of_ble_eq_true h.2⟩
          · cases h
theorem tc_ckE_spec {n nL' kd i : Nat} {K : List tc_V} (h : tc_ckE n nL' kd K = some i) : K[n]? = some (.inr (.inr (kd, i))) ∧ ((K.take (n + 1)).reverse.map tc_cat).sum ≤ nL' ∧ ((K.drop (n + 1)).map tc_cat).sum ≤ 8 := by
  unfold tc_ckE at h
  cases hv : K[n]? with
  | none => rw [hv] at h; cases h
  | some v =>
    rw [hv] at h
    rcases v with x | x | ⟨k, j⟩
    · cases h
    · cases h
    · simp only at h
      split at h
      · rename_i hb
        simp only [Bool.and_eq_true] at hb
        have e := Nat.eq_of_beq_eq_true hb.1.1
        cases h
        exact ⟨by rw [e], Nat.le_of_ble_eq_true hb.1.2, Nat.le_of_ble_eq_true hb.2⟩
      · cases h
theorem tc_len_take {n : Nat} {K : List tc_V} {v : tc_V} {f : tc_V → Value} (h : K[n]? = some v) : ((K.take n).reverse.map f).length = n := by
  rw [List.length_map, List.length_reverse, List.length_take]
  exact Nat.min_eq_left (Nat.le_of_lt (List.getElem?_eq_some_iff.mp h).1)
theorem goodIn_app9 {big a b : List Cond} (ha : GoodIn big a) (hb : GoodIn big b) : GoodIn big (a ++ b) := fun w h => (List.mem_append.mp h).elim (ha w) (hb w)
theorem goodIn_sub9 {big ws : List Cond} (h : ∀ w ∈ ws, w ∈ big ∧ ((w.onTables && w.keeps) = true ∨ ∃ ty, w = .arrayClass ty)) : GoodIn big ws := h
theorem to_callV {ci n ix nL' rk : Nat} {C : vw_C} {y : MethodName} {cc' : ByteArray} {rm : Room} {ret : Option FieldType} {Rm : List tc_V → tc_S → tc_Q → Prop} (X : tc_Cx R cc nL own Z) (hM : tc_Met y (Cond.code y cc' nL' ret) rm rk nL' Rm) (hc : tc_cl[ci]? = some C) (hrm : rm.cells = 0 ∧ rm.slots = 0) (hR : rm.frames + 1 ≤ R.frames ∧ 8 + (nL' + 11) + rm.locals ≤ R.locals)
    (h1 : Cond.methodLink own ix y ∈ tc_tb) (h2 : Cond.instanceMethod y ∈ tc_tb) (h3 : Cond.selects C.1 y y ∈ tc_tb) (h4 : Cond.initialized C.1 ∈ tc_tb) (h5 : Cond.code y cc' nL' ret ∈ tc_tb)
    (hy : y.cls = C.1 ∧ y.cls ≠ "java/lang/invoke/MethodHandle" ∧ y.cls ≠ "java/lang/invoke/VarHandle" ∧ (parseMethodDescriptor y.desc).map (fun d => d.parameters.length) = some n) (hd : decode cc pc = .ok (.invokevirtual ix, 3)) (h : tc_Ok nL Z (pc + 3) k) : tc_Ok nL Z pc (tb_callV n nL' ci Rm k) := by
  obtain ⟨p, l, e, R', s, m, args, below, meth, c, nn, Q, Ts, D, ad, cA, A⟩ := Z
  obtain ⟨rfl, ⟨hx, hb, hml, hown, hts⟩, hK, hA, hSt, hTs, hn⟩ := X
  intro L K S hb9 H locs ls hP hD hS hl
  simp only [tb_callV] at hb9
  split at hb9
  · rename_i hck
    obtain ⟨i, fs, hv, ho, g1, g2⟩ := tc_ckV_spec hck
    obtain ⟨e1, e2⟩ := tc_revc (ad := ad) hv
    rw [e1] at hb9 g1
    have hMM := hM l D ad cA _ S _ H.size g1 hb9
    have hG : GoodIn Ts (wsV own ix C.1 y (Cond.code y cc' nL' ret :: tc_tb)) := goodIn_app9 (goodIn_sub9 (by
      intro w hw
      simp only [List.mem_cons, List.not_mem_nil, or_false] at hw
      rcases hw with rfl | rfl | rfl | rfl
      · exact ⟨hTs _ h1, tc_tb_good h1⟩
      · exact ⟨hTs _ h2, tc_tb_good h2⟩
      · exact ⟨hTs _ h3, tc_tb_good h3⟩
      · exact ⟨hTs _ h4, tc_tb_good h4⟩)) (tc_goodIn hTs h5)
    refine tc_back (rest := K.drop (n + 1)) hA h hP hD hS hl (va_runV (As := (K.take n).reverse.map (tc_v ad)) (rest := (K.drop (n + 1)).map (tc_v ad)) ⟨hx, hb, hml, hown, hts⟩ hMM (cwV n hts hG rfl hrm.1 hrm.2 hy hR) ⟨tc_blind (l := l), va_recv hK hP hc (tc_W_at ho), fun U hU hW => ⟨rfl, tc_pre (args := args) hK hA hSt hP hD hS hU hW⟩⟩ rfl (tc_len_take hv) hl.1 e2 (by rw [tc_sumc]; simpa [JFrame.monitorRoom] using g2) hd ⟨hn.1, hn.2⟩)
  · exact hb9.elim
theorem to_callE {kd N n ix nL' rk : Nat} {C : String} {y : MethodName} {cc' : ByteArray} {rm : Room} {ret : Option FieldType} {Rm : List tc_V → tc_S → tc_Q → Prop} (X : tc_Cx R cc nL own Z) (hM : tc_Met y (Cond.code y cc' nL' ret) rm rk nL' Rm) (hkd : (kd = 1 ∧ N = 4 ∧ C = "ToldChances$Rule") ∨ (kd = 2 ∧ N = 6 ∧ C = "ToldChances$Command") ∨ (kd = 3 ∧ N = 10 ∧ C = "java/lang/String")) (hrm : rm.cells = 0 ∧ rm.slots = 0) (hR : rm.frames + 1 ≤ R.frames ∧ 8 + (nL' + 11) + rm.locals ≤ R.locals)
    (h1 : Cond.methodLink own ix y ∈ tc_tb) (h2 : Cond.instanceMethod y ∈ tc_tb) (h3 : Cond.selects C y y ∈ tc_tb) (h4 : Cond.initialized C ∈ tc_tb) (h5 : Cond.code y cc' nL' ret ∈ tc_tb)
    (hy : y.cls = C ∧ y.cls ≠ "java/lang/invoke/MethodHandle" ∧ y.cls ≠ "java/lang/invoke/VarHandle" ∧ (parseMethodDescriptor y.desc).map (fun d => d.parameters.length) = some n) (hd : decode cc pc = .ok (.invokevirtual ix, 3)) (h : tc_Ok nL Z (pc + 3) k) : tc_Ok nL Z pc (tb_callE n nL' kd N Rm k) := by
  obtain ⟨p, l, e, R', s, m, args, below, meth, c, nn, Q, Ts, D, ad, cA, A⟩ := Z
  obtain ⟨rfl, ⟨hx, hb, hml, hown, hts⟩, hK, hA, hSt, hTs, hn⟩ := X
  intro L K S hb9 H locs ls hP hD hS hl
  simp only [tb_callE] at hb9
  split at hb9
  · rename_i o i hck
    obtain ⟨hv, g1, g2⟩ := tc_ckE_spec hck
    obtain ⟨e1, e2⟩ := tc_revc (ad := ad) hv
    obtain ⟨hiN, hb9⟩ := hb9
    rw [e1] at hb9 g1
    have hMM := hM l D ad cA _ S _ H.size g1 hb9
    have hrec : ∃ cell : Cell, H[ad kd i]? = some cell ∧ cell.vm.isStatics = false ∧ s.vm.findClass C = some cell.cls := by
      rcases hkd with ⟨rfl, rfl, rfl⟩ | ⟨rfl, rfl, rfl⟩ | ⟨rfl, rfl, rfl⟩
      · obtain ⟨cell, w1, w2, w3, -⟩ := (hSt.kept hS.2.1).2.1 i hiN
        exact ⟨cell, w1, w2, w3⟩
      · obtain ⟨cell, w1, w2, w3, -⟩ := (hSt.kept hS.2.1).2.2.1 i hiN
        exact ⟨cell, w1, w2, w3⟩
      · obtain ⟨cell, w1, w2, w3, -⟩ := ((hSt.kept hS.2.1).2.2.2.1.1 i hiN).1
        exact ⟨cell, w1, w2, w3⟩
    have hG : GoodIn Ts (wsV own ix C y (Cond.code y cc' nL' ret :: tc_tb)) := goodIn_app9 (goodIn_sub9 (by
      intro w hw
      simp only [List.mem_cons, List.not_mem_nil, or_false] at hw
      rcases hw with rfl | rfl | rfl | rfl
      · exact ⟨hTs _ h1, tc_tb_good h1⟩
      · exact ⟨hTs _ h2, tc_tb_good h2⟩
      · exact ⟨hTs _ h3, tc_tb_good h3⟩
      · exact ⟨hTs _ h4, tc_tb_good h4⟩)) (tc_goodIn hTs h5)
    refine tc_back (rest := K.drop (n + 1)) hA h hP hD hS hl (va_runV (As := (K.take n).reverse.map (tc_v ad)) (rest := (K.drop (n + 1)).map (tc_v ad)) ⟨hx, hb, hml, hown, hts⟩ hMM (cwV n hts hG rfl hrm.1 hrm.2 hy hR) ⟨tc_blind (l := l), hrec, fun U hU hW => ⟨rfl, tc_pre (args := args) hK hA hSt hP hD hS hU hW⟩⟩ rfl (tc_len_take hv) hl.1 e2 (by rw [tc_sumc]; simpa [JFrame.monitorRoom] using g2) hd ⟨hn.1, hn.2⟩)
  · exact hb9.elim
theorem to_callS {n ix nL' rk : Nat} {y : MethodName} {cc' : ByteArray} {rm : Room} {ret : Option FieldType} {Rm : List tc_V → tc_S → tc_Q → Prop} (X : tc_Cx R cc nL own Z) (hM : tc_Met y (Cond.code y cc' nL' ret) rm rk nL' Rm) (hrm : rm.cells = 0 ∧ rm.slots = 0) (hR : rm.frames + 1 ≤ R.frames ∧ 8 + (nL' + 11) + rm.locals ≤ R.locals)
    (h1 : Cond.methodLink own ix y ∈ tc_tb) (h2 : Cond.static y ∈ tc_tb) (h4 : Cond.initialized y.cls ∈ tc_tb) (h5 : Cond.code y cc' nL' ret ∈ tc_tb)
    (hy : y.cls ≠ "java/lang/invoke/MethodHandle" ∧ y.cls ≠ "java/lang/invoke/VarHandle" ∧ (parseMethodDescriptor y.desc).map (fun d => d.parameters.length) = some n) (hd : decode cc pc = .ok (.invokestatic ix, 3)) (h : tc_Ok nL Z (pc + 3) k) : tc_Ok nL Z pc (tb_callS n nL' Rm k) := by
  obtain ⟨p, l, e, R', s, m, args, below, meth, c, nn, Q, Ts, D, ad, cA, A⟩ := Z
  obtain ⟨rfl, ⟨hx, hb, hml, hown, hts⟩, hK, hA, hSt, hTs, hn⟩ := X
  intro L K S hb9 H locs ls hP hD hS hl
  simp only [tb_callS] at hb9
  split at hb9
  · rename_i hck
    simp only [tc_ckS, Bool.and_eq_true] at hck
    have g0 := Nat.le_of_ble_eq_true hck.1.1
    have g1 := Nat.le_of_ble_eq_true hck.1.2
    have g2 := Nat.le_of_ble_eq_true hck.2
    have e2 : K.map (tc_v ad) = ((K.take n).reverse.map (tc_v ad)).reverse ++ (K.drop n).map (tc_v ad) := by
      rw [← List.map_reverse, List.reverse_reverse, ← List.map_append, List.take_append_drop]
    have hlen : ((K.take n).reverse.map (tc_v ad)).length = n := by
      rw [List.length_map, List.length_reverse, List.length_take]
      exact Nat.min_eq_left g0
    have hMM := hM l D ad cA _ S _ H.size g1 hb9
    refine tc_back (rest := K.drop n) hA h hP hD hS hl (va_runS (As := (K.take n).reverse.map (tc_v ad)) (rest := (K.drop n).map (tc_v ad)) ⟨hx, hb, hml, hown, hts⟩ hMM ⟨callB_of n hts (tc_goodIn hTs h5) rfl hrm.1 hrm.2 (hts _ (hTs _ h4)) (hts _ (hTs _ h1)) hy hR, hts _ (hTs _ h2)⟩ ⟨tc_blind (l := l), fun U hU hW => ⟨rfl, tc_pre (args := args) hK hA hSt hP hD hS hU hW⟩⟩ rfl hlen hl.1 e2 (by rw [tc_sumc]; simpa [JFrame.monitorRoom] using g2) hd ⟨hn.1, hn.2⟩)
  · exact hb9.elim
end TCCALL
end
section
theorem inX0 : ∀ w ∈ u_ws RX0 TX0 7, w ∈ tc_tb := by decide +kernel
theorem inX1 : ∀ w ∈ u_ws RX1 TX1 3, w ∈ tc_tb := by decide +kernel
theorem inX2 : ∀ w ∈ u_ws RX2 TX2 4, w ∈ tc_tb := by decide +kernel
theorem inX4 : ∀ w ∈ u_ws RX4 TX4 2, w ∈ tc_tb := by decide +kernel
theorem inX5 : ∀ w ∈ u_ws RX5 TX5 3, w ∈ tc_tb := by decide +kernel
theorem inX6 : ∀ w ∈ u_ws RX6 TX6 2, w ∈ tc_tb := by decide +kernel
theorem inX7 : ∀ w ∈ u_ws RX7 TX7 7, w ∈ tc_tb := by decide +kernel
theorem inX9 : ∀ w ∈ u_ws RX9 TX9 2, w ∈ tc_tb := by decide +kernel
theorem inX10 : ∀ w ∈ u_ws RX10 TX10 14, w ∈ tc_tb := by decide +kernel
theorem inX11 : ∀ w ∈ u_ws RX11 TX11 30, w ∈ tc_tb := by decide +kernel
theorem gfX0_0 {R : Room} {cc : ByteArray} {nL pc ix : Nat} {own : String} {Z : tc_Z} {k : tc_B} (X : tc_Cx R cc nL own Z) (hw : Cond.fieldLink own ix "ToldChances$Bins" "cuts" "[I" ∈ tc_tb) (hd : decode cc pc = .ok (.getfield ix, 3)) (h : tc_Ok nL Z (pc + 3) k) : tc_Ok nL Z pc (tb_getf 0 0 k) := to_getf X rfl (by decide) inX0 hw hd h
theorem gfX0_1 {R : Room} {cc : ByteArray} {nL pc ix : Nat} {own : String} {Z : tc_Z} {k : tc_B} (X : tc_Cx R cc nL own Z) (hw : Cond.fieldLink own ix "ToldChances$Bins" "cutCount" "I" ∈ tc_tb) (hd : decode cc pc = .ok (.getfield ix, 3)) (h : tc_Ok nL Z (pc + 3) k) : tc_Ok nL Z pc (tb_getf 0 1 k) := to_getf X rfl (by decide) inX0 hw hd h
theorem pfX0_1 {R : Room} {cc : ByteArray} {nL pc ix : Nat} {own : String} {Z : tc_Z} {k : tc_B} (X : tc_Cx R cc nL own Z) (hw : Cond.fieldLink own ix "ToldChances$Bins" "cutCount" "I" ∈ tc_tb) (hd : decode cc pc = .ok (.putfield ix, 3)) (h : tc_Ok nL Z (pc + 3) k) : tc_Ok nL Z pc (tb_putI 0 1 k) := to_putI X rfl (by decide) inX0 tyX0_ok nmX0 rfl rfl hw hd h
theorem gfX0_2 {R : Room} {cc : ByteArray} {nL pc ix : Nat} {own : String} {Z : tc_Z} {k : tc_B} (X : tc_Cx R cc nL own Z) (hw : Cond.fieldLink own ix "ToldChances$Bins" "counts" "[I" ∈ tc_tb) (hd : decode cc pc = .ok (.getfield ix, 3)) (h : tc_Ok nL Z (pc + 3) k) : tc_Ok nL Z pc (tb_getf 0 2 k) := to_getf X rfl (by decide) inX0 hw hd h
theorem gfX0_3 {R : Room} {cc : ByteArray} {nL pc ix : Nat} {own : String} {Z : tc_Z} {k : tc_B} (X : tc_Cx R cc nL own Z) (hw : Cond.fieldLink own ix "ToldChances$Bins" "yeses" "[I" ∈ tc_tb) (hd : decode cc pc = .ok (.getfield ix, 3)) (h : tc_Ok nL Z (pc + 3) k) : tc_Ok nL Z pc (tb_getf 0 3 k) := to_getf X rfl (by decide) inX0 hw hd h
theorem gfX0_4 {R : Room} {cc : ByteArray} {nL pc ix : Nat} {own : String} {Z : tc_Z} {k : tc_B} (X : tc_Cx R cc nL own Z) (hw : Cond.fieldLink own ix "ToldChances$Bins" "sums" "[I" ∈ tc_tb) (hd : decode cc pc = .ok (.getfield ix, 3)) (h : tc_Ok nL Z (pc + 3) k) : tc_Ok nL Z pc (tb_getf 0 4 k) := to_getf X rfl (by decide) inX0 hw hd h
theorem gfX0_5 {R : Room} {cc : ByteArray} {nL pc ix : Nat} {own : String} {Z : tc_Z} {k : tc_B} (X : tc_Cx R cc nL own Z) (hw : Cond.fieldLink own ix "ToldChances$Bins" "squareSums" "[I" ∈ tc_tb) (hd : decode cc pc = .ok (.getfield ix, 3)) (h : tc_Ok nL Z (pc + 3) k) : tc_Ok nL Z pc (tb_getf 0 5 k) := to_getf X rfl (by decide) inX0 hw hd h
theorem gfX0_6 {R : Room} {cc : ByteArray} {nL pc ix : Nat} {own : String} {Z : tc_Z} {k : tc_B} (X : tc_Cx R cc nL own Z) (hw : Cond.fieldLink own ix "ToldChances$Bins" "yesSums" "[I" ∈ tc_tb) (hd : decode cc pc = .ok (.getfield ix, 3)) (h : tc_Ok nL Z (pc + 3) k) : tc_Ok nL Z pc (tb_getf 0 6 k) := to_getf X rfl (by decide) inX0 hw hd h
theorem gfX1_0 {R : Room} {cc : ByteArray} {nL pc ix : Nat} {own : String} {Z : tc_Z} {k : tc_B} (X : tc_Cx R cc nL own Z) (hw : Cond.fieldLink own ix "ToldChances$Book" "chances" "[I" ∈ tc_tb) (hd : decode cc pc = .ok (.getfield ix, 3)) (h : tc_Ok nL Z (pc + 3) k) : tc_Ok nL Z pc (tb_getf 1 0 k) := to_getf X rfl (by decide) inX1 hw hd h
theorem gfX1_1 {R : Room} {cc : ByteArray} {nL pc ix : Nat} {own : String} {Z : tc_Z} {k : tc_B} (X : tc_Cx R cc nL own Z) (hw : Cond.fieldLink own ix "ToldChances$Book" "weights" "[I" ∈ tc_tb) (hd : decode cc pc = .ok (.getfield ix, 3)) (h : tc_Ok nL Z (pc + 3) k) : tc_Ok nL Z pc (tb_getf 1 1 k) := to_getf X rfl (by decide) inX1 hw hd h
theorem gfX1_2 {R : Room} {cc : ByteArray} {nL pc ix : Nat} {own : String} {Z : tc_Z} {k : tc_B} (X : tc_Cx R cc nL own Z) (hw : Cond.fieldLink own ix "ToldChances$Book" "states" "[I" ∈ tc_tb) (hd : decode cc pc = .ok (.getfield ix, 3)) (h : tc_Ok nL Z (pc + 3) k) : tc_Ok nL Z pc (tb_getf 1 2 k) := to_getf X rfl (by decide) inX1 hw hd h
theorem gfX2_0 {R : Room} {cc : ByteArray} {nL pc ix : Nat} {own : String} {Z : tc_Z} {k : tc_B} (X : tc_Cx R cc nL own Z) (hw : Cond.fieldLink own ix "ToldChances$Cases" "chances" "[I" ∈ tc_tb) (hd : decode cc pc = .ok (.getfield ix, 3)) (h : tc_Ok nL Z (pc + 3) k) : tc_Ok nL Z pc (tb_getf 2 0 k) := to_getf X rfl (by decide) inX2 hw hd h
theorem gfX2_1 {R : Room} {cc : ByteArray} {nL pc ix : Nat} {own : String} {Z : tc_Z} {k : tc_B} (X : tc_Cx R cc nL own Z) (hw : Cond.fieldLink own ix "ToldChances$Cases" "isYes" "[Z" ∈ tc_tb) (hd : decode cc pc = .ok (.getfield ix, 3)) (h : tc_Ok nL Z (pc + 3) k) : tc_Ok nL Z pc (tb_getf 2 1 k) := to_getf X rfl (by decide) inX2 hw hd h
theorem gfX2_2 {R : Room} {cc : ByteArray} {nL pc ix : Nat} {own : String} {Z : tc_Z} {k : tc_B} (X : tc_Cx R cc nL own Z) (hw : Cond.fieldLink own ix "ToldChances$Cases" "count" "I" ∈ tc_tb) (hd : decode cc pc = .ok (.getfield ix, 3)) (h : tc_Ok nL Z (pc + 3) k) : tc_Ok nL Z pc (tb_getf 2 2 k) := to_getf X rfl (by decide) inX2 hw hd h
theorem pfX2_2 {R : Room} {cc : ByteArray} {nL pc ix : Nat} {own : String} {Z : tc_Z} {k : tc_B} (X : tc_Cx R cc nL own Z) (hw : Cond.fieldLink own ix "ToldChances$Cases" "count" "I" ∈ tc_tb) (hd : decode cc pc = .ok (.putfield ix, 3)) (h : tc_Ok nL Z (pc + 3) k) : tc_Ok nL Z pc (tb_putI 2 2 k) := to_putI X rfl (by decide) inX2 tyX2_ok nmX2 rfl rfl hw hd h
theorem gfX2_3 {R : Room} {cc : ByteArray} {nL pc ix : Nat} {own : String} {Z : tc_Z} {k : tc_B} (X : tc_Cx R cc nL own Z) (hw : Cond.fieldLink own ix "ToldChances$Cases" "yesCount" "I" ∈ tc_tb) (hd : decode cc pc = .ok (.getfield ix, 3)) (h : tc_Ok nL Z (pc + 3) k) : tc_Ok nL Z pc (tb_getf 2 3 k) := to_getf X rfl (by decide) inX2 hw hd h
theorem pfX2_3 {R : Room} {cc : ByteArray} {nL pc ix : Nat} {own : String} {Z : tc_Z} {k : tc_B} (X : tc_Cx R cc nL own Z) (hw : Cond.fieldLink own ix "ToldChances$Cases" "yesCount" "I" ∈ tc_tb) (hd : decode cc pc = .ok (.putfield ix, 3)) (h : tc_Ok nL Z (pc + 3) k) : tc_Ok nL Z pc (tb_putI 2 3 k) := to_putI X rfl (by decide) inX2 tyX2_ok nmX2 rfl rfl hw hd h
theorem gfX4_0 {R : Room} {cc : ByteArray} {nL pc ix : Nat} {own : String} {Z : tc_Z} {k : tc_B} (X : tc_Cx R cc nL own Z) (hw : Cond.fieldLink own ix "ToldChances$Fraction" "upper" "J" ∈ tc_tb) (hd : decode cc pc = .ok (.getfield ix, 3)) (h : tc_Ok nL Z (pc + 3) k) : tc_Ok nL Z pc (tb_getf 3 0 k) := to_getf X rfl (by decide) inX4 hw hd h
theorem pfX4_0 {R : Room} {cc : ByteArray} {nL pc ix : Nat} {own : String} {Z : tc_Z} {k : tc_B} (X : tc_Cx R cc nL own Z) (hw : Cond.fieldLink own ix "ToldChances$Fraction" "upper" "J" ∈ tc_tb) (hd : decode cc pc = .ok (.putfield ix, 3)) (h : tc_Ok nL Z (pc + 3) k) : tc_Ok nL Z pc (tb_putJ 3 0 k) := to_putJ X rfl (by decide) inX4 tyX4_ok nmX4 rfl rfl hw hd h
theorem gfX4_1 {R : Room} {cc : ByteArray} {nL pc ix : Nat} {own : String} {Z : tc_Z} {k : tc_B} (X : tc_Cx R cc nL own Z) (hw : Cond.fieldLink own ix "ToldChances$Fraction" "lower" "J" ∈ tc_tb) (hd : decode cc pc = .ok (.getfield ix, 3)) (h : tc_Ok nL Z (pc + 3) k) : tc_Ok nL Z pc (tb_getf 3 1 k) := to_getf X rfl (by decide) inX4 hw hd h
theorem pfX4_1 {R : Room} {cc : ByteArray} {nL pc ix : Nat} {own : String} {Z : tc_Z} {k : tc_B} (X : tc_Cx R cc nL own Z) (hw : Cond.fieldLink own ix "ToldChances$Fraction" "lower" "J" ∈ tc_tb) (hd : decode cc pc = .ok (.putfield ix, 3)) (h : tc_Ok nL Z (pc + 3) k) : tc_Ok nL Z pc (tb_putJ 3 1 k) := to_putJ X rfl (by decide) inX4 tyX4_ok nmX4 rfl rfl hw hd h
theorem gfX5_0 {R : Room} {cc : ByteArray} {nL pc ix : Nat} {own : String} {Z : tc_Z} {k : tc_B} (X : tc_Cx R cc nL own Z) (hw : Cond.fieldLink own ix "ToldChances$LineReader" "numbers" "[I" ∈ tc_tb) (hd : decode cc pc = .ok (.getfield ix, 3)) (h : tc_Ok nL Z (pc + 3) k) : tc_Ok nL Z pc (tb_getf 4 0 k) := to_getf X rfl (by decide) inX5 hw hd h
theorem gfX5_1 {R : Room} {cc : ByteArray} {nL pc ix : Nat} {own : String} {Z : tc_Z} {k : tc_B} (X : tc_Cx R cc nL own Z) (hw : Cond.fieldLink own ix "ToldChances$LineReader" "whole" "Z" ∈ tc_tb) (hd : decode cc pc = .ok (.getfield ix, 3)) (h : tc_Ok nL Z (pc + 3) k) : tc_Ok nL Z pc (tb_getf 4 1 k) := to_getf X rfl (by decide) inX5 hw hd h
theorem pfX5_1 {R : Room} {cc : ByteArray} {nL pc ix : Nat} {own : String} {Z : tc_Z} {k : tc_B} (X : tc_Cx R cc nL own Z) (hw : Cond.fieldLink own ix "ToldChances$LineReader" "whole" "Z" ∈ tc_tb) (hd : decode cc pc = .ok (.putfield ix, 3)) (h : tc_Ok nL Z (pc + 3) k) : tc_Ok nL Z pc (tb_putZ 4 1 k) := to_putZ X rfl (by decide) inX5 tyX5_ok nmX5 rfl rfl hw hd h
theorem gfX5_2 {R : Room} {cc : ByteArray} {nL pc ix : Nat} {own : String} {Z : tc_Z} {k : tc_B} (X : tc_Cx R cc nL own Z) (hw : Cond.fieldLink own ix "ToldChances$LineReader" "place" "I" ∈ tc_tb) (hd : decode cc pc = .ok (.getfield ix, 3)) (h : tc_Ok nL Z (pc + 3) k) : tc_Ok nL Z pc (tb_getf 4 2 k) := to_getf X rfl (by decide) inX5 hw hd h
theorem pfX5_2 {R : Room} {cc : ByteArray} {nL pc ix : Nat} {own : String} {Z : tc_Z} {k : tc_B} (X : tc_Cx R cc nL own Z) (hw : Cond.fieldLink own ix "ToldChances$LineReader" "place" "I" ∈ tc_tb) (hd : decode cc pc = .ok (.putfield ix, 3)) (h : tc_Ok nL Z (pc + 3) k) : tc_Ok nL Z pc (tb_putI 4 2 k) := to_putI X rfl (by decide) inX5 tyX5_ok nmX5 rfl rfl hw hd h
theorem gfX6_0 {R : Room} {cc : ByteArray} {nL pc ix : Nat} {own : String} {Z : tc_Z} {k : tc_B} (X : tc_Cx R cc nL own Z) (hw : Cond.fieldLink own ix "ToldChances$Paper" "signs" "[I" ∈ tc_tb) (hd : decode cc pc = .ok (.getfield ix, 3)) (h : tc_Ok nL Z (pc + 3) k) : tc_Ok nL Z pc (tb_getf 5 0 k) := to_getf X rfl (by decide) inX6 hw hd h
theorem gfX6_1 {R : Room} {cc : ByteArray} {nL pc ix : Nat} {own : String} {Z : tc_Z} {k : tc_B} (X : tc_Cx R cc nL own Z) (hw : Cond.fieldLink own ix "ToldChances$Paper" "length" "I" ∈ tc_tb) (hd : decode cc pc = .ok (.getfield ix, 3)) (h : tc_Ok nL Z (pc + 3) k) : tc_Ok nL Z pc (tb_getf 5 1 k) := to_getf X rfl (by decide) inX6 hw hd h
theorem pfX6_1 {R : Room} {cc : ByteArray} {nL pc ix : Nat} {own : String} {Z : tc_Z} {k : tc_B} (X : tc_Cx R cc nL own Z) (hw : Cond.fieldLink own ix "ToldChances$Paper" "length" "I" ∈ tc_tb) (hd : decode cc pc = .ok (.putfield ix, 3)) (h : tc_Ok nL Z (pc + 3) k) : tc_Ok nL Z pc (tb_putI 5 1 k) := to_putI X rfl (by decide) inX6 tyX6_ok nmX6 rfl rfl hw hd h
theorem gfX7_0 {R : Room} {cc : ByteArray} {nL pc ix : Nat} {own : String} {Z : tc_Z} {k : tc_B} (X : tc_Cx R cc nL own Z) (hw : Cond.fieldLink own ix "ToldChances$PoolRow" "countsByChance" "[I" ∈ tc_tb) (hd : decode cc pc = .ok (.getfield ix, 3)) (h : tc_Ok nL Z (pc + 3) k) : tc_Ok nL Z pc (tb_getf 6 0 k) := to_getf X rfl (by decide) inX7 hw hd h
theorem gfX7_1 {R : Room} {cc : ByteArray} {nL pc ix : Nat} {own : String} {Z : tc_Z} {k : tc_B} (X : tc_Cx R cc nL own Z) (hw : Cond.fieldLink own ix "ToldChances$PoolRow" "yesesByChance" "[I" ∈ tc_tb) (hd : decode cc pc = .ok (.getfield ix, 3)) (h : tc_Ok nL Z (pc + 3) k) : tc_Ok nL Z pc (tb_getf 6 1 k) := to_getf X rfl (by decide) inX7 hw hd h
theorem gfX7_2 {R : Room} {cc : ByteArray} {nL pc ix : Nat} {own : String} {Z : tc_Z} {k : tc_B} (X : tc_Cx R cc nL own Z) (hw : Cond.fieldLink own ix "ToldChances$PoolRow" "least" "[I" ∈ tc_tb) (hd : decode cc pc = .ok (.getfield ix, 3)) (h : tc_Ok nL Z (pc + 3) k) : tc_Ok nL Z pc (tb_getf 6 2 k) := to_getf X rfl (by decide) inX7 hw hd h
theorem gfX7_3 {R : Room} {cc : ByteArray} {nL pc ix : Nat} {own : String} {Z : tc_Z} {k : tc_B} (X : tc_Cx R cc nL own Z) (hw : Cond.fieldLink own ix "ToldChances$PoolRow" "greatest" "[I" ∈ tc_tb) (hd : decode cc pc = .ok (.getfield ix, 3)) (h : tc_Ok nL Z (pc + 3) k) : tc_Ok nL Z pc (tb_getf 6 3 k) := to_getf X rfl (by decide) inX7 hw hd h
theorem gfX7_4 {R : Room} {cc : ByteArray} {nL pc ix : Nat} {own : String} {Z : tc_Z} {k : tc_B} (X : tc_Cx R cc nL own Z) (hw : Cond.fieldLink own ix "ToldChances$PoolRow" "counts" "[I" ∈ tc_tb) (hd : decode cc pc = .ok (.getfield ix, 3)) (h : tc_Ok nL Z (pc + 3) k) : tc_Ok nL Z pc (tb_getf 6 4 k) := to_getf X rfl (by decide) inX7 hw hd h
theorem gfX7_5 {R : Room} {cc : ByteArray} {nL pc ix : Nat} {own : String} {Z : tc_Z} {k : tc_B} (X : tc_Cx R cc nL own Z) (hw : Cond.fieldLink own ix "ToldChances$PoolRow" "yeses" "[I" ∈ tc_tb) (hd : decode cc pc = .ok (.getfield ix, 3)) (h : tc_Ok nL Z (pc + 3) k) : tc_Ok nL Z pc (tb_getf 6 5 k) := to_getf X rfl (by decide) inX7 hw hd h
theorem gfX7_6 {R : Room} {cc : ByteArray} {nL pc ix : Nat} {own : String} {Z : tc_Z} {k : tc_B} (X : tc_Cx R cc nL own Z) (hw : Cond.fieldLink own ix "ToldChances$PoolRow" "count" "I" ∈ tc_tb) (hd : decode cc pc = .ok (.getfield ix, 3)) (h : tc_Ok nL Z (pc + 3) k) : tc_Ok nL Z pc (tb_getf 6 6 k) := to_getf X rfl (by decide) inX7 hw hd h
theorem pfX7_6 {R : Room} {cc : ByteArray} {nL pc ix : Nat} {own : String} {Z : tc_Z} {k : tc_B} (X : tc_Cx R cc nL own Z) (hw : Cond.fieldLink own ix "ToldChances$PoolRow" "count" "I" ∈ tc_tb) (hd : decode cc pc = .ok (.putfield ix, 3)) (h : tc_Ok nL Z (pc + 3) k) : tc_Ok nL Z pc (tb_putI 6 6 k) := to_putI X rfl (by decide) inX7 tyX7_ok nmX7 rfl rfl hw hd h
theorem gfX9_0 {R : Room} {cc : ByteArray} {nL pc ix : Nat} {own : String} {Z : tc_Z} {k : tc_B} (X : tc_Cx R cc nL own Z) (hw : Cond.fieldLink own ix "ToldChances$Tape" "codes" "[I" ∈ tc_tb) (hd : decode cc pc = .ok (.getfield ix, 3)) (h : tc_Ok nL Z (pc + 3) k) : tc_Ok nL Z pc (tb_getf 7 0 k) := to_getf X rfl (by decide) inX9 hw hd h
theorem gfX9_1 {R : Room} {cc : ByteArray} {nL pc ix : Nat} {own : String} {Z : tc_Z} {k : tc_B} (X : tc_Cx R cc nL own Z) (hw : Cond.fieldLink own ix "ToldChances$Tape" "length" "I" ∈ tc_tb) (hd : decode cc pc = .ok (.getfield ix, 3)) (h : tc_Ok nL Z (pc + 3) k) : tc_Ok nL Z pc (tb_getf 7 1 k) := to_getf X rfl (by decide) inX9 hw hd h
theorem pfX9_1 {R : Room} {cc : ByteArray} {nL pc ix : Nat} {own : String} {Z : tc_Z} {k : tc_B} (X : tc_Cx R cc nL own Z) (hw : Cond.fieldLink own ix "ToldChances$Tape" "length" "I" ∈ tc_tb) (hd : decode cc pc = .ok (.putfield ix, 3)) (h : tc_Ok nL Z (pc + 3) k) : tc_Ok nL Z pc (tb_putI 7 1 k) := to_putI X rfl (by decide) inX9 tyX9_ok nmX9 rfl rfl hw hd h
theorem gfX10_0 {R : Room} {cc : ByteArray} {nL pc ix : Nat} {own : String} {Z : tc_Z} {k : tc_B} (X : tc_Cx R cc nL own Z) (hw : Cond.fieldLink own ix "ToldChances" "book" "LToldChances$Book;" ∈ tc_tb) (hd : decode cc pc = .ok (.getfield ix, 3)) (h : tc_Ok nL Z (pc + 3) k) : tc_Ok nL Z pc (tb_getf 8 0 k) := to_getf X rfl (by decide) inX10 hw hd h
theorem gfX10_1 {R : Room} {cc : ByteArray} {nL pc ix : Nat} {own : String} {Z : tc_Z} {k : tc_B} (X : tc_Cx R cc nL own Z) (hw : Cond.fieldLink own ix "ToldChances" "tape" "LToldChances$Tape;" ∈ tc_tb) (hd : decode cc pc = .ok (.getfield ix, 3)) (h : tc_Ok nL Z (pc + 3) k) : tc_Ok nL Z pc (tb_getf 8 1 k) := to_getf X rfl (by decide) inX10 hw hd h
theorem gfX10_2 {R : Room} {cc : ByteArray} {nL pc ix : Nat} {own : String} {Z : tc_Z} {k : tc_B} (X : tc_Cx R cc nL own Z) (hw : Cond.fieldLink own ix "ToldChances" "reader" "LToldChances$LineReader;" ∈ tc_tb) (hd : decode cc pc = .ok (.getfield ix, 3)) (h : tc_Ok nL Z (pc + 3) k) : tc_Ok nL Z pc (tb_getf 8 2 k) := to_getf X rfl (by decide) inX10 hw hd h
theorem gfX10_3 {R : Room} {cc : ByteArray} {nL pc ix : Nat} {own : String} {Z : tc_Z} {k : tc_B} (X : tc_Cx R cc nL own Z) (hw : Cond.fieldLink own ix "ToldChances" "cases" "LToldChances$Cases;" ∈ tc_tb) (hd : decode cc pc = .ok (.getfield ix, 3)) (h : tc_Ok nL Z (pc + 3) k) : tc_Ok nL Z pc (tb_getf 8 3 k) := to_getf X rfl (by decide) inX10 hw hd h
theorem gfX10_4 {R : Room} {cc : ByteArray} {nL pc ix : Nat} {own : String} {Z : tc_Z} {k : tc_B} (X : tc_Cx R cc nL own Z) (hw : Cond.fieldLink own ix "ToldChances" "bins" "LToldChances$Bins;" ∈ tc_tb) (hd : decode cc pc = .ok (.getfield ix, 3)) (h : tc_Ok nL Z (pc + 3) k) : tc_Ok nL Z pc (tb_getf 8 4 k) := to_getf X rfl (by decide) inX10 hw hd h
theorem gfX10_5 {R : Room} {cc : ByteArray} {nL pc ix : Nat} {own : String} {Z : tc_Z} {k : tc_B} (X : tc_Cx R cc nL own Z) (hw : Cond.fieldLink own ix "ToldChances" "poolRow" "LToldChances$PoolRow;" ∈ tc_tb) (hd : decode cc pc = .ok (.getfield ix, 3)) (h : tc_Ok nL Z (pc + 3) k) : tc_Ok nL Z pc (tb_getf 8 5 k) := to_getf X rfl (by decide) inX10 hw hd h
theorem gfX10_6 {R : Room} {cc : ByteArray} {nL pc ix : Nat} {own : String} {Z : tc_Z} {k : tc_B} (X : tc_Cx R cc nL own Z) (hw : Cond.fieldLink own ix "ToldChances" "result" "LToldChances$Fraction;" ∈ tc_tb) (hd : decode cc pc = .ok (.getfield ix, 3)) (h : tc_Ok nL Z (pc + 3) k) : tc_Ok nL Z pc (tb_getf 8 6 k) := to_getf X rfl (by decide) inX10 hw hd h
theorem gfX10_7 {R : Room} {cc : ByteArray} {nL pc ix : Nat} {own : String} {Z : tc_Z} {k : tc_B} (X : tc_Cx R cc nL own Z) (hw : Cond.fieldLink own ix "ToldChances" "addend" "LToldChances$Fraction;" ∈ tc_tb) (hd : decode cc pc = .ok (.getfield ix, 3)) (h : tc_Ok nL Z (pc + 3) k) : tc_Ok nL Z pc (tb_getf 8 7 k) := to_getf X rfl (by decide) inX10 hw hd h
theorem gfX10_8 {R : Room} {cc : ByteArray} {nL pc ix : Nat} {own : String} {Z : tc_Z} {k : tc_B} (X : tc_Cx R cc nL own Z) (hw : Cond.fieldLink own ix "ToldChances" "paper" "LToldChances$Paper;" ∈ tc_tb) (hd : decode cc pc = .ok (.getfield ix, 3)) (h : tc_Ok nL Z (pc + 3) k) : tc_Ok nL Z pc (tb_getf 8 8 k) := to_getf X rfl (by decide) inX10 hw hd h
theorem gfX10_9 {R : Room} {cc : ByteArray} {nL pc ix : Nat} {own : String} {Z : tc_Z} {k : tc_B} (X : tc_Cx R cc nL own Z) (hw : Cond.fieldLink own ix "ToldChances" "missSums" "[J" ∈ tc_tb) (hd : decode cc pc = .ok (.getfield ix, 3)) (h : tc_Ok nL Z (pc + 3) k) : tc_Ok nL Z pc (tb_getf 8 9 k) := to_getf X rfl (by decide) inX10 hw hd h
theorem gfX10_10 {R : Room} {cc : ByteArray} {nL pc ix : Nat} {own : String} {Z : tc_Z} {k : tc_B} (X : tc_Cx R cc nL own Z) (hw : Cond.fieldLink own ix "ToldChances" "caseCounts" "[I" ∈ tc_tb) (hd : decode cc pc = .ok (.getfield ix, 3)) (h : tc_Ok nL Z (pc + 3) k) : tc_Ok nL Z pc (tb_getf 8 10 k) := to_getf X rfl (by decide) inX10 hw hd h
theorem gfX10_11 {R : Room} {cc : ByteArray} {nL pc ix : Nat} {own : String} {Z : tc_Z} {k : tc_B} (X : tc_Cx R cc nL own Z) (hw : Cond.fieldLink own ix "ToldChances" "winCounts" "[I" ∈ tc_tb) (hd : decode cc pc = .ok (.getfield ix, 3)) (h : tc_Ok nL Z (pc + 3) k) : tc_Ok nL Z pc (tb_getf 8 11 k) := to_getf X rfl (by decide) inX10 hw hd h
theorem gfX10_12 {R : Room} {cc : ByteArray} {nL pc ix : Nat} {own : String} {Z : tc_Z} {k : tc_B} (X : tc_Cx R cc nL own Z) (hw : Cond.fieldLink own ix "ToldChances" "honestCounts" "[I" ∈ tc_tb) (hd : decode cc pc = .ok (.getfield ix, 3)) (h : tc_Ok nL Z (pc + 3) k) : tc_Ok nL Z pc (tb_getf 8 12 k) := to_getf X rfl (by decide) inX10 hw hd h
theorem gfX10_13 {R : Room} {cc : ByteArray} {nL pc ix : Nat} {own : String} {Z : tc_Z} {k : tc_B} (X : tc_Cx R cc nL own Z) (hw : Cond.fieldLink own ix "ToldChances" "current" "LToldChances$Rule;" ∈ tc_tb) (hd : decode cc pc = .ok (.getfield ix, 3)) (h : tc_Ok nL Z (pc + 3) k) : tc_Ok nL Z pc (tb_getf 8 13 k) := to_getf X rfl (by decide) inX10 hw hd h
theorem gfX11_0 {R : Room} {cc : ByteArray} {nL pc ix : Nat} {own : String} {Z : tc_Z} {k : tc_B} (X : tc_Cx R cc nL own Z) (hw : Cond.fieldLink own ix "ToldChancesModel" "chance" "[I" ∈ tc_tb) (hd : decode cc pc = .ok (.getfield ix, 3)) (h : tc_Ok nL Z (pc + 3) k) : tc_Ok nL Z pc (tb_getf 9 0 k) := to_getf X rfl (by decide) inX11 hw hd h
theorem gfX11_1 {R : Room} {cc : ByteArray} {nL pc ix : Nat} {own : String} {Z : tc_Z} {k : tc_B} (X : tc_Cx R cc nL own Z) (hw : Cond.fieldLink own ix "ToldChancesModel" "state" "[I" ∈ tc_tb) (hd : decode cc pc = .ok (.getfield ix, 3)) (h : tc_Ok nL Z (pc + 3) k) : tc_Ok nL Z pc (tb_getf 9 1 k) := to_getf X rfl (by decide) inX11 hw hd h
theorem gfX11_2 {R : Room} {cc : ByteArray} {nL pc ix : Nat} {own : String} {Z : tc_Z} {k : tc_B} (X : tc_Cx R cc nL own Z) (hw : Cond.fieldLink own ix "ToldChancesModel" "weight" "[I" ∈ tc_tb) (hd : decode cc pc = .ok (.getfield ix, 3)) (h : tc_Ok nL Z (pc + 3) k) : tc_Ok nL Z pc (tb_getf 9 2 k) := to_getf X rfl (by decide) inX11 hw hd h
theorem gfX11_3 {R : Room} {cc : ByteArray} {nL pc ix : Nat} {own : String} {Z : tc_Z} {k : tc_B} (X : tc_Cx R cc nL own Z) (hw : Cond.fieldLink own ix "ToldChancesModel" "tape" "[I" ∈ tc_tb) (hd : decode cc pc = .ok (.getfield ix, 3)) (h : tc_Ok nL Z (pc + 3) k) : tc_Ok nL Z pc (tb_getf 9 3 k) := to_getf X rfl (by decide) inX11 hw hd h
theorem gfX11_4 {R : Room} {cc : ByteArray} {nL pc ix : Nat} {own : String} {Z : tc_Z} {k : tc_B} (X : tc_Cx R cc nL own Z) (hw : Cond.fieldLink own ix "ToldChancesModel" "taped" "I" ∈ tc_tb) (hd : decode cc pc = .ok (.getfield ix, 3)) (h : tc_Ok nL Z (pc + 3) k) : tc_Ok nL Z pc (tb_getf 9 4 k) := to_getf X rfl (by decide) inX11 hw hd h
theorem pfX11_4 {R : Room} {cc : ByteArray} {nL pc ix : Nat} {own : String} {Z : tc_Z} {k : tc_B} (X : tc_Cx R cc nL own Z) (hw : Cond.fieldLink own ix "ToldChancesModel" "taped" "I" ∈ tc_tb) (hd : decode cc pc = .ok (.putfield ix, 3)) (h : tc_Ok nL Z (pc + 3) k) : tc_Ok nL Z pc (tb_putI 9 4 k) := to_putI X rfl (by decide) inX11 tyX11_ok nmX11 rfl rfl hw hd h
theorem gfX11_5 {R : Room} {cc : ByteArray} {nL pc ix : Nat} {own : String} {Z : tc_Z} {k : tc_B} (X : tc_Cx R cc nL own Z) (hw : Cond.fieldLink own ix "ToldChancesModel" "signs" "[I" ∈ tc_tb) (hd : decode cc pc = .ok (.getfield ix, 3)) (h : tc_Ok nL Z (pc + 3) k) : tc_Ok nL Z pc (tb_getf 9 5 k) := to_getf X rfl (by decide) inX11 hw hd h
theorem gfX11_6 {R : Room} {cc : ByteArray} {nL pc ix : Nat} {own : String} {Z : tc_Z} {k : tc_B} (X : tc_Cx R cc nL own Z) (hw : Cond.fieldLink own ix "ToldChancesModel" "place" "I" ∈ tc_tb) (hd : decode cc pc = .ok (.getfield ix, 3)) (h : tc_Ok nL Z (pc + 3) k) : tc_Ok nL Z pc (tb_getf 9 6 k) := to_getf X rfl (by decide) inX11 hw hd h
theorem pfX11_6 {R : Room} {cc : ByteArray} {nL pc ix : Nat} {own : String} {Z : tc_Z} {k : tc_B} (X : tc_Cx R cc nL own Z) (hw : Cond.fieldLink own ix "ToldChancesModel" "place" "I" ∈ tc_tb) (hd : decode cc pc = .ok (.putfield ix, 3)) (h : tc_Ok nL Z (pc + 3) k) : tc_Ok nL Z pc (tb_putI 9 6 k) := to_putI X rfl (by decide) inX11 tyX11_ok nmX11 rfl rfl hw hd h
theorem gfX11_7 {R : Room} {cc : ByteArray} {nL pc ix : Nat} {own : String} {Z : tc_Z} {k : tc_B} (X : tc_Cx R cc nL own Z) (hw : Cond.fieldLink own ix "ToldChancesModel" "word" "I" ∈ tc_tb) (hd : decode cc pc = .ok (.getfield ix, 3)) (h : tc_Ok nL Z (pc + 3) k) : tc_Ok nL Z pc (tb_getf 9 7 k) := to_getf X rfl (by decide) inX11 hw hd h
theorem pfX11_7 {R : Room} {cc : ByteArray} {nL pc ix : Nat} {own : String} {Z : tc_Z} {k : tc_B} (X : tc_Cx R cc nL own Z) (hw : Cond.fieldLink own ix "ToldChancesModel" "word" "I" ∈ tc_tb) (hd : decode cc pc = .ok (.putfield ix, 3)) (h : tc_Ok nL Z (pc + 3) k) : tc_Ok nL Z pc (tb_putI 9 7 k) := to_putI X rfl (by decide) inX11 tyX11_ok nmX11 rfl rfl hw hd h
theorem gfX11_8 {R : Room} {cc : ByteArray} {nL pc ix : Nat} {own : String} {Z : tc_Z} {k : tc_B} (X : tc_Cx R cc nL own Z) (hw : Cond.fieldLink own ix "ToldChancesModel" "numbers" "[I" ∈ tc_tb) (hd : decode cc pc = .ok (.getfield ix, 3)) (h : tc_Ok nL Z (pc + 3) k) : tc_Ok nL Z pc (tb_getf 9 8 k) := to_getf X rfl (by decide) inX11 hw hd h
theorem gfX11_9 {R : Room} {cc : ByteArray} {nL pc ix : Nat} {own : String} {Z : tc_Z} {k : tc_B} (X : tc_Cx R cc nL own Z) (hw : Cond.fieldLink own ix "ToldChancesModel" "rule" "I" ∈ tc_tb) (hd : decode cc pc = .ok (.getfield ix, 3)) (h : tc_Ok nL Z (pc + 3) k) : tc_Ok nL Z pc (tb_getf 9 9 k) := to_getf X rfl (by decide) inX11 hw hd h
theorem pfX11_9 {R : Room} {cc : ByteArray} {nL pc ix : Nat} {own : String} {Z : tc_Z} {k : tc_B} (X : tc_Cx R cc nL own Z) (hw : Cond.fieldLink own ix "ToldChancesModel" "rule" "I" ∈ tc_tb) (hd : decode cc pc = .ok (.putfield ix, 3)) (h : tc_Ok nL Z (pc + 3) k) : tc_Ok nL Z pc (tb_putI 9 9 k) := to_putI X rfl (by decide) inX11 tyX11_ok nmX11 rfl rfl hw hd h
theorem gfX11_10 {R : Room} {cc : ByteArray} {nL pc ix : Nat} {own : String} {Z : tc_Z} {k : tc_B} (X : tc_Cx R cc nL own Z) (hw : Cond.fieldLink own ix "ToldChancesModel" "up" "J" ∈ tc_tb) (hd : decode cc pc = .ok (.getfield ix, 3)) (h : tc_Ok nL Z (pc + 3) k) : tc_Ok nL Z pc (tb_getf 9 10 k) := to_getf X rfl (by decide) inX11 hw hd h
theorem pfX11_10 {R : Room} {cc : ByteArray} {nL pc ix : Nat} {own : String} {Z : tc_Z} {k : tc_B} (X : tc_Cx R cc nL own Z) (hw : Cond.fieldLink own ix "ToldChancesModel" "up" "J" ∈ tc_tb) (hd : decode cc pc = .ok (.putfield ix, 3)) (h : tc_Ok nL Z (pc + 3) k) : tc_Ok nL Z pc (tb_putJ 9 10 k) := to_putJ X rfl (by decide) inX11 tyX11_ok nmX11 rfl rfl hw hd h
theorem gfX11_11 {R : Room} {cc : ByteArray} {nL pc ix : Nat} {own : String} {Z : tc_Z} {k : tc_B} (X : tc_Cx R cc nL own Z) (hw : Cond.fieldLink own ix "ToldChancesModel" "down" "J" ∈ tc_tb) (hd : decode cc pc = .ok (.getfield ix, 3)) (h : tc_Ok nL Z (pc + 3) k) : tc_Ok nL Z pc (tb_getf 9 11 k) := to_getf X rfl (by decide) inX11 hw hd h
theorem pfX11_11 {R : Room} {cc : ByteArray} {nL pc ix : Nat} {own : String} {Z : tc_Z} {k : tc_B} (X : tc_Cx R cc nL own Z) (hw : Cond.fieldLink own ix "ToldChancesModel" "down" "J" ∈ tc_tb) (hd : decode cc pc = .ok (.putfield ix, 3)) (h : tc_Ok nL Z (pc + 3) k) : tc_Ok nL Z pc (tb_putJ 9 11 k) := to_putJ X rfl (by decide) inX11 tyX11_ok nmX11 rfl rfl hw hd h
theorem gfX11_12 {R : Room} {cc : ByteArray} {nL pc ix : Nat} {own : String} {Z : tc_Z} {k : tc_B} (X : tc_Cx R cc nL own Z) (hw : Cond.fieldLink own ix "ToldChancesModel" "isCut" "[Z" ∈ tc_tb) (hd : decode cc pc = .ok (.getfield ix, 3)) (h : tc_Ok nL Z (pc + 3) k) : tc_Ok nL Z pc (tb_getf 9 12 k) := to_getf X rfl (by decide) inX11 hw hd h
theorem gfX11_13 {R : Room} {cc : ByteArray} {nL pc ix : Nat} {own : String} {Z : tc_Z} {k : tc_B} (X : tc_Cx R cc nL own Z) (hw : Cond.fieldLink own ix "ToldChancesModel" "binMany" "[I" ∈ tc_tb) (hd : decode cc pc = .ok (.getfield ix, 3)) (h : tc_Ok nL Z (pc + 3) k) : tc_Ok nL Z pc (tb_getf 9 13 k) := to_getf X rfl (by decide) inX11 hw hd h
theorem gfX11_14 {R : Room} {cc : ByteArray} {nL pc ix : Nat} {own : String} {Z : tc_Z} {k : tc_B} (X : tc_Cx R cc nL own Z) (hw : Cond.fieldLink own ix "ToldChancesModel" "binYes" "[I" ∈ tc_tb) (hd : decode cc pc = .ok (.getfield ix, 3)) (h : tc_Ok nL Z (pc + 3) k) : tc_Ok nL Z pc (tb_getf 9 14 k) := to_getf X rfl (by decide) inX11 hw hd h
theorem gfX11_15 {R : Room} {cc : ByteArray} {nL pc ix : Nat} {own : String} {Z : tc_Z} {k : tc_B} (X : tc_Cx R cc nL own Z) (hw : Cond.fieldLink own ix "ToldChancesModel" "binSum" "[I" ∈ tc_tb) (hd : decode cc pc = .ok (.getfield ix, 3)) (h : tc_Ok nL Z (pc + 3) k) : tc_Ok nL Z pc (tb_getf 9 15 k) := to_getf X rfl (by decide) inX11 hw hd h
theorem gfX11_16 {R : Room} {cc : ByteArray} {nL pc ix : Nat} {own : String} {Z : tc_Z} {k : tc_B} (X : tc_Cx R cc nL own Z) (hw : Cond.fieldLink own ix "ToldChancesModel" "binSquares" "[I" ∈ tc_tb) (hd : decode cc pc = .ok (.getfield ix, 3)) (h : tc_Ok nL Z (pc + 3) k) : tc_Ok nL Z pc (tb_getf 9 16 k) := to_getf X rfl (by decide) inX11 hw hd h
theorem gfX11_17 {R : Room} {cc : ByteArray} {nL pc ix : Nat} {own : String} {Z : tc_Z} {k : tc_B} (X : tc_Cx R cc nL own Z) (hw : Cond.fieldLink own ix "ToldChancesModel" "binBoth" "[I" ∈ tc_tb) (hd : decode cc pc = .ok (.getfield ix, 3)) (h : tc_Ok nL Z (pc + 3) k) : tc_Ok nL Z pc (tb_getf 9 17 k) := to_getf X rfl (by decide) inX11 hw hd h
theorem gfX11_18 {R : Room} {cc : ByteArray} {nL pc ix : Nat} {own : String} {Z : tc_Z} {k : tc_B} (X : tc_Cx R cc nL own Z) (hw : Cond.fieldLink own ix "ToldChancesModel" "all" "I" ∈ tc_tb) (hd : decode cc pc = .ok (.getfield ix, 3)) (h : tc_Ok nL Z (pc + 3) k) : tc_Ok nL Z pc (tb_getf 9 18 k) := to_getf X rfl (by decide) inX11 hw hd h
theorem pfX11_18 {R : Room} {cc : ByteArray} {nL pc ix : Nat} {own : String} {Z : tc_Z} {k : tc_B} (X : tc_Cx R cc nL own Z) (hw : Cond.fieldLink own ix "ToldChancesModel" "all" "I" ∈ tc_tb) (hd : decode cc pc = .ok (.putfield ix, 3)) (h : tc_Ok nL Z (pc + 3) k) : tc_Ok nL Z pc (tb_putI 9 18 k) := to_putI X rfl (by decide) inX11 tyX11_ok nmX11 rfl rfl hw hd h
theorem gfX11_19 {R : Room} {cc : ByteArray} {nL pc ix : Nat} {own : String} {Z : tc_Z} {k : tc_B} (X : tc_Cx R cc nL own Z) (hw : Cond.fieldLink own ix "ToldChancesModel" "allYes" "I" ∈ tc_tb) (hd : decode cc pc = .ok (.getfield ix, 3)) (h : tc_Ok nL Z (pc + 3) k) : tc_Ok nL Z pc (tb_getf 9 19 k) := to_getf X rfl (by decide) inX11 hw hd h
theorem pfX11_19 {R : Room} {cc : ByteArray} {nL pc ix : Nat} {own : String} {Z : tc_Z} {k : tc_B} (X : tc_Cx R cc nL own Z) (hw : Cond.fieldLink own ix "ToldChancesModel" "allYes" "I" ∈ tc_tb) (hd : decode cc pc = .ok (.putfield ix, 3)) (h : tc_Ok nL Z (pc + 3) k) : tc_Ok nL Z pc (tb_putI 9 19 k) := to_putI X rfl (by decide) inX11 tyX11_ok nmX11 rfl rfl hw hd h
theorem gfX11_20 {R : Room} {cc : ByteArray} {nL pc ix : Nat} {own : String} {Z : tc_Z} {k : tc_B} (X : tc_Cx R cc nL own Z) (hw : Cond.fieldLink own ix "ToldChancesModel" "pools" "I" ∈ tc_tb) (hd : decode cc pc = .ok (.getfield ix, 3)) (h : tc_Ok nL Z (pc + 3) k) : tc_Ok nL Z pc (tb_getf 9 20 k) := to_getf X rfl (by decide) inX11 hw hd h
theorem pfX11_20 {R : Room} {cc : ByteArray} {nL pc ix : Nat} {own : String} {Z : tc_Z} {k : tc_B} (X : tc_Cx R cc nL own Z) (hw : Cond.fieldLink own ix "ToldChancesModel" "pools" "I" ∈ tc_tb) (hd : decode cc pc = .ok (.putfield ix, 3)) (h : tc_Ok nL Z (pc + 3) k) : tc_Ok nL Z pc (tb_putI 9 20 k) := to_putI X rfl (by decide) inX11 tyX11_ok nmX11 rfl rfl hw hd h
theorem gfX11_21 {R : Room} {cc : ByteArray} {nL pc ix : Nat} {own : String} {Z : tc_Z} {k : tc_B} (X : tc_Cx R cc nL own Z) (hw : Cond.fieldLink own ix "ToldChancesModel" "poolLeast" "[I" ∈ tc_tb) (hd : decode cc pc = .ok (.getfield ix, 3)) (h : tc_Ok nL Z (pc + 3) k) : tc_Ok nL Z pc (tb_getf 9 21 k) := to_getf X rfl (by decide) inX11 hw hd h
theorem gfX11_22 {R : Room} {cc : ByteArray} {nL pc ix : Nat} {own : String} {Z : tc_Z} {k : tc_B} (X : tc_Cx R cc nL own Z) (hw : Cond.fieldLink own ix "ToldChancesModel" "poolMost" "[I" ∈ tc_tb) (hd : decode cc pc = .ok (.getfield ix, 3)) (h : tc_Ok nL Z (pc + 3) k) : tc_Ok nL Z pc (tb_getf 9 22 k) := to_getf X rfl (by decide) inX11 hw hd h
theorem gfX11_23 {R : Room} {cc : ByteArray} {nL pc ix : Nat} {own : String} {Z : tc_Z} {k : tc_B} (X : tc_Cx R cc nL own Z) (hw : Cond.fieldLink own ix "ToldChancesModel" "poolMany" "[I" ∈ tc_tb) (hd : decode cc pc = .ok (.getfield ix, 3)) (h : tc_Ok nL Z (pc + 3) k) : tc_Ok nL Z pc (tb_getf 9 23 k) := to_getf X rfl (by decide) inX11 hw hd h
theorem gfX11_24 {R : Room} {cc : ByteArray} {nL pc ix : Nat} {own : String} {Z : tc_Z} {k : tc_B} (X : tc_Cx R cc nL own Z) (hw : Cond.fieldLink own ix "ToldChancesModel" "poolYes" "[I" ∈ tc_tb) (hd : decode cc pc = .ok (.getfield ix, 3)) (h : tc_Ok nL Z (pc + 3) k) : tc_Ok nL Z pc (tb_getf 9 24 k) := to_getf X rfl (by decide) inX11 hw hd h
theorem gfX11_25 {R : Room} {cc : ByteArray} {nL pc ix : Nat} {own : String} {Z : tc_Z} {k : tc_B} (X : tc_Cx R cc nL own Z) (hw : Cond.fieldLink own ix "ToldChancesModel" "both" "I" ∈ tc_tb) (hd : decode cc pc = .ok (.getfield ix, 3)) (h : tc_Ok nL Z (pc + 3) k) : tc_Ok nL Z pc (tb_getf 9 25 k) := to_getf X rfl (by decide) inX11 hw hd h
theorem pfX11_25 {R : Room} {cc : ByteArray} {nL pc ix : Nat} {own : String} {Z : tc_Z} {k : tc_B} (X : tc_Cx R cc nL own Z) (hw : Cond.fieldLink own ix "ToldChancesModel" "both" "I" ∈ tc_tb) (hd : decode cc pc = .ok (.putfield ix, 3)) (h : tc_Ok nL Z (pc + 3) k) : tc_Ok nL Z pc (tb_putI 9 25 k) := to_putI X rfl (by decide) inX11 tyX11_ok nmX11 rfl rfl hw hd h
theorem gfX11_26 {R : Room} {cc : ByteArray} {nL pc ix : Nat} {own : String} {Z : tc_Z} {k : tc_B} (X : tc_Cx R cc nL own Z) (hw : Cond.fieldLink own ix "ToldChancesModel" "first" "I" ∈ tc_tb) (hd : decode cc pc = .ok (.getfield ix, 3)) (h : tc_Ok nL Z (pc + 3) k) : tc_Ok nL Z pc (tb_getf 9 26 k) := to_getf X rfl (by decide) inX11 hw hd h
theorem pfX11_26 {R : Room} {cc : ByteArray} {nL pc ix : Nat} {own : String} {Z : tc_Z} {k : tc_B} (X : tc_Cx R cc nL own Z) (hw : Cond.fieldLink own ix "ToldChancesModel" "first" "I" ∈ tc_tb) (hd : decode cc pc = .ok (.putfield ix, 3)) (h : tc_Ok nL Z (pc + 3) k) : tc_Ok nL Z pc (tb_putI 9 26 k) := to_putI X rfl (by decide) inX11 tyX11_ok nmX11 rfl rfl hw hd h
theorem gfX11_27 {R : Room} {cc : ByteArray} {nL pc ix : Nat} {own : String} {Z : tc_Z} {k : tc_B} (X : tc_Cx R cc nL own Z) (hw : Cond.fieldLink own ix "ToldChancesModel" "second" "I" ∈ tc_tb) (hd : decode cc pc = .ok (.getfield ix, 3)) (h : tc_Ok nL Z (pc + 3) k) : tc_Ok nL Z pc (tb_getf 9 27 k) := to_getf X rfl (by decide) inX11 hw hd h
theorem pfX11_27 {R : Room} {cc : ByteArray} {nL pc ix : Nat} {own : String} {Z : tc_Z} {k : tc_B} (X : tc_Cx R cc nL own Z) (hw : Cond.fieldLink own ix "ToldChancesModel" "second" "I" ∈ tc_tb) (hd : decode cc pc = .ok (.putfield ix, 3)) (h : tc_Ok nL Z (pc + 3) k) : tc_Ok nL Z pc (tb_putI 9 27 k) := to_putI X rfl (by decide) inX11 tyX11_ok nmX11 rfl rfl hw hd h
theorem gfX11_28 {R : Room} {cc : ByteArray} {nL pc ix : Nat} {own : String} {Z : tc_Z} {k : tc_B} (X : tc_Cx R cc nL own Z) (hw : Cond.fieldLink own ix "ToldChancesModel" "report" "[I" ∈ tc_tb) (hd : decode cc pc = .ok (.getfield ix, 3)) (h : tc_Ok nL Z (pc + 3) k) : tc_Ok nL Z pc (tb_getf 9 28 k) := to_getf X rfl (by decide) inX11 hw hd h
theorem gfX11_29 {R : Room} {cc : ByteArray} {nL pc ix : Nat} {own : String} {Z : tc_Z} {k : tc_B} (X : tc_Cx R cc nL own Z) (hw : Cond.fieldLink own ix "ToldChancesModel" "written" "I" ∈ tc_tb) (hd : decode cc pc = .ok (.getfield ix, 3)) (h : tc_Ok nL Z (pc + 3) k) : tc_Ok nL Z pc (tb_getf 9 29 k) := to_getf X rfl (by decide) inX11 hw hd h
theorem pfX11_29 {R : Room} {cc : ByteArray} {nL pc ix : Nat} {own : String} {Z : tc_Z} {k : tc_B} (X : tc_Cx R cc nL own Z) (hw : Cond.fieldLink own ix "ToldChancesModel" "written" "I" ∈ tc_tb) (hd : decode cc pc = .ok (.putfield ix, 3)) (h : tc_Ok nL Z (pc + 3) k) : tc_Ok nL Z pc (tb_putI 9 29 k) := to_putI X rfl (by decide) inX11 tyX11_ok nmX11 rfl rfl hw hd h
theorem wx_mmax_1 : Cond.static Lib.Math.max.name ∈ tc_tb := tc_tb2 185 (by decide +kernel) (by decide +kernel)
theorem wx_mmax_2 : Cond.initialized "java/lang/Math" ∈ tc_tb := tc_tb1 18 (by decide +kernel) (by decide +kernel)
theorem wx_mabs_2 : Cond.initialized "java/lang/Math" ∈ tc_tb := wx_mmax_2
theorem wx_mmax_3 : Cond.code Lib.Math.max.name Lib.Math.max.code 2 (some .int) ∈ tc_tb := tc_tb2 186 (by decide +kernel) (by decide +kernel)
theorem wx_mabs_1 : Cond.static Lib.MathLoose.abs_long.x ∈ tc_tb := tc_tb3 2 (by decide +kernel) (by decide +kernel)
theorem wx_mabs_3 : Cond.code Lib.MathLoose.abs_long.x Lib.MathLoose.abs_long.code 2 (some .long) ∈ tc_tb := tc_tb3 3 (by decide +kernel) (by decide +kernel)
theorem wi_J0_length_8abf5 : Cond.instanceMethod yJ0_length_8abf5 ∈ tc_tb := tc_tb2 103 (by decide +kernel) (by decide +kernel)
theorem wl_J0_length_8abf5 : Cond.selects RJ0 yJ0_length_8abf5 yJ0_length_8abf5 ∈ tc_tb := tc_tb2 104 (by decide +kernel) (by decide +kernel)
theorem wn_RJ0 : Cond.initialized RJ0 ∈ tc_tb := tc_tb1 13 (by decide +kernel) (by decide +kernel)
theorem wc_J0_length_8abf5 : Cond.code yJ0_length_8abf5 cJ0_length_8abf5 1 (some .int) ∈ tc_tb := tc_tb2 105 (by decide +kernel) (by decide +kernel)
theorem wi_J0_charAt_5068e : Cond.instanceMethod yJ0_charAt_5068e ∈ tc_tb := tc_tb2 117 (by decide +kernel) (by decide +kernel)
theorem wl_J0_charAt_5068e : Cond.selects RJ0 yJ0_charAt_5068e yJ0_charAt_5068e ∈ tc_tb := tc_tb2 118 (by decide +kernel) (by decide +kernel)
theorem wc_J0_charAt_5068e : Cond.code yJ0_charAt_5068e cJ0_charAt_5068e 2 (some .char) ∈ tc_tb := tc_tb2 119 (by decide +kernel) (by decide +kernel)
theorem ws_X4_sharedBy : Cond.static yX4_sharedBy ∈ tc_tb := tc_tb3 5 (by decide +kernel) (by decide +kernel)
theorem wn_RX4 : Cond.initialized RX4 ∈ tc_tb := tc_tb1 8 (by decide +kernel) (by decide +kernel)
theorem wc_X4_sharedBy : Cond.code yX4_sharedBy cX4_sharedBy 11 (some .long) ∈ tc_tb := tc_tb3 6 (by decide +kernel) (by decide +kernel)
theorem wf_RX4_7 : Cond.fieldLink RX4 7 "ToldChances$Fraction" "upper" "J" ∈ tc_tb := tc_tb1 178 (by decide +kernel) (by decide +kernel)
theorem wf_RX4_13 : Cond.fieldLink RX4 13 "ToldChances$Fraction" "lower" "J" ∈ tc_tb := tc_tb1 180 (by decide +kernel) (by decide +kernel)
theorem wm_RX4_16 : Cond.methodLink RX4 16 Lib.MathLoose.abs_long.x ∈ tc_tb := tc_tb3 1 (by decide +kernel) (by decide +kernel)
theorem wm_RX4_22 : Cond.methodLink RX4 22 yX4_sharedBy ∈ tc_tb := tc_tb3 4 (by decide +kernel) (by decide +kernel)
theorem wi_X4_become : Cond.instanceMethod yX4_become ∈ tc_tb := tc_tb2 238 (by decide +kernel) (by decide +kernel)
theorem wl_X4_become : Cond.selects RX4 yX4_become yX4_become ∈ tc_tb := tc_tb2 239 (by decide +kernel) (by decide +kernel)
theorem wc_X4_become : Cond.code yX4_become cX4_become 7 none ∈ tc_tb := tc_tb3 0 (by decide +kernel) (by decide +kernel)
theorem wm_RX4_26 : Cond.methodLink RX4 26 yX4_become ∈ tc_tb := tc_tb3 110 (by decide +kernel) (by decide +kernel)
theorem wi_X4_add : Cond.instanceMethod yX4_add ∈ tc_tb := tc_tb3 107 (by decide +kernel) (by decide +kernel)
theorem wl_X4_add : Cond.selects RX4 yX4_add yX4_add ∈ tc_tb := tc_tb3 108 (by decide +kernel) (by decide +kernel)
theorem wc_X4_add : Cond.code yX4_add cX4_add 9 none ∈ tc_tb := tc_tb3 109 (by decide +kernel) (by decide +kernel)
theorem wi_X4_divideBy : Cond.instanceMethod yX4_divideBy ∈ tc_tb := tc_tb3 116 (by decide +kernel) (by decide +kernel)
theorem wl_X4_divideBy : Cond.selects RX4 yX4_divideBy yX4_divideBy ∈ tc_tb := tc_tb3 117 (by decide +kernel) (by decide +kernel)
theorem wc_X4_divideBy : Cond.code yX4_divideBy cX4_divideBy 3 none ∈ tc_tb := tc_tb3 118 (by decide +kernel) (by decide +kernel)
theorem wf_RX1_9 : Cond.fieldLink RX1 9 "ToldChances$Book" "chances" "[I" ∈ tc_tb := tc_tb1 34 (by decide +kernel) (by decide +kernel)
theorem wi_X1_swapChance : Cond.instanceMethod yX1_swapChance ∈ tc_tb := tc_tb2 22 (by decide +kernel) (by decide +kernel)
theorem wl_X1_swapChance : Cond.selects RX1 yX1_swapChance yX1_swapChance ∈ tc_tb := tc_tb2 23 (by decide +kernel) (by decide +kernel)
theorem wn_RX1 : Cond.initialized RX1 ∈ tc_tb := tc_tb1 2 (by decide +kernel) (by decide +kernel)
theorem wc_X1_swapChance : Cond.code yX1_swapChance cX1_swapChance 5 (some .int) ∈ tc_tb := tc_tb2 24 (by decide +kernel) (by decide +kernel)
theorem wf_RX1_18 : Cond.fieldLink RX1 18 "ToldChances$Book" "states" "[I" ∈ tc_tb := tc_tb1 36 (by decide +kernel) (by decide +kernel)
theorem wi_X1_swapState : Cond.instanceMethod yX1_swapState ∈ tc_tb := tc_tb2 34 (by decide +kernel) (by decide +kernel)
theorem wl_X1_swapState : Cond.selects RX1 yX1_swapState yX1_swapState ∈ tc_tb := tc_tb2 35 (by decide +kernel) (by decide +kernel)
theorem wc_X1_swapState : Cond.code yX1_swapState cX1_swapState 4 (some .int) ∈ tc_tb := tc_tb2 36 (by decide +kernel) (by decide +kernel)
theorem wf_RX1_15 : Cond.fieldLink RX1 15 "ToldChances$Book" "weights" "[I" ∈ tc_tb := tc_tb1 35 (by decide +kernel) (by decide +kernel)
theorem wi_X1_swapWeight : Cond.instanceMethod yX1_swapWeight ∈ tc_tb := tc_tb2 50 (by decide +kernel) (by decide +kernel)
theorem wl_X1_swapWeight : Cond.selects RX1 yX1_swapWeight yX1_swapWeight ∈ tc_tb := tc_tb2 51 (by decide +kernel) (by decide +kernel)
theorem wc_X1_swapWeight : Cond.code yX1_swapWeight cX1_swapWeight 4 (some .int) ∈ tc_tb := tc_tb2 52 (by decide +kernel) (by decide +kernel)
theorem wi_X1_mixedChance : Cond.instanceMethod yX1_mixedChance ∈ tc_tb := tc_tb2 66 (by decide +kernel) (by decide +kernel)
theorem wl_X1_mixedChance : Cond.selects RX1 yX1_mixedChance yX1_mixedChance ∈ tc_tb := tc_tbS 0 (by decide +kernel) (by decide +kernel)
theorem wc_X1_mixedChance : Cond.code yX1_mixedChance cX1_mixedChance 6 (some .int) ∈ tc_tb := tc_tb2 67 (by decide +kernel) (by decide +kernel)
theorem wm_RX1_21 : Cond.methodLink RX1 21 yX1_mixedChance ∈ tc_tb := tc_tb2 64 (by decide +kernel) (by decide +kernel)
theorem wi_X1_chanceOf : Cond.instanceMethod yX1_chanceOf ∈ tc_tb := tc_tb2 61 (by decide +kernel) (by decide +kernel)
theorem wl_X1_chanceOf : Cond.selects RX1 yX1_chanceOf yX1_chanceOf ∈ tc_tb := tc_tb2 62 (by decide +kernel) (by decide +kernel)
theorem wc_X1_chanceOf : Cond.code yX1_chanceOf cX1_chanceOf 3 (some .int) ∈ tc_tb := tc_tb2 63 (by decide +kernel) (by decide +kernel)
theorem wm_RX1_25 : Cond.methodLink RX1 25 yX1_chanceOf ∈ tc_tb := tc_tb2 230 (by decide +kernel) (by decide +kernel)
theorem wi_X1_isCase : Cond.instanceMethod yX1_isCase ∈ tc_tb := tc_tb2 227 (by decide +kernel) (by decide +kernel)
theorem wl_X1_isCase : Cond.selects RX1 yX1_isCase yX1_isCase ∈ tc_tb := tc_tb2 228 (by decide +kernel) (by decide +kernel)
theorem wc_X1_isCase : Cond.code yX1_isCase cX1_isCase 3 (some .boolean) ∈ tc_tb := tc_tb2 229 (by decide +kernel) (by decide +kernel)
theorem wi_X1_countState : Cond.instanceMethod yX1_countState ∈ tc_tb := tc_tb3 235 (by decide +kernel) (by decide +kernel)
theorem wl_X1_countState : Cond.selects RX1 yX1_countState yX1_countState ∈ tc_tb := tc_tb3 236 (by decide +kernel) (by decide +kernel)
theorem wc_X1_countState : Cond.code yX1_countState cX1_countState 4 (some .int) ∈ tc_tb := tc_tb3 237 (by decide +kernel) (by decide +kernel)
theorem wi_X1_countTold : Cond.instanceMethod yX1_countTold ∈ tc_tb := tc_tb3 239 (by decide +kernel) (by decide +kernel)
theorem wl_X1_countTold : Cond.selects RX1 yX1_countTold yX1_countTold ∈ tc_tb := tc_tb4 0 (by decide +kernel) (by decide +kernel)
theorem wc_X1_countTold : Cond.code yX1_countTold cX1_countTold 3 (some .int) ∈ tc_tb := tc_tb4 1 (by decide +kernel) (by decide +kernel)
theorem wm_RX1_29 : Cond.methodLink RX1 29 yX1_isCase ∈ tc_tb := tc_tb4 6 (by decide +kernel) (by decide +kernel)
theorem wi_X1_countCases : Cond.instanceMethod yX1_countCases ∈ tc_tb := tc_tb4 3 (by decide +kernel) (by decide +kernel)
theorem wl_X1_countCases : Cond.selects RX1 yX1_countCases yX1_countCases ∈ tc_tb := tc_tb4 4 (by decide +kernel) (by decide +kernel)
theorem wc_X1_countCases : Cond.code yX1_countCases cX1_countCases 4 (some .int) ∈ tc_tb := tc_tb4 5 (by decide +kernel) (by decide +kernel)
theorem wf_RX2_19 : Cond.fieldLink RX2 19 "ToldChances$Cases" "count" "I" ∈ tc_tb := tc_tb1 94 (by decide +kernel) (by decide +kernel)
theorem wf_RX2_15 : Cond.fieldLink RX2 15 "ToldChances$Cases" "isYes" "[Z" ∈ tc_tb := tc_tb1 90 (by decide +kernel) (by decide +kernel)
theorem wf_RX2_23 : Cond.fieldLink RX2 23 "ToldChances$Cases" "yesCount" "I" ∈ tc_tb := tc_tb1 98 (by decide +kernel) (by decide +kernel)
theorem wf_RX2_36 : Cond.fieldLink RX2 36 "ToldChances$Book" "states" "[I" ∈ tc_tb := tc_tb1 37 (by decide +kernel) (by decide +kernel)
theorem wf_RX2_9 : Cond.fieldLink RX2 9 "ToldChances$Cases" "chances" "[I" ∈ tc_tb := tc_tb1 86 (by decide +kernel) (by decide +kernel)
theorem wm_RX2_32 : Cond.methodLink RX2 32 yX1_chanceOf ∈ tc_tb := tc_tb2 231 (by decide +kernel) (by decide +kernel)
theorem wm_RX2_26 : Cond.methodLink RX2 26 yX1_isCase ∈ tc_tb := tc_tb2 226 (by decide +kernel) (by decide +kernel)
theorem wi_X2_gather : Cond.instanceMethod yX2_gather ∈ tc_tb := tc_tb2 223 (by decide +kernel) (by decide +kernel)
theorem wl_X2_gather : Cond.selects RX2 yX2_gather yX2_gather ∈ tc_tb := tc_tb2 224 (by decide +kernel) (by decide +kernel)
theorem wn_RX2 : Cond.initialized RX2 ∈ tc_tb := tc_tb1 5 (by decide +kernel) (by decide +kernel)
theorem wc_X2_gather : Cond.code yX2_gather cX2_gather 4 none ∈ tc_tb := tc_tb2 225 (by decide +kernel) (by decide +kernel)
theorem wf_RX8_5 : Cond.fieldLink RX8 5 "ToldChances$Rule" "SQUARE" "LToldChances$Rule;" ∈ tc_tb := tc_tb2 206 (by decide +kernel) (by decide +kernel)
theorem wf_RX8_9 : Cond.fieldLink RX8 9 "ToldChances$Rule" "LINE" "LToldChances$Rule;" ∈ tc_tb := tc_tb2 207 (by decide +kernel) (by decide +kernel)
theorem wf_RX8_15 : Cond.fieldLink RX8 15 "ToldChances$Rule" "CUBE" "LToldChances$Rule;" ∈ tc_tb := tc_tb2 209 (by decide +kernel) (by decide +kernel)
theorem wi_X8_missOf : Cond.instanceMethod yX8_missOf ∈ tc_tb := tc_tb2 203 (by decide +kernel) (by decide +kernel)
theorem wl_X8_missOf : Cond.selects RX8 yX8_missOf yX8_missOf ∈ tc_tb := tc_tb2 204 (by decide +kernel) (by decide +kernel)
theorem wn_RX8 : Cond.initialized RX8 ∈ tc_tb := tc_tb1 11 (by decide +kernel) (by decide +kernel)
theorem wc_X8_missOf : Cond.code yX8_missOf cX8_missOf 4 (some .int) ∈ tc_tb := tc_tb2 205 (by decide +kernel) (by decide +kernel)
theorem wm_RX2_39 : Cond.methodLink RX2 39 yX8_missOf ∈ tc_tb := tc_tb2 236 (by decide +kernel) (by decide +kernel)
theorem wi_X2_missSum : Cond.instanceMethod yX2_missSum ∈ tc_tb := tc_tb2 233 (by decide +kernel) (by decide +kernel)
theorem wl_X2_missSum : Cond.selects RX2 yX2_missSum yX2_missSum ∈ tc_tb := tc_tb2 234 (by decide +kernel) (by decide +kernel)
theorem wc_X2_missSum : Cond.code yX2_missSum cX2_missSum 5 (some .long) ∈ tc_tb := tc_tb2 235 (by decide +kernel) (by decide +kernel)
theorem ws_J6_compare_7cf53 : Cond.static yJ6_compare_7cf53 ∈ tc_tb := tc_tb3 137 (by decide +kernel) (by decide +kernel)
theorem wn_RJ6 : Cond.initialized RJ6 ∈ tc_tb := tc_tb1 19 (by decide +kernel) (by decide +kernel)
theorem wc_J6_compare_7cf53 : Cond.code yJ6_compare_7cf53 cJ6_compare_7cf53 2 (some .int) ∈ tc_tb := tc_tb3 138 (by decide +kernel) (by decide +kernel)
theorem wm_RX2_45 : Cond.methodLink RX2 45 yJ6_compare_7cf53 ∈ tc_tb := tc_tb3 136 (by decide +kernel) (by decide +kernel)
theorem wi_X2_halvesWellRanked : Cond.instanceMethod yX2_halvesWellRanked ∈ tc_tb := tc_tb3 133 (by decide +kernel) (by decide +kernel)
theorem wl_X2_halvesWellRanked : Cond.selects RX2 yX2_halvesWellRanked yX2_halvesWellRanked ∈ tc_tb := tc_tb3 134 (by decide +kernel) (by decide +kernel)
theorem wc_X2_halvesWellRanked : Cond.code yX2_halvesWellRanked cX2_halvesWellRanked 5 (some .long) ∈ tc_tb := tc_tb3 135 (by decide +kernel) (by decide +kernel)
theorem wf_RX3_57 : Cond.fieldLink RX3 57 "ToldChances$Command" "third" "I" ∈ tc_tb := tc_tb5 159 (by decide +kernel) (by decide +kernel)
theorem wf_RX3_54 : Cond.fieldLink RX3 54 "ToldChances$Command" "second" "I" ∈ tc_tb := tc_tb5 158 (by decide +kernel) (by decide +kernel)
theorem wf_RX3_51 : Cond.fieldLink RX3 51 "ToldChances$Command" "first" "I" ∈ tc_tb := tc_tb5 157 (by decide +kernel) (by decide +kernel)
theorem wi_X3_greatest : Cond.instanceMethod yX3_greatest ∈ tc_tb := tc_tb2 157 (by decide +kernel) (by decide +kernel)
theorem wl_X3_greatest : Cond.selects RX3 yX3_greatest yX3_greatest ∈ tc_tb := tc_tb2 158 (by decide +kernel) (by decide +kernel)
theorem wn_RX3 : Cond.initialized RX3 ∈ tc_tb := tc_tb1 17 (by decide +kernel) (by decide +kernel)
theorem wc_X3_greatest : Cond.code yX3_greatest cX3_greatest 2 (some .int) ∈ tc_tb := tc_tb2 159 (by decide +kernel) (by decide +kernel)
theorem wi_X4_pick : Cond.instanceMethod yX4_pick ∈ tc_tb := tc_tb3 9 (by decide +kernel) (by decide +kernel)
theorem wl_X4_pick : Cond.selects RX4 yX4_pick yX4_pick ∈ tc_tb := tc_tb3 10 (by decide +kernel) (by decide +kernel)
theorem wc_X4_pick : Cond.code yX4_pick cX4_pick 2 (some .long) ∈ tc_tb := tc_tb3 11 (by decide +kernel) (by decide +kernel)
theorem wf_RX0_15 : Cond.fieldLink RX0 15 "ToldChances$Bins" "cutCount" "I" ∈ tc_tb := tc_tb1 118 (by decide +kernel) (by decide +kernel)
theorem wf_RX0_9 : Cond.fieldLink RX0 9 "ToldChances$Bins" "cuts" "[I" ∈ tc_tb := tc_tb1 117 (by decide +kernel) (by decide +kernel)
theorem wi_X0_binOf : Cond.instanceMethod yX0_binOf ∈ tc_tb := tc_tb3 49 (by decide +kernel) (by decide +kernel)
theorem wl_X0_binOf : Cond.selects RX0 yX0_binOf yX0_binOf ∈ tc_tb := tc_tb3 50 (by decide +kernel) (by decide +kernel)
theorem wn_RX0 : Cond.initialized RX0 ∈ tc_tb := tc_tb1 6 (by decide +kernel) (by decide +kernel)
theorem wc_X0_binOf : Cond.code yX0_binOf cX0_binOf 3 (some .int) ∈ tc_tb := tc_tb3 51 (by decide +kernel) (by decide +kernel)
theorem wi_X0_removeCut : Cond.instanceMethod yX0_removeCut ∈ tc_tb := tc_tb3 54 (by decide +kernel) (by decide +kernel)
theorem wl_X0_removeCut : Cond.selects RX0 yX0_removeCut yX0_removeCut ∈ tc_tb := tc_tbS 8 (by decide +kernel) (by decide +kernel)
theorem wc_X0_removeCut : Cond.code yX0_removeCut cX0_removeCut 3 none ∈ tc_tb := tc_tb3 55 (by decide +kernel) (by decide +kernel)
theorem wi_X0_insertCut : Cond.instanceMethod yX0_insertCut ∈ tc_tb := tc_tb3 58 (by decide +kernel) (by decide +kernel)
theorem wl_X0_insertCut : Cond.selects RX0 yX0_insertCut yX0_insertCut ∈ tc_tb := tc_tbS 9 (by decide +kernel) (by decide +kernel)
theorem wc_X0_insertCut : Cond.code yX0_insertCut cX0_insertCut 4 none ∈ tc_tb := tc_tb3 59 (by decide +kernel) (by decide +kernel)
theorem wm_RX0_42 : Cond.methodLink RX0 42 yX0_insertCut ∈ tc_tb := tc_tb3 56 (by decide +kernel) (by decide +kernel)
theorem wm_RX0_38 : Cond.methodLink RX0 38 yX0_removeCut ∈ tc_tb := tc_tb3 52 (by decide +kernel) (by decide +kernel)
theorem wm_RX0_34 : Cond.methodLink RX0 34 yX0_binOf ∈ tc_tb := tc_tb3 48 (by decide +kernel) (by decide +kernel)
theorem wi_X0_flipCut : Cond.instanceMethod yX0_flipCut ∈ tc_tb := tc_tb3 45 (by decide +kernel) (by decide +kernel)
theorem wl_X0_flipCut : Cond.selects RX0 yX0_flipCut yX0_flipCut ∈ tc_tb := tc_tb3 46 (by decide +kernel) (by decide +kernel)
theorem wc_X0_flipCut : Cond.code yX0_flipCut cX0_flipCut 3 (some .boolean) ∈ tc_tb := tc_tb3 47 (by decide +kernel) (by decide +kernel)
theorem wi_X0_hasBin : Cond.instanceMethod yX0_hasBin ∈ tc_tb := tc_tb3 65 (by decide +kernel) (by decide +kernel)
theorem wl_X0_hasBin : Cond.selects RX0 yX0_hasBin yX0_hasBin ∈ tc_tb := tc_tb3 66 (by decide +kernel) (by decide +kernel)
theorem wc_X0_hasBin : Cond.code yX0_hasBin cX0_hasBin 2 (some .boolean) ∈ tc_tb := tc_tb3 67 (by decide +kernel) (by decide +kernel)
theorem wi_X0_leastOf : Cond.instanceMethod yX0_leastOf ∈ tc_tb := tc_tb3 69 (by decide +kernel) (by decide +kernel)
theorem wl_X0_leastOf : Cond.selects RX0 yX0_leastOf yX0_leastOf ∈ tc_tb := tc_tb3 70 (by decide +kernel) (by decide +kernel)
theorem wc_X0_leastOf : Cond.code yX0_leastOf cX0_leastOf 2 (some .int) ∈ tc_tb := tc_tb3 71 (by decide +kernel) (by decide +kernel)
theorem wi_X0_greatestOf : Cond.instanceMethod yX0_greatestOf ∈ tc_tb := tc_tb3 73 (by decide +kernel) (by decide +kernel)
theorem wl_X0_greatestOf : Cond.selects RX0 yX0_greatestOf yX0_greatestOf ∈ tc_tb := tc_tb3 74 (by decide +kernel) (by decide +kernel)
theorem wc_X0_greatestOf : Cond.code yX0_greatestOf cX0_greatestOf 2 (some .int) ∈ tc_tb := tc_tb3 75 (by decide +kernel) (by decide +kernel)
theorem wf_RX0_19 : Cond.fieldLink RX0 19 "ToldChances$Bins" "counts" "[I" ∈ tc_tb := tc_tb1 120 (by decide +kernel) (by decide +kernel)
theorem wf_RX0_25 : Cond.fieldLink RX0 25 "ToldChances$Bins" "sums" "[I" ∈ tc_tb := tc_tb1 124 (by decide +kernel) (by decide +kernel)
theorem wf_RX0_28 : Cond.fieldLink RX0 28 "ToldChances$Bins" "squareSums" "[I" ∈ tc_tb := tc_tb1 126 (by decide +kernel) (by decide +kernel)
theorem wf_RX0_54 : Cond.fieldLink RX0 54 "ToldChances$Cases" "isYes" "[Z" ∈ tc_tb := tc_tb1 92 (by decide +kernel) (by decide +kernel)
theorem wf_RX0_22 : Cond.fieldLink RX0 22 "ToldChances$Bins" "yeses" "[I" ∈ tc_tb := tc_tb1 122 (by decide +kernel) (by decide +kernel)
theorem wf_RX0_31 : Cond.fieldLink RX0 31 "ToldChances$Bins" "yesSums" "[I" ∈ tc_tb := tc_tb1 127 (by decide +kernel) (by decide +kernel)
theorem wf_RX0_46 : Cond.fieldLink RX0 46 "ToldChances$Cases" "count" "I" ∈ tc_tb := tc_tb1 96 (by decide +kernel) (by decide +kernel)
theorem wf_RX0_51 : Cond.fieldLink RX0 51 "ToldChances$Cases" "chances" "[I" ∈ tc_tb := tc_tb1 88 (by decide +kernel) (by decide +kernel)
theorem wi_X0_sortIn : Cond.instanceMethod yX0_sortIn ∈ tc_tb := tc_tb3 77 (by decide +kernel) (by decide +kernel)
theorem wl_X0_sortIn : Cond.selects RX0 yX0_sortIn yX0_sortIn ∈ tc_tb := tc_tb3 78 (by decide +kernel) (by decide +kernel)
theorem wc_X0_sortIn : Cond.code yX0_sortIn cX0_sortIn 5 none ∈ tc_tb := tc_tb3 79 (by decide +kernel) (by decide +kernel)
theorem ws_X0_squared : Cond.static yX0_squared ∈ tc_tb := tc_tb3 102 (by decide +kernel) (by decide +kernel)
theorem wc_X0_squared : Cond.code yX0_squared cX0_squared 2 (some .long) ∈ tc_tb := tc_tb3 103 (by decide +kernel) (by decide +kernel)
theorem wj_RX0_88 : Cond.constantLong RX0 88 (2) ∈ tc_tb := tc_tb3 105 (by decide +kernel) (by decide +kernel)
theorem wj_RX0_86 : Cond.constantLong RX0 86 (100) ∈ tc_tb := tc_tb3 104 (by decide +kernel) (by decide +kernel)
theorem wm_RX0_82 : Cond.methodLink RX0 82 yX0_squared ∈ tc_tb := tc_tb3 101 (by decide +kernel) (by decide +kernel)
theorem wi_X0_binTerm : Cond.instanceMethod yX0_binTerm ∈ tc_tb := tc_tb3 99 (by decide +kernel) (by decide +kernel)
theorem wl_X0_binTerm : Cond.selects RX0 yX0_binTerm yX0_binTerm ∈ tc_tb := tc_tbS 12 (by decide +kernel) (by decide +kernel)
theorem wc_X0_binTerm : Cond.code yX0_binTerm cX0_binTerm 13 (some .long) ∈ tc_tb := tc_tb3 100 (by decide +kernel) (by decide +kernel)
theorem wj_RX0_90 : Cond.constantLong RX0 90 (10000) ∈ tc_tb := tc_tb3 114 (by decide +kernel) (by decide +kernel)
theorem ws_X0_scaleOf : Cond.static yX0_scaleOf ∈ tc_tb := tc_tb3 112 (by decide +kernel) (by decide +kernel)
theorem wc_X0_scaleOf : Cond.code yX0_scaleOf cX0_scaleOf 3 (some .long) ∈ tc_tb := tc_tb3 113 (by decide +kernel) (by decide +kernel)
theorem wm_RX0_78 : Cond.methodLink RX0 78 yX4_divideBy ∈ tc_tb := tc_tb3 115 (by decide +kernel) (by decide +kernel)
theorem wm_RX0_71 : Cond.methodLink RX0 71 yX4_add ∈ tc_tb := tc_tb3 106 (by decide +kernel) (by decide +kernel)
theorem wm_RX0_74 : Cond.methodLink RX0 74 yX0_scaleOf ∈ tc_tb := tc_tb3 111 (by decide +kernel) (by decide +kernel)
theorem wm_RX0_67 : Cond.methodLink RX0 67 yX0_binTerm ∈ tc_tb := tc_tb3 97 (by decide +kernel) (by decide +kernel)
theorem wf_RX0_58 : Cond.fieldLink RX0 58 "ToldChances$Cases" "yesCount" "I" ∈ tc_tb := tc_tb1 99 (by decide +kernel) (by decide +kernel)
theorem wm_RX0_61 : Cond.methodLink RX0 61 yX4_become ∈ tc_tb := tc_tb3 96 (by decide +kernel) (by decide +kernel)
theorem wi_X0_findPart : Cond.instanceMethod yX0_findPart ∈ tc_tb := tc_tb3 93 (by decide +kernel) (by decide +kernel)
theorem wl_X0_findPart : Cond.selects RX0 yX0_findPart yX0_findPart ∈ tc_tb := tc_tb3 94 (by decide +kernel) (by decide +kernel)
theorem wc_X0_findPart : Cond.code yX0_findPart cX0_findPart 9 none ∈ tc_tb := tc_tb3 95 (by decide +kernel) (by decide +kernel)
theorem wi_X0_findJoinLoss : Cond.instanceMethod yX0_findJoinLoss ∈ tc_tb := tc_tb3 125 (by decide +kernel) (by decide +kernel)
theorem wl_X0_findJoinLoss : Cond.selects RX0 yX0_findJoinLoss yX0_findJoinLoss ∈ tc_tb := tc_tb3 126 (by decide +kernel) (by decide +kernel)
theorem wc_X0_findJoinLoss : Cond.code yX0_findJoinLoss cX0_findJoinLoss 8 none ∈ tc_tb := tc_tb3 127 (by decide +kernel) (by decide +kernel)
theorem wf_RX9_15 : Cond.fieldLink RX9 15 "ToldChances$Tape" "length" "I" ∈ tc_tb := tc_tb1 54 (by decide +kernel) (by decide +kernel)
theorem wf_RX9_9 : Cond.fieldLink RX9 9 "ToldChances$Tape" "codes" "[I" ∈ tc_tb := tc_tb1 53 (by decide +kernel) (by decide +kernel)
theorem wi_X9_codeAt : Cond.instanceMethod yX9_codeAt ∈ tc_tb := tc_tb2 113 (by decide +kernel) (by decide +kernel)
theorem wl_X9_codeAt : Cond.selects RX9 yX9_codeAt yX9_codeAt ∈ tc_tb := tc_tb2 114 (by decide +kernel) (by decide +kernel)
theorem wn_RX9 : Cond.initialized RX9 ∈ tc_tb := tc_tb1 3 (by decide +kernel) (by decide +kernel)
theorem wc_X9_codeAt : Cond.code yX9_codeAt cX9_codeAt 2 (some .int) ∈ tc_tb := tc_tb2 115 (by decide +kernel) (by decide +kernel)
theorem wm_RX9_32 : Cond.methodLink RX9 32 yJ0_charAt_5068e ∈ tc_tb := tc_tb2 116 (by decide +kernel) (by decide +kernel)
theorem wm_RX9_28 : Cond.methodLink RX9 28 yX9_codeAt ∈ tc_tb := tc_tb2 112 (by decide +kernel) (by decide +kernel)
theorem wm_RX9_19 : Cond.methodLink RX9 19 yJ0_length_8abf5 ∈ tc_tb := tc_tb2 102 (by decide +kernel) (by decide +kernel)
theorem wi_X9_sharedWith : Cond.instanceMethod yX9_sharedWith ∈ tc_tb := tc_tb2 99 (by decide +kernel) (by decide +kernel)
theorem wl_X9_sharedWith : Cond.selects RX9 yX9_sharedWith yX9_sharedWith ∈ tc_tb := tc_tb2 100 (by decide +kernel) (by decide +kernel)
theorem wc_X9_sharedWith : Cond.code yX9_sharedWith cX9_sharedWith 3 (some .int) ∈ tc_tb := tc_tb2 101 (by decide +kernel) (by decide +kernel)
theorem wf_RX5_9 : Cond.fieldLink RX5 9 "ToldChances$LineReader" "numbers" "[I" ∈ tc_tb := tc_tb1 68 (by decide +kernel) (by decide +kernel)
theorem wf_RX5_19 : Cond.fieldLink RX5 19 "ToldChances$LineReader" "place" "I" ∈ tc_tb := tc_tb1 72 (by decide +kernel) (by decide +kernel)
theorem wm_RX5_43 : Cond.methodLink RX5 43 yX9_codeAt ∈ tc_tb := tc_tb2 155 (by decide +kernel) (by decide +kernel)
theorem wi_X5_readNumber : Cond.instanceMethod yX5_readNumber ∈ tc_tb := tc_tb2 162 (by decide +kernel) (by decide +kernel)
theorem wl_X5_readNumber : Cond.selects RX5 yX5_readNumber yX5_readNumber ∈ tc_tb := tc_tbS 1 (by decide +kernel) (by decide +kernel)
theorem wn_RX5 : Cond.initialized RX5 ∈ tc_tb := tc_tb1 4 (by decide +kernel) (by decide +kernel)
theorem wc_X5_readNumber : Cond.code yX5_readNumber cX5_readNumber 7 (some .boolean) ∈ tc_tb := tc_tb2 163 (by decide +kernel) (by decide +kernel)
theorem wf_RX5_15 : Cond.fieldLink RX5 15 "ToldChances$LineReader" "whole" "Z" ∈ tc_tb := tc_tb1 70 (by decide +kernel) (by decide +kernel)
theorem wf_RX5_54 : Cond.fieldLink RX5 54 "ToldChances$Tape" "length" "I" ∈ tc_tb := tc_tb1 55 (by decide +kernel) (by decide +kernel)
theorem wm_RX5_50 : Cond.methodLink RX5 50 yX5_readNumber ∈ tc_tb := tc_tb2 160 (by decide +kernel) (by decide +kernel)
theorem wm_RX5_47 : Cond.methodLink RX5 47 yX3_greatest ∈ tc_tb := tc_tb2 156 (by decide +kernel) (by decide +kernel)
theorem wf_RX5_41 : Cond.fieldLink RX5 41 "ToldChances$Command" "numbers" "I" ∈ tc_tb := tc_tb5 156 (by decide +kernel) (by decide +kernel)
theorem wf_RX5_23 : Cond.fieldLink RX5 23 "ToldChances$Command" "word" "Ljava/lang/String;" ∈ tc_tb := tc_tb5 153 (by decide +kernel) (by decide +kernel)
theorem wm_RX5_35 : Cond.methodLink RX5 35 yJ0_length_8abf5 ∈ tc_tb := tc_tb2 154 (by decide +kernel) (by decide +kernel)
theorem wm_RX5_29 : Cond.methodLink RX5 29 yX9_sharedWith ∈ tc_tb := tc_tb2 98 (by decide +kernel) (by decide +kernel)
theorem wi_X5_reach : Cond.instanceMethod yX5_reach ∈ tc_tb := tc_tb2 95 (by decide +kernel) (by decide +kernel)
theorem wl_X5_reach : Cond.selects RX5 yX5_reach yX5_reach ∈ tc_tb := tc_tb2 96 (by decide +kernel) (by decide +kernel)
theorem wc_X5_reach : Cond.code yX5_reach cX5_reach 4 (some .int) ∈ tc_tb := tc_tb2 97 (by decide +kernel) (by decide +kernel)
theorem wf_RX6_15 : Cond.fieldLink RX6 15 "ToldChances$Paper" "length" "I" ∈ tc_tb := tc_tb1 195 (by decide +kernel) (by decide +kernel)
theorem wi_X6_clear : Cond.instanceMethod yX6_clear ∈ tc_tb := tc_tb3 208 (by decide +kernel) (by decide +kernel)
theorem wl_X6_clear : Cond.selects RX6 yX6_clear yX6_clear ∈ tc_tb := tc_tb3 209 (by decide +kernel) (by decide +kernel)
theorem wn_RX6 : Cond.initialized RX6 ∈ tc_tb := tc_tb1 9 (by decide +kernel) (by decide +kernel)
theorem wc_X6_clear : Cond.code yX6_clear cX6_clear 1 none ∈ tc_tb := tc_tb3 210 (by decide +kernel) (by decide +kernel)
theorem wf_RX6_9 : Cond.fieldLink RX6 9 "ToldChances$Paper" "signs" "[I" ∈ tc_tb := tc_tb1 193 (by decide +kernel) (by decide +kernel)
theorem wi_X6_put : Cond.instanceMethod yX6_put ∈ tc_tb := tc_tb3 212 (by decide +kernel) (by decide +kernel)
theorem wl_X6_put : Cond.selects RX6 yX6_put yX6_put ∈ tc_tb := tc_tb3 213 (by decide +kernel) (by decide +kernel)
theorem wc_X6_put : Cond.code yX6_put cX6_put 2 none ∈ tc_tb := tc_tb3 214 (by decide +kernel) (by decide +kernel)
theorem wm_RX6_28 : Cond.methodLink RX6 28 yX6_put ∈ tc_tb := tc_tb3 221 (by decide +kernel) (by decide +kernel)
theorem wm_RX6_24 : Cond.methodLink RX6 24 yJ0_charAt_5068e ∈ tc_tb := tc_tb3 220 (by decide +kernel) (by decide +kernel)
theorem wm_RX6_19 : Cond.methodLink RX6 19 yJ0_length_8abf5 ∈ tc_tb := tc_tb3 219 (by decide +kernel) (by decide +kernel)
theorem wi_X6_putWord : Cond.instanceMethod yX6_putWord ∈ tc_tb := tc_tb3 216 (by decide +kernel) (by decide +kernel)
theorem wl_X6_putWord : Cond.selects RX6 yX6_putWord yX6_putWord ∈ tc_tb := tc_tb3 217 (by decide +kernel) (by decide +kernel)
theorem wc_X6_putWord : Cond.code yX6_putWord cX6_putWord 3 none ∈ tc_tb := tc_tb3 218 (by decide +kernel) (by decide +kernel)
theorem wj_RX6_32 : Cond.constantLong RX6 32 (10) ∈ tc_tb := tc_tb3 226 (by decide +kernel) (by decide +kernel)
theorem wi_X6_putNumber : Cond.instanceMethod yX6_putNumber ∈ tc_tb := tc_tb3 223 (by decide +kernel) (by decide +kernel)
theorem wl_X6_putNumber : Cond.selects RX6 yX6_putNumber yX6_putNumber ∈ tc_tb := tc_tb3 224 (by decide +kernel) (by decide +kernel)
theorem wc_X6_putNumber : Cond.code yX6_putNumber cX6_putNumber 6 none ∈ tc_tb := tc_tb3 225 (by decide +kernel) (by decide +kernel)
theorem wf_RX7_42 : Cond.fieldLink RX7 42 "ToldChances$Cases" "count" "I" ∈ tc_tb := tc_tb1 95 (by decide +kernel) (by decide +kernel)
theorem wf_RX7_45 : Cond.fieldLink RX7 45 "ToldChances$Cases" "chances" "[I" ∈ tc_tb := tc_tb1 87 (by decide +kernel) (by decide +kernel)
theorem wf_RX7_9 : Cond.fieldLink RX7 9 "ToldChances$PoolRow" "countsByChance" "[I" ∈ tc_tb := tc_tb1 149 (by decide +kernel) (by decide +kernel)
theorem wf_RX7_48 : Cond.fieldLink RX7 48 "ToldChances$Cases" "isYes" "[Z" ∈ tc_tb := tc_tb1 91 (by decide +kernel) (by decide +kernel)
theorem wf_RX7_15 : Cond.fieldLink RX7 15 "ToldChances$PoolRow" "yesesByChance" "[I" ∈ tc_tb := tc_tb1 150 (by decide +kernel) (by decide +kernel)
theorem wi_X7_sortByChance : Cond.instanceMethod yX7_sortByChance ∈ tc_tb := tc_tb3 150 (by decide +kernel) (by decide +kernel)
theorem wl_X7_sortByChance : Cond.selects RX7 yX7_sortByChance yX7_sortByChance ∈ tc_tb := tc_tbS 13 (by decide +kernel) (by decide +kernel)
theorem wn_RX7 : Cond.initialized RX7 ∈ tc_tb := tc_tb1 7 (by decide +kernel) (by decide +kernel)
theorem wc_X7_sortByChance : Cond.code yX7_sortByChance cX7_sortByChance 4 none ∈ tc_tb := tc_tb3 151 (by decide +kernel) (by decide +kernel)
theorem wf_RX7_27 : Cond.fieldLink RX7 27 "ToldChances$PoolRow" "yeses" "[I" ∈ tc_tb := tc_tb1 154 (by decide +kernel) (by decide +kernel)
theorem wf_RX7_24 : Cond.fieldLink RX7 24 "ToldChances$PoolRow" "counts" "[I" ∈ tc_tb := tc_tb1 153 (by decide +kernel) (by decide +kernel)
theorem wi_X7_isShareGreater : Cond.instanceMethod yX7_isShareGreater ∈ tc_tb := tc_tb3 158 (by decide +kernel) (by decide +kernel)
theorem wl_X7_isShareGreater : Cond.selects RX7 yX7_isShareGreater yX7_isShareGreater ∈ tc_tb := tc_tbS 15 (by decide +kernel) (by decide +kernel)
theorem wc_X7_isShareGreater : Cond.code yX7_isShareGreater cX7_isShareGreater 2 (some .boolean) ∈ tc_tb := tc_tb3 159 (by decide +kernel) (by decide +kernel)
theorem wf_RX7_21 : Cond.fieldLink RX7 21 "ToldChances$PoolRow" "greatest" "[I" ∈ tc_tb := tc_tb1 152 (by decide +kernel) (by decide +kernel)
theorem wf_RX7_30 : Cond.fieldLink RX7 30 "ToldChances$PoolRow" "count" "I" ∈ tc_tb := tc_tb1 155 (by decide +kernel) (by decide +kernel)
theorem wi_X7_mergeDown : Cond.instanceMethod yX7_mergeDown ∈ tc_tb := tc_tb3 162 (by decide +kernel) (by decide +kernel)
theorem wl_X7_mergeDown : Cond.selects RX7 yX7_mergeDown yX7_mergeDown ∈ tc_tb := tc_tbS 16 (by decide +kernel) (by decide +kernel)
theorem wc_X7_mergeDown : Cond.code yX7_mergeDown cX7_mergeDown 2 none ∈ tc_tb := tc_tb3 163 (by decide +kernel) (by decide +kernel)
theorem wm_RX7_56 : Cond.methodLink RX7 56 yX7_mergeDown ∈ tc_tb := tc_tb3 160 (by decide +kernel) (by decide +kernel)
theorem wm_RX7_52 : Cond.methodLink RX7 52 yX7_isShareGreater ∈ tc_tb := tc_tb3 156 (by decide +kernel) (by decide +kernel)
theorem wf_RX7_18 : Cond.fieldLink RX7 18 "ToldChances$PoolRow" "least" "[I" ∈ tc_tb := tc_tb1 151 (by decide +kernel) (by decide +kernel)
theorem wi_X7_addPool : Cond.instanceMethod yX7_addPool ∈ tc_tb := tc_tb3 154 (by decide +kernel) (by decide +kernel)
theorem wl_X7_addPool : Cond.selects RX7 yX7_addPool yX7_addPool ∈ tc_tb := tc_tbS 14 (by decide +kernel) (by decide +kernel)
theorem wc_X7_addPool : Cond.code yX7_addPool cX7_addPool 3 none ∈ tc_tb := tc_tb3 155 (by decide +kernel) (by decide +kernel)
theorem wm_RX7_38 : Cond.methodLink RX7 38 yX7_addPool ∈ tc_tb := tc_tb3 152 (by decide +kernel) (by decide +kernel)
theorem wm_RX7_34 : Cond.methodLink RX7 34 yX7_sortByChance ∈ tc_tb := tc_tb3 148 (by decide +kernel) (by decide +kernel)
theorem wi_X7_fill : Cond.instanceMethod yX7_fill ∈ tc_tb := tc_tb3 145 (by decide +kernel) (by decide +kernel)
theorem wl_X7_fill : Cond.selects RX7 yX7_fill yX7_fill ∈ tc_tb := tc_tb3 146 (by decide +kernel) (by decide +kernel)
theorem wc_X7_fill : Cond.code yX7_fill cX7_fill 3 none ∈ tc_tb := tc_tb3 147 (by decide +kernel) (by decide +kernel)
theorem wi_X7_tellOf : Cond.instanceMethod yX7_tellOf ∈ tc_tb := tc_tb3 169 (by decide +kernel) (by decide +kernel)
theorem wl_X7_tellOf : Cond.selects RX7 yX7_tellOf yX7_tellOf ∈ tc_tb := tc_tb3 170 (by decide +kernel) (by decide +kernel)
theorem wc_X7_tellOf : Cond.code yX7_tellOf cX7_tellOf 3 (some .int) ∈ tc_tb := tc_tb3 171 (by decide +kernel) (by decide +kernel)
theorem wm_RX7_68 : Cond.methodLink RX7 68 yX4_divideBy ∈ tc_tb := tc_tb3 182 (by decide +kernel) (by decide +kernel)
theorem wm_RX7_65 : Cond.methodLink RX7 65 yX4_add ∈ tc_tb := tc_tb3 181 (by decide +kernel) (by decide +kernel)
theorem wm_RX7_59 : Cond.methodLink RX7 59 yX4_become ∈ tc_tb := tc_tb3 180 (by decide +kernel) (by decide +kernel)
theorem wi_X7_findFlat : Cond.instanceMethod yX7_findFlat ∈ tc_tb := tc_tb3 177 (by decide +kernel) (by decide +kernel)
theorem wl_X7_findFlat : Cond.selects RX7 yX7_findFlat yX7_findFlat ∈ tc_tb := tc_tb3 178 (by decide +kernel) (by decide +kernel)
theorem wc_X7_findFlat : Cond.code yX7_findFlat cX7_findFlat 4 none ∈ tc_tb := tc_tb3 179 (by decide +kernel) (by decide +kernel)
theorem wi_X9_put : Cond.instanceMethod yX9_put ∈ tc_tb := tc_tb2 77 (by decide +kernel) (by decide +kernel)
theorem wl_X9_put : Cond.selects RX9 yX9_put yX9_put ∈ tc_tb := tc_tb2 78 (by decide +kernel) (by decide +kernel)
theorem wc_X9_put : Cond.code yX9_put cX9_put 2 (some .boolean) ∈ tc_tb := tc_tb2 79 (by decide +kernel) (by decide +kernel)
theorem wi_X9_clear : Cond.instanceMethod yX9_clear ∈ tc_tb := tc_tb2 85 (by decide +kernel) (by decide +kernel)
theorem wl_X9_clear : Cond.selects RX9 yX9_clear yX9_clear ∈ tc_tb := tc_tb2 86 (by decide +kernel) (by decide +kernel)
theorem wc_X9_clear : Cond.code yX9_clear cX9_clear 2 (some .int) ∈ tc_tb := tc_tb2 87 (by decide +kernel) (by decide +kernel)
theorem wm_RX9_24 : Cond.methodLink RX9 24 yX9_sharedWith ∈ tc_tb := tc_tb2 197 (by decide +kernel) (by decide +kernel)
theorem wi_X9_spells : Cond.instanceMethod yX9_spells ∈ tc_tb := tc_tb2 194 (by decide +kernel) (by decide +kernel)
theorem wl_X9_spells : Cond.selects RX9 yX9_spells yX9_spells ∈ tc_tb := tc_tb2 195 (by decide +kernel) (by decide +kernel)
theorem wc_X9_spells : Cond.code yX9_spells cX9_spells 2 (some .boolean) ∈ tc_tb := tc_tb2 196 (by decide +kernel) (by decide +kernel)
theorem ws_X10_isPlainTeller : Cond.static yX10_isPlainTeller ∈ tc_tb := tc_tb2 13 (by decide +kernel) (by decide +kernel)
theorem wn_RX10 : Cond.initialized RX10 ∈ tc_tb := tc_tb1 1 (by decide +kernel) (by decide +kernel)
theorem wc_X10_isPlainTeller : Cond.code yX10_isPlainTeller cX10_isPlainTeller 1 (some .boolean) ∈ tc_tb := tc_tb2 14 (by decide +kernel) (by decide +kernel)
theorem ws_X10_isEvent : Cond.static yX10_isEvent ∈ tc_tb := tc_tb2 16 (by decide +kernel) (by decide +kernel)
theorem wc_X10_isEvent : Cond.code yX10_isEvent cX10_isEvent 1 (some .boolean) ∈ tc_tb := tc_tb2 17 (by decide +kernel) (by decide +kernel)
theorem ws_X10_isChance : Cond.static yX10_isChance ∈ tc_tb := tc_tb2 19 (by decide +kernel) (by decide +kernel)
theorem wc_X10_isChance : Cond.code yX10_isChance cX10_isChance 1 (some .boolean) ∈ tc_tb := tc_tb2 20 (by decide +kernel) (by decide +kernel)
theorem wf_RX10_12 : Cond.fieldLink RX10 12 "ToldChances" "book" "LToldChances$Book;" ∈ tc_tb := tc_tb1 204 (by decide +kernel) (by decide +kernel)
theorem wm_RX10_103 : Cond.methodLink RX10 103 yX1_swapChance ∈ tc_tb := tc_tb2 21 (by decide +kernel) (by decide +kernel)
theorem wm_RX10_100 : Cond.methodLink RX10 100 yX10_isChance ∈ tc_tb := tc_tb2 18 (by decide +kernel) (by decide +kernel)
theorem wm_RX10_97 : Cond.methodLink RX10 97 yX10_isEvent ∈ tc_tb := tc_tb2 15 (by decide +kernel) (by decide +kernel)
theorem wm_RX10_93 : Cond.methodLink RX10 93 yX10_isPlainTeller ∈ tc_tb := tc_tb2 12 (by decide +kernel) (by decide +kernel)
theorem wi_X10_tell : Cond.instanceMethod yX10_tell ∈ tc_tb := tc_tb2 9 (by decide +kernel) (by decide +kernel)
theorem wl_X10_tell : Cond.selects RX10 yX10_tell yX10_tell ∈ tc_tb := tc_tb2 10 (by decide +kernel) (by decide +kernel)
theorem wc_X10_tell : Cond.code yX10_tell cX10_tell 4 (some .int) ∈ tc_tb := tc_tb2 11 (by decide +kernel) (by decide +kernel)
theorem wi_X10_drop : Cond.instanceMethod yX10_drop ∈ tc_tb := tc_tb2 26 (by decide +kernel) (by decide +kernel)
theorem wl_X10_drop : Cond.selects RX10 yX10_drop yX10_drop ∈ tc_tb := tc_tb2 27 (by decide +kernel) (by decide +kernel)
theorem wc_X10_drop : Cond.code yX10_drop cX10_drop 3 (some .int) ∈ tc_tb := tc_tb2 28 (by decide +kernel) (by decide +kernel)
theorem wm_RX10_107 : Cond.methodLink RX10 107 yX1_swapState ∈ tc_tb := tc_tb2 33 (by decide +kernel) (by decide +kernel)
theorem wi_X10_yes : Cond.instanceMethod yX10_yes ∈ tc_tb := tc_tb2 30 (by decide +kernel) (by decide +kernel)
theorem wl_X10_yes : Cond.selects RX10 yX10_yes yX10_yes ∈ tc_tb := tc_tb2 31 (by decide +kernel) (by decide +kernel)
theorem wc_X10_yes : Cond.code yX10_yes cX10_yes 2 (some .int) ∈ tc_tb := tc_tb2 32 (by decide +kernel) (by decide +kernel)
theorem wi_X10_no : Cond.instanceMethod yX10_no ∈ tc_tb := tc_tb2 38 (by decide +kernel) (by decide +kernel)
theorem wl_X10_no : Cond.selects RX10 yX10_no yX10_no ∈ tc_tb := tc_tb2 39 (by decide +kernel) (by decide +kernel)
theorem wc_X10_no : Cond.code yX10_no cX10_no 2 (some .int) ∈ tc_tb := tc_tb2 40 (by decide +kernel) (by decide +kernel)
theorem wi_X10_open : Cond.instanceMethod yX10_open ∈ tc_tb := tc_tb2 42 (by decide +kernel) (by decide +kernel)
theorem wl_X10_open : Cond.selects RX10 yX10_open yX10_open ∈ tc_tb := tc_tb2 43 (by decide +kernel) (by decide +kernel)
theorem wc_X10_open : Cond.code yX10_open cX10_open 2 (some .int) ∈ tc_tb := tc_tb2 44 (by decide +kernel) (by decide +kernel)
theorem wm_RX10_111 : Cond.methodLink RX10 111 yX1_swapWeight ∈ tc_tb := tc_tb2 49 (by decide +kernel) (by decide +kernel)
theorem wi_X10_weigh : Cond.instanceMethod yX10_weigh ∈ tc_tb := tc_tb2 46 (by decide +kernel) (by decide +kernel)
theorem wl_X10_weigh : Cond.selects RX10 yX10_weigh yX10_weigh ∈ tc_tb := tc_tb2 47 (by decide +kernel) (by decide +kernel)
theorem wc_X10_weigh : Cond.code yX10_weigh cX10_weigh 3 (some .int) ∈ tc_tb := tc_tb2 48 (by decide +kernel) (by decide +kernel)
theorem ws_X10_isTeller : Cond.static yX10_isTeller ∈ tc_tb := tc_tb2 58 (by decide +kernel) (by decide +kernel)
theorem wc_X10_isTeller : Cond.code yX10_isTeller cX10_isTeller 1 (some .boolean) ∈ tc_tb := tc_tb2 59 (by decide +kernel) (by decide +kernel)
theorem wm_RX10_117 : Cond.methodLink RX10 117 yX1_chanceOf ∈ tc_tb := tc_tb2 60 (by decide +kernel) (by decide +kernel)
theorem wm_RX10_114 : Cond.methodLink RX10 114 yX10_isTeller ∈ tc_tb := tc_tb2 57 (by decide +kernel) (by decide +kernel)
theorem wi_X10_told : Cond.instanceMethod yX10_told ∈ tc_tb := tc_tb2 54 (by decide +kernel) (by decide +kernel)
theorem wl_X10_told : Cond.selects RX10 yX10_told yX10_told ∈ tc_tb := tc_tb2 55 (by decide +kernel) (by decide +kernel)
theorem wc_X10_told : Cond.code yX10_told cX10_told 3 (some .int) ∈ tc_tb := tc_tb2 56 (by decide +kernel) (by decide +kernel)
theorem wf_RX10_120 : Cond.fieldLink RX10 120 "ToldChances$Book" "states" "[I" ∈ tc_tb := tc_tb1 38 (by decide +kernel) (by decide +kernel)
theorem wi_X10_came : Cond.instanceMethod yX10_came ∈ tc_tb := tc_tb2 69 (by decide +kernel) (by decide +kernel)
theorem wl_X10_came : Cond.selects RX10 yX10_came yX10_came ∈ tc_tb := tc_tb2 70 (by decide +kernel) (by decide +kernel)
theorem wc_X10_came : Cond.code yX10_came cX10_came 2 (some .int) ∈ tc_tb := tc_tb2 71 (by decide +kernel) (by decide +kernel)
theorem wf_RX10_21 : Cond.fieldLink RX10 21 "ToldChances" "tape" "LToldChances$Tape;" ∈ tc_tb := tc_tb1 205 (by decide +kernel) (by decide +kernel)
theorem wf_RX10_126 : Cond.fieldLink RX10 126 "ToldChances$Tape" "length" "I" ∈ tc_tb := tc_tb1 56 (by decide +kernel) (by decide +kernel)
theorem wm_RX10_123 : Cond.methodLink RX10 123 yX9_put ∈ tc_tb := tc_tb2 76 (by decide +kernel) (by decide +kernel)
theorem wi_X10_key : Cond.instanceMethod yX10_key ∈ tc_tb := tc_tb2 73 (by decide +kernel) (by decide +kernel)
theorem wl_X10_key : Cond.selects RX10 yX10_key yX10_key ∈ tc_tb := tc_tb2 74 (by decide +kernel) (by decide +kernel)
theorem wc_X10_key : Cond.code yX10_key cX10_key 2 (some .int) ∈ tc_tb := tc_tb2 75 (by decide +kernel) (by decide +kernel)
theorem wm_RX10_130 : Cond.methodLink RX10 130 yX9_clear ∈ tc_tb := tc_tb2 84 (by decide +kernel) (by decide +kernel)
theorem wi_X10_wipe : Cond.instanceMethod yX10_wipe ∈ tc_tb := tc_tb2 81 (by decide +kernel) (by decide +kernel)
theorem wl_X10_wipe : Cond.selects RX10 yX10_wipe yX10_wipe ∈ tc_tb := tc_tb2 82 (by decide +kernel) (by decide +kernel)
theorem wc_X10_wipe : Cond.code yX10_wipe cX10_wipe 1 (some .int) ∈ tc_tb := tc_tb2 83 (by decide +kernel) (by decide +kernel)
theorem wf_RX10_28 : Cond.fieldLink RX10 28 "ToldChances" "reader" "LToldChances$LineReader;" ∈ tc_tb := tc_tb1 206 (by decide +kernel) (by decide +kernel)
theorem wf_RX10_155 : Cond.fieldLink RX10 155 "ToldChances$LineReader" "numbers" "[I" ∈ tc_tb := tc_tb1 69 (by decide +kernel) (by decide +kernel)
theorem wf_RX10_158 : Cond.fieldLink RX10 158 "ToldChances$Command" "TELL" "LToldChances$Command;" ∈ tc_tb := tc_tb2 168 (by decide +kernel) (by decide +kernel)
theorem wf_RX10_167 : Cond.fieldLink RX10 167 "ToldChances$Command" "DROP" "LToldChances$Command;" ∈ tc_tb := tc_tb2 171 (by decide +kernel) (by decide +kernel)
theorem wf_RX10_173 : Cond.fieldLink RX10 173 "ToldChances$Command" "YES" "LToldChances$Command;" ∈ tc_tb := tc_tb2 174 (by decide +kernel) (by decide +kernel)
theorem wf_RX10_180 : Cond.fieldLink RX10 180 "ToldChances$Command" "NO" "LToldChances$Command;" ∈ tc_tb := tc_tb2 177 (by decide +kernel) (by decide +kernel)
theorem wf_RX10_186 : Cond.fieldLink RX10 186 "ToldChances$Command" "OPEN" "LToldChances$Command;" ∈ tc_tb := tc_tb2 180 (by decide +kernel) (by decide +kernel)
theorem wm_RX10_192 : Cond.methodLink RX10 192 yX10_weigh ∈ tc_tb := tc_tb2 183 (by decide +kernel) (by decide +kernel)
theorem wm_RX10_189 : Cond.methodLink RX10 189 yX10_open ∈ tc_tb := tc_tb2 182 (by decide +kernel) (by decide +kernel)
theorem wm_RX10_183 : Cond.methodLink RX10 183 yX10_no ∈ tc_tb := tc_tb2 179 (by decide +kernel) (by decide +kernel)
theorem wm_RX10_176 : Cond.methodLink RX10 176 yX10_yes ∈ tc_tb := tc_tb2 176 (by decide +kernel) (by decide +kernel)
theorem wm_RX10_170 : Cond.methodLink RX10 170 yX10_drop ∈ tc_tb := tc_tb2 173 (by decide +kernel) (by decide +kernel)
theorem wm_RX10_164 : Cond.methodLink RX10 164 yX10_tell ∈ tc_tb := tc_tb2 170 (by decide +kernel) (by decide +kernel)
theorem wi_X10_perform : Cond.instanceMethod yX10_perform ∈ tc_tb := tc_tb2 166 (by decide +kernel) (by decide +kernel)
theorem wl_X10_perform : Cond.selects RX10 yX10_perform yX10_perform ∈ tc_tb := tc_tbS 2 (by decide +kernel) (by decide +kernel)
theorem wc_X10_perform : Cond.code yX10_perform cX10_perform 3 (some .int) ∈ tc_tb := tc_tb2 167 (by decide +kernel) (by decide +kernel)
theorem wf_RX10_134 : Cond.fieldLink RX10 134 "ToldChances" "COMMANDS" "[LToldChances$Command;" ∈ tc_tb := tc_tb2 92 (by decide +kernel) (by decide +kernel)
theorem wm_RX10_146 : Cond.methodLink RX10 146 yX10_perform ∈ tc_tb := tc_tb2 164 (by decide +kernel) (by decide +kernel)
theorem wf_RX10_142 : Cond.fieldLink RX10 142 "ToldChances$LineReader" "whole" "Z" ∈ tc_tb := tc_tb1 71 (by decide +kernel) (by decide +kernel)
theorem wm_RX10_150 : Cond.methodLink RX10 150 Lib.Math.max.name ∈ tc_tb := tc_tb2 184 (by decide +kernel) (by decide +kernel)
theorem wm_RX10_138 : Cond.methodLink RX10 138 yX5_reach ∈ tc_tb := tc_tb2 94 (by decide +kernel) (by decide +kernel)
theorem wi_X10_line : Cond.instanceMethod yX10_line ∈ tc_tb := tc_tb2 89 (by decide +kernel) (by decide +kernel)
theorem wl_X10_line : Cond.selects RX10 yX10_line yX10_line ∈ tc_tb := tc_tb2 90 (by decide +kernel) (by decide +kernel)
theorem wc_X10_line : Cond.code yX10_line cX10_line 4 (some .int) ∈ tc_tb := tc_tb2 91 (by decide +kernel) (by decide +kernel)
theorem wf_RX10_90 : Cond.fieldLink RX10 90 "ToldChances" "current" "LToldChances$Rule;" ∈ tc_tb := tc_tb1 217 (by decide +kernel) (by decide +kernel)
theorem wf_RX10_207 : Cond.fieldLink RX10 207 "ToldChances$Rule" "number" "I" ∈ tc_tb := tc_tb5 161 (by decide +kernel) (by decide +kernel)
theorem wf_RX10_195 : Cond.fieldLink RX10 195 "ToldChances" "RULES" "[LToldChances$Rule;" ∈ tc_tb := tc_tb2 191 (by decide +kernel) (by decide +kernel)
theorem wf_RX10_199 : Cond.fieldLink RX10 199 "ToldChances$Rule" "word" "Ljava/lang/String;" ∈ tc_tb := tc_tb5 160 (by decide +kernel) (by decide +kernel)
theorem wm_RX10_203 : Cond.methodLink RX10 203 yX9_spells ∈ tc_tb := tc_tb2 193 (by decide +kernel) (by decide +kernel)
theorem wi_X10_rule : Cond.instanceMethod yX10_rule ∈ tc_tb := tc_tb2 188 (by decide +kernel) (by decide +kernel)
theorem wl_X10_rule : Cond.selects RX10 yX10_rule yX10_rule ∈ tc_tb := tc_tb2 189 (by decide +kernel) (by decide +kernel)
theorem wc_X10_rule : Cond.code yX10_rule cX10_rule 2 (some .int) ∈ tc_tb := tc_tb2 190 (by decide +kernel) (by decide +kernel)
theorem wm_RX10_210 : Cond.methodLink RX10 210 yX8_missOf ∈ tc_tb := tc_tb2 202 (by decide +kernel) (by decide +kernel)
theorem wi_X10_miss : Cond.instanceMethod yX10_miss ∈ tc_tb := tc_tb2 199 (by decide +kernel) (by decide +kernel)
theorem wl_X10_miss : Cond.selects RX10 yX10_miss yX10_miss ∈ tc_tb := tc_tb2 200 (by decide +kernel) (by decide +kernel)
theorem wc_X10_miss : Cond.code yX10_miss cX10_miss 3 (some .int) ∈ tc_tb := tc_tb2 201 (by decide +kernel) (by decide +kernel)
theorem ws_X10_isWhich : Cond.static yX10_isWhich ∈ tc_tb := tc_tb2 216 (by decide +kernel) (by decide +kernel)
theorem wc_X10_isWhich : Cond.code yX10_isWhich cX10_isWhich 1 (some .boolean) ∈ tc_tb := tc_tb2 217 (by decide +kernel) (by decide +kernel)
theorem wf_RX10_35 : Cond.fieldLink RX10 35 "ToldChances" "cases" "LToldChances$Cases;" ∈ tc_tb := tc_tb1 207 (by decide +kernel) (by decide +kernel)
theorem wf_RX10_230 : Cond.fieldLink RX10 230 "ToldChances$Cases" "count" "I" ∈ tc_tb := tc_tb1 97 (by decide +kernel) (by decide +kernel)
theorem wm_RX10_246 : Cond.methodLink RX10 246 yX4_become ∈ tc_tb := tc_tb2 237 (by decide +kernel) (by decide +kernel)
theorem wf_RX10_56 : Cond.fieldLink RX10 56 "ToldChances" "result" "LToldChances$Fraction;" ∈ tc_tb := tc_tb1 210 (by decide +kernel) (by decide +kernel)
theorem wm_RX10_233 : Cond.methodLink RX10 233 yX2_missSum ∈ tc_tb := tc_tb2 232 (by decide +kernel) (by decide +kernel)
theorem wm_RX10_226 : Cond.methodLink RX10 226 yX2_gather ∈ tc_tb := tc_tb2 222 (by decide +kernel) (by decide +kernel)
theorem wi_X10_findMeanMiss : Cond.instanceMethod yX10_findMeanMiss ∈ tc_tb := tc_tb2 220 (by decide +kernel) (by decide +kernel)
theorem wl_X10_findMeanMiss : Cond.selects RX10 yX10_findMeanMiss yX10_findMeanMiss ∈ tc_tb := tc_tbS 3 (by decide +kernel) (by decide +kernel)
theorem wc_X10_findMeanMiss : Cond.code yX10_findMeanMiss cX10_findMeanMiss 2 (some .boolean) ∈ tc_tb := tc_tb2 221 (by decide +kernel) (by decide +kernel)
theorem wm_RX10_222 : Cond.methodLink RX10 222 yX4_pick ∈ tc_tb := tc_tb3 8 (by decide +kernel) (by decide +kernel)
theorem wj_RX10_220 : Cond.constantLong RX10 220 (-9223372036854775808) ∈ tc_tb := tc_tb3 7 (by decide +kernel) (by decide +kernel)
theorem wm_RX10_217 : Cond.methodLink RX10 217 yX10_findMeanMiss ∈ tc_tb := tc_tb2 218 (by decide +kernel) (by decide +kernel)
theorem wm_RX10_214 : Cond.methodLink RX10 214 yX10_isWhich ∈ tc_tb := tc_tb2 215 (by decide +kernel) (by decide +kernel)
theorem wi_X10_score : Cond.instanceMethod yX10_score ∈ tc_tb := tc_tb2 212 (by decide +kernel) (by decide +kernel)
theorem wl_X10_score : Cond.selects RX10 yX10_score yX10_score ∈ tc_tb := tc_tb2 213 (by decide +kernel) (by decide +kernel)
theorem wc_X10_score : Cond.code yX10_score cX10_score 3 (some .long) ∈ tc_tb := tc_tb2 214 (by decide +kernel) (by decide +kernel)
theorem wf_RX10_74 : Cond.fieldLink RX10 74 "ToldChances" "caseCounts" "[I" ∈ tc_tb := tc_tb1 214 (by decide +kernel) (by decide +kernel)
theorem wf_RX10_70 : Cond.fieldLink RX10 70 "ToldChances" "missSums" "[J" ∈ tc_tb := tc_tb1 213 (by decide +kernel) (by decide +kernel)
theorem wi_X10_tellersAheadOf : Cond.instanceMethod yX10_tellersAheadOf ∈ tc_tb := tc_tb3 18 (by decide +kernel) (by decide +kernel)
theorem wl_X10_tellersAheadOf : Cond.selects RX10 yX10_tellersAheadOf yX10_tellersAheadOf ∈ tc_tb := tc_tbS 4 (by decide +kernel) (by decide +kernel)
theorem wc_X10_tellersAheadOf : Cond.code yX10_tellersAheadOf cX10_tellersAheadOf 8 (some .int) ∈ tc_tb := tc_tb3 19 (by decide +kernel) (by decide +kernel)
theorem wm_RX10_237 : Cond.methodLink RX10 237 yX10_tellersAheadOf ∈ tc_tb := tc_tb3 16 (by decide +kernel) (by decide +kernel)
theorem wi_X10_rank : Cond.instanceMethod yX10_rank ∈ tc_tb := tc_tb3 13 (by decide +kernel) (by decide +kernel)
theorem wl_X10_rank : Cond.selects RX10 yX10_rank yX10_rank ∈ tc_tb := tc_tb3 14 (by decide +kernel) (by decide +kernel)
theorem wc_X10_rank : Cond.code yX10_rank cX10_rank 3 (some .int) ∈ tc_tb := tc_tb3 15 (by decide +kernel) (by decide +kernel)
theorem wi_X10_believedMiss : Cond.instanceMethod yX10_believedMiss ∈ tc_tb := tc_tb3 30 (by decide +kernel) (by decide +kernel)
theorem wl_X10_believedMiss : Cond.selects RX10 yX10_believedMiss yX10_believedMiss ∈ tc_tb := tc_tbS 6 (by decide +kernel) (by decide +kernel)
theorem wc_X10_believedMiss : Cond.code yX10_believedMiss cX10_believedMiss 3 (some .int) ∈ tc_tb := tc_tb3 31 (by decide +kernel) (by decide +kernel)
theorem wm_RX10_250 : Cond.methodLink RX10 250 yX10_believedMiss ∈ tc_tb := tc_tb3 28 (by decide +kernel) (by decide +kernel)
theorem wi_X10_leastBest : Cond.instanceMethod yX10_leastBest ∈ tc_tb := tc_tb3 26 (by decide +kernel) (by decide +kernel)
theorem wl_X10_leastBest : Cond.selects RX10 yX10_leastBest yX10_leastBest ∈ tc_tb := tc_tbS 5 (by decide +kernel) (by decide +kernel)
theorem wc_X10_leastBest : Cond.code yX10_leastBest cX10_leastBest 6 (some .int) ∈ tc_tb := tc_tb3 27 (by decide +kernel) (by decide +kernel)
theorem wm_RX10_240 : Cond.methodLink RX10 240 yX10_leastBest ∈ tc_tb := tc_tb3 24 (by decide +kernel) (by decide +kernel)
theorem wi_X10_lure : Cond.instanceMethod yX10_lure ∈ tc_tb := tc_tb3 21 (by decide +kernel) (by decide +kernel)
theorem wl_X10_lure : Cond.selects RX10 yX10_lure yX10_lure ∈ tc_tb := tc_tb3 22 (by decide +kernel) (by decide +kernel)
theorem wc_X10_lure : Cond.code yX10_lure cX10_lure 2 (some .int) ∈ tc_tb := tc_tb3 23 (by decide +kernel) (by decide +kernel)
theorem wi_X10_countHonest : Cond.instanceMethod yX10_countHonest ∈ tc_tb := tc_tb3 38 (by decide +kernel) (by decide +kernel)
theorem wl_X10_countHonest : Cond.selects RX10 yX10_countHonest yX10_countHonest ∈ tc_tb := tc_tbS 7 (by decide +kernel) (by decide +kernel)
theorem wc_X10_countHonest : Cond.code yX10_countHonest cX10_countHonest 3 (some .int) ∈ tc_tb := tc_tb3 39 (by decide +kernel) (by decide +kernel)
theorem wf_RX10_81 : Cond.fieldLink RX10 81 "ToldChances" "honestCounts" "[I" ∈ tc_tb := tc_tb1 216 (by decide +kernel) (by decide +kernel)
theorem wm_RX10_243 : Cond.methodLink RX10 243 yX10_countHonest ∈ tc_tb := tc_tb3 36 (by decide +kernel) (by decide +kernel)
theorem wi_X10_honest : Cond.instanceMethod yX10_honest ∈ tc_tb := tc_tb3 33 (by decide +kernel) (by decide +kernel)
theorem wl_X10_honest : Cond.selects RX10 yX10_honest yX10_honest ∈ tc_tb := tc_tb3 34 (by decide +kernel) (by decide +kernel)
theorem wc_X10_honest : Cond.code yX10_honest cX10_honest 1 (some .int) ∈ tc_tb := tc_tb3 35 (by decide +kernel) (by decide +kernel)
theorem wf_RX10_42 : Cond.fieldLink RX10 42 "ToldChances" "bins" "LToldChances$Bins;" ∈ tc_tb := tc_tb1 208 (by decide +kernel) (by decide +kernel)
theorem wf_RX10_256 : Cond.fieldLink RX10 256 "ToldChances$Bins" "cutCount" "I" ∈ tc_tb := tc_tb1 119 (by decide +kernel) (by decide +kernel)
theorem wm_RX10_253 : Cond.methodLink RX10 253 yX0_flipCut ∈ tc_tb := tc_tb3 44 (by decide +kernel) (by decide +kernel)
theorem wi_X10_cut : Cond.instanceMethod yX10_cut ∈ tc_tb := tc_tb3 41 (by decide +kernel) (by decide +kernel)
theorem wl_X10_cut : Cond.selects RX10 yX10_cut yX10_cut ∈ tc_tb := tc_tb3 42 (by decide +kernel) (by decide +kernel)
theorem wc_X10_cut : Cond.code yX10_cut cX10_cut 2 (some .int) ∈ tc_tb := tc_tb3 43 (by decide +kernel) (by decide +kernel)
theorem wf_RX10_278 : Cond.fieldLink RX10 278 "ToldChances$Bins" "sums" "[I" ∈ tc_tb := tc_tb1 125 (by decide +kernel) (by decide +kernel)
theorem wf_RX10_275 : Cond.fieldLink RX10 275 "ToldChances$Bins" "yeses" "[I" ∈ tc_tb := tc_tb1 123 (by decide +kernel) (by decide +kernel)
theorem wf_RX10_272 : Cond.fieldLink RX10 272 "ToldChances$Bins" "counts" "[I" ∈ tc_tb := tc_tb1 121 (by decide +kernel) (by decide +kernel)
theorem wm_RX10_268 : Cond.methodLink RX10 268 yX0_sortIn ∈ tc_tb := tc_tb3 76 (by decide +kernel) (by decide +kernel)
theorem wm_RX10_265 : Cond.methodLink RX10 265 yX0_greatestOf ∈ tc_tb := tc_tb3 72 (by decide +kernel) (by decide +kernel)
theorem wm_RX10_262 : Cond.methodLink RX10 262 yX0_leastOf ∈ tc_tb := tc_tb3 68 (by decide +kernel) (by decide +kernel)
theorem wm_RX10_259 : Cond.methodLink RX10 259 yX0_hasBin ∈ tc_tb := tc_tb3 64 (by decide +kernel) (by decide +kernel)
theorem wi_X10_bin : Cond.instanceMethod yX10_bin ∈ tc_tb := tc_tb3 61 (by decide +kernel) (by decide +kernel)
theorem wl_X10_bin : Cond.selects RX10 yX10_bin yX10_bin ∈ tc_tb := tc_tb3 62 (by decide +kernel) (by decide +kernel)
theorem wc_X10_bin : Cond.code yX10_bin cX10_bin 4 (some .int) ∈ tc_tb := tc_tb3 63 (by decide +kernel) (by decide +kernel)
theorem wi_X10_sortCases : Cond.instanceMethod yX10_sortCases ∈ tc_tb := tc_tb3 86 (by decide +kernel) (by decide +kernel)
theorem wl_X10_sortCases : Cond.selects RX10 yX10_sortCases yX10_sortCases ∈ tc_tb := tc_tbS 10 (by decide +kernel) (by decide +kernel)
theorem wc_X10_sortCases : Cond.code yX10_sortCases cX10_sortCases 2 (some .boolean) ∈ tc_tb := tc_tb3 87 (by decide +kernel) (by decide +kernel)
theorem wf_RX10_60 : Cond.fieldLink RX10 60 "ToldChances" "addend" "LToldChances$Fraction;" ∈ tc_tb := tc_tb1 211 (by decide +kernel) (by decide +kernel)
theorem wf_RX10_326 : Cond.fieldLink RX10 326 "ToldChances$Fraction" "lower" "J" ∈ tc_tb := tc_tb1 181 (by decide +kernel) (by decide +kernel)
theorem wm_RX10_329 : Cond.methodLink RX10 329 yX4_add ∈ tc_tb := tc_tb3 119 (by decide +kernel) (by decide +kernel)
theorem wf_RX10_322 : Cond.fieldLink RX10 322 "ToldChances$Fraction" "upper" "J" ∈ tc_tb := tc_tb1 179 (by decide +kernel) (by decide +kernel)
theorem wm_RX10_287 : Cond.methodLink RX10 287 yX0_findPart ∈ tc_tb := tc_tb3 92 (by decide +kernel) (by decide +kernel)
theorem wi_X10_joinParts : Cond.instanceMethod yX10_joinParts ∈ tc_tb := tc_tb3 90 (by decide +kernel) (by decide +kernel)
theorem wl_X10_joinParts : Cond.selects RX10 yX10_joinParts yX10_joinParts ∈ tc_tb := tc_tbS 11 (by decide +kernel) (by decide +kernel)
theorem wc_X10_joinParts : Cond.code yX10_joinParts cX10_joinParts 3 none ∈ tc_tb := tc_tb3 91 (by decide +kernel) (by decide +kernel)
theorem wm_RX10_284 : Cond.methodLink RX10 284 yX10_joinParts ∈ tc_tb := tc_tb3 88 (by decide +kernel) (by decide +kernel)
theorem wm_RX10_281 : Cond.methodLink RX10 281 yX10_sortCases ∈ tc_tb := tc_tb3 84 (by decide +kernel) (by decide +kernel)
theorem wi_X10_split : Cond.instanceMethod yX10_split ∈ tc_tb := tc_tb3 81 (by decide +kernel) (by decide +kernel)
theorem wl_X10_split : Cond.selects RX10 yX10_split yX10_split ∈ tc_tb := tc_tb3 82 (by decide +kernel) (by decide +kernel)
theorem wc_X10_split : Cond.code yX10_split cX10_split 4 (some .long) ∈ tc_tb := tc_tb3 83 (by decide +kernel) (by decide +kernel)
theorem wm_RX10_291 : Cond.methodLink RX10 291 yX0_findJoinLoss ∈ tc_tb := tc_tb3 124 (by decide +kernel) (by decide +kernel)
theorem wi_X10_joined : Cond.instanceMethod yX10_joined ∈ tc_tb := tc_tb3 121 (by decide +kernel) (by decide +kernel)
theorem wl_X10_joined : Cond.selects RX10 yX10_joined yX10_joined ∈ tc_tb := tc_tb3 122 (by decide +kernel) (by decide +kernel)
theorem wc_X10_joined : Cond.code yX10_joined cX10_joined 4 (some .long) ∈ tc_tb := tc_tb3 123 (by decide +kernel) (by decide +kernel)
theorem wj_RX10_301 : Cond.constantLong RX10 301 (2) ∈ tc_tb := tc_tb3 139 (by decide +kernel) (by decide +kernel)
theorem wf_RX10_294 : Cond.fieldLink RX10 294 "ToldChances$Cases" "yesCount" "I" ∈ tc_tb := tc_tb1 100 (by decide +kernel) (by decide +kernel)
theorem wm_RX10_297 : Cond.methodLink RX10 297 yX2_halvesWellRanked ∈ tc_tb := tc_tb3 132 (by decide +kernel) (by decide +kernel)
theorem wi_X10_area : Cond.instanceMethod yX10_area ∈ tc_tb := tc_tb3 129 (by decide +kernel) (by decide +kernel)
theorem wl_X10_area : Cond.selects RX10 yX10_area yX10_area ∈ tc_tb := tc_tb3 130 (by decide +kernel) (by decide +kernel)
theorem wc_X10_area : Cond.code yX10_area cX10_area 4 (some .long) ∈ tc_tb := tc_tb3 131 (by decide +kernel) (by decide +kernel)
theorem wf_RX10_49 : Cond.fieldLink RX10 49 "ToldChances" "poolRow" "LToldChances$PoolRow;" ∈ tc_tb := tc_tb1 209 (by decide +kernel) (by decide +kernel)
theorem wf_RX10_306 : Cond.fieldLink RX10 306 "ToldChances$PoolRow" "count" "I" ∈ tc_tb := tc_tb1 156 (by decide +kernel) (by decide +kernel)
theorem wm_RX10_303 : Cond.methodLink RX10 303 yX7_fill ∈ tc_tb := tc_tb3 144 (by decide +kernel) (by decide +kernel)
theorem wi_X10_pools : Cond.instanceMethod yX10_pools ∈ tc_tb := tc_tb3 141 (by decide +kernel) (by decide +kernel)
theorem wl_X10_pools : Cond.selects RX10 yX10_pools yX10_pools ∈ tc_tb := tc_tb3 142 (by decide +kernel) (by decide +kernel)
theorem wc_X10_pools : Cond.code yX10_pools cX10_pools 2 (some .int) ∈ tc_tb := tc_tb3 143 (by decide +kernel) (by decide +kernel)
theorem wm_RX10_307 : Cond.methodLink RX10 307 yX7_tellOf ∈ tc_tb := tc_tb3 168 (by decide +kernel) (by decide +kernel)
theorem wi_X10_pool : Cond.instanceMethod yX10_pool ∈ tc_tb := tc_tb3 165 (by decide +kernel) (by decide +kernel)
theorem wl_X10_pool : Cond.selects RX10 yX10_pool yX10_pool ∈ tc_tb := tc_tb3 166 (by decide +kernel) (by decide +kernel)
theorem wc_X10_pool : Cond.code yX10_pool cX10_pool 4 (some .int) ∈ tc_tb := tc_tb3 167 (by decide +kernel) (by decide +kernel)
theorem wm_RX10_310 : Cond.methodLink RX10 310 yX7_findFlat ∈ tc_tb := tc_tb3 176 (by decide +kernel) (by decide +kernel)
theorem wi_X10_flat : Cond.instanceMethod yX10_flat ∈ tc_tb := tc_tb3 173 (by decide +kernel) (by decide +kernel)
theorem wl_X10_flat : Cond.selects RX10 yX10_flat yX10_flat ∈ tc_tb := tc_tb3 174 (by decide +kernel) (by decide +kernel)
theorem wc_X10_flat : Cond.code yX10_flat cX10_flat 3 (some .long) ∈ tc_tb := tc_tb3 175 (by decide +kernel) (by decide +kernel)
theorem wf_RX10_78 : Cond.fieldLink RX10 78 "ToldChances" "winCounts" "[I" ∈ tc_tb := tc_tb1 215 (by decide +kernel) (by decide +kernel)
theorem wm_RX10_332 : Cond.methodLink RX10 332 yX1_isCase ∈ tc_tb := tc_tb3 191 (by decide +kernel) (by decide +kernel)
theorem wi_X10_countWins : Cond.instanceMethod yX10_countWins ∈ tc_tb := tc_tb3 189 (by decide +kernel) (by decide +kernel)
theorem wl_X10_countWins : Cond.selects RX10 yX10_countWins yX10_countWins ∈ tc_tb := tc_tbS 17 (by decide +kernel) (by decide +kernel)
theorem wc_X10_countWins : Cond.code yX10_countWins cX10_countWins 8 none ∈ tc_tb := tc_tb3 190 (by decide +kernel) (by decide +kernel)
theorem wm_RX10_314 : Cond.methodLink RX10 314 yX10_countWins ∈ tc_tb := tc_tb3 187 (by decide +kernel) (by decide +kernel)
theorem wi_X10_better : Cond.instanceMethod yX10_better ∈ tc_tb := tc_tb3 184 (by decide +kernel) (by decide +kernel)
theorem wl_X10_better : Cond.selects RX10 yX10_better yX10_better ∈ tc_tb := tc_tb3 185 (by decide +kernel) (by decide +kernel)
theorem wc_X10_better : Cond.code yX10_better cX10_better 4 (some .int) ∈ tc_tb := tc_tb3 186 (by decide +kernel) (by decide +kernel)
theorem ws_X10_waysWithAtLeast : Cond.static yX10_waysWithAtLeast ∈ tc_tb := tc_tb3 197 (by decide +kernel) (by decide +kernel)
theorem wc_X10_waysWithAtLeast : Cond.code yX10_waysWithAtLeast cX10_waysWithAtLeast 7 (some .long) ∈ tc_tb := tc_tb3 198 (by decide +kernel) (by decide +kernel)
theorem wm_RX10_318 : Cond.methodLink RX10 318 yX10_waysWithAtLeast ∈ tc_tb := tc_tb3 196 (by decide +kernel) (by decide +kernel)
theorem wi_X10_luck : Cond.instanceMethod yX10_luck ∈ tc_tb := tc_tb3 193 (by decide +kernel) (by decide +kernel)
theorem wl_X10_luck : Cond.selects RX10 yX10_luck yX10_luck ∈ tc_tb := tc_tb3 194 (by decide +kernel) (by decide +kernel)
theorem wc_X10_luck : Cond.code yX10_luck cX10_luck 6 (some .long) ∈ tc_tb := tc_tb3 195 (by decide +kernel) (by decide +kernel)
theorem ws_X10_signOf : Cond.static yX10_signOf ∈ tc_tb := tc_tb3 228 (by decide +kernel) (by decide +kernel)
theorem wc_X10_signOf : Cond.code yX10_signOf cX10_signOf 2 (some .int) ∈ tc_tb := tc_tb3 229 (by decide +kernel) (by decide +kernel)
theorem wm_RX10_355 : Cond.methodLink RX10 355 yX6_put ∈ tc_tb := tc_tb3 211 (by decide +kernel) (by decide +kernel)
theorem wf_RX10_66 : Cond.fieldLink RX10 66 "ToldChances" "paper" "LToldChances$Paper;" ∈ tc_tb := tc_tb1 212 (by decide +kernel) (by decide +kernel)
theorem wf_RX10_365 : Cond.fieldLink RX10 365 "ToldChances$Cases" "chances" "[I" ∈ tc_tb := tc_tb1 89 (by decide +kernel) (by decide +kernel)
theorem wf_RX10_368 : Cond.fieldLink RX10 368 "ToldChances$Cases" "isYes" "[Z" ∈ tc_tb := tc_tb1 93 (by decide +kernel) (by decide +kernel)
theorem wm_RX10_372 : Cond.methodLink RX10 372 yX10_signOf ∈ tc_tb := tc_tb3 227 (by decide +kernel) (by decide +kernel)
theorem wm_RX10_361 : Cond.methodLink RX10 361 yX6_putNumber ∈ tc_tb := tc_tb3 222 (by decide +kernel) (by decide +kernel)
theorem wm_RX10_357 : Cond.methodLink RX10 357 yX6_putWord ∈ tc_tb := tc_tb3 215 (by decide +kernel) (by decide +kernel)
theorem wm_RX10_353 : Cond.methodLink RX10 353 yX6_clear ∈ tc_tb := tc_tb3 207 (by decide +kernel) (by decide +kernel)
theorem wi_X10_writeReport : Cond.instanceMethod yX10_writeReport ∈ tc_tb := tc_tb3 205 (by decide +kernel) (by decide +kernel)
theorem wl_X10_writeReport : Cond.selects RX10 yX10_writeReport yX10_writeReport ∈ tc_tb := tc_tbS 18 (by decide +kernel) (by decide +kernel)
theorem wc_X10_writeReport : Cond.code yX10_writeReport cX10_writeReport 3 none ∈ tc_tb := tc_tb3 206 (by decide +kernel) (by decide +kernel)
theorem wf_RX10_340 : Cond.fieldLink RX10 340 "ToldChances$Paper" "length" "I" ∈ tc_tb := tc_tb1 196 (by decide +kernel) (by decide +kernel)
theorem wf_RX10_341 : Cond.fieldLink RX10 341 "ToldChances$Paper" "signs" "[I" ∈ tc_tb := tc_tb1 194 (by decide +kernel) (by decide +kernel)
theorem wm_RX10_336 : Cond.methodLink RX10 336 yX10_writeReport ∈ tc_tb := tc_tb3 203 (by decide +kernel) (by decide +kernel)
theorem wi_X10_report : Cond.instanceMethod yX10_report ∈ tc_tb := tc_tb3 200 (by decide +kernel) (by decide +kernel)
theorem wl_X10_report : Cond.selects RX10 yX10_report yX10_report ∈ tc_tb := tc_tb3 201 (by decide +kernel) (by decide +kernel)
theorem wc_X10_report : Cond.code yX10_report cX10_report 3 (some .int) ∈ tc_tb := tc_tb3 202 (by decide +kernel) (by decide +kernel)
theorem wm_RX10_344 : Cond.methodLink RX10 344 yX1_countState ∈ tc_tb := tc_tb3 234 (by decide +kernel) (by decide +kernel)
theorem wm_RX10_347 : Cond.methodLink RX10 347 yX1_countTold ∈ tc_tb := tc_tb3 238 (by decide +kernel) (by decide +kernel)
theorem wm_RX10_350 : Cond.methodLink RX10 350 yX1_countCases ∈ tc_tb := tc_tb4 2 (by decide +kernel) (by decide +kernel)
theorem wi_X10_many : Cond.instanceMethod yX10_many ∈ tc_tb := tc_tb3 231 (by decide +kernel) (by decide +kernel)
theorem wl_X10_many : Cond.selects RX10 yX10_many yX10_many ∈ tc_tb := tc_tb3 232 (by decide +kernel) (by decide +kernel)
theorem wc_X10_many : Cond.code yX10_many cX10_many 2 (some .int) ∈ tc_tb := tc_tb3 233 (by decide +kernel) (by decide +kernel)
theorem ws_X11_within : Cond.static yX11_within ∈ tc_tb := tc_tb4 112 (by decide +kernel) (by decide +kernel)
theorem wn_RX11 : Cond.initialized RX11 ∈ tc_tb := tc_tb1 12 (by decide +kernel) (by decide +kernel)
theorem wc_X11_within : Cond.code yX11_within cX11_within 3 (some .boolean) ∈ tc_tb := tc_tb4 113 (by decide +kernel) (by decide +kernel)
theorem wm_RX11_66 : Cond.methodLink RX11 66 yX11_within ∈ tc_tb := tc_tb4 111 (by decide +kernel) (by decide +kernel)
theorem ws_X11_isOne : Cond.static yX11_isOne ∈ tc_tb := tc_tb4 109 (by decide +kernel) (by decide +kernel)
theorem wc_X11_isOne : Cond.code yX11_isOne cX11_isOne 1 (some .boolean) ∈ tc_tb := tc_tb4 110 (by decide +kernel) (by decide +kernel)
theorem ws_X11_isAny : Cond.static yX11_isAny ∈ tc_tb := tc_tb4 146 (by decide +kernel) (by decide +kernel)
theorem wc_X11_isAny : Cond.code yX11_isAny cX11_isAny 1 (some .boolean) ∈ tc_tb := tc_tb4 147 (by decide +kernel) (by decide +kernel)
theorem ws_X11_isEvent : Cond.static yX11_isEvent ∈ tc_tb := tc_tb4 115 (by decide +kernel) (by decide +kernel)
theorem wc_X11_isEvent : Cond.code yX11_isEvent cX11_isEvent 1 (some .boolean) ∈ tc_tb := tc_tb4 116 (by decide +kernel) (by decide +kernel)
theorem wf_RX11_7 : Cond.fieldLink RX11 7 "ToldChancesModel" "chance" "[I" ∈ tc_tb := tc_tb4 13 (by decide +kernel) (by decide +kernel)
theorem wm_RX11_74 : Cond.methodLink RX11 74 yX11_isEvent ∈ tc_tb := tc_tb4 114 (by decide +kernel) (by decide +kernel)
theorem wm_RX11_70 : Cond.methodLink RX11 70 yX11_isOne ∈ tc_tb := tc_tb4 108 (by decide +kernel) (by decide +kernel)
theorem wi_X11_tell : Cond.instanceMethod yX11_tell ∈ tc_tb := tc_tb4 105 (by decide +kernel) (by decide +kernel)
theorem wl_X11_tell : Cond.selects RX11 yX11_tell yX11_tell ∈ tc_tb := tc_tb4 106 (by decide +kernel) (by decide +kernel)
theorem wc_X11_tell : Cond.code yX11_tell cX11_tell 5 (some .int) ∈ tc_tb := tc_tb4 107 (by decide +kernel) (by decide +kernel)
theorem wi_X11_drop : Cond.instanceMethod yX11_drop ∈ tc_tb := tc_tb4 118 (by decide +kernel) (by decide +kernel)
theorem wl_X11_drop : Cond.selects RX11 yX11_drop yX11_drop ∈ tc_tb := tc_tb4 119 (by decide +kernel) (by decide +kernel)
theorem wc_X11_drop : Cond.code yX11_drop cX11_drop 4 (some .int) ∈ tc_tb := tc_tb4 120 (by decide +kernel) (by decide +kernel)
theorem wf_RX11_13 : Cond.fieldLink RX11 13 "ToldChancesModel" "state" "[I" ∈ tc_tb := tc_tb4 14 (by decide +kernel) (by decide +kernel)
theorem wi_X11_becomes : Cond.instanceMethod yX11_becomes ∈ tc_tb := tc_tb4 127 (by decide +kernel) (by decide +kernel)
theorem wl_X11_becomes : Cond.selects RX11 yX11_becomes yX11_becomes ∈ tc_tb := tc_tbS 19 (by decide +kernel) (by decide +kernel)
theorem wc_X11_becomes : Cond.code yX11_becomes cX11_becomes 4 (some .int) ∈ tc_tb := tc_tb4 128 (by decide +kernel) (by decide +kernel)
theorem wm_RX11_77 : Cond.methodLink RX11 77 yX11_becomes ∈ tc_tb := tc_tb4 125 (by decide +kernel) (by decide +kernel)
theorem wi_X11_yes : Cond.instanceMethod yX11_yes ∈ tc_tb := tc_tb4 122 (by decide +kernel) (by decide +kernel)
theorem wl_X11_yes : Cond.selects RX11 yX11_yes yX11_yes ∈ tc_tb := tc_tb4 123 (by decide +kernel) (by decide +kernel)
theorem wc_X11_yes : Cond.code yX11_yes cX11_yes 2 (some .int) ∈ tc_tb := tc_tb4 124 (by decide +kernel) (by decide +kernel)
theorem wi_X11_no : Cond.instanceMethod yX11_no ∈ tc_tb := tc_tb4 130 (by decide +kernel) (by decide +kernel)
theorem wl_X11_no : Cond.selects RX11 yX11_no yX11_no ∈ tc_tb := tc_tb4 131 (by decide +kernel) (by decide +kernel)
theorem wc_X11_no : Cond.code yX11_no cX11_no 2 (some .int) ∈ tc_tb := tc_tb4 132 (by decide +kernel) (by decide +kernel)
theorem wi_X11_open : Cond.instanceMethod yX11_open ∈ tc_tb := tc_tb4 134 (by decide +kernel) (by decide +kernel)
theorem wl_X11_open : Cond.selects RX11 yX11_open yX11_open ∈ tc_tb := tc_tb4 135 (by decide +kernel) (by decide +kernel)
theorem wc_X11_open : Cond.code yX11_open cX11_open 2 (some .int) ∈ tc_tb := tc_tb4 136 (by decide +kernel) (by decide +kernel)
theorem wf_RX11_16 : Cond.fieldLink RX11 16 "ToldChancesModel" "weight" "[I" ∈ tc_tb := tc_tb4 15 (by decide +kernel) (by decide +kernel)
theorem wi_X11_weigh : Cond.instanceMethod yX11_weigh ∈ tc_tb := tc_tb4 138 (by decide +kernel) (by decide +kernel)
theorem wl_X11_weigh : Cond.selects RX11 yX11_weigh yX11_weigh ∈ tc_tb := tc_tb4 139 (by decide +kernel) (by decide +kernel)
theorem wc_X11_weigh : Cond.code yX11_weigh cX11_weigh 4 (some .int) ∈ tc_tb := tc_tb4 140 (by decide +kernel) (by decide +kernel)
theorem wi_X11_toldBy : Cond.instanceMethod yX11_toldBy ∈ tc_tb := tc_tb4 150 (by decide +kernel) (by decide +kernel)
theorem wl_X11_toldBy : Cond.selects RX11 yX11_toldBy yX11_toldBy ∈ tc_tb := tc_tbS 20 (by decide +kernel) (by decide +kernel)
theorem wc_X11_toldBy : Cond.code yX11_toldBy cX11_toldBy 7 (some .int) ∈ tc_tb := tc_tb4 151 (by decide +kernel) (by decide +kernel)
theorem wm_RX11_84 : Cond.methodLink RX11 84 yX11_toldBy ∈ tc_tb := tc_tb4 148 (by decide +kernel) (by decide +kernel)
theorem wm_RX11_81 : Cond.methodLink RX11 81 yX11_isAny ∈ tc_tb := tc_tb4 145 (by decide +kernel) (by decide +kernel)
theorem wi_X11_told : Cond.instanceMethod yX11_told ∈ tc_tb := tc_tb4 142 (by decide +kernel) (by decide +kernel)
theorem wl_X11_told : Cond.selects RX11 yX11_told yX11_told ∈ tc_tb := tc_tb4 143 (by decide +kernel) (by decide +kernel)
theorem wc_X11_told : Cond.code yX11_told cX11_told 3 (some .int) ∈ tc_tb := tc_tb4 144 (by decide +kernel) (by decide +kernel)
theorem wi_X11_came : Cond.instanceMethod yX11_came ∈ tc_tb := tc_tb4 153 (by decide +kernel) (by decide +kernel)
theorem wl_X11_came : Cond.selects RX11 yX11_came yX11_came ∈ tc_tb := tc_tb4 154 (by decide +kernel) (by decide +kernel)
theorem wc_X11_came : Cond.code yX11_came cX11_came 2 (some .int) ∈ tc_tb := tc_tb4 155 (by decide +kernel) (by decide +kernel)
theorem wf_RX11_87 : Cond.fieldLink RX11 87 "ToldChancesModel" "taped" "I" ∈ tc_tb := tc_tb4 17 (by decide +kernel) (by decide +kernel)
theorem wf_RX11_19 : Cond.fieldLink RX11 19 "ToldChancesModel" "tape" "[I" ∈ tc_tb := tc_tb4 16 (by decide +kernel) (by decide +kernel)
theorem wi_X11_key : Cond.instanceMethod yX11_key ∈ tc_tb := tc_tb4 157 (by decide +kernel) (by decide +kernel)
theorem wl_X11_key : Cond.selects RX11 yX11_key yX11_key ∈ tc_tb := tc_tb4 158 (by decide +kernel) (by decide +kernel)
theorem wc_X11_key : Cond.code yX11_key cX11_key 2 (some .int) ∈ tc_tb := tc_tb4 159 (by decide +kernel) (by decide +kernel)
theorem wi_X11_wipe : Cond.instanceMethod yX11_wipe ∈ tc_tb := tc_tb4 161 (by decide +kernel) (by decide +kernel)
theorem wl_X11_wipe : Cond.selects RX11 yX11_wipe yX11_wipe ∈ tc_tb := tc_tb4 162 (by decide +kernel) (by decide +kernel)
theorem wc_X11_wipe : Cond.code yX11_wipe cX11_wipe 2 (some .int) ∈ tc_tb := tc_tb4 163 (by decide +kernel) (by decide +kernel)
theorem wf_RX11_22 : Cond.fieldLink RX11 22 "ToldChancesModel" "signs" "[I" ∈ tc_tb := tc_tb4 18 (by decide +kernel) (by decide +kernel)
theorem wi_X11_wordLong : Cond.instanceMethod yX11_wordLong ∈ tc_tb := tc_tb4 178 (by decide +kernel) (by decide +kernel)
theorem wl_X11_wordLong : Cond.selects RX11 yX11_wordLong yX11_wordLong ∈ tc_tb := tc_tbS 23 (by decide +kernel) (by decide +kernel)
theorem wc_X11_wordLong : Cond.code yX11_wordLong cX11_wordLong 3 (some .int) ∈ tc_tb := tc_tb4 179 (by decide +kernel) (by decide +kernel)
theorem wf_RX11_94 : Cond.fieldLink RX11 94 "ToldChancesModel" "place" "I" ∈ tc_tb := tc_tb4 19 (by decide +kernel) (by decide +kernel)
theorem wf_RX11_91 : Cond.fieldLink RX11 91 "ToldChancesModel" "word" "I" ∈ tc_tb := tc_tb4 20 (by decide +kernel) (by decide +kernel)
theorem wm_RX11_97 : Cond.methodLink RX11 97 yX11_wordLong ∈ tc_tb := tc_tb4 176 (by decide +kernel) (by decide +kernel)
theorem wi_X11_readsWord : Cond.instanceMethod yX11_readsWord ∈ tc_tb := tc_tb4 174 (by decide +kernel) (by decide +kernel)
theorem wl_X11_readsWord : Cond.selects RX11 yX11_readsWord yX11_readsWord ∈ tc_tb := tc_tbS 22 (by decide +kernel) (by decide +kernel)
theorem wc_X11_readsWord : Cond.code yX11_readsWord cX11_readsWord 2 (some .boolean) ∈ tc_tb := tc_tb4 175 (by decide +kernel) (by decide +kernel)
theorem ws_X11_manyNumbers : Cond.static yX11_manyNumbers ∈ tc_tb := tc_tb4 181 (by decide +kernel) (by decide +kernel)
theorem wc_X11_manyNumbers : Cond.code yX11_manyNumbers cX11_manyNumbers 1 (some .int) ∈ tc_tb := tc_tb4 182 (by decide +kernel) (by decide +kernel)
theorem ws_X11_greatest : Cond.static yX11_greatest ∈ tc_tb := tc_tb4 192 (by decide +kernel) (by decide +kernel)
theorem wc_X11_greatest : Cond.code yX11_greatest cX11_greatest 2 (some .int) ∈ tc_tb := tc_tb4 193 (by decide +kernel) (by decide +kernel)
theorem wi_X11_isFigure : Cond.instanceMethod yX11_isFigure ∈ tc_tb := tc_tb4 189 (by decide +kernel) (by decide +kernel)
theorem wl_X11_isFigure : Cond.selects RX11 yX11_isFigure yX11_isFigure ∈ tc_tb := tc_tbS 25 (by decide +kernel) (by decide +kernel)
theorem wc_X11_isFigure : Cond.code yX11_isFigure cX11_isFigure 1 (some .boolean) ∈ tc_tb := tc_tb4 190 (by decide +kernel) (by decide +kernel)
theorem wf_RX11_25 : Cond.fieldLink RX11 25 "ToldChancesModel" "numbers" "[I" ∈ tc_tb := tc_tb4 21 (by decide +kernel) (by decide +kernel)
theorem wm_RX11_105 : Cond.methodLink RX11 105 yX11_greatest ∈ tc_tb := tc_tb4 191 (by decide +kernel) (by decide +kernel)
theorem wm_RX11_101 : Cond.methodLink RX11 101 yX11_isFigure ∈ tc_tb := tc_tb4 187 (by decide +kernel) (by decide +kernel)
theorem wi_X11_readsNumber : Cond.instanceMethod yX11_readsNumber ∈ tc_tb := tc_tb4 185 (by decide +kernel) (by decide +kernel)
theorem wl_X11_readsNumber : Cond.selects RX11 yX11_readsNumber yX11_readsNumber ∈ tc_tb := tc_tbS 24 (by decide +kernel) (by decide +kernel)
theorem wc_X11_readsNumber : Cond.code yX11_readsNumber cX11_readsNumber 4 (some .boolean) ∈ tc_tb := tc_tb4 186 (by decide +kernel) (by decide +kernel)
theorem wm_RX11_114 : Cond.methodLink RX11 114 yX11_readsNumber ∈ tc_tb := tc_tb4 183 (by decide +kernel) (by decide +kernel)
theorem wm_RX11_111 : Cond.methodLink RX11 111 yX11_manyNumbers ∈ tc_tb := tc_tb4 180 (by decide +kernel) (by decide +kernel)
theorem wm_RX11_108 : Cond.methodLink RX11 108 yX11_readsWord ∈ tc_tb := tc_tb4 172 (by decide +kernel) (by decide +kernel)
theorem wi_X11_readsLine : Cond.instanceMethod yX11_readsLine ∈ tc_tb := tc_tb4 170 (by decide +kernel) (by decide +kernel)
theorem wl_X11_readsLine : Cond.selects RX11 yX11_readsLine yX11_readsLine ∈ tc_tb := tc_tbS 21 (by decide +kernel) (by decide +kernel)
theorem wc_X11_readsLine : Cond.code yX11_readsLine cX11_readsLine 2 (some .boolean) ∈ tc_tb := tc_tb4 171 (by decide +kernel) (by decide +kernel)
theorem wm_RX11_140 : Cond.methodLink RX11 140 yX11_weigh ∈ tc_tb := tc_tb4 203 (by decide +kernel) (by decide +kernel)
theorem wm_RX11_124 : Cond.methodLink RX11 124 yX11_tell ∈ tc_tb := tc_tb4 198 (by decide +kernel) (by decide +kernel)
theorem wm_RX11_128 : Cond.methodLink RX11 128 yX11_drop ∈ tc_tb := tc_tb4 199 (by decide +kernel) (by decide +kernel)
theorem wm_RX11_131 : Cond.methodLink RX11 131 yX11_yes ∈ tc_tb := tc_tb4 200 (by decide +kernel) (by decide +kernel)
theorem wm_RX11_134 : Cond.methodLink RX11 134 yX11_no ∈ tc_tb := tc_tb4 201 (by decide +kernel) (by decide +kernel)
theorem wm_RX11_137 : Cond.methodLink RX11 137 yX11_open ∈ tc_tb := tc_tb4 202 (by decide +kernel) (by decide +kernel)
theorem wi_X11_does : Cond.instanceMethod yX11_does ∈ tc_tb := tc_tb4 196 (by decide +kernel) (by decide +kernel)
theorem wl_X11_does : Cond.selects RX11 yX11_does yX11_does ∈ tc_tb := tc_tbS 26 (by decide +kernel) (by decide +kernel)
theorem wc_X11_does : Cond.code yX11_does cX11_does 1 (some .int) ∈ tc_tb := tc_tb4 197 (by decide +kernel) (by decide +kernel)
theorem wm_RX11_120 : Cond.methodLink RX11 120 yX11_does ∈ tc_tb := tc_tb4 194 (by decide +kernel) (by decide +kernel)
theorem wm_RX11_117 : Cond.methodLink RX11 117 yX11_readsLine ∈ tc_tb := tc_tb4 168 (by decide +kernel) (by decide +kernel)
theorem wi_X11_line : Cond.instanceMethod yX11_line ∈ tc_tb := tc_tb4 165 (by decide +kernel) (by decide +kernel)
theorem wl_X11_line : Cond.selects RX11 yX11_line yX11_line ∈ tc_tb := tc_tb4 166 (by decide +kernel) (by decide +kernel)
theorem wc_X11_line : Cond.code yX11_line cX11_line 1 (some .int) ∈ tc_tb := tc_tb4 167 (by decide +kernel) (by decide +kernel)
theorem wi_X11_isOnTape : Cond.instanceMethod yX11_isOnTape ∈ tc_tb := tc_tb4 210 (by decide +kernel) (by decide +kernel)
theorem wl_X11_isOnTape : Cond.selects RX11 yX11_isOnTape yX11_isOnTape ∈ tc_tb := tc_tbS 27 (by decide +kernel) (by decide +kernel)
theorem wc_X11_isOnTape : Cond.code yX11_isOnTape cX11_isOnTape 3 (some .boolean) ∈ tc_tb := tc_tb4 211 (by decide +kernel) (by decide +kernel)
theorem wf_RX11_146 : Cond.fieldLink RX11 146 "ToldChancesModel" "rule" "I" ∈ tc_tb := tc_tb4 22 (by decide +kernel) (by decide +kernel)
theorem wm_RX11_143 : Cond.methodLink RX11 143 yX11_isOnTape ∈ tc_tb := tc_tb4 208 (by decide +kernel) (by decide +kernel)
theorem wi_X11_rule : Cond.instanceMethod yX11_rule ∈ tc_tb := tc_tb4 205 (by decide +kernel) (by decide +kernel)
theorem wl_X11_rule : Cond.selects RX11 yX11_rule yX11_rule ∈ tc_tb := tc_tb4 206 (by decide +kernel) (by decide +kernel)
theorem wc_X11_rule : Cond.code yX11_rule cX11_rule 2 (some .int) ∈ tc_tb := tc_tb4 207 (by decide +kernel) (by decide +kernel)
theorem wi_X11_missOf : Cond.instanceMethod yX11_missOf ∈ tc_tb := tc_tb4 218 (by decide +kernel) (by decide +kernel)
theorem wl_X11_missOf : Cond.selects RX11 yX11_missOf yX11_missOf ∈ tc_tb := tc_tbS 28 (by decide +kernel) (by decide +kernel)
theorem wc_X11_missOf : Cond.code yX11_missOf cX11_missOf 4 (some .int) ∈ tc_tb := tc_tb4 219 (by decide +kernel) (by decide +kernel)
theorem wm_RX11_149 : Cond.methodLink RX11 149 yX11_missOf ∈ tc_tb := tc_tb4 216 (by decide +kernel) (by decide +kernel)
theorem wi_X11_miss : Cond.instanceMethod yX11_miss ∈ tc_tb := tc_tb4 213 (by decide +kernel) (by decide +kernel)
theorem wl_X11_miss : Cond.selects RX11 yX11_miss yX11_miss ∈ tc_tb := tc_tb4 214 (by decide +kernel) (by decide +kernel)
theorem wc_X11_miss : Cond.code yX11_miss cX11_miss 3 (some .int) ∈ tc_tb := tc_tb4 215 (by decide +kernel) (by decide +kernel)
theorem wi_X11_isCase : Cond.instanceMethod yX11_isCase ∈ tc_tb := tc_tb4 230 (by decide +kernel) (by decide +kernel)
theorem wl_X11_isCase : Cond.selects RX11 yX11_isCase yX11_isCase ∈ tc_tb := tc_tbS 30 (by decide +kernel) (by decide +kernel)
theorem wc_X11_isCase : Cond.code yX11_isCase cX11_isCase 3 (some .boolean) ∈ tc_tb := tc_tb4 231 (by decide +kernel) (by decide +kernel)
theorem wm_RX11_153 : Cond.methodLink RX11 153 yX11_isCase ∈ tc_tb := tc_tb4 228 (by decide +kernel) (by decide +kernel)
theorem wi_X11_cases : Cond.instanceMethod yX11_cases ∈ tc_tb := tc_tb4 226 (by decide +kernel) (by decide +kernel)
theorem wl_X11_cases : Cond.selects RX11 yX11_cases yX11_cases ∈ tc_tb := tc_tbS 29 (by decide +kernel) (by decide +kernel)
theorem wc_X11_cases : Cond.code yX11_cases cX11_cases 4 (some .int) ∈ tc_tb := tc_tb4 227 (by decide +kernel) (by decide +kernel)
theorem wi_X11_misses : Cond.instanceMethod yX11_misses ∈ tc_tb := tc_tb4 235 (by decide +kernel) (by decide +kernel)
theorem wl_X11_misses : Cond.selects RX11 yX11_misses yX11_misses ∈ tc_tb := tc_tbS 31 (by decide +kernel) (by decide +kernel)
theorem wc_X11_misses : Cond.code yX11_misses cX11_misses 5 (some .long) ∈ tc_tb := tc_tb4 236 (by decide +kernel) (by decide +kernel)
theorem wf_RX11_157 : Cond.fieldLink RX11 157 "ToldChancesModel" "up" "J" ∈ tc_tb := tc_tb4 23 (by decide +kernel) (by decide +kernel)
theorem wf_RX11_28 : Cond.fieldLink RX11 28 "ToldChancesModel" "down" "J" ∈ tc_tb := tc_tb4 24 (by decide +kernel) (by decide +kernel)
theorem wi_X11_becomesFraction : Cond.instanceMethod yX11_becomesFraction ∈ tc_tb := tc_tb4 239 (by decide +kernel) (by decide +kernel)
theorem wl_X11_becomesFraction : Cond.selects RX11 yX11_becomesFraction yX11_becomesFraction ∈ tc_tb := tc_tbS 32 (by decide +kernel) (by decide +kernel)
theorem wc_X11_becomesFraction : Cond.code yX11_becomesFraction cX11_becomesFraction 11 none ∈ tc_tb := tc_tb5 0 (by decide +kernel) (by decide +kernel)
theorem wm_RX11_160 : Cond.methodLink RX11 160 yX11_becomesFraction ∈ tc_tb := tc_tb4 237 (by decide +kernel) (by decide +kernel)
theorem wi_X11_adds : Cond.instanceMethod yX11_adds ∈ tc_tb := tc_tb5 71 (by decide +kernel) (by decide +kernel)
theorem wl_X11_adds : Cond.selects RX11 yX11_adds yX11_adds ∈ tc_tb := tc_tbS 44 (by decide +kernel) (by decide +kernel)
theorem wc_X11_adds : Cond.code yX11_adds cX11_adds 5 none ∈ tc_tb := tc_tb5 72 (by decide +kernel) (by decide +kernel)
theorem wi_X11_part : Cond.instanceMethod yX11_part ∈ tc_tb := tc_tb5 3 (by decide +kernel) (by decide +kernel)
theorem wl_X11_part : Cond.selects RX11 yX11_part yX11_part ∈ tc_tb := tc_tbS 33 (by decide +kernel) (by decide +kernel)
theorem wc_X11_part : Cond.code yX11_part cX11_part 2 (some .long) ∈ tc_tb := tc_tb5 4 (by decide +kernel) (by decide +kernel)
theorem wm_RX11_173 : Cond.methodLink RX11 173 yX11_part ∈ tc_tb := tc_tb5 1 (by decide +kernel) (by decide +kernel)
theorem wm_RX11_164 : Cond.methodLink RX11 164 yX11_cases ∈ tc_tb := tc_tb4 224 (by decide +kernel) (by decide +kernel)
theorem wm_RX11_169 : Cond.methodLink RX11 169 yX11_misses ∈ tc_tb := tc_tb4 233 (by decide +kernel) (by decide +kernel)
theorem wj_RX11_167 : Cond.constantLong RX11 167 (-9223372036854775808) ∈ tc_tb := tc_tb4 232 (by decide +kernel) (by decide +kernel)
theorem wi_X11_score : Cond.instanceMethod yX11_score ∈ tc_tb := tc_tb4 221 (by decide +kernel) (by decide +kernel)
theorem wl_X11_score : Cond.selects RX11 yX11_score yX11_score ∈ tc_tb := tc_tb4 222 (by decide +kernel) (by decide +kernel)
theorem wc_X11_score : Cond.code yX11_score cX11_score 3 (some .long) ∈ tc_tb := tc_tb4 223 (by decide +kernel) (by decide +kernel)
theorem wi_X11_isAhead : Cond.instanceMethod yX11_isAhead ∈ tc_tb := tc_tb5 11 (by decide +kernel) (by decide +kernel)
theorem wl_X11_isAhead : Cond.selects RX11 yX11_isAhead yX11_isAhead ∈ tc_tb := tc_tbS 34 (by decide +kernel) (by decide +kernel)
theorem wc_X11_isAhead : Cond.code yX11_isAhead cX11_isAhead 7 (some .boolean) ∈ tc_tb := tc_tb5 12 (by decide +kernel) (by decide +kernel)
theorem wm_RX11_176 : Cond.methodLink RX11 176 yX11_isAhead ∈ tc_tb := tc_tb5 9 (by decide +kernel) (by decide +kernel)
theorem wi_X11_rank : Cond.instanceMethod yX11_rank ∈ tc_tb := tc_tb5 6 (by decide +kernel) (by decide +kernel)
theorem wl_X11_rank : Cond.selects RX11 yX11_rank yX11_rank ∈ tc_tb := tc_tb5 7 (by decide +kernel) (by decide +kernel)
theorem wc_X11_rank : Cond.code yX11_rank cX11_rank 5 (some .int) ∈ tc_tb := tc_tb5 8 (by decide +kernel) (by decide +kernel)
theorem wi_X11_sumBy : Cond.instanceMethod yX11_sumBy ∈ tc_tb := tc_tb5 23 (by decide +kernel) (by decide +kernel)
theorem wl_X11_sumBy : Cond.selects RX11 yX11_sumBy yX11_sumBy ∈ tc_tb := tc_tbS 36 (by decide +kernel) (by decide +kernel)
theorem wc_X11_sumBy : Cond.code yX11_sumBy cX11_sumBy 3 (some .int) ∈ tc_tb := tc_tb5 24 (by decide +kernel) (by decide +kernel)
theorem wm_RX11_179 : Cond.methodLink RX11 179 yX11_sumBy ∈ tc_tb := tc_tb5 21 (by decide +kernel) (by decide +kernel)
theorem wi_X11_lureOf : Cond.instanceMethod yX11_lureOf ∈ tc_tb := tc_tb5 19 (by decide +kernel) (by decide +kernel)
theorem wl_X11_lureOf : Cond.selects RX11 yX11_lureOf yX11_lureOf ∈ tc_tb := tc_tbS 35 (by decide +kernel) (by decide +kernel)
theorem wc_X11_lureOf : Cond.code yX11_lureOf cX11_lureOf 4 (some .int) ∈ tc_tb := tc_tb5 20 (by decide +kernel) (by decide +kernel)
theorem wm_RX11_182 : Cond.methodLink RX11 182 yX11_lureOf ∈ tc_tb := tc_tb5 17 (by decide +kernel) (by decide +kernel)
theorem wi_X11_lure : Cond.instanceMethod yX11_lure ∈ tc_tb := tc_tb5 14 (by decide +kernel) (by decide +kernel)
theorem wl_X11_lure : Cond.selects RX11 yX11_lure yX11_lure ∈ tc_tb := tc_tb5 15 (by decide +kernel) (by decide +kernel)
theorem wc_X11_lure : Cond.code yX11_lure cX11_lure 2 (some .int) ∈ tc_tb := tc_tb5 16 (by decide +kernel) (by decide +kernel)
theorem wi_X11_honest : Cond.instanceMethod yX11_honest ∈ tc_tb := tc_tb5 26 (by decide +kernel) (by decide +kernel)
theorem wl_X11_honest : Cond.selects RX11 yX11_honest yX11_honest ∈ tc_tb := tc_tb5 27 (by decide +kernel) (by decide +kernel)
theorem wc_X11_honest : Cond.code yX11_honest cX11_honest 3 (some .int) ∈ tc_tb := tc_tb5 28 (by decide +kernel) (by decide +kernel)
theorem wf_RX11_32 : Cond.fieldLink RX11 32 "ToldChancesModel" "isCut" "[Z" ∈ tc_tb := tc_tb4 25 (by decide +kernel) (by decide +kernel)
theorem wi_X11_cuts : Cond.instanceMethod yX11_cuts ∈ tc_tb := tc_tb5 35 (by decide +kernel) (by decide +kernel)
theorem wl_X11_cuts : Cond.selects RX11 yX11_cuts yX11_cuts ∈ tc_tb := tc_tbS 37 (by decide +kernel) (by decide +kernel)
theorem wc_X11_cuts : Cond.code yX11_cuts cX11_cuts 3 (some .int) ∈ tc_tb := tc_tb5 36 (by decide +kernel) (by decide +kernel)
theorem wm_RX11_185 : Cond.methodLink RX11 185 yX11_cuts ∈ tc_tb := tc_tb5 33 (by decide +kernel) (by decide +kernel)
theorem wi_X11_cut : Cond.instanceMethod yX11_cut ∈ tc_tb := tc_tb5 30 (by decide +kernel) (by decide +kernel)
theorem wl_X11_cut : Cond.selects RX11 yX11_cut yX11_cut ∈ tc_tb := tc_tb5 31 (by decide +kernel) (by decide +kernel)
theorem wc_X11_cut : Cond.code yX11_cut cX11_cut 2 (some .int) ∈ tc_tb := tc_tb5 32 (by decide +kernel) (by decide +kernel)
theorem wi_X11_binOf : Cond.instanceMethod yX11_binOf ∈ tc_tb := tc_tb5 47 (by decide +kernel) (by decide +kernel)
theorem wl_X11_binOf : Cond.selects RX11 yX11_binOf yX11_binOf ∈ tc_tb := tc_tbS 39 (by decide +kernel) (by decide +kernel)
theorem wc_X11_binOf : Cond.code yX11_binOf cX11_binOf 4 (some .int) ∈ tc_tb := tc_tb5 48 (by decide +kernel) (by decide +kernel)
theorem wf_RX11_36 : Cond.fieldLink RX11 36 "ToldChancesModel" "binMany" "[I" ∈ tc_tb := tc_tb4 26 (by decide +kernel) (by decide +kernel)
theorem wf_RX11_39 : Cond.fieldLink RX11 39 "ToldChancesModel" "binYes" "[I" ∈ tc_tb := tc_tb4 27 (by decide +kernel) (by decide +kernel)
theorem wf_RX11_42 : Cond.fieldLink RX11 42 "ToldChancesModel" "binSum" "[I" ∈ tc_tb := tc_tb4 28 (by decide +kernel) (by decide +kernel)
theorem wf_RX11_45 : Cond.fieldLink RX11 45 "ToldChancesModel" "binSquares" "[I" ∈ tc_tb := tc_tb4 29 (by decide +kernel) (by decide +kernel)
theorem wf_RX11_48 : Cond.fieldLink RX11 48 "ToldChancesModel" "binBoth" "[I" ∈ tc_tb := tc_tb4 30 (by decide +kernel) (by decide +kernel)
theorem wf_RX11_188 : Cond.fieldLink RX11 188 "ToldChancesModel" "all" "I" ∈ tc_tb := tc_tb4 31 (by decide +kernel) (by decide +kernel)
theorem wf_RX11_191 : Cond.fieldLink RX11 191 "ToldChancesModel" "allYes" "I" ∈ tc_tb := tc_tb4 32 (by decide +kernel) (by decide +kernel)
theorem wm_RX11_194 : Cond.methodLink RX11 194 yX11_binOf ∈ tc_tb := tc_tb5 45 (by decide +kernel) (by decide +kernel)
theorem wi_X11_counts : Cond.instanceMethod yX11_counts ∈ tc_tb := tc_tb5 43 (by decide +kernel) (by decide +kernel)
theorem wl_X11_counts : Cond.selects RX11 yX11_counts yX11_counts ∈ tc_tb := tc_tbS 38 (by decide +kernel) (by decide +kernel)
theorem wc_X11_counts : Cond.code yX11_counts cX11_counts 6 none ∈ tc_tb := tc_tb5 44 (by decide +kernel) (by decide +kernel)
theorem wi_X11_leastIn : Cond.instanceMethod yX11_leastIn ∈ tc_tb := tc_tb5 51 (by decide +kernel) (by decide +kernel)
theorem wl_X11_leastIn : Cond.selects RX11 yX11_leastIn yX11_leastIn ∈ tc_tb := tc_tbS 40 (by decide +kernel) (by decide +kernel)
theorem wc_X11_leastIn : Cond.code yX11_leastIn cX11_leastIn 3 (some .int) ∈ tc_tb := tc_tb5 52 (by decide +kernel) (by decide +kernel)
theorem wi_X11_greatestIn : Cond.instanceMethod yX11_greatestIn ∈ tc_tb := tc_tb5 55 (by decide +kernel) (by decide +kernel)
theorem wl_X11_greatestIn : Cond.selects RX11 yX11_greatestIn yX11_greatestIn ∈ tc_tb := tc_tbS 41 (by decide +kernel) (by decide +kernel)
theorem wc_X11_greatestIn : Cond.code yX11_greatestIn cX11_greatestIn 3 (some .int) ∈ tc_tb := tc_tb5 56 (by decide +kernel) (by decide +kernel)
theorem wm_RX11_201 : Cond.methodLink RX11 201 yX11_leastIn ∈ tc_tb := tc_tb5 49 (by decide +kernel) (by decide +kernel)
theorem wm_RX11_204 : Cond.methodLink RX11 204 yX11_greatestIn ∈ tc_tb := tc_tb5 53 (by decide +kernel) (by decide +kernel)
theorem wm_RX11_197 : Cond.methodLink RX11 197 yX11_counts ∈ tc_tb := tc_tb5 41 (by decide +kernel) (by decide +kernel)
theorem wi_X11_bin : Cond.instanceMethod yX11_bin ∈ tc_tb := tc_tb5 38 (by decide +kernel) (by decide +kernel)
theorem wl_X11_bin : Cond.selects RX11 yX11_bin yX11_bin ∈ tc_tb := tc_tb5 39 (by decide +kernel) (by decide +kernel)
theorem wc_X11_bin : Cond.code yX11_bin cX11_bin 4 (some .int) ∈ tc_tb := tc_tb5 40 (by decide +kernel) (by decide +kernel)
theorem wj_RX11_209 : Cond.constantLong RX11 209 (2) ∈ tc_tb := tc_tb5 78 (by decide +kernel) (by decide +kernel)
theorem wj_RX11_207 : Cond.constantLong RX11 207 (100) ∈ tc_tb := tc_tb5 77 (by decide +kernel) (by decide +kernel)
theorem wi_X11_inBin : Cond.instanceMethod yX11_inBin ∈ tc_tb := tc_tb5 75 (by decide +kernel) (by decide +kernel)
theorem wl_X11_inBin : Cond.selects RX11 yX11_inBin yX11_inBin ∈ tc_tb := tc_tbS 45 (by decide +kernel) (by decide +kernel)
theorem wc_X11_inBin : Cond.code yX11_inBin cX11_inBin 11 (some .long) ∈ tc_tb := tc_tb5 76 (by decide +kernel) (by decide +kernel)
theorem wj_RX11_211 : Cond.constantLong RX11 211 (10000) ∈ tc_tb := tc_tb5 83 (by decide +kernel) (by decide +kernel)
theorem wi_X11_wholeOf : Cond.instanceMethod yX11_wholeOf ∈ tc_tb := tc_tb5 81 (by decide +kernel) (by decide +kernel)
theorem wl_X11_wholeOf : Cond.selects RX11 yX11_wholeOf yX11_wholeOf ∈ tc_tb := tc_tbS 46 (by decide +kernel) (by decide +kernel)
theorem wc_X11_wholeOf : Cond.code yX11_wholeOf cX11_wholeOf 4 (some .long) ∈ tc_tb := tc_tb5 82 (by decide +kernel) (by decide +kernel)
theorem wm_RX11_213 : Cond.methodLink RX11 213 yX11_adds ∈ tc_tb := tc_tb5 69 (by decide +kernel) (by decide +kernel)
theorem wm_RX11_220 : Cond.methodLink RX11 220 yX11_wholeOf ∈ tc_tb := tc_tb5 79 (by decide +kernel) (by decide +kernel)
theorem wm_RX11_216 : Cond.methodLink RX11 216 yX11_inBin ∈ tc_tb := tc_tb5 73 (by decide +kernel) (by decide +kernel)
theorem wi_X11_addPart : Cond.instanceMethod yX11_addPart ∈ tc_tb := tc_tb5 67 (by decide +kernel) (by decide +kernel)
theorem wl_X11_addPart : Cond.selects RX11 yX11_addPart yX11_addPart ∈ tc_tb := tc_tbS 43 (by decide +kernel) (by decide +kernel)
theorem wc_X11_addPart : Cond.code yX11_addPart cX11_addPart 6 none ∈ tc_tb := tc_tb5 68 (by decide +kernel) (by decide +kernel)
theorem wi_X11_noFraction : Cond.instanceMethod yX11_noFraction ∈ tc_tb := tc_tb5 63 (by decide +kernel) (by decide +kernel)
theorem wl_X11_noFraction : Cond.selects RX11 yX11_noFraction yX11_noFraction ∈ tc_tb := tc_tbS 42 (by decide +kernel) (by decide +kernel)
theorem wc_X11_noFraction : Cond.code yX11_noFraction cX11_noFraction 1 none ∈ tc_tb := tc_tb5 64 (by decide +kernel) (by decide +kernel)
theorem wm_RX11_226 : Cond.methodLink RX11 226 yX11_addPart ∈ tc_tb := tc_tb5 65 (by decide +kernel) (by decide +kernel)
theorem wm_RX11_223 : Cond.methodLink RX11 223 yX11_noFraction ∈ tc_tb := tc_tb5 61 (by decide +kernel) (by decide +kernel)
theorem wi_X11_split : Cond.instanceMethod yX11_split ∈ tc_tb := tc_tb5 58 (by decide +kernel) (by decide +kernel)
theorem wl_X11_split : Cond.selects RX11 yX11_split yX11_split ∈ tc_tb := tc_tb5 59 (by decide +kernel) (by decide +kernel)
theorem wc_X11_split : Cond.code yX11_split cX11_split 4 (some .long) ∈ tc_tb := tc_tb5 60 (by decide +kernel) (by decide +kernel)
theorem wi_X11_joined : Cond.instanceMethod yX11_joined ∈ tc_tb := tc_tb5 85 (by decide +kernel) (by decide +kernel)
theorem wl_X11_joined : Cond.selects RX11 yX11_joined yX11_joined ∈ tc_tb := tc_tb5 86 (by decide +kernel) (by decide +kernel)
theorem wc_X11_joined : Cond.code yX11_joined cX11_joined 4 (some .long) ∈ tc_tb := tc_tb5 87 (by decide +kernel) (by decide +kernel)
theorem wi_X11_area : Cond.instanceMethod yX11_area ∈ tc_tb := tc_tb5 89 (by decide +kernel) (by decide +kernel)
theorem wl_X11_area : Cond.selects RX11 yX11_area yX11_area ∈ tc_tb := tc_tb5 90 (by decide +kernel) (by decide +kernel)
theorem wc_X11_area : Cond.code yX11_area cX11_area 8 (some .long) ∈ tc_tb := tc_tb5 91 (by decide +kernel) (by decide +kernel)
theorem wf_RX11_60 : Cond.fieldLink RX11 60 "ToldChancesModel" "poolYes" "[I" ∈ tc_tb := tc_tb4 37 (by decide +kernel) (by decide +kernel)
theorem wf_RX11_57 : Cond.fieldLink RX11 57 "ToldChancesModel" "poolMany" "[I" ∈ tc_tb := tc_tb4 36 (by decide +kernel) (by decide +kernel)
theorem wi_X11_isFlat : Cond.instanceMethod yX11_isFlat ∈ tc_tb := tc_tb5 102 (by decide +kernel) (by decide +kernel)
theorem wl_X11_isFlat : Cond.selects RX11 yX11_isFlat yX11_isFlat ∈ tc_tb := tc_tbS 48 (by decide +kernel) (by decide +kernel)
theorem wc_X11_isFlat : Cond.code yX11_isFlat cX11_isFlat 2 (some .boolean) ∈ tc_tb := tc_tb5 103 (by decide +kernel) (by decide +kernel)
theorem wf_RX11_230 : Cond.fieldLink RX11 230 "ToldChancesModel" "pools" "I" ∈ tc_tb := tc_tb4 33 (by decide +kernel) (by decide +kernel)
theorem wf_RX11_54 : Cond.fieldLink RX11 54 "ToldChancesModel" "poolMost" "[I" ∈ tc_tb := tc_tb4 35 (by decide +kernel) (by decide +kernel)
theorem wi_X11_joinsLast : Cond.instanceMethod yX11_joinsLast ∈ tc_tb := tc_tb5 106 (by decide +kernel) (by decide +kernel)
theorem wl_X11_joinsLast : Cond.selects RX11 yX11_joinsLast yX11_joinsLast ∈ tc_tb := tc_tbS 49 (by decide +kernel) (by decide +kernel)
theorem wc_X11_joinsLast : Cond.code yX11_joinsLast cX11_joinsLast 2 none ∈ tc_tb := tc_tb5 107 (by decide +kernel) (by decide +kernel)
theorem wm_RX11_236 : Cond.methodLink RX11 236 yX11_joinsLast ∈ tc_tb := tc_tb5 104 (by decide +kernel) (by decide +kernel)
theorem wm_RX11_233 : Cond.methodLink RX11 233 yX11_isFlat ∈ tc_tb := tc_tb5 100 (by decide +kernel) (by decide +kernel)
theorem wf_RX11_51 : Cond.fieldLink RX11 51 "ToldChancesModel" "poolLeast" "[I" ∈ tc_tb := tc_tb4 34 (by decide +kernel) (by decide +kernel)
theorem wi_X11_findPools : Cond.instanceMethod yX11_findPools ∈ tc_tb := tc_tb5 98 (by decide +kernel) (by decide +kernel)
theorem wl_X11_findPools : Cond.selects RX11 yX11_findPools yX11_findPools ∈ tc_tb := tc_tbS 47 (by decide +kernel) (by decide +kernel)
theorem wc_X11_findPools : Cond.code yX11_findPools cX11_findPools 7 none ∈ tc_tb := tc_tb5 99 (by decide +kernel) (by decide +kernel)
theorem wm_RX11_239 : Cond.methodLink RX11 239 yX11_findPools ∈ tc_tb := tc_tb5 96 (by decide +kernel) (by decide +kernel)
theorem wi_X11_pools : Cond.instanceMethod yX11_pools ∈ tc_tb := tc_tb5 93 (by decide +kernel) (by decide +kernel)
theorem wl_X11_pools : Cond.selects RX11 yX11_pools yX11_pools ∈ tc_tb := tc_tb5 94 (by decide +kernel) (by decide +kernel)
theorem wc_X11_pools : Cond.code yX11_pools cX11_pools 2 (some .int) ∈ tc_tb := tc_tb5 95 (by decide +kernel) (by decide +kernel)
theorem wi_X11_pool : Cond.instanceMethod yX11_pool ∈ tc_tb := tc_tb5 109 (by decide +kernel) (by decide +kernel)
theorem wl_X11_pool : Cond.selects RX11 yX11_pool yX11_pool ∈ tc_tb := tc_tb5 110 (by decide +kernel) (by decide +kernel)
theorem wc_X11_pool : Cond.code yX11_pool cX11_pool 4 (some .int) ∈ tc_tb := tc_tb5 111 (by decide +kernel) (by decide +kernel)
theorem wi_X11_flat : Cond.instanceMethod yX11_flat ∈ tc_tb := tc_tb5 113 (by decide +kernel) (by decide +kernel)
theorem wl_X11_flat : Cond.selects RX11 yX11_flat yX11_flat ∈ tc_tb := tc_tb5 114 (by decide +kernel) (by decide +kernel)
theorem wc_X11_flat : Cond.code yX11_flat cX11_flat 6 (some .long) ∈ tc_tb := tc_tb5 115 (by decide +kernel) (by decide +kernel)
theorem wf_RX11_248 : Cond.fieldLink RX11 248 "ToldChancesModel" "second" "I" ∈ tc_tb := tc_tb4 40 (by decide +kernel) (by decide +kernel)
theorem wf_RX11_245 : Cond.fieldLink RX11 245 "ToldChancesModel" "first" "I" ∈ tc_tb := tc_tb4 39 (by decide +kernel) (by decide +kernel)
theorem wf_RX11_242 : Cond.fieldLink RX11 242 "ToldChancesModel" "both" "I" ∈ tc_tb := tc_tb4 38 (by decide +kernel) (by decide +kernel)
theorem wi_X11_compares : Cond.instanceMethod yX11_compares ∈ tc_tb := tc_tb5 122 (by decide +kernel) (by decide +kernel)
theorem wl_X11_compares : Cond.selects RX11 yX11_compares yX11_compares ∈ tc_tb := tc_tbS 50 (by decide +kernel) (by decide +kernel)
theorem wc_X11_compares : Cond.code yX11_compares cX11_compares 6 none ∈ tc_tb := tc_tb5 123 (by decide +kernel) (by decide +kernel)
theorem wm_RX11_251 : Cond.methodLink RX11 251 yX11_compares ∈ tc_tb := tc_tb5 120 (by decide +kernel) (by decide +kernel)
theorem wi_X11_better : Cond.instanceMethod yX11_better ∈ tc_tb := tc_tb5 117 (by decide +kernel) (by decide +kernel)
theorem wl_X11_better : Cond.selects RX11 yX11_better yX11_better ∈ tc_tb := tc_tb5 118 (by decide +kernel) (by decide +kernel)
theorem wc_X11_better : Cond.code yX11_better cX11_better 4 (some .int) ∈ tc_tb := tc_tb5 119 (by decide +kernel) (by decide +kernel)
theorem ws_X11_choose : Cond.static yX11_choose ∈ tc_tb := tc_tb5 129 (by decide +kernel) (by decide +kernel)
theorem wc_X11_choose : Cond.code yX11_choose cX11_choose 5 (some .long) ∈ tc_tb := tc_tb5 130 (by decide +kernel) (by decide +kernel)
theorem wm_RX11_254 : Cond.methodLink RX11 254 yX11_choose ∈ tc_tb := tc_tb5 128 (by decide +kernel) (by decide +kernel)
theorem wi_X11_luck : Cond.instanceMethod yX11_luck ∈ tc_tb := tc_tb5 125 (by decide +kernel) (by decide +kernel)
theorem wl_X11_luck : Cond.selects RX11 yX11_luck yX11_luck ∈ tc_tb := tc_tb5 126 (by decide +kernel) (by decide +kernel)
theorem wc_X11_luck : Cond.code yX11_luck cX11_luck 8 (some .long) ∈ tc_tb := tc_tb5 127 (by decide +kernel) (by decide +kernel)
theorem wf_RX11_63 : Cond.fieldLink RX11 63 "ToldChancesModel" "report" "[I" ∈ tc_tb := tc_tb4 41 (by decide +kernel) (by decide +kernel)
theorem wf_RX11_257 : Cond.fieldLink RX11 257 "ToldChancesModel" "written" "I" ∈ tc_tb := tc_tb4 42 (by decide +kernel) (by decide +kernel)
theorem wi_X11_writes : Cond.instanceMethod yX11_writes ∈ tc_tb := tc_tb5 141 (by decide +kernel) (by decide +kernel)
theorem wl_X11_writes : Cond.selects RX11 yX11_writes yX11_writes ∈ tc_tb := tc_tbS 52 (by decide +kernel) (by decide +kernel)
theorem wc_X11_writes : Cond.code yX11_writes cX11_writes 2 none ∈ tc_tb := tc_tb5 142 (by decide +kernel) (by decide +kernel)
theorem wj_RX11_262 : Cond.constantLong RX11 262 (10) ∈ tc_tb := tc_tb5 148 (by decide +kernel) (by decide +kernel)
theorem wm_RX11_264 : Cond.methodLink RX11 264 yX11_writes ∈ tc_tb := tc_tb5 139 (by decide +kernel) (by decide +kernel)
theorem wj_RX11_260 : Cond.constantLong RX11 260 (9) ∈ tc_tb := tc_tb5 147 (by decide +kernel) (by decide +kernel)
theorem wi_X11_writesNumber : Cond.instanceMethod yX11_writesNumber ∈ tc_tb := tc_tb5 145 (by decide +kernel) (by decide +kernel)
theorem wl_X11_writesNumber : Cond.selects RX11 yX11_writesNumber yX11_writesNumber ∈ tc_tb := tc_tbS 53 (by decide +kernel) (by decide +kernel)
theorem wc_X11_writesNumber : Cond.code yX11_writesNumber cX11_writesNumber 5 none ∈ tc_tb := tc_tb5 146 (by decide +kernel) (by decide +kernel)
theorem wm_RX11_267 : Cond.methodLink RX11 267 yX11_writesNumber ∈ tc_tb := tc_tb5 143 (by decide +kernel) (by decide +kernel)
theorem wi_X11_writesReport : Cond.instanceMethod yX11_writesReport ∈ tc_tb := tc_tb5 137 (by decide +kernel) (by decide +kernel)
theorem wl_X11_writesReport : Cond.selects RX11 yX11_writesReport yX11_writesReport ∈ tc_tb := tc_tbS 51 (by decide +kernel) (by decide +kernel)
theorem wc_X11_writesReport : Cond.code yX11_writesReport cX11_writesReport 5 none ∈ tc_tb := tc_tb5 138 (by decide +kernel) (by decide +kernel)
theorem wm_RX11_271 : Cond.methodLink RX11 271 yX11_writesReport ∈ tc_tb := tc_tb5 135 (by decide +kernel) (by decide +kernel)
theorem wi_X11_report : Cond.instanceMethod yX11_report ∈ tc_tb := tc_tb5 132 (by decide +kernel) (by decide +kernel)
theorem wl_X11_report : Cond.selects RX11 yX11_report yX11_report ∈ tc_tb := tc_tb5 133 (by decide +kernel) (by decide +kernel)
theorem wc_X11_report : Cond.code yX11_report cX11_report 3 (some .int) ∈ tc_tb := tc_tb5 134 (by decide +kernel) (by decide +kernel)
theorem wi_X11_many : Cond.instanceMethod yX11_many ∈ tc_tb := tc_tb5 150 (by decide +kernel) (by decide +kernel)
theorem wl_X11_many : Cond.selects RX11 yX11_many yX11_many ∈ tc_tb := tc_tb5 151 (by decide +kernel) (by decide +kernel)
theorem wc_X11_many : Cond.code yX11_many cX11_many 8 (some .int) ∈ tc_tb := tc_tb5 152 (by decide +kernel) (by decide +kernel)
end
section
theorem dX4_sharedBy_0 : decode cX4_sharedBy 0 = .ok (.lload_n 0, 1) := by decide +kernel
theorem dX4_sharedBy_1 : decode cX4_sharedBy 1 = .ok (.lstore 4, 2) := by decide +kernel
theorem dX4_sharedBy_3 : decode cX4_sharedBy 3 = .ok (.lload_n 2, 1) := by decide +kernel
theorem dX4_sharedBy_4 : decode cX4_sharedBy 4 = .ok (.lstore 6, 2) := by decide +kernel
theorem dX4_sharedBy_6 : decode cX4_sharedBy 6 = .ok (.iconst 0, 1) := by decide +kernel
theorem dX4_sharedBy_7 : decode cX4_sharedBy 7 = .ok (.istore 8, 2) := by decide +kernel
theorem dX4_sharedBy_9 : decode cX4_sharedBy 9 = .ok (.iload 8, 2) := by decide +kernel
theorem dX4_sharedBy_11 : decode cX4_sharedBy 11 = .ok (.bipush 100, 2) := by decide +kernel
theorem dX4_sharedBy_13 : decode cX4_sharedBy 13 = .ok (.if_icmp .ge 31, 3) := by decide +kernel
theorem dX4_sharedBy_16 : decode cX4_sharedBy 16 = .ok (.lload 6, 2) := by decide +kernel
theorem dX4_sharedBy_18 : decode cX4_sharedBy 18 = .ok (.lconst 0, 1) := by decide +kernel
theorem dX4_sharedBy_19 : decode cX4_sharedBy 19 = .ok (.lcmp, 1) := by decide +kernel
theorem dX4_sharedBy_20 : decode cX4_sharedBy 20 = .ok (.ifCond .eq 24, 3) := by decide +kernel
theorem dX4_sharedBy_23 : decode cX4_sharedBy 23 = .ok (.lload 4, 2) := by decide +kernel
theorem dX4_sharedBy_25 : decode cX4_sharedBy 25 = .ok (.lload 6, 2) := by decide +kernel
theorem dX4_sharedBy_27 : decode cX4_sharedBy 27 = .ok (.lrem, 1) := by decide +kernel
theorem dX4_sharedBy_28 : decode cX4_sharedBy 28 = .ok (.lstore 9, 2) := by decide +kernel
theorem dX4_sharedBy_30 : decode cX4_sharedBy 30 = .ok (.lload 6, 2) := by decide +kernel
theorem dX4_sharedBy_32 : decode cX4_sharedBy 32 = .ok (.lstore 4, 2) := by decide +kernel
theorem dX4_sharedBy_34 : decode cX4_sharedBy 34 = .ok (.lload 9, 2) := by decide +kernel
theorem dX4_sharedBy_36 : decode cX4_sharedBy 36 = .ok (.lstore 6, 2) := by decide +kernel
theorem dX4_sharedBy_38 : decode cX4_sharedBy 38 = .ok (.iinc 8 1, 3) := by decide +kernel
theorem dX4_sharedBy_41 : decode cX4_sharedBy 41 = .ok (.goto (-32), 3) := by decide +kernel
theorem dX4_sharedBy_44 : decode cX4_sharedBy 44 = .ok (.lload 4, 2) := by decide +kernel
theorem dX4_sharedBy_46 : decode cX4_sharedBy 46 = .ok (.lreturn, 1) := by decide +kernel
theorem dX4_become_0 : decode cX4_become 0 = .ok (.lload_n 1, 1) := by decide +kernel
theorem dX4_become_1 : decode cX4_become 1 = .ok (.invokestatic 16, 3) := by decide +kernel
theorem dX4_become_4 : decode cX4_become 4 = .ok (.lload_n 3, 1) := by decide +kernel
theorem dX4_become_5 : decode cX4_become 5 = .ok (.invokestatic 22, 3) := by decide +kernel
theorem dX4_become_8 : decode cX4_become 8 = .ok (.lstore 5, 2) := by decide +kernel
theorem dX4_become_10 : decode cX4_become 10 = .ok (.lload_n 3, 1) := by decide +kernel
theorem dX4_become_11 : decode cX4_become 11 = .ok (.lconst 0, 1) := by decide +kernel
theorem dX4_become_12 : decode cX4_become 12 = .ok (.lcmp, 1) := by decide +kernel
theorem dX4_become_13 : decode cX4_become 13 = .ok (.ifCond .le 26, 3) := by decide +kernel
theorem dX4_become_16 : decode cX4_become 16 = .ok (.lload 5, 2) := by decide +kernel
theorem dX4_become_18 : decode cX4_become 18 = .ok (.lconst 0, 1) := by decide +kernel
theorem dX4_become_19 : decode cX4_become 19 = .ok (.lcmp, 1) := by decide +kernel
theorem dX4_become_20 : decode cX4_become 20 = .ok (.ifCond .le 19, 3) := by decide +kernel
theorem dX4_become_23 : decode cX4_become 23 = .ok (.aload_n 0, 1) := by decide +kernel
theorem dX4_become_24 : decode cX4_become 24 = .ok (.lload_n 1, 1) := by decide +kernel
theorem dX4_become_25 : decode cX4_become 25 = .ok (.lload 5, 2) := by decide +kernel
theorem dX4_become_27 : decode cX4_become 27 = .ok (.ldiv, 1) := by decide +kernel
theorem dX4_become_28 : decode cX4_become 28 = .ok (.putfield 7, 3) := by decide +kernel
theorem dX4_become_31 : decode cX4_become 31 = .ok (.aload_n 0, 1) := by decide +kernel
theorem dX4_become_32 : decode cX4_become 32 = .ok (.lload_n 3, 1) := by decide +kernel
theorem dX4_become_33 : decode cX4_become 33 = .ok (.lload 5, 2) := by decide +kernel
theorem dX4_become_35 : decode cX4_become 35 = .ok (.ldiv, 1) := by decide +kernel
theorem dX4_become_36 : decode cX4_become 36 = .ok (.putfield 13, 3) := by decide +kernel
theorem dX4_become_39 : decode cX4_become 39 = .ok (.return_, 1) := by decide +kernel
theorem dX4_add_0 : decode cX4_add 0 = .ok (.aload_n 0, 1) := by decide +kernel
theorem dX4_add_1 : decode cX4_add 1 = .ok (.getfield 13, 3) := by decide +kernel
theorem dX4_add_4 : decode cX4_add 4 = .ok (.lload_n 3, 1) := by decide +kernel
theorem dX4_add_5 : decode cX4_add 5 = .ok (.invokestatic 22, 3) := by decide +kernel
theorem dX4_add_8 : decode cX4_add 8 = .ok (.lstore 5, 2) := by decide +kernel
theorem dX4_add_10 : decode cX4_add 10 = .ok (.lload 5, 2) := by decide +kernel
theorem dX4_add_12 : decode cX4_add 12 = .ok (.lconst 0, 1) := by decide +kernel
theorem dX4_add_13 : decode cX4_add 13 = .ok (.lcmp, 1) := by decide +kernel
theorem dX4_add_14 : decode cX4_add 14 = .ok (.ifCond .le 37, 3) := by decide +kernel
theorem dX4_add_17 : decode cX4_add 17 = .ok (.lload_n 3, 1) := by decide +kernel
theorem dX4_add_18 : decode cX4_add 18 = .ok (.lload 5, 2) := by decide +kernel
theorem dX4_add_20 : decode cX4_add 20 = .ok (.ldiv, 1) := by decide +kernel
theorem dX4_add_21 : decode cX4_add 21 = .ok (.lstore 7, 2) := by decide +kernel
theorem dX4_add_23 : decode cX4_add 23 = .ok (.aload_n 0, 1) := by decide +kernel
theorem dX4_add_24 : decode cX4_add 24 = .ok (.aload_n 0, 1) := by decide +kernel
theorem dX4_add_25 : decode cX4_add 25 = .ok (.getfield 7, 3) := by decide +kernel
theorem dX4_add_28 : decode cX4_add 28 = .ok (.lload 7, 2) := by decide +kernel
theorem dX4_add_30 : decode cX4_add 30 = .ok (.lmul, 1) := by decide +kernel
theorem dX4_add_31 : decode cX4_add 31 = .ok (.lload_n 1, 1) := by decide +kernel
theorem dX4_add_32 : decode cX4_add 32 = .ok (.aload_n 0, 1) := by decide +kernel
theorem dX4_add_33 : decode cX4_add 33 = .ok (.getfield 13, 3) := by decide +kernel
theorem dX4_add_36 : decode cX4_add 36 = .ok (.lload 5, 2) := by decide +kernel
theorem dX4_add_38 : decode cX4_add 38 = .ok (.ldiv, 1) := by decide +kernel
theorem dX4_add_39 : decode cX4_add 39 = .ok (.lmul, 1) := by decide +kernel
theorem dX4_add_40 : decode cX4_add 40 = .ok (.ladd, 1) := by decide +kernel
theorem dX4_add_41 : decode cX4_add 41 = .ok (.aload_n 0, 1) := by decide +kernel
theorem dX4_add_42 : decode cX4_add 42 = .ok (.getfield 13, 3) := by decide +kernel
theorem dX4_add_45 : decode cX4_add 45 = .ok (.lload 7, 2) := by decide +kernel
theorem dX4_add_47 : decode cX4_add 47 = .ok (.lmul, 1) := by decide +kernel
theorem dX4_add_48 : decode cX4_add 48 = .ok (.invokevirtual 26, 3) := by decide +kernel
theorem dX4_add_51 : decode cX4_add 51 = .ok (.return_, 1) := by decide +kernel
theorem dX4_divideBy_0 : decode cX4_divideBy 0 = .ok (.aload_n 0, 1) := by decide +kernel
theorem dX4_divideBy_1 : decode cX4_divideBy 1 = .ok (.aload_n 0, 1) := by decide +kernel
theorem dX4_divideBy_2 : decode cX4_divideBy 2 = .ok (.getfield 7, 3) := by decide +kernel
theorem dX4_divideBy_5 : decode cX4_divideBy 5 = .ok (.aload_n 0, 1) := by decide +kernel
theorem dX4_divideBy_6 : decode cX4_divideBy 6 = .ok (.getfield 13, 3) := by decide +kernel
theorem dX4_divideBy_9 : decode cX4_divideBy 9 = .ok (.lload_n 1, 1) := by decide +kernel
theorem dX4_divideBy_10 : decode cX4_divideBy 10 = .ok (.lmul, 1) := by decide +kernel
theorem dX4_divideBy_11 : decode cX4_divideBy 11 = .ok (.invokevirtual 26, 3) := by decide +kernel
theorem dX4_divideBy_14 : decode cX4_divideBy 14 = .ok (.return_, 1) := by decide +kernel
theorem dX1_swapChance_0 : decode cX1_swapChance 0 = .ok (.aload_n 0, 1) := by decide +kernel
theorem dX1_swapChance_1 : decode cX1_swapChance 1 = .ok (.getfield 9, 3) := by decide +kernel
theorem dX1_swapChance_4 : decode cX1_swapChance 4 = .ok (.iload_n 1, 1) := by decide +kernel
theorem dX1_swapChance_5 : decode cX1_swapChance 5 = .ok (.bipush 40, 2) := by decide +kernel
theorem dX1_swapChance_7 : decode cX1_swapChance 7 = .ok (.imul, 1) := by decide +kernel
theorem dX1_swapChance_8 : decode cX1_swapChance 8 = .ok (.iload_n 2, 1) := by decide +kernel
theorem dX1_swapChance_9 : decode cX1_swapChance 9 = .ok (.iadd, 1) := by decide +kernel
theorem dX1_swapChance_10 : decode cX1_swapChance 10 = .ok (.iaload, 1) := by decide +kernel
theorem dX1_swapChance_11 : decode cX1_swapChance 11 = .ok (.istore 4, 2) := by decide +kernel
theorem dX1_swapChance_13 : decode cX1_swapChance 13 = .ok (.aload_n 0, 1) := by decide +kernel
theorem dX1_swapChance_14 : decode cX1_swapChance 14 = .ok (.getfield 9, 3) := by decide +kernel
theorem dX1_swapChance_17 : decode cX1_swapChance 17 = .ok (.iload_n 1, 1) := by decide +kernel
theorem dX1_swapChance_18 : decode cX1_swapChance 18 = .ok (.bipush 40, 2) := by decide +kernel
theorem dX1_swapChance_20 : decode cX1_swapChance 20 = .ok (.imul, 1) := by decide +kernel
theorem dX1_swapChance_21 : decode cX1_swapChance 21 = .ok (.iload_n 2, 1) := by decide +kernel
theorem dX1_swapChance_22 : decode cX1_swapChance 22 = .ok (.iadd, 1) := by decide +kernel
theorem dX1_swapChance_23 : decode cX1_swapChance 23 = .ok (.iload_n 3, 1) := by decide +kernel
theorem dX1_swapChance_24 : decode cX1_swapChance 24 = .ok (.iastore, 1) := by decide +kernel
theorem dX1_swapChance_25 : decode cX1_swapChance 25 = .ok (.iload 4, 2) := by decide +kernel
theorem dX1_swapChance_27 : decode cX1_swapChance 27 = .ok (.ireturn, 1) := by decide +kernel
theorem dX1_swapState_0 : decode cX1_swapState 0 = .ok (.aload_n 0, 1) := by decide +kernel
theorem dX1_swapState_1 : decode cX1_swapState 1 = .ok (.getfield 18, 3) := by decide +kernel
theorem dX1_swapState_4 : decode cX1_swapState 4 = .ok (.iload_n 1, 1) := by decide +kernel
theorem dX1_swapState_5 : decode cX1_swapState 5 = .ok (.iaload, 1) := by decide +kernel
theorem dX1_swapState_6 : decode cX1_swapState 6 = .ok (.istore_n 3, 1) := by decide +kernel
theorem dX1_swapState_7 : decode cX1_swapState 7 = .ok (.aload_n 0, 1) := by decide +kernel
theorem dX1_swapState_8 : decode cX1_swapState 8 = .ok (.getfield 18, 3) := by decide +kernel
theorem dX1_swapState_11 : decode cX1_swapState 11 = .ok (.iload_n 1, 1) := by decide +kernel
theorem dX1_swapState_12 : decode cX1_swapState 12 = .ok (.iload_n 2, 1) := by decide +kernel
theorem dX1_swapState_13 : decode cX1_swapState 13 = .ok (.iastore, 1) := by decide +kernel
theorem dX1_swapState_14 : decode cX1_swapState 14 = .ok (.iload_n 3, 1) := by decide +kernel
theorem dX1_swapState_15 : decode cX1_swapState 15 = .ok (.ireturn, 1) := by decide +kernel
theorem dX1_swapWeight_0 : decode cX1_swapWeight 0 = .ok (.aload_n 0, 1) := by decide +kernel
theorem dX1_swapWeight_1 : decode cX1_swapWeight 1 = .ok (.getfield 15, 3) := by decide +kernel
theorem dX1_swapWeight_4 : decode cX1_swapWeight 4 = .ok (.iload_n 1, 1) := by decide +kernel
theorem dX1_swapWeight_5 : decode cX1_swapWeight 5 = .ok (.iaload, 1) := by decide +kernel
theorem dX1_swapWeight_6 : decode cX1_swapWeight 6 = .ok (.istore_n 3, 1) := by decide +kernel
theorem dX1_swapWeight_7 : decode cX1_swapWeight 7 = .ok (.aload_n 0, 1) := by decide +kernel
theorem dX1_swapWeight_8 : decode cX1_swapWeight 8 = .ok (.getfield 15, 3) := by decide +kernel
theorem dX1_swapWeight_11 : decode cX1_swapWeight 11 = .ok (.iload_n 1, 1) := by decide +kernel
theorem dX1_swapWeight_12 : decode cX1_swapWeight 12 = .ok (.iload_n 2, 1) := by decide +kernel
theorem dX1_swapWeight_13 : decode cX1_swapWeight 13 = .ok (.iastore, 1) := by decide +kernel
theorem dX1_swapWeight_14 : decode cX1_swapWeight 14 = .ok (.iload_n 3, 1) := by decide +kernel
theorem dX1_swapWeight_15 : decode cX1_swapWeight 15 = .ok (.ireturn, 1) := by decide +kernel
theorem dX1_mixedChance_0 : decode cX1_mixedChance 0 = .ok (.iconst 0, 1) := by decide +kernel
theorem dX1_mixedChance_1 : decode cX1_mixedChance 1 = .ok (.istore_n 2, 1) := by decide +kernel
theorem dX1_mixedChance_2 : decode cX1_mixedChance 2 = .ok (.iconst 0, 1) := by decide +kernel
theorem dX1_mixedChance_3 : decode cX1_mixedChance 3 = .ok (.istore_n 3, 1) := by decide +kernel
theorem dX1_mixedChance_4 : decode cX1_mixedChance 4 = .ok (.iconst 0, 1) := by decide +kernel
theorem dX1_mixedChance_5 : decode cX1_mixedChance 5 = .ok (.istore 4, 2) := by decide +kernel
theorem dX1_mixedChance_7 : decode cX1_mixedChance 7 = .ok (.iload 4, 2) := by decide +kernel
theorem dX1_mixedChance_9 : decode cX1_mixedChance 9 = .ok (.iconst 4, 1) := by decide +kernel
theorem dX1_mixedChance_10 : decode cX1_mixedChance 10 = .ok (.if_icmp .ge 53, 3) := by decide +kernel
theorem dX1_mixedChance_13 : decode cX1_mixedChance 13 = .ok (.aload_n 0, 1) := by decide +kernel
theorem dX1_mixedChance_14 : decode cX1_mixedChance 14 = .ok (.getfield 9, 3) := by decide +kernel
theorem dX1_mixedChance_17 : decode cX1_mixedChance 17 = .ok (.iload 4, 2) := by decide +kernel
theorem dX1_mixedChance_19 : decode cX1_mixedChance 19 = .ok (.bipush 40, 2) := by decide +kernel
theorem dX1_mixedChance_21 : decode cX1_mixedChance 21 = .ok (.imul, 1) := by decide +kernel
theorem dX1_mixedChance_22 : decode cX1_mixedChance 22 = .ok (.iload_n 1, 1) := by decide +kernel
theorem dX1_mixedChance_23 : decode cX1_mixedChance 23 = .ok (.iadd, 1) := by decide +kernel
theorem dX1_mixedChance_24 : decode cX1_mixedChance 24 = .ok (.iaload, 1) := by decide +kernel
theorem dX1_mixedChance_25 : decode cX1_mixedChance 25 = .ok (.istore 5, 2) := by decide +kernel
theorem dX1_mixedChance_27 : decode cX1_mixedChance 27 = .ok (.iload 5, 2) := by decide +kernel
theorem dX1_mixedChance_29 : decode cX1_mixedChance 29 = .ok (.bipush (-9), 2) := by decide +kernel
theorem dX1_mixedChance_31 : decode cX1_mixedChance 31 = .ok (.if_icmp .eq 26, 3) := by decide +kernel
theorem dX1_mixedChance_34 : decode cX1_mixedChance 34 = .ok (.iload_n 2, 1) := by decide +kernel
theorem dX1_mixedChance_35 : decode cX1_mixedChance 35 = .ok (.aload_n 0, 1) := by decide +kernel
theorem dX1_mixedChance_36 : decode cX1_mixedChance 36 = .ok (.getfield 15, 3) := by decide +kernel
theorem dX1_mixedChance_39 : decode cX1_mixedChance 39 = .ok (.iload 4, 2) := by decide +kernel
theorem dX1_mixedChance_41 : decode cX1_mixedChance 41 = .ok (.iaload, 1) := by decide +kernel
theorem dX1_mixedChance_42 : decode cX1_mixedChance 42 = .ok (.iload 5, 2) := by decide +kernel
theorem dX1_mixedChance_44 : decode cX1_mixedChance 44 = .ok (.imul, 1) := by decide +kernel
theorem dX1_mixedChance_45 : decode cX1_mixedChance 45 = .ok (.iadd, 1) := by decide +kernel
theorem dX1_mixedChance_46 : decode cX1_mixedChance 46 = .ok (.istore_n 2, 1) := by decide +kernel
theorem dX1_mixedChance_47 : decode cX1_mixedChance 47 = .ok (.iload_n 3, 1) := by decide +kernel
theorem dX1_mixedChance_48 : decode cX1_mixedChance 48 = .ok (.aload_n 0, 1) := by decide +kernel
theorem dX1_mixedChance_49 : decode cX1_mixedChance 49 = .ok (.getfield 15, 3) := by decide +kernel
theorem dX1_mixedChance_52 : decode cX1_mixedChance 52 = .ok (.iload 4, 2) := by decide +kernel
theorem dX1_mixedChance_54 : decode cX1_mixedChance 54 = .ok (.iaload, 1) := by decide +kernel
theorem dX1_mixedChance_55 : decode cX1_mixedChance 55 = .ok (.iadd, 1) := by decide +kernel
theorem dX1_mixedChance_56 : decode cX1_mixedChance 56 = .ok (.istore_n 3, 1) := by decide +kernel
theorem dX1_mixedChance_57 : decode cX1_mixedChance 57 = .ok (.iinc 4 1, 3) := by decide +kernel
theorem dX1_mixedChance_60 : decode cX1_mixedChance 60 = .ok (.goto (-53), 3) := by decide +kernel
theorem dX1_mixedChance_63 : decode cX1_mixedChance 63 = .ok (.iload_n 3, 1) := by decide +kernel
theorem dX1_mixedChance_64 : decode cX1_mixedChance 64 = .ok (.ifCond .ne 6, 3) := by decide +kernel
theorem dX1_mixedChance_67 : decode cX1_mixedChance 67 = .ok (.bipush (-9), 2) := by decide +kernel
theorem dX1_mixedChance_69 : decode cX1_mixedChance 69 = .ok (.ireturn, 1) := by decide +kernel
theorem dX1_mixedChance_70 : decode cX1_mixedChance 70 = .ok (.iconst 2, 1) := by decide +kernel
theorem dX1_mixedChance_71 : decode cX1_mixedChance 71 = .ok (.iload_n 2, 1) := by decide +kernel
theorem dX1_mixedChance_72 : decode cX1_mixedChance 72 = .ok (.imul, 1) := by decide +kernel
theorem dX1_mixedChance_73 : decode cX1_mixedChance 73 = .ok (.iload_n 3, 1) := by decide +kernel
theorem dX1_mixedChance_74 : decode cX1_mixedChance 74 = .ok (.iadd, 1) := by decide +kernel
theorem dX1_mixedChance_75 : decode cX1_mixedChance 75 = .ok (.iconst 2, 1) := by decide +kernel
theorem dX1_mixedChance_76 : decode cX1_mixedChance 76 = .ok (.iload_n 3, 1) := by decide +kernel
theorem dX1_mixedChance_77 : decode cX1_mixedChance 77 = .ok (.imul, 1) := by decide +kernel
theorem dX1_mixedChance_78 : decode cX1_mixedChance 78 = .ok (.idiv, 1) := by decide +kernel
theorem dX1_mixedChance_79 : decode cX1_mixedChance 79 = .ok (.ireturn, 1) := by decide +kernel
theorem dX1_chanceOf_0 : decode cX1_chanceOf 0 = .ok (.iload_n 1, 1) := by decide +kernel
theorem dX1_chanceOf_1 : decode cX1_chanceOf 1 = .ok (.iconst 4, 1) := by decide +kernel
theorem dX1_chanceOf_2 : decode cX1_chanceOf 2 = .ok (.if_icmp .ne 11, 3) := by decide +kernel
theorem dX1_chanceOf_5 : decode cX1_chanceOf 5 = .ok (.aload_n 0, 1) := by decide +kernel
theorem dX1_chanceOf_6 : decode cX1_chanceOf 6 = .ok (.iload_n 2, 1) := by decide +kernel
theorem dX1_chanceOf_7 : decode cX1_chanceOf 7 = .ok (.invokevirtual 21, 3) := by decide +kernel
theorem dX1_chanceOf_10 : decode cX1_chanceOf 10 = .ok (.goto 14, 3) := by decide +kernel
theorem dX1_chanceOf_13 : decode cX1_chanceOf 13 = .ok (.aload_n 0, 1) := by decide +kernel
theorem dX1_chanceOf_14 : decode cX1_chanceOf 14 = .ok (.getfield 9, 3) := by decide +kernel
theorem dX1_chanceOf_17 : decode cX1_chanceOf 17 = .ok (.iload_n 1, 1) := by decide +kernel
theorem dX1_chanceOf_18 : decode cX1_chanceOf 18 = .ok (.bipush 40, 2) := by decide +kernel
theorem dX1_chanceOf_20 : decode cX1_chanceOf 20 = .ok (.imul, 1) := by decide +kernel
theorem dX1_chanceOf_21 : decode cX1_chanceOf 21 = .ok (.iload_n 2, 1) := by decide +kernel
theorem dX1_chanceOf_22 : decode cX1_chanceOf 22 = .ok (.iadd, 1) := by decide +kernel
theorem dX1_chanceOf_23 : decode cX1_chanceOf 23 = .ok (.iaload, 1) := by decide +kernel
theorem dX1_chanceOf_24 : decode cX1_chanceOf 24 = .ok (.ireturn, 1) := by decide +kernel
theorem dX1_isCase_0 : decode cX1_isCase 0 = .ok (.aload_n 0, 1) := by decide +kernel
theorem dX1_isCase_1 : decode cX1_isCase 1 = .ok (.getfield 18, 3) := by decide +kernel
theorem dX1_isCase_4 : decode cX1_isCase 4 = .ok (.iload_n 2, 1) := by decide +kernel
theorem dX1_isCase_5 : decode cX1_isCase 5 = .ok (.iaload, 1) := by decide +kernel
theorem dX1_isCase_6 : decode cX1_isCase 6 = .ok (.ifCond .eq 18, 3) := by decide +kernel
theorem dX1_isCase_9 : decode cX1_isCase 9 = .ok (.aload_n 0, 1) := by decide +kernel
theorem dX1_isCase_10 : decode cX1_isCase 10 = .ok (.iload_n 1, 1) := by decide +kernel
theorem dX1_isCase_11 : decode cX1_isCase 11 = .ok (.iload_n 2, 1) := by decide +kernel
theorem dX1_isCase_12 : decode cX1_isCase 12 = .ok (.invokevirtual 25, 3) := by decide +kernel
theorem dX1_isCase_15 : decode cX1_isCase 15 = .ok (.bipush (-9), 2) := by decide +kernel
theorem dX1_isCase_17 : decode cX1_isCase 17 = .ok (.if_icmp .eq 7, 3) := by decide +kernel
theorem dX1_isCase_20 : decode cX1_isCase 20 = .ok (.iconst 1, 1) := by decide +kernel
theorem dX1_isCase_21 : decode cX1_isCase 21 = .ok (.goto 4, 3) := by decide +kernel
theorem dX1_isCase_24 : decode cX1_isCase 24 = .ok (.iconst 0, 1) := by decide +kernel
theorem dX1_isCase_25 : decode cX1_isCase 25 = .ok (.ireturn, 1) := by decide +kernel
theorem dX1_countState_0 : decode cX1_countState 0 = .ok (.iconst 0, 1) := by decide +kernel
theorem dX1_countState_1 : decode cX1_countState 1 = .ok (.istore_n 2, 1) := by decide +kernel
theorem dX1_countState_2 : decode cX1_countState 2 = .ok (.iconst 0, 1) := by decide +kernel
theorem dX1_countState_3 : decode cX1_countState 3 = .ok (.istore_n 3, 1) := by decide +kernel
theorem dX1_countState_4 : decode cX1_countState 4 = .ok (.iload_n 3, 1) := by decide +kernel
theorem dX1_countState_5 : decode cX1_countState 5 = .ok (.bipush 40, 2) := by decide +kernel
theorem dX1_countState_7 : decode cX1_countState 7 = .ok (.if_icmp .ge 22, 3) := by decide +kernel
theorem dX1_countState_10 : decode cX1_countState 10 = .ok (.aload_n 0, 1) := by decide +kernel
theorem dX1_countState_11 : decode cX1_countState 11 = .ok (.getfield 18, 3) := by decide +kernel
theorem dX1_countState_14 : decode cX1_countState 14 = .ok (.iload_n 3, 1) := by decide +kernel
theorem dX1_countState_15 : decode cX1_countState 15 = .ok (.iaload, 1) := by decide +kernel
theorem dX1_countState_16 : decode cX1_countState 16 = .ok (.iload_n 1, 1) := by decide +kernel
theorem dX1_countState_17 : decode cX1_countState 17 = .ok (.if_icmp .ne 6, 3) := by decide +kernel
theorem dX1_countState_20 : decode cX1_countState 20 = .ok (.iinc 2 1, 3) := by decide +kernel
theorem dX1_countState_23 : decode cX1_countState 23 = .ok (.iinc 3 1, 3) := by decide +kernel
theorem dX1_countState_26 : decode cX1_countState 26 = .ok (.goto (-22), 3) := by decide +kernel
theorem dX1_countState_29 : decode cX1_countState 29 = .ok (.iload_n 2, 1) := by decide +kernel
theorem dX1_countState_30 : decode cX1_countState 30 = .ok (.ireturn, 1) := by decide +kernel
theorem dX1_countTold_0 : decode cX1_countTold 0 = .ok (.iconst 0, 1) := by decide +kernel
theorem dX1_countTold_1 : decode cX1_countTold 1 = .ok (.istore_n 1, 1) := by decide +kernel
theorem dX1_countTold_2 : decode cX1_countTold 2 = .ok (.iconst 0, 1) := by decide +kernel
theorem dX1_countTold_3 : decode cX1_countTold 3 = .ok (.istore_n 2, 1) := by decide +kernel
theorem dX1_countTold_4 : decode cX1_countTold 4 = .ok (.iload_n 2, 1) := by decide +kernel
theorem dX1_countTold_5 : decode cX1_countTold 5 = .ok (.aload_n 0, 1) := by decide +kernel
theorem dX1_countTold_6 : decode cX1_countTold 6 = .ok (.getfield 9, 3) := by decide +kernel
theorem dX1_countTold_9 : decode cX1_countTold 9 = .ok (.arraylength, 1) := by decide +kernel
theorem dX1_countTold_10 : decode cX1_countTold 10 = .ok (.if_icmp .ge 23, 3) := by decide +kernel
theorem dX1_countTold_13 : decode cX1_countTold 13 = .ok (.aload_n 0, 1) := by decide +kernel
theorem dX1_countTold_14 : decode cX1_countTold 14 = .ok (.getfield 9, 3) := by decide +kernel
theorem dX1_countTold_17 : decode cX1_countTold 17 = .ok (.iload_n 2, 1) := by decide +kernel
theorem dX1_countTold_18 : decode cX1_countTold 18 = .ok (.iaload, 1) := by decide +kernel
theorem dX1_countTold_19 : decode cX1_countTold 19 = .ok (.bipush (-9), 2) := by decide +kernel
theorem dX1_countTold_21 : decode cX1_countTold 21 = .ok (.if_icmp .eq 6, 3) := by decide +kernel
theorem dX1_countTold_24 : decode cX1_countTold 24 = .ok (.iinc 1 1, 3) := by decide +kernel
theorem dX1_countTold_27 : decode cX1_countTold 27 = .ok (.iinc 2 1, 3) := by decide +kernel
theorem dX1_countTold_30 : decode cX1_countTold 30 = .ok (.goto (-26), 3) := by decide +kernel
theorem dX1_countTold_33 : decode cX1_countTold 33 = .ok (.iload_n 1, 1) := by decide +kernel
theorem dX1_countTold_34 : decode cX1_countTold 34 = .ok (.ireturn, 1) := by decide +kernel
theorem dX1_countCases_0 : decode cX1_countCases 0 = .ok (.iconst 0, 1) := by decide +kernel
theorem dX1_countCases_1 : decode cX1_countCases 1 = .ok (.istore_n 1, 1) := by decide +kernel
theorem dX1_countCases_2 : decode cX1_countCases 2 = .ok (.iconst 0, 1) := by decide +kernel
theorem dX1_countCases_3 : decode cX1_countCases 3 = .ok (.istore_n 2, 1) := by decide +kernel
theorem dX1_countCases_4 : decode cX1_countCases 4 = .ok (.iload_n 2, 1) := by decide +kernel
theorem dX1_countCases_5 : decode cX1_countCases 5 = .ok (.iconst 4, 1) := by decide +kernel
theorem dX1_countCases_6 : decode cX1_countCases 6 = .ok (.if_icmp .ge 35, 3) := by decide +kernel
theorem dX1_countCases_9 : decode cX1_countCases 9 = .ok (.iconst 0, 1) := by decide +kernel
theorem dX1_countCases_10 : decode cX1_countCases 10 = .ok (.istore_n 3, 1) := by decide +kernel
theorem dX1_countCases_11 : decode cX1_countCases 11 = .ok (.iload_n 3, 1) := by decide +kernel
theorem dX1_countCases_12 : decode cX1_countCases 12 = .ok (.bipush 40, 2) := by decide +kernel
theorem dX1_countCases_14 : decode cX1_countCases 14 = .ok (.if_icmp .ge 21, 3) := by decide +kernel
theorem dX1_countCases_17 : decode cX1_countCases 17 = .ok (.aload_n 0, 1) := by decide +kernel
theorem dX1_countCases_18 : decode cX1_countCases 18 = .ok (.iload_n 2, 1) := by decide +kernel
theorem dX1_countCases_19 : decode cX1_countCases 19 = .ok (.iload_n 3, 1) := by decide +kernel
theorem dX1_countCases_20 : decode cX1_countCases 20 = .ok (.invokevirtual 29, 3) := by decide +kernel
theorem dX1_countCases_23 : decode cX1_countCases 23 = .ok (.ifCond .eq 6, 3) := by decide +kernel
theorem dX1_countCases_26 : decode cX1_countCases 26 = .ok (.iinc 1 1, 3) := by decide +kernel
theorem dX1_countCases_29 : decode cX1_countCases 29 = .ok (.iinc 3 1, 3) := by decide +kernel
theorem dX1_countCases_32 : decode cX1_countCases 32 = .ok (.goto (-21), 3) := by decide +kernel
theorem dX1_countCases_35 : decode cX1_countCases 35 = .ok (.iinc 2 1, 3) := by decide +kernel
theorem dX1_countCases_38 : decode cX1_countCases 38 = .ok (.goto (-34), 3) := by decide +kernel
theorem dX1_countCases_41 : decode cX1_countCases 41 = .ok (.iload_n 1, 1) := by decide +kernel
theorem dX1_countCases_42 : decode cX1_countCases 42 = .ok (.ireturn, 1) := by decide +kernel
theorem dX2_gather_0 : decode cX2_gather 0 = .ok (.aload_n 0, 1) := by decide +kernel
theorem dX2_gather_1 : decode cX2_gather 1 = .ok (.iconst 0, 1) := by decide +kernel
theorem dX2_gather_2 : decode cX2_gather 2 = .ok (.putfield 19, 3) := by decide +kernel
theorem dX2_gather_5 : decode cX2_gather 5 = .ok (.aload_n 0, 1) := by decide +kernel
theorem dX2_gather_6 : decode cX2_gather 6 = .ok (.iconst 0, 1) := by decide +kernel
theorem dX2_gather_7 : decode cX2_gather 7 = .ok (.putfield 23, 3) := by decide +kernel
theorem dX2_gather_10 : decode cX2_gather 10 = .ok (.iconst 0, 1) := by decide +kernel
theorem dX2_gather_11 : decode cX2_gather 11 = .ok (.istore_n 3, 1) := by decide +kernel
theorem dX2_gather_12 : decode cX2_gather 12 = .ok (.iload_n 3, 1) := by decide +kernel
theorem dX2_gather_13 : decode cX2_gather 13 = .ok (.bipush 40, 2) := by decide +kernel
theorem dX2_gather_15 : decode cX2_gather 15 = .ok (.if_icmp .ge 89, 3) := by decide +kernel
theorem dX2_gather_18 : decode cX2_gather 18 = .ok (.aload_n 1, 1) := by decide +kernel
theorem dX2_gather_19 : decode cX2_gather 19 = .ok (.iload_n 2, 1) := by decide +kernel
theorem dX2_gather_20 : decode cX2_gather 20 = .ok (.iload_n 3, 1) := by decide +kernel
theorem dX2_gather_21 : decode cX2_gather 21 = .ok (.invokevirtual 26, 3) := by decide +kernel
theorem dX2_gather_24 : decode cX2_gather 24 = .ok (.ifCond .eq 74, 3) := by decide +kernel
theorem dX2_gather_27 : decode cX2_gather 27 = .ok (.aload_n 0, 1) := by decide +kernel
theorem dX2_gather_28 : decode cX2_gather 28 = .ok (.getfield 9, 3) := by decide +kernel
theorem dX2_gather_31 : decode cX2_gather 31 = .ok (.aload_n 0, 1) := by decide +kernel
theorem dX2_gather_32 : decode cX2_gather 32 = .ok (.getfield 19, 3) := by decide +kernel
theorem dX2_gather_35 : decode cX2_gather 35 = .ok (.aload_n 1, 1) := by decide +kernel
theorem dX2_gather_36 : decode cX2_gather 36 = .ok (.iload_n 2, 1) := by decide +kernel
theorem dX2_gather_37 : decode cX2_gather 37 = .ok (.iload_n 3, 1) := by decide +kernel
theorem dX2_gather_38 : decode cX2_gather 38 = .ok (.invokevirtual 32, 3) := by decide +kernel
theorem dX2_gather_41 : decode cX2_gather 41 = .ok (.iastore, 1) := by decide +kernel
theorem dX2_gather_42 : decode cX2_gather 42 = .ok (.aload_n 0, 1) := by decide +kernel
theorem dX2_gather_43 : decode cX2_gather 43 = .ok (.getfield 15, 3) := by decide +kernel
theorem dX2_gather_46 : decode cX2_gather 46 = .ok (.aload_n 0, 1) := by decide +kernel
theorem dX2_gather_47 : decode cX2_gather 47 = .ok (.getfield 19, 3) := by decide +kernel
theorem dX2_gather_50 : decode cX2_gather 50 = .ok (.aload_n 1, 1) := by decide +kernel
theorem dX2_gather_51 : decode cX2_gather 51 = .ok (.getfield 36, 3) := by decide +kernel
theorem dX2_gather_54 : decode cX2_gather 54 = .ok (.iload_n 3, 1) := by decide +kernel
theorem dX2_gather_55 : decode cX2_gather 55 = .ok (.iaload, 1) := by decide +kernel
theorem dX2_gather_56 : decode cX2_gather 56 = .ok (.iconst 1, 1) := by decide +kernel
theorem dX2_gather_57 : decode cX2_gather 57 = .ok (.if_icmp .ne 7, 3) := by decide +kernel
theorem dX2_gather_60 : decode cX2_gather 60 = .ok (.iconst 1, 1) := by decide +kernel
theorem dX2_gather_61 : decode cX2_gather 61 = .ok (.goto 4, 3) := by decide +kernel
theorem dX2_gather_64 : decode cX2_gather 64 = .ok (.iconst 0, 1) := by decide +kernel
theorem dX2_gather_65 : decode cX2_gather 65 = .ok (.bastore, 1) := by decide +kernel
theorem dX2_gather_66 : decode cX2_gather 66 = .ok (.aload_n 0, 1) := by decide +kernel
theorem dX2_gather_67 : decode cX2_gather 67 = .ok (.getfield 15, 3) := by decide +kernel
theorem dX2_gather_70 : decode cX2_gather 70 = .ok (.aload_n 0, 1) := by decide +kernel
theorem dX2_gather_71 : decode cX2_gather 71 = .ok (.getfield 19, 3) := by decide +kernel
theorem dX2_gather_74 : decode cX2_gather 74 = .ok (.baload, 1) := by decide +kernel
theorem dX2_gather_75 : decode cX2_gather 75 = .ok (.ifCond .eq 13, 3) := by decide +kernel
theorem dX2_gather_78 : decode cX2_gather 78 = .ok (.aload_n 0, 1) := by decide +kernel
theorem dX2_gather_79 : decode cX2_gather 79 = .ok (.dup, 1) := by decide +kernel
theorem dX2_gather_80 : decode cX2_gather 80 = .ok (.getfield 23, 3) := by decide +kernel
theorem dX2_gather_83 : decode cX2_gather 83 = .ok (.iconst 1, 1) := by decide +kernel
theorem dX2_gather_84 : decode cX2_gather 84 = .ok (.iadd, 1) := by decide +kernel
theorem dX2_gather_85 : decode cX2_gather 85 = .ok (.putfield 23, 3) := by decide +kernel
theorem dX2_gather_88 : decode cX2_gather 88 = .ok (.aload_n 0, 1) := by decide +kernel
theorem dX2_gather_89 : decode cX2_gather 89 = .ok (.dup, 1) := by decide +kernel
theorem dX2_gather_90 : decode cX2_gather 90 = .ok (.getfield 19, 3) := by decide +kernel
theorem dX2_gather_93 : decode cX2_gather 93 = .ok (.iconst 1, 1) := by decide +kernel
theorem dX2_gather_94 : decode cX2_gather 94 = .ok (.iadd, 1) := by decide +kernel
theorem dX2_gather_95 : decode cX2_gather 95 = .ok (.putfield 19, 3) := by decide +kernel
theorem dX2_gather_98 : decode cX2_gather 98 = .ok (.iinc 3 1, 3) := by decide +kernel
theorem dX2_gather_101 : decode cX2_gather 101 = .ok (.goto (-89), 3) := by decide +kernel
theorem dX2_gather_104 : decode cX2_gather 104 = .ok (.return_, 1) := by decide +kernel
theorem dX8_missOf_0 : decode cX8_missOf 0 = .ok (.iload_n 2, 1) := by decide +kernel
theorem dX8_missOf_1 : decode cX8_missOf 1 = .ok (.ifCond .eq 10, 3) := by decide +kernel
theorem dX8_missOf_4 : decode cX8_missOf 4 = .ok (.bipush 100, 2) := by decide +kernel
theorem dX8_missOf_6 : decode cX8_missOf 6 = .ok (.iload_n 1, 1) := by decide +kernel
theorem dX8_missOf_7 : decode cX8_missOf 7 = .ok (.isub, 1) := by decide +kernel
theorem dX8_missOf_8 : decode cX8_missOf 8 = .ok (.goto 4, 3) := by decide +kernel
theorem dX8_missOf_11 : decode cX8_missOf 11 = .ok (.iload_n 1, 1) := by decide +kernel
theorem dX8_missOf_12 : decode cX8_missOf 12 = .ok (.istore_n 3, 1) := by decide +kernel
theorem dX8_missOf_13 : decode cX8_missOf 13 = .ok (.aload_n 0, 1) := by decide +kernel
theorem dX8_missOf_14 : decode cX8_missOf 14 = .ok (.getstatic 5, 3) := by decide +kernel
theorem dX8_missOf_17 : decode cX8_missOf 17 = .ok (.if_acmp .ne 7, 3) := by decide +kernel
theorem dX8_missOf_20 : decode cX8_missOf 20 = .ok (.iload_n 3, 1) := by decide +kernel
theorem dX8_missOf_21 : decode cX8_missOf 21 = .ok (.iload_n 3, 1) := by decide +kernel
theorem dX8_missOf_22 : decode cX8_missOf 22 = .ok (.imul, 1) := by decide +kernel
theorem dX8_missOf_23 : decode cX8_missOf 23 = .ok (.ireturn, 1) := by decide +kernel
theorem dX8_missOf_24 : decode cX8_missOf 24 = .ok (.aload_n 0, 1) := by decide +kernel
theorem dX8_missOf_25 : decode cX8_missOf 25 = .ok (.getstatic 9, 3) := by decide +kernel
theorem dX8_missOf_28 : decode cX8_missOf 28 = .ok (.if_acmp .ne 5, 3) := by decide +kernel
theorem dX8_missOf_31 : decode cX8_missOf 31 = .ok (.iload_n 3, 1) := by decide +kernel
theorem dX8_missOf_32 : decode cX8_missOf 32 = .ok (.ireturn, 1) := by decide +kernel
theorem dX8_missOf_33 : decode cX8_missOf 33 = .ok (.aload_n 0, 1) := by decide +kernel
theorem dX8_missOf_34 : decode cX8_missOf 34 = .ok (.getstatic 15, 3) := by decide +kernel
theorem dX8_missOf_37 : decode cX8_missOf 37 = .ok (.if_acmp .ne 9, 3) := by decide +kernel
theorem dX8_missOf_40 : decode cX8_missOf 40 = .ok (.iload_n 3, 1) := by decide +kernel
theorem dX8_missOf_41 : decode cX8_missOf 41 = .ok (.iload_n 3, 1) := by decide +kernel
theorem dX8_missOf_42 : decode cX8_missOf 42 = .ok (.imul, 1) := by decide +kernel
theorem dX8_missOf_43 : decode cX8_missOf 43 = .ok (.iload_n 3, 1) := by decide +kernel
theorem dX8_missOf_44 : decode cX8_missOf 44 = .ok (.imul, 1) := by decide +kernel
theorem dX8_missOf_45 : decode cX8_missOf 45 = .ok (.ireturn, 1) := by decide +kernel
theorem dX8_missOf_46 : decode cX8_missOf 46 = .ok (.iload_n 3, 1) := by decide +kernel
theorem dX8_missOf_47 : decode cX8_missOf 47 = .ok (.bipush 50, 2) := by decide +kernel
theorem dX8_missOf_49 : decode cX8_missOf 49 = .ok (.if_icmp .ne 6, 3) := by decide +kernel
theorem dX8_missOf_52 : decode cX8_missOf 52 = .ok (.bipush 50, 2) := by decide +kernel
theorem dX8_missOf_54 : decode cX8_missOf 54 = .ok (.ireturn, 1) := by decide +kernel
theorem dX8_missOf_55 : decode cX8_missOf 55 = .ok (.iload_n 3, 1) := by decide +kernel
theorem dX8_missOf_56 : decode cX8_missOf 56 = .ok (.bipush 50, 2) := by decide +kernel
theorem dX8_missOf_58 : decode cX8_missOf 58 = .ok (.if_icmp .le 8, 3) := by decide +kernel
theorem dX8_missOf_61 : decode cX8_missOf 61 = .ok (.bipush 100, 2) := by decide +kernel
theorem dX8_missOf_63 : decode cX8_missOf 63 = .ok (.goto 4, 3) := by decide +kernel
theorem dX8_missOf_66 : decode cX8_missOf 66 = .ok (.iconst 0, 1) := by decide +kernel
theorem dX8_missOf_67 : decode cX8_missOf 67 = .ok (.ireturn, 1) := by decide +kernel
theorem dX2_missSum_0 : decode cX2_missSum 0 = .ok (.lconst 0, 1) := by decide +kernel
theorem dX2_missSum_1 : decode cX2_missSum 1 = .ok (.lstore_n 2, 1) := by decide +kernel
theorem dX2_missSum_2 : decode cX2_missSum 2 = .ok (.iconst 0, 1) := by decide +kernel
theorem dX2_missSum_3 : decode cX2_missSum 3 = .ok (.istore 4, 2) := by decide +kernel
theorem dX2_missSum_5 : decode cX2_missSum 5 = .ok (.iload 4, 2) := by decide +kernel
theorem dX2_missSum_7 : decode cX2_missSum 7 = .ok (.aload_n 0, 1) := by decide +kernel
theorem dX2_missSum_8 : decode cX2_missSum 8 = .ok (.getfield 19, 3) := by decide +kernel
theorem dX2_missSum_11 : decode cX2_missSum 11 = .ok (.if_icmp .ge 31, 3) := by decide +kernel
theorem dX2_missSum_14 : decode cX2_missSum 14 = .ok (.lload_n 2, 1) := by decide +kernel
theorem dX2_missSum_15 : decode cX2_missSum 15 = .ok (.aload_n 1, 1) := by decide +kernel
theorem dX2_missSum_16 : decode cX2_missSum 16 = .ok (.aload_n 0, 1) := by decide +kernel
theorem dX2_missSum_17 : decode cX2_missSum 17 = .ok (.getfield 9, 3) := by decide +kernel
theorem dX2_missSum_20 : decode cX2_missSum 20 = .ok (.iload 4, 2) := by decide +kernel
theorem dX2_missSum_22 : decode cX2_missSum 22 = .ok (.iaload, 1) := by decide +kernel
theorem dX2_missSum_23 : decode cX2_missSum 23 = .ok (.aload_n 0, 1) := by decide +kernel
theorem dX2_missSum_24 : decode cX2_missSum 24 = .ok (.getfield 15, 3) := by decide +kernel
theorem dX2_missSum_27 : decode cX2_missSum 27 = .ok (.iload 4, 2) := by decide +kernel
theorem dX2_missSum_29 : decode cX2_missSum 29 = .ok (.baload, 1) := by decide +kernel
theorem dX2_missSum_30 : decode cX2_missSum 30 = .ok (.invokevirtual 39, 3) := by decide +kernel
theorem dX2_missSum_33 : decode cX2_missSum 33 = .ok (.i2l, 1) := by decide +kernel
theorem dX2_missSum_34 : decode cX2_missSum 34 = .ok (.ladd, 1) := by decide +kernel
theorem dX2_missSum_35 : decode cX2_missSum 35 = .ok (.lstore_n 2, 1) := by decide +kernel
theorem dX2_missSum_36 : decode cX2_missSum 36 = .ok (.iinc 4 1, 3) := by decide +kernel
theorem dX2_missSum_39 : decode cX2_missSum 39 = .ok (.goto (-34), 3) := by decide +kernel
theorem dX2_missSum_42 : decode cX2_missSum 42 = .ok (.lload_n 2, 1) := by decide +kernel
theorem dX2_missSum_43 : decode cX2_missSum 43 = .ok (.lreturn, 1) := by decide +kernel
theorem dJ6_compare_7cf53_0 : decode cJ6_compare_7cf53 0 = .ok (.iload_n 0, 1) := by decide +kernel
theorem dJ6_compare_7cf53_1 : decode cJ6_compare_7cf53 1 = .ok (.iload_n 1, 1) := by decide +kernel
theorem dJ6_compare_7cf53_2 : decode cJ6_compare_7cf53 2 = .ok (.if_icmp .ge 7, 3) := by decide +kernel
theorem dJ6_compare_7cf53_5 : decode cJ6_compare_7cf53 5 = .ok (.iconst (-1), 1) := by decide +kernel
theorem dJ6_compare_7cf53_6 : decode cJ6_compare_7cf53 6 = .ok (.goto 13, 3) := by decide +kernel
theorem dJ6_compare_7cf53_9 : decode cJ6_compare_7cf53 9 = .ok (.iload_n 0, 1) := by decide +kernel
theorem dJ6_compare_7cf53_10 : decode cJ6_compare_7cf53 10 = .ok (.iload_n 1, 1) := by decide +kernel
theorem dJ6_compare_7cf53_11 : decode cJ6_compare_7cf53 11 = .ok (.if_icmp .ne 7, 3) := by decide +kernel
theorem dJ6_compare_7cf53_14 : decode cJ6_compare_7cf53 14 = .ok (.iconst 0, 1) := by decide +kernel
theorem dJ6_compare_7cf53_15 : decode cJ6_compare_7cf53 15 = .ok (.goto 4, 3) := by decide +kernel
theorem dJ6_compare_7cf53_18 : decode cJ6_compare_7cf53 18 = .ok (.iconst 1, 1) := by decide +kernel
theorem dJ6_compare_7cf53_19 : decode cJ6_compare_7cf53 19 = .ok (.ireturn, 1) := by decide +kernel
theorem dX2_halvesWellRanked_0 : decode cX2_halvesWellRanked 0 = .ok (.lconst 0, 1) := by decide +kernel
theorem dX2_halvesWellRanked_1 : decode cX2_halvesWellRanked 1 = .ok (.lstore_n 1, 1) := by decide +kernel
theorem dX2_halvesWellRanked_2 : decode cX2_halvesWellRanked 2 = .ok (.iconst 0, 1) := by decide +kernel
theorem dX2_halvesWellRanked_3 : decode cX2_halvesWellRanked 3 = .ok (.istore_n 3, 1) := by decide +kernel
theorem dX2_halvesWellRanked_4 : decode cX2_halvesWellRanked 4 = .ok (.iload_n 3, 1) := by decide +kernel
theorem dX2_halvesWellRanked_5 : decode cX2_halvesWellRanked 5 = .ok (.aload_n 0, 1) := by decide +kernel
theorem dX2_halvesWellRanked_6 : decode cX2_halvesWellRanked 6 = .ok (.getfield 19, 3) := by decide +kernel
theorem dX2_halvesWellRanked_9 : decode cX2_halvesWellRanked 9 = .ok (.if_icmp .ge 68, 3) := by decide +kernel
theorem dX2_halvesWellRanked_12 : decode cX2_halvesWellRanked 12 = .ok (.iconst 0, 1) := by decide +kernel
theorem dX2_halvesWellRanked_13 : decode cX2_halvesWellRanked 13 = .ok (.istore 4, 2) := by decide +kernel
theorem dX2_halvesWellRanked_15 : decode cX2_halvesWellRanked 15 = .ok (.iload 4, 2) := by decide +kernel
theorem dX2_halvesWellRanked_17 : decode cX2_halvesWellRanked 17 = .ok (.aload_n 0, 1) := by decide +kernel
theorem dX2_halvesWellRanked_18 : decode cX2_halvesWellRanked 18 = .ok (.getfield 19, 3) := by decide +kernel
theorem dX2_halvesWellRanked_21 : decode cX2_halvesWellRanked 21 = .ok (.if_icmp .ge 50, 3) := by decide +kernel
theorem dX2_halvesWellRanked_24 : decode cX2_halvesWellRanked 24 = .ok (.aload_n 0, 1) := by decide +kernel
theorem dX2_halvesWellRanked_25 : decode cX2_halvesWellRanked 25 = .ok (.getfield 15, 3) := by decide +kernel
theorem dX2_halvesWellRanked_28 : decode cX2_halvesWellRanked 28 = .ok (.iload_n 3, 1) := by decide +kernel
theorem dX2_halvesWellRanked_29 : decode cX2_halvesWellRanked 29 = .ok (.baload, 1) := by decide +kernel
theorem dX2_halvesWellRanked_30 : decode cX2_halvesWellRanked 30 = .ok (.ifCond .eq 35, 3) := by decide +kernel
theorem dX2_halvesWellRanked_33 : decode cX2_halvesWellRanked 33 = .ok (.aload_n 0, 1) := by decide +kernel
theorem dX2_halvesWellRanked_34 : decode cX2_halvesWellRanked 34 = .ok (.getfield 15, 3) := by decide +kernel
theorem dX2_halvesWellRanked_37 : decode cX2_halvesWellRanked 37 = .ok (.iload 4, 2) := by decide +kernel
theorem dX2_halvesWellRanked_39 : decode cX2_halvesWellRanked 39 = .ok (.baload, 1) := by decide +kernel
theorem dX2_halvesWellRanked_40 : decode cX2_halvesWellRanked 40 = .ok (.ifCond .ne 25, 3) := by decide +kernel
theorem dX2_halvesWellRanked_43 : decode cX2_halvesWellRanked 43 = .ok (.lload_n 1, 1) := by decide +kernel
theorem dX2_halvesWellRanked_44 : decode cX2_halvesWellRanked 44 = .ok (.iconst 1, 1) := by decide +kernel
theorem dX2_halvesWellRanked_45 : decode cX2_halvesWellRanked 45 = .ok (.aload_n 0, 1) := by decide +kernel
theorem dX2_halvesWellRanked_46 : decode cX2_halvesWellRanked 46 = .ok (.getfield 9, 3) := by decide +kernel
theorem dX2_halvesWellRanked_49 : decode cX2_halvesWellRanked 49 = .ok (.iload_n 3, 1) := by decide +kernel
theorem dX2_halvesWellRanked_50 : decode cX2_halvesWellRanked 50 = .ok (.iaload, 1) := by decide +kernel
theorem dX2_halvesWellRanked_51 : decode cX2_halvesWellRanked 51 = .ok (.aload_n 0, 1) := by decide +kernel
theorem dX2_halvesWellRanked_52 : decode cX2_halvesWellRanked 52 = .ok (.getfield 9, 3) := by decide +kernel
theorem dX2_halvesWellRanked_55 : decode cX2_halvesWellRanked 55 = .ok (.iload 4, 2) := by decide +kernel
theorem dX2_halvesWellRanked_57 : decode cX2_halvesWellRanked 57 = .ok (.iaload, 1) := by decide +kernel
theorem dX2_halvesWellRanked_58 : decode cX2_halvesWellRanked 58 = .ok (.invokestatic 45, 3) := by decide +kernel
theorem dX2_halvesWellRanked_61 : decode cX2_halvesWellRanked 61 = .ok (.iadd, 1) := by decide +kernel
theorem dX2_halvesWellRanked_62 : decode cX2_halvesWellRanked 62 = .ok (.i2l, 1) := by decide +kernel
theorem dX2_halvesWellRanked_63 : decode cX2_halvesWellRanked 63 = .ok (.ladd, 1) := by decide +kernel
theorem dX2_halvesWellRanked_64 : decode cX2_halvesWellRanked 64 = .ok (.lstore_n 1, 1) := by decide +kernel
theorem dX2_halvesWellRanked_65 : decode cX2_halvesWellRanked 65 = .ok (.iinc 4 1, 3) := by decide +kernel
theorem dX2_halvesWellRanked_68 : decode cX2_halvesWellRanked 68 = .ok (.goto (-53), 3) := by decide +kernel
theorem dX2_halvesWellRanked_71 : decode cX2_halvesWellRanked 71 = .ok (.iinc 3 1, 3) := by decide +kernel
theorem dX2_halvesWellRanked_74 : decode cX2_halvesWellRanked 74 = .ok (.goto (-70), 3) := by decide +kernel
theorem dX2_halvesWellRanked_77 : decode cX2_halvesWellRanked 77 = .ok (.lload_n 1, 1) := by decide +kernel
theorem dX2_halvesWellRanked_78 : decode cX2_halvesWellRanked 78 = .ok (.lreturn, 1) := by decide +kernel
theorem dX3_greatest_0 : decode cX3_greatest 0 = .ok (.iload_n 1, 1) := by decide +kernel
theorem dX3_greatest_1 : decode cX3_greatest 1 = .ok (.ifCond .ne 10, 3) := by decide +kernel
theorem dX3_greatest_4 : decode cX3_greatest 4 = .ok (.aload_n 0, 1) := by decide +kernel
theorem dX3_greatest_5 : decode cX3_greatest 5 = .ok (.getfield 51, 3) := by decide +kernel
theorem dX3_greatest_8 : decode cX3_greatest 8 = .ok (.goto 19, 3) := by decide +kernel
theorem dX3_greatest_11 : decode cX3_greatest 11 = .ok (.iload_n 1, 1) := by decide +kernel
theorem dX3_greatest_12 : decode cX3_greatest 12 = .ok (.iconst 1, 1) := by decide +kernel
theorem dX3_greatest_13 : decode cX3_greatest 13 = .ok (.if_icmp .ne 10, 3) := by decide +kernel
theorem dX3_greatest_16 : decode cX3_greatest 16 = .ok (.aload_n 0, 1) := by decide +kernel
theorem dX3_greatest_17 : decode cX3_greatest 17 = .ok (.getfield 54, 3) := by decide +kernel
theorem dX3_greatest_20 : decode cX3_greatest 20 = .ok (.goto 7, 3) := by decide +kernel
theorem dX3_greatest_23 : decode cX3_greatest 23 = .ok (.aload_n 0, 1) := by decide +kernel
theorem dX3_greatest_24 : decode cX3_greatest 24 = .ok (.getfield 57, 3) := by decide +kernel
theorem dX3_greatest_27 : decode cX3_greatest 27 = .ok (.ireturn, 1) := by decide +kernel
theorem dX4_pick_0 : decode cX4_pick 0 = .ok (.iload_n 1, 1) := by decide +kernel
theorem dX4_pick_1 : decode cX4_pick 1 = .ok (.ifCond .ne 10, 3) := by decide +kernel
theorem dX4_pick_4 : decode cX4_pick 4 = .ok (.aload_n 0, 1) := by decide +kernel
theorem dX4_pick_5 : decode cX4_pick 5 = .ok (.getfield 7, 3) := by decide +kernel
theorem dX4_pick_8 : decode cX4_pick 8 = .ok (.goto 7, 3) := by decide +kernel
theorem dX4_pick_11 : decode cX4_pick 11 = .ok (.aload_n 0, 1) := by decide +kernel
theorem dX4_pick_12 : decode cX4_pick 12 = .ok (.getfield 13, 3) := by decide +kernel
theorem dX4_pick_15 : decode cX4_pick 15 = .ok (.lreturn, 1) := by decide +kernel
theorem dX0_binOf_0 : decode cX0_binOf 0 = .ok (.iconst 0, 1) := by decide +kernel
theorem dX0_binOf_1 : decode cX0_binOf 1 = .ok (.istore_n 2, 1) := by decide +kernel
theorem dX0_binOf_2 : decode cX0_binOf 2 = .ok (.iload_n 2, 1) := by decide +kernel
theorem dX0_binOf_3 : decode cX0_binOf 3 = .ok (.aload_n 0, 1) := by decide +kernel
theorem dX0_binOf_4 : decode cX0_binOf 4 = .ok (.getfield 15, 3) := by decide +kernel
theorem dX0_binOf_7 : decode cX0_binOf 7 = .ok (.if_icmp .ge 19, 3) := by decide +kernel
theorem dX0_binOf_10 : decode cX0_binOf 10 = .ok (.aload_n 0, 1) := by decide +kernel
theorem dX0_binOf_11 : decode cX0_binOf 11 = .ok (.getfield 9, 3) := by decide +kernel
theorem dX0_binOf_14 : decode cX0_binOf 14 = .ok (.iload_n 2, 1) := by decide +kernel
theorem dX0_binOf_15 : decode cX0_binOf 15 = .ok (.iaload, 1) := by decide +kernel
theorem dX0_binOf_16 : decode cX0_binOf 16 = .ok (.iload_n 1, 1) := by decide +kernel
theorem dX0_binOf_17 : decode cX0_binOf 17 = .ok (.if_icmp .gt 9, 3) := by decide +kernel
theorem dX0_binOf_20 : decode cX0_binOf 20 = .ok (.iinc 2 1, 3) := by decide +kernel
theorem dX0_binOf_23 : decode cX0_binOf 23 = .ok (.goto (-21), 3) := by decide +kernel
theorem dX0_binOf_26 : decode cX0_binOf 26 = .ok (.iload_n 2, 1) := by decide +kernel
theorem dX0_binOf_27 : decode cX0_binOf 27 = .ok (.ireturn, 1) := by decide +kernel
theorem dX0_removeCut_0 : decode cX0_removeCut 0 = .ok (.aload_n 0, 1) := by decide +kernel
theorem dX0_removeCut_1 : decode cX0_removeCut 1 = .ok (.dup, 1) := by decide +kernel
theorem dX0_removeCut_2 : decode cX0_removeCut 2 = .ok (.getfield 15, 3) := by decide +kernel
theorem dX0_removeCut_5 : decode cX0_removeCut 5 = .ok (.iconst 1, 1) := by decide +kernel
theorem dX0_removeCut_6 : decode cX0_removeCut 6 = .ok (.isub, 1) := by decide +kernel
theorem dX0_removeCut_7 : decode cX0_removeCut 7 = .ok (.putfield 15, 3) := by decide +kernel
theorem dX0_removeCut_10 : decode cX0_removeCut 10 = .ok (.iload_n 1, 1) := by decide +kernel
theorem dX0_removeCut_11 : decode cX0_removeCut 11 = .ok (.istore_n 2, 1) := by decide +kernel
theorem dX0_removeCut_12 : decode cX0_removeCut 12 = .ok (.iload_n 2, 1) := by decide +kernel
theorem dX0_removeCut_13 : decode cX0_removeCut 13 = .ok (.aload_n 0, 1) := by decide +kernel
theorem dX0_removeCut_14 : decode cX0_removeCut 14 = .ok (.getfield 15, 3) := by decide +kernel
theorem dX0_removeCut_17 : decode cX0_removeCut 17 = .ok (.if_icmp .ge 23, 3) := by decide +kernel
theorem dX0_removeCut_20 : decode cX0_removeCut 20 = .ok (.aload_n 0, 1) := by decide +kernel
theorem dX0_removeCut_21 : decode cX0_removeCut 21 = .ok (.getfield 9, 3) := by decide +kernel
theorem dX0_removeCut_24 : decode cX0_removeCut 24 = .ok (.iload_n 2, 1) := by decide +kernel
theorem dX0_removeCut_25 : decode cX0_removeCut 25 = .ok (.aload_n 0, 1) := by decide +kernel
theorem dX0_removeCut_26 : decode cX0_removeCut 26 = .ok (.getfield 9, 3) := by decide +kernel
theorem dX0_removeCut_29 : decode cX0_removeCut 29 = .ok (.iload_n 2, 1) := by decide +kernel
theorem dX0_removeCut_30 : decode cX0_removeCut 30 = .ok (.iconst 1, 1) := by decide +kernel
theorem dX0_removeCut_31 : decode cX0_removeCut 31 = .ok (.iadd, 1) := by decide +kernel
theorem dX0_removeCut_32 : decode cX0_removeCut 32 = .ok (.iaload, 1) := by decide +kernel
theorem dX0_removeCut_33 : decode cX0_removeCut 33 = .ok (.iastore, 1) := by decide +kernel
theorem dX0_removeCut_34 : decode cX0_removeCut 34 = .ok (.iinc 2 1, 3) := by decide +kernel
theorem dX0_removeCut_37 : decode cX0_removeCut 37 = .ok (.goto (-25), 3) := by decide +kernel
theorem dX0_removeCut_40 : decode cX0_removeCut 40 = .ok (.return_, 1) := by decide +kernel
theorem dX0_insertCut_0 : decode cX0_insertCut 0 = .ok (.aload_n 0, 1) := by decide +kernel
theorem dX0_insertCut_1 : decode cX0_insertCut 1 = .ok (.getfield 15, 3) := by decide +kernel
theorem dX0_insertCut_4 : decode cX0_insertCut 4 = .ok (.istore_n 3, 1) := by decide +kernel
theorem dX0_insertCut_5 : decode cX0_insertCut 5 = .ok (.iload_n 3, 1) := by decide +kernel
theorem dX0_insertCut_6 : decode cX0_insertCut 6 = .ok (.iload_n 1, 1) := by decide +kernel
theorem dX0_insertCut_7 : decode cX0_insertCut 7 = .ok (.if_icmp .le 23, 3) := by decide +kernel
theorem dX0_insertCut_10 : decode cX0_insertCut 10 = .ok (.aload_n 0, 1) := by decide +kernel
theorem dX0_insertCut_11 : decode cX0_insertCut 11 = .ok (.getfield 9, 3) := by decide +kernel
theorem dX0_insertCut_14 : decode cX0_insertCut 14 = .ok (.iload_n 3, 1) := by decide +kernel
theorem dX0_insertCut_15 : decode cX0_insertCut 15 = .ok (.aload_n 0, 1) := by decide +kernel
theorem dX0_insertCut_16 : decode cX0_insertCut 16 = .ok (.getfield 9, 3) := by decide +kernel
theorem dX0_insertCut_19 : decode cX0_insertCut 19 = .ok (.iload_n 3, 1) := by decide +kernel
theorem dX0_insertCut_20 : decode cX0_insertCut 20 = .ok (.iconst 1, 1) := by decide +kernel
theorem dX0_insertCut_21 : decode cX0_insertCut 21 = .ok (.isub, 1) := by decide +kernel
theorem dX0_insertCut_22 : decode cX0_insertCut 22 = .ok (.iaload, 1) := by decide +kernel
theorem dX0_insertCut_23 : decode cX0_insertCut 23 = .ok (.iastore, 1) := by decide +kernel
theorem dX0_insertCut_24 : decode cX0_insertCut 24 = .ok (.iinc 3 (-1), 3) := by decide +kernel
theorem dX0_insertCut_27 : decode cX0_insertCut 27 = .ok (.goto (-22), 3) := by decide +kernel
theorem dX0_insertCut_30 : decode cX0_insertCut 30 = .ok (.aload_n 0, 1) := by decide +kernel
theorem dX0_insertCut_31 : decode cX0_insertCut 31 = .ok (.getfield 9, 3) := by decide +kernel
theorem dX0_insertCut_34 : decode cX0_insertCut 34 = .ok (.iload_n 1, 1) := by decide +kernel
theorem dX0_insertCut_35 : decode cX0_insertCut 35 = .ok (.iload_n 2, 1) := by decide +kernel
theorem dX0_insertCut_36 : decode cX0_insertCut 36 = .ok (.iastore, 1) := by decide +kernel
theorem dX0_insertCut_37 : decode cX0_insertCut 37 = .ok (.aload_n 0, 1) := by decide +kernel
theorem dX0_insertCut_38 : decode cX0_insertCut 38 = .ok (.dup, 1) := by decide +kernel
theorem dX0_insertCut_39 : decode cX0_insertCut 39 = .ok (.getfield 15, 3) := by decide +kernel
theorem dX0_insertCut_42 : decode cX0_insertCut 42 = .ok (.iconst 1, 1) := by decide +kernel
theorem dX0_insertCut_43 : decode cX0_insertCut 43 = .ok (.iadd, 1) := by decide +kernel
theorem dX0_insertCut_44 : decode cX0_insertCut 44 = .ok (.putfield 15, 3) := by decide +kernel
theorem dX0_insertCut_47 : decode cX0_insertCut 47 = .ok (.return_, 1) := by decide +kernel
theorem dX0_flipCut_0 : decode cX0_flipCut 0 = .ok (.aload_n 0, 1) := by decide +kernel
theorem dX0_flipCut_1 : decode cX0_flipCut 1 = .ok (.iload_n 1, 1) := by decide +kernel
theorem dX0_flipCut_2 : decode cX0_flipCut 2 = .ok (.invokevirtual 34, 3) := by decide +kernel
theorem dX0_flipCut_5 : decode cX0_flipCut 5 = .ok (.istore_n 2, 1) := by decide +kernel
theorem dX0_flipCut_6 : decode cX0_flipCut 6 = .ok (.iload_n 2, 1) := by decide +kernel
theorem dX0_flipCut_7 : decode cX0_flipCut 7 = .ok (.ifCond .le 24, 3) := by decide +kernel
theorem dX0_flipCut_10 : decode cX0_flipCut 10 = .ok (.aload_n 0, 1) := by decide +kernel
theorem dX0_flipCut_11 : decode cX0_flipCut 11 = .ok (.getfield 9, 3) := by decide +kernel
theorem dX0_flipCut_14 : decode cX0_flipCut 14 = .ok (.iload_n 2, 1) := by decide +kernel
theorem dX0_flipCut_15 : decode cX0_flipCut 15 = .ok (.iconst 1, 1) := by decide +kernel
theorem dX0_flipCut_16 : decode cX0_flipCut 16 = .ok (.isub, 1) := by decide +kernel
theorem dX0_flipCut_17 : decode cX0_flipCut 17 = .ok (.iaload, 1) := by decide +kernel
theorem dX0_flipCut_18 : decode cX0_flipCut 18 = .ok (.iload_n 1, 1) := by decide +kernel
theorem dX0_flipCut_19 : decode cX0_flipCut 19 = .ok (.if_icmp .ne 12, 3) := by decide +kernel
theorem dX0_flipCut_22 : decode cX0_flipCut 22 = .ok (.aload_n 0, 1) := by decide +kernel
theorem dX0_flipCut_23 : decode cX0_flipCut 23 = .ok (.iload_n 2, 1) := by decide +kernel
theorem dX0_flipCut_24 : decode cX0_flipCut 24 = .ok (.iconst 1, 1) := by decide +kernel
theorem dX0_flipCut_25 : decode cX0_flipCut 25 = .ok (.isub, 1) := by decide +kernel
theorem dX0_flipCut_26 : decode cX0_flipCut 26 = .ok (.invokevirtual 38, 3) := by decide +kernel
theorem dX0_flipCut_29 : decode cX0_flipCut 29 = .ok (.iconst 1, 1) := by decide +kernel
theorem dX0_flipCut_30 : decode cX0_flipCut 30 = .ok (.ireturn, 1) := by decide +kernel
theorem dX0_flipCut_31 : decode cX0_flipCut 31 = .ok (.aload_n 0, 1) := by decide +kernel
theorem dX0_flipCut_32 : decode cX0_flipCut 32 = .ok (.getfield 15, 3) := by decide +kernel
theorem dX0_flipCut_35 : decode cX0_flipCut 35 = .ok (.bipush 9, 2) := by decide +kernel
theorem dX0_flipCut_37 : decode cX0_flipCut 37 = .ok (.if_icmp .lt 5, 3) := by decide +kernel
theorem dX0_flipCut_40 : decode cX0_flipCut 40 = .ok (.iconst 0, 1) := by decide +kernel
theorem dX0_flipCut_41 : decode cX0_flipCut 41 = .ok (.ireturn, 1) := by decide +kernel
theorem dX0_flipCut_42 : decode cX0_flipCut 42 = .ok (.aload_n 0, 1) := by decide +kernel
theorem dX0_flipCut_43 : decode cX0_flipCut 43 = .ok (.iload_n 2, 1) := by decide +kernel
theorem dX0_flipCut_44 : decode cX0_flipCut 44 = .ok (.iload_n 1, 1) := by decide +kernel
theorem dX0_flipCut_45 : decode cX0_flipCut 45 = .ok (.invokevirtual 42, 3) := by decide +kernel
theorem dX0_flipCut_48 : decode cX0_flipCut 48 = .ok (.iconst 1, 1) := by decide +kernel
theorem dX0_flipCut_49 : decode cX0_flipCut 49 = .ok (.ireturn, 1) := by decide +kernel
theorem dX0_hasBin_0 : decode cX0_hasBin 0 = .ok (.iload_n 1, 1) := by decide +kernel
theorem dX0_hasBin_1 : decode cX0_hasBin 1 = .ok (.ifCond .lt 15, 3) := by decide +kernel
theorem dX0_hasBin_4 : decode cX0_hasBin 4 = .ok (.iload_n 1, 1) := by decide +kernel
theorem dX0_hasBin_5 : decode cX0_hasBin 5 = .ok (.aload_n 0, 1) := by decide +kernel
theorem dX0_hasBin_6 : decode cX0_hasBin 6 = .ok (.getfield 15, 3) := by decide +kernel
theorem dX0_hasBin_9 : decode cX0_hasBin 9 = .ok (.if_icmp .gt 7, 3) := by decide +kernel
theorem dX0_hasBin_12 : decode cX0_hasBin 12 = .ok (.iconst 1, 1) := by decide +kernel
theorem dX0_hasBin_13 : decode cX0_hasBin 13 = .ok (.goto 4, 3) := by decide +kernel
theorem dX0_hasBin_16 : decode cX0_hasBin 16 = .ok (.iconst 0, 1) := by decide +kernel
theorem dX0_hasBin_17 : decode cX0_hasBin 17 = .ok (.ireturn, 1) := by decide +kernel
theorem dX0_leastOf_0 : decode cX0_leastOf 0 = .ok (.iload_n 1, 1) := by decide +kernel
theorem dX0_leastOf_1 : decode cX0_leastOf 1 = .ok (.ifCond .ne 7, 3) := by decide +kernel
theorem dX0_leastOf_4 : decode cX0_leastOf 4 = .ok (.iconst 0, 1) := by decide +kernel
theorem dX0_leastOf_5 : decode cX0_leastOf 5 = .ok (.goto 11, 3) := by decide +kernel
theorem dX0_leastOf_8 : decode cX0_leastOf 8 = .ok (.aload_n 0, 1) := by decide +kernel
theorem dX0_leastOf_9 : decode cX0_leastOf 9 = .ok (.getfield 9, 3) := by decide +kernel
theorem dX0_leastOf_12 : decode cX0_leastOf 12 = .ok (.iload_n 1, 1) := by decide +kernel
theorem dX0_leastOf_13 : decode cX0_leastOf 13 = .ok (.iconst 1, 1) := by decide +kernel
theorem dX0_leastOf_14 : decode cX0_leastOf 14 = .ok (.isub, 1) := by decide +kernel
theorem dX0_leastOf_15 : decode cX0_leastOf 15 = .ok (.iaload, 1) := by decide +kernel
theorem dX0_leastOf_16 : decode cX0_leastOf 16 = .ok (.ireturn, 1) := by decide +kernel
theorem dX0_greatestOf_0 : decode cX0_greatestOf 0 = .ok (.iload_n 1, 1) := by decide +kernel
theorem dX0_greatestOf_1 : decode cX0_greatestOf 1 = .ok (.aload_n 0, 1) := by decide +kernel
theorem dX0_greatestOf_2 : decode cX0_greatestOf 2 = .ok (.getfield 15, 3) := by decide +kernel
theorem dX0_greatestOf_5 : decode cX0_greatestOf 5 = .ok (.if_icmp .ne 8, 3) := by decide +kernel
theorem dX0_greatestOf_8 : decode cX0_greatestOf 8 = .ok (.bipush 100, 2) := by decide +kernel
theorem dX0_greatestOf_10 : decode cX0_greatestOf 10 = .ok (.goto 11, 3) := by decide +kernel
theorem dX0_greatestOf_13 : decode cX0_greatestOf 13 = .ok (.aload_n 0, 1) := by decide +kernel
theorem dX0_greatestOf_14 : decode cX0_greatestOf 14 = .ok (.getfield 9, 3) := by decide +kernel
theorem dX0_greatestOf_17 : decode cX0_greatestOf 17 = .ok (.iload_n 1, 1) := by decide +kernel
theorem dX0_greatestOf_18 : decode cX0_greatestOf 18 = .ok (.iaload, 1) := by decide +kernel
theorem dX0_greatestOf_19 : decode cX0_greatestOf 19 = .ok (.iconst 1, 1) := by decide +kernel
theorem dX0_greatestOf_20 : decode cX0_greatestOf 20 = .ok (.isub, 1) := by decide +kernel
theorem dX0_greatestOf_21 : decode cX0_greatestOf 21 = .ok (.ireturn, 1) := by decide +kernel
theorem dX0_sortIn_0 : decode cX0_sortIn 0 = .ok (.iconst 0, 1) := by decide +kernel
theorem dX0_sortIn_1 : decode cX0_sortIn 1 = .ok (.istore_n 2, 1) := by decide +kernel
theorem dX0_sortIn_2 : decode cX0_sortIn 2 = .ok (.iload_n 2, 1) := by decide +kernel
theorem dX0_sortIn_3 : decode cX0_sortIn 3 = .ok (.aload_n 0, 1) := by decide +kernel
theorem dX0_sortIn_4 : decode cX0_sortIn 4 = .ok (.getfield 19, 3) := by decide +kernel
theorem dX0_sortIn_7 : decode cX0_sortIn 7 = .ok (.arraylength, 1) := by decide +kernel
theorem dX0_sortIn_8 : decode cX0_sortIn 8 = .ok (.if_icmp .ge 44, 3) := by decide +kernel
theorem dX0_sortIn_11 : decode cX0_sortIn 11 = .ok (.aload_n 0, 1) := by decide +kernel
theorem dX0_sortIn_12 : decode cX0_sortIn 12 = .ok (.getfield 19, 3) := by decide +kernel
theorem dX0_sortIn_15 : decode cX0_sortIn 15 = .ok (.iload_n 2, 1) := by decide +kernel
theorem dX0_sortIn_16 : decode cX0_sortIn 16 = .ok (.iconst 0, 1) := by decide +kernel
theorem dX0_sortIn_17 : decode cX0_sortIn 17 = .ok (.iastore, 1) := by decide +kernel
theorem dX0_sortIn_18 : decode cX0_sortIn 18 = .ok (.aload_n 0, 1) := by decide +kernel
theorem dX0_sortIn_19 : decode cX0_sortIn 19 = .ok (.getfield 22, 3) := by decide +kernel
theorem dX0_sortIn_22 : decode cX0_sortIn 22 = .ok (.iload_n 2, 1) := by decide +kernel
theorem dX0_sortIn_23 : decode cX0_sortIn 23 = .ok (.iconst 0, 1) := by decide +kernel
theorem dX0_sortIn_24 : decode cX0_sortIn 24 = .ok (.iastore, 1) := by decide +kernel
theorem dX0_sortIn_25 : decode cX0_sortIn 25 = .ok (.aload_n 0, 1) := by decide +kernel
theorem dX0_sortIn_26 : decode cX0_sortIn 26 = .ok (.getfield 25, 3) := by decide +kernel
theorem dX0_sortIn_29 : decode cX0_sortIn 29 = .ok (.iload_n 2, 1) := by decide +kernel
theorem dX0_sortIn_30 : decode cX0_sortIn 30 = .ok (.iconst 0, 1) := by decide +kernel
theorem dX0_sortIn_31 : decode cX0_sortIn 31 = .ok (.iastore, 1) := by decide +kernel
theorem dX0_sortIn_32 : decode cX0_sortIn 32 = .ok (.aload_n 0, 1) := by decide +kernel
theorem dX0_sortIn_33 : decode cX0_sortIn 33 = .ok (.getfield 28, 3) := by decide +kernel
theorem dX0_sortIn_36 : decode cX0_sortIn 36 = .ok (.iload_n 2, 1) := by decide +kernel
theorem dX0_sortIn_37 : decode cX0_sortIn 37 = .ok (.iconst 0, 1) := by decide +kernel
theorem dX0_sortIn_38 : decode cX0_sortIn 38 = .ok (.iastore, 1) := by decide +kernel
theorem dX0_sortIn_39 : decode cX0_sortIn 39 = .ok (.aload_n 0, 1) := by decide +kernel
theorem dX0_sortIn_40 : decode cX0_sortIn 40 = .ok (.getfield 31, 3) := by decide +kernel
theorem dX0_sortIn_43 : decode cX0_sortIn 43 = .ok (.iload_n 2, 1) := by decide +kernel
theorem dX0_sortIn_44 : decode cX0_sortIn 44 = .ok (.iconst 0, 1) := by decide +kernel
theorem dX0_sortIn_45 : decode cX0_sortIn 45 = .ok (.iastore, 1) := by decide +kernel
theorem dX0_sortIn_46 : decode cX0_sortIn 46 = .ok (.iinc 2 1, 3) := by decide +kernel
theorem dX0_sortIn_49 : decode cX0_sortIn 49 = .ok (.goto (-47), 3) := by decide +kernel
theorem dX0_sortIn_52 : decode cX0_sortIn 52 = .ok (.iconst 0, 1) := by decide +kernel
theorem dX0_sortIn_53 : decode cX0_sortIn 53 = .ok (.istore_n 2, 1) := by decide +kernel
theorem dX0_sortIn_54 : decode cX0_sortIn 54 = .ok (.iload_n 2, 1) := by decide +kernel
theorem dX0_sortIn_55 : decode cX0_sortIn 55 = .ok (.aload_n 1, 1) := by decide +kernel
theorem dX0_sortIn_56 : decode cX0_sortIn 56 = .ok (.getfield 46, 3) := by decide +kernel
theorem dX0_sortIn_59 : decode cX0_sortIn 59 = .ok (.if_icmp .ge 89, 3) := by decide +kernel
theorem dX0_sortIn_62 : decode cX0_sortIn 62 = .ok (.aload_n 1, 1) := by decide +kernel
theorem dX0_sortIn_63 : decode cX0_sortIn 63 = .ok (.getfield 51, 3) := by decide +kernel
theorem dX0_sortIn_66 : decode cX0_sortIn 66 = .ok (.iload_n 2, 1) := by decide +kernel
theorem dX0_sortIn_67 : decode cX0_sortIn 67 = .ok (.iaload, 1) := by decide +kernel
theorem dX0_sortIn_68 : decode cX0_sortIn 68 = .ok (.istore_n 3, 1) := by decide +kernel
theorem dX0_sortIn_69 : decode cX0_sortIn 69 = .ok (.aload_n 0, 1) := by decide +kernel
theorem dX0_sortIn_70 : decode cX0_sortIn 70 = .ok (.iload_n 3, 1) := by decide +kernel
theorem dX0_sortIn_71 : decode cX0_sortIn 71 = .ok (.invokevirtual 34, 3) := by decide +kernel
theorem dX0_sortIn_74 : decode cX0_sortIn 74 = .ok (.istore 4, 2) := by decide +kernel
theorem dX0_sortIn_76 : decode cX0_sortIn 76 = .ok (.aload_n 0, 1) := by decide +kernel
theorem dX0_sortIn_77 : decode cX0_sortIn 77 = .ok (.getfield 19, 3) := by decide +kernel
theorem dX0_sortIn_80 : decode cX0_sortIn 80 = .ok (.iload 4, 2) := by decide +kernel
theorem dX0_sortIn_82 : decode cX0_sortIn 82 = .ok (.dup2, 1) := by decide +kernel
theorem dX0_sortIn_83 : decode cX0_sortIn 83 = .ok (.iaload, 1) := by decide +kernel
theorem dX0_sortIn_84 : decode cX0_sortIn 84 = .ok (.iconst 1, 1) := by decide +kernel
theorem dX0_sortIn_85 : decode cX0_sortIn 85 = .ok (.iadd, 1) := by decide +kernel
theorem dX0_sortIn_86 : decode cX0_sortIn 86 = .ok (.iastore, 1) := by decide +kernel
theorem dX0_sortIn_87 : decode cX0_sortIn 87 = .ok (.aload_n 0, 1) := by decide +kernel
theorem dX0_sortIn_88 : decode cX0_sortIn 88 = .ok (.getfield 25, 3) := by decide +kernel
theorem dX0_sortIn_91 : decode cX0_sortIn 91 = .ok (.iload 4, 2) := by decide +kernel
theorem dX0_sortIn_93 : decode cX0_sortIn 93 = .ok (.dup2, 1) := by decide +kernel
theorem dX0_sortIn_94 : decode cX0_sortIn 94 = .ok (.iaload, 1) := by decide +kernel
theorem dX0_sortIn_95 : decode cX0_sortIn 95 = .ok (.iload_n 3, 1) := by decide +kernel
theorem dX0_sortIn_96 : decode cX0_sortIn 96 = .ok (.iadd, 1) := by decide +kernel
theorem dX0_sortIn_97 : decode cX0_sortIn 97 = .ok (.iastore, 1) := by decide +kernel
theorem dX0_sortIn_98 : decode cX0_sortIn 98 = .ok (.aload_n 0, 1) := by decide +kernel
theorem dX0_sortIn_99 : decode cX0_sortIn 99 = .ok (.getfield 28, 3) := by decide +kernel
theorem dX0_sortIn_102 : decode cX0_sortIn 102 = .ok (.iload 4, 2) := by decide +kernel
theorem dX0_sortIn_104 : decode cX0_sortIn 104 = .ok (.dup2, 1) := by decide +kernel
theorem dX0_sortIn_105 : decode cX0_sortIn 105 = .ok (.iaload, 1) := by decide +kernel
theorem dX0_sortIn_106 : decode cX0_sortIn 106 = .ok (.iload_n 3, 1) := by decide +kernel
theorem dX0_sortIn_107 : decode cX0_sortIn 107 = .ok (.iload_n 3, 1) := by decide +kernel
theorem dX0_sortIn_108 : decode cX0_sortIn 108 = .ok (.imul, 1) := by decide +kernel
theorem dX0_sortIn_109 : decode cX0_sortIn 109 = .ok (.iadd, 1) := by decide +kernel
theorem dX0_sortIn_110 : decode cX0_sortIn 110 = .ok (.iastore, 1) := by decide +kernel
theorem dX0_sortIn_111 : decode cX0_sortIn 111 = .ok (.aload_n 1, 1) := by decide +kernel
theorem dX0_sortIn_112 : decode cX0_sortIn 112 = .ok (.getfield 54, 3) := by decide +kernel
theorem dX0_sortIn_115 : decode cX0_sortIn 115 = .ok (.iload_n 2, 1) := by decide +kernel
theorem dX0_sortIn_116 : decode cX0_sortIn 116 = .ok (.baload, 1) := by decide +kernel
theorem dX0_sortIn_117 : decode cX0_sortIn 117 = .ok (.ifCond .eq 25, 3) := by decide +kernel
theorem dX0_sortIn_120 : decode cX0_sortIn 120 = .ok (.aload_n 0, 1) := by decide +kernel
theorem dX0_sortIn_121 : decode cX0_sortIn 121 = .ok (.getfield 22, 3) := by decide +kernel
theorem dX0_sortIn_124 : decode cX0_sortIn 124 = .ok (.iload 4, 2) := by decide +kernel
theorem dX0_sortIn_126 : decode cX0_sortIn 126 = .ok (.dup2, 1) := by decide +kernel
theorem dX0_sortIn_127 : decode cX0_sortIn 127 = .ok (.iaload, 1) := by decide +kernel
theorem dX0_sortIn_128 : decode cX0_sortIn 128 = .ok (.iconst 1, 1) := by decide +kernel
theorem dX0_sortIn_129 : decode cX0_sortIn 129 = .ok (.iadd, 1) := by decide +kernel
theorem dX0_sortIn_130 : decode cX0_sortIn 130 = .ok (.iastore, 1) := by decide +kernel
theorem dX0_sortIn_131 : decode cX0_sortIn 131 = .ok (.aload_n 0, 1) := by decide +kernel
theorem dX0_sortIn_132 : decode cX0_sortIn 132 = .ok (.getfield 31, 3) := by decide +kernel
theorem dX0_sortIn_135 : decode cX0_sortIn 135 = .ok (.iload 4, 2) := by decide +kernel
theorem dX0_sortIn_137 : decode cX0_sortIn 137 = .ok (.dup2, 1) := by decide +kernel
theorem dX0_sortIn_138 : decode cX0_sortIn 138 = .ok (.iaload, 1) := by decide +kernel
theorem dX0_sortIn_139 : decode cX0_sortIn 139 = .ok (.iload_n 3, 1) := by decide +kernel
theorem dX0_sortIn_140 : decode cX0_sortIn 140 = .ok (.iadd, 1) := by decide +kernel
theorem dX0_sortIn_141 : decode cX0_sortIn 141 = .ok (.iastore, 1) := by decide +kernel
theorem dX0_sortIn_142 : decode cX0_sortIn 142 = .ok (.iinc 2 1, 3) := by decide +kernel
theorem dX0_sortIn_145 : decode cX0_sortIn 145 = .ok (.goto (-91), 3) := by decide +kernel
theorem dX0_sortIn_148 : decode cX0_sortIn 148 = .ok (.return_, 1) := by decide +kernel
theorem dX0_squared_0 : decode cX0_squared 0 = .ok (.lload_n 0, 1) := by decide +kernel
theorem dX0_squared_1 : decode cX0_squared 1 = .ok (.lload_n 0, 1) := by decide +kernel
theorem dX0_squared_2 : decode cX0_squared 2 = .ok (.lmul, 1) := by decide +kernel
theorem dX0_squared_3 : decode cX0_squared 3 = .ok (.lreturn, 1) := by decide +kernel
theorem dX0_binTerm_0 : decode cX0_binTerm 0 = .ok (.aload_n 0, 1) := by decide +kernel
theorem dX0_binTerm_1 : decode cX0_binTerm 1 = .ok (.getfield 19, 3) := by decide +kernel
theorem dX0_binTerm_4 : decode cX0_binTerm 4 = .ok (.iload_n 2, 1) := by decide +kernel
theorem dX0_binTerm_5 : decode cX0_binTerm 5 = .ok (.iaload, 1) := by decide +kernel
theorem dX0_binTerm_6 : decode cX0_binTerm 6 = .ok (.i2l, 1) := by decide +kernel
theorem dX0_binTerm_7 : decode cX0_binTerm 7 = .ok (.lstore 7, 2) := by decide +kernel
theorem dX0_binTerm_9 : decode cX0_binTerm 9 = .ok (.aload_n 0, 1) := by decide +kernel
theorem dX0_binTerm_10 : decode cX0_binTerm 10 = .ok (.getfield 22, 3) := by decide +kernel
theorem dX0_binTerm_13 : decode cX0_binTerm 13 = .ok (.iload_n 2, 1) := by decide +kernel
theorem dX0_binTerm_14 : decode cX0_binTerm 14 = .ok (.iaload, 1) := by decide +kernel
theorem dX0_binTerm_15 : decode cX0_binTerm 15 = .ok (.i2l, 1) := by decide +kernel
theorem dX0_binTerm_16 : decode cX0_binTerm 16 = .ok (.lstore 9, 2) := by decide +kernel
theorem dX0_binTerm_18 : decode cX0_binTerm 18 = .ok (.aload_n 0, 1) := by decide +kernel
theorem dX0_binTerm_19 : decode cX0_binTerm 19 = .ok (.getfield 25, 3) := by decide +kernel
theorem dX0_binTerm_22 : decode cX0_binTerm 22 = .ok (.iload_n 2, 1) := by decide +kernel
theorem dX0_binTerm_23 : decode cX0_binTerm 23 = .ok (.iaload, 1) := by decide +kernel
theorem dX0_binTerm_24 : decode cX0_binTerm 24 = .ok (.i2l, 1) := by decide +kernel
theorem dX0_binTerm_25 : decode cX0_binTerm 25 = .ok (.lstore 11, 2) := by decide +kernel
theorem dX0_binTerm_27 : decode cX0_binTerm 27 = .ok (.iload_n 1, 1) := by decide +kernel
theorem dX0_binTerm_28 : decode cX0_binTerm 28 = .ok (.iconst 1, 1) := by decide +kernel
theorem dX0_binTerm_29 : decode cX0_binTerm 29 = .ok (.if_icmp .ne 17, 3) := by decide +kernel
theorem dX0_binTerm_32 : decode cX0_binTerm 32 = .ok (.lload 9, 2) := by decide +kernel
theorem dX0_binTerm_34 : decode cX0_binTerm 34 = .ok (.lload_n 3, 1) := by decide +kernel
theorem dX0_binTerm_35 : decode cX0_binTerm 35 = .ok (.lmul, 1) := by decide +kernel
theorem dX0_binTerm_36 : decode cX0_binTerm 36 = .ok (.lload 5, 2) := by decide +kernel
theorem dX0_binTerm_38 : decode cX0_binTerm 38 = .ok (.lload 7, 2) := by decide +kernel
theorem dX0_binTerm_40 : decode cX0_binTerm 40 = .ok (.lmul, 1) := by decide +kernel
theorem dX0_binTerm_41 : decode cX0_binTerm 41 = .ok (.lsub, 1) := by decide +kernel
theorem dX0_binTerm_42 : decode cX0_binTerm 42 = .ok (.invokestatic 82, 3) := by decide +kernel
theorem dX0_binTerm_45 : decode cX0_binTerm 45 = .ok (.lreturn, 1) := by decide +kernel
theorem dX0_binTerm_46 : decode cX0_binTerm 46 = .ok (.iload_n 1, 1) := by decide +kernel
theorem dX0_binTerm_47 : decode cX0_binTerm 47 = .ok (.iconst 2, 1) := by decide +kernel
theorem dX0_binTerm_48 : decode cX0_binTerm 48 = .ok (.if_icmp .ne 16, 3) := by decide +kernel
theorem dX0_binTerm_51 : decode cX0_binTerm 51 = .ok (.lload 11, 2) := by decide +kernel
theorem dX0_binTerm_53 : decode cX0_binTerm 53 = .ok (.ldc2_w 86, 3) := by decide +kernel
theorem dX0_binTerm_56 : decode cX0_binTerm 56 = .ok (.lload 9, 2) := by decide +kernel
theorem dX0_binTerm_58 : decode cX0_binTerm 58 = .ok (.lmul, 1) := by decide +kernel
theorem dX0_binTerm_59 : decode cX0_binTerm 59 = .ok (.lsub, 1) := by decide +kernel
theorem dX0_binTerm_60 : decode cX0_binTerm 60 = .ok (.invokestatic 82, 3) := by decide +kernel
theorem dX0_binTerm_63 : decode cX0_binTerm 63 = .ok (.lreturn, 1) := by decide +kernel
theorem dX0_binTerm_64 : decode cX0_binTerm 64 = .ok (.iload_n 1, 1) := by decide +kernel
theorem dX0_binTerm_65 : decode cX0_binTerm 65 = .ok (.iconst 3, 1) := by decide +kernel
theorem dX0_binTerm_66 : decode cX0_binTerm 66 = .ok (.if_icmp .ne 20, 3) := by decide +kernel
theorem dX0_binTerm_69 : decode cX0_binTerm 69 = .ok (.lload 7, 2) := by decide +kernel
theorem dX0_binTerm_71 : decode cX0_binTerm 71 = .ok (.aload_n 0, 1) := by decide +kernel
theorem dX0_binTerm_72 : decode cX0_binTerm 72 = .ok (.getfield 28, 3) := by decide +kernel
theorem dX0_binTerm_75 : decode cX0_binTerm 75 = .ok (.iload_n 2, 1) := by decide +kernel
theorem dX0_binTerm_76 : decode cX0_binTerm 76 = .ok (.iaload, 1) := by decide +kernel
theorem dX0_binTerm_77 : decode cX0_binTerm 77 = .ok (.i2l, 1) := by decide +kernel
theorem dX0_binTerm_78 : decode cX0_binTerm 78 = .ok (.lmul, 1) := by decide +kernel
theorem dX0_binTerm_79 : decode cX0_binTerm 79 = .ok (.lload 11, 2) := by decide +kernel
theorem dX0_binTerm_81 : decode cX0_binTerm 81 = .ok (.lload 11, 2) := by decide +kernel
theorem dX0_binTerm_83 : decode cX0_binTerm 83 = .ok (.lmul, 1) := by decide +kernel
theorem dX0_binTerm_84 : decode cX0_binTerm 84 = .ok (.lsub, 1) := by decide +kernel
theorem dX0_binTerm_85 : decode cX0_binTerm 85 = .ok (.lreturn, 1) := by decide +kernel
theorem dX0_binTerm_86 : decode cX0_binTerm 86 = .ok (.ldc2_w 88, 3) := by decide +kernel
theorem dX0_binTerm_89 : decode cX0_binTerm 89 = .ok (.lload 7, 2) := by decide +kernel
theorem dX0_binTerm_91 : decode cX0_binTerm 91 = .ok (.aload_n 0, 1) := by decide +kernel
theorem dX0_binTerm_92 : decode cX0_binTerm 92 = .ok (.getfield 31, 3) := by decide +kernel
theorem dX0_binTerm_95 : decode cX0_binTerm 95 = .ok (.iload_n 2, 1) := by decide +kernel
theorem dX0_binTerm_96 : decode cX0_binTerm 96 = .ok (.iaload, 1) := by decide +kernel
theorem dX0_binTerm_97 : decode cX0_binTerm 97 = .ok (.i2l, 1) := by decide +kernel
theorem dX0_binTerm_98 : decode cX0_binTerm 98 = .ok (.lmul, 1) := by decide +kernel
theorem dX0_binTerm_99 : decode cX0_binTerm 99 = .ok (.lload 11, 2) := by decide +kernel
theorem dX0_binTerm_101 : decode cX0_binTerm 101 = .ok (.lload 9, 2) := by decide +kernel
theorem dX0_binTerm_103 : decode cX0_binTerm 103 = .ok (.lmul, 1) := by decide +kernel
theorem dX0_binTerm_104 : decode cX0_binTerm 104 = .ok (.lsub, 1) := by decide +kernel
theorem dX0_binTerm_105 : decode cX0_binTerm 105 = .ok (.lmul, 1) := by decide +kernel
theorem dX0_binTerm_106 : decode cX0_binTerm 106 = .ok (.lreturn, 1) := by decide +kernel
theorem dX0_scaleOf_0 : decode cX0_scaleOf 0 = .ok (.iload_n 0, 1) := by decide +kernel
theorem dX0_scaleOf_1 : decode cX0_scaleOf 1 = .ok (.iconst 1, 1) := by decide +kernel
theorem dX0_scaleOf_2 : decode cX0_scaleOf 2 = .ok (.if_icmp .ne 9, 3) := by decide +kernel
theorem dX0_scaleOf_5 : decode cX0_scaleOf 5 = .ok (.lload_n 1, 1) := by decide +kernel
theorem dX0_scaleOf_6 : decode cX0_scaleOf 6 = .ok (.lload_n 1, 1) := by decide +kernel
theorem dX0_scaleOf_7 : decode cX0_scaleOf 7 = .ok (.lmul, 1) := by decide +kernel
theorem dX0_scaleOf_8 : decode cX0_scaleOf 8 = .ok (.lload_n 1, 1) := by decide +kernel
theorem dX0_scaleOf_9 : decode cX0_scaleOf 9 = .ok (.lmul, 1) := by decide +kernel
theorem dX0_scaleOf_10 : decode cX0_scaleOf 10 = .ok (.lreturn, 1) := by decide +kernel
theorem dX0_scaleOf_11 : decode cX0_scaleOf 11 = .ok (.iload_n 0, 1) := by decide +kernel
theorem dX0_scaleOf_12 : decode cX0_scaleOf 12 = .ok (.iconst 4, 1) := by decide +kernel
theorem dX0_scaleOf_13 : decode cX0_scaleOf 13 = .ok (.if_icmp .ne 11, 3) := by decide +kernel
theorem dX0_scaleOf_16 : decode cX0_scaleOf 16 = .ok (.ldc2_w 86, 3) := by decide +kernel
theorem dX0_scaleOf_19 : decode cX0_scaleOf 19 = .ok (.lload_n 1, 1) := by decide +kernel
theorem dX0_scaleOf_20 : decode cX0_scaleOf 20 = .ok (.lmul, 1) := by decide +kernel
theorem dX0_scaleOf_21 : decode cX0_scaleOf 21 = .ok (.goto 8, 3) := by decide +kernel
theorem dX0_scaleOf_24 : decode cX0_scaleOf 24 = .ok (.ldc2_w 90, 3) := by decide +kernel
theorem dX0_scaleOf_27 : decode cX0_scaleOf 27 = .ok (.lload_n 1, 1) := by decide +kernel
theorem dX0_scaleOf_28 : decode cX0_scaleOf 28 = .ok (.lmul, 1) := by decide +kernel
theorem dX0_scaleOf_29 : decode cX0_scaleOf 29 = .ok (.lreturn, 1) := by decide +kernel
theorem dX0_findPart_0 : decode cX0_findPart 0 = .ok (.aload_n 2, 1) := by decide +kernel
theorem dX0_findPart_1 : decode cX0_findPart 1 = .ok (.getfield 46, 3) := by decide +kernel
theorem dX0_findPart_4 : decode cX0_findPart 4 = .ok (.i2l, 1) := by decide +kernel
theorem dX0_findPart_5 : decode cX0_findPart 5 = .ok (.lstore 4, 2) := by decide +kernel
theorem dX0_findPart_7 : decode cX0_findPart 7 = .ok (.aload_n 2, 1) := by decide +kernel
theorem dX0_findPart_8 : decode cX0_findPart 8 = .ok (.getfield 58, 3) := by decide +kernel
theorem dX0_findPart_11 : decode cX0_findPart 11 = .ok (.i2l, 1) := by decide +kernel
theorem dX0_findPart_12 : decode cX0_findPart 12 = .ok (.lstore 6, 2) := by decide +kernel
theorem dX0_findPart_14 : decode cX0_findPart 14 = .ok (.iload_n 1, 1) := by decide +kernel
theorem dX0_findPart_15 : decode cX0_findPart 15 = .ok (.ifCond .ne 21, 3) := by decide +kernel
theorem dX0_findPart_18 : decode cX0_findPart 18 = .ok (.aload_n 3, 1) := by decide +kernel
theorem dX0_findPart_19 : decode cX0_findPart 19 = .ok (.lload 6, 2) := by decide +kernel
theorem dX0_findPart_21 : decode cX0_findPart 21 = .ok (.lload 4, 2) := by decide +kernel
theorem dX0_findPart_23 : decode cX0_findPart 23 = .ok (.lload 6, 2) := by decide +kernel
theorem dX0_findPart_25 : decode cX0_findPart 25 = .ok (.lsub, 1) := by decide +kernel
theorem dX0_findPart_26 : decode cX0_findPart 26 = .ok (.lmul, 1) := by decide +kernel
theorem dX0_findPart_27 : decode cX0_findPart 27 = .ok (.lload 4, 2) := by decide +kernel
theorem dX0_findPart_29 : decode cX0_findPart 29 = .ok (.lload 4, 2) := by decide +kernel
theorem dX0_findPart_31 : decode cX0_findPart 31 = .ok (.lmul, 1) := by decide +kernel
theorem dX0_findPart_32 : decode cX0_findPart 32 = .ok (.invokevirtual 61, 3) := by decide +kernel
theorem dX0_findPart_35 : decode cX0_findPart 35 = .ok (.return_, 1) := by decide +kernel
theorem dX0_findPart_36 : decode cX0_findPart 36 = .ok (.aload_n 3, 1) := by decide +kernel
theorem dX0_findPart_37 : decode cX0_findPart 37 = .ok (.lconst 0, 1) := by decide +kernel
theorem dX0_findPart_38 : decode cX0_findPart 38 = .ok (.lconst 1, 1) := by decide +kernel
theorem dX0_findPart_39 : decode cX0_findPart 39 = .ok (.invokevirtual 61, 3) := by decide +kernel
theorem dX0_findPart_42 : decode cX0_findPart 42 = .ok (.iconst 0, 1) := by decide +kernel
theorem dX0_findPart_43 : decode cX0_findPart 43 = .ok (.istore 8, 2) := by decide +kernel
theorem dX0_findPart_45 : decode cX0_findPart 45 = .ok (.iload 8, 2) := by decide +kernel
theorem dX0_findPart_47 : decode cX0_findPart 47 = .ok (.aload_n 0, 1) := by decide +kernel
theorem dX0_findPart_48 : decode cX0_findPart 48 = .ok (.getfield 15, 3) := by decide +kernel
theorem dX0_findPart_51 : decode cX0_findPart 51 = .ok (.if_icmp .gt 42, 3) := by decide +kernel
theorem dX0_findPart_54 : decode cX0_findPart 54 = .ok (.aload_n 0, 1) := by decide +kernel
theorem dX0_findPart_55 : decode cX0_findPart 55 = .ok (.getfield 19, 3) := by decide +kernel
theorem dX0_findPart_58 : decode cX0_findPart 58 = .ok (.iload 8, 2) := by decide +kernel
theorem dX0_findPart_60 : decode cX0_findPart 60 = .ok (.iaload, 1) := by decide +kernel
theorem dX0_findPart_61 : decode cX0_findPart 61 = .ok (.ifCond .le 26, 3) := by decide +kernel
theorem dX0_findPart_64 : decode cX0_findPart 64 = .ok (.aload_n 3, 1) := by decide +kernel
theorem dX0_findPart_65 : decode cX0_findPart 65 = .ok (.aload_n 0, 1) := by decide +kernel
theorem dX0_findPart_66 : decode cX0_findPart 66 = .ok (.iload_n 1, 1) := by decide +kernel
theorem dX0_findPart_67 : decode cX0_findPart 67 = .ok (.iload 8, 2) := by decide +kernel
theorem dX0_findPart_69 : decode cX0_findPart 69 = .ok (.lload 4, 2) := by decide +kernel
theorem dX0_findPart_71 : decode cX0_findPart 71 = .ok (.lload 6, 2) := by decide +kernel
theorem dX0_findPart_73 : decode cX0_findPart 73 = .ok (.invokevirtual 67, 3) := by decide +kernel
theorem dX0_findPart_76 : decode cX0_findPart 76 = .ok (.aload_n 0, 1) := by decide +kernel
theorem dX0_findPart_77 : decode cX0_findPart 77 = .ok (.getfield 19, 3) := by decide +kernel
theorem dX0_findPart_80 : decode cX0_findPart 80 = .ok (.iload 8, 2) := by decide +kernel
theorem dX0_findPart_82 : decode cX0_findPart 82 = .ok (.iaload, 1) := by decide +kernel
theorem dX0_findPart_83 : decode cX0_findPart 83 = .ok (.i2l, 1) := by decide +kernel
theorem dX0_findPart_84 : decode cX0_findPart 84 = .ok (.invokevirtual 71, 3) := by decide +kernel
theorem dX0_findPart_87 : decode cX0_findPart 87 = .ok (.iinc 8 1, 3) := by decide +kernel
theorem dX0_findPart_90 : decode cX0_findPart 90 = .ok (.goto (-45), 3) := by decide +kernel
theorem dX0_findPart_93 : decode cX0_findPart 93 = .ok (.aload_n 3, 1) := by decide +kernel
theorem dX0_findPart_94 : decode cX0_findPart 94 = .ok (.iload_n 1, 1) := by decide +kernel
theorem dX0_findPart_95 : decode cX0_findPart 95 = .ok (.lload 4, 2) := by decide +kernel
theorem dX0_findPart_97 : decode cX0_findPart 97 = .ok (.invokestatic 74, 3) := by decide +kernel
theorem dX0_findPart_100 : decode cX0_findPart 100 = .ok (.invokevirtual 78, 3) := by decide +kernel
theorem dX0_findPart_103 : decode cX0_findPart 103 = .ok (.return_, 1) := by decide +kernel
theorem dX0_findJoinLoss_0 : decode cX0_findJoinLoss 0 = .ok (.aload_n 0, 1) := by decide +kernel
theorem dX0_findJoinLoss_1 : decode cX0_findJoinLoss 1 = .ok (.getfield 19, 3) := by decide +kernel
theorem dX0_findJoinLoss_4 : decode cX0_findJoinLoss 4 = .ok (.iload_n 1, 1) := by decide +kernel
theorem dX0_findJoinLoss_5 : decode cX0_findJoinLoss 5 = .ok (.iaload, 1) := by decide +kernel
theorem dX0_findJoinLoss_6 : decode cX0_findJoinLoss 6 = .ok (.i2l, 1) := by decide +kernel
theorem dX0_findJoinLoss_7 : decode cX0_findJoinLoss 7 = .ok (.lstore 4, 2) := by decide +kernel
theorem dX0_findJoinLoss_9 : decode cX0_findJoinLoss 9 = .ok (.aload_n 0, 1) := by decide +kernel
theorem dX0_findJoinLoss_10 : decode cX0_findJoinLoss 10 = .ok (.getfield 19, 3) := by decide +kernel
theorem dX0_findJoinLoss_13 : decode cX0_findJoinLoss 13 = .ok (.iload_n 1, 1) := by decide +kernel
theorem dX0_findJoinLoss_14 : decode cX0_findJoinLoss 14 = .ok (.iconst 1, 1) := by decide +kernel
theorem dX0_findJoinLoss_15 : decode cX0_findJoinLoss 15 = .ok (.iadd, 1) := by decide +kernel
theorem dX0_findJoinLoss_16 : decode cX0_findJoinLoss 16 = .ok (.iaload, 1) := by decide +kernel
theorem dX0_findJoinLoss_17 : decode cX0_findJoinLoss 17 = .ok (.i2l, 1) := by decide +kernel
theorem dX0_findJoinLoss_18 : decode cX0_findJoinLoss 18 = .ok (.lstore 6, 2) := by decide +kernel
theorem dX0_findJoinLoss_20 : decode cX0_findJoinLoss 20 = .ok (.lload 4, 2) := by decide +kernel
theorem dX0_findJoinLoss_22 : decode cX0_findJoinLoss 22 = .ok (.lconst 0, 1) := by decide +kernel
theorem dX0_findJoinLoss_23 : decode cX0_findJoinLoss 23 = .ok (.lcmp, 1) := by decide +kernel
theorem dX0_findJoinLoss_24 : decode cX0_findJoinLoss 24 = .ok (.ifCond .eq 10, 3) := by decide +kernel
theorem dX0_findJoinLoss_27 : decode cX0_findJoinLoss 27 = .ok (.lload 6, 2) := by decide +kernel
theorem dX0_findJoinLoss_29 : decode cX0_findJoinLoss 29 = .ok (.lconst 0, 1) := by decide +kernel
theorem dX0_findJoinLoss_30 : decode cX0_findJoinLoss 30 = .ok (.lcmp, 1) := by decide +kernel
theorem dX0_findJoinLoss_31 : decode cX0_findJoinLoss 31 = .ok (.ifCond .ne 10, 3) := by decide +kernel
theorem dX0_findJoinLoss_34 : decode cX0_findJoinLoss 34 = .ok (.aload_n 3, 1) := by decide +kernel
theorem dX0_findJoinLoss_35 : decode cX0_findJoinLoss 35 = .ok (.lconst 0, 1) := by decide +kernel
theorem dX0_findJoinLoss_36 : decode cX0_findJoinLoss 36 = .ok (.lconst 1, 1) := by decide +kernel
theorem dX0_findJoinLoss_37 : decode cX0_findJoinLoss 37 = .ok (.invokevirtual 61, 3) := by decide +kernel
theorem dX0_findJoinLoss_40 : decode cX0_findJoinLoss 40 = .ok (.return_, 1) := by decide +kernel
theorem dX0_findJoinLoss_41 : decode cX0_findJoinLoss 41 = .ok (.aload_n 3, 1) := by decide +kernel
theorem dX0_findJoinLoss_42 : decode cX0_findJoinLoss 42 = .ok (.aload_n 0, 1) := by decide +kernel
theorem dX0_findJoinLoss_43 : decode cX0_findJoinLoss 43 = .ok (.getfield 22, 3) := by decide +kernel
theorem dX0_findJoinLoss_46 : decode cX0_findJoinLoss 46 = .ok (.iload_n 1, 1) := by decide +kernel
theorem dX0_findJoinLoss_47 : decode cX0_findJoinLoss 47 = .ok (.iaload, 1) := by decide +kernel
theorem dX0_findJoinLoss_48 : decode cX0_findJoinLoss 48 = .ok (.i2l, 1) := by decide +kernel
theorem dX0_findJoinLoss_49 : decode cX0_findJoinLoss 49 = .ok (.lload 6, 2) := by decide +kernel
theorem dX0_findJoinLoss_51 : decode cX0_findJoinLoss 51 = .ok (.lmul, 1) := by decide +kernel
theorem dX0_findJoinLoss_52 : decode cX0_findJoinLoss 52 = .ok (.aload_n 0, 1) := by decide +kernel
theorem dX0_findJoinLoss_53 : decode cX0_findJoinLoss 53 = .ok (.getfield 22, 3) := by decide +kernel
theorem dX0_findJoinLoss_56 : decode cX0_findJoinLoss 56 = .ok (.iload_n 1, 1) := by decide +kernel
theorem dX0_findJoinLoss_57 : decode cX0_findJoinLoss 57 = .ok (.iconst 1, 1) := by decide +kernel
theorem dX0_findJoinLoss_58 : decode cX0_findJoinLoss 58 = .ok (.iadd, 1) := by decide +kernel
theorem dX0_findJoinLoss_59 : decode cX0_findJoinLoss 59 = .ok (.iaload, 1) := by decide +kernel
theorem dX0_findJoinLoss_60 : decode cX0_findJoinLoss 60 = .ok (.i2l, 1) := by decide +kernel
theorem dX0_findJoinLoss_61 : decode cX0_findJoinLoss 61 = .ok (.lload 4, 2) := by decide +kernel
theorem dX0_findJoinLoss_63 : decode cX0_findJoinLoss 63 = .ok (.lmul, 1) := by decide +kernel
theorem dX0_findJoinLoss_64 : decode cX0_findJoinLoss 64 = .ok (.lsub, 1) := by decide +kernel
theorem dX0_findJoinLoss_65 : decode cX0_findJoinLoss 65 = .ok (.invokestatic 82, 3) := by decide +kernel
theorem dX0_findJoinLoss_68 : decode cX0_findJoinLoss 68 = .ok (.lload 4, 2) := by decide +kernel
theorem dX0_findJoinLoss_70 : decode cX0_findJoinLoss 70 = .ok (.lload 6, 2) := by decide +kernel
theorem dX0_findJoinLoss_72 : decode cX0_findJoinLoss 72 = .ok (.lmul, 1) := by decide +kernel
theorem dX0_findJoinLoss_73 : decode cX0_findJoinLoss 73 = .ok (.lload 4, 2) := by decide +kernel
theorem dX0_findJoinLoss_75 : decode cX0_findJoinLoss 75 = .ok (.lload 6, 2) := by decide +kernel
theorem dX0_findJoinLoss_77 : decode cX0_findJoinLoss 77 = .ok (.ladd, 1) := by decide +kernel
theorem dX0_findJoinLoss_78 : decode cX0_findJoinLoss 78 = .ok (.lmul, 1) := by decide +kernel
theorem dX0_findJoinLoss_79 : decode cX0_findJoinLoss 79 = .ok (.aload_n 2, 1) := by decide +kernel
theorem dX0_findJoinLoss_80 : decode cX0_findJoinLoss 80 = .ok (.getfield 46, 3) := by decide +kernel
theorem dX0_findJoinLoss_83 : decode cX0_findJoinLoss 83 = .ok (.i2l, 1) := by decide +kernel
theorem dX0_findJoinLoss_84 : decode cX0_findJoinLoss 84 = .ok (.lmul, 1) := by decide +kernel
theorem dX0_findJoinLoss_85 : decode cX0_findJoinLoss 85 = .ok (.invokevirtual 61, 3) := by decide +kernel
theorem dX0_findJoinLoss_88 : decode cX0_findJoinLoss 88 = .ok (.return_, 1) := by decide +kernel
theorem dX9_codeAt_0 : decode cX9_codeAt 0 = .ok (.iload_n 1, 1) := by decide +kernel
theorem dX9_codeAt_1 : decode cX9_codeAt 1 = .ok (.ifCond .lt 20, 3) := by decide +kernel
theorem dX9_codeAt_4 : decode cX9_codeAt 4 = .ok (.iload_n 1, 1) := by decide +kernel
theorem dX9_codeAt_5 : decode cX9_codeAt 5 = .ok (.aload_n 0, 1) := by decide +kernel
theorem dX9_codeAt_6 : decode cX9_codeAt 6 = .ok (.getfield 15, 3) := by decide +kernel
theorem dX9_codeAt_9 : decode cX9_codeAt 9 = .ok (.if_icmp .ge 12, 3) := by decide +kernel
theorem dX9_codeAt_12 : decode cX9_codeAt 12 = .ok (.aload_n 0, 1) := by decide +kernel
theorem dX9_codeAt_13 : decode cX9_codeAt 13 = .ok (.getfield 9, 3) := by decide +kernel
theorem dX9_codeAt_16 : decode cX9_codeAt 16 = .ok (.iload_n 1, 1) := by decide +kernel
theorem dX9_codeAt_17 : decode cX9_codeAt 17 = .ok (.iaload, 1) := by decide +kernel
theorem dX9_codeAt_18 : decode cX9_codeAt 18 = .ok (.goto 5, 3) := by decide +kernel
theorem dX9_codeAt_21 : decode cX9_codeAt 21 = .ok (.bipush (-9), 2) := by decide +kernel
theorem dX9_codeAt_23 : decode cX9_codeAt 23 = .ok (.ireturn, 1) := by decide +kernel
theorem dX9_sharedWith_0 : decode cX9_sharedWith 0 = .ok (.iconst 0, 1) := by decide +kernel
theorem dX9_sharedWith_1 : decode cX9_sharedWith 1 = .ok (.istore_n 2, 1) := by decide +kernel
theorem dX9_sharedWith_2 : decode cX9_sharedWith 2 = .ok (.iload_n 2, 1) := by decide +kernel
theorem dX9_sharedWith_3 : decode cX9_sharedWith 3 = .ok (.aload_n 1, 1) := by decide +kernel
theorem dX9_sharedWith_4 : decode cX9_sharedWith 4 = .ok (.invokevirtual 19, 3) := by decide +kernel
theorem dX9_sharedWith_7 : decode cX9_sharedWith 7 = .ok (.if_icmp .ge 22, 3) := by decide +kernel
theorem dX9_sharedWith_10 : decode cX9_sharedWith 10 = .ok (.aload_n 0, 1) := by decide +kernel
theorem dX9_sharedWith_11 : decode cX9_sharedWith 11 = .ok (.iload_n 2, 1) := by decide +kernel
theorem dX9_sharedWith_12 : decode cX9_sharedWith 12 = .ok (.invokevirtual 28, 3) := by decide +kernel
theorem dX9_sharedWith_15 : decode cX9_sharedWith 15 = .ok (.aload_n 1, 1) := by decide +kernel
theorem dX9_sharedWith_16 : decode cX9_sharedWith 16 = .ok (.iload_n 2, 1) := by decide +kernel
theorem dX9_sharedWith_17 : decode cX9_sharedWith 17 = .ok (.invokevirtual 32, 3) := by decide +kernel
theorem dX9_sharedWith_20 : decode cX9_sharedWith 20 = .ok (.if_icmp .ne 9, 3) := by decide +kernel
theorem dX9_sharedWith_23 : decode cX9_sharedWith 23 = .ok (.iinc 2 1, 3) := by decide +kernel
theorem dX9_sharedWith_26 : decode cX9_sharedWith 26 = .ok (.goto (-24), 3) := by decide +kernel
theorem dX9_sharedWith_29 : decode cX9_sharedWith 29 = .ok (.iload_n 2, 1) := by decide +kernel
theorem dX9_sharedWith_30 : decode cX9_sharedWith 30 = .ok (.ireturn, 1) := by decide +kernel
theorem dX5_readNumber_0 : decode cX5_readNumber 0 = .ok (.iconst 0, 1) := by decide +kernel
theorem dX5_readNumber_1 : decode cX5_readNumber 1 = .ok (.istore 4, 2) := by decide +kernel
theorem dX5_readNumber_3 : decode cX5_readNumber 3 = .ok (.iconst 0, 1) := by decide +kernel
theorem dX5_readNumber_4 : decode cX5_readNumber 4 = .ok (.istore 5, 2) := by decide +kernel
theorem dX5_readNumber_6 : decode cX5_readNumber 6 = .ok (.iload 5, 2) := by decide +kernel
theorem dX5_readNumber_8 : decode cX5_readNumber 8 = .ok (.iconst 3, 1) := by decide +kernel
theorem dX5_readNumber_9 : decode cX5_readNumber 9 = .ok (.if_icmp .ge 83, 3) := by decide +kernel
theorem dX5_readNumber_12 : decode cX5_readNumber 12 = .ok (.aload_n 1, 1) := by decide +kernel
theorem dX5_readNumber_13 : decode cX5_readNumber 13 = .ok (.aload_n 0, 1) := by decide +kernel
theorem dX5_readNumber_14 : decode cX5_readNumber 14 = .ok (.getfield 19, 3) := by decide +kernel
theorem dX5_readNumber_17 : decode cX5_readNumber 17 = .ok (.invokevirtual 43, 3) := by decide +kernel
theorem dX5_readNumber_20 : decode cX5_readNumber 20 = .ok (.istore 6, 2) := by decide +kernel
theorem dX5_readNumber_22 : decode cX5_readNumber 22 = .ok (.iload 6, 2) := by decide +kernel
theorem dX5_readNumber_24 : decode cX5_readNumber 24 = .ok (.bipush 48, 2) := by decide +kernel
theorem dX5_readNumber_26 : decode cX5_readNumber 26 = .ok (.if_icmp .lt 10, 3) := by decide +kernel
theorem dX5_readNumber_29 : decode cX5_readNumber 29 = .ok (.iload 6, 2) := by decide +kernel
theorem dX5_readNumber_31 : decode cX5_readNumber 31 = .ok (.bipush 57, 2) := by decide +kernel
theorem dX5_readNumber_33 : decode cX5_readNumber 33 = .ok (.if_icmp .le 22, 3) := by decide +kernel
theorem dX5_readNumber_36 : decode cX5_readNumber 36 = .ok (.aload_n 0, 1) := by decide +kernel
theorem dX5_readNumber_37 : decode cX5_readNumber 37 = .ok (.getfield 9, 3) := by decide +kernel
theorem dX5_readNumber_40 : decode cX5_readNumber 40 = .ok (.iload_n 2, 1) := by decide +kernel
theorem dX5_readNumber_41 : decode cX5_readNumber 41 = .ok (.iload 4, 2) := by decide +kernel
theorem dX5_readNumber_43 : decode cX5_readNumber 43 = .ok (.iastore, 1) := by decide +kernel
theorem dX5_readNumber_44 : decode cX5_readNumber 44 = .ok (.iload 5, 2) := by decide +kernel
theorem dX5_readNumber_46 : decode cX5_readNumber 46 = .ok (.ifCond .le 7, 3) := by decide +kernel
theorem dX5_readNumber_49 : decode cX5_readNumber 49 = .ok (.iconst 1, 1) := by decide +kernel
theorem dX5_readNumber_50 : decode cX5_readNumber 50 = .ok (.goto 4, 3) := by decide +kernel
theorem dX5_readNumber_53 : decode cX5_readNumber 53 = .ok (.iconst 0, 1) := by decide +kernel
theorem dX5_readNumber_54 : decode cX5_readNumber 54 = .ok (.ireturn, 1) := by decide +kernel
theorem dX5_readNumber_55 : decode cX5_readNumber 55 = .ok (.iload 4, 2) := by decide +kernel
theorem dX5_readNumber_57 : decode cX5_readNumber 57 = .ok (.bipush 10, 2) := by decide +kernel
theorem dX5_readNumber_59 : decode cX5_readNumber 59 = .ok (.imul, 1) := by decide +kernel
theorem dX5_readNumber_60 : decode cX5_readNumber 60 = .ok (.iload 6, 2) := by decide +kernel
theorem dX5_readNumber_62 : decode cX5_readNumber 62 = .ok (.iadd, 1) := by decide +kernel
theorem dX5_readNumber_63 : decode cX5_readNumber 63 = .ok (.bipush 48, 2) := by decide +kernel
theorem dX5_readNumber_65 : decode cX5_readNumber 65 = .ok (.isub, 1) := by decide +kernel
theorem dX5_readNumber_66 : decode cX5_readNumber 66 = .ok (.istore 4, 2) := by decide +kernel
theorem dX5_readNumber_68 : decode cX5_readNumber 68 = .ok (.iload 4, 2) := by decide +kernel
theorem dX5_readNumber_70 : decode cX5_readNumber 70 = .ok (.iload_n 3, 1) := by decide +kernel
theorem dX5_readNumber_71 : decode cX5_readNumber 71 = .ok (.if_icmp .le 5, 3) := by decide +kernel
theorem dX5_readNumber_74 : decode cX5_readNumber 74 = .ok (.iconst 0, 1) := by decide +kernel
theorem dX5_readNumber_75 : decode cX5_readNumber 75 = .ok (.ireturn, 1) := by decide +kernel
theorem dX5_readNumber_76 : decode cX5_readNumber 76 = .ok (.aload_n 0, 1) := by decide +kernel
theorem dX5_readNumber_77 : decode cX5_readNumber 77 = .ok (.dup, 1) := by decide +kernel
theorem dX5_readNumber_78 : decode cX5_readNumber 78 = .ok (.getfield 19, 3) := by decide +kernel
theorem dX5_readNumber_81 : decode cX5_readNumber 81 = .ok (.iconst 1, 1) := by decide +kernel
theorem dX5_readNumber_82 : decode cX5_readNumber 82 = .ok (.iadd, 1) := by decide +kernel
theorem dX5_readNumber_83 : decode cX5_readNumber 83 = .ok (.putfield 19, 3) := by decide +kernel
theorem dX5_readNumber_86 : decode cX5_readNumber 86 = .ok (.iinc 5 1, 3) := by decide +kernel
theorem dX5_readNumber_89 : decode cX5_readNumber 89 = .ok (.goto (-83), 3) := by decide +kernel
theorem dX5_readNumber_92 : decode cX5_readNumber 92 = .ok (.aload_n 0, 1) := by decide +kernel
theorem dX5_readNumber_93 : decode cX5_readNumber 93 = .ok (.getfield 9, 3) := by decide +kernel
theorem dX5_readNumber_96 : decode cX5_readNumber 96 = .ok (.iload_n 2, 1) := by decide +kernel
theorem dX5_readNumber_97 : decode cX5_readNumber 97 = .ok (.iload 4, 2) := by decide +kernel
theorem dX5_readNumber_99 : decode cX5_readNumber 99 = .ok (.iastore, 1) := by decide +kernel
theorem dX5_readNumber_100 : decode cX5_readNumber 100 = .ok (.iconst 1, 1) := by decide +kernel
theorem dX5_readNumber_101 : decode cX5_readNumber 101 = .ok (.ireturn, 1) := by decide +kernel
theorem dX5_reach_0 : decode cX5_reach 0 = .ok (.aload_n 0, 1) := by decide +kernel
theorem dX5_reach_1 : decode cX5_reach 1 = .ok (.iconst 0, 1) := by decide +kernel
theorem dX5_reach_2 : decode cX5_reach 2 = .ok (.putfield 15, 3) := by decide +kernel
theorem dX5_reach_5 : decode cX5_reach 5 = .ok (.aload_n 0, 1) := by decide +kernel
theorem dX5_reach_6 : decode cX5_reach 6 = .ok (.aload_n 1, 1) := by decide +kernel
theorem dX5_reach_7 : decode cX5_reach 7 = .ok (.aload_n 2, 1) := by decide +kernel
theorem dX5_reach_8 : decode cX5_reach 8 = .ok (.getfield 23, 3) := by decide +kernel
theorem dX5_reach_11 : decode cX5_reach 11 = .ok (.invokevirtual 29, 3) := by decide +kernel
theorem dX5_reach_14 : decode cX5_reach 14 = .ok (.putfield 19, 3) := by decide +kernel
theorem dX5_reach_17 : decode cX5_reach 17 = .ok (.aload_n 0, 1) := by decide +kernel
theorem dX5_reach_18 : decode cX5_reach 18 = .ok (.getfield 19, 3) := by decide +kernel
theorem dX5_reach_21 : decode cX5_reach 21 = .ok (.aload_n 2, 1) := by decide +kernel
theorem dX5_reach_22 : decode cX5_reach 22 = .ok (.getfield 23, 3) := by decide +kernel
theorem dX5_reach_25 : decode cX5_reach 25 = .ok (.invokevirtual 35, 3) := by decide +kernel
theorem dX5_reach_28 : decode cX5_reach 28 = .ok (.if_icmp .ge 8, 3) := by decide +kernel
theorem dX5_reach_31 : decode cX5_reach 31 = .ok (.aload_n 0, 1) := by decide +kernel
theorem dX5_reach_32 : decode cX5_reach 32 = .ok (.getfield 19, 3) := by decide +kernel
theorem dX5_reach_35 : decode cX5_reach 35 = .ok (.ireturn, 1) := by decide +kernel
theorem dX5_reach_36 : decode cX5_reach 36 = .ok (.iconst 0, 1) := by decide +kernel
theorem dX5_reach_37 : decode cX5_reach 37 = .ok (.istore_n 3, 1) := by decide +kernel
theorem dX5_reach_38 : decode cX5_reach 38 = .ok (.iload_n 3, 1) := by decide +kernel
theorem dX5_reach_39 : decode cX5_reach 39 = .ok (.aload_n 2, 1) := by decide +kernel
theorem dX5_reach_40 : decode cX5_reach 40 = .ok (.getfield 41, 3) := by decide +kernel
theorem dX5_reach_43 : decode cX5_reach 43 = .ok (.if_icmp .ge 65, 3) := by decide +kernel
theorem dX5_reach_46 : decode cX5_reach 46 = .ok (.iload_n 3, 1) := by decide +kernel
theorem dX5_reach_47 : decode cX5_reach 47 = .ok (.aload_n 0, 1) := by decide +kernel
theorem dX5_reach_48 : decode cX5_reach 48 = .ok (.getfield 9, 3) := by decide +kernel
theorem dX5_reach_51 : decode cX5_reach 51 = .ok (.arraylength, 1) := by decide +kernel
theorem dX5_reach_52 : decode cX5_reach 52 = .ok (.if_icmp .ge 56, 3) := by decide +kernel
theorem dX5_reach_55 : decode cX5_reach 55 = .ok (.aload_n 1, 1) := by decide +kernel
theorem dX5_reach_56 : decode cX5_reach 56 = .ok (.aload_n 0, 1) := by decide +kernel
theorem dX5_reach_57 : decode cX5_reach 57 = .ok (.getfield 19, 3) := by decide +kernel
theorem dX5_reach_60 : decode cX5_reach 60 = .ok (.invokevirtual 43, 3) := by decide +kernel
theorem dX5_reach_63 : decode cX5_reach 63 = .ok (.bipush 32, 2) := by decide +kernel
theorem dX5_reach_65 : decode cX5_reach 65 = .ok (.if_icmp .eq 8, 3) := by decide +kernel
theorem dX5_reach_68 : decode cX5_reach 68 = .ok (.aload_n 0, 1) := by decide +kernel
theorem dX5_reach_69 : decode cX5_reach 69 = .ok (.getfield 19, 3) := by decide +kernel
theorem dX5_reach_72 : decode cX5_reach 72 = .ok (.ireturn, 1) := by decide +kernel
theorem dX5_reach_73 : decode cX5_reach 73 = .ok (.aload_n 0, 1) := by decide +kernel
theorem dX5_reach_74 : decode cX5_reach 74 = .ok (.dup, 1) := by decide +kernel
theorem dX5_reach_75 : decode cX5_reach 75 = .ok (.getfield 19, 3) := by decide +kernel
theorem dX5_reach_78 : decode cX5_reach 78 = .ok (.iconst 1, 1) := by decide +kernel
theorem dX5_reach_79 : decode cX5_reach 79 = .ok (.iadd, 1) := by decide +kernel
theorem dX5_reach_80 : decode cX5_reach 80 = .ok (.putfield 19, 3) := by decide +kernel
theorem dX5_reach_83 : decode cX5_reach 83 = .ok (.aload_n 0, 1) := by decide +kernel
theorem dX5_reach_84 : decode cX5_reach 84 = .ok (.aload_n 1, 1) := by decide +kernel
theorem dX5_reach_85 : decode cX5_reach 85 = .ok (.iload_n 3, 1) := by decide +kernel
theorem dX5_reach_86 : decode cX5_reach 86 = .ok (.aload_n 2, 1) := by decide +kernel
theorem dX5_reach_87 : decode cX5_reach 87 = .ok (.iload_n 3, 1) := by decide +kernel
theorem dX5_reach_88 : decode cX5_reach 88 = .ok (.invokevirtual 47, 3) := by decide +kernel
theorem dX5_reach_91 : decode cX5_reach 91 = .ok (.invokevirtual 50, 3) := by decide +kernel
theorem dX5_reach_94 : decode cX5_reach 94 = .ok (.ifCond .ne 8, 3) := by decide +kernel
theorem dX5_reach_97 : decode cX5_reach 97 = .ok (.aload_n 0, 1) := by decide +kernel
theorem dX5_reach_98 : decode cX5_reach 98 = .ok (.getfield 19, 3) := by decide +kernel
theorem dX5_reach_101 : decode cX5_reach 101 = .ok (.ireturn, 1) := by decide +kernel
theorem dX5_reach_102 : decode cX5_reach 102 = .ok (.iinc 3 1, 3) := by decide +kernel
theorem dX5_reach_105 : decode cX5_reach 105 = .ok (.goto (-67), 3) := by decide +kernel
theorem dX5_reach_108 : decode cX5_reach 108 = .ok (.aload_n 0, 1) := by decide +kernel
theorem dX5_reach_109 : decode cX5_reach 109 = .ok (.aload_n 0, 1) := by decide +kernel
theorem dX5_reach_110 : decode cX5_reach 110 = .ok (.getfield 19, 3) := by decide +kernel
theorem dX5_reach_113 : decode cX5_reach 113 = .ok (.aload_n 1, 1) := by decide +kernel
theorem dX5_reach_114 : decode cX5_reach 114 = .ok (.getfield 54, 3) := by decide +kernel
theorem dX5_reach_117 : decode cX5_reach 117 = .ok (.if_icmp .ne 7, 3) := by decide +kernel
theorem dX5_reach_120 : decode cX5_reach 120 = .ok (.iconst 1, 1) := by decide +kernel
theorem dX5_reach_121 : decode cX5_reach 121 = .ok (.goto 4, 3) := by decide +kernel
theorem dX5_reach_124 : decode cX5_reach 124 = .ok (.iconst 0, 1) := by decide +kernel
theorem dX5_reach_125 : decode cX5_reach 125 = .ok (.putfield 15, 3) := by decide +kernel
theorem dX5_reach_128 : decode cX5_reach 128 = .ok (.aload_n 0, 1) := by decide +kernel
theorem dX5_reach_129 : decode cX5_reach 129 = .ok (.getfield 19, 3) := by decide +kernel
theorem dX5_reach_132 : decode cX5_reach 132 = .ok (.ireturn, 1) := by decide +kernel
theorem dX6_clear_0 : decode cX6_clear 0 = .ok (.aload_n 0, 1) := by decide +kernel
theorem dX6_clear_1 : decode cX6_clear 1 = .ok (.iconst 0, 1) := by decide +kernel
theorem dX6_clear_2 : decode cX6_clear 2 = .ok (.putfield 15, 3) := by decide +kernel
theorem dX6_clear_5 : decode cX6_clear 5 = .ok (.return_, 1) := by decide +kernel
theorem dX6_put_0 : decode cX6_put 0 = .ok (.aload_n 0, 1) := by decide +kernel
theorem dX6_put_1 : decode cX6_put 1 = .ok (.getfield 15, 3) := by decide +kernel
theorem dX6_put_4 : decode cX6_put 4 = .ok (.aload_n 0, 1) := by decide +kernel
theorem dX6_put_5 : decode cX6_put 5 = .ok (.getfield 9, 3) := by decide +kernel
theorem dX6_put_8 : decode cX6_put 8 = .ok (.arraylength, 1) := by decide +kernel
theorem dX6_put_9 : decode cX6_put 9 = .ok (.if_icmp .ge 23, 3) := by decide +kernel
theorem dX6_put_12 : decode cX6_put 12 = .ok (.aload_n 0, 1) := by decide +kernel
theorem dX6_put_13 : decode cX6_put 13 = .ok (.getfield 9, 3) := by decide +kernel
theorem dX6_put_16 : decode cX6_put 16 = .ok (.aload_n 0, 1) := by decide +kernel
theorem dX6_put_17 : decode cX6_put 17 = .ok (.getfield 15, 3) := by decide +kernel
theorem dX6_put_20 : decode cX6_put 20 = .ok (.iload_n 1, 1) := by decide +kernel
theorem dX6_put_21 : decode cX6_put 21 = .ok (.iastore, 1) := by decide +kernel
theorem dX6_put_22 : decode cX6_put 22 = .ok (.aload_n 0, 1) := by decide +kernel
theorem dX6_put_23 : decode cX6_put 23 = .ok (.dup, 1) := by decide +kernel
theorem dX6_put_24 : decode cX6_put 24 = .ok (.getfield 15, 3) := by decide +kernel
theorem dX6_put_27 : decode cX6_put 27 = .ok (.iconst 1, 1) := by decide +kernel
theorem dX6_put_28 : decode cX6_put 28 = .ok (.iadd, 1) := by decide +kernel
theorem dX6_put_29 : decode cX6_put 29 = .ok (.putfield 15, 3) := by decide +kernel
theorem dX6_put_32 : decode cX6_put 32 = .ok (.return_, 1) := by decide +kernel
theorem dX6_putWord_0 : decode cX6_putWord 0 = .ok (.iconst 0, 1) := by decide +kernel
theorem dX6_putWord_1 : decode cX6_putWord 1 = .ok (.istore_n 2, 1) := by decide +kernel
theorem dX6_putWord_2 : decode cX6_putWord 2 = .ok (.iload_n 2, 1) := by decide +kernel
theorem dX6_putWord_3 : decode cX6_putWord 3 = .ok (.aload_n 1, 1) := by decide +kernel
theorem dX6_putWord_4 : decode cX6_putWord 4 = .ok (.invokevirtual 19, 3) := by decide +kernel
theorem dX6_putWord_7 : decode cX6_putWord 7 = .ok (.if_icmp .ge 18, 3) := by decide +kernel
theorem dX6_putWord_10 : decode cX6_putWord 10 = .ok (.aload_n 0, 1) := by decide +kernel
theorem dX6_putWord_11 : decode cX6_putWord 11 = .ok (.aload_n 1, 1) := by decide +kernel
theorem dX6_putWord_12 : decode cX6_putWord 12 = .ok (.iload_n 2, 1) := by decide +kernel
theorem dX6_putWord_13 : decode cX6_putWord 13 = .ok (.invokevirtual 24, 3) := by decide +kernel
theorem dX6_putWord_16 : decode cX6_putWord 16 = .ok (.invokevirtual 28, 3) := by decide +kernel
theorem dX6_putWord_19 : decode cX6_putWord 19 = .ok (.iinc 2 1, 3) := by decide +kernel
theorem dX6_putWord_22 : decode cX6_putWord 22 = .ok (.goto (-20), 3) := by decide +kernel
theorem dX6_putWord_25 : decode cX6_putWord 25 = .ok (.return_, 1) := by decide +kernel
theorem dX6_putNumber_0 : decode cX6_putNumber 0 = .ok (.lconst 1, 1) := by decide +kernel
theorem dX6_putNumber_1 : decode cX6_putNumber 1 = .ok (.lstore_n 3, 1) := by decide +kernel
theorem dX6_putNumber_2 : decode cX6_putNumber 2 = .ok (.iconst 1, 1) := by decide +kernel
theorem dX6_putNumber_3 : decode cX6_putNumber 3 = .ok (.istore 5, 2) := by decide +kernel
theorem dX6_putNumber_5 : decode cX6_putNumber 5 = .ok (.iload 5, 2) := by decide +kernel
theorem dX6_putNumber_7 : decode cX6_putNumber 7 = .ok (.bipush 19, 2) := by decide +kernel
theorem dX6_putNumber_9 : decode cX6_putNumber 9 = .ok (.if_icmp .ge 25, 3) := by decide +kernel
theorem dX6_putNumber_12 : decode cX6_putNumber 12 = .ok (.lload_n 1, 1) := by decide +kernel
theorem dX6_putNumber_13 : decode cX6_putNumber 13 = .ok (.lload_n 3, 1) := by decide +kernel
theorem dX6_putNumber_14 : decode cX6_putNumber 14 = .ok (.ldiv, 1) := by decide +kernel
theorem dX6_putNumber_15 : decode cX6_putNumber 15 = .ok (.ldc2_w 32, 3) := by decide +kernel
theorem dX6_putNumber_18 : decode cX6_putNumber 18 = .ok (.lcmp, 1) := by decide +kernel
theorem dX6_putNumber_19 : decode cX6_putNumber 19 = .ok (.ifCond .lt 15, 3) := by decide +kernel
theorem dX6_putNumber_22 : decode cX6_putNumber 22 = .ok (.lload_n 3, 1) := by decide +kernel
theorem dX6_putNumber_23 : decode cX6_putNumber 23 = .ok (.ldc2_w 32, 3) := by decide +kernel
theorem dX6_putNumber_26 : decode cX6_putNumber 26 = .ok (.lmul, 1) := by decide +kernel
theorem dX6_putNumber_27 : decode cX6_putNumber 27 = .ok (.lstore_n 3, 1) := by decide +kernel
theorem dX6_putNumber_28 : decode cX6_putNumber 28 = .ok (.iinc 5 1, 3) := by decide +kernel
theorem dX6_putNumber_31 : decode cX6_putNumber 31 = .ok (.goto (-26), 3) := by decide +kernel
theorem dX6_putNumber_34 : decode cX6_putNumber 34 = .ok (.iconst 0, 1) := by decide +kernel
theorem dX6_putNumber_35 : decode cX6_putNumber 35 = .ok (.istore 5, 2) := by decide +kernel
theorem dX6_putNumber_37 : decode cX6_putNumber 37 = .ok (.iload 5, 2) := by decide +kernel
theorem dX6_putNumber_39 : decode cX6_putNumber 39 = .ok (.bipush 19, 2) := by decide +kernel
theorem dX6_putNumber_41 : decode cX6_putNumber 41 = .ok (.if_icmp .ge 36, 3) := by decide +kernel
theorem dX6_putNumber_44 : decode cX6_putNumber 44 = .ok (.lload_n 3, 1) := by decide +kernel
theorem dX6_putNumber_45 : decode cX6_putNumber 45 = .ok (.lconst 0, 1) := by decide +kernel
theorem dX6_putNumber_46 : decode cX6_putNumber 46 = .ok (.lcmp, 1) := by decide +kernel
theorem dX6_putNumber_47 : decode cX6_putNumber 47 = .ok (.ifCond .le 30, 3) := by decide +kernel
theorem dX6_putNumber_50 : decode cX6_putNumber 50 = .ok (.aload_n 0, 1) := by decide +kernel
theorem dX6_putNumber_51 : decode cX6_putNumber 51 = .ok (.bipush 48, 2) := by decide +kernel
theorem dX6_putNumber_53 : decode cX6_putNumber 53 = .ok (.lload_n 1, 1) := by decide +kernel
theorem dX6_putNumber_54 : decode cX6_putNumber 54 = .ok (.lload_n 3, 1) := by decide +kernel
theorem dX6_putNumber_55 : decode cX6_putNumber 55 = .ok (.ldiv, 1) := by decide +kernel
theorem dX6_putNumber_56 : decode cX6_putNumber 56 = .ok (.ldc2_w 32, 3) := by decide +kernel
theorem dX6_putNumber_59 : decode cX6_putNumber 59 = .ok (.lrem, 1) := by decide +kernel
theorem dX6_putNumber_60 : decode cX6_putNumber 60 = .ok (.l2i, 1) := by decide +kernel
theorem dX6_putNumber_61 : decode cX6_putNumber 61 = .ok (.iadd, 1) := by decide +kernel
theorem dX6_putNumber_62 : decode cX6_putNumber 62 = .ok (.invokevirtual 28, 3) := by decide +kernel
theorem dX6_putNumber_65 : decode cX6_putNumber 65 = .ok (.lload_n 3, 1) := by decide +kernel
theorem dX6_putNumber_66 : decode cX6_putNumber 66 = .ok (.ldc2_w 32, 3) := by decide +kernel
theorem dX6_putNumber_69 : decode cX6_putNumber 69 = .ok (.ldiv, 1) := by decide +kernel
theorem dX6_putNumber_70 : decode cX6_putNumber 70 = .ok (.lstore_n 3, 1) := by decide +kernel
theorem dX6_putNumber_71 : decode cX6_putNumber 71 = .ok (.iinc 5 1, 3) := by decide +kernel
theorem dX6_putNumber_74 : decode cX6_putNumber 74 = .ok (.goto (-37), 3) := by decide +kernel
theorem dX6_putNumber_77 : decode cX6_putNumber 77 = .ok (.return_, 1) := by decide +kernel
theorem dX7_sortByChance_0 : decode cX7_sortByChance 0 = .ok (.iconst 0, 1) := by decide +kernel
theorem dX7_sortByChance_1 : decode cX7_sortByChance 1 = .ok (.istore_n 2, 1) := by decide +kernel
theorem dX7_sortByChance_2 : decode cX7_sortByChance 2 = .ok (.iload_n 2, 1) := by decide +kernel
theorem dX7_sortByChance_3 : decode cX7_sortByChance 3 = .ok (.bipush 100, 2) := by decide +kernel
theorem dX7_sortByChance_5 : decode cX7_sortByChance 5 = .ok (.if_icmp .gt 23, 3) := by decide +kernel
theorem dX7_sortByChance_8 : decode cX7_sortByChance 8 = .ok (.aload_n 0, 1) := by decide +kernel
theorem dX7_sortByChance_9 : decode cX7_sortByChance 9 = .ok (.getfield 9, 3) := by decide +kernel
theorem dX7_sortByChance_12 : decode cX7_sortByChance 12 = .ok (.iload_n 2, 1) := by decide +kernel
theorem dX7_sortByChance_13 : decode cX7_sortByChance 13 = .ok (.iconst 0, 1) := by decide +kernel
theorem dX7_sortByChance_14 : decode cX7_sortByChance 14 = .ok (.iastore, 1) := by decide +kernel
theorem dX7_sortByChance_15 : decode cX7_sortByChance 15 = .ok (.aload_n 0, 1) := by decide +kernel
theorem dX7_sortByChance_16 : decode cX7_sortByChance 16 = .ok (.getfield 15, 3) := by decide +kernel
theorem dX7_sortByChance_19 : decode cX7_sortByChance 19 = .ok (.iload_n 2, 1) := by decide +kernel
theorem dX7_sortByChance_20 : decode cX7_sortByChance 20 = .ok (.iconst 0, 1) := by decide +kernel
theorem dX7_sortByChance_21 : decode cX7_sortByChance 21 = .ok (.iastore, 1) := by decide +kernel
theorem dX7_sortByChance_22 : decode cX7_sortByChance 22 = .ok (.iinc 2 1, 3) := by decide +kernel
theorem dX7_sortByChance_25 : decode cX7_sortByChance 25 = .ok (.goto (-23), 3) := by decide +kernel
theorem dX7_sortByChance_28 : decode cX7_sortByChance 28 = .ok (.iconst 0, 1) := by decide +kernel
theorem dX7_sortByChance_29 : decode cX7_sortByChance 29 = .ok (.istore_n 2, 1) := by decide +kernel
theorem dX7_sortByChance_30 : decode cX7_sortByChance 30 = .ok (.iload_n 2, 1) := by decide +kernel
theorem dX7_sortByChance_31 : decode cX7_sortByChance 31 = .ok (.aload_n 1, 1) := by decide +kernel
theorem dX7_sortByChance_32 : decode cX7_sortByChance 32 = .ok (.getfield 42, 3) := by decide +kernel
theorem dX7_sortByChance_35 : decode cX7_sortByChance 35 = .ok (.if_icmp .ge 45, 3) := by decide +kernel
theorem dX7_sortByChance_38 : decode cX7_sortByChance 38 = .ok (.aload_n 1, 1) := by decide +kernel
theorem dX7_sortByChance_39 : decode cX7_sortByChance 39 = .ok (.getfield 45, 3) := by decide +kernel
theorem dX7_sortByChance_42 : decode cX7_sortByChance 42 = .ok (.iload_n 2, 1) := by decide +kernel
theorem dX7_sortByChance_43 : decode cX7_sortByChance 43 = .ok (.iaload, 1) := by decide +kernel
theorem dX7_sortByChance_44 : decode cX7_sortByChance 44 = .ok (.istore_n 3, 1) := by decide +kernel
theorem dX7_sortByChance_45 : decode cX7_sortByChance 45 = .ok (.aload_n 0, 1) := by decide +kernel
theorem dX7_sortByChance_46 : decode cX7_sortByChance 46 = .ok (.getfield 9, 3) := by decide +kernel
theorem dX7_sortByChance_49 : decode cX7_sortByChance 49 = .ok (.iload_n 3, 1) := by decide +kernel
theorem dX7_sortByChance_50 : decode cX7_sortByChance 50 = .ok (.dup2, 1) := by decide +kernel
theorem dX7_sortByChance_51 : decode cX7_sortByChance 51 = .ok (.iaload, 1) := by decide +kernel
theorem dX7_sortByChance_52 : decode cX7_sortByChance 52 = .ok (.iconst 1, 1) := by decide +kernel
theorem dX7_sortByChance_53 : decode cX7_sortByChance 53 = .ok (.iadd, 1) := by decide +kernel
theorem dX7_sortByChance_54 : decode cX7_sortByChance 54 = .ok (.iastore, 1) := by decide +kernel
theorem dX7_sortByChance_55 : decode cX7_sortByChance 55 = .ok (.aload_n 1, 1) := by decide +kernel
theorem dX7_sortByChance_56 : decode cX7_sortByChance 56 = .ok (.getfield 48, 3) := by decide +kernel
theorem dX7_sortByChance_59 : decode cX7_sortByChance 59 = .ok (.iload_n 2, 1) := by decide +kernel
theorem dX7_sortByChance_60 : decode cX7_sortByChance 60 = .ok (.baload, 1) := by decide +kernel
theorem dX7_sortByChance_61 : decode cX7_sortByChance 61 = .ok (.ifCond .eq 13, 3) := by decide +kernel
theorem dX7_sortByChance_64 : decode cX7_sortByChance 64 = .ok (.aload_n 0, 1) := by decide +kernel
theorem dX7_sortByChance_65 : decode cX7_sortByChance 65 = .ok (.getfield 15, 3) := by decide +kernel
theorem dX7_sortByChance_68 : decode cX7_sortByChance 68 = .ok (.iload_n 3, 1) := by decide +kernel
theorem dX7_sortByChance_69 : decode cX7_sortByChance 69 = .ok (.dup2, 1) := by decide +kernel
theorem dX7_sortByChance_70 : decode cX7_sortByChance 70 = .ok (.iaload, 1) := by decide +kernel
theorem dX7_sortByChance_71 : decode cX7_sortByChance 71 = .ok (.iconst 1, 1) := by decide +kernel
theorem dX7_sortByChance_72 : decode cX7_sortByChance 72 = .ok (.iadd, 1) := by decide +kernel
theorem dX7_sortByChance_73 : decode cX7_sortByChance 73 = .ok (.iastore, 1) := by decide +kernel
theorem dX7_sortByChance_74 : decode cX7_sortByChance 74 = .ok (.iinc 2 1, 3) := by decide +kernel
theorem dX7_sortByChance_77 : decode cX7_sortByChance 77 = .ok (.goto (-47), 3) := by decide +kernel
theorem dX7_sortByChance_80 : decode cX7_sortByChance 80 = .ok (.return_, 1) := by decide +kernel
theorem dX7_isShareGreater_0 : decode cX7_isShareGreater 0 = .ok (.aload_n 0, 1) := by decide +kernel
theorem dX7_isShareGreater_1 : decode cX7_isShareGreater 1 = .ok (.getfield 27, 3) := by decide +kernel
theorem dX7_isShareGreater_4 : decode cX7_isShareGreater 4 = .ok (.iload_n 1, 1) := by decide +kernel
theorem dX7_isShareGreater_5 : decode cX7_isShareGreater 5 = .ok (.iaload, 1) := by decide +kernel
theorem dX7_isShareGreater_6 : decode cX7_isShareGreater 6 = .ok (.aload_n 0, 1) := by decide +kernel
theorem dX7_isShareGreater_7 : decode cX7_isShareGreater 7 = .ok (.getfield 24, 3) := by decide +kernel
theorem dX7_isShareGreater_10 : decode cX7_isShareGreater 10 = .ok (.iload_n 1, 1) := by decide +kernel
theorem dX7_isShareGreater_11 : decode cX7_isShareGreater 11 = .ok (.iconst 1, 1) := by decide +kernel
theorem dX7_isShareGreater_12 : decode cX7_isShareGreater 12 = .ok (.isub, 1) := by decide +kernel
theorem dX7_isShareGreater_13 : decode cX7_isShareGreater 13 = .ok (.iaload, 1) := by decide +kernel
theorem dX7_isShareGreater_14 : decode cX7_isShareGreater 14 = .ok (.imul, 1) := by decide +kernel
theorem dX7_isShareGreater_15 : decode cX7_isShareGreater 15 = .ok (.aload_n 0, 1) := by decide +kernel
theorem dX7_isShareGreater_16 : decode cX7_isShareGreater 16 = .ok (.getfield 27, 3) := by decide +kernel
theorem dX7_isShareGreater_19 : decode cX7_isShareGreater 19 = .ok (.iload_n 1, 1) := by decide +kernel
theorem dX7_isShareGreater_20 : decode cX7_isShareGreater 20 = .ok (.iconst 1, 1) := by decide +kernel
theorem dX7_isShareGreater_21 : decode cX7_isShareGreater 21 = .ok (.isub, 1) := by decide +kernel
theorem dX7_isShareGreater_22 : decode cX7_isShareGreater 22 = .ok (.iaload, 1) := by decide +kernel
theorem dX7_isShareGreater_23 : decode cX7_isShareGreater 23 = .ok (.aload_n 0, 1) := by decide +kernel
theorem dX7_isShareGreater_24 : decode cX7_isShareGreater 24 = .ok (.getfield 24, 3) := by decide +kernel
theorem dX7_isShareGreater_27 : decode cX7_isShareGreater 27 = .ok (.iload_n 1, 1) := by decide +kernel
theorem dX7_isShareGreater_28 : decode cX7_isShareGreater 28 = .ok (.iaload, 1) := by decide +kernel
theorem dX7_isShareGreater_29 : decode cX7_isShareGreater 29 = .ok (.imul, 1) := by decide +kernel
theorem dX7_isShareGreater_30 : decode cX7_isShareGreater 30 = .ok (.if_icmp .le 7, 3) := by decide +kernel
theorem dX7_isShareGreater_33 : decode cX7_isShareGreater 33 = .ok (.iconst 1, 1) := by decide +kernel
theorem dX7_isShareGreater_34 : decode cX7_isShareGreater 34 = .ok (.goto 4, 3) := by decide +kernel
theorem dX7_isShareGreater_37 : decode cX7_isShareGreater 37 = .ok (.iconst 0, 1) := by decide +kernel
theorem dX7_isShareGreater_38 : decode cX7_isShareGreater 38 = .ok (.ireturn, 1) := by decide +kernel
theorem dX7_mergeDown_0 : decode cX7_mergeDown 0 = .ok (.aload_n 0, 1) := by decide +kernel
theorem dX7_mergeDown_1 : decode cX7_mergeDown 1 = .ok (.getfield 21, 3) := by decide +kernel
theorem dX7_mergeDown_4 : decode cX7_mergeDown 4 = .ok (.iload_n 1, 1) := by decide +kernel
theorem dX7_mergeDown_5 : decode cX7_mergeDown 5 = .ok (.iconst 1, 1) := by decide +kernel
theorem dX7_mergeDown_6 : decode cX7_mergeDown 6 = .ok (.isub, 1) := by decide +kernel
theorem dX7_mergeDown_7 : decode cX7_mergeDown 7 = .ok (.aload_n 0, 1) := by decide +kernel
theorem dX7_mergeDown_8 : decode cX7_mergeDown 8 = .ok (.getfield 21, 3) := by decide +kernel
theorem dX7_mergeDown_11 : decode cX7_mergeDown 11 = .ok (.iload_n 1, 1) := by decide +kernel
theorem dX7_mergeDown_12 : decode cX7_mergeDown 12 = .ok (.iaload, 1) := by decide +kernel
theorem dX7_mergeDown_13 : decode cX7_mergeDown 13 = .ok (.iastore, 1) := by decide +kernel
theorem dX7_mergeDown_14 : decode cX7_mergeDown 14 = .ok (.aload_n 0, 1) := by decide +kernel
theorem dX7_mergeDown_15 : decode cX7_mergeDown 15 = .ok (.getfield 24, 3) := by decide +kernel
theorem dX7_mergeDown_18 : decode cX7_mergeDown 18 = .ok (.iload_n 1, 1) := by decide +kernel
theorem dX7_mergeDown_19 : decode cX7_mergeDown 19 = .ok (.iconst 1, 1) := by decide +kernel
theorem dX7_mergeDown_20 : decode cX7_mergeDown 20 = .ok (.isub, 1) := by decide +kernel
theorem dX7_mergeDown_21 : decode cX7_mergeDown 21 = .ok (.dup2, 1) := by decide +kernel
theorem dX7_mergeDown_22 : decode cX7_mergeDown 22 = .ok (.iaload, 1) := by decide +kernel
theorem dX7_mergeDown_23 : decode cX7_mergeDown 23 = .ok (.aload_n 0, 1) := by decide +kernel
theorem dX7_mergeDown_24 : decode cX7_mergeDown 24 = .ok (.getfield 24, 3) := by decide +kernel
theorem dX7_mergeDown_27 : decode cX7_mergeDown 27 = .ok (.iload_n 1, 1) := by decide +kernel
theorem dX7_mergeDown_28 : decode cX7_mergeDown 28 = .ok (.iaload, 1) := by decide +kernel
theorem dX7_mergeDown_29 : decode cX7_mergeDown 29 = .ok (.iadd, 1) := by decide +kernel
theorem dX7_mergeDown_30 : decode cX7_mergeDown 30 = .ok (.iastore, 1) := by decide +kernel
theorem dX7_mergeDown_31 : decode cX7_mergeDown 31 = .ok (.aload_n 0, 1) := by decide +kernel
theorem dX7_mergeDown_32 : decode cX7_mergeDown 32 = .ok (.getfield 27, 3) := by decide +kernel
theorem dX7_mergeDown_35 : decode cX7_mergeDown 35 = .ok (.iload_n 1, 1) := by decide +kernel
theorem dX7_mergeDown_36 : decode cX7_mergeDown 36 = .ok (.iconst 1, 1) := by decide +kernel
theorem dX7_mergeDown_37 : decode cX7_mergeDown 37 = .ok (.isub, 1) := by decide +kernel
theorem dX7_mergeDown_38 : decode cX7_mergeDown 38 = .ok (.dup2, 1) := by decide +kernel
theorem dX7_mergeDown_39 : decode cX7_mergeDown 39 = .ok (.iaload, 1) := by decide +kernel
theorem dX7_mergeDown_40 : decode cX7_mergeDown 40 = .ok (.aload_n 0, 1) := by decide +kernel
theorem dX7_mergeDown_41 : decode cX7_mergeDown 41 = .ok (.getfield 27, 3) := by decide +kernel
theorem dX7_mergeDown_44 : decode cX7_mergeDown 44 = .ok (.iload_n 1, 1) := by decide +kernel
theorem dX7_mergeDown_45 : decode cX7_mergeDown 45 = .ok (.iaload, 1) := by decide +kernel
theorem dX7_mergeDown_46 : decode cX7_mergeDown 46 = .ok (.iadd, 1) := by decide +kernel
theorem dX7_mergeDown_47 : decode cX7_mergeDown 47 = .ok (.iastore, 1) := by decide +kernel
theorem dX7_mergeDown_48 : decode cX7_mergeDown 48 = .ok (.aload_n 0, 1) := by decide +kernel
theorem dX7_mergeDown_49 : decode cX7_mergeDown 49 = .ok (.dup, 1) := by decide +kernel
theorem dX7_mergeDown_50 : decode cX7_mergeDown 50 = .ok (.getfield 30, 3) := by decide +kernel
theorem dX7_mergeDown_53 : decode cX7_mergeDown 53 = .ok (.iconst 1, 1) := by decide +kernel
theorem dX7_mergeDown_54 : decode cX7_mergeDown 54 = .ok (.isub, 1) := by decide +kernel
theorem dX7_mergeDown_55 : decode cX7_mergeDown 55 = .ok (.putfield 30, 3) := by decide +kernel
theorem dX7_mergeDown_58 : decode cX7_mergeDown 58 = .ok (.return_, 1) := by decide +kernel
theorem dX7_addPool_0 : decode cX7_addPool 0 = .ok (.aload_n 0, 1) := by decide +kernel
theorem dX7_addPool_1 : decode cX7_addPool 1 = .ok (.getfield 18, 3) := by decide +kernel
theorem dX7_addPool_4 : decode cX7_addPool 4 = .ok (.aload_n 0, 1) := by decide +kernel
theorem dX7_addPool_5 : decode cX7_addPool 5 = .ok (.getfield 30, 3) := by decide +kernel
theorem dX7_addPool_8 : decode cX7_addPool 8 = .ok (.iload_n 1, 1) := by decide +kernel
theorem dX7_addPool_9 : decode cX7_addPool 9 = .ok (.iastore, 1) := by decide +kernel
theorem dX7_addPool_10 : decode cX7_addPool 10 = .ok (.aload_n 0, 1) := by decide +kernel
theorem dX7_addPool_11 : decode cX7_addPool 11 = .ok (.getfield 21, 3) := by decide +kernel
theorem dX7_addPool_14 : decode cX7_addPool 14 = .ok (.aload_n 0, 1) := by decide +kernel
theorem dX7_addPool_15 : decode cX7_addPool 15 = .ok (.getfield 30, 3) := by decide +kernel
theorem dX7_addPool_18 : decode cX7_addPool 18 = .ok (.iload_n 1, 1) := by decide +kernel
theorem dX7_addPool_19 : decode cX7_addPool 19 = .ok (.iastore, 1) := by decide +kernel
theorem dX7_addPool_20 : decode cX7_addPool 20 = .ok (.aload_n 0, 1) := by decide +kernel
theorem dX7_addPool_21 : decode cX7_addPool 21 = .ok (.getfield 24, 3) := by decide +kernel
theorem dX7_addPool_24 : decode cX7_addPool 24 = .ok (.aload_n 0, 1) := by decide +kernel
theorem dX7_addPool_25 : decode cX7_addPool 25 = .ok (.getfield 30, 3) := by decide +kernel
theorem dX7_addPool_28 : decode cX7_addPool 28 = .ok (.aload_n 0, 1) := by decide +kernel
theorem dX7_addPool_29 : decode cX7_addPool 29 = .ok (.getfield 9, 3) := by decide +kernel
theorem dX7_addPool_32 : decode cX7_addPool 32 = .ok (.iload_n 1, 1) := by decide +kernel
theorem dX7_addPool_33 : decode cX7_addPool 33 = .ok (.iaload, 1) := by decide +kernel
theorem dX7_addPool_34 : decode cX7_addPool 34 = .ok (.iastore, 1) := by decide +kernel
theorem dX7_addPool_35 : decode cX7_addPool 35 = .ok (.aload_n 0, 1) := by decide +kernel
theorem dX7_addPool_36 : decode cX7_addPool 36 = .ok (.getfield 27, 3) := by decide +kernel
theorem dX7_addPool_39 : decode cX7_addPool 39 = .ok (.aload_n 0, 1) := by decide +kernel
theorem dX7_addPool_40 : decode cX7_addPool 40 = .ok (.getfield 30, 3) := by decide +kernel
theorem dX7_addPool_43 : decode cX7_addPool 43 = .ok (.aload_n 0, 1) := by decide +kernel
theorem dX7_addPool_44 : decode cX7_addPool 44 = .ok (.getfield 15, 3) := by decide +kernel
theorem dX7_addPool_47 : decode cX7_addPool 47 = .ok (.iload_n 1, 1) := by decide +kernel
theorem dX7_addPool_48 : decode cX7_addPool 48 = .ok (.iaload, 1) := by decide +kernel
theorem dX7_addPool_49 : decode cX7_addPool 49 = .ok (.iastore, 1) := by decide +kernel
theorem dX7_addPool_50 : decode cX7_addPool 50 = .ok (.aload_n 0, 1) := by decide +kernel
theorem dX7_addPool_51 : decode cX7_addPool 51 = .ok (.dup, 1) := by decide +kernel
theorem dX7_addPool_52 : decode cX7_addPool 52 = .ok (.getfield 30, 3) := by decide +kernel
theorem dX7_addPool_55 : decode cX7_addPool 55 = .ok (.iconst 1, 1) := by decide +kernel
theorem dX7_addPool_56 : decode cX7_addPool 56 = .ok (.iadd, 1) := by decide +kernel
theorem dX7_addPool_57 : decode cX7_addPool 57 = .ok (.putfield 30, 3) := by decide +kernel
theorem dX7_addPool_60 : decode cX7_addPool 60 = .ok (.aload_n 0, 1) := by decide +kernel
theorem dX7_addPool_61 : decode cX7_addPool 61 = .ok (.getfield 30, 3) := by decide +kernel
theorem dX7_addPool_64 : decode cX7_addPool 64 = .ok (.iconst 1, 1) := by decide +kernel
theorem dX7_addPool_65 : decode cX7_addPool 65 = .ok (.isub, 1) := by decide +kernel
theorem dX7_addPool_66 : decode cX7_addPool 66 = .ok (.istore_n 2, 1) := by decide +kernel
theorem dX7_addPool_67 : decode cX7_addPool 67 = .ok (.iload_n 2, 1) := by decide +kernel
theorem dX7_addPool_68 : decode cX7_addPool 68 = .ok (.ifCond .le 22, 3) := by decide +kernel
theorem dX7_addPool_71 : decode cX7_addPool 71 = .ok (.aload_n 0, 1) := by decide +kernel
theorem dX7_addPool_72 : decode cX7_addPool 72 = .ok (.iload_n 2, 1) := by decide +kernel
theorem dX7_addPool_73 : decode cX7_addPool 73 = .ok (.invokevirtual 52, 3) := by decide +kernel
theorem dX7_addPool_76 : decode cX7_addPool 76 = .ok (.ifCond .ne 14, 3) := by decide +kernel
theorem dX7_addPool_79 : decode cX7_addPool 79 = .ok (.aload_n 0, 1) := by decide +kernel
theorem dX7_addPool_80 : decode cX7_addPool 80 = .ok (.iload_n 2, 1) := by decide +kernel
theorem dX7_addPool_81 : decode cX7_addPool 81 = .ok (.invokevirtual 56, 3) := by decide +kernel
theorem dX7_addPool_84 : decode cX7_addPool 84 = .ok (.iinc 2 (-1), 3) := by decide +kernel
theorem dX7_addPool_87 : decode cX7_addPool 87 = .ok (.goto (-20), 3) := by decide +kernel
theorem dX7_addPool_90 : decode cX7_addPool 90 = .ok (.return_, 1) := by decide +kernel
theorem dX7_fill_0 : decode cX7_fill 0 = .ok (.aload_n 0, 1) := by decide +kernel
theorem dX7_fill_1 : decode cX7_fill 1 = .ok (.aload_n 1, 1) := by decide +kernel
theorem dX7_fill_2 : decode cX7_fill 2 = .ok (.invokevirtual 34, 3) := by decide +kernel
theorem dX7_fill_5 : decode cX7_fill 5 = .ok (.aload_n 0, 1) := by decide +kernel
theorem dX7_fill_6 : decode cX7_fill 6 = .ok (.iconst 0, 1) := by decide +kernel
theorem dX7_fill_7 : decode cX7_fill 7 = .ok (.putfield 30, 3) := by decide +kernel
theorem dX7_fill_10 : decode cX7_fill 10 = .ok (.iconst 0, 1) := by decide +kernel
theorem dX7_fill_11 : decode cX7_fill 11 = .ok (.istore_n 2, 1) := by decide +kernel
theorem dX7_fill_12 : decode cX7_fill 12 = .ok (.iload_n 2, 1) := by decide +kernel
theorem dX7_fill_13 : decode cX7_fill 13 = .ok (.bipush 100, 2) := by decide +kernel
theorem dX7_fill_15 : decode cX7_fill 15 = .ok (.if_icmp .gt 32, 3) := by decide +kernel
theorem dX7_fill_18 : decode cX7_fill 18 = .ok (.aload_n 0, 1) := by decide +kernel
theorem dX7_fill_19 : decode cX7_fill 19 = .ok (.getfield 9, 3) := by decide +kernel
theorem dX7_fill_22 : decode cX7_fill 22 = .ok (.iload_n 2, 1) := by decide +kernel
theorem dX7_fill_23 : decode cX7_fill 23 = .ok (.iaload, 1) := by decide +kernel
theorem dX7_fill_24 : decode cX7_fill 24 = .ok (.ifCond .le 17, 3) := by decide +kernel
theorem dX7_fill_27 : decode cX7_fill 27 = .ok (.aload_n 0, 1) := by decide +kernel
theorem dX7_fill_28 : decode cX7_fill 28 = .ok (.getfield 30, 3) := by decide +kernel
theorem dX7_fill_31 : decode cX7_fill 31 = .ok (.bipush 40, 2) := by decide +kernel
theorem dX7_fill_33 : decode cX7_fill 33 = .ok (.if_icmp .ge 8, 3) := by decide +kernel
theorem dX7_fill_36 : decode cX7_fill 36 = .ok (.aload_n 0, 1) := by decide +kernel
theorem dX7_fill_37 : decode cX7_fill 37 = .ok (.iload_n 2, 1) := by decide +kernel
theorem dX7_fill_38 : decode cX7_fill 38 = .ok (.invokevirtual 38, 3) := by decide +kernel
theorem dX7_fill_41 : decode cX7_fill 41 = .ok (.iinc 2 1, 3) := by decide +kernel
theorem dX7_fill_44 : decode cX7_fill 44 = .ok (.goto (-32), 3) := by decide +kernel
theorem dX7_fill_47 : decode cX7_fill 47 = .ok (.return_, 1) := by decide +kernel
theorem dX7_tellOf_0 : decode cX7_tellOf 0 = .ok (.iload_n 2, 1) := by decide +kernel
theorem dX7_tellOf_1 : decode cX7_tellOf 1 = .ok (.ifCond .ne 10, 3) := by decide +kernel
theorem dX7_tellOf_4 : decode cX7_tellOf 4 = .ok (.aload_n 0, 1) := by decide +kernel
theorem dX7_tellOf_5 : decode cX7_tellOf 5 = .ok (.getfield 18, 3) := by decide +kernel
theorem dX7_tellOf_8 : decode cX7_tellOf 8 = .ok (.iload_n 1, 1) := by decide +kernel
theorem dX7_tellOf_9 : decode cX7_tellOf 9 = .ok (.iaload, 1) := by decide +kernel
theorem dX7_tellOf_10 : decode cX7_tellOf 10 = .ok (.ireturn, 1) := by decide +kernel
theorem dX7_tellOf_11 : decode cX7_tellOf 11 = .ok (.iload_n 2, 1) := by decide +kernel
theorem dX7_tellOf_12 : decode cX7_tellOf 12 = .ok (.iconst 1, 1) := by decide +kernel
theorem dX7_tellOf_13 : decode cX7_tellOf 13 = .ok (.if_icmp .ne 10, 3) := by decide +kernel
theorem dX7_tellOf_16 : decode cX7_tellOf 16 = .ok (.aload_n 0, 1) := by decide +kernel
theorem dX7_tellOf_17 : decode cX7_tellOf 17 = .ok (.getfield 21, 3) := by decide +kernel
theorem dX7_tellOf_20 : decode cX7_tellOf 20 = .ok (.iload_n 1, 1) := by decide +kernel
theorem dX7_tellOf_21 : decode cX7_tellOf 21 = .ok (.iaload, 1) := by decide +kernel
theorem dX7_tellOf_22 : decode cX7_tellOf 22 = .ok (.ireturn, 1) := by decide +kernel
theorem dX7_tellOf_23 : decode cX7_tellOf 23 = .ok (.iload_n 2, 1) := by decide +kernel
theorem dX7_tellOf_24 : decode cX7_tellOf 24 = .ok (.iconst 2, 1) := by decide +kernel
theorem dX7_tellOf_25 : decode cX7_tellOf 25 = .ok (.if_icmp .ne 12, 3) := by decide +kernel
theorem dX7_tellOf_28 : decode cX7_tellOf 28 = .ok (.aload_n 0, 1) := by decide +kernel
theorem dX7_tellOf_29 : decode cX7_tellOf 29 = .ok (.getfield 24, 3) := by decide +kernel
theorem dX7_tellOf_32 : decode cX7_tellOf 32 = .ok (.iload_n 1, 1) := by decide +kernel
theorem dX7_tellOf_33 : decode cX7_tellOf 33 = .ok (.iaload, 1) := by decide +kernel
theorem dX7_tellOf_34 : decode cX7_tellOf 34 = .ok (.goto 9, 3) := by decide +kernel
theorem dX7_tellOf_37 : decode cX7_tellOf 37 = .ok (.aload_n 0, 1) := by decide +kernel
theorem dX7_tellOf_38 : decode cX7_tellOf 38 = .ok (.getfield 27, 3) := by decide +kernel
theorem dX7_tellOf_41 : decode cX7_tellOf 41 = .ok (.iload_n 1, 1) := by decide +kernel
theorem dX7_tellOf_42 : decode cX7_tellOf 42 = .ok (.iaload, 1) := by decide +kernel
theorem dX7_tellOf_43 : decode cX7_tellOf 43 = .ok (.ireturn, 1) := by decide +kernel
theorem dX7_findFlat_0 : decode cX7_findFlat 0 = .ok (.aload_n 2, 1) := by decide +kernel
theorem dX7_findFlat_1 : decode cX7_findFlat 1 = .ok (.lconst 0, 1) := by decide +kernel
theorem dX7_findFlat_2 : decode cX7_findFlat 2 = .ok (.lconst 1, 1) := by decide +kernel
theorem dX7_findFlat_3 : decode cX7_findFlat 3 = .ok (.invokevirtual 59, 3) := by decide +kernel
theorem dX7_findFlat_6 : decode cX7_findFlat 6 = .ok (.iconst 0, 1) := by decide +kernel
theorem dX7_findFlat_7 : decode cX7_findFlat 7 = .ok (.istore_n 3, 1) := by decide +kernel
theorem dX7_findFlat_8 : decode cX7_findFlat 8 = .ok (.iload_n 3, 1) := by decide +kernel
theorem dX7_findFlat_9 : decode cX7_findFlat 9 = .ok (.aload_n 0, 1) := by decide +kernel
theorem dX7_findFlat_10 : decode cX7_findFlat 10 = .ok (.getfield 30, 3) := by decide +kernel
theorem dX7_findFlat_13 : decode cX7_findFlat 13 = .ok (.if_icmp .ge 42, 3) := by decide +kernel
theorem dX7_findFlat_16 : decode cX7_findFlat 16 = .ok (.aload_n 2, 1) := by decide +kernel
theorem dX7_findFlat_17 : decode cX7_findFlat 17 = .ok (.aload_n 0, 1) := by decide +kernel
theorem dX7_findFlat_18 : decode cX7_findFlat 18 = .ok (.getfield 27, 3) := by decide +kernel
theorem dX7_findFlat_21 : decode cX7_findFlat 21 = .ok (.iload_n 3, 1) := by decide +kernel
theorem dX7_findFlat_22 : decode cX7_findFlat 22 = .ok (.iaload, 1) := by decide +kernel
theorem dX7_findFlat_23 : decode cX7_findFlat 23 = .ok (.i2l, 1) := by decide +kernel
theorem dX7_findFlat_24 : decode cX7_findFlat 24 = .ok (.aload_n 0, 1) := by decide +kernel
theorem dX7_findFlat_25 : decode cX7_findFlat 25 = .ok (.getfield 24, 3) := by decide +kernel
theorem dX7_findFlat_28 : decode cX7_findFlat 28 = .ok (.iload_n 3, 1) := by decide +kernel
theorem dX7_findFlat_29 : decode cX7_findFlat 29 = .ok (.iaload, 1) := by decide +kernel
theorem dX7_findFlat_30 : decode cX7_findFlat 30 = .ok (.aload_n 0, 1) := by decide +kernel
theorem dX7_findFlat_31 : decode cX7_findFlat 31 = .ok (.getfield 27, 3) := by decide +kernel
theorem dX7_findFlat_34 : decode cX7_findFlat 34 = .ok (.iload_n 3, 1) := by decide +kernel
theorem dX7_findFlat_35 : decode cX7_findFlat 35 = .ok (.iaload, 1) := by decide +kernel
theorem dX7_findFlat_36 : decode cX7_findFlat 36 = .ok (.isub, 1) := by decide +kernel
theorem dX7_findFlat_37 : decode cX7_findFlat 37 = .ok (.i2l, 1) := by decide +kernel
theorem dX7_findFlat_38 : decode cX7_findFlat 38 = .ok (.lmul, 1) := by decide +kernel
theorem dX7_findFlat_39 : decode cX7_findFlat 39 = .ok (.aload_n 0, 1) := by decide +kernel
theorem dX7_findFlat_40 : decode cX7_findFlat 40 = .ok (.getfield 24, 3) := by decide +kernel
theorem dX7_findFlat_43 : decode cX7_findFlat 43 = .ok (.iload_n 3, 1) := by decide +kernel
theorem dX7_findFlat_44 : decode cX7_findFlat 44 = .ok (.iaload, 1) := by decide +kernel
theorem dX7_findFlat_45 : decode cX7_findFlat 45 = .ok (.i2l, 1) := by decide +kernel
theorem dX7_findFlat_46 : decode cX7_findFlat 46 = .ok (.invokevirtual 65, 3) := by decide +kernel
theorem dX7_findFlat_49 : decode cX7_findFlat 49 = .ok (.iinc 3 1, 3) := by decide +kernel
theorem dX7_findFlat_52 : decode cX7_findFlat 52 = .ok (.goto (-44), 3) := by decide +kernel
theorem dX7_findFlat_55 : decode cX7_findFlat 55 = .ok (.aload_n 2, 1) := by decide +kernel
theorem dX7_findFlat_56 : decode cX7_findFlat 56 = .ok (.iload_n 1, 1) := by decide +kernel
theorem dX7_findFlat_57 : decode cX7_findFlat 57 = .ok (.i2l, 1) := by decide +kernel
theorem dX7_findFlat_58 : decode cX7_findFlat 58 = .ok (.invokevirtual 68, 3) := by decide +kernel
theorem dX7_findFlat_61 : decode cX7_findFlat 61 = .ok (.return_, 1) := by decide +kernel
theorem dX9_put_0 : decode cX9_put 0 = .ok (.aload_n 0, 1) := by decide +kernel
theorem dX9_put_1 : decode cX9_put 1 = .ok (.getfield 15, 3) := by decide +kernel
theorem dX9_put_4 : decode cX9_put 4 = .ok (.aload_n 0, 1) := by decide +kernel
theorem dX9_put_5 : decode cX9_put 5 = .ok (.getfield 9, 3) := by decide +kernel
theorem dX9_put_8 : decode cX9_put 8 = .ok (.arraylength, 1) := by decide +kernel
theorem dX9_put_9 : decode cX9_put 9 = .ok (.if_icmp .lt 5, 3) := by decide +kernel
theorem dX9_put_12 : decode cX9_put 12 = .ok (.iconst 0, 1) := by decide +kernel
theorem dX9_put_13 : decode cX9_put 13 = .ok (.ireturn, 1) := by decide +kernel
theorem dX9_put_14 : decode cX9_put 14 = .ok (.aload_n 0, 1) := by decide +kernel
theorem dX9_put_15 : decode cX9_put 15 = .ok (.getfield 9, 3) := by decide +kernel
theorem dX9_put_18 : decode cX9_put 18 = .ok (.aload_n 0, 1) := by decide +kernel
theorem dX9_put_19 : decode cX9_put 19 = .ok (.getfield 15, 3) := by decide +kernel
theorem dX9_put_22 : decode cX9_put 22 = .ok (.iload_n 1, 1) := by decide +kernel
theorem dX9_put_23 : decode cX9_put 23 = .ok (.iastore, 1) := by decide +kernel
theorem dX9_put_24 : decode cX9_put 24 = .ok (.aload_n 0, 1) := by decide +kernel
theorem dX9_put_25 : decode cX9_put 25 = .ok (.dup, 1) := by decide +kernel
theorem dX9_put_26 : decode cX9_put 26 = .ok (.getfield 15, 3) := by decide +kernel
theorem dX9_put_29 : decode cX9_put 29 = .ok (.iconst 1, 1) := by decide +kernel
theorem dX9_put_30 : decode cX9_put 30 = .ok (.iadd, 1) := by decide +kernel
theorem dX9_put_31 : decode cX9_put 31 = .ok (.putfield 15, 3) := by decide +kernel
theorem dX9_put_34 : decode cX9_put 34 = .ok (.iconst 1, 1) := by decide +kernel
theorem dX9_put_35 : decode cX9_put 35 = .ok (.ireturn, 1) := by decide +kernel
theorem dX9_clear_0 : decode cX9_clear 0 = .ok (.aload_n 0, 1) := by decide +kernel
theorem dX9_clear_1 : decode cX9_clear 1 = .ok (.getfield 15, 3) := by decide +kernel
theorem dX9_clear_4 : decode cX9_clear 4 = .ok (.istore_n 1, 1) := by decide +kernel
theorem dX9_clear_5 : decode cX9_clear 5 = .ok (.aload_n 0, 1) := by decide +kernel
theorem dX9_clear_6 : decode cX9_clear 6 = .ok (.iconst 0, 1) := by decide +kernel
theorem dX9_clear_7 : decode cX9_clear 7 = .ok (.putfield 15, 3) := by decide +kernel
theorem dX9_clear_10 : decode cX9_clear 10 = .ok (.iload_n 1, 1) := by decide +kernel
theorem dX9_clear_11 : decode cX9_clear 11 = .ok (.ireturn, 1) := by decide +kernel
theorem dX9_spells_0 : decode cX9_spells 0 = .ok (.aload_n 0, 1) := by decide +kernel
theorem dX9_spells_1 : decode cX9_spells 1 = .ok (.getfield 15, 3) := by decide +kernel
theorem dX9_spells_4 : decode cX9_spells 4 = .ok (.aload_n 1, 1) := by decide +kernel
theorem dX9_spells_5 : decode cX9_spells 5 = .ok (.invokevirtual 19, 3) := by decide +kernel
theorem dX9_spells_8 : decode cX9_spells 8 = .ok (.if_icmp .ne 19, 3) := by decide +kernel
theorem dX9_spells_11 : decode cX9_spells 11 = .ok (.aload_n 0, 1) := by decide +kernel
theorem dX9_spells_12 : decode cX9_spells 12 = .ok (.aload_n 1, 1) := by decide +kernel
theorem dX9_spells_13 : decode cX9_spells 13 = .ok (.invokevirtual 24, 3) := by decide +kernel
theorem dX9_spells_16 : decode cX9_spells 16 = .ok (.aload_n 0, 1) := by decide +kernel
theorem dX9_spells_17 : decode cX9_spells 17 = .ok (.getfield 15, 3) := by decide +kernel
theorem dX9_spells_20 : decode cX9_spells 20 = .ok (.if_icmp .ne 7, 3) := by decide +kernel
theorem dX9_spells_23 : decode cX9_spells 23 = .ok (.iconst 1, 1) := by decide +kernel
theorem dX9_spells_24 : decode cX9_spells 24 = .ok (.goto 4, 3) := by decide +kernel
theorem dX9_spells_27 : decode cX9_spells 27 = .ok (.iconst 0, 1) := by decide +kernel
theorem dX9_spells_28 : decode cX9_spells 28 = .ok (.ireturn, 1) := by decide +kernel
end
section
theorem dX10_isPlainTeller_0 : decode cX10_isPlainTeller 0 = .ok (.iload_n 0, 1) := by decide +kernel
theorem dX10_isPlainTeller_1 : decode cX10_isPlainTeller 1 = .ok (.ifCond .lt 12, 3) := by decide +kernel
theorem dX10_isPlainTeller_4 : decode cX10_isPlainTeller 4 = .ok (.iload_n 0, 1) := by decide +kernel
theorem dX10_isPlainTeller_5 : decode cX10_isPlainTeller 5 = .ok (.iconst 4, 1) := by decide +kernel
theorem dX10_isPlainTeller_6 : decode cX10_isPlainTeller 6 = .ok (.if_icmp .ge 7, 3) := by decide +kernel
theorem dX10_isPlainTeller_9 : decode cX10_isPlainTeller 9 = .ok (.iconst 1, 1) := by decide +kernel
theorem dX10_isPlainTeller_10 : decode cX10_isPlainTeller 10 = .ok (.goto 4, 3) := by decide +kernel
theorem dX10_isPlainTeller_13 : decode cX10_isPlainTeller 13 = .ok (.iconst 0, 1) := by decide +kernel
theorem dX10_isPlainTeller_14 : decode cX10_isPlainTeller 14 = .ok (.ireturn, 1) := by decide +kernel
theorem dX10_isEvent_0 : decode cX10_isEvent 0 = .ok (.iload_n 0, 1) := by decide +kernel
theorem dX10_isEvent_1 : decode cX10_isEvent 1 = .ok (.ifCond .lt 13, 3) := by decide +kernel
theorem dX10_isEvent_4 : decode cX10_isEvent 4 = .ok (.iload_n 0, 1) := by decide +kernel
theorem dX10_isEvent_5 : decode cX10_isEvent 5 = .ok (.bipush 40, 2) := by decide +kernel
theorem dX10_isEvent_7 : decode cX10_isEvent 7 = .ok (.if_icmp .ge 7, 3) := by decide +kernel
theorem dX10_isEvent_10 : decode cX10_isEvent 10 = .ok (.iconst 1, 1) := by decide +kernel
theorem dX10_isEvent_11 : decode cX10_isEvent 11 = .ok (.goto 4, 3) := by decide +kernel
theorem dX10_isEvent_14 : decode cX10_isEvent 14 = .ok (.iconst 0, 1) := by decide +kernel
theorem dX10_isEvent_15 : decode cX10_isEvent 15 = .ok (.ireturn, 1) := by decide +kernel
theorem dX10_isChance_0 : decode cX10_isChance 0 = .ok (.iload_n 0, 1) := by decide +kernel
theorem dX10_isChance_1 : decode cX10_isChance 1 = .ok (.ifCond .lt 13, 3) := by decide +kernel
theorem dX10_isChance_4 : decode cX10_isChance 4 = .ok (.iload_n 0, 1) := by decide +kernel
theorem dX10_isChance_5 : decode cX10_isChance 5 = .ok (.bipush 100, 2) := by decide +kernel
theorem dX10_isChance_7 : decode cX10_isChance 7 = .ok (.if_icmp .gt 7, 3) := by decide +kernel
theorem dX10_isChance_10 : decode cX10_isChance 10 = .ok (.iconst 1, 1) := by decide +kernel
theorem dX10_isChance_11 : decode cX10_isChance 11 = .ok (.goto 4, 3) := by decide +kernel
theorem dX10_isChance_14 : decode cX10_isChance 14 = .ok (.iconst 0, 1) := by decide +kernel
theorem dX10_isChance_15 : decode cX10_isChance 15 = .ok (.ireturn, 1) := by decide +kernel
theorem dX10_tell_0 : decode cX10_tell 0 = .ok (.iload_n 1, 1) := by decide +kernel
theorem dX10_tell_1 : decode cX10_tell 1 = .ok (.invokestatic 93, 3) := by decide +kernel
theorem dX10_tell_4 : decode cX10_tell 4 = .ok (.ifCond .eq 10, 3) := by decide +kernel
theorem dX10_tell_7 : decode cX10_tell 7 = .ok (.iload_n 2, 1) := by decide +kernel
theorem dX10_tell_8 : decode cX10_tell 8 = .ok (.invokestatic 97, 3) := by decide +kernel
theorem dX10_tell_11 : decode cX10_tell 11 = .ok (.ifCond .ne 5, 3) := by decide +kernel
theorem dX10_tell_14 : decode cX10_tell 14 = .ok (.iconst (-1), 1) := by decide +kernel
theorem dX10_tell_15 : decode cX10_tell 15 = .ok (.ireturn, 1) := by decide +kernel
theorem dX10_tell_16 : decode cX10_tell 16 = .ok (.iload_n 3, 1) := by decide +kernel
theorem dX10_tell_17 : decode cX10_tell 17 = .ok (.invokestatic 100, 3) := by decide +kernel
theorem dX10_tell_20 : decode cX10_tell 20 = .ok (.ifCond .ne 6, 3) := by decide +kernel
theorem dX10_tell_23 : decode cX10_tell 23 = .ok (.bipush (-2), 2) := by decide +kernel
theorem dX10_tell_25 : decode cX10_tell 25 = .ok (.ireturn, 1) := by decide +kernel
theorem dX10_tell_26 : decode cX10_tell 26 = .ok (.aload_n 0, 1) := by decide +kernel
theorem dX10_tell_27 : decode cX10_tell 27 = .ok (.getfield 12, 3) := by decide +kernel
theorem dX10_tell_30 : decode cX10_tell 30 = .ok (.iload_n 1, 1) := by decide +kernel
theorem dX10_tell_31 : decode cX10_tell 31 = .ok (.iload_n 2, 1) := by decide +kernel
theorem dX10_tell_32 : decode cX10_tell 32 = .ok (.iload_n 3, 1) := by decide +kernel
theorem dX10_tell_33 : decode cX10_tell 33 = .ok (.invokevirtual 103, 3) := by decide +kernel
theorem dX10_tell_36 : decode cX10_tell 36 = .ok (.ireturn, 1) := by decide +kernel
theorem dX10_drop_0 : decode cX10_drop 0 = .ok (.iload_n 1, 1) := by decide +kernel
theorem dX10_drop_1 : decode cX10_drop 1 = .ok (.invokestatic 93, 3) := by decide +kernel
theorem dX10_drop_4 : decode cX10_drop 4 = .ok (.ifCond .eq 10, 3) := by decide +kernel
theorem dX10_drop_7 : decode cX10_drop 7 = .ok (.iload_n 2, 1) := by decide +kernel
theorem dX10_drop_8 : decode cX10_drop 8 = .ok (.invokestatic 97, 3) := by decide +kernel
theorem dX10_drop_11 : decode cX10_drop 11 = .ok (.ifCond .ne 5, 3) := by decide +kernel
theorem dX10_drop_14 : decode cX10_drop 14 = .ok (.iconst (-1), 1) := by decide +kernel
theorem dX10_drop_15 : decode cX10_drop 15 = .ok (.ireturn, 1) := by decide +kernel
theorem dX10_drop_16 : decode cX10_drop 16 = .ok (.aload_n 0, 1) := by decide +kernel
theorem dX10_drop_17 : decode cX10_drop 17 = .ok (.getfield 12, 3) := by decide +kernel
theorem dX10_drop_20 : decode cX10_drop 20 = .ok (.iload_n 1, 1) := by decide +kernel
theorem dX10_drop_21 : decode cX10_drop 21 = .ok (.iload_n 2, 1) := by decide +kernel
theorem dX10_drop_22 : decode cX10_drop 22 = .ok (.bipush (-9), 2) := by decide +kernel
theorem dX10_drop_24 : decode cX10_drop 24 = .ok (.invokevirtual 103, 3) := by decide +kernel
theorem dX10_drop_27 : decode cX10_drop 27 = .ok (.ireturn, 1) := by decide +kernel
theorem dX10_yes_0 : decode cX10_yes 0 = .ok (.iload_n 1, 1) := by decide +kernel
theorem dX10_yes_1 : decode cX10_yes 1 = .ok (.invokestatic 97, 3) := by decide +kernel
theorem dX10_yes_4 : decode cX10_yes 4 = .ok (.ifCond .eq 15, 3) := by decide +kernel
theorem dX10_yes_7 : decode cX10_yes 7 = .ok (.aload_n 0, 1) := by decide +kernel
theorem dX10_yes_8 : decode cX10_yes 8 = .ok (.getfield 12, 3) := by decide +kernel
theorem dX10_yes_11 : decode cX10_yes 11 = .ok (.iload_n 1, 1) := by decide +kernel
theorem dX10_yes_12 : decode cX10_yes 12 = .ok (.iconst 1, 1) := by decide +kernel
theorem dX10_yes_13 : decode cX10_yes 13 = .ok (.invokevirtual 107, 3) := by decide +kernel
theorem dX10_yes_16 : decode cX10_yes 16 = .ok (.goto 4, 3) := by decide +kernel
theorem dX10_yes_19 : decode cX10_yes 19 = .ok (.iconst (-1), 1) := by decide +kernel
theorem dX10_yes_20 : decode cX10_yes 20 = .ok (.ireturn, 1) := by decide +kernel
theorem dX10_no_0 : decode cX10_no 0 = .ok (.iload_n 1, 1) := by decide +kernel
theorem dX10_no_1 : decode cX10_no 1 = .ok (.invokestatic 97, 3) := by decide +kernel
theorem dX10_no_4 : decode cX10_no 4 = .ok (.ifCond .eq 15, 3) := by decide +kernel
theorem dX10_no_7 : decode cX10_no 7 = .ok (.aload_n 0, 1) := by decide +kernel
theorem dX10_no_8 : decode cX10_no 8 = .ok (.getfield 12, 3) := by decide +kernel
theorem dX10_no_11 : decode cX10_no 11 = .ok (.iload_n 1, 1) := by decide +kernel
theorem dX10_no_12 : decode cX10_no 12 = .ok (.iconst 2, 1) := by decide +kernel
theorem dX10_no_13 : decode cX10_no 13 = .ok (.invokevirtual 107, 3) := by decide +kernel
theorem dX10_no_16 : decode cX10_no 16 = .ok (.goto 4, 3) := by decide +kernel
theorem dX10_no_19 : decode cX10_no 19 = .ok (.iconst (-1), 1) := by decide +kernel
theorem dX10_no_20 : decode cX10_no 20 = .ok (.ireturn, 1) := by decide +kernel
theorem dX10_open_0 : decode cX10_open 0 = .ok (.iload_n 1, 1) := by decide +kernel
theorem dX10_open_1 : decode cX10_open 1 = .ok (.invokestatic 97, 3) := by decide +kernel
theorem dX10_open_4 : decode cX10_open 4 = .ok (.ifCond .eq 15, 3) := by decide +kernel
theorem dX10_open_7 : decode cX10_open 7 = .ok (.aload_n 0, 1) := by decide +kernel
theorem dX10_open_8 : decode cX10_open 8 = .ok (.getfield 12, 3) := by decide +kernel
theorem dX10_open_11 : decode cX10_open 11 = .ok (.iload_n 1, 1) := by decide +kernel
theorem dX10_open_12 : decode cX10_open 12 = .ok (.iconst 0, 1) := by decide +kernel
theorem dX10_open_13 : decode cX10_open 13 = .ok (.invokevirtual 107, 3) := by decide +kernel
theorem dX10_open_16 : decode cX10_open 16 = .ok (.goto 4, 3) := by decide +kernel
theorem dX10_open_19 : decode cX10_open 19 = .ok (.iconst (-1), 1) := by decide +kernel
theorem dX10_open_20 : decode cX10_open 20 = .ok (.ireturn, 1) := by decide +kernel
theorem dX10_weigh_0 : decode cX10_weigh 0 = .ok (.iload_n 1, 1) := by decide +kernel
theorem dX10_weigh_1 : decode cX10_weigh 1 = .ok (.invokestatic 93, 3) := by decide +kernel
theorem dX10_weigh_4 : decode cX10_weigh 4 = .ok (.ifCond .ne 5, 3) := by decide +kernel
theorem dX10_weigh_7 : decode cX10_weigh 7 = .ok (.iconst (-1), 1) := by decide +kernel
theorem dX10_weigh_8 : decode cX10_weigh 8 = .ok (.ireturn, 1) := by decide +kernel
theorem dX10_weigh_9 : decode cX10_weigh 9 = .ok (.iload_n 2, 1) := by decide +kernel
theorem dX10_weigh_10 : decode cX10_weigh 10 = .ok (.ifCond .lt 9, 3) := by decide +kernel
theorem dX10_weigh_13 : decode cX10_weigh 13 = .ok (.iload_n 2, 1) := by decide +kernel
theorem dX10_weigh_14 : decode cX10_weigh 14 = .ok (.bipush 9, 2) := by decide +kernel
theorem dX10_weigh_16 : decode cX10_weigh 16 = .ok (.if_icmp .le 6, 3) := by decide +kernel
theorem dX10_weigh_19 : decode cX10_weigh 19 = .ok (.bipush (-2), 2) := by decide +kernel
theorem dX10_weigh_21 : decode cX10_weigh 21 = .ok (.ireturn, 1) := by decide +kernel
theorem dX10_weigh_22 : decode cX10_weigh 22 = .ok (.aload_n 0, 1) := by decide +kernel
theorem dX10_weigh_23 : decode cX10_weigh 23 = .ok (.getfield 12, 3) := by decide +kernel
theorem dX10_weigh_26 : decode cX10_weigh 26 = .ok (.iload_n 1, 1) := by decide +kernel
theorem dX10_weigh_27 : decode cX10_weigh 27 = .ok (.iload_n 2, 1) := by decide +kernel
theorem dX10_weigh_28 : decode cX10_weigh 28 = .ok (.invokevirtual 111, 3) := by decide +kernel
theorem dX10_weigh_31 : decode cX10_weigh 31 = .ok (.ireturn, 1) := by decide +kernel
theorem dX10_isTeller_0 : decode cX10_isTeller 0 = .ok (.iload_n 0, 1) := by decide +kernel
theorem dX10_isTeller_1 : decode cX10_isTeller 1 = .ok (.ifCond .lt 12, 3) := by decide +kernel
theorem dX10_isTeller_4 : decode cX10_isTeller 4 = .ok (.iload_n 0, 1) := by decide +kernel
theorem dX10_isTeller_5 : decode cX10_isTeller 5 = .ok (.iconst 4, 1) := by decide +kernel
theorem dX10_isTeller_6 : decode cX10_isTeller 6 = .ok (.if_icmp .gt 7, 3) := by decide +kernel
theorem dX10_isTeller_9 : decode cX10_isTeller 9 = .ok (.iconst 1, 1) := by decide +kernel
theorem dX10_isTeller_10 : decode cX10_isTeller 10 = .ok (.goto 4, 3) := by decide +kernel
theorem dX10_isTeller_13 : decode cX10_isTeller 13 = .ok (.iconst 0, 1) := by decide +kernel
theorem dX10_isTeller_14 : decode cX10_isTeller 14 = .ok (.ireturn, 1) := by decide +kernel
theorem dX10_told_0 : decode cX10_told 0 = .ok (.iload_n 1, 1) := by decide +kernel
theorem dX10_told_1 : decode cX10_told 1 = .ok (.invokestatic 114, 3) := by decide +kernel
theorem dX10_told_4 : decode cX10_told 4 = .ok (.ifCond .eq 10, 3) := by decide +kernel
theorem dX10_told_7 : decode cX10_told 7 = .ok (.iload_n 2, 1) := by decide +kernel
theorem dX10_told_8 : decode cX10_told 8 = .ok (.invokestatic 97, 3) := by decide +kernel
theorem dX10_told_11 : decode cX10_told 11 = .ok (.ifCond .ne 5, 3) := by decide +kernel
theorem dX10_told_14 : decode cX10_told 14 = .ok (.iconst (-1), 1) := by decide +kernel
theorem dX10_told_15 : decode cX10_told 15 = .ok (.ireturn, 1) := by decide +kernel
theorem dX10_told_16 : decode cX10_told 16 = .ok (.aload_n 0, 1) := by decide +kernel
theorem dX10_told_17 : decode cX10_told 17 = .ok (.getfield 12, 3) := by decide +kernel
theorem dX10_told_20 : decode cX10_told 20 = .ok (.iload_n 1, 1) := by decide +kernel
theorem dX10_told_21 : decode cX10_told 21 = .ok (.iload_n 2, 1) := by decide +kernel
theorem dX10_told_22 : decode cX10_told 22 = .ok (.invokevirtual 117, 3) := by decide +kernel
theorem dX10_told_25 : decode cX10_told 25 = .ok (.ireturn, 1) := by decide +kernel
theorem dX10_came_0 : decode cX10_came 0 = .ok (.iload_n 1, 1) := by decide +kernel
theorem dX10_came_1 : decode cX10_came 1 = .ok (.invokestatic 97, 3) := by decide +kernel
theorem dX10_came_4 : decode cX10_came 4 = .ok (.ifCond .eq 15, 3) := by decide +kernel
theorem dX10_came_7 : decode cX10_came 7 = .ok (.aload_n 0, 1) := by decide +kernel
theorem dX10_came_8 : decode cX10_came 8 = .ok (.getfield 12, 3) := by decide +kernel
theorem dX10_came_11 : decode cX10_came 11 = .ok (.getfield 120, 3) := by decide +kernel
theorem dX10_came_14 : decode cX10_came 14 = .ok (.iload_n 1, 1) := by decide +kernel
theorem dX10_came_15 : decode cX10_came 15 = .ok (.iaload, 1) := by decide +kernel
theorem dX10_came_16 : decode cX10_came 16 = .ok (.goto 4, 3) := by decide +kernel
theorem dX10_came_19 : decode cX10_came 19 = .ok (.iconst (-1), 1) := by decide +kernel
theorem dX10_came_20 : decode cX10_came 20 = .ok (.ireturn, 1) := by decide +kernel
theorem dX10_key_0 : decode cX10_key 0 = .ok (.iload_n 1, 1) := by decide +kernel
theorem dX10_key_1 : decode cX10_key 1 = .ok (.ifCond .lt 9, 3) := by decide +kernel
theorem dX10_key_4 : decode cX10_key 4 = .ok (.iload_n 1, 1) := by decide +kernel
theorem dX10_key_5 : decode cX10_key 5 = .ok (.bipush 127, 2) := by decide +kernel
theorem dX10_key_7 : decode cX10_key 7 = .ok (.if_icmp .le 6, 3) := by decide +kernel
theorem dX10_key_10 : decode cX10_key 10 = .ok (.bipush (-2), 2) := by decide +kernel
theorem dX10_key_12 : decode cX10_key 12 = .ok (.ireturn, 1) := by decide +kernel
theorem dX10_key_13 : decode cX10_key 13 = .ok (.aload_n 0, 1) := by decide +kernel
theorem dX10_key_14 : decode cX10_key 14 = .ok (.getfield 21, 3) := by decide +kernel
theorem dX10_key_17 : decode cX10_key 17 = .ok (.iload_n 1, 1) := by decide +kernel
theorem dX10_key_18 : decode cX10_key 18 = .ok (.invokevirtual 123, 3) := by decide +kernel
theorem dX10_key_21 : decode cX10_key 21 = .ok (.ifCond .eq 13, 3) := by decide +kernel
theorem dX10_key_24 : decode cX10_key 24 = .ok (.aload_n 0, 1) := by decide +kernel
theorem dX10_key_25 : decode cX10_key 25 = .ok (.getfield 21, 3) := by decide +kernel
theorem dX10_key_28 : decode cX10_key 28 = .ok (.getfield 126, 3) := by decide +kernel
theorem dX10_key_31 : decode cX10_key 31 = .ok (.goto 5, 3) := by decide +kernel
theorem dX10_key_34 : decode cX10_key 34 = .ok (.bipush (-4), 2) := by decide +kernel
theorem dX10_key_36 : decode cX10_key 36 = .ok (.ireturn, 1) := by decide +kernel
theorem dX10_wipe_0 : decode cX10_wipe 0 = .ok (.aload_n 0, 1) := by decide +kernel
theorem dX10_wipe_1 : decode cX10_wipe 1 = .ok (.getfield 21, 3) := by decide +kernel
theorem dX10_wipe_4 : decode cX10_wipe 4 = .ok (.invokevirtual 130, 3) := by decide +kernel
theorem dX10_wipe_7 : decode cX10_wipe 7 = .ok (.ireturn, 1) := by decide +kernel
theorem dX10_perform_0 : decode cX10_perform 0 = .ok (.aload_n 0, 1) := by decide +kernel
theorem dX10_perform_1 : decode cX10_perform 1 = .ok (.getfield 28, 3) := by decide +kernel
theorem dX10_perform_4 : decode cX10_perform 4 = .ok (.getfield 155, 3) := by decide +kernel
theorem dX10_perform_7 : decode cX10_perform 7 = .ok (.astore_n 2, 1) := by decide +kernel
theorem dX10_perform_8 : decode cX10_perform 8 = .ok (.aload_n 1, 1) := by decide +kernel
theorem dX10_perform_9 : decode cX10_perform 9 = .ok (.getstatic 158, 3) := by decide +kernel
theorem dX10_perform_12 : decode cX10_perform 12 = .ok (.if_acmp .ne 17, 3) := by decide +kernel
theorem dX10_perform_15 : decode cX10_perform 15 = .ok (.aload_n 0, 1) := by decide +kernel
theorem dX10_perform_16 : decode cX10_perform 16 = .ok (.aload_n 2, 1) := by decide +kernel
theorem dX10_perform_17 : decode cX10_perform 17 = .ok (.iconst 0, 1) := by decide +kernel
theorem dX10_perform_18 : decode cX10_perform 18 = .ok (.iaload, 1) := by decide +kernel
theorem dX10_perform_19 : decode cX10_perform 19 = .ok (.aload_n 2, 1) := by decide +kernel
theorem dX10_perform_20 : decode cX10_perform 20 = .ok (.iconst 1, 1) := by decide +kernel
theorem dX10_perform_21 : decode cX10_perform 21 = .ok (.iaload, 1) := by decide +kernel
theorem dX10_perform_22 : decode cX10_perform 22 = .ok (.aload_n 2, 1) := by decide +kernel
theorem dX10_perform_23 : decode cX10_perform 23 = .ok (.iconst 2, 1) := by decide +kernel
theorem dX10_perform_24 : decode cX10_perform 24 = .ok (.iaload, 1) := by decide +kernel
theorem dX10_perform_25 : decode cX10_perform 25 = .ok (.invokevirtual 164, 3) := by decide +kernel
theorem dX10_perform_28 : decode cX10_perform 28 = .ok (.ireturn, 1) := by decide +kernel
theorem dX10_perform_29 : decode cX10_perform 29 = .ok (.aload_n 1, 1) := by decide +kernel
theorem dX10_perform_30 : decode cX10_perform 30 = .ok (.getstatic 167, 3) := by decide +kernel
theorem dX10_perform_33 : decode cX10_perform 33 = .ok (.if_acmp .ne 14, 3) := by decide +kernel
theorem dX10_perform_36 : decode cX10_perform 36 = .ok (.aload_n 0, 1) := by decide +kernel
theorem dX10_perform_37 : decode cX10_perform 37 = .ok (.aload_n 2, 1) := by decide +kernel
theorem dX10_perform_38 : decode cX10_perform 38 = .ok (.iconst 0, 1) := by decide +kernel
theorem dX10_perform_39 : decode cX10_perform 39 = .ok (.iaload, 1) := by decide +kernel
theorem dX10_perform_40 : decode cX10_perform 40 = .ok (.aload_n 2, 1) := by decide +kernel
theorem dX10_perform_41 : decode cX10_perform 41 = .ok (.iconst 1, 1) := by decide +kernel
theorem dX10_perform_42 : decode cX10_perform 42 = .ok (.iaload, 1) := by decide +kernel
theorem dX10_perform_43 : decode cX10_perform 43 = .ok (.invokevirtual 170, 3) := by decide +kernel
theorem dX10_perform_46 : decode cX10_perform 46 = .ok (.ireturn, 1) := by decide +kernel
theorem dX10_perform_47 : decode cX10_perform 47 = .ok (.aload_n 1, 1) := by decide +kernel
theorem dX10_perform_48 : decode cX10_perform 48 = .ok (.getstatic 173, 3) := by decide +kernel
theorem dX10_perform_51 : decode cX10_perform 51 = .ok (.if_acmp .ne 11, 3) := by decide +kernel
theorem dX10_perform_54 : decode cX10_perform 54 = .ok (.aload_n 0, 1) := by decide +kernel
theorem dX10_perform_55 : decode cX10_perform 55 = .ok (.aload_n 2, 1) := by decide +kernel
theorem dX10_perform_56 : decode cX10_perform 56 = .ok (.iconst 0, 1) := by decide +kernel
theorem dX10_perform_57 : decode cX10_perform 57 = .ok (.iaload, 1) := by decide +kernel
theorem dX10_perform_58 : decode cX10_perform 58 = .ok (.invokevirtual 176, 3) := by decide +kernel
theorem dX10_perform_61 : decode cX10_perform 61 = .ok (.ireturn, 1) := by decide +kernel
theorem dX10_perform_62 : decode cX10_perform 62 = .ok (.aload_n 1, 1) := by decide +kernel
theorem dX10_perform_63 : decode cX10_perform 63 = .ok (.getstatic 180, 3) := by decide +kernel
theorem dX10_perform_66 : decode cX10_perform 66 = .ok (.if_acmp .ne 11, 3) := by decide +kernel
theorem dX10_perform_69 : decode cX10_perform 69 = .ok (.aload_n 0, 1) := by decide +kernel
theorem dX10_perform_70 : decode cX10_perform 70 = .ok (.aload_n 2, 1) := by decide +kernel
theorem dX10_perform_71 : decode cX10_perform 71 = .ok (.iconst 0, 1) := by decide +kernel
theorem dX10_perform_72 : decode cX10_perform 72 = .ok (.iaload, 1) := by decide +kernel
theorem dX10_perform_73 : decode cX10_perform 73 = .ok (.invokevirtual 183, 3) := by decide +kernel
theorem dX10_perform_76 : decode cX10_perform 76 = .ok (.ireturn, 1) := by decide +kernel
theorem dX10_perform_77 : decode cX10_perform 77 = .ok (.aload_n 1, 1) := by decide +kernel
theorem dX10_perform_78 : decode cX10_perform 78 = .ok (.getstatic 186, 3) := by decide +kernel
theorem dX10_perform_81 : decode cX10_perform 81 = .ok (.if_acmp .ne 11, 3) := by decide +kernel
theorem dX10_perform_84 : decode cX10_perform 84 = .ok (.aload_n 0, 1) := by decide +kernel
theorem dX10_perform_85 : decode cX10_perform 85 = .ok (.aload_n 2, 1) := by decide +kernel
theorem dX10_perform_86 : decode cX10_perform 86 = .ok (.iconst 0, 1) := by decide +kernel
theorem dX10_perform_87 : decode cX10_perform 87 = .ok (.iaload, 1) := by decide +kernel
theorem dX10_perform_88 : decode cX10_perform 88 = .ok (.invokevirtual 189, 3) := by decide +kernel
theorem dX10_perform_91 : decode cX10_perform 91 = .ok (.ireturn, 1) := by decide +kernel
theorem dX10_perform_92 : decode cX10_perform 92 = .ok (.aload_n 0, 1) := by decide +kernel
theorem dX10_perform_93 : decode cX10_perform 93 = .ok (.aload_n 2, 1) := by decide +kernel
theorem dX10_perform_94 : decode cX10_perform 94 = .ok (.iconst 0, 1) := by decide +kernel
theorem dX10_perform_95 : decode cX10_perform 95 = .ok (.iaload, 1) := by decide +kernel
theorem dX10_perform_96 : decode cX10_perform 96 = .ok (.aload_n 2, 1) := by decide +kernel
theorem dX10_perform_97 : decode cX10_perform 97 = .ok (.iconst 1, 1) := by decide +kernel
theorem dX10_perform_98 : decode cX10_perform 98 = .ok (.iaload, 1) := by decide +kernel
theorem dX10_perform_99 : decode cX10_perform 99 = .ok (.invokevirtual 192, 3) := by decide +kernel
theorem dX10_perform_102 : decode cX10_perform 102 = .ok (.ireturn, 1) := by decide +kernel
theorem dX10_line_0 : decode cX10_line 0 = .ok (.iconst 0, 1) := by decide +kernel
theorem dX10_line_1 : decode cX10_line 1 = .ok (.istore_n 1, 1) := by decide +kernel
theorem dX10_line_2 : decode cX10_line 2 = .ok (.iconst 0, 1) := by decide +kernel
theorem dX10_line_3 : decode cX10_line 3 = .ok (.istore_n 2, 1) := by decide +kernel
theorem dX10_line_4 : decode cX10_line 4 = .ok (.iload_n 2, 1) := by decide +kernel
theorem dX10_line_5 : decode cX10_line 5 = .ok (.getstatic 134, 3) := by decide +kernel
theorem dX10_line_8 : decode cX10_line 8 = .ok (.arraylength, 1) := by decide +kernel
theorem dX10_line_9 : decode cX10_line 9 = .ok (.if_icmp .ge 64, 3) := by decide +kernel
theorem dX10_line_12 : decode cX10_line 12 = .ok (.aload_n 0, 1) := by decide +kernel
theorem dX10_line_13 : decode cX10_line 13 = .ok (.getfield 28, 3) := by decide +kernel
theorem dX10_line_16 : decode cX10_line 16 = .ok (.aload_n 0, 1) := by decide +kernel
theorem dX10_line_17 : decode cX10_line 17 = .ok (.getfield 21, 3) := by decide +kernel
theorem dX10_line_20 : decode cX10_line 20 = .ok (.getstatic 134, 3) := by decide +kernel
theorem dX10_line_23 : decode cX10_line 23 = .ok (.iload_n 2, 1) := by decide +kernel
theorem dX10_line_24 : decode cX10_line 24 = .ok (.aaload, 1) := by decide +kernel
theorem dX10_line_25 : decode cX10_line 25 = .ok (.invokevirtual 138, 3) := by decide +kernel
theorem dX10_line_28 : decode cX10_line 28 = .ok (.istore_n 3, 1) := by decide +kernel
theorem dX10_line_29 : decode cX10_line 29 = .ok (.aload_n 0, 1) := by decide +kernel
theorem dX10_line_30 : decode cX10_line 30 = .ok (.getfield 28, 3) := by decide +kernel
theorem dX10_line_33 : decode cX10_line 33 = .ok (.getfield 142, 3) := by decide +kernel
theorem dX10_line_36 : decode cX10_line 36 = .ok (.ifCond .eq 25, 3) := by decide +kernel
theorem dX10_line_39 : decode cX10_line 39 = .ok (.aload_n 0, 1) := by decide +kernel
theorem dX10_line_40 : decode cX10_line 40 = .ok (.getfield 21, 3) := by decide +kernel
theorem dX10_line_43 : decode cX10_line 43 = .ok (.invokevirtual 130, 3) := by decide +kernel
theorem dX10_line_46 : decode cX10_line 46 = .ok (.pop, 1) := by decide +kernel
theorem dX10_line_47 : decode cX10_line 47 = .ok (.aload_n 0, 1) := by decide +kernel
theorem dX10_line_48 : decode cX10_line 48 = .ok (.getstatic 134, 3) := by decide +kernel
theorem dX10_line_51 : decode cX10_line 51 = .ok (.iload_n 2, 1) := by decide +kernel
theorem dX10_line_52 : decode cX10_line 52 = .ok (.aaload, 1) := by decide +kernel
theorem dX10_line_53 : decode cX10_line 53 = .ok (.invokevirtual 146, 3) := by decide +kernel
theorem dX10_line_56 : decode cX10_line 56 = .ok (.sipush 1000, 3) := by decide +kernel
theorem dX10_line_59 : decode cX10_line 59 = .ok (.iadd, 1) := by decide +kernel
theorem dX10_line_60 : decode cX10_line 60 = .ok (.ireturn, 1) := by decide +kernel
theorem dX10_line_61 : decode cX10_line 61 = .ok (.iload_n 1, 1) := by decide +kernel
theorem dX10_line_62 : decode cX10_line 62 = .ok (.iload_n 3, 1) := by decide +kernel
theorem dX10_line_63 : decode cX10_line 63 = .ok (.invokestatic 150, 3) := by decide +kernel
theorem dX10_line_66 : decode cX10_line 66 = .ok (.istore_n 1, 1) := by decide +kernel
theorem dX10_line_67 : decode cX10_line 67 = .ok (.iinc 2 1, 3) := by decide +kernel
theorem dX10_line_70 : decode cX10_line 70 = .ok (.goto (-66), 3) := by decide +kernel
theorem dX10_line_73 : decode cX10_line 73 = .ok (.bipush (-100), 2) := by decide +kernel
theorem dX10_line_75 : decode cX10_line 75 = .ok (.iload_n 1, 1) := by decide +kernel
theorem dX10_line_76 : decode cX10_line 76 = .ok (.isub, 1) := by decide +kernel
theorem dX10_line_77 : decode cX10_line 77 = .ok (.ireturn, 1) := by decide +kernel
theorem dX10_rule_0 : decode cX10_rule 0 = .ok (.iconst 0, 1) := by decide +kernel
theorem dX10_rule_1 : decode cX10_rule 1 = .ok (.istore_n 1, 1) := by decide +kernel
theorem dX10_rule_2 : decode cX10_rule 2 = .ok (.iload_n 1, 1) := by decide +kernel
theorem dX10_rule_3 : decode cX10_rule 3 = .ok (.getstatic 195, 3) := by decide +kernel
theorem dX10_rule_6 : decode cX10_rule 6 = .ok (.arraylength, 1) := by decide +kernel
theorem dX10_rule_7 : decode cX10_rule 7 = .ok (.if_icmp .ge 52, 3) := by decide +kernel
theorem dX10_rule_10 : decode cX10_rule 10 = .ok (.aload_n 0, 1) := by decide +kernel
theorem dX10_rule_11 : decode cX10_rule 11 = .ok (.getfield 21, 3) := by decide +kernel
theorem dX10_rule_14 : decode cX10_rule 14 = .ok (.getstatic 195, 3) := by decide +kernel
theorem dX10_rule_17 : decode cX10_rule 17 = .ok (.iload_n 1, 1) := by decide +kernel
theorem dX10_rule_18 : decode cX10_rule 18 = .ok (.aaload, 1) := by decide +kernel
theorem dX10_rule_19 : decode cX10_rule 19 = .ok (.getfield 199, 3) := by decide +kernel
theorem dX10_rule_22 : decode cX10_rule 22 = .ok (.invokevirtual 203, 3) := by decide +kernel
theorem dX10_rule_25 : decode cX10_rule 25 = .ok (.ifCond .eq 28, 3) := by decide +kernel
theorem dX10_rule_28 : decode cX10_rule 28 = .ok (.aload_n 0, 1) := by decide +kernel
theorem dX10_rule_29 : decode cX10_rule 29 = .ok (.getstatic 195, 3) := by decide +kernel
theorem dX10_rule_32 : decode cX10_rule 32 = .ok (.iload_n 1, 1) := by decide +kernel
theorem dX10_rule_33 : decode cX10_rule 33 = .ok (.aaload, 1) := by decide +kernel
theorem dX10_rule_34 : decode cX10_rule 34 = .ok (.putfield 90, 3) := by decide +kernel
theorem dX10_rule_37 : decode cX10_rule 37 = .ok (.aload_n 0, 1) := by decide +kernel
theorem dX10_rule_38 : decode cX10_rule 38 = .ok (.getfield 21, 3) := by decide +kernel
theorem dX10_rule_41 : decode cX10_rule 41 = .ok (.invokevirtual 130, 3) := by decide +kernel
theorem dX10_rule_44 : decode cX10_rule 44 = .ok (.pop, 1) := by decide +kernel
theorem dX10_rule_45 : decode cX10_rule 45 = .ok (.aload_n 0, 1) := by decide +kernel
theorem dX10_rule_46 : decode cX10_rule 46 = .ok (.getfield 90, 3) := by decide +kernel
theorem dX10_rule_49 : decode cX10_rule 49 = .ok (.getfield 207, 3) := by decide +kernel
theorem dX10_rule_52 : decode cX10_rule 52 = .ok (.ireturn, 1) := by decide +kernel
theorem dX10_rule_53 : decode cX10_rule 53 = .ok (.iinc 1 1, 3) := by decide +kernel
theorem dX10_rule_56 : decode cX10_rule 56 = .ok (.goto (-54), 3) := by decide +kernel
theorem dX10_rule_59 : decode cX10_rule 59 = .ok (.iconst (-1), 1) := by decide +kernel
theorem dX10_rule_60 : decode cX10_rule 60 = .ok (.ireturn, 1) := by decide +kernel
theorem dX10_miss_0 : decode cX10_miss 0 = .ok (.iload_n 1, 1) := by decide +kernel
theorem dX10_miss_1 : decode cX10_miss 1 = .ok (.invokestatic 100, 3) := by decide +kernel
theorem dX10_miss_4 : decode cX10_miss 4 = .ok (.ifCond .eq 12, 3) := by decide +kernel
theorem dX10_miss_7 : decode cX10_miss 7 = .ok (.iload_n 2, 1) := by decide +kernel
theorem dX10_miss_8 : decode cX10_miss 8 = .ok (.ifCond .lt 8, 3) := by decide +kernel
theorem dX10_miss_11 : decode cX10_miss 11 = .ok (.iload_n 2, 1) := by decide +kernel
theorem dX10_miss_12 : decode cX10_miss 12 = .ok (.iconst 1, 1) := by decide +kernel
theorem dX10_miss_13 : decode cX10_miss 13 = .ok (.if_icmp .le 6, 3) := by decide +kernel
theorem dX10_miss_16 : decode cX10_miss 16 = .ok (.bipush (-2), 2) := by decide +kernel
theorem dX10_miss_18 : decode cX10_miss 18 = .ok (.ireturn, 1) := by decide +kernel
theorem dX10_miss_19 : decode cX10_miss 19 = .ok (.aload_n 0, 1) := by decide +kernel
theorem dX10_miss_20 : decode cX10_miss 20 = .ok (.getfield 90, 3) := by decide +kernel
theorem dX10_miss_23 : decode cX10_miss 23 = .ok (.iload_n 1, 1) := by decide +kernel
theorem dX10_miss_24 : decode cX10_miss 24 = .ok (.iload_n 2, 1) := by decide +kernel
theorem dX10_miss_25 : decode cX10_miss 25 = .ok (.iconst 1, 1) := by decide +kernel
theorem dX10_miss_26 : decode cX10_miss 26 = .ok (.if_icmp .ne 7, 3) := by decide +kernel
theorem dX10_miss_29 : decode cX10_miss 29 = .ok (.iconst 1, 1) := by decide +kernel
theorem dX10_miss_30 : decode cX10_miss 30 = .ok (.goto 4, 3) := by decide +kernel
theorem dX10_miss_33 : decode cX10_miss 33 = .ok (.iconst 0, 1) := by decide +kernel
theorem dX10_miss_34 : decode cX10_miss 34 = .ok (.invokevirtual 210, 3) := by decide +kernel
theorem dX10_miss_37 : decode cX10_miss 37 = .ok (.ireturn, 1) := by decide +kernel
theorem dX10_isWhich_0 : decode cX10_isWhich 0 = .ok (.iload_n 0, 1) := by decide +kernel
theorem dX10_isWhich_1 : decode cX10_isWhich 1 = .ok (.ifCond .eq 8, 3) := by decide +kernel
theorem dX10_isWhich_4 : decode cX10_isWhich 4 = .ok (.iload_n 0, 1) := by decide +kernel
theorem dX10_isWhich_5 : decode cX10_isWhich 5 = .ok (.iconst 1, 1) := by decide +kernel
theorem dX10_isWhich_6 : decode cX10_isWhich 6 = .ok (.if_icmp .ne 7, 3) := by decide +kernel
theorem dX10_isWhich_9 : decode cX10_isWhich 9 = .ok (.iconst 1, 1) := by decide +kernel
theorem dX10_isWhich_10 : decode cX10_isWhich 10 = .ok (.goto 4, 3) := by decide +kernel
theorem dX10_isWhich_13 : decode cX10_isWhich 13 = .ok (.iconst 0, 1) := by decide +kernel
theorem dX10_isWhich_14 : decode cX10_isWhich 14 = .ok (.ireturn, 1) := by decide +kernel
theorem dX10_findMeanMiss_0 : decode cX10_findMeanMiss 0 = .ok (.aload_n 0, 1) := by decide +kernel
theorem dX10_findMeanMiss_1 : decode cX10_findMeanMiss 1 = .ok (.getfield 35, 3) := by decide +kernel
theorem dX10_findMeanMiss_4 : decode cX10_findMeanMiss 4 = .ok (.aload_n 0, 1) := by decide +kernel
theorem dX10_findMeanMiss_5 : decode cX10_findMeanMiss 5 = .ok (.getfield 12, 3) := by decide +kernel
theorem dX10_findMeanMiss_8 : decode cX10_findMeanMiss 8 = .ok (.iload_n 1, 1) := by decide +kernel
theorem dX10_findMeanMiss_9 : decode cX10_findMeanMiss 9 = .ok (.invokevirtual 226, 3) := by decide +kernel
theorem dX10_findMeanMiss_12 : decode cX10_findMeanMiss 12 = .ok (.aload_n 0, 1) := by decide +kernel
theorem dX10_findMeanMiss_13 : decode cX10_findMeanMiss 13 = .ok (.getfield 35, 3) := by decide +kernel
theorem dX10_findMeanMiss_16 : decode cX10_findMeanMiss 16 = .ok (.getfield 230, 3) := by decide +kernel
theorem dX10_findMeanMiss_19 : decode cX10_findMeanMiss 19 = .ok (.ifCond .ne 5, 3) := by decide +kernel
theorem dX10_findMeanMiss_22 : decode cX10_findMeanMiss 22 = .ok (.iconst 0, 1) := by decide +kernel
theorem dX10_findMeanMiss_23 : decode cX10_findMeanMiss 23 = .ok (.ireturn, 1) := by decide +kernel
theorem dX10_findMeanMiss_24 : decode cX10_findMeanMiss 24 = .ok (.aload_n 0, 1) := by decide +kernel
theorem dX10_findMeanMiss_25 : decode cX10_findMeanMiss 25 = .ok (.getfield 56, 3) := by decide +kernel
theorem dX10_findMeanMiss_28 : decode cX10_findMeanMiss 28 = .ok (.aload_n 0, 1) := by decide +kernel
theorem dX10_findMeanMiss_29 : decode cX10_findMeanMiss 29 = .ok (.getfield 35, 3) := by decide +kernel
theorem dX10_findMeanMiss_32 : decode cX10_findMeanMiss 32 = .ok (.aload_n 0, 1) := by decide +kernel
theorem dX10_findMeanMiss_33 : decode cX10_findMeanMiss 33 = .ok (.getfield 90, 3) := by decide +kernel
theorem dX10_findMeanMiss_36 : decode cX10_findMeanMiss 36 = .ok (.invokevirtual 233, 3) := by decide +kernel
theorem dX10_findMeanMiss_39 : decode cX10_findMeanMiss 39 = .ok (.aload_n 0, 1) := by decide +kernel
theorem dX10_findMeanMiss_40 : decode cX10_findMeanMiss 40 = .ok (.getfield 35, 3) := by decide +kernel
theorem dX10_findMeanMiss_43 : decode cX10_findMeanMiss 43 = .ok (.getfield 230, 3) := by decide +kernel
theorem dX10_findMeanMiss_46 : decode cX10_findMeanMiss 46 = .ok (.i2l, 1) := by decide +kernel
theorem dX10_findMeanMiss_47 : decode cX10_findMeanMiss 47 = .ok (.invokevirtual 246, 3) := by decide +kernel
theorem dX10_findMeanMiss_50 : decode cX10_findMeanMiss 50 = .ok (.iconst 1, 1) := by decide +kernel
theorem dX10_findMeanMiss_51 : decode cX10_findMeanMiss 51 = .ok (.ireturn, 1) := by decide +kernel
theorem dX10_score_0 : decode cX10_score 0 = .ok (.iload_n 1, 1) := by decide +kernel
theorem dX10_score_1 : decode cX10_score 1 = .ok (.invokestatic 114, 3) := by decide +kernel
theorem dX10_score_4 : decode cX10_score 4 = .ok (.ifCond .eq 18, 3) := by decide +kernel
theorem dX10_score_7 : decode cX10_score 7 = .ok (.iload_n 2, 1) := by decide +kernel
theorem dX10_score_8 : decode cX10_score 8 = .ok (.invokestatic 214, 3) := by decide +kernel
theorem dX10_score_11 : decode cX10_score 11 = .ok (.ifCond .eq 11, 3) := by decide +kernel
theorem dX10_score_14 : decode cX10_score 14 = .ok (.aload_n 0, 1) := by decide +kernel
theorem dX10_score_15 : decode cX10_score 15 = .ok (.iload_n 1, 1) := by decide +kernel
theorem dX10_score_16 : decode cX10_score 16 = .ok (.invokevirtual 217, 3) := by decide +kernel
theorem dX10_score_19 : decode cX10_score 19 = .ok (.ifCond .ne 7, 3) := by decide +kernel
theorem dX10_score_22 : decode cX10_score 22 = .ok (.ldc2_w 220, 3) := by decide +kernel
theorem dX10_score_25 : decode cX10_score 25 = .ok (.lreturn, 1) := by decide +kernel
theorem dX10_score_26 : decode cX10_score 26 = .ok (.aload_n 0, 1) := by decide +kernel
theorem dX10_score_27 : decode cX10_score 27 = .ok (.getfield 56, 3) := by decide +kernel
theorem dX10_score_30 : decode cX10_score 30 = .ok (.iload_n 2, 1) := by decide +kernel
theorem dX10_score_31 : decode cX10_score 31 = .ok (.invokevirtual 222, 3) := by decide +kernel
theorem dX10_score_34 : decode cX10_score 34 = .ok (.lreturn, 1) := by decide +kernel
theorem dX10_tellersAheadOf_0 : decode cX10_tellersAheadOf 0 = .ok (.iconst 0, 1) := by decide +kernel
theorem dX10_tellersAheadOf_1 : decode cX10_tellersAheadOf 1 = .ok (.istore_n 2, 1) := by decide +kernel
theorem dX10_tellersAheadOf_2 : decode cX10_tellersAheadOf 2 = .ok (.iconst 0, 1) := by decide +kernel
theorem dX10_tellersAheadOf_3 : decode cX10_tellersAheadOf 3 = .ok (.istore_n 3, 1) := by decide +kernel
theorem dX10_tellersAheadOf_4 : decode cX10_tellersAheadOf 4 = .ok (.iload_n 3, 1) := by decide +kernel
theorem dX10_tellersAheadOf_5 : decode cX10_tellersAheadOf 5 = .ok (.iconst 4, 1) := by decide +kernel
theorem dX10_tellersAheadOf_6 : decode cX10_tellersAheadOf 6 = .ok (.if_icmp .gt 79, 3) := by decide +kernel
theorem dX10_tellersAheadOf_9 : decode cX10_tellersAheadOf 9 = .ok (.iload_n 3, 1) := by decide +kernel
theorem dX10_tellersAheadOf_10 : decode cX10_tellersAheadOf 10 = .ok (.iload_n 1, 1) := by decide +kernel
theorem dX10_tellersAheadOf_11 : decode cX10_tellersAheadOf 11 = .ok (.if_icmp .eq 68, 3) := by decide +kernel
theorem dX10_tellersAheadOf_14 : decode cX10_tellersAheadOf 14 = .ok (.aload_n 0, 1) := by decide +kernel
theorem dX10_tellersAheadOf_15 : decode cX10_tellersAheadOf 15 = .ok (.getfield 74, 3) := by decide +kernel
theorem dX10_tellersAheadOf_18 : decode cX10_tellersAheadOf 18 = .ok (.iload_n 3, 1) := by decide +kernel
theorem dX10_tellersAheadOf_19 : decode cX10_tellersAheadOf 19 = .ok (.iaload, 1) := by decide +kernel
theorem dX10_tellersAheadOf_20 : decode cX10_tellersAheadOf 20 = .ok (.ifCond .le 59, 3) := by decide +kernel
theorem dX10_tellersAheadOf_23 : decode cX10_tellersAheadOf 23 = .ok (.aload_n 0, 1) := by decide +kernel
theorem dX10_tellersAheadOf_24 : decode cX10_tellersAheadOf 24 = .ok (.getfield 70, 3) := by decide +kernel
theorem dX10_tellersAheadOf_27 : decode cX10_tellersAheadOf 27 = .ok (.iload_n 3, 1) := by decide +kernel
theorem dX10_tellersAheadOf_28 : decode cX10_tellersAheadOf 28 = .ok (.laload, 1) := by decide +kernel
theorem dX10_tellersAheadOf_29 : decode cX10_tellersAheadOf 29 = .ok (.aload_n 0, 1) := by decide +kernel
theorem dX10_tellersAheadOf_30 : decode cX10_tellersAheadOf 30 = .ok (.getfield 74, 3) := by decide +kernel
theorem dX10_tellersAheadOf_33 : decode cX10_tellersAheadOf 33 = .ok (.iload_n 1, 1) := by decide +kernel
theorem dX10_tellersAheadOf_34 : decode cX10_tellersAheadOf 34 = .ok (.iaload, 1) := by decide +kernel
theorem dX10_tellersAheadOf_35 : decode cX10_tellersAheadOf 35 = .ok (.i2l, 1) := by decide +kernel
theorem dX10_tellersAheadOf_36 : decode cX10_tellersAheadOf 36 = .ok (.lmul, 1) := by decide +kernel
theorem dX10_tellersAheadOf_37 : decode cX10_tellersAheadOf 37 = .ok (.lstore 4, 2) := by decide +kernel
theorem dX10_tellersAheadOf_39 : decode cX10_tellersAheadOf 39 = .ok (.aload_n 0, 1) := by decide +kernel
theorem dX10_tellersAheadOf_40 : decode cX10_tellersAheadOf 40 = .ok (.getfield 70, 3) := by decide +kernel
theorem dX10_tellersAheadOf_43 : decode cX10_tellersAheadOf 43 = .ok (.iload_n 1, 1) := by decide +kernel
theorem dX10_tellersAheadOf_44 : decode cX10_tellersAheadOf 44 = .ok (.laload, 1) := by decide +kernel
theorem dX10_tellersAheadOf_45 : decode cX10_tellersAheadOf 45 = .ok (.aload_n 0, 1) := by decide +kernel
theorem dX10_tellersAheadOf_46 : decode cX10_tellersAheadOf 46 = .ok (.getfield 74, 3) := by decide +kernel
theorem dX10_tellersAheadOf_49 : decode cX10_tellersAheadOf 49 = .ok (.iload_n 3, 1) := by decide +kernel
theorem dX10_tellersAheadOf_50 : decode cX10_tellersAheadOf 50 = .ok (.iaload, 1) := by decide +kernel
theorem dX10_tellersAheadOf_51 : decode cX10_tellersAheadOf 51 = .ok (.i2l, 1) := by decide +kernel
theorem dX10_tellersAheadOf_52 : decode cX10_tellersAheadOf 52 = .ok (.lmul, 1) := by decide +kernel
theorem dX10_tellersAheadOf_53 : decode cX10_tellersAheadOf 53 = .ok (.lstore 6, 2) := by decide +kernel
theorem dX10_tellersAheadOf_55 : decode cX10_tellersAheadOf 55 = .ok (.lload 4, 2) := by decide +kernel
theorem dX10_tellersAheadOf_57 : decode cX10_tellersAheadOf 57 = .ok (.lload 6, 2) := by decide +kernel
theorem dX10_tellersAheadOf_59 : decode cX10_tellersAheadOf 59 = .ok (.lcmp, 1) := by decide +kernel
theorem dX10_tellersAheadOf_60 : decode cX10_tellersAheadOf 60 = .ok (.ifCond .lt 16, 3) := by decide +kernel
theorem dX10_tellersAheadOf_63 : decode cX10_tellersAheadOf 63 = .ok (.lload 4, 2) := by decide +kernel
theorem dX10_tellersAheadOf_65 : decode cX10_tellersAheadOf 65 = .ok (.lload 6, 2) := by decide +kernel
theorem dX10_tellersAheadOf_67 : decode cX10_tellersAheadOf 67 = .ok (.lcmp, 1) := by decide +kernel
theorem dX10_tellersAheadOf_68 : decode cX10_tellersAheadOf 68 = .ok (.ifCond .ne 11, 3) := by decide +kernel
theorem dX10_tellersAheadOf_71 : decode cX10_tellersAheadOf 71 = .ok (.iload_n 3, 1) := by decide +kernel
theorem dX10_tellersAheadOf_72 : decode cX10_tellersAheadOf 72 = .ok (.iload_n 1, 1) := by decide +kernel
theorem dX10_tellersAheadOf_73 : decode cX10_tellersAheadOf 73 = .ok (.if_icmp .ge 6, 3) := by decide +kernel
theorem dX10_tellersAheadOf_76 : decode cX10_tellersAheadOf 76 = .ok (.iinc 2 1, 3) := by decide +kernel
theorem dX10_tellersAheadOf_79 : decode cX10_tellersAheadOf 79 = .ok (.iinc 3 1, 3) := by decide +kernel
theorem dX10_tellersAheadOf_82 : decode cX10_tellersAheadOf 82 = .ok (.goto (-78), 3) := by decide +kernel
theorem dX10_tellersAheadOf_85 : decode cX10_tellersAheadOf 85 = .ok (.iload_n 2, 1) := by decide +kernel
theorem dX10_tellersAheadOf_86 : decode cX10_tellersAheadOf 86 = .ok (.ireturn, 1) := by decide +kernel
theorem dX10_rank_0 : decode cX10_rank 0 = .ok (.iconst 0, 1) := by decide +kernel
theorem dX10_rank_1 : decode cX10_rank 1 = .ok (.istore_n 2, 1) := by decide +kernel
theorem dX10_rank_2 : decode cX10_rank 2 = .ok (.iload_n 2, 1) := by decide +kernel
theorem dX10_rank_3 : decode cX10_rank 3 = .ok (.iconst 4, 1) := by decide +kernel
theorem dX10_rank_4 : decode cX10_rank 4 = .ok (.if_icmp .gt 51, 3) := by decide +kernel
theorem dX10_rank_7 : decode cX10_rank 7 = .ok (.aload_n 0, 1) := by decide +kernel
theorem dX10_rank_8 : decode cX10_rank 8 = .ok (.getfield 35, 3) := by decide +kernel
theorem dX10_rank_11 : decode cX10_rank 11 = .ok (.aload_n 0, 1) := by decide +kernel
theorem dX10_rank_12 : decode cX10_rank 12 = .ok (.getfield 12, 3) := by decide +kernel
theorem dX10_rank_15 : decode cX10_rank 15 = .ok (.iload_n 2, 1) := by decide +kernel
theorem dX10_rank_16 : decode cX10_rank 16 = .ok (.invokevirtual 226, 3) := by decide +kernel
theorem dX10_rank_19 : decode cX10_rank 19 = .ok (.aload_n 0, 1) := by decide +kernel
theorem dX10_rank_20 : decode cX10_rank 20 = .ok (.getfield 74, 3) := by decide +kernel
theorem dX10_rank_23 : decode cX10_rank 23 = .ok (.iload_n 2, 1) := by decide +kernel
theorem dX10_rank_24 : decode cX10_rank 24 = .ok (.aload_n 0, 1) := by decide +kernel
theorem dX10_rank_25 : decode cX10_rank 25 = .ok (.getfield 35, 3) := by decide +kernel
theorem dX10_rank_28 : decode cX10_rank 28 = .ok (.getfield 230, 3) := by decide +kernel
theorem dX10_rank_31 : decode cX10_rank 31 = .ok (.iastore, 1) := by decide +kernel
theorem dX10_rank_32 : decode cX10_rank 32 = .ok (.aload_n 0, 1) := by decide +kernel
theorem dX10_rank_33 : decode cX10_rank 33 = .ok (.getfield 70, 3) := by decide +kernel
theorem dX10_rank_36 : decode cX10_rank 36 = .ok (.iload_n 2, 1) := by decide +kernel
theorem dX10_rank_37 : decode cX10_rank 37 = .ok (.aload_n 0, 1) := by decide +kernel
theorem dX10_rank_38 : decode cX10_rank 38 = .ok (.getfield 35, 3) := by decide +kernel
theorem dX10_rank_41 : decode cX10_rank 41 = .ok (.aload_n 0, 1) := by decide +kernel
theorem dX10_rank_42 : decode cX10_rank 42 = .ok (.getfield 90, 3) := by decide +kernel
theorem dX10_rank_45 : decode cX10_rank 45 = .ok (.invokevirtual 233, 3) := by decide +kernel
theorem dX10_rank_48 : decode cX10_rank 48 = .ok (.lastore, 1) := by decide +kernel
theorem dX10_rank_49 : decode cX10_rank 49 = .ok (.iinc 2 1, 3) := by decide +kernel
theorem dX10_rank_52 : decode cX10_rank 52 = .ok (.goto (-50), 3) := by decide +kernel
theorem dX10_rank_55 : decode cX10_rank 55 = .ok (.iconst 0, 1) := by decide +kernel
theorem dX10_rank_56 : decode cX10_rank 56 = .ok (.istore_n 2, 1) := by decide +kernel
theorem dX10_rank_57 : decode cX10_rank 57 = .ok (.iload_n 2, 1) := by decide +kernel
theorem dX10_rank_58 : decode cX10_rank 58 = .ok (.iconst 4, 1) := by decide +kernel
theorem dX10_rank_59 : decode cX10_rank 59 = .ok (.if_icmp .gt 29, 3) := by decide +kernel
theorem dX10_rank_62 : decode cX10_rank 62 = .ok (.aload_n 0, 1) := by decide +kernel
theorem dX10_rank_63 : decode cX10_rank 63 = .ok (.getfield 74, 3) := by decide +kernel
theorem dX10_rank_66 : decode cX10_rank 66 = .ok (.iload_n 2, 1) := by decide +kernel
theorem dX10_rank_67 : decode cX10_rank 67 = .ok (.iaload, 1) := by decide +kernel
theorem dX10_rank_68 : decode cX10_rank 68 = .ok (.ifCond .le 14, 3) := by decide +kernel
theorem dX10_rank_71 : decode cX10_rank 71 = .ok (.aload_n 0, 1) := by decide +kernel
theorem dX10_rank_72 : decode cX10_rank 72 = .ok (.iload_n 2, 1) := by decide +kernel
theorem dX10_rank_73 : decode cX10_rank 73 = .ok (.invokevirtual 237, 3) := by decide +kernel
theorem dX10_rank_76 : decode cX10_rank 76 = .ok (.iload_n 1, 1) := by decide +kernel
theorem dX10_rank_77 : decode cX10_rank 77 = .ok (.if_icmp .ne 5, 3) := by decide +kernel
theorem dX10_rank_80 : decode cX10_rank 80 = .ok (.iload_n 2, 1) := by decide +kernel
theorem dX10_rank_81 : decode cX10_rank 81 = .ok (.ireturn, 1) := by decide +kernel
theorem dX10_rank_82 : decode cX10_rank 82 = .ok (.iinc 2 1, 3) := by decide +kernel
theorem dX10_rank_85 : decode cX10_rank 85 = .ok (.goto (-28), 3) := by decide +kernel
theorem dX10_rank_88 : decode cX10_rank 88 = .ok (.iconst (-1), 1) := by decide +kernel
theorem dX10_rank_89 : decode cX10_rank 89 = .ok (.ireturn, 1) := by decide +kernel
theorem dX10_believedMiss_0 : decode cX10_believedMiss 0 = .ok (.iload_n 1, 1) := by decide +kernel
theorem dX10_believedMiss_1 : decode cX10_believedMiss 1 = .ok (.aload_n 0, 1) := by decide +kernel
theorem dX10_believedMiss_2 : decode cX10_believedMiss 2 = .ok (.getfield 90, 3) := by decide +kernel
theorem dX10_believedMiss_5 : decode cX10_believedMiss 5 = .ok (.iload_n 2, 1) := by decide +kernel
theorem dX10_believedMiss_6 : decode cX10_believedMiss 6 = .ok (.iconst 1, 1) := by decide +kernel
theorem dX10_believedMiss_7 : decode cX10_believedMiss 7 = .ok (.invokevirtual 210, 3) := by decide +kernel
theorem dX10_believedMiss_10 : decode cX10_believedMiss 10 = .ok (.imul, 1) := by decide +kernel
theorem dX10_believedMiss_11 : decode cX10_believedMiss 11 = .ok (.bipush 100, 2) := by decide +kernel
theorem dX10_believedMiss_13 : decode cX10_believedMiss 13 = .ok (.iload_n 1, 1) := by decide +kernel
theorem dX10_believedMiss_14 : decode cX10_believedMiss 14 = .ok (.isub, 1) := by decide +kernel
theorem dX10_believedMiss_15 : decode cX10_believedMiss 15 = .ok (.aload_n 0, 1) := by decide +kernel
theorem dX10_believedMiss_16 : decode cX10_believedMiss 16 = .ok (.getfield 90, 3) := by decide +kernel
theorem dX10_believedMiss_19 : decode cX10_believedMiss 19 = .ok (.iload_n 2, 1) := by decide +kernel
theorem dX10_believedMiss_20 : decode cX10_believedMiss 20 = .ok (.iconst 0, 1) := by decide +kernel
theorem dX10_believedMiss_21 : decode cX10_believedMiss 21 = .ok (.invokevirtual 210, 3) := by decide +kernel
theorem dX10_believedMiss_24 : decode cX10_believedMiss 24 = .ok (.imul, 1) := by decide +kernel
theorem dX10_believedMiss_25 : decode cX10_believedMiss 25 = .ok (.iadd, 1) := by decide +kernel
theorem dX10_believedMiss_26 : decode cX10_believedMiss 26 = .ok (.ireturn, 1) := by decide +kernel
theorem dX10_leastBest_0 : decode cX10_leastBest 0 = .ok (.iconst 0, 1) := by decide +kernel
theorem dX10_leastBest_1 : decode cX10_leastBest 1 = .ok (.istore_n 2, 1) := by decide +kernel
theorem dX10_leastBest_2 : decode cX10_leastBest 2 = .ok (.aload_n 0, 1) := by decide +kernel
theorem dX10_leastBest_3 : decode cX10_leastBest 3 = .ok (.iload_n 1, 1) := by decide +kernel
theorem dX10_leastBest_4 : decode cX10_leastBest 4 = .ok (.iconst 0, 1) := by decide +kernel
theorem dX10_leastBest_5 : decode cX10_leastBest 5 = .ok (.invokevirtual 250, 3) := by decide +kernel
theorem dX10_leastBest_8 : decode cX10_leastBest 8 = .ok (.istore_n 3, 1) := by decide +kernel
theorem dX10_leastBest_9 : decode cX10_leastBest 9 = .ok (.iconst 1, 1) := by decide +kernel
theorem dX10_leastBest_10 : decode cX10_leastBest 10 = .ok (.istore 4, 2) := by decide +kernel
theorem dX10_leastBest_12 : decode cX10_leastBest 12 = .ok (.iload 4, 2) := by decide +kernel
theorem dX10_leastBest_14 : decode cX10_leastBest 14 = .ok (.bipush 100, 2) := by decide +kernel
theorem dX10_leastBest_16 : decode cX10_leastBest 16 = .ok (.if_icmp .gt 30, 3) := by decide +kernel
theorem dX10_leastBest_19 : decode cX10_leastBest 19 = .ok (.aload_n 0, 1) := by decide +kernel
theorem dX10_leastBest_20 : decode cX10_leastBest 20 = .ok (.iload_n 1, 1) := by decide +kernel
theorem dX10_leastBest_21 : decode cX10_leastBest 21 = .ok (.iload 4, 2) := by decide +kernel
theorem dX10_leastBest_23 : decode cX10_leastBest 23 = .ok (.invokevirtual 250, 3) := by decide +kernel
theorem dX10_leastBest_26 : decode cX10_leastBest 26 = .ok (.istore 5, 2) := by decide +kernel
theorem dX10_leastBest_28 : decode cX10_leastBest 28 = .ok (.iload 5, 2) := by decide +kernel
theorem dX10_leastBest_30 : decode cX10_leastBest 30 = .ok (.iload_n 3, 1) := by decide +kernel
theorem dX10_leastBest_31 : decode cX10_leastBest 31 = .ok (.if_icmp .ge 9, 3) := by decide +kernel
theorem dX10_leastBest_34 : decode cX10_leastBest 34 = .ok (.iload 5, 2) := by decide +kernel
theorem dX10_leastBest_36 : decode cX10_leastBest 36 = .ok (.istore_n 3, 1) := by decide +kernel
theorem dX10_leastBest_37 : decode cX10_leastBest 37 = .ok (.iload 4, 2) := by decide +kernel
theorem dX10_leastBest_39 : decode cX10_leastBest 39 = .ok (.istore_n 2, 1) := by decide +kernel
theorem dX10_leastBest_40 : decode cX10_leastBest 40 = .ok (.iinc 4 1, 3) := by decide +kernel
theorem dX10_leastBest_43 : decode cX10_leastBest 43 = .ok (.goto (-31), 3) := by decide +kernel
theorem dX10_leastBest_46 : decode cX10_leastBest 46 = .ok (.iload_n 2, 1) := by decide +kernel
theorem dX10_leastBest_47 : decode cX10_leastBest 47 = .ok (.ireturn, 1) := by decide +kernel
theorem dX10_lure_0 : decode cX10_lure 0 = .ok (.iload_n 1, 1) := by decide +kernel
theorem dX10_lure_1 : decode cX10_lure 1 = .ok (.invokestatic 100, 3) := by decide +kernel
theorem dX10_lure_4 : decode cX10_lure 4 = .ok (.ifCond .eq 11, 3) := by decide +kernel
theorem dX10_lure_7 : decode cX10_lure 7 = .ok (.aload_n 0, 1) := by decide +kernel
theorem dX10_lure_8 : decode cX10_lure 8 = .ok (.iload_n 1, 1) := by decide +kernel
theorem dX10_lure_9 : decode cX10_lure 9 = .ok (.invokevirtual 240, 3) := by decide +kernel
theorem dX10_lure_12 : decode cX10_lure 12 = .ok (.goto 5, 3) := by decide +kernel
theorem dX10_lure_15 : decode cX10_lure 15 = .ok (.bipush (-2), 2) := by decide +kernel
theorem dX10_lure_17 : decode cX10_lure 17 = .ok (.ireturn, 1) := by decide +kernel
theorem dX10_countHonest_0 : decode cX10_countHonest 0 = .ok (.iconst 0, 1) := by decide +kernel
theorem dX10_countHonest_1 : decode cX10_countHonest 1 = .ok (.istore_n 1, 1) := by decide +kernel
theorem dX10_countHonest_2 : decode cX10_countHonest 2 = .ok (.iconst 0, 1) := by decide +kernel
theorem dX10_countHonest_3 : decode cX10_countHonest 3 = .ok (.istore_n 2, 1) := by decide +kernel
theorem dX10_countHonest_4 : decode cX10_countHonest 4 = .ok (.iload_n 2, 1) := by decide +kernel
theorem dX10_countHonest_5 : decode cX10_countHonest 5 = .ok (.bipush 100, 2) := by decide +kernel
theorem dX10_countHonest_7 : decode cX10_countHonest 7 = .ok (.if_icmp .gt 31, 3) := by decide +kernel
theorem dX10_countHonest_10 : decode cX10_countHonest 10 = .ok (.aload_n 0, 1) := by decide +kernel
theorem dX10_countHonest_11 : decode cX10_countHonest 11 = .ok (.iload_n 2, 1) := by decide +kernel
theorem dX10_countHonest_12 : decode cX10_countHonest 12 = .ok (.iload_n 2, 1) := by decide +kernel
theorem dX10_countHonest_13 : decode cX10_countHonest 13 = .ok (.invokevirtual 250, 3) := by decide +kernel
theorem dX10_countHonest_16 : decode cX10_countHonest 16 = .ok (.aload_n 0, 1) := by decide +kernel
theorem dX10_countHonest_17 : decode cX10_countHonest 17 = .ok (.iload_n 2, 1) := by decide +kernel
theorem dX10_countHonest_18 : decode cX10_countHonest 18 = .ok (.aload_n 0, 1) := by decide +kernel
theorem dX10_countHonest_19 : decode cX10_countHonest 19 = .ok (.iload_n 2, 1) := by decide +kernel
theorem dX10_countHonest_20 : decode cX10_countHonest 20 = .ok (.invokevirtual 240, 3) := by decide +kernel
theorem dX10_countHonest_23 : decode cX10_countHonest 23 = .ok (.invokevirtual 250, 3) := by decide +kernel
theorem dX10_countHonest_26 : decode cX10_countHonest 26 = .ok (.if_icmp .ne 6, 3) := by decide +kernel
theorem dX10_countHonest_29 : decode cX10_countHonest 29 = .ok (.iinc 1 1, 3) := by decide +kernel
theorem dX10_countHonest_32 : decode cX10_countHonest 32 = .ok (.iinc 2 1, 3) := by decide +kernel
theorem dX10_countHonest_35 : decode cX10_countHonest 35 = .ok (.goto (-31), 3) := by decide +kernel
theorem dX10_countHonest_38 : decode cX10_countHonest 38 = .ok (.iload_n 1, 1) := by decide +kernel
theorem dX10_countHonest_39 : decode cX10_countHonest 39 = .ok (.ireturn, 1) := by decide +kernel
theorem dX10_honest_0 : decode cX10_honest 0 = .ok (.aload_n 0, 1) := by decide +kernel
theorem dX10_honest_1 : decode cX10_honest 1 = .ok (.getfield 81, 3) := by decide +kernel
theorem dX10_honest_4 : decode cX10_honest 4 = .ok (.aload_n 0, 1) := by decide +kernel
theorem dX10_honest_5 : decode cX10_honest 5 = .ok (.getfield 90, 3) := by decide +kernel
theorem dX10_honest_8 : decode cX10_honest 8 = .ok (.getfield 207, 3) := by decide +kernel
theorem dX10_honest_11 : decode cX10_honest 11 = .ok (.iaload, 1) := by decide +kernel
theorem dX10_honest_12 : decode cX10_honest 12 = .ok (.ifCond .ne 19, 3) := by decide +kernel
theorem dX10_honest_15 : decode cX10_honest 15 = .ok (.aload_n 0, 1) := by decide +kernel
theorem dX10_honest_16 : decode cX10_honest 16 = .ok (.getfield 81, 3) := by decide +kernel
theorem dX10_honest_19 : decode cX10_honest 19 = .ok (.aload_n 0, 1) := by decide +kernel
theorem dX10_honest_20 : decode cX10_honest 20 = .ok (.getfield 90, 3) := by decide +kernel
theorem dX10_honest_23 : decode cX10_honest 23 = .ok (.getfield 207, 3) := by decide +kernel
theorem dX10_honest_26 : decode cX10_honest 26 = .ok (.aload_n 0, 1) := by decide +kernel
theorem dX10_honest_27 : decode cX10_honest 27 = .ok (.invokevirtual 243, 3) := by decide +kernel
theorem dX10_honest_30 : decode cX10_honest 30 = .ok (.iastore, 1) := by decide +kernel
theorem dX10_honest_31 : decode cX10_honest 31 = .ok (.aload_n 0, 1) := by decide +kernel
theorem dX10_honest_32 : decode cX10_honest 32 = .ok (.getfield 81, 3) := by decide +kernel
theorem dX10_honest_35 : decode cX10_honest 35 = .ok (.aload_n 0, 1) := by decide +kernel
theorem dX10_honest_36 : decode cX10_honest 36 = .ok (.getfield 90, 3) := by decide +kernel
theorem dX10_honest_39 : decode cX10_honest 39 = .ok (.getfield 207, 3) := by decide +kernel
theorem dX10_honest_42 : decode cX10_honest 42 = .ok (.iaload, 1) := by decide +kernel
theorem dX10_honest_43 : decode cX10_honest 43 = .ok (.ireturn, 1) := by decide +kernel
theorem dX10_cut_0 : decode cX10_cut 0 = .ok (.iload_n 1, 1) := by decide +kernel
theorem dX10_cut_1 : decode cX10_cut 1 = .ok (.iconst 1, 1) := by decide +kernel
theorem dX10_cut_2 : decode cX10_cut 2 = .ok (.if_icmp .lt 9, 3) := by decide +kernel
theorem dX10_cut_5 : decode cX10_cut 5 = .ok (.iload_n 1, 1) := by decide +kernel
theorem dX10_cut_6 : decode cX10_cut 6 = .ok (.bipush 100, 2) := by decide +kernel
theorem dX10_cut_8 : decode cX10_cut 8 = .ok (.if_icmp .le 6, 3) := by decide +kernel
theorem dX10_cut_11 : decode cX10_cut 11 = .ok (.bipush (-2), 2) := by decide +kernel
theorem dX10_cut_13 : decode cX10_cut 13 = .ok (.ireturn, 1) := by decide +kernel
theorem dX10_cut_14 : decode cX10_cut 14 = .ok (.aload_n 0, 1) := by decide +kernel
theorem dX10_cut_15 : decode cX10_cut 15 = .ok (.getfield 42, 3) := by decide +kernel
theorem dX10_cut_18 : decode cX10_cut 18 = .ok (.iload_n 1, 1) := by decide +kernel
theorem dX10_cut_19 : decode cX10_cut 19 = .ok (.invokevirtual 253, 3) := by decide +kernel
theorem dX10_cut_22 : decode cX10_cut 22 = .ok (.ifCond .eq 13, 3) := by decide +kernel
theorem dX10_cut_25 : decode cX10_cut 25 = .ok (.aload_n 0, 1) := by decide +kernel
theorem dX10_cut_26 : decode cX10_cut 26 = .ok (.getfield 42, 3) := by decide +kernel
theorem dX10_cut_29 : decode cX10_cut 29 = .ok (.getfield 256, 3) := by decide +kernel
theorem dX10_cut_32 : decode cX10_cut 32 = .ok (.goto 5, 3) := by decide +kernel
theorem dX10_cut_35 : decode cX10_cut 35 = .ok (.bipush (-4), 2) := by decide +kernel
theorem dX10_cut_37 : decode cX10_cut 37 = .ok (.ireturn, 1) := by decide +kernel
theorem dX10_bin_0 : decode cX10_bin 0 = .ok (.iload_n 1, 1) := by decide +kernel
theorem dX10_bin_1 : decode cX10_bin 1 = .ok (.invokestatic 114, 3) := by decide +kernel
theorem dX10_bin_4 : decode cX10_bin 4 = .ok (.ifCond .eq 14, 3) := by decide +kernel
theorem dX10_bin_7 : decode cX10_bin 7 = .ok (.aload_n 0, 1) := by decide +kernel
theorem dX10_bin_8 : decode cX10_bin 8 = .ok (.getfield 42, 3) := by decide +kernel
theorem dX10_bin_11 : decode cX10_bin 11 = .ok (.iload_n 2, 1) := by decide +kernel
theorem dX10_bin_12 : decode cX10_bin 12 = .ok (.invokevirtual 259, 3) := by decide +kernel
theorem dX10_bin_15 : decode cX10_bin 15 = .ok (.ifCond .ne 5, 3) := by decide +kernel
theorem dX10_bin_18 : decode cX10_bin 18 = .ok (.iconst (-1), 1) := by decide +kernel
theorem dX10_bin_19 : decode cX10_bin 19 = .ok (.ireturn, 1) := by decide +kernel
theorem dX10_bin_20 : decode cX10_bin 20 = .ok (.iload_n 3, 1) := by decide +kernel
theorem dX10_bin_21 : decode cX10_bin 21 = .ok (.ifCond .lt 8, 3) := by decide +kernel
theorem dX10_bin_24 : decode cX10_bin 24 = .ok (.iload_n 3, 1) := by decide +kernel
theorem dX10_bin_25 : decode cX10_bin 25 = .ok (.iconst 4, 1) := by decide +kernel
theorem dX10_bin_26 : decode cX10_bin 26 = .ok (.if_icmp .le 6, 3) := by decide +kernel
theorem dX10_bin_29 : decode cX10_bin 29 = .ok (.bipush (-2), 2) := by decide +kernel
theorem dX10_bin_31 : decode cX10_bin 31 = .ok (.ireturn, 1) := by decide +kernel
theorem dX10_bin_32 : decode cX10_bin 32 = .ok (.iload_n 3, 1) := by decide +kernel
theorem dX10_bin_33 : decode cX10_bin 33 = .ok (.iconst 3, 1) := by decide +kernel
theorem dX10_bin_34 : decode cX10_bin 34 = .ok (.if_icmp .ne 12, 3) := by decide +kernel
theorem dX10_bin_37 : decode cX10_bin 37 = .ok (.aload_n 0, 1) := by decide +kernel
theorem dX10_bin_38 : decode cX10_bin 38 = .ok (.getfield 42, 3) := by decide +kernel
theorem dX10_bin_41 : decode cX10_bin 41 = .ok (.iload_n 2, 1) := by decide +kernel
theorem dX10_bin_42 : decode cX10_bin 42 = .ok (.invokevirtual 262, 3) := by decide +kernel
theorem dX10_bin_45 : decode cX10_bin 45 = .ok (.ireturn, 1) := by decide +kernel
theorem dX10_bin_46 : decode cX10_bin 46 = .ok (.iload_n 3, 1) := by decide +kernel
theorem dX10_bin_47 : decode cX10_bin 47 = .ok (.iconst 4, 1) := by decide +kernel
theorem dX10_bin_48 : decode cX10_bin 48 = .ok (.if_icmp .ne 12, 3) := by decide +kernel
theorem dX10_bin_51 : decode cX10_bin 51 = .ok (.aload_n 0, 1) := by decide +kernel
theorem dX10_bin_52 : decode cX10_bin 52 = .ok (.getfield 42, 3) := by decide +kernel
theorem dX10_bin_55 : decode cX10_bin 55 = .ok (.iload_n 2, 1) := by decide +kernel
theorem dX10_bin_56 : decode cX10_bin 56 = .ok (.invokevirtual 265, 3) := by decide +kernel
theorem dX10_bin_59 : decode cX10_bin 59 = .ok (.ireturn, 1) := by decide +kernel
theorem dX10_bin_60 : decode cX10_bin 60 = .ok (.aload_n 0, 1) := by decide +kernel
theorem dX10_bin_61 : decode cX10_bin 61 = .ok (.getfield 35, 3) := by decide +kernel
theorem dX10_bin_64 : decode cX10_bin 64 = .ok (.aload_n 0, 1) := by decide +kernel
theorem dX10_bin_65 : decode cX10_bin 65 = .ok (.getfield 12, 3) := by decide +kernel
theorem dX10_bin_68 : decode cX10_bin 68 = .ok (.iload_n 1, 1) := by decide +kernel
theorem dX10_bin_69 : decode cX10_bin 69 = .ok (.invokevirtual 226, 3) := by decide +kernel
theorem dX10_bin_72 : decode cX10_bin 72 = .ok (.aload_n 0, 1) := by decide +kernel
theorem dX10_bin_73 : decode cX10_bin 73 = .ok (.getfield 42, 3) := by decide +kernel
theorem dX10_bin_76 : decode cX10_bin 76 = .ok (.aload_n 0, 1) := by decide +kernel
theorem dX10_bin_77 : decode cX10_bin 77 = .ok (.getfield 35, 3) := by decide +kernel
theorem dX10_bin_80 : decode cX10_bin 80 = .ok (.invokevirtual 268, 3) := by decide +kernel
theorem dX10_bin_83 : decode cX10_bin 83 = .ok (.iload_n 3, 1) := by decide +kernel
theorem dX10_bin_84 : decode cX10_bin 84 = .ok (.ifCond .ne 13, 3) := by decide +kernel
theorem dX10_bin_87 : decode cX10_bin 87 = .ok (.aload_n 0, 1) := by decide +kernel
theorem dX10_bin_88 : decode cX10_bin 88 = .ok (.getfield 42, 3) := by decide +kernel
theorem dX10_bin_91 : decode cX10_bin 91 = .ok (.getfield 272, 3) := by decide +kernel
theorem dX10_bin_94 : decode cX10_bin 94 = .ok (.iload_n 2, 1) := by decide +kernel
theorem dX10_bin_95 : decode cX10_bin 95 = .ok (.iaload, 1) := by decide +kernel
theorem dX10_bin_96 : decode cX10_bin 96 = .ok (.ireturn, 1) := by decide +kernel
theorem dX10_bin_97 : decode cX10_bin 97 = .ok (.iload_n 3, 1) := by decide +kernel
theorem dX10_bin_98 : decode cX10_bin 98 = .ok (.iconst 1, 1) := by decide +kernel
theorem dX10_bin_99 : decode cX10_bin 99 = .ok (.if_icmp .ne 15, 3) := by decide +kernel
theorem dX10_bin_102 : decode cX10_bin 102 = .ok (.aload_n 0, 1) := by decide +kernel
theorem dX10_bin_103 : decode cX10_bin 103 = .ok (.getfield 42, 3) := by decide +kernel
theorem dX10_bin_106 : decode cX10_bin 106 = .ok (.getfield 275, 3) := by decide +kernel
theorem dX10_bin_109 : decode cX10_bin 109 = .ok (.iload_n 2, 1) := by decide +kernel
theorem dX10_bin_110 : decode cX10_bin 110 = .ok (.iaload, 1) := by decide +kernel
theorem dX10_bin_111 : decode cX10_bin 111 = .ok (.goto 12, 3) := by decide +kernel
theorem dX10_bin_114 : decode cX10_bin 114 = .ok (.aload_n 0, 1) := by decide +kernel
theorem dX10_bin_115 : decode cX10_bin 115 = .ok (.getfield 42, 3) := by decide +kernel
theorem dX10_bin_118 : decode cX10_bin 118 = .ok (.getfield 278, 3) := by decide +kernel
theorem dX10_bin_121 : decode cX10_bin 121 = .ok (.iload_n 2, 1) := by decide +kernel
theorem dX10_bin_122 : decode cX10_bin 122 = .ok (.iaload, 1) := by decide +kernel
theorem dX10_bin_123 : decode cX10_bin 123 = .ok (.ireturn, 1) := by decide +kernel
theorem dX10_sortCases_0 : decode cX10_sortCases 0 = .ok (.aload_n 0, 1) := by decide +kernel
theorem dX10_sortCases_1 : decode cX10_sortCases 1 = .ok (.getfield 35, 3) := by decide +kernel
theorem dX10_sortCases_4 : decode cX10_sortCases 4 = .ok (.aload_n 0, 1) := by decide +kernel
theorem dX10_sortCases_5 : decode cX10_sortCases 5 = .ok (.getfield 12, 3) := by decide +kernel
theorem dX10_sortCases_8 : decode cX10_sortCases 8 = .ok (.iload_n 1, 1) := by decide +kernel
theorem dX10_sortCases_9 : decode cX10_sortCases 9 = .ok (.invokevirtual 226, 3) := by decide +kernel
theorem dX10_sortCases_12 : decode cX10_sortCases 12 = .ok (.aload_n 0, 1) := by decide +kernel
theorem dX10_sortCases_13 : decode cX10_sortCases 13 = .ok (.getfield 35, 3) := by decide +kernel
theorem dX10_sortCases_16 : decode cX10_sortCases 16 = .ok (.getfield 230, 3) := by decide +kernel
theorem dX10_sortCases_19 : decode cX10_sortCases 19 = .ok (.ifCond .ne 5, 3) := by decide +kernel
theorem dX10_sortCases_22 : decode cX10_sortCases 22 = .ok (.iconst 0, 1) := by decide +kernel
theorem dX10_sortCases_23 : decode cX10_sortCases 23 = .ok (.ireturn, 1) := by decide +kernel
theorem dX10_sortCases_24 : decode cX10_sortCases 24 = .ok (.aload_n 0, 1) := by decide +kernel
theorem dX10_sortCases_25 : decode cX10_sortCases 25 = .ok (.getfield 42, 3) := by decide +kernel
theorem dX10_sortCases_28 : decode cX10_sortCases 28 = .ok (.aload_n 0, 1) := by decide +kernel
theorem dX10_sortCases_29 : decode cX10_sortCases 29 = .ok (.getfield 35, 3) := by decide +kernel
theorem dX10_sortCases_32 : decode cX10_sortCases 32 = .ok (.invokevirtual 268, 3) := by decide +kernel
theorem dX10_sortCases_35 : decode cX10_sortCases 35 = .ok (.iconst 1, 1) := by decide +kernel
theorem dX10_sortCases_36 : decode cX10_sortCases 36 = .ok (.ireturn, 1) := by decide +kernel
theorem dX10_joinParts_0 : decode cX10_joinParts 0 = .ok (.aload_n 0, 1) := by decide +kernel
theorem dX10_joinParts_1 : decode cX10_joinParts 1 = .ok (.getfield 56, 3) := by decide +kernel
theorem dX10_joinParts_4 : decode cX10_joinParts 4 = .ok (.lconst 0, 1) := by decide +kernel
theorem dX10_joinParts_5 : decode cX10_joinParts 5 = .ok (.lconst 1, 1) := by decide +kernel
theorem dX10_joinParts_6 : decode cX10_joinParts 6 = .ok (.invokevirtual 246, 3) := by decide +kernel
theorem dX10_joinParts_9 : decode cX10_joinParts 9 = .ok (.iconst 0, 1) := by decide +kernel
theorem dX10_joinParts_10 : decode cX10_joinParts 10 = .ok (.istore_n 1, 1) := by decide +kernel
theorem dX10_joinParts_11 : decode cX10_joinParts 11 = .ok (.iload_n 1, 1) := by decide +kernel
theorem dX10_joinParts_12 : decode cX10_joinParts 12 = .ok (.iconst 5, 1) := by decide +kernel
theorem dX10_joinParts_13 : decode cX10_joinParts 13 = .ok (.if_icmp .ge 77, 3) := by decide +kernel
theorem dX10_joinParts_16 : decode cX10_joinParts 16 = .ok (.aload_n 0, 1) := by decide +kernel
theorem dX10_joinParts_17 : decode cX10_joinParts 17 = .ok (.getfield 42, 3) := by decide +kernel
theorem dX10_joinParts_20 : decode cX10_joinParts 20 = .ok (.iload_n 1, 1) := by decide +kernel
theorem dX10_joinParts_21 : decode cX10_joinParts 21 = .ok (.aload_n 0, 1) := by decide +kernel
theorem dX10_joinParts_22 : decode cX10_joinParts 22 = .ok (.getfield 35, 3) := by decide +kernel
theorem dX10_joinParts_25 : decode cX10_joinParts 25 = .ok (.aload_n 0, 1) := by decide +kernel
theorem dX10_joinParts_26 : decode cX10_joinParts 26 = .ok (.getfield 60, 3) := by decide +kernel
theorem dX10_joinParts_29 : decode cX10_joinParts 29 = .ok (.invokevirtual 287, 3) := by decide +kernel
theorem dX10_joinParts_32 : decode cX10_joinParts 32 = .ok (.iload_n 1, 1) := by decide +kernel
theorem dX10_joinParts_33 : decode cX10_joinParts 33 = .ok (.iconst 1, 1) := by decide +kernel
theorem dX10_joinParts_34 : decode cX10_joinParts 34 = .ok (.if_icmp .eq 8, 3) := by decide +kernel
theorem dX10_joinParts_37 : decode cX10_joinParts 37 = .ok (.iload_n 1, 1) := by decide +kernel
theorem dX10_joinParts_38 : decode cX10_joinParts 38 = .ok (.iconst 4, 1) := by decide +kernel
theorem dX10_joinParts_39 : decode cX10_joinParts 39 = .ok (.if_icmp .ne 7, 3) := by decide +kernel
theorem dX10_joinParts_42 : decode cX10_joinParts 42 = .ok (.iconst 1, 1) := by decide +kernel
theorem dX10_joinParts_43 : decode cX10_joinParts 43 = .ok (.goto 4, 3) := by decide +kernel
theorem dX10_joinParts_46 : decode cX10_joinParts 46 = .ok (.iconst 0, 1) := by decide +kernel
theorem dX10_joinParts_47 : decode cX10_joinParts 47 = .ok (.istore_n 2, 1) := by decide +kernel
theorem dX10_joinParts_48 : decode cX10_joinParts 48 = .ok (.aload_n 0, 1) := by decide +kernel
theorem dX10_joinParts_49 : decode cX10_joinParts 49 = .ok (.getfield 56, 3) := by decide +kernel
theorem dX10_joinParts_52 : decode cX10_joinParts 52 = .ok (.iload_n 2, 1) := by decide +kernel
theorem dX10_joinParts_53 : decode cX10_joinParts 53 = .ok (.ifCond .eq 14, 3) := by decide +kernel
theorem dX10_joinParts_56 : decode cX10_joinParts 56 = .ok (.aload_n 0, 1) := by decide +kernel
theorem dX10_joinParts_57 : decode cX10_joinParts 57 = .ok (.getfield 60, 3) := by decide +kernel
theorem dX10_joinParts_60 : decode cX10_joinParts 60 = .ok (.getfield 322, 3) := by decide +kernel
theorem dX10_joinParts_63 : decode cX10_joinParts 63 = .ok (.lneg, 1) := by decide +kernel
theorem dX10_joinParts_64 : decode cX10_joinParts 64 = .ok (.goto 10, 3) := by decide +kernel
theorem dX10_joinParts_67 : decode cX10_joinParts 67 = .ok (.aload_n 0, 1) := by decide +kernel
theorem dX10_joinParts_68 : decode cX10_joinParts 68 = .ok (.getfield 60, 3) := by decide +kernel
theorem dX10_joinParts_71 : decode cX10_joinParts 71 = .ok (.getfield 322, 3) := by decide +kernel
theorem dX10_joinParts_74 : decode cX10_joinParts 74 = .ok (.aload_n 0, 1) := by decide +kernel
theorem dX10_joinParts_75 : decode cX10_joinParts 75 = .ok (.getfield 60, 3) := by decide +kernel
theorem dX10_joinParts_78 : decode cX10_joinParts 78 = .ok (.getfield 326, 3) := by decide +kernel
theorem dX10_joinParts_81 : decode cX10_joinParts 81 = .ok (.invokevirtual 329, 3) := by decide +kernel
theorem dX10_joinParts_84 : decode cX10_joinParts 84 = .ok (.iinc 1 1, 3) := by decide +kernel
theorem dX10_joinParts_87 : decode cX10_joinParts 87 = .ok (.goto (-76), 3) := by decide +kernel
theorem dX10_joinParts_90 : decode cX10_joinParts 90 = .ok (.return_, 1) := by decide +kernel
theorem dX10_split_0 : decode cX10_split 0 = .ok (.iload_n 1, 1) := by decide +kernel
theorem dX10_split_1 : decode cX10_split 1 = .ok (.invokestatic 114, 3) := by decide +kernel
theorem dX10_split_4 : decode cX10_split 4 = .ok (.ifCond .eq 27, 3) := by decide +kernel
theorem dX10_split_7 : decode cX10_split 7 = .ok (.iload_n 2, 1) := by decide +kernel
theorem dX10_split_8 : decode cX10_split 8 = .ok (.ifCond .lt 23, 3) := by decide +kernel
theorem dX10_split_11 : decode cX10_split 11 = .ok (.iload_n 2, 1) := by decide +kernel
theorem dX10_split_12 : decode cX10_split 12 = .ok (.iconst 5, 1) := by decide +kernel
theorem dX10_split_13 : decode cX10_split 13 = .ok (.if_icmp .gt 18, 3) := by decide +kernel
theorem dX10_split_16 : decode cX10_split 16 = .ok (.iload_n 3, 1) := by decide +kernel
theorem dX10_split_17 : decode cX10_split 17 = .ok (.invokestatic 214, 3) := by decide +kernel
theorem dX10_split_20 : decode cX10_split 20 = .ok (.ifCond .eq 11, 3) := by decide +kernel
theorem dX10_split_23 : decode cX10_split 23 = .ok (.aload_n 0, 1) := by decide +kernel
theorem dX10_split_24 : decode cX10_split 24 = .ok (.iload_n 1, 1) := by decide +kernel
theorem dX10_split_25 : decode cX10_split 25 = .ok (.invokevirtual 281, 3) := by decide +kernel
theorem dX10_split_28 : decode cX10_split 28 = .ok (.ifCond .ne 7, 3) := by decide +kernel
theorem dX10_split_31 : decode cX10_split 31 = .ok (.ldc2_w 220, 3) := by decide +kernel
theorem dX10_split_34 : decode cX10_split 34 = .ok (.lreturn, 1) := by decide +kernel
theorem dX10_split_35 : decode cX10_split 35 = .ok (.iload_n 2, 1) := by decide +kernel
theorem dX10_split_36 : decode cX10_split 36 = .ok (.iconst 5, 1) := by decide +kernel
theorem dX10_split_37 : decode cX10_split 37 = .ok (.if_icmp .ne 10, 3) := by decide +kernel
theorem dX10_split_40 : decode cX10_split 40 = .ok (.aload_n 0, 1) := by decide +kernel
theorem dX10_split_41 : decode cX10_split 41 = .ok (.invokevirtual 284, 3) := by decide +kernel
theorem dX10_split_44 : decode cX10_split 44 = .ok (.goto 19, 3) := by decide +kernel
theorem dX10_split_47 : decode cX10_split 47 = .ok (.aload_n 0, 1) := by decide +kernel
theorem dX10_split_48 : decode cX10_split 48 = .ok (.getfield 42, 3) := by decide +kernel
theorem dX10_split_51 : decode cX10_split 51 = .ok (.iload_n 2, 1) := by decide +kernel
theorem dX10_split_52 : decode cX10_split 52 = .ok (.aload_n 0, 1) := by decide +kernel
theorem dX10_split_53 : decode cX10_split 53 = .ok (.getfield 35, 3) := by decide +kernel
theorem dX10_split_56 : decode cX10_split 56 = .ok (.aload_n 0, 1) := by decide +kernel
theorem dX10_split_57 : decode cX10_split 57 = .ok (.getfield 56, 3) := by decide +kernel
theorem dX10_split_60 : decode cX10_split 60 = .ok (.invokevirtual 287, 3) := by decide +kernel
theorem dX10_split_63 : decode cX10_split 63 = .ok (.aload_n 0, 1) := by decide +kernel
theorem dX10_split_64 : decode cX10_split 64 = .ok (.getfield 56, 3) := by decide +kernel
theorem dX10_split_67 : decode cX10_split 67 = .ok (.iload_n 3, 1) := by decide +kernel
theorem dX10_split_68 : decode cX10_split 68 = .ok (.invokevirtual 222, 3) := by decide +kernel
theorem dX10_split_71 : decode cX10_split 71 = .ok (.lreturn, 1) := by decide +kernel
theorem dX10_joined_0 : decode cX10_joined 0 = .ok (.iload_n 1, 1) := by decide +kernel
theorem dX10_joined_1 : decode cX10_joined 1 = .ok (.invokestatic 114, 3) := by decide +kernel
theorem dX10_joined_4 : decode cX10_joined 4 = .ok (.ifCond .eq 40, 3) := by decide +kernel
theorem dX10_joined_7 : decode cX10_joined 7 = .ok (.aload_n 0, 1) := by decide +kernel
theorem dX10_joined_8 : decode cX10_joined 8 = .ok (.getfield 42, 3) := by decide +kernel
theorem dX10_joined_11 : decode cX10_joined 11 = .ok (.iload_n 2, 1) := by decide +kernel
theorem dX10_joined_12 : decode cX10_joined 12 = .ok (.invokevirtual 259, 3) := by decide +kernel
theorem dX10_joined_15 : decode cX10_joined 15 = .ok (.ifCond .eq 29, 3) := by decide +kernel
theorem dX10_joined_18 : decode cX10_joined 18 = .ok (.iload_n 2, 1) := by decide +kernel
theorem dX10_joined_19 : decode cX10_joined 19 = .ok (.aload_n 0, 1) := by decide +kernel
theorem dX10_joined_20 : decode cX10_joined 20 = .ok (.getfield 42, 3) := by decide +kernel
theorem dX10_joined_23 : decode cX10_joined 23 = .ok (.getfield 256, 3) := by decide +kernel
theorem dX10_joined_26 : decode cX10_joined 26 = .ok (.if_icmp .eq 18, 3) := by decide +kernel
theorem dX10_joined_29 : decode cX10_joined 29 = .ok (.iload_n 3, 1) := by decide +kernel
theorem dX10_joined_30 : decode cX10_joined 30 = .ok (.invokestatic 214, 3) := by decide +kernel
theorem dX10_joined_33 : decode cX10_joined 33 = .ok (.ifCond .eq 11, 3) := by decide +kernel
theorem dX10_joined_36 : decode cX10_joined 36 = .ok (.aload_n 0, 1) := by decide +kernel
theorem dX10_joined_37 : decode cX10_joined 37 = .ok (.iload_n 1, 1) := by decide +kernel
theorem dX10_joined_38 : decode cX10_joined 38 = .ok (.invokevirtual 281, 3) := by decide +kernel
theorem dX10_joined_41 : decode cX10_joined 41 = .ok (.ifCond .ne 7, 3) := by decide +kernel
theorem dX10_joined_44 : decode cX10_joined 44 = .ok (.ldc2_w 220, 3) := by decide +kernel
theorem dX10_joined_47 : decode cX10_joined 47 = .ok (.lreturn, 1) := by decide +kernel
theorem dX10_joined_48 : decode cX10_joined 48 = .ok (.aload_n 0, 1) := by decide +kernel
theorem dX10_joined_49 : decode cX10_joined 49 = .ok (.getfield 42, 3) := by decide +kernel
theorem dX10_joined_52 : decode cX10_joined 52 = .ok (.iload_n 2, 1) := by decide +kernel
theorem dX10_joined_53 : decode cX10_joined 53 = .ok (.aload_n 0, 1) := by decide +kernel
theorem dX10_joined_54 : decode cX10_joined 54 = .ok (.getfield 35, 3) := by decide +kernel
theorem dX10_joined_57 : decode cX10_joined 57 = .ok (.aload_n 0, 1) := by decide +kernel
theorem dX10_joined_58 : decode cX10_joined 58 = .ok (.getfield 56, 3) := by decide +kernel
theorem dX10_joined_61 : decode cX10_joined 61 = .ok (.invokevirtual 291, 3) := by decide +kernel
theorem dX10_joined_64 : decode cX10_joined 64 = .ok (.aload_n 0, 1) := by decide +kernel
theorem dX10_joined_65 : decode cX10_joined 65 = .ok (.getfield 56, 3) := by decide +kernel
theorem dX10_joined_68 : decode cX10_joined 68 = .ok (.iload_n 3, 1) := by decide +kernel
theorem dX10_joined_69 : decode cX10_joined 69 = .ok (.invokevirtual 222, 3) := by decide +kernel
theorem dX10_joined_72 : decode cX10_joined 72 = .ok (.lreturn, 1) := by decide +kernel
theorem dX10_area_0 : decode cX10_area 0 = .ok (.iload_n 1, 1) := by decide +kernel
theorem dX10_area_1 : decode cX10_area 1 = .ok (.invokestatic 114, 3) := by decide +kernel
theorem dX10_area_4 : decode cX10_area 4 = .ok (.ifCond .eq 10, 3) := by decide +kernel
theorem dX10_area_7 : decode cX10_area 7 = .ok (.iload_n 2, 1) := by decide +kernel
theorem dX10_area_8 : decode cX10_area 8 = .ok (.invokestatic 214, 3) := by decide +kernel
theorem dX10_area_11 : decode cX10_area 11 = .ok (.ifCond .ne 7, 3) := by decide +kernel
theorem dX10_area_14 : decode cX10_area 14 = .ok (.ldc2_w 220, 3) := by decide +kernel
theorem dX10_area_17 : decode cX10_area 17 = .ok (.lreturn, 1) := by decide +kernel
theorem dX10_area_18 : decode cX10_area 18 = .ok (.aload_n 0, 1) := by decide +kernel
theorem dX10_area_19 : decode cX10_area 19 = .ok (.getfield 35, 3) := by decide +kernel
theorem dX10_area_22 : decode cX10_area 22 = .ok (.aload_n 0, 1) := by decide +kernel
theorem dX10_area_23 : decode cX10_area 23 = .ok (.getfield 12, 3) := by decide +kernel
theorem dX10_area_26 : decode cX10_area 26 = .ok (.iload_n 1, 1) := by decide +kernel
theorem dX10_area_27 : decode cX10_area 27 = .ok (.invokevirtual 226, 3) := by decide +kernel
theorem dX10_area_30 : decode cX10_area 30 = .ok (.aload_n 0, 1) := by decide +kernel
theorem dX10_area_31 : decode cX10_area 31 = .ok (.getfield 35, 3) := by decide +kernel
theorem dX10_area_34 : decode cX10_area 34 = .ok (.getfield 230, 3) := by decide +kernel
theorem dX10_area_37 : decode cX10_area 37 = .ok (.aload_n 0, 1) := by decide +kernel
theorem dX10_area_38 : decode cX10_area 38 = .ok (.getfield 35, 3) := by decide +kernel
theorem dX10_area_41 : decode cX10_area 41 = .ok (.getfield 294, 3) := by decide +kernel
theorem dX10_area_44 : decode cX10_area 44 = .ok (.isub, 1) := by decide +kernel
theorem dX10_area_45 : decode cX10_area 45 = .ok (.istore_n 3, 1) := by decide +kernel
theorem dX10_area_46 : decode cX10_area 46 = .ok (.aload_n 0, 1) := by decide +kernel
theorem dX10_area_47 : decode cX10_area 47 = .ok (.getfield 35, 3) := by decide +kernel
theorem dX10_area_50 : decode cX10_area 50 = .ok (.getfield 294, 3) := by decide +kernel
theorem dX10_area_53 : decode cX10_area 53 = .ok (.ifCond .eq 7, 3) := by decide +kernel
theorem dX10_area_56 : decode cX10_area 56 = .ok (.iload_n 3, 1) := by decide +kernel
theorem dX10_area_57 : decode cX10_area 57 = .ok (.ifCond .ne 7, 3) := by decide +kernel
theorem dX10_area_60 : decode cX10_area 60 = .ok (.ldc2_w 220, 3) := by decide +kernel
theorem dX10_area_63 : decode cX10_area 63 = .ok (.lreturn, 1) := by decide +kernel
theorem dX10_area_64 : decode cX10_area 64 = .ok (.aload_n 0, 1) := by decide +kernel
theorem dX10_area_65 : decode cX10_area 65 = .ok (.getfield 56, 3) := by decide +kernel
theorem dX10_area_68 : decode cX10_area 68 = .ok (.aload_n 0, 1) := by decide +kernel
theorem dX10_area_69 : decode cX10_area 69 = .ok (.getfield 35, 3) := by decide +kernel
theorem dX10_area_72 : decode cX10_area 72 = .ok (.invokevirtual 297, 3) := by decide +kernel
theorem dX10_area_75 : decode cX10_area 75 = .ok (.ldc2_w 301, 3) := by decide +kernel
theorem dX10_area_78 : decode cX10_area 78 = .ok (.aload_n 0, 1) := by decide +kernel
theorem dX10_area_79 : decode cX10_area 79 = .ok (.getfield 35, 3) := by decide +kernel
theorem dX10_area_82 : decode cX10_area 82 = .ok (.getfield 294, 3) := by decide +kernel
theorem dX10_area_85 : decode cX10_area 85 = .ok (.i2l, 1) := by decide +kernel
theorem dX10_area_86 : decode cX10_area 86 = .ok (.lmul, 1) := by decide +kernel
theorem dX10_area_87 : decode cX10_area 87 = .ok (.iload_n 3, 1) := by decide +kernel
theorem dX10_area_88 : decode cX10_area 88 = .ok (.i2l, 1) := by decide +kernel
theorem dX10_area_89 : decode cX10_area 89 = .ok (.lmul, 1) := by decide +kernel
theorem dX10_area_90 : decode cX10_area 90 = .ok (.invokevirtual 246, 3) := by decide +kernel
theorem dX10_area_93 : decode cX10_area 93 = .ok (.aload_n 0, 1) := by decide +kernel
theorem dX10_area_94 : decode cX10_area 94 = .ok (.getfield 56, 3) := by decide +kernel
theorem dX10_area_97 : decode cX10_area 97 = .ok (.iload_n 2, 1) := by decide +kernel
theorem dX10_area_98 : decode cX10_area 98 = .ok (.invokevirtual 222, 3) := by decide +kernel
theorem dX10_area_101 : decode cX10_area 101 = .ok (.lreturn, 1) := by decide +kernel
theorem dX10_pools_0 : decode cX10_pools 0 = .ok (.iload_n 1, 1) := by decide +kernel
theorem dX10_pools_1 : decode cX10_pools 1 = .ok (.invokestatic 114, 3) := by decide +kernel
theorem dX10_pools_4 : decode cX10_pools 4 = .ok (.ifCond .ne 5, 3) := by decide +kernel
theorem dX10_pools_7 : decode cX10_pools 7 = .ok (.iconst (-1), 1) := by decide +kernel
theorem dX10_pools_8 : decode cX10_pools 8 = .ok (.ireturn, 1) := by decide +kernel
theorem dX10_pools_9 : decode cX10_pools 9 = .ok (.aload_n 0, 1) := by decide +kernel
theorem dX10_pools_10 : decode cX10_pools 10 = .ok (.getfield 35, 3) := by decide +kernel
theorem dX10_pools_13 : decode cX10_pools 13 = .ok (.aload_n 0, 1) := by decide +kernel
theorem dX10_pools_14 : decode cX10_pools 14 = .ok (.getfield 12, 3) := by decide +kernel
theorem dX10_pools_17 : decode cX10_pools 17 = .ok (.iload_n 1, 1) := by decide +kernel
theorem dX10_pools_18 : decode cX10_pools 18 = .ok (.invokevirtual 226, 3) := by decide +kernel
theorem dX10_pools_21 : decode cX10_pools 21 = .ok (.aload_n 0, 1) := by decide +kernel
theorem dX10_pools_22 : decode cX10_pools 22 = .ok (.getfield 49, 3) := by decide +kernel
theorem dX10_pools_25 : decode cX10_pools 25 = .ok (.aload_n 0, 1) := by decide +kernel
theorem dX10_pools_26 : decode cX10_pools 26 = .ok (.getfield 35, 3) := by decide +kernel
theorem dX10_pools_29 : decode cX10_pools 29 = .ok (.invokevirtual 303, 3) := by decide +kernel
theorem dX10_pools_32 : decode cX10_pools 32 = .ok (.aload_n 0, 1) := by decide +kernel
theorem dX10_pools_33 : decode cX10_pools 33 = .ok (.getfield 49, 3) := by decide +kernel
theorem dX10_pools_36 : decode cX10_pools 36 = .ok (.getfield 306, 3) := by decide +kernel
theorem dX10_pools_39 : decode cX10_pools 39 = .ok (.ireturn, 1) := by decide +kernel
theorem dX10_pool_0 : decode cX10_pool 0 = .ok (.iload_n 1, 1) := by decide +kernel
theorem dX10_pool_1 : decode cX10_pool 1 = .ok (.invokestatic 114, 3) := by decide +kernel
theorem dX10_pool_4 : decode cX10_pool 4 = .ok (.ifCond .ne 5, 3) := by decide +kernel
theorem dX10_pool_7 : decode cX10_pool 7 = .ok (.iconst (-1), 1) := by decide +kernel
theorem dX10_pool_8 : decode cX10_pool 8 = .ok (.ireturn, 1) := by decide +kernel
theorem dX10_pool_9 : decode cX10_pool 9 = .ok (.aload_n 0, 1) := by decide +kernel
theorem dX10_pool_10 : decode cX10_pool 10 = .ok (.getfield 35, 3) := by decide +kernel
theorem dX10_pool_13 : decode cX10_pool 13 = .ok (.aload_n 0, 1) := by decide +kernel
theorem dX10_pool_14 : decode cX10_pool 14 = .ok (.getfield 12, 3) := by decide +kernel
theorem dX10_pool_17 : decode cX10_pool 17 = .ok (.iload_n 1, 1) := by decide +kernel
theorem dX10_pool_18 : decode cX10_pool 18 = .ok (.invokevirtual 226, 3) := by decide +kernel
theorem dX10_pool_21 : decode cX10_pool 21 = .ok (.aload_n 0, 1) := by decide +kernel
theorem dX10_pool_22 : decode cX10_pool 22 = .ok (.getfield 49, 3) := by decide +kernel
theorem dX10_pool_25 : decode cX10_pool 25 = .ok (.aload_n 0, 1) := by decide +kernel
theorem dX10_pool_26 : decode cX10_pool 26 = .ok (.getfield 35, 3) := by decide +kernel
theorem dX10_pool_29 : decode cX10_pool 29 = .ok (.invokevirtual 303, 3) := by decide +kernel
theorem dX10_pool_32 : decode cX10_pool 32 = .ok (.iload_n 2, 1) := by decide +kernel
theorem dX10_pool_33 : decode cX10_pool 33 = .ok (.ifCond .lt 14, 3) := by decide +kernel
theorem dX10_pool_36 : decode cX10_pool 36 = .ok (.iload_n 2, 1) := by decide +kernel
theorem dX10_pool_37 : decode cX10_pool 37 = .ok (.aload_n 0, 1) := by decide +kernel
theorem dX10_pool_38 : decode cX10_pool 38 = .ok (.getfield 49, 3) := by decide +kernel
theorem dX10_pool_41 : decode cX10_pool 41 = .ok (.getfield 306, 3) := by decide +kernel
theorem dX10_pool_44 : decode cX10_pool 44 = .ok (.if_icmp .lt 5, 3) := by decide +kernel
theorem dX10_pool_47 : decode cX10_pool 47 = .ok (.iconst (-1), 1) := by decide +kernel
theorem dX10_pool_48 : decode cX10_pool 48 = .ok (.ireturn, 1) := by decide +kernel
theorem dX10_pool_49 : decode cX10_pool 49 = .ok (.iload_n 3, 1) := by decide +kernel
theorem dX10_pool_50 : decode cX10_pool 50 = .ok (.ifCond .lt 8, 3) := by decide +kernel
theorem dX10_pool_53 : decode cX10_pool 53 = .ok (.iload_n 3, 1) := by decide +kernel
theorem dX10_pool_54 : decode cX10_pool 54 = .ok (.iconst 3, 1) := by decide +kernel
theorem dX10_pool_55 : decode cX10_pool 55 = .ok (.if_icmp .le 6, 3) := by decide +kernel
theorem dX10_pool_58 : decode cX10_pool 58 = .ok (.bipush (-2), 2) := by decide +kernel
theorem dX10_pool_60 : decode cX10_pool 60 = .ok (.ireturn, 1) := by decide +kernel
theorem dX10_pool_61 : decode cX10_pool 61 = .ok (.aload_n 0, 1) := by decide +kernel
theorem dX10_pool_62 : decode cX10_pool 62 = .ok (.getfield 49, 3) := by decide +kernel
theorem dX10_pool_65 : decode cX10_pool 65 = .ok (.iload_n 2, 1) := by decide +kernel
theorem dX10_pool_66 : decode cX10_pool 66 = .ok (.iload_n 3, 1) := by decide +kernel
theorem dX10_pool_67 : decode cX10_pool 67 = .ok (.invokevirtual 307, 3) := by decide +kernel
theorem dX10_pool_70 : decode cX10_pool 70 = .ok (.ireturn, 1) := by decide +kernel
theorem dX10_flat_0 : decode cX10_flat 0 = .ok (.iload_n 1, 1) := by decide +kernel
theorem dX10_flat_1 : decode cX10_flat 1 = .ok (.invokestatic 114, 3) := by decide +kernel
theorem dX10_flat_4 : decode cX10_flat 4 = .ok (.ifCond .eq 10, 3) := by decide +kernel
theorem dX10_flat_7 : decode cX10_flat 7 = .ok (.iload_n 2, 1) := by decide +kernel
theorem dX10_flat_8 : decode cX10_flat 8 = .ok (.invokestatic 214, 3) := by decide +kernel
theorem dX10_flat_11 : decode cX10_flat 11 = .ok (.ifCond .ne 7, 3) := by decide +kernel
theorem dX10_flat_14 : decode cX10_flat 14 = .ok (.ldc2_w 220, 3) := by decide +kernel
theorem dX10_flat_17 : decode cX10_flat 17 = .ok (.lreturn, 1) := by decide +kernel
theorem dX10_flat_18 : decode cX10_flat 18 = .ok (.aload_n 0, 1) := by decide +kernel
theorem dX10_flat_19 : decode cX10_flat 19 = .ok (.getfield 35, 3) := by decide +kernel
theorem dX10_flat_22 : decode cX10_flat 22 = .ok (.aload_n 0, 1) := by decide +kernel
theorem dX10_flat_23 : decode cX10_flat 23 = .ok (.getfield 12, 3) := by decide +kernel
theorem dX10_flat_26 : decode cX10_flat 26 = .ok (.iload_n 1, 1) := by decide +kernel
theorem dX10_flat_27 : decode cX10_flat 27 = .ok (.invokevirtual 226, 3) := by decide +kernel
theorem dX10_flat_30 : decode cX10_flat 30 = .ok (.aload_n 0, 1) := by decide +kernel
theorem dX10_flat_31 : decode cX10_flat 31 = .ok (.getfield 35, 3) := by decide +kernel
theorem dX10_flat_34 : decode cX10_flat 34 = .ok (.getfield 230, 3) := by decide +kernel
theorem dX10_flat_37 : decode cX10_flat 37 = .ok (.ifCond .ne 7, 3) := by decide +kernel
theorem dX10_flat_40 : decode cX10_flat 40 = .ok (.ldc2_w 220, 3) := by decide +kernel
theorem dX10_flat_43 : decode cX10_flat 43 = .ok (.lreturn, 1) := by decide +kernel
theorem dX10_flat_44 : decode cX10_flat 44 = .ok (.aload_n 0, 1) := by decide +kernel
theorem dX10_flat_45 : decode cX10_flat 45 = .ok (.getfield 49, 3) := by decide +kernel
theorem dX10_flat_48 : decode cX10_flat 48 = .ok (.aload_n 0, 1) := by decide +kernel
theorem dX10_flat_49 : decode cX10_flat 49 = .ok (.getfield 35, 3) := by decide +kernel
theorem dX10_flat_52 : decode cX10_flat 52 = .ok (.invokevirtual 303, 3) := by decide +kernel
theorem dX10_flat_55 : decode cX10_flat 55 = .ok (.aload_n 0, 1) := by decide +kernel
theorem dX10_flat_56 : decode cX10_flat 56 = .ok (.getfield 49, 3) := by decide +kernel
theorem dX10_flat_59 : decode cX10_flat 59 = .ok (.aload_n 0, 1) := by decide +kernel
theorem dX10_flat_60 : decode cX10_flat 60 = .ok (.getfield 35, 3) := by decide +kernel
theorem dX10_flat_63 : decode cX10_flat 63 = .ok (.getfield 230, 3) := by decide +kernel
theorem dX10_flat_66 : decode cX10_flat 66 = .ok (.aload_n 0, 1) := by decide +kernel
theorem dX10_flat_67 : decode cX10_flat 67 = .ok (.getfield 56, 3) := by decide +kernel
theorem dX10_flat_70 : decode cX10_flat 70 = .ok (.invokevirtual 310, 3) := by decide +kernel
theorem dX10_flat_73 : decode cX10_flat 73 = .ok (.aload_n 0, 1) := by decide +kernel
theorem dX10_flat_74 : decode cX10_flat 74 = .ok (.getfield 56, 3) := by decide +kernel
theorem dX10_flat_77 : decode cX10_flat 77 = .ok (.iload_n 2, 1) := by decide +kernel
theorem dX10_flat_78 : decode cX10_flat 78 = .ok (.invokevirtual 222, 3) := by decide +kernel
theorem dX10_flat_81 : decode cX10_flat 81 = .ok (.lreturn, 1) := by decide +kernel
theorem dX10_countWins_0 : decode cX10_countWins 0 = .ok (.aload_n 0, 1) := by decide +kernel
theorem dX10_countWins_1 : decode cX10_countWins 1 = .ok (.getfield 78, 3) := by decide +kernel
theorem dX10_countWins_4 : decode cX10_countWins 4 = .ok (.iconst 0, 1) := by decide +kernel
theorem dX10_countWins_5 : decode cX10_countWins 5 = .ok (.iconst 0, 1) := by decide +kernel
theorem dX10_countWins_6 : decode cX10_countWins 6 = .ok (.iastore, 1) := by decide +kernel
theorem dX10_countWins_7 : decode cX10_countWins 7 = .ok (.aload_n 0, 1) := by decide +kernel
theorem dX10_countWins_8 : decode cX10_countWins 8 = .ok (.getfield 78, 3) := by decide +kernel
theorem dX10_countWins_11 : decode cX10_countWins 11 = .ok (.iconst 1, 1) := by decide +kernel
theorem dX10_countWins_12 : decode cX10_countWins 12 = .ok (.iconst 0, 1) := by decide +kernel
theorem dX10_countWins_13 : decode cX10_countWins 13 = .ok (.iastore, 1) := by decide +kernel
theorem dX10_countWins_14 : decode cX10_countWins 14 = .ok (.aload_n 0, 1) := by decide +kernel
theorem dX10_countWins_15 : decode cX10_countWins 15 = .ok (.getfield 78, 3) := by decide +kernel
theorem dX10_countWins_18 : decode cX10_countWins 18 = .ok (.iconst 2, 1) := by decide +kernel
theorem dX10_countWins_19 : decode cX10_countWins 19 = .ok (.iconst 0, 1) := by decide +kernel
theorem dX10_countWins_20 : decode cX10_countWins 20 = .ok (.iastore, 1) := by decide +kernel
theorem dX10_countWins_21 : decode cX10_countWins 21 = .ok (.iconst 0, 1) := by decide +kernel
theorem dX10_countWins_22 : decode cX10_countWins 22 = .ok (.istore_n 3, 1) := by decide +kernel
theorem dX10_countWins_23 : decode cX10_countWins 23 = .ok (.iload_n 3, 1) := by decide +kernel
theorem dX10_countWins_24 : decode cX10_countWins 24 = .ok (.bipush 40, 2) := by decide +kernel
theorem dX10_countWins_26 : decode cX10_countWins 26 = .ok (.if_icmp .ge 129, 3) := by decide +kernel
theorem dX10_countWins_29 : decode cX10_countWins 29 = .ok (.aload_n 0, 1) := by decide +kernel
theorem dX10_countWins_30 : decode cX10_countWins 30 = .ok (.getfield 12, 3) := by decide +kernel
theorem dX10_countWins_33 : decode cX10_countWins 33 = .ok (.iload_n 1, 1) := by decide +kernel
theorem dX10_countWins_34 : decode cX10_countWins 34 = .ok (.iload_n 3, 1) := by decide +kernel
theorem dX10_countWins_35 : decode cX10_countWins 35 = .ok (.invokevirtual 332, 3) := by decide +kernel
theorem dX10_countWins_38 : decode cX10_countWins 38 = .ok (.ifCond .eq 111, 3) := by decide +kernel
theorem dX10_countWins_41 : decode cX10_countWins 41 = .ok (.aload_n 0, 1) := by decide +kernel
theorem dX10_countWins_42 : decode cX10_countWins 42 = .ok (.getfield 12, 3) := by decide +kernel
theorem dX10_countWins_45 : decode cX10_countWins 45 = .ok (.iload_n 2, 1) := by decide +kernel
theorem dX10_countWins_46 : decode cX10_countWins 46 = .ok (.iload_n 3, 1) := by decide +kernel
theorem dX10_countWins_47 : decode cX10_countWins 47 = .ok (.invokevirtual 332, 3) := by decide +kernel
theorem dX10_countWins_50 : decode cX10_countWins 50 = .ok (.ifCond .eq 99, 3) := by decide +kernel
theorem dX10_countWins_53 : decode cX10_countWins 53 = .ok (.aload_n 0, 1) := by decide +kernel
theorem dX10_countWins_54 : decode cX10_countWins 54 = .ok (.getfield 12, 3) := by decide +kernel
theorem dX10_countWins_57 : decode cX10_countWins 57 = .ok (.getfield 120, 3) := by decide +kernel
theorem dX10_countWins_60 : decode cX10_countWins 60 = .ok (.iload_n 3, 1) := by decide +kernel
theorem dX10_countWins_61 : decode cX10_countWins 61 = .ok (.iaload, 1) := by decide +kernel
theorem dX10_countWins_62 : decode cX10_countWins 62 = .ok (.iconst 1, 1) := by decide +kernel
theorem dX10_countWins_63 : decode cX10_countWins 63 = .ok (.if_icmp .ne 7, 3) := by decide +kernel
theorem dX10_countWins_66 : decode cX10_countWins 66 = .ok (.iconst 1, 1) := by decide +kernel
theorem dX10_countWins_67 : decode cX10_countWins 67 = .ok (.goto 4, 3) := by decide +kernel
theorem dX10_countWins_70 : decode cX10_countWins 70 = .ok (.iconst 0, 1) := by decide +kernel
theorem dX10_countWins_71 : decode cX10_countWins 71 = .ok (.istore 4, 2) := by decide +kernel
theorem dX10_countWins_73 : decode cX10_countWins 73 = .ok (.aload_n 0, 1) := by decide +kernel
theorem dX10_countWins_74 : decode cX10_countWins 74 = .ok (.getfield 90, 3) := by decide +kernel
theorem dX10_countWins_77 : decode cX10_countWins 77 = .ok (.aload_n 0, 1) := by decide +kernel
theorem dX10_countWins_78 : decode cX10_countWins 78 = .ok (.getfield 12, 3) := by decide +kernel
theorem dX10_countWins_81 : decode cX10_countWins 81 = .ok (.iload_n 1, 1) := by decide +kernel
theorem dX10_countWins_82 : decode cX10_countWins 82 = .ok (.iload_n 3, 1) := by decide +kernel
theorem dX10_countWins_83 : decode cX10_countWins 83 = .ok (.invokevirtual 117, 3) := by decide +kernel
theorem dX10_countWins_86 : decode cX10_countWins 86 = .ok (.iload 4, 2) := by decide +kernel
theorem dX10_countWins_88 : decode cX10_countWins 88 = .ok (.invokevirtual 210, 3) := by decide +kernel
theorem dX10_countWins_91 : decode cX10_countWins 91 = .ok (.istore 5, 2) := by decide +kernel
theorem dX10_countWins_93 : decode cX10_countWins 93 = .ok (.aload_n 0, 1) := by decide +kernel
theorem dX10_countWins_94 : decode cX10_countWins 94 = .ok (.getfield 90, 3) := by decide +kernel
theorem dX10_countWins_97 : decode cX10_countWins 97 = .ok (.aload_n 0, 1) := by decide +kernel
theorem dX10_countWins_98 : decode cX10_countWins 98 = .ok (.getfield 12, 3) := by decide +kernel
theorem dX10_countWins_101 : decode cX10_countWins 101 = .ok (.iload_n 2, 1) := by decide +kernel
theorem dX10_countWins_102 : decode cX10_countWins 102 = .ok (.iload_n 3, 1) := by decide +kernel
theorem dX10_countWins_103 : decode cX10_countWins 103 = .ok (.invokevirtual 117, 3) := by decide +kernel
theorem dX10_countWins_106 : decode cX10_countWins 106 = .ok (.iload 4, 2) := by decide +kernel
theorem dX10_countWins_108 : decode cX10_countWins 108 = .ok (.invokevirtual 210, 3) := by decide +kernel
theorem dX10_countWins_111 : decode cX10_countWins 111 = .ok (.istore 6, 2) := by decide +kernel
theorem dX10_countWins_113 : decode cX10_countWins 113 = .ok (.iload 5, 2) := by decide +kernel
theorem dX10_countWins_115 : decode cX10_countWins 115 = .ok (.iload 6, 2) := by decide +kernel
theorem dX10_countWins_117 : decode cX10_countWins 117 = .ok (.if_icmp .ge 7, 3) := by decide +kernel
theorem dX10_countWins_120 : decode cX10_countWins 120 = .ok (.iconst 0, 1) := by decide +kernel
theorem dX10_countWins_121 : decode cX10_countWins 121 = .ok (.goto 15, 3) := by decide +kernel
theorem dX10_countWins_124 : decode cX10_countWins 124 = .ok (.iload 5, 2) := by decide +kernel
theorem dX10_countWins_126 : decode cX10_countWins 126 = .ok (.iload 6, 2) := by decide +kernel
theorem dX10_countWins_128 : decode cX10_countWins 128 = .ok (.if_icmp .le 7, 3) := by decide +kernel
theorem dX10_countWins_131 : decode cX10_countWins 131 = .ok (.iconst 1, 1) := by decide +kernel
theorem dX10_countWins_132 : decode cX10_countWins 132 = .ok (.goto 4, 3) := by decide +kernel
theorem dX10_countWins_135 : decode cX10_countWins 135 = .ok (.iconst 2, 1) := by decide +kernel
theorem dX10_countWins_136 : decode cX10_countWins 136 = .ok (.istore 7, 2) := by decide +kernel
theorem dX10_countWins_138 : decode cX10_countWins 138 = .ok (.aload_n 0, 1) := by decide +kernel
theorem dX10_countWins_139 : decode cX10_countWins 139 = .ok (.getfield 78, 3) := by decide +kernel
theorem dX10_countWins_142 : decode cX10_countWins 142 = .ok (.iload 7, 2) := by decide +kernel
theorem dX10_countWins_144 : decode cX10_countWins 144 = .ok (.dup2, 1) := by decide +kernel
theorem dX10_countWins_145 : decode cX10_countWins 145 = .ok (.iaload, 1) := by decide +kernel
theorem dX10_countWins_146 : decode cX10_countWins 146 = .ok (.iconst 1, 1) := by decide +kernel
theorem dX10_countWins_147 : decode cX10_countWins 147 = .ok (.iadd, 1) := by decide +kernel
theorem dX10_countWins_148 : decode cX10_countWins 148 = .ok (.iastore, 1) := by decide +kernel
theorem dX10_countWins_149 : decode cX10_countWins 149 = .ok (.iinc 3 1, 3) := by decide +kernel
theorem dX10_countWins_152 : decode cX10_countWins 152 = .ok (.goto (-129), 3) := by decide +kernel
theorem dX10_countWins_155 : decode cX10_countWins 155 = .ok (.return_, 1) := by decide +kernel
theorem dX10_better_0 : decode cX10_better 0 = .ok (.iload_n 1, 1) := by decide +kernel
theorem dX10_better_1 : decode cX10_better 1 = .ok (.invokestatic 114, 3) := by decide +kernel
theorem dX10_better_4 : decode cX10_better 4 = .ok (.ifCond .eq 10, 3) := by decide +kernel
theorem dX10_better_7 : decode cX10_better 7 = .ok (.iload_n 2, 1) := by decide +kernel
theorem dX10_better_8 : decode cX10_better 8 = .ok (.invokestatic 114, 3) := by decide +kernel
theorem dX10_better_11 : decode cX10_better 11 = .ok (.ifCond .ne 5, 3) := by decide +kernel
theorem dX10_better_14 : decode cX10_better 14 = .ok (.iconst (-1), 1) := by decide +kernel
theorem dX10_better_15 : decode cX10_better 15 = .ok (.ireturn, 1) := by decide +kernel
theorem dX10_better_16 : decode cX10_better 16 = .ok (.iload_n 3, 1) := by decide +kernel
theorem dX10_better_17 : decode cX10_better 17 = .ok (.ifCond .lt 8, 3) := by decide +kernel
theorem dX10_better_20 : decode cX10_better 20 = .ok (.iload_n 3, 1) := by decide +kernel
theorem dX10_better_21 : decode cX10_better 21 = .ok (.iconst 3, 1) := by decide +kernel
theorem dX10_better_22 : decode cX10_better 22 = .ok (.if_icmp .le 6, 3) := by decide +kernel
theorem dX10_better_25 : decode cX10_better 25 = .ok (.bipush (-2), 2) := by decide +kernel
theorem dX10_better_27 : decode cX10_better 27 = .ok (.ireturn, 1) := by decide +kernel
theorem dX10_better_28 : decode cX10_better 28 = .ok (.aload_n 0, 1) := by decide +kernel
theorem dX10_better_29 : decode cX10_better 29 = .ok (.iload_n 1, 1) := by decide +kernel
theorem dX10_better_30 : decode cX10_better 30 = .ok (.iload_n 2, 1) := by decide +kernel
theorem dX10_better_31 : decode cX10_better 31 = .ok (.invokevirtual 314, 3) := by decide +kernel
theorem dX10_better_34 : decode cX10_better 34 = .ok (.iload_n 3, 1) := by decide +kernel
theorem dX10_better_35 : decode cX10_better 35 = .ok (.ifCond .ne 24, 3) := by decide +kernel
theorem dX10_better_38 : decode cX10_better 38 = .ok (.aload_n 0, 1) := by decide +kernel
theorem dX10_better_39 : decode cX10_better 39 = .ok (.getfield 78, 3) := by decide +kernel
theorem dX10_better_42 : decode cX10_better 42 = .ok (.iconst 0, 1) := by decide +kernel
theorem dX10_better_43 : decode cX10_better 43 = .ok (.iaload, 1) := by decide +kernel
theorem dX10_better_44 : decode cX10_better 44 = .ok (.aload_n 0, 1) := by decide +kernel
theorem dX10_better_45 : decode cX10_better 45 = .ok (.getfield 78, 3) := by decide +kernel
theorem dX10_better_48 : decode cX10_better 48 = .ok (.iconst 1, 1) := by decide +kernel
theorem dX10_better_49 : decode cX10_better 49 = .ok (.iaload, 1) := by decide +kernel
theorem dX10_better_50 : decode cX10_better 50 = .ok (.iadd, 1) := by decide +kernel
theorem dX10_better_51 : decode cX10_better 51 = .ok (.aload_n 0, 1) := by decide +kernel
theorem dX10_better_52 : decode cX10_better 52 = .ok (.getfield 78, 3) := by decide +kernel
theorem dX10_better_55 : decode cX10_better 55 = .ok (.iconst 2, 1) := by decide +kernel
theorem dX10_better_56 : decode cX10_better 56 = .ok (.iaload, 1) := by decide +kernel
theorem dX10_better_57 : decode cX10_better 57 = .ok (.iadd, 1) := by decide +kernel
theorem dX10_better_58 : decode cX10_better 58 = .ok (.ireturn, 1) := by decide +kernel
theorem dX10_better_59 : decode cX10_better 59 = .ok (.aload_n 0, 1) := by decide +kernel
theorem dX10_better_60 : decode cX10_better 60 = .ok (.getfield 78, 3) := by decide +kernel
theorem dX10_better_63 : decode cX10_better 63 = .ok (.iload_n 3, 1) := by decide +kernel
theorem dX10_better_64 : decode cX10_better 64 = .ok (.iconst 1, 1) := by decide +kernel
theorem dX10_better_65 : decode cX10_better 65 = .ok (.isub, 1) := by decide +kernel
theorem dX10_better_66 : decode cX10_better 66 = .ok (.iaload, 1) := by decide +kernel
theorem dX10_better_67 : decode cX10_better 67 = .ok (.ireturn, 1) := by decide +kernel
theorem dX10_waysWithAtLeast_0 : decode cX10_waysWithAtLeast 0 = .ok (.lconst 1, 1) := by decide +kernel
theorem dX10_waysWithAtLeast_1 : decode cX10_waysWithAtLeast 1 = .ok (.lstore_n 2, 1) := by decide +kernel
theorem dX10_waysWithAtLeast_2 : decode cX10_waysWithAtLeast 2 = .ok (.lconst 0, 1) := by decide +kernel
theorem dX10_waysWithAtLeast_3 : decode cX10_waysWithAtLeast 3 = .ok (.lstore 4, 2) := by decide +kernel
theorem dX10_waysWithAtLeast_5 : decode cX10_waysWithAtLeast 5 = .ok (.iload_n 1, 1) := by decide +kernel
theorem dX10_waysWithAtLeast_6 : decode cX10_waysWithAtLeast 6 = .ok (.istore 6, 2) := by decide +kernel
theorem dX10_waysWithAtLeast_8 : decode cX10_waysWithAtLeast 8 = .ok (.iload 6, 2) := by decide +kernel
theorem dX10_waysWithAtLeast_10 : decode cX10_waysWithAtLeast 10 = .ok (.iload_n 0, 1) := by decide +kernel
theorem dX10_waysWithAtLeast_11 : decode cX10_waysWithAtLeast 11 = .ok (.if_icmp .lt 34, 3) := by decide +kernel
theorem dX10_waysWithAtLeast_14 : decode cX10_waysWithAtLeast 14 = .ok (.iload 6, 2) := by decide +kernel
theorem dX10_waysWithAtLeast_16 : decode cX10_waysWithAtLeast 16 = .ok (.ifCond .lt 29, 3) := by decide +kernel
theorem dX10_waysWithAtLeast_19 : decode cX10_waysWithAtLeast 19 = .ok (.lload 4, 2) := by decide +kernel
theorem dX10_waysWithAtLeast_21 : decode cX10_waysWithAtLeast 21 = .ok (.lload_n 2, 1) := by decide +kernel
theorem dX10_waysWithAtLeast_22 : decode cX10_waysWithAtLeast 22 = .ok (.ladd, 1) := by decide +kernel
theorem dX10_waysWithAtLeast_23 : decode cX10_waysWithAtLeast 23 = .ok (.lstore 4, 2) := by decide +kernel
theorem dX10_waysWithAtLeast_25 : decode cX10_waysWithAtLeast 25 = .ok (.lload_n 2, 1) := by decide +kernel
theorem dX10_waysWithAtLeast_26 : decode cX10_waysWithAtLeast 26 = .ok (.iload 6, 2) := by decide +kernel
theorem dX10_waysWithAtLeast_28 : decode cX10_waysWithAtLeast 28 = .ok (.i2l, 1) := by decide +kernel
theorem dX10_waysWithAtLeast_29 : decode cX10_waysWithAtLeast 29 = .ok (.lmul, 1) := by decide +kernel
theorem dX10_waysWithAtLeast_30 : decode cX10_waysWithAtLeast 30 = .ok (.iload_n 1, 1) := by decide +kernel
theorem dX10_waysWithAtLeast_31 : decode cX10_waysWithAtLeast 31 = .ok (.iload 6, 2) := by decide +kernel
theorem dX10_waysWithAtLeast_33 : decode cX10_waysWithAtLeast 33 = .ok (.isub, 1) := by decide +kernel
theorem dX10_waysWithAtLeast_34 : decode cX10_waysWithAtLeast 34 = .ok (.iconst 1, 1) := by decide +kernel
theorem dX10_waysWithAtLeast_35 : decode cX10_waysWithAtLeast 35 = .ok (.iadd, 1) := by decide +kernel
theorem dX10_waysWithAtLeast_36 : decode cX10_waysWithAtLeast 36 = .ok (.i2l, 1) := by decide +kernel
theorem dX10_waysWithAtLeast_37 : decode cX10_waysWithAtLeast 37 = .ok (.ldiv, 1) := by decide +kernel
theorem dX10_waysWithAtLeast_38 : decode cX10_waysWithAtLeast 38 = .ok (.lstore_n 2, 1) := by decide +kernel
theorem dX10_waysWithAtLeast_39 : decode cX10_waysWithAtLeast 39 = .ok (.iinc 6 (-1), 3) := by decide +kernel
theorem dX10_waysWithAtLeast_42 : decode cX10_waysWithAtLeast 42 = .ok (.goto (-34), 3) := by decide +kernel
theorem dX10_waysWithAtLeast_45 : decode cX10_waysWithAtLeast 45 = .ok (.lload 4, 2) := by decide +kernel
theorem dX10_waysWithAtLeast_47 : decode cX10_waysWithAtLeast 47 = .ok (.lreturn, 1) := by decide +kernel
theorem dX10_luck_0 : decode cX10_luck 0 = .ok (.iload_n 1, 1) := by decide +kernel
theorem dX10_luck_1 : decode cX10_luck 1 = .ok (.invokestatic 114, 3) := by decide +kernel
theorem dX10_luck_4 : decode cX10_luck 4 = .ok (.ifCond .eq 17, 3) := by decide +kernel
theorem dX10_luck_7 : decode cX10_luck 7 = .ok (.iload_n 2, 1) := by decide +kernel
theorem dX10_luck_8 : decode cX10_luck 8 = .ok (.invokestatic 114, 3) := by decide +kernel
theorem dX10_luck_11 : decode cX10_luck 11 = .ok (.ifCond .eq 10, 3) := by decide +kernel
theorem dX10_luck_14 : decode cX10_luck 14 = .ok (.iload_n 3, 1) := by decide +kernel
theorem dX10_luck_15 : decode cX10_luck 15 = .ok (.invokestatic 214, 3) := by decide +kernel
theorem dX10_luck_18 : decode cX10_luck 18 = .ok (.ifCond .ne 7, 3) := by decide +kernel
theorem dX10_luck_21 : decode cX10_luck 21 = .ok (.ldc2_w 220, 3) := by decide +kernel
theorem dX10_luck_24 : decode cX10_luck 24 = .ok (.lreturn, 1) := by decide +kernel
theorem dX10_luck_25 : decode cX10_luck 25 = .ok (.aload_n 0, 1) := by decide +kernel
theorem dX10_luck_26 : decode cX10_luck 26 = .ok (.iload_n 1, 1) := by decide +kernel
theorem dX10_luck_27 : decode cX10_luck 27 = .ok (.iload_n 2, 1) := by decide +kernel
theorem dX10_luck_28 : decode cX10_luck 28 = .ok (.invokevirtual 314, 3) := by decide +kernel
theorem dX10_luck_31 : decode cX10_luck 31 = .ok (.aload_n 0, 1) := by decide +kernel
theorem dX10_luck_32 : decode cX10_luck 32 = .ok (.getfield 78, 3) := by decide +kernel
theorem dX10_luck_35 : decode cX10_luck 35 = .ok (.iconst 0, 1) := by decide +kernel
theorem dX10_luck_36 : decode cX10_luck 36 = .ok (.iaload, 1) := by decide +kernel
theorem dX10_luck_37 : decode cX10_luck 37 = .ok (.aload_n 0, 1) := by decide +kernel
theorem dX10_luck_38 : decode cX10_luck 38 = .ok (.getfield 78, 3) := by decide +kernel
theorem dX10_luck_41 : decode cX10_luck 41 = .ok (.iconst 1, 1) := by decide +kernel
theorem dX10_luck_42 : decode cX10_luck 42 = .ok (.iaload, 1) := by decide +kernel
theorem dX10_luck_43 : decode cX10_luck 43 = .ok (.iadd, 1) := by decide +kernel
theorem dX10_luck_44 : decode cX10_luck 44 = .ok (.istore 4, 2) := by decide +kernel
theorem dX10_luck_46 : decode cX10_luck 46 = .ok (.aload_n 0, 1) := by decide +kernel
theorem dX10_luck_47 : decode cX10_luck 47 = .ok (.getfield 78, 3) := by decide +kernel
theorem dX10_luck_50 : decode cX10_luck 50 = .ok (.iconst 0, 1) := by decide +kernel
theorem dX10_luck_51 : decode cX10_luck 51 = .ok (.iaload, 1) := by decide +kernel
theorem dX10_luck_52 : decode cX10_luck 52 = .ok (.aload_n 0, 1) := by decide +kernel
theorem dX10_luck_53 : decode cX10_luck 53 = .ok (.getfield 78, 3) := by decide +kernel
theorem dX10_luck_56 : decode cX10_luck 56 = .ok (.iconst 1, 1) := by decide +kernel
theorem dX10_luck_57 : decode cX10_luck 57 = .ok (.iaload, 1) := by decide +kernel
theorem dX10_luck_58 : decode cX10_luck 58 = .ok (.invokestatic 150, 3) := by decide +kernel
theorem dX10_luck_61 : decode cX10_luck 61 = .ok (.istore 5, 2) := by decide +kernel
theorem dX10_luck_63 : decode cX10_luck 63 = .ok (.aload_n 0, 1) := by decide +kernel
theorem dX10_luck_64 : decode cX10_luck 64 = .ok (.getfield 56, 3) := by decide +kernel
theorem dX10_luck_67 : decode cX10_luck 67 = .ok (.iload 5, 2) := by decide +kernel
theorem dX10_luck_69 : decode cX10_luck 69 = .ok (.iload 4, 2) := by decide +kernel
theorem dX10_luck_71 : decode cX10_luck 71 = .ok (.invokestatic 318, 3) := by decide +kernel
theorem dX10_luck_74 : decode cX10_luck 74 = .ok (.lconst 1, 1) := by decide +kernel
theorem dX10_luck_75 : decode cX10_luck 75 = .ok (.iload 4, 2) := by decide +kernel
theorem dX10_luck_77 : decode cX10_luck 77 = .ok (.lshl, 1) := by decide +kernel
theorem dX10_luck_78 : decode cX10_luck 78 = .ok (.invokevirtual 246, 3) := by decide +kernel
theorem dX10_luck_81 : decode cX10_luck 81 = .ok (.aload_n 0, 1) := by decide +kernel
theorem dX10_luck_82 : decode cX10_luck 82 = .ok (.getfield 56, 3) := by decide +kernel
theorem dX10_luck_85 : decode cX10_luck 85 = .ok (.iload_n 3, 1) := by decide +kernel
theorem dX10_luck_86 : decode cX10_luck 86 = .ok (.invokevirtual 222, 3) := by decide +kernel
theorem dX10_luck_89 : decode cX10_luck 89 = .ok (.lreturn, 1) := by decide +kernel
theorem dX10_signOf_0 : decode cX10_signOf 0 = .ok (.iload_n 0, 1) := by decide +kernel
theorem dX10_signOf_1 : decode cX10_signOf 1 = .ok (.bipush 50, 2) := by decide +kernel
theorem dX10_signOf_3 : decode cX10_signOf 3 = .ok (.if_icmp .ne 6, 3) := by decide +kernel
theorem dX10_signOf_6 : decode cX10_signOf 6 = .ok (.bipush 61, 2) := by decide +kernel
theorem dX10_signOf_8 : decode cX10_signOf 8 = .ok (.ireturn, 1) := by decide +kernel
theorem dX10_signOf_9 : decode cX10_signOf 9 = .ok (.iload_n 0, 1) := by decide +kernel
theorem dX10_signOf_10 : decode cX10_signOf 10 = .ok (.bipush 50, 2) := by decide +kernel
theorem dX10_signOf_12 : decode cX10_signOf 12 = .ok (.if_icmp .le 7, 3) := by decide +kernel
theorem dX10_signOf_15 : decode cX10_signOf 15 = .ok (.iconst 1, 1) := by decide +kernel
theorem dX10_signOf_16 : decode cX10_signOf 16 = .ok (.goto 4, 3) := by decide +kernel
theorem dX10_signOf_19 : decode cX10_signOf 19 = .ok (.iconst 0, 1) := by decide +kernel
theorem dX10_signOf_20 : decode cX10_signOf 20 = .ok (.iload_n 1, 1) := by decide +kernel
theorem dX10_signOf_21 : decode cX10_signOf 21 = .ok (.if_icmp .ne 8, 3) := by decide +kernel
theorem dX10_signOf_24 : decode cX10_signOf 24 = .ok (.bipush 43, 2) := by decide +kernel
theorem dX10_signOf_26 : decode cX10_signOf 26 = .ok (.goto 5, 3) := by decide +kernel
theorem dX10_signOf_29 : decode cX10_signOf 29 = .ok (.bipush 45, 2) := by decide +kernel
theorem dX10_signOf_31 : decode cX10_signOf 31 = .ok (.ireturn, 1) := by decide +kernel
theorem dX10_writeReport_0 : decode cX10_writeReport 0 = .ok (.aload_n 0, 1) := by decide +kernel
theorem dX10_writeReport_1 : decode cX10_writeReport 1 = .ok (.getfield 66, 3) := by decide +kernel
theorem dX10_writeReport_4 : decode cX10_writeReport 4 = .ok (.invokevirtual 353, 3) := by decide +kernel
theorem dX10_writeReport_7 : decode cX10_writeReport 7 = .ok (.aload_n 0, 1) := by decide +kernel
theorem dX10_writeReport_8 : decode cX10_writeReport 8 = .ok (.getfield 66, 3) := by decide +kernel
theorem dX10_writeReport_11 : decode cX10_writeReport 11 = .ok (.bipush 84, 2) := by decide +kernel
theorem dX10_writeReport_13 : decode cX10_writeReport 13 = .ok (.invokevirtual 355, 3) := by decide +kernel
theorem dX10_writeReport_16 : decode cX10_writeReport 16 = .ok (.aload_n 0, 1) := by decide +kernel
theorem dX10_writeReport_17 : decode cX10_writeReport 17 = .ok (.getfield 66, 3) := by decide +kernel
theorem dX10_writeReport_20 : decode cX10_writeReport 20 = .ok (.bipush 48, 2) := by decide +kernel
theorem dX10_writeReport_22 : decode cX10_writeReport 22 = .ok (.iload_n 1, 1) := by decide +kernel
theorem dX10_writeReport_23 : decode cX10_writeReport 23 = .ok (.iadd, 1) := by decide +kernel
theorem dX10_writeReport_24 : decode cX10_writeReport 24 = .ok (.invokevirtual 355, 3) := by decide +kernel
theorem dX10_writeReport_27 : decode cX10_writeReport 27 = .ok (.aload_n 0, 1) := by decide +kernel
theorem dX10_writeReport_28 : decode cX10_writeReport 28 = .ok (.getfield 66, 3) := by decide +kernel
theorem dX10_writeReport_31 : decode cX10_writeReport 31 = .ok (.bipush 32, 2) := by decide +kernel
theorem dX10_writeReport_33 : decode cX10_writeReport 33 = .ok (.invokevirtual 355, 3) := by decide +kernel
theorem dX10_writeReport_36 : decode cX10_writeReport 36 = .ok (.aload_n 0, 1) := by decide +kernel
theorem dX10_writeReport_37 : decode cX10_writeReport 37 = .ok (.getfield 66, 3) := by decide +kernel
theorem dX10_writeReport_40 : decode cX10_writeReport 40 = .ok (.aload_n 0, 1) := by decide +kernel
theorem dX10_writeReport_41 : decode cX10_writeReport 41 = .ok (.getfield 90, 3) := by decide +kernel
theorem dX10_writeReport_44 : decode cX10_writeReport 44 = .ok (.getfield 199, 3) := by decide +kernel
theorem dX10_writeReport_47 : decode cX10_writeReport 47 = .ok (.invokevirtual 357, 3) := by decide +kernel
theorem dX10_writeReport_50 : decode cX10_writeReport 50 = .ok (.aload_n 0, 1) := by decide +kernel
theorem dX10_writeReport_51 : decode cX10_writeReport 51 = .ok (.getfield 66, 3) := by decide +kernel
theorem dX10_writeReport_54 : decode cX10_writeReport 54 = .ok (.bipush 32, 2) := by decide +kernel
theorem dX10_writeReport_56 : decode cX10_writeReport 56 = .ok (.invokevirtual 355, 3) := by decide +kernel
theorem dX10_writeReport_59 : decode cX10_writeReport 59 = .ok (.aload_n 0, 1) := by decide +kernel
theorem dX10_writeReport_60 : decode cX10_writeReport 60 = .ok (.iload_n 1, 1) := by decide +kernel
theorem dX10_writeReport_61 : decode cX10_writeReport 61 = .ok (.invokevirtual 217, 3) := by decide +kernel
theorem dX10_writeReport_64 : decode cX10_writeReport 64 = .ok (.ifCond .eq 43, 3) := by decide +kernel
theorem dX10_writeReport_67 : decode cX10_writeReport 67 = .ok (.aload_n 0, 1) := by decide +kernel
theorem dX10_writeReport_68 : decode cX10_writeReport 68 = .ok (.getfield 66, 3) := by decide +kernel
theorem dX10_writeReport_71 : decode cX10_writeReport 71 = .ok (.aload_n 0, 1) := by decide +kernel
theorem dX10_writeReport_72 : decode cX10_writeReport 72 = .ok (.getfield 56, 3) := by decide +kernel
theorem dX10_writeReport_75 : decode cX10_writeReport 75 = .ok (.getfield 322, 3) := by decide +kernel
theorem dX10_writeReport_78 : decode cX10_writeReport 78 = .ok (.invokevirtual 361, 3) := by decide +kernel
theorem dX10_writeReport_81 : decode cX10_writeReport 81 = .ok (.aload_n 0, 1) := by decide +kernel
theorem dX10_writeReport_82 : decode cX10_writeReport 82 = .ok (.getfield 66, 3) := by decide +kernel
theorem dX10_writeReport_85 : decode cX10_writeReport 85 = .ok (.bipush 47, 2) := by decide +kernel
theorem dX10_writeReport_87 : decode cX10_writeReport 87 = .ok (.invokevirtual 355, 3) := by decide +kernel
theorem dX10_writeReport_90 : decode cX10_writeReport 90 = .ok (.aload_n 0, 1) := by decide +kernel
theorem dX10_writeReport_91 : decode cX10_writeReport 91 = .ok (.getfield 66, 3) := by decide +kernel
theorem dX10_writeReport_94 : decode cX10_writeReport 94 = .ok (.aload_n 0, 1) := by decide +kernel
theorem dX10_writeReport_95 : decode cX10_writeReport 95 = .ok (.getfield 56, 3) := by decide +kernel
theorem dX10_writeReport_98 : decode cX10_writeReport 98 = .ok (.getfield 326, 3) := by decide +kernel
theorem dX10_writeReport_101 : decode cX10_writeReport 101 = .ok (.invokevirtual 361, 3) := by decide +kernel
theorem dX10_writeReport_104 : decode cX10_writeReport 104 = .ok (.goto 12, 3) := by decide +kernel
theorem dX10_writeReport_107 : decode cX10_writeReport 107 = .ok (.aload_n 0, 1) := by decide +kernel
theorem dX10_writeReport_108 : decode cX10_writeReport 108 = .ok (.getfield 66, 3) := by decide +kernel
theorem dX10_writeReport_111 : decode cX10_writeReport 111 = .ok (.bipush 45, 2) := by decide +kernel
theorem dX10_writeReport_113 : decode cX10_writeReport 113 = .ok (.invokevirtual 355, 3) := by decide +kernel
theorem dX10_writeReport_116 : decode cX10_writeReport 116 = .ok (.aload_n 0, 1) := by decide +kernel
theorem dX10_writeReport_117 : decode cX10_writeReport 117 = .ok (.getfield 66, 3) := by decide +kernel
theorem dX10_writeReport_120 : decode cX10_writeReport 120 = .ok (.bipush 32, 2) := by decide +kernel
theorem dX10_writeReport_122 : decode cX10_writeReport 122 = .ok (.invokevirtual 355, 3) := by decide +kernel
theorem dX10_writeReport_125 : decode cX10_writeReport 125 = .ok (.iconst 0, 1) := by decide +kernel
theorem dX10_writeReport_126 : decode cX10_writeReport 126 = .ok (.istore_n 2, 1) := by decide +kernel
theorem dX10_writeReport_127 : decode cX10_writeReport 127 = .ok (.iload_n 2, 1) := by decide +kernel
theorem dX10_writeReport_128 : decode cX10_writeReport 128 = .ok (.aload_n 0, 1) := by decide +kernel
theorem dX10_writeReport_129 : decode cX10_writeReport 129 = .ok (.getfield 35, 3) := by decide +kernel
theorem dX10_writeReport_132 : decode cX10_writeReport 132 = .ok (.getfield 230, 3) := by decide +kernel
theorem dX10_writeReport_135 : decode cX10_writeReport 135 = .ok (.if_icmp .ge 37, 3) := by decide +kernel
theorem dX10_writeReport_138 : decode cX10_writeReport 138 = .ok (.aload_n 0, 1) := by decide +kernel
theorem dX10_writeReport_139 : decode cX10_writeReport 139 = .ok (.getfield 66, 3) := by decide +kernel
theorem dX10_writeReport_142 : decode cX10_writeReport 142 = .ok (.aload_n 0, 1) := by decide +kernel
theorem dX10_writeReport_143 : decode cX10_writeReport 143 = .ok (.getfield 35, 3) := by decide +kernel
theorem dX10_writeReport_146 : decode cX10_writeReport 146 = .ok (.getfield 365, 3) := by decide +kernel
theorem dX10_writeReport_149 : decode cX10_writeReport 149 = .ok (.iload_n 2, 1) := by decide +kernel
theorem dX10_writeReport_150 : decode cX10_writeReport 150 = .ok (.iaload, 1) := by decide +kernel
theorem dX10_writeReport_151 : decode cX10_writeReport 151 = .ok (.aload_n 0, 1) := by decide +kernel
theorem dX10_writeReport_152 : decode cX10_writeReport 152 = .ok (.getfield 35, 3) := by decide +kernel
theorem dX10_writeReport_155 : decode cX10_writeReport 155 = .ok (.getfield 368, 3) := by decide +kernel
theorem dX10_writeReport_158 : decode cX10_writeReport 158 = .ok (.iload_n 2, 1) := by decide +kernel
theorem dX10_writeReport_159 : decode cX10_writeReport 159 = .ok (.baload, 1) := by decide +kernel
theorem dX10_writeReport_160 : decode cX10_writeReport 160 = .ok (.invokestatic 372, 3) := by decide +kernel
theorem dX10_writeReport_163 : decode cX10_writeReport 163 = .ok (.invokevirtual 355, 3) := by decide +kernel
theorem dX10_writeReport_166 : decode cX10_writeReport 166 = .ok (.iinc 2 1, 3) := by decide +kernel
theorem dX10_writeReport_169 : decode cX10_writeReport 169 = .ok (.goto (-42), 3) := by decide +kernel
theorem dX10_writeReport_172 : decode cX10_writeReport 172 = .ok (.return_, 1) := by decide +kernel
theorem dX10_report_0 : decode cX10_report 0 = .ok (.iload_n 1, 1) := by decide +kernel
theorem dX10_report_1 : decode cX10_report 1 = .ok (.invokestatic 114, 3) := by decide +kernel
theorem dX10_report_4 : decode cX10_report 4 = .ok (.ifCond .ne 5, 3) := by decide +kernel
theorem dX10_report_7 : decode cX10_report 7 = .ok (.iconst (-1), 1) := by decide +kernel
theorem dX10_report_8 : decode cX10_report 8 = .ok (.ireturn, 1) := by decide +kernel
theorem dX10_report_9 : decode cX10_report 9 = .ok (.iload_n 2, 1) := by decide +kernel
theorem dX10_report_10 : decode cX10_report 10 = .ok (.iconst (-1), 1) := by decide +kernel
theorem dX10_report_11 : decode cX10_report 11 = .ok (.if_icmp .lt 9, 3) := by decide +kernel
theorem dX10_report_14 : decode cX10_report 14 = .ok (.iload_n 2, 1) := by decide +kernel
theorem dX10_report_15 : decode cX10_report 15 = .ok (.bipush 100, 2) := by decide +kernel
theorem dX10_report_17 : decode cX10_report 17 = .ok (.if_icmp .lt 6, 3) := by decide +kernel
theorem dX10_report_20 : decode cX10_report 20 = .ok (.bipush (-2), 2) := by decide +kernel
theorem dX10_report_22 : decode cX10_report 22 = .ok (.ireturn, 1) := by decide +kernel
theorem dX10_report_23 : decode cX10_report 23 = .ok (.aload_n 0, 1) := by decide +kernel
theorem dX10_report_24 : decode cX10_report 24 = .ok (.iload_n 1, 1) := by decide +kernel
theorem dX10_report_25 : decode cX10_report 25 = .ok (.invokevirtual 336, 3) := by decide +kernel
theorem dX10_report_28 : decode cX10_report 28 = .ok (.iload_n 2, 1) := by decide +kernel
theorem dX10_report_29 : decode cX10_report 29 = .ok (.iconst (-1), 1) := by decide +kernel
theorem dX10_report_30 : decode cX10_report 30 = .ok (.if_icmp .ne 11, 3) := by decide +kernel
theorem dX10_report_33 : decode cX10_report 33 = .ok (.aload_n 0, 1) := by decide +kernel
theorem dX10_report_34 : decode cX10_report 34 = .ok (.getfield 66, 3) := by decide +kernel
theorem dX10_report_37 : decode cX10_report 37 = .ok (.getfield 340, 3) := by decide +kernel
theorem dX10_report_40 : decode cX10_report 40 = .ok (.ireturn, 1) := by decide +kernel
theorem dX10_report_41 : decode cX10_report 41 = .ok (.iload_n 2, 1) := by decide +kernel
theorem dX10_report_42 : decode cX10_report 42 = .ok (.aload_n 0, 1) := by decide +kernel
theorem dX10_report_43 : decode cX10_report 43 = .ok (.getfield 66, 3) := by decide +kernel
theorem dX10_report_46 : decode cX10_report 46 = .ok (.getfield 340, 3) := by decide +kernel
theorem dX10_report_49 : decode cX10_report 49 = .ok (.if_icmp .ge 15, 3) := by decide +kernel
theorem dX10_report_52 : decode cX10_report 52 = .ok (.aload_n 0, 1) := by decide +kernel
theorem dX10_report_53 : decode cX10_report 53 = .ok (.getfield 66, 3) := by decide +kernel
theorem dX10_report_56 : decode cX10_report 56 = .ok (.getfield 341, 3) := by decide +kernel
theorem dX10_report_59 : decode cX10_report 59 = .ok (.iload_n 2, 1) := by decide +kernel
theorem dX10_report_60 : decode cX10_report 60 = .ok (.iaload, 1) := by decide +kernel
theorem dX10_report_61 : decode cX10_report 61 = .ok (.goto 5, 3) := by decide +kernel
theorem dX10_report_64 : decode cX10_report 64 = .ok (.bipush (-9), 2) := by decide +kernel
theorem dX10_report_66 : decode cX10_report 66 = .ok (.ireturn, 1) := by decide +kernel
theorem dX10_many_0 : decode cX10_many 0 = .ok (.iload_n 1, 1) := by decide +kernel
theorem dX10_many_1 : decode cX10_many 1 = .ok (.tableswitch 89 0 5 #[39, 48, 57, 65, 73, 81], 39) := by decide +kernel
theorem dX10_many_40 : decode cX10_many 40 = .ok (.aload_n 0, 1) := by decide +kernel
theorem dX10_many_41 : decode cX10_many 41 = .ok (.getfield 12, 3) := by decide +kernel
theorem dX10_many_44 : decode cX10_many 44 = .ok (.iconst 1, 1) := by decide +kernel
theorem dX10_many_45 : decode cX10_many 45 = .ok (.invokevirtual 344, 3) := by decide +kernel
theorem dX10_many_48 : decode cX10_many 48 = .ok (.ireturn, 1) := by decide +kernel
theorem dX10_many_49 : decode cX10_many 49 = .ok (.aload_n 0, 1) := by decide +kernel
theorem dX10_many_50 : decode cX10_many 50 = .ok (.getfield 12, 3) := by decide +kernel
theorem dX10_many_53 : decode cX10_many 53 = .ok (.iconst 2, 1) := by decide +kernel
theorem dX10_many_54 : decode cX10_many 54 = .ok (.invokevirtual 344, 3) := by decide +kernel
theorem dX10_many_57 : decode cX10_many 57 = .ok (.ireturn, 1) := by decide +kernel
theorem dX10_many_58 : decode cX10_many 58 = .ok (.aload_n 0, 1) := by decide +kernel
theorem dX10_many_59 : decode cX10_many 59 = .ok (.getfield 12, 3) := by decide +kernel
theorem dX10_many_62 : decode cX10_many 62 = .ok (.invokevirtual 347, 3) := by decide +kernel
theorem dX10_many_65 : decode cX10_many 65 = .ok (.ireturn, 1) := by decide +kernel
theorem dX10_many_66 : decode cX10_many 66 = .ok (.aload_n 0, 1) := by decide +kernel
theorem dX10_many_67 : decode cX10_many 67 = .ok (.getfield 21, 3) := by decide +kernel
theorem dX10_many_70 : decode cX10_many 70 = .ok (.getfield 126, 3) := by decide +kernel
theorem dX10_many_73 : decode cX10_many 73 = .ok (.ireturn, 1) := by decide +kernel
theorem dX10_many_74 : decode cX10_many 74 = .ok (.aload_n 0, 1) := by decide +kernel
theorem dX10_many_75 : decode cX10_many 75 = .ok (.getfield 42, 3) := by decide +kernel
theorem dX10_many_78 : decode cX10_many 78 = .ok (.getfield 256, 3) := by decide +kernel
theorem dX10_many_81 : decode cX10_many 81 = .ok (.ireturn, 1) := by decide +kernel
theorem dX10_many_82 : decode cX10_many 82 = .ok (.aload_n 0, 1) := by decide +kernel
theorem dX10_many_83 : decode cX10_many 83 = .ok (.getfield 12, 3) := by decide +kernel
theorem dX10_many_86 : decode cX10_many 86 = .ok (.invokevirtual 350, 3) := by decide +kernel
theorem dX10_many_89 : decode cX10_many 89 = .ok (.ireturn, 1) := by decide +kernel
theorem dX10_many_90 : decode cX10_many 90 = .ok (.bipush (-2), 2) := by decide +kernel
theorem dX10_many_92 : decode cX10_many 92 = .ok (.ireturn, 1) := by decide +kernel
end
section
theorem dX11_within_0 : decode cX11_within 0 = .ok (.iload_n 0, 1) := by decide +kernel
theorem dX11_within_1 : decode cX11_within 1 = .ok (.iload_n 1, 1) := by decide +kernel
theorem dX11_within_2 : decode cX11_within 2 = .ok (.if_icmp .lt 12, 3) := by decide +kernel
theorem dX11_within_5 : decode cX11_within 5 = .ok (.iload_n 0, 1) := by decide +kernel
theorem dX11_within_6 : decode cX11_within 6 = .ok (.iload_n 2, 1) := by decide +kernel
theorem dX11_within_7 : decode cX11_within 7 = .ok (.if_icmp .gt 7, 3) := by decide +kernel
theorem dX11_within_10 : decode cX11_within 10 = .ok (.iconst 1, 1) := by decide +kernel
theorem dX11_within_11 : decode cX11_within 11 = .ok (.goto 4, 3) := by decide +kernel
theorem dX11_within_14 : decode cX11_within 14 = .ok (.iconst 0, 1) := by decide +kernel
theorem dX11_within_15 : decode cX11_within 15 = .ok (.ireturn, 1) := by decide +kernel
theorem dX11_isOne_0 : decode cX11_isOne 0 = .ok (.iload_n 0, 1) := by decide +kernel
theorem dX11_isOne_1 : decode cX11_isOne 1 = .ok (.iconst 0, 1) := by decide +kernel
theorem dX11_isOne_2 : decode cX11_isOne 2 = .ok (.iconst 3, 1) := by decide +kernel
theorem dX11_isOne_3 : decode cX11_isOne 3 = .ok (.invokestatic 66, 3) := by decide +kernel
theorem dX11_isOne_6 : decode cX11_isOne 6 = .ok (.ireturn, 1) := by decide +kernel
theorem dX11_isAny_0 : decode cX11_isAny 0 = .ok (.iload_n 0, 1) := by decide +kernel
theorem dX11_isAny_1 : decode cX11_isAny 1 = .ok (.iconst 0, 1) := by decide +kernel
theorem dX11_isAny_2 : decode cX11_isAny 2 = .ok (.iconst 4, 1) := by decide +kernel
theorem dX11_isAny_3 : decode cX11_isAny 3 = .ok (.invokestatic 66, 3) := by decide +kernel
theorem dX11_isAny_6 : decode cX11_isAny 6 = .ok (.ireturn, 1) := by decide +kernel
theorem dX11_isEvent_0 : decode cX11_isEvent 0 = .ok (.iload_n 0, 1) := by decide +kernel
theorem dX11_isEvent_1 : decode cX11_isEvent 1 = .ok (.iconst 0, 1) := by decide +kernel
theorem dX11_isEvent_2 : decode cX11_isEvent 2 = .ok (.bipush 39, 2) := by decide +kernel
theorem dX11_isEvent_4 : decode cX11_isEvent 4 = .ok (.invokestatic 66, 3) := by decide +kernel
theorem dX11_isEvent_7 : decode cX11_isEvent 7 = .ok (.ireturn, 1) := by decide +kernel
theorem dX11_tell_0 : decode cX11_tell 0 = .ok (.iload_n 1, 1) := by decide +kernel
theorem dX11_tell_1 : decode cX11_tell 1 = .ok (.invokestatic 70, 3) := by decide +kernel
theorem dX11_tell_4 : decode cX11_tell 4 = .ok (.ifCond .eq 10, 3) := by decide +kernel
theorem dX11_tell_7 : decode cX11_tell 7 = .ok (.iload_n 2, 1) := by decide +kernel
theorem dX11_tell_8 : decode cX11_tell 8 = .ok (.invokestatic 74, 3) := by decide +kernel
theorem dX11_tell_11 : decode cX11_tell 11 = .ok (.ifCond .ne 5, 3) := by decide +kernel
theorem dX11_tell_14 : decode cX11_tell 14 = .ok (.iconst (-1), 1) := by decide +kernel
theorem dX11_tell_15 : decode cX11_tell 15 = .ok (.ireturn, 1) := by decide +kernel
theorem dX11_tell_16 : decode cX11_tell 16 = .ok (.iload_n 3, 1) := by decide +kernel
theorem dX11_tell_17 : decode cX11_tell 17 = .ok (.iconst 0, 1) := by decide +kernel
theorem dX11_tell_18 : decode cX11_tell 18 = .ok (.bipush 100, 2) := by decide +kernel
theorem dX11_tell_20 : decode cX11_tell 20 = .ok (.invokestatic 66, 3) := by decide +kernel
theorem dX11_tell_23 : decode cX11_tell 23 = .ok (.ifCond .ne 6, 3) := by decide +kernel
theorem dX11_tell_26 : decode cX11_tell 26 = .ok (.bipush (-2), 2) := by decide +kernel
theorem dX11_tell_28 : decode cX11_tell 28 = .ok (.ireturn, 1) := by decide +kernel
theorem dX11_tell_29 : decode cX11_tell 29 = .ok (.aload_n 0, 1) := by decide +kernel
theorem dX11_tell_30 : decode cX11_tell 30 = .ok (.getfield 7, 3) := by decide +kernel
theorem dX11_tell_33 : decode cX11_tell 33 = .ok (.bipush 40, 2) := by decide +kernel
theorem dX11_tell_35 : decode cX11_tell 35 = .ok (.iload_n 1, 1) := by decide +kernel
theorem dX11_tell_36 : decode cX11_tell 36 = .ok (.imul, 1) := by decide +kernel
theorem dX11_tell_37 : decode cX11_tell 37 = .ok (.iload_n 2, 1) := by decide +kernel
theorem dX11_tell_38 : decode cX11_tell 38 = .ok (.iadd, 1) := by decide +kernel
theorem dX11_tell_39 : decode cX11_tell 39 = .ok (.iaload, 1) := by decide +kernel
theorem dX11_tell_40 : decode cX11_tell 40 = .ok (.istore 4, 2) := by decide +kernel
theorem dX11_tell_42 : decode cX11_tell 42 = .ok (.aload_n 0, 1) := by decide +kernel
theorem dX11_tell_43 : decode cX11_tell 43 = .ok (.getfield 7, 3) := by decide +kernel
theorem dX11_tell_46 : decode cX11_tell 46 = .ok (.bipush 40, 2) := by decide +kernel
theorem dX11_tell_48 : decode cX11_tell 48 = .ok (.iload_n 1, 1) := by decide +kernel
theorem dX11_tell_49 : decode cX11_tell 49 = .ok (.imul, 1) := by decide +kernel
theorem dX11_tell_50 : decode cX11_tell 50 = .ok (.iload_n 2, 1) := by decide +kernel
theorem dX11_tell_51 : decode cX11_tell 51 = .ok (.iadd, 1) := by decide +kernel
theorem dX11_tell_52 : decode cX11_tell 52 = .ok (.iload_n 3, 1) := by decide +kernel
theorem dX11_tell_53 : decode cX11_tell 53 = .ok (.iastore, 1) := by decide +kernel
theorem dX11_tell_54 : decode cX11_tell 54 = .ok (.iload 4, 2) := by decide +kernel
theorem dX11_tell_56 : decode cX11_tell 56 = .ok (.ireturn, 1) := by decide +kernel
theorem dX11_drop_0 : decode cX11_drop 0 = .ok (.iload_n 1, 1) := by decide +kernel
theorem dX11_drop_1 : decode cX11_drop 1 = .ok (.invokestatic 70, 3) := by decide +kernel
theorem dX11_drop_4 : decode cX11_drop 4 = .ok (.ifCond .eq 10, 3) := by decide +kernel
theorem dX11_drop_7 : decode cX11_drop 7 = .ok (.iload_n 2, 1) := by decide +kernel
theorem dX11_drop_8 : decode cX11_drop 8 = .ok (.invokestatic 74, 3) := by decide +kernel
theorem dX11_drop_11 : decode cX11_drop 11 = .ok (.ifCond .ne 5, 3) := by decide +kernel
theorem dX11_drop_14 : decode cX11_drop 14 = .ok (.iconst (-1), 1) := by decide +kernel
theorem dX11_drop_15 : decode cX11_drop 15 = .ok (.ireturn, 1) := by decide +kernel
theorem dX11_drop_16 : decode cX11_drop 16 = .ok (.aload_n 0, 1) := by decide +kernel
theorem dX11_drop_17 : decode cX11_drop 17 = .ok (.getfield 7, 3) := by decide +kernel
theorem dX11_drop_20 : decode cX11_drop 20 = .ok (.bipush 40, 2) := by decide +kernel
theorem dX11_drop_22 : decode cX11_drop 22 = .ok (.iload_n 1, 1) := by decide +kernel
theorem dX11_drop_23 : decode cX11_drop 23 = .ok (.imul, 1) := by decide +kernel
theorem dX11_drop_24 : decode cX11_drop 24 = .ok (.iload_n 2, 1) := by decide +kernel
theorem dX11_drop_25 : decode cX11_drop 25 = .ok (.iadd, 1) := by decide +kernel
theorem dX11_drop_26 : decode cX11_drop 26 = .ok (.iaload, 1) := by decide +kernel
theorem dX11_drop_27 : decode cX11_drop 27 = .ok (.istore_n 3, 1) := by decide +kernel
theorem dX11_drop_28 : decode cX11_drop 28 = .ok (.aload_n 0, 1) := by decide +kernel
theorem dX11_drop_29 : decode cX11_drop 29 = .ok (.getfield 7, 3) := by decide +kernel
theorem dX11_drop_32 : decode cX11_drop 32 = .ok (.bipush 40, 2) := by decide +kernel
theorem dX11_drop_34 : decode cX11_drop 34 = .ok (.iload_n 1, 1) := by decide +kernel
theorem dX11_drop_35 : decode cX11_drop 35 = .ok (.imul, 1) := by decide +kernel
theorem dX11_drop_36 : decode cX11_drop 36 = .ok (.iload_n 2, 1) := by decide +kernel
theorem dX11_drop_37 : decode cX11_drop 37 = .ok (.iadd, 1) := by decide +kernel
theorem dX11_drop_38 : decode cX11_drop 38 = .ok (.bipush (-9), 2) := by decide +kernel
theorem dX11_drop_40 : decode cX11_drop 40 = .ok (.iastore, 1) := by decide +kernel
theorem dX11_drop_41 : decode cX11_drop 41 = .ok (.iload_n 3, 1) := by decide +kernel
theorem dX11_drop_42 : decode cX11_drop 42 = .ok (.ireturn, 1) := by decide +kernel
theorem dX11_becomes_0 : decode cX11_becomes 0 = .ok (.iload_n 1, 1) := by decide +kernel
theorem dX11_becomes_1 : decode cX11_becomes 1 = .ok (.invokestatic 74, 3) := by decide +kernel
theorem dX11_becomes_4 : decode cX11_becomes 4 = .ok (.ifCond .ne 5, 3) := by decide +kernel
theorem dX11_becomes_7 : decode cX11_becomes 7 = .ok (.iconst (-1), 1) := by decide +kernel
theorem dX11_becomes_8 : decode cX11_becomes 8 = .ok (.ireturn, 1) := by decide +kernel
theorem dX11_becomes_9 : decode cX11_becomes 9 = .ok (.aload_n 0, 1) := by decide +kernel
theorem dX11_becomes_10 : decode cX11_becomes 10 = .ok (.getfield 13, 3) := by decide +kernel
theorem dX11_becomes_13 : decode cX11_becomes 13 = .ok (.iload_n 1, 1) := by decide +kernel
theorem dX11_becomes_14 : decode cX11_becomes 14 = .ok (.iaload, 1) := by decide +kernel
theorem dX11_becomes_15 : decode cX11_becomes 15 = .ok (.istore_n 3, 1) := by decide +kernel
theorem dX11_becomes_16 : decode cX11_becomes 16 = .ok (.aload_n 0, 1) := by decide +kernel
theorem dX11_becomes_17 : decode cX11_becomes 17 = .ok (.getfield 13, 3) := by decide +kernel
theorem dX11_becomes_20 : decode cX11_becomes 20 = .ok (.iload_n 1, 1) := by decide +kernel
theorem dX11_becomes_21 : decode cX11_becomes 21 = .ok (.iload_n 2, 1) := by decide +kernel
theorem dX11_becomes_22 : decode cX11_becomes 22 = .ok (.iastore, 1) := by decide +kernel
theorem dX11_becomes_23 : decode cX11_becomes 23 = .ok (.iload_n 3, 1) := by decide +kernel
theorem dX11_becomes_24 : decode cX11_becomes 24 = .ok (.ireturn, 1) := by decide +kernel
theorem dX11_yes_0 : decode cX11_yes 0 = .ok (.aload_n 0, 1) := by decide +kernel
theorem dX11_yes_1 : decode cX11_yes 1 = .ok (.iload_n 1, 1) := by decide +kernel
theorem dX11_yes_2 : decode cX11_yes 2 = .ok (.iconst 1, 1) := by decide +kernel
theorem dX11_yes_3 : decode cX11_yes 3 = .ok (.invokevirtual 77, 3) := by decide +kernel
theorem dX11_yes_6 : decode cX11_yes 6 = .ok (.ireturn, 1) := by decide +kernel
theorem dX11_no_0 : decode cX11_no 0 = .ok (.aload_n 0, 1) := by decide +kernel
theorem dX11_no_1 : decode cX11_no 1 = .ok (.iload_n 1, 1) := by decide +kernel
theorem dX11_no_2 : decode cX11_no 2 = .ok (.iconst 2, 1) := by decide +kernel
theorem dX11_no_3 : decode cX11_no 3 = .ok (.invokevirtual 77, 3) := by decide +kernel
theorem dX11_no_6 : decode cX11_no 6 = .ok (.ireturn, 1) := by decide +kernel
theorem dX11_open_0 : decode cX11_open 0 = .ok (.aload_n 0, 1) := by decide +kernel
theorem dX11_open_1 : decode cX11_open 1 = .ok (.iload_n 1, 1) := by decide +kernel
theorem dX11_open_2 : decode cX11_open 2 = .ok (.iconst 0, 1) := by decide +kernel
theorem dX11_open_3 : decode cX11_open 3 = .ok (.invokevirtual 77, 3) := by decide +kernel
theorem dX11_open_6 : decode cX11_open 6 = .ok (.ireturn, 1) := by decide +kernel
theorem dX11_weigh_0 : decode cX11_weigh 0 = .ok (.iload_n 1, 1) := by decide +kernel
theorem dX11_weigh_1 : decode cX11_weigh 1 = .ok (.invokestatic 70, 3) := by decide +kernel
theorem dX11_weigh_4 : decode cX11_weigh 4 = .ok (.ifCond .ne 5, 3) := by decide +kernel
theorem dX11_weigh_7 : decode cX11_weigh 7 = .ok (.iconst (-1), 1) := by decide +kernel
theorem dX11_weigh_8 : decode cX11_weigh 8 = .ok (.ireturn, 1) := by decide +kernel
theorem dX11_weigh_9 : decode cX11_weigh 9 = .ok (.iload_n 2, 1) := by decide +kernel
theorem dX11_weigh_10 : decode cX11_weigh 10 = .ok (.iconst 0, 1) := by decide +kernel
theorem dX11_weigh_11 : decode cX11_weigh 11 = .ok (.bipush 9, 2) := by decide +kernel
theorem dX11_weigh_13 : decode cX11_weigh 13 = .ok (.invokestatic 66, 3) := by decide +kernel
theorem dX11_weigh_16 : decode cX11_weigh 16 = .ok (.ifCond .ne 6, 3) := by decide +kernel
theorem dX11_weigh_19 : decode cX11_weigh 19 = .ok (.bipush (-2), 2) := by decide +kernel
theorem dX11_weigh_21 : decode cX11_weigh 21 = .ok (.ireturn, 1) := by decide +kernel
theorem dX11_weigh_22 : decode cX11_weigh 22 = .ok (.aload_n 0, 1) := by decide +kernel
theorem dX11_weigh_23 : decode cX11_weigh 23 = .ok (.getfield 16, 3) := by decide +kernel
theorem dX11_weigh_26 : decode cX11_weigh 26 = .ok (.iload_n 1, 1) := by decide +kernel
theorem dX11_weigh_27 : decode cX11_weigh 27 = .ok (.iaload, 1) := by decide +kernel
theorem dX11_weigh_28 : decode cX11_weigh 28 = .ok (.istore_n 3, 1) := by decide +kernel
theorem dX11_weigh_29 : decode cX11_weigh 29 = .ok (.aload_n 0, 1) := by decide +kernel
theorem dX11_weigh_30 : decode cX11_weigh 30 = .ok (.getfield 16, 3) := by decide +kernel
theorem dX11_weigh_33 : decode cX11_weigh 33 = .ok (.iload_n 1, 1) := by decide +kernel
theorem dX11_weigh_34 : decode cX11_weigh 34 = .ok (.iload_n 2, 1) := by decide +kernel
theorem dX11_weigh_35 : decode cX11_weigh 35 = .ok (.iastore, 1) := by decide +kernel
theorem dX11_weigh_36 : decode cX11_weigh 36 = .ok (.iload_n 3, 1) := by decide +kernel
theorem dX11_weigh_37 : decode cX11_weigh 37 = .ok (.ireturn, 1) := by decide +kernel
theorem dX11_toldBy_0 : decode cX11_toldBy 0 = .ok (.iload_n 1, 1) := by decide +kernel
theorem dX11_toldBy_1 : decode cX11_toldBy 1 = .ok (.iconst 4, 1) := by decide +kernel
theorem dX11_toldBy_2 : decode cX11_toldBy 2 = .ok (.if_icmp .ge 15, 3) := by decide +kernel
theorem dX11_toldBy_5 : decode cX11_toldBy 5 = .ok (.aload_n 0, 1) := by decide +kernel
theorem dX11_toldBy_6 : decode cX11_toldBy 6 = .ok (.getfield 7, 3) := by decide +kernel
theorem dX11_toldBy_9 : decode cX11_toldBy 9 = .ok (.bipush 40, 2) := by decide +kernel
theorem dX11_toldBy_11 : decode cX11_toldBy 11 = .ok (.iload_n 1, 1) := by decide +kernel
theorem dX11_toldBy_12 : decode cX11_toldBy 12 = .ok (.imul, 1) := by decide +kernel
theorem dX11_toldBy_13 : decode cX11_toldBy 13 = .ok (.iload_n 2, 1) := by decide +kernel
theorem dX11_toldBy_14 : decode cX11_toldBy 14 = .ok (.iadd, 1) := by decide +kernel
theorem dX11_toldBy_15 : decode cX11_toldBy 15 = .ok (.iaload, 1) := by decide +kernel
theorem dX11_toldBy_16 : decode cX11_toldBy 16 = .ok (.ireturn, 1) := by decide +kernel
theorem dX11_toldBy_17 : decode cX11_toldBy 17 = .ok (.iconst 0, 1) := by decide +kernel
theorem dX11_toldBy_18 : decode cX11_toldBy 18 = .ok (.istore_n 3, 1) := by decide +kernel
theorem dX11_toldBy_19 : decode cX11_toldBy 19 = .ok (.iconst 0, 1) := by decide +kernel
theorem dX11_toldBy_20 : decode cX11_toldBy 20 = .ok (.istore 4, 2) := by decide +kernel
theorem dX11_toldBy_22 : decode cX11_toldBy 22 = .ok (.iconst 0, 1) := by decide +kernel
theorem dX11_toldBy_23 : decode cX11_toldBy 23 = .ok (.istore 5, 2) := by decide +kernel
theorem dX11_toldBy_25 : decode cX11_toldBy 25 = .ok (.iload 5, 2) := by decide +kernel
theorem dX11_toldBy_27 : decode cX11_toldBy 27 = .ok (.iconst 4, 1) := by decide +kernel
theorem dX11_toldBy_28 : decode cX11_toldBy 28 = .ok (.if_icmp .ge 70, 3) := by decide +kernel
theorem dX11_toldBy_31 : decode cX11_toldBy 31 = .ok (.aload_n 0, 1) := by decide +kernel
theorem dX11_toldBy_32 : decode cX11_toldBy 32 = .ok (.getfield 7, 3) := by decide +kernel
theorem dX11_toldBy_35 : decode cX11_toldBy 35 = .ok (.bipush 40, 2) := by decide +kernel
theorem dX11_toldBy_37 : decode cX11_toldBy 37 = .ok (.iload 5, 2) := by decide +kernel
theorem dX11_toldBy_39 : decode cX11_toldBy 39 = .ok (.imul, 1) := by decide +kernel
theorem dX11_toldBy_40 : decode cX11_toldBy 40 = .ok (.iload_n 2, 1) := by decide +kernel
theorem dX11_toldBy_41 : decode cX11_toldBy 41 = .ok (.iadd, 1) := by decide +kernel
theorem dX11_toldBy_42 : decode cX11_toldBy 42 = .ok (.iaload, 1) := by decide +kernel
theorem dX11_toldBy_43 : decode cX11_toldBy 43 = .ok (.istore 6, 2) := by decide +kernel
theorem dX11_toldBy_45 : decode cX11_toldBy 45 = .ok (.iload_n 3, 1) := by decide +kernel
theorem dX11_toldBy_46 : decode cX11_toldBy 46 = .ok (.iload 6, 2) := by decide +kernel
theorem dX11_toldBy_48 : decode cX11_toldBy 48 = .ok (.bipush (-9), 2) := by decide +kernel
theorem dX11_toldBy_50 : decode cX11_toldBy 50 = .ok (.if_icmp .ne 7, 3) := by decide +kernel
theorem dX11_toldBy_53 : decode cX11_toldBy 53 = .ok (.iconst 0, 1) := by decide +kernel
theorem dX11_toldBy_54 : decode cX11_toldBy 54 = .ok (.goto 13, 3) := by decide +kernel
theorem dX11_toldBy_57 : decode cX11_toldBy 57 = .ok (.aload_n 0, 1) := by decide +kernel
theorem dX11_toldBy_58 : decode cX11_toldBy 58 = .ok (.getfield 16, 3) := by decide +kernel
theorem dX11_toldBy_61 : decode cX11_toldBy 61 = .ok (.iload 5, 2) := by decide +kernel
theorem dX11_toldBy_63 : decode cX11_toldBy 63 = .ok (.iaload, 1) := by decide +kernel
theorem dX11_toldBy_64 : decode cX11_toldBy 64 = .ok (.iload 6, 2) := by decide +kernel
theorem dX11_toldBy_66 : decode cX11_toldBy 66 = .ok (.imul, 1) := by decide +kernel
theorem dX11_toldBy_67 : decode cX11_toldBy 67 = .ok (.iadd, 1) := by decide +kernel
theorem dX11_toldBy_68 : decode cX11_toldBy 68 = .ok (.istore_n 3, 1) := by decide +kernel
theorem dX11_toldBy_69 : decode cX11_toldBy 69 = .ok (.iload 4, 2) := by decide +kernel
theorem dX11_toldBy_71 : decode cX11_toldBy 71 = .ok (.iload 6, 2) := by decide +kernel
theorem dX11_toldBy_73 : decode cX11_toldBy 73 = .ok (.bipush (-9), 2) := by decide +kernel
theorem dX11_toldBy_75 : decode cX11_toldBy 75 = .ok (.if_icmp .ne 7, 3) := by decide +kernel
theorem dX11_toldBy_78 : decode cX11_toldBy 78 = .ok (.iconst 0, 1) := by decide +kernel
theorem dX11_toldBy_79 : decode cX11_toldBy 79 = .ok (.goto 10, 3) := by decide +kernel
theorem dX11_toldBy_82 : decode cX11_toldBy 82 = .ok (.aload_n 0, 1) := by decide +kernel
theorem dX11_toldBy_83 : decode cX11_toldBy 83 = .ok (.getfield 16, 3) := by decide +kernel
theorem dX11_toldBy_86 : decode cX11_toldBy 86 = .ok (.iload 5, 2) := by decide +kernel
theorem dX11_toldBy_88 : decode cX11_toldBy 88 = .ok (.iaload, 1) := by decide +kernel
theorem dX11_toldBy_89 : decode cX11_toldBy 89 = .ok (.iadd, 1) := by decide +kernel
theorem dX11_toldBy_90 : decode cX11_toldBy 90 = .ok (.istore 4, 2) := by decide +kernel
theorem dX11_toldBy_92 : decode cX11_toldBy 92 = .ok (.iinc 5 1, 3) := by decide +kernel
theorem dX11_toldBy_95 : decode cX11_toldBy 95 = .ok (.goto (-70), 3) := by decide +kernel
theorem dX11_toldBy_98 : decode cX11_toldBy 98 = .ok (.iload 4, 2) := by decide +kernel
theorem dX11_toldBy_100 : decode cX11_toldBy 100 = .ok (.ifCond .ne 8, 3) := by decide +kernel
theorem dX11_toldBy_103 : decode cX11_toldBy 103 = .ok (.bipush (-9), 2) := by decide +kernel
theorem dX11_toldBy_105 : decode cX11_toldBy 105 = .ok (.goto 14, 3) := by decide +kernel
theorem dX11_toldBy_108 : decode cX11_toldBy 108 = .ok (.iconst 2, 1) := by decide +kernel
theorem dX11_toldBy_109 : decode cX11_toldBy 109 = .ok (.iload_n 3, 1) := by decide +kernel
theorem dX11_toldBy_110 : decode cX11_toldBy 110 = .ok (.imul, 1) := by decide +kernel
theorem dX11_toldBy_111 : decode cX11_toldBy 111 = .ok (.iload 4, 2) := by decide +kernel
theorem dX11_toldBy_113 : decode cX11_toldBy 113 = .ok (.iadd, 1) := by decide +kernel
theorem dX11_toldBy_114 : decode cX11_toldBy 114 = .ok (.iconst 2, 1) := by decide +kernel
theorem dX11_toldBy_115 : decode cX11_toldBy 115 = .ok (.iload 4, 2) := by decide +kernel
theorem dX11_toldBy_117 : decode cX11_toldBy 117 = .ok (.imul, 1) := by decide +kernel
theorem dX11_toldBy_118 : decode cX11_toldBy 118 = .ok (.idiv, 1) := by decide +kernel
theorem dX11_toldBy_119 : decode cX11_toldBy 119 = .ok (.ireturn, 1) := by decide +kernel
theorem dX11_told_0 : decode cX11_told 0 = .ok (.iload_n 1, 1) := by decide +kernel
theorem dX11_told_1 : decode cX11_told 1 = .ok (.invokestatic 81, 3) := by decide +kernel
theorem dX11_told_4 : decode cX11_told 4 = .ok (.ifCond .eq 19, 3) := by decide +kernel
theorem dX11_told_7 : decode cX11_told 7 = .ok (.iload_n 2, 1) := by decide +kernel
theorem dX11_told_8 : decode cX11_told 8 = .ok (.invokestatic 74, 3) := by decide +kernel
theorem dX11_told_11 : decode cX11_told 11 = .ok (.ifCond .eq 12, 3) := by decide +kernel
theorem dX11_told_14 : decode cX11_told 14 = .ok (.aload_n 0, 1) := by decide +kernel
theorem dX11_told_15 : decode cX11_told 15 = .ok (.iload_n 1, 1) := by decide +kernel
theorem dX11_told_16 : decode cX11_told 16 = .ok (.iload_n 2, 1) := by decide +kernel
theorem dX11_told_17 : decode cX11_told 17 = .ok (.invokevirtual 84, 3) := by decide +kernel
theorem dX11_told_20 : decode cX11_told 20 = .ok (.goto 4, 3) := by decide +kernel
theorem dX11_told_23 : decode cX11_told 23 = .ok (.iconst (-1), 1) := by decide +kernel
theorem dX11_told_24 : decode cX11_told 24 = .ok (.ireturn, 1) := by decide +kernel
theorem dX11_came_0 : decode cX11_came 0 = .ok (.iload_n 1, 1) := by decide +kernel
theorem dX11_came_1 : decode cX11_came 1 = .ok (.invokestatic 74, 3) := by decide +kernel
theorem dX11_came_4 : decode cX11_came 4 = .ok (.ifCond .eq 12, 3) := by decide +kernel
theorem dX11_came_7 : decode cX11_came 7 = .ok (.aload_n 0, 1) := by decide +kernel
theorem dX11_came_8 : decode cX11_came 8 = .ok (.getfield 13, 3) := by decide +kernel
theorem dX11_came_11 : decode cX11_came 11 = .ok (.iload_n 1, 1) := by decide +kernel
theorem dX11_came_12 : decode cX11_came 12 = .ok (.iaload, 1) := by decide +kernel
theorem dX11_came_13 : decode cX11_came 13 = .ok (.goto 4, 3) := by decide +kernel
theorem dX11_came_16 : decode cX11_came 16 = .ok (.iconst (-1), 1) := by decide +kernel
theorem dX11_came_17 : decode cX11_came 17 = .ok (.ireturn, 1) := by decide +kernel
theorem dX11_key_0 : decode cX11_key 0 = .ok (.iload_n 1, 1) := by decide +kernel
theorem dX11_key_1 : decode cX11_key 1 = .ok (.iconst 0, 1) := by decide +kernel
theorem dX11_key_2 : decode cX11_key 2 = .ok (.bipush 127, 2) := by decide +kernel
theorem dX11_key_4 : decode cX11_key 4 = .ok (.invokestatic 66, 3) := by decide +kernel
theorem dX11_key_7 : decode cX11_key 7 = .ok (.ifCond .ne 6, 3) := by decide +kernel
theorem dX11_key_10 : decode cX11_key 10 = .ok (.bipush (-2), 2) := by decide +kernel
theorem dX11_key_12 : decode cX11_key 12 = .ok (.ireturn, 1) := by decide +kernel
theorem dX11_key_13 : decode cX11_key 13 = .ok (.aload_n 0, 1) := by decide +kernel
theorem dX11_key_14 : decode cX11_key 14 = .ok (.getfield 87, 3) := by decide +kernel
theorem dX11_key_17 : decode cX11_key 17 = .ok (.bipush 24, 2) := by decide +kernel
theorem dX11_key_19 : decode cX11_key 19 = .ok (.if_icmp .ne 6, 3) := by decide +kernel
theorem dX11_key_22 : decode cX11_key 22 = .ok (.bipush (-4), 2) := by decide +kernel
theorem dX11_key_24 : decode cX11_key 24 = .ok (.ireturn, 1) := by decide +kernel
theorem dX11_key_25 : decode cX11_key 25 = .ok (.aload_n 0, 1) := by decide +kernel
theorem dX11_key_26 : decode cX11_key 26 = .ok (.getfield 19, 3) := by decide +kernel
theorem dX11_key_29 : decode cX11_key 29 = .ok (.aload_n 0, 1) := by decide +kernel
theorem dX11_key_30 : decode cX11_key 30 = .ok (.getfield 87, 3) := by decide +kernel
theorem dX11_key_33 : decode cX11_key 33 = .ok (.iload_n 1, 1) := by decide +kernel
theorem dX11_key_34 : decode cX11_key 34 = .ok (.iastore, 1) := by decide +kernel
theorem dX11_key_35 : decode cX11_key 35 = .ok (.aload_n 0, 1) := by decide +kernel
theorem dX11_key_36 : decode cX11_key 36 = .ok (.dup, 1) := by decide +kernel
theorem dX11_key_37 : decode cX11_key 37 = .ok (.getfield 87, 3) := by decide +kernel
theorem dX11_key_40 : decode cX11_key 40 = .ok (.iconst 1, 1) := by decide +kernel
theorem dX11_key_41 : decode cX11_key 41 = .ok (.iadd, 1) := by decide +kernel
theorem dX11_key_42 : decode cX11_key 42 = .ok (.putfield 87, 3) := by decide +kernel
theorem dX11_key_45 : decode cX11_key 45 = .ok (.aload_n 0, 1) := by decide +kernel
theorem dX11_key_46 : decode cX11_key 46 = .ok (.getfield 87, 3) := by decide +kernel
theorem dX11_key_49 : decode cX11_key 49 = .ok (.ireturn, 1) := by decide +kernel
theorem dX11_wipe_0 : decode cX11_wipe 0 = .ok (.aload_n 0, 1) := by decide +kernel
theorem dX11_wipe_1 : decode cX11_wipe 1 = .ok (.getfield 87, 3) := by decide +kernel
theorem dX11_wipe_4 : decode cX11_wipe 4 = .ok (.istore_n 1, 1) := by decide +kernel
theorem dX11_wipe_5 : decode cX11_wipe 5 = .ok (.aload_n 0, 1) := by decide +kernel
theorem dX11_wipe_6 : decode cX11_wipe 6 = .ok (.iconst 0, 1) := by decide +kernel
theorem dX11_wipe_7 : decode cX11_wipe 7 = .ok (.putfield 87, 3) := by decide +kernel
theorem dX11_wipe_10 : decode cX11_wipe 10 = .ok (.iload_n 1, 1) := by decide +kernel
theorem dX11_wipe_11 : decode cX11_wipe 11 = .ok (.ireturn, 1) := by decide +kernel
theorem dX11_wordLong_0 : decode cX11_wordLong 0 = .ok (.iconst 0, 1) := by decide +kernel
theorem dX11_wordLong_1 : decode cX11_wordLong 1 = .ok (.istore_n 2, 1) := by decide +kernel
theorem dX11_wordLong_2 : decode cX11_wordLong 2 = .ok (.iload_n 2, 1) := by decide +kernel
theorem dX11_wordLong_3 : decode cX11_wordLong 3 = .ok (.bipush 6, 2) := by decide +kernel
theorem dX11_wordLong_5 : decode cX11_wordLong 5 = .ok (.if_icmp .ge 23, 3) := by decide +kernel
theorem dX11_wordLong_8 : decode cX11_wordLong 8 = .ok (.aload_n 0, 1) := by decide +kernel
theorem dX11_wordLong_9 : decode cX11_wordLong 9 = .ok (.getfield 22, 3) := by decide +kernel
theorem dX11_wordLong_12 : decode cX11_wordLong 12 = .ok (.bipush 6, 2) := by decide +kernel
theorem dX11_wordLong_14 : decode cX11_wordLong 14 = .ok (.iload_n 1, 1) := by decide +kernel
theorem dX11_wordLong_15 : decode cX11_wordLong 15 = .ok (.imul, 1) := by decide +kernel
theorem dX11_wordLong_16 : decode cX11_wordLong 16 = .ok (.iload_n 2, 1) := by decide +kernel
theorem dX11_wordLong_17 : decode cX11_wordLong 17 = .ok (.iadd, 1) := by decide +kernel
theorem dX11_wordLong_18 : decode cX11_wordLong 18 = .ok (.iaload, 1) := by decide +kernel
theorem dX11_wordLong_19 : decode cX11_wordLong 19 = .ok (.ifCond .eq 9, 3) := by decide +kernel
theorem dX11_wordLong_22 : decode cX11_wordLong 22 = .ok (.iinc 2 1, 3) := by decide +kernel
theorem dX11_wordLong_25 : decode cX11_wordLong 25 = .ok (.goto (-23), 3) := by decide +kernel
theorem dX11_wordLong_28 : decode cX11_wordLong 28 = .ok (.iload_n 2, 1) := by decide +kernel
theorem dX11_wordLong_29 : decode cX11_wordLong 29 = .ok (.ireturn, 1) := by decide +kernel
theorem dX11_readsWord_0 : decode cX11_readsWord 0 = .ok (.aload_n 0, 1) := by decide +kernel
theorem dX11_readsWord_1 : decode cX11_readsWord 1 = .ok (.bipush (-9), 2) := by decide +kernel
theorem dX11_readsWord_3 : decode cX11_readsWord 3 = .ok (.putfield 91, 3) := by decide +kernel
theorem dX11_readsWord_6 : decode cX11_readsWord 6 = .ok (.iconst 0, 1) := by decide +kernel
theorem dX11_readsWord_7 : decode cX11_readsWord 7 = .ok (.istore_n 1, 1) := by decide +kernel
theorem dX11_readsWord_8 : decode cX11_readsWord 8 = .ok (.iload_n 1, 1) := by decide +kernel
theorem dX11_readsWord_9 : decode cX11_readsWord 9 = .ok (.bipush 6, 2) := by decide +kernel
theorem dX11_readsWord_11 : decode cX11_readsWord 11 = .ok (.if_icmp .ge 46, 3) := by decide +kernel
theorem dX11_readsWord_14 : decode cX11_readsWord 14 = .ok (.aload_n 0, 1) := by decide +kernel
theorem dX11_readsWord_15 : decode cX11_readsWord 15 = .ok (.getfield 87, 3) := by decide +kernel
theorem dX11_readsWord_18 : decode cX11_readsWord 18 = .ok (.ifCond .le 39, 3) := by decide +kernel
theorem dX11_readsWord_21 : decode cX11_readsWord 21 = .ok (.aload_n 0, 1) := by decide +kernel
theorem dX11_readsWord_22 : decode cX11_readsWord 22 = .ok (.aload_n 0, 1) := by decide +kernel
theorem dX11_readsWord_23 : decode cX11_readsWord 23 = .ok (.getfield 19, 3) := by decide +kernel
theorem dX11_readsWord_26 : decode cX11_readsWord 26 = .ok (.iconst 0, 1) := by decide +kernel
theorem dX11_readsWord_27 : decode cX11_readsWord 27 = .ok (.iaload, 1) := by decide +kernel
theorem dX11_readsWord_28 : decode cX11_readsWord 28 = .ok (.aload_n 0, 1) := by decide +kernel
theorem dX11_readsWord_29 : decode cX11_readsWord 29 = .ok (.getfield 22, 3) := by decide +kernel
theorem dX11_readsWord_32 : decode cX11_readsWord 32 = .ok (.bipush 6, 2) := by decide +kernel
theorem dX11_readsWord_34 : decode cX11_readsWord 34 = .ok (.iload_n 1, 1) := by decide +kernel
theorem dX11_readsWord_35 : decode cX11_readsWord 35 = .ok (.imul, 1) := by decide +kernel
theorem dX11_readsWord_36 : decode cX11_readsWord 36 = .ok (.iaload, 1) := by decide +kernel
theorem dX11_readsWord_37 : decode cX11_readsWord 37 = .ok (.if_icmp .ne 7, 3) := by decide +kernel
theorem dX11_readsWord_40 : decode cX11_readsWord 40 = .ok (.iload_n 1, 1) := by decide +kernel
theorem dX11_readsWord_41 : decode cX11_readsWord 41 = .ok (.goto 7, 3) := by decide +kernel
theorem dX11_readsWord_44 : decode cX11_readsWord 44 = .ok (.aload_n 0, 1) := by decide +kernel
theorem dX11_readsWord_45 : decode cX11_readsWord 45 = .ok (.getfield 91, 3) := by decide +kernel
theorem dX11_readsWord_48 : decode cX11_readsWord 48 = .ok (.putfield 91, 3) := by decide +kernel
theorem dX11_readsWord_51 : decode cX11_readsWord 51 = .ok (.iinc 1 1, 3) := by decide +kernel
theorem dX11_readsWord_54 : decode cX11_readsWord 54 = .ok (.goto (-46), 3) := by decide +kernel
theorem dX11_readsWord_57 : decode cX11_readsWord 57 = .ok (.aload_n 0, 1) := by decide +kernel
theorem dX11_readsWord_58 : decode cX11_readsWord 58 = .ok (.iconst 0, 1) := by decide +kernel
theorem dX11_readsWord_59 : decode cX11_readsWord 59 = .ok (.putfield 94, 3) := by decide +kernel
theorem dX11_readsWord_62 : decode cX11_readsWord 62 = .ok (.aload_n 0, 1) := by decide +kernel
theorem dX11_readsWord_63 : decode cX11_readsWord 63 = .ok (.getfield 91, 3) := by decide +kernel
theorem dX11_readsWord_66 : decode cX11_readsWord 66 = .ok (.bipush (-9), 2) := by decide +kernel
theorem dX11_readsWord_68 : decode cX11_readsWord 68 = .ok (.if_icmp .ne 7, 3) := by decide +kernel
theorem dX11_readsWord_71 : decode cX11_readsWord 71 = .ok (.iconst 1, 1) := by decide +kernel
theorem dX11_readsWord_72 : decode cX11_readsWord 72 = .ok (.goto 11, 3) := by decide +kernel
theorem dX11_readsWord_75 : decode cX11_readsWord 75 = .ok (.aload_n 0, 1) := by decide +kernel
theorem dX11_readsWord_76 : decode cX11_readsWord 76 = .ok (.aload_n 0, 1) := by decide +kernel
theorem dX11_readsWord_77 : decode cX11_readsWord 77 = .ok (.getfield 91, 3) := by decide +kernel
theorem dX11_readsWord_80 : decode cX11_readsWord 80 = .ok (.invokevirtual 97, 3) := by decide +kernel
theorem dX11_readsWord_83 : decode cX11_readsWord 83 = .ok (.istore_n 1, 1) := by decide +kernel
theorem dX11_readsWord_84 : decode cX11_readsWord 84 = .ok (.aload_n 0, 1) := by decide +kernel
theorem dX11_readsWord_85 : decode cX11_readsWord 85 = .ok (.getfield 94, 3) := by decide +kernel
theorem dX11_readsWord_88 : decode cX11_readsWord 88 = .ok (.iload_n 1, 1) := by decide +kernel
theorem dX11_readsWord_89 : decode cX11_readsWord 89 = .ok (.if_icmp .ge 67, 3) := by decide +kernel
theorem dX11_readsWord_92 : decode cX11_readsWord 92 = .ok (.aload_n 0, 1) := by decide +kernel
theorem dX11_readsWord_93 : decode cX11_readsWord 93 = .ok (.getfield 94, 3) := by decide +kernel
theorem dX11_readsWord_96 : decode cX11_readsWord 96 = .ok (.aload_n 0, 1) := by decide +kernel
theorem dX11_readsWord_97 : decode cX11_readsWord 97 = .ok (.getfield 87, 3) := by decide +kernel
theorem dX11_readsWord_100 : decode cX11_readsWord 100 = .ok (.if_icmp .eq 41, 3) := by decide +kernel
theorem dX11_readsWord_103 : decode cX11_readsWord 103 = .ok (.aload_n 0, 1) := by decide +kernel
theorem dX11_readsWord_104 : decode cX11_readsWord 104 = .ok (.getfield 91, 3) := by decide +kernel
theorem dX11_readsWord_107 : decode cX11_readsWord 107 = .ok (.bipush (-9), 2) := by decide +kernel
theorem dX11_readsWord_109 : decode cX11_readsWord 109 = .ok (.if_icmp .eq 32, 3) := by decide +kernel
theorem dX11_readsWord_112 : decode cX11_readsWord 112 = .ok (.aload_n 0, 1) := by decide +kernel
theorem dX11_readsWord_113 : decode cX11_readsWord 113 = .ok (.getfield 19, 3) := by decide +kernel
theorem dX11_readsWord_116 : decode cX11_readsWord 116 = .ok (.aload_n 0, 1) := by decide +kernel
theorem dX11_readsWord_117 : decode cX11_readsWord 117 = .ok (.getfield 94, 3) := by decide +kernel
theorem dX11_readsWord_120 : decode cX11_readsWord 120 = .ok (.iaload, 1) := by decide +kernel
theorem dX11_readsWord_121 : decode cX11_readsWord 121 = .ok (.aload_n 0, 1) := by decide +kernel
theorem dX11_readsWord_122 : decode cX11_readsWord 122 = .ok (.getfield 22, 3) := by decide +kernel
theorem dX11_readsWord_125 : decode cX11_readsWord 125 = .ok (.bipush 6, 2) := by decide +kernel
theorem dX11_readsWord_127 : decode cX11_readsWord 127 = .ok (.aload_n 0, 1) := by decide +kernel
theorem dX11_readsWord_128 : decode cX11_readsWord 128 = .ok (.getfield 91, 3) := by decide +kernel
theorem dX11_readsWord_131 : decode cX11_readsWord 131 = .ok (.imul, 1) := by decide +kernel
theorem dX11_readsWord_132 : decode cX11_readsWord 132 = .ok (.aload_n 0, 1) := by decide +kernel
theorem dX11_readsWord_133 : decode cX11_readsWord 133 = .ok (.getfield 94, 3) := by decide +kernel
theorem dX11_readsWord_136 : decode cX11_readsWord 136 = .ok (.iadd, 1) := by decide +kernel
theorem dX11_readsWord_137 : decode cX11_readsWord 137 = .ok (.iaload, 1) := by decide +kernel
theorem dX11_readsWord_138 : decode cX11_readsWord 138 = .ok (.if_icmp .eq 5, 3) := by decide +kernel
theorem dX11_readsWord_141 : decode cX11_readsWord 141 = .ok (.iconst 0, 1) := by decide +kernel
theorem dX11_readsWord_142 : decode cX11_readsWord 142 = .ok (.ireturn, 1) := by decide +kernel
theorem dX11_readsWord_143 : decode cX11_readsWord 143 = .ok (.aload_n 0, 1) := by decide +kernel
theorem dX11_readsWord_144 : decode cX11_readsWord 144 = .ok (.dup, 1) := by decide +kernel
theorem dX11_readsWord_145 : decode cX11_readsWord 145 = .ok (.getfield 94, 3) := by decide +kernel
theorem dX11_readsWord_148 : decode cX11_readsWord 148 = .ok (.iconst 1, 1) := by decide +kernel
theorem dX11_readsWord_149 : decode cX11_readsWord 149 = .ok (.iadd, 1) := by decide +kernel
theorem dX11_readsWord_150 : decode cX11_readsWord 150 = .ok (.putfield 94, 3) := by decide +kernel
theorem dX11_readsWord_153 : decode cX11_readsWord 153 = .ok (.goto (-69), 3) := by decide +kernel
theorem dX11_readsWord_156 : decode cX11_readsWord 156 = .ok (.iconst 1, 1) := by decide +kernel
theorem dX11_readsWord_157 : decode cX11_readsWord 157 = .ok (.ireturn, 1) := by decide +kernel
theorem dX11_manyNumbers_0 : decode cX11_manyNumbers 0 = .ok (.iload_n 0, 1) := by decide +kernel
theorem dX11_manyNumbers_1 : decode cX11_manyNumbers 1 = .ok (.ifCond .ne 7, 3) := by decide +kernel
theorem dX11_manyNumbers_4 : decode cX11_manyNumbers 4 = .ok (.iconst 3, 1) := by decide +kernel
theorem dX11_manyNumbers_5 : decode cX11_manyNumbers 5 = .ok (.goto 18, 3) := by decide +kernel
theorem dX11_manyNumbers_8 : decode cX11_manyNumbers 8 = .ok (.iload_n 0, 1) := by decide +kernel
theorem dX11_manyNumbers_9 : decode cX11_manyNumbers 9 = .ok (.iconst 1, 1) := by decide +kernel
theorem dX11_manyNumbers_10 : decode cX11_manyNumbers 10 = .ok (.if_icmp .eq 8, 3) := by decide +kernel
theorem dX11_manyNumbers_13 : decode cX11_manyNumbers 13 = .ok (.iload_n 0, 1) := by decide +kernel
theorem dX11_manyNumbers_14 : decode cX11_manyNumbers 14 = .ok (.iconst 5, 1) := by decide +kernel
theorem dX11_manyNumbers_15 : decode cX11_manyNumbers 15 = .ok (.if_icmp .ne 7, 3) := by decide +kernel
theorem dX11_manyNumbers_18 : decode cX11_manyNumbers 18 = .ok (.iconst 2, 1) := by decide +kernel
theorem dX11_manyNumbers_19 : decode cX11_manyNumbers 19 = .ok (.goto 4, 3) := by decide +kernel
theorem dX11_manyNumbers_22 : decode cX11_manyNumbers 22 = .ok (.iconst 1, 1) := by decide +kernel
theorem dX11_manyNumbers_23 : decode cX11_manyNumbers 23 = .ok (.ireturn, 1) := by decide +kernel
theorem dX11_greatest_0 : decode cX11_greatest 0 = .ok (.iload_n 0, 1) := by decide +kernel
theorem dX11_greatest_1 : decode cX11_greatest 1 = .ok (.iconst 2, 1) := by decide +kernel
theorem dX11_greatest_2 : decode cX11_greatest 2 = .ok (.if_icmp .eq 13, 3) := by decide +kernel
theorem dX11_greatest_5 : decode cX11_greatest 5 = .ok (.iload_n 0, 1) := by decide +kernel
theorem dX11_greatest_6 : decode cX11_greatest 6 = .ok (.iconst 3, 1) := by decide +kernel
theorem dX11_greatest_7 : decode cX11_greatest 7 = .ok (.if_icmp .eq 8, 3) := by decide +kernel
theorem dX11_greatest_10 : decode cX11_greatest 10 = .ok (.iload_n 0, 1) := by decide +kernel
theorem dX11_greatest_11 : decode cX11_greatest 11 = .ok (.iconst 4, 1) := by decide +kernel
theorem dX11_greatest_12 : decode cX11_greatest 12 = .ok (.if_icmp .ne 6, 3) := by decide +kernel
theorem dX11_greatest_15 : decode cX11_greatest 15 = .ok (.bipush 39, 2) := by decide +kernel
theorem dX11_greatest_17 : decode cX11_greatest 17 = .ok (.ireturn, 1) := by decide +kernel
theorem dX11_greatest_18 : decode cX11_greatest 18 = .ok (.iload_n 1, 1) := by decide +kernel
theorem dX11_greatest_19 : decode cX11_greatest 19 = .ok (.ifCond .ne 5, 3) := by decide +kernel
theorem dX11_greatest_22 : decode cX11_greatest 22 = .ok (.iconst 3, 1) := by decide +kernel
theorem dX11_greatest_23 : decode cX11_greatest 23 = .ok (.ireturn, 1) := by decide +kernel
theorem dX11_greatest_24 : decode cX11_greatest 24 = .ok (.iload_n 0, 1) := by decide +kernel
theorem dX11_greatest_25 : decode cX11_greatest 25 = .ok (.iconst 5, 1) := by decide +kernel
theorem dX11_greatest_26 : decode cX11_greatest 26 = .ok (.if_icmp .ne 8, 3) := by decide +kernel
theorem dX11_greatest_29 : decode cX11_greatest 29 = .ok (.bipush 9, 2) := by decide +kernel
theorem dX11_greatest_31 : decode cX11_greatest 31 = .ok (.goto 15, 3) := by decide +kernel
theorem dX11_greatest_34 : decode cX11_greatest 34 = .ok (.iload_n 1, 1) := by decide +kernel
theorem dX11_greatest_35 : decode cX11_greatest 35 = .ok (.iconst 1, 1) := by decide +kernel
theorem dX11_greatest_36 : decode cX11_greatest 36 = .ok (.if_icmp .ne 8, 3) := by decide +kernel
theorem dX11_greatest_39 : decode cX11_greatest 39 = .ok (.bipush 39, 2) := by decide +kernel
theorem dX11_greatest_41 : decode cX11_greatest 41 = .ok (.goto 5, 3) := by decide +kernel
theorem dX11_greatest_44 : decode cX11_greatest 44 = .ok (.bipush 100, 2) := by decide +kernel
theorem dX11_greatest_46 : decode cX11_greatest 46 = .ok (.ireturn, 1) := by decide +kernel
theorem dX11_isFigure_0 : decode cX11_isFigure 0 = .ok (.aload_n 0, 1) := by decide +kernel
theorem dX11_isFigure_1 : decode cX11_isFigure 1 = .ok (.getfield 94, 3) := by decide +kernel
theorem dX11_isFigure_4 : decode cX11_isFigure 4 = .ok (.aload_n 0, 1) := by decide +kernel
theorem dX11_isFigure_5 : decode cX11_isFigure 5 = .ok (.getfield 87, 3) := by decide +kernel
theorem dX11_isFigure_8 : decode cX11_isFigure 8 = .ok (.if_icmp .ge 26, 3) := by decide +kernel
theorem dX11_isFigure_11 : decode cX11_isFigure 11 = .ok (.aload_n 0, 1) := by decide +kernel
theorem dX11_isFigure_12 : decode cX11_isFigure 12 = .ok (.getfield 19, 3) := by decide +kernel
theorem dX11_isFigure_15 : decode cX11_isFigure 15 = .ok (.aload_n 0, 1) := by decide +kernel
theorem dX11_isFigure_16 : decode cX11_isFigure 16 = .ok (.getfield 94, 3) := by decide +kernel
theorem dX11_isFigure_19 : decode cX11_isFigure 19 = .ok (.iaload, 1) := by decide +kernel
theorem dX11_isFigure_20 : decode cX11_isFigure 20 = .ok (.bipush 48, 2) := by decide +kernel
theorem dX11_isFigure_22 : decode cX11_isFigure 22 = .ok (.bipush 57, 2) := by decide +kernel
theorem dX11_isFigure_24 : decode cX11_isFigure 24 = .ok (.invokestatic 66, 3) := by decide +kernel
theorem dX11_isFigure_27 : decode cX11_isFigure 27 = .ok (.ifCond .eq 7, 3) := by decide +kernel
theorem dX11_isFigure_30 : decode cX11_isFigure 30 = .ok (.iconst 1, 1) := by decide +kernel
theorem dX11_isFigure_31 : decode cX11_isFigure 31 = .ok (.goto 4, 3) := by decide +kernel
theorem dX11_isFigure_34 : decode cX11_isFigure 34 = .ok (.iconst 0, 1) := by decide +kernel
theorem dX11_isFigure_35 : decode cX11_isFigure 35 = .ok (.ireturn, 1) := by decide +kernel
theorem dX11_readsNumber_0 : decode cX11_readsNumber 0 = .ok (.aload_n 0, 1) := by decide +kernel
theorem dX11_readsNumber_1 : decode cX11_readsNumber 1 = .ok (.getfield 94, 3) := by decide +kernel
theorem dX11_readsNumber_4 : decode cX11_readsNumber 4 = .ok (.aload_n 0, 1) := by decide +kernel
theorem dX11_readsNumber_5 : decode cX11_readsNumber 5 = .ok (.getfield 87, 3) := by decide +kernel
theorem dX11_readsNumber_8 : decode cX11_readsNumber 8 = .ok (.if_icmp .eq 17, 3) := by decide +kernel
theorem dX11_readsNumber_11 : decode cX11_readsNumber 11 = .ok (.aload_n 0, 1) := by decide +kernel
theorem dX11_readsNumber_12 : decode cX11_readsNumber 12 = .ok (.getfield 19, 3) := by decide +kernel
theorem dX11_readsNumber_15 : decode cX11_readsNumber 15 = .ok (.aload_n 0, 1) := by decide +kernel
theorem dX11_readsNumber_16 : decode cX11_readsNumber 16 = .ok (.getfield 94, 3) := by decide +kernel
theorem dX11_readsNumber_19 : decode cX11_readsNumber 19 = .ok (.iaload, 1) := by decide +kernel
theorem dX11_readsNumber_20 : decode cX11_readsNumber 20 = .ok (.bipush 32, 2) := by decide +kernel
theorem dX11_readsNumber_22 : decode cX11_readsNumber 22 = .ok (.if_icmp .eq 5, 3) := by decide +kernel
theorem dX11_readsNumber_25 : decode cX11_readsNumber 25 = .ok (.iconst 0, 1) := by decide +kernel
theorem dX11_readsNumber_26 : decode cX11_readsNumber 26 = .ok (.ireturn, 1) := by decide +kernel
theorem dX11_readsNumber_27 : decode cX11_readsNumber 27 = .ok (.aload_n 0, 1) := by decide +kernel
theorem dX11_readsNumber_28 : decode cX11_readsNumber 28 = .ok (.dup, 1) := by decide +kernel
theorem dX11_readsNumber_29 : decode cX11_readsNumber 29 = .ok (.getfield 94, 3) := by decide +kernel
theorem dX11_readsNumber_32 : decode cX11_readsNumber 32 = .ok (.iconst 1, 1) := by decide +kernel
theorem dX11_readsNumber_33 : decode cX11_readsNumber 33 = .ok (.iadd, 1) := by decide +kernel
theorem dX11_readsNumber_34 : decode cX11_readsNumber 34 = .ok (.putfield 94, 3) := by decide +kernel
theorem dX11_readsNumber_37 : decode cX11_readsNumber 37 = .ok (.iconst 0, 1) := by decide +kernel
theorem dX11_readsNumber_38 : decode cX11_readsNumber 38 = .ok (.istore_n 2, 1) := by decide +kernel
theorem dX11_readsNumber_39 : decode cX11_readsNumber 39 = .ok (.iconst 0, 1) := by decide +kernel
theorem dX11_readsNumber_40 : decode cX11_readsNumber 40 = .ok (.istore_n 3, 1) := by decide +kernel
theorem dX11_readsNumber_41 : decode cX11_readsNumber 41 = .ok (.aload_n 0, 1) := by decide +kernel
theorem dX11_readsNumber_42 : decode cX11_readsNumber 42 = .ok (.invokevirtual 101, 3) := by decide +kernel
theorem dX11_readsNumber_45 : decode cX11_readsNumber 45 = .ok (.ifCond .eq 72, 3) := by decide +kernel
theorem dX11_readsNumber_48 : decode cX11_readsNumber 48 = .ok (.iload_n 3, 1) := by decide +kernel
theorem dX11_readsNumber_49 : decode cX11_readsNumber 49 = .ok (.iconst 3, 1) := by decide +kernel
theorem dX11_readsNumber_50 : decode cX11_readsNumber 50 = .ok (.if_icmp .ge 67, 3) := by decide +kernel
theorem dX11_readsNumber_53 : decode cX11_readsNumber 53 = .ok (.bipush 10, 2) := by decide +kernel
theorem dX11_readsNumber_55 : decode cX11_readsNumber 55 = .ok (.iload_n 2, 1) := by decide +kernel
theorem dX11_readsNumber_56 : decode cX11_readsNumber 56 = .ok (.imul, 1) := by decide +kernel
theorem dX11_readsNumber_57 : decode cX11_readsNumber 57 = .ok (.aload_n 0, 1) := by decide +kernel
theorem dX11_readsNumber_58 : decode cX11_readsNumber 58 = .ok (.getfield 19, 3) := by decide +kernel
theorem dX11_readsNumber_61 : decode cX11_readsNumber 61 = .ok (.aload_n 0, 1) := by decide +kernel
theorem dX11_readsNumber_62 : decode cX11_readsNumber 62 = .ok (.getfield 94, 3) := by decide +kernel
theorem dX11_readsNumber_65 : decode cX11_readsNumber 65 = .ok (.iaload, 1) := by decide +kernel
theorem dX11_readsNumber_66 : decode cX11_readsNumber 66 = .ok (.iadd, 1) := by decide +kernel
theorem dX11_readsNumber_67 : decode cX11_readsNumber 67 = .ok (.bipush 48, 2) := by decide +kernel
theorem dX11_readsNumber_69 : decode cX11_readsNumber 69 = .ok (.isub, 1) := by decide +kernel
theorem dX11_readsNumber_70 : decode cX11_readsNumber 70 = .ok (.aload_n 0, 1) := by decide +kernel
theorem dX11_readsNumber_71 : decode cX11_readsNumber 71 = .ok (.getfield 91, 3) := by decide +kernel
theorem dX11_readsNumber_74 : decode cX11_readsNumber 74 = .ok (.iload_n 1, 1) := by decide +kernel
theorem dX11_readsNumber_75 : decode cX11_readsNumber 75 = .ok (.invokestatic 105, 3) := by decide +kernel
theorem dX11_readsNumber_78 : decode cX11_readsNumber 78 = .ok (.if_icmp .le 5, 3) := by decide +kernel
theorem dX11_readsNumber_81 : decode cX11_readsNumber 81 = .ok (.iconst 0, 1) := by decide +kernel
theorem dX11_readsNumber_82 : decode cX11_readsNumber 82 = .ok (.ireturn, 1) := by decide +kernel
theorem dX11_readsNumber_83 : decode cX11_readsNumber 83 = .ok (.bipush 10, 2) := by decide +kernel
theorem dX11_readsNumber_85 : decode cX11_readsNumber 85 = .ok (.iload_n 2, 1) := by decide +kernel
theorem dX11_readsNumber_86 : decode cX11_readsNumber 86 = .ok (.imul, 1) := by decide +kernel
theorem dX11_readsNumber_87 : decode cX11_readsNumber 87 = .ok (.aload_n 0, 1) := by decide +kernel
theorem dX11_readsNumber_88 : decode cX11_readsNumber 88 = .ok (.getfield 19, 3) := by decide +kernel
theorem dX11_readsNumber_91 : decode cX11_readsNumber 91 = .ok (.aload_n 0, 1) := by decide +kernel
theorem dX11_readsNumber_92 : decode cX11_readsNumber 92 = .ok (.getfield 94, 3) := by decide +kernel
theorem dX11_readsNumber_95 : decode cX11_readsNumber 95 = .ok (.iaload, 1) := by decide +kernel
theorem dX11_readsNumber_96 : decode cX11_readsNumber 96 = .ok (.iadd, 1) := by decide +kernel
theorem dX11_readsNumber_97 : decode cX11_readsNumber 97 = .ok (.bipush 48, 2) := by decide +kernel
theorem dX11_readsNumber_99 : decode cX11_readsNumber 99 = .ok (.isub, 1) := by decide +kernel
theorem dX11_readsNumber_100 : decode cX11_readsNumber 100 = .ok (.istore_n 2, 1) := by decide +kernel
theorem dX11_readsNumber_101 : decode cX11_readsNumber 101 = .ok (.iinc 3 1, 3) := by decide +kernel
theorem dX11_readsNumber_104 : decode cX11_readsNumber 104 = .ok (.aload_n 0, 1) := by decide +kernel
theorem dX11_readsNumber_105 : decode cX11_readsNumber 105 = .ok (.dup, 1) := by decide +kernel
theorem dX11_readsNumber_106 : decode cX11_readsNumber 106 = .ok (.getfield 94, 3) := by decide +kernel
theorem dX11_readsNumber_109 : decode cX11_readsNumber 109 = .ok (.iconst 1, 1) := by decide +kernel
theorem dX11_readsNumber_110 : decode cX11_readsNumber 110 = .ok (.iadd, 1) := by decide +kernel
theorem dX11_readsNumber_111 : decode cX11_readsNumber 111 = .ok (.putfield 94, 3) := by decide +kernel
theorem dX11_readsNumber_114 : decode cX11_readsNumber 114 = .ok (.goto (-73), 3) := by decide +kernel
theorem dX11_readsNumber_117 : decode cX11_readsNumber 117 = .ok (.aload_n 0, 1) := by decide +kernel
theorem dX11_readsNumber_118 : decode cX11_readsNumber 118 = .ok (.getfield 25, 3) := by decide +kernel
theorem dX11_readsNumber_121 : decode cX11_readsNumber 121 = .ok (.iload_n 1, 1) := by decide +kernel
theorem dX11_readsNumber_122 : decode cX11_readsNumber 122 = .ok (.iload_n 2, 1) := by decide +kernel
theorem dX11_readsNumber_123 : decode cX11_readsNumber 123 = .ok (.iastore, 1) := by decide +kernel
theorem dX11_readsNumber_124 : decode cX11_readsNumber 124 = .ok (.iload_n 3, 1) := by decide +kernel
theorem dX11_readsNumber_125 : decode cX11_readsNumber 125 = .ok (.ifCond .le 7, 3) := by decide +kernel
theorem dX11_readsNumber_128 : decode cX11_readsNumber 128 = .ok (.iconst 1, 1) := by decide +kernel
theorem dX11_readsNumber_129 : decode cX11_readsNumber 129 = .ok (.goto 4, 3) := by decide +kernel
theorem dX11_readsNumber_132 : decode cX11_readsNumber 132 = .ok (.iconst 0, 1) := by decide +kernel
theorem dX11_readsNumber_133 : decode cX11_readsNumber 133 = .ok (.ireturn, 1) := by decide +kernel
theorem dX11_readsLine_0 : decode cX11_readsLine 0 = .ok (.aload_n 0, 1) := by decide +kernel
theorem dX11_readsLine_1 : decode cX11_readsLine 1 = .ok (.invokevirtual 108, 3) := by decide +kernel
theorem dX11_readsLine_4 : decode cX11_readsLine 4 = .ok (.ifCond .ne 5, 3) := by decide +kernel
theorem dX11_readsLine_7 : decode cX11_readsLine 7 = .ok (.iconst 0, 1) := by decide +kernel
theorem dX11_readsLine_8 : decode cX11_readsLine 8 = .ok (.ireturn, 1) := by decide +kernel
theorem dX11_readsLine_9 : decode cX11_readsLine 9 = .ok (.iconst 0, 1) := by decide +kernel
theorem dX11_readsLine_10 : decode cX11_readsLine 10 = .ok (.istore_n 1, 1) := by decide +kernel
theorem dX11_readsLine_11 : decode cX11_readsLine 11 = .ok (.iload_n 1, 1) := by decide +kernel
theorem dX11_readsLine_12 : decode cX11_readsLine 12 = .ok (.aload_n 0, 1) := by decide +kernel
theorem dX11_readsLine_13 : decode cX11_readsLine 13 = .ok (.getfield 91, 3) := by decide +kernel
theorem dX11_readsLine_16 : decode cX11_readsLine 16 = .ok (.invokestatic 111, 3) := by decide +kernel
theorem dX11_readsLine_19 : decode cX11_readsLine 19 = .ok (.if_icmp .ge 19, 3) := by decide +kernel
theorem dX11_readsLine_22 : decode cX11_readsLine 22 = .ok (.aload_n 0, 1) := by decide +kernel
theorem dX11_readsLine_23 : decode cX11_readsLine 23 = .ok (.iload_n 1, 1) := by decide +kernel
theorem dX11_readsLine_24 : decode cX11_readsLine 24 = .ok (.invokevirtual 114, 3) := by decide +kernel
theorem dX11_readsLine_27 : decode cX11_readsLine 27 = .ok (.ifCond .ne 5, 3) := by decide +kernel
theorem dX11_readsLine_30 : decode cX11_readsLine 30 = .ok (.iconst 0, 1) := by decide +kernel
theorem dX11_readsLine_31 : decode cX11_readsLine 31 = .ok (.ireturn, 1) := by decide +kernel
theorem dX11_readsLine_32 : decode cX11_readsLine 32 = .ok (.iinc 1 1, 3) := by decide +kernel
theorem dX11_readsLine_35 : decode cX11_readsLine 35 = .ok (.goto (-24), 3) := by decide +kernel
theorem dX11_readsLine_38 : decode cX11_readsLine 38 = .ok (.aload_n 0, 1) := by decide +kernel
theorem dX11_readsLine_39 : decode cX11_readsLine 39 = .ok (.getfield 94, 3) := by decide +kernel
theorem dX11_readsLine_42 : decode cX11_readsLine 42 = .ok (.aload_n 0, 1) := by decide +kernel
theorem dX11_readsLine_43 : decode cX11_readsLine 43 = .ok (.getfield 87, 3) := by decide +kernel
theorem dX11_readsLine_46 : decode cX11_readsLine 46 = .ok (.if_icmp .ne 7, 3) := by decide +kernel
theorem dX11_readsLine_49 : decode cX11_readsLine 49 = .ok (.iconst 1, 1) := by decide +kernel
theorem dX11_readsLine_50 : decode cX11_readsLine 50 = .ok (.goto 4, 3) := by decide +kernel
theorem dX11_readsLine_53 : decode cX11_readsLine 53 = .ok (.iconst 0, 1) := by decide +kernel
theorem dX11_readsLine_54 : decode cX11_readsLine 54 = .ok (.ireturn, 1) := by decide +kernel
theorem dX11_does_0 : decode cX11_does 0 = .ok (.aload_n 0, 1) := by decide +kernel
theorem dX11_does_1 : decode cX11_does 1 = .ok (.getfield 91, 3) := by decide +kernel
theorem dX11_does_4 : decode cX11_does 4 = .ok (.tableswitch 109 0 4 #[36, 59, 76, 87, 98], 36) := by decide +kernel
theorem dX11_does_40 : decode cX11_does 40 = .ok (.aload_n 0, 1) := by decide +kernel
theorem dX11_does_41 : decode cX11_does 41 = .ok (.aload_n 0, 1) := by decide +kernel
theorem dX11_does_42 : decode cX11_does 42 = .ok (.getfield 25, 3) := by decide +kernel
theorem dX11_does_45 : decode cX11_does 45 = .ok (.iconst 0, 1) := by decide +kernel
theorem dX11_does_46 : decode cX11_does 46 = .ok (.iaload, 1) := by decide +kernel
theorem dX11_does_47 : decode cX11_does 47 = .ok (.aload_n 0, 1) := by decide +kernel
theorem dX11_does_48 : decode cX11_does 48 = .ok (.getfield 25, 3) := by decide +kernel
theorem dX11_does_51 : decode cX11_does 51 = .ok (.iconst 1, 1) := by decide +kernel
theorem dX11_does_52 : decode cX11_does 52 = .ok (.iaload, 1) := by decide +kernel
theorem dX11_does_53 : decode cX11_does 53 = .ok (.aload_n 0, 1) := by decide +kernel
theorem dX11_does_54 : decode cX11_does 54 = .ok (.getfield 25, 3) := by decide +kernel
theorem dX11_does_57 : decode cX11_does 57 = .ok (.iconst 2, 1) := by decide +kernel
theorem dX11_does_58 : decode cX11_does 58 = .ok (.iaload, 1) := by decide +kernel
theorem dX11_does_59 : decode cX11_does 59 = .ok (.invokevirtual 124, 3) := by decide +kernel
theorem dX11_does_62 : decode cX11_does 62 = .ok (.ireturn, 1) := by decide +kernel
theorem dX11_does_63 : decode cX11_does 63 = .ok (.aload_n 0, 1) := by decide +kernel
theorem dX11_does_64 : decode cX11_does 64 = .ok (.aload_n 0, 1) := by decide +kernel
theorem dX11_does_65 : decode cX11_does 65 = .ok (.getfield 25, 3) := by decide +kernel
theorem dX11_does_68 : decode cX11_does 68 = .ok (.iconst 0, 1) := by decide +kernel
theorem dX11_does_69 : decode cX11_does 69 = .ok (.iaload, 1) := by decide +kernel
theorem dX11_does_70 : decode cX11_does 70 = .ok (.aload_n 0, 1) := by decide +kernel
theorem dX11_does_71 : decode cX11_does 71 = .ok (.getfield 25, 3) := by decide +kernel
theorem dX11_does_74 : decode cX11_does 74 = .ok (.iconst 1, 1) := by decide +kernel
theorem dX11_does_75 : decode cX11_does 75 = .ok (.iaload, 1) := by decide +kernel
theorem dX11_does_76 : decode cX11_does 76 = .ok (.invokevirtual 128, 3) := by decide +kernel
theorem dX11_does_79 : decode cX11_does 79 = .ok (.ireturn, 1) := by decide +kernel
theorem dX11_does_80 : decode cX11_does 80 = .ok (.aload_n 0, 1) := by decide +kernel
theorem dX11_does_81 : decode cX11_does 81 = .ok (.aload_n 0, 1) := by decide +kernel
theorem dX11_does_82 : decode cX11_does 82 = .ok (.getfield 25, 3) := by decide +kernel
theorem dX11_does_85 : decode cX11_does 85 = .ok (.iconst 0, 1) := by decide +kernel
theorem dX11_does_86 : decode cX11_does 86 = .ok (.iaload, 1) := by decide +kernel
theorem dX11_does_87 : decode cX11_does 87 = .ok (.invokevirtual 131, 3) := by decide +kernel
theorem dX11_does_90 : decode cX11_does 90 = .ok (.ireturn, 1) := by decide +kernel
theorem dX11_does_91 : decode cX11_does 91 = .ok (.aload_n 0, 1) := by decide +kernel
theorem dX11_does_92 : decode cX11_does 92 = .ok (.aload_n 0, 1) := by decide +kernel
theorem dX11_does_93 : decode cX11_does 93 = .ok (.getfield 25, 3) := by decide +kernel
theorem dX11_does_96 : decode cX11_does 96 = .ok (.iconst 0, 1) := by decide +kernel
theorem dX11_does_97 : decode cX11_does 97 = .ok (.iaload, 1) := by decide +kernel
theorem dX11_does_98 : decode cX11_does 98 = .ok (.invokevirtual 134, 3) := by decide +kernel
theorem dX11_does_101 : decode cX11_does 101 = .ok (.ireturn, 1) := by decide +kernel
theorem dX11_does_102 : decode cX11_does 102 = .ok (.aload_n 0, 1) := by decide +kernel
theorem dX11_does_103 : decode cX11_does 103 = .ok (.aload_n 0, 1) := by decide +kernel
theorem dX11_does_104 : decode cX11_does 104 = .ok (.getfield 25, 3) := by decide +kernel
theorem dX11_does_107 : decode cX11_does 107 = .ok (.iconst 0, 1) := by decide +kernel
theorem dX11_does_108 : decode cX11_does 108 = .ok (.iaload, 1) := by decide +kernel
theorem dX11_does_109 : decode cX11_does 109 = .ok (.invokevirtual 137, 3) := by decide +kernel
theorem dX11_does_112 : decode cX11_does 112 = .ok (.ireturn, 1) := by decide +kernel
theorem dX11_does_113 : decode cX11_does 113 = .ok (.aload_n 0, 1) := by decide +kernel
theorem dX11_does_114 : decode cX11_does 114 = .ok (.aload_n 0, 1) := by decide +kernel
theorem dX11_does_115 : decode cX11_does 115 = .ok (.getfield 25, 3) := by decide +kernel
theorem dX11_does_118 : decode cX11_does 118 = .ok (.iconst 0, 1) := by decide +kernel
theorem dX11_does_119 : decode cX11_does 119 = .ok (.iaload, 1) := by decide +kernel
theorem dX11_does_120 : decode cX11_does 120 = .ok (.aload_n 0, 1) := by decide +kernel
theorem dX11_does_121 : decode cX11_does 121 = .ok (.getfield 25, 3) := by decide +kernel
theorem dX11_does_124 : decode cX11_does 124 = .ok (.iconst 1, 1) := by decide +kernel
theorem dX11_does_125 : decode cX11_does 125 = .ok (.iaload, 1) := by decide +kernel
theorem dX11_does_126 : decode cX11_does 126 = .ok (.invokevirtual 140, 3) := by decide +kernel
theorem dX11_does_129 : decode cX11_does 129 = .ok (.ireturn, 1) := by decide +kernel
theorem dX11_line_0 : decode cX11_line 0 = .ok (.aload_n 0, 1) := by decide +kernel
theorem dX11_line_1 : decode cX11_line 1 = .ok (.invokevirtual 117, 3) := by decide +kernel
theorem dX11_line_4 : decode cX11_line 4 = .ok (.ifCond .ne 11, 3) := by decide +kernel
theorem dX11_line_7 : decode cX11_line 7 = .ok (.bipush (-100), 2) := by decide +kernel
theorem dX11_line_9 : decode cX11_line 9 = .ok (.aload_n 0, 1) := by decide +kernel
theorem dX11_line_10 : decode cX11_line 10 = .ok (.getfield 94, 3) := by decide +kernel
theorem dX11_line_13 : decode cX11_line 13 = .ok (.isub, 1) := by decide +kernel
theorem dX11_line_14 : decode cX11_line 14 = .ok (.ireturn, 1) := by decide +kernel
theorem dX11_line_15 : decode cX11_line 15 = .ok (.aload_n 0, 1) := by decide +kernel
theorem dX11_line_16 : decode cX11_line 16 = .ok (.iconst 0, 1) := by decide +kernel
theorem dX11_line_17 : decode cX11_line 17 = .ok (.putfield 87, 3) := by decide +kernel
theorem dX11_line_20 : decode cX11_line 20 = .ok (.aload_n 0, 1) := by decide +kernel
theorem dX11_line_21 : decode cX11_line 21 = .ok (.invokevirtual 120, 3) := by decide +kernel
theorem dX11_line_24 : decode cX11_line 24 = .ok (.sipush 1000, 3) := by decide +kernel
theorem dX11_line_27 : decode cX11_line 27 = .ok (.iadd, 1) := by decide +kernel
theorem dX11_line_28 : decode cX11_line 28 = .ok (.ireturn, 1) := by decide +kernel
theorem dX11_isOnTape_0 : decode cX11_isOnTape 0 = .ok (.aload_n 0, 1) := by decide +kernel
theorem dX11_isOnTape_1 : decode cX11_isOnTape 1 = .ok (.iload_n 1, 1) := by decide +kernel
theorem dX11_isOnTape_2 : decode cX11_isOnTape 2 = .ok (.invokevirtual 97, 3) := by decide +kernel
theorem dX11_isOnTape_5 : decode cX11_isOnTape 5 = .ok (.aload_n 0, 1) := by decide +kernel
theorem dX11_isOnTape_6 : decode cX11_isOnTape 6 = .ok (.getfield 87, 3) := by decide +kernel
theorem dX11_isOnTape_9 : decode cX11_isOnTape 9 = .ok (.if_icmp .eq 5, 3) := by decide +kernel
theorem dX11_isOnTape_12 : decode cX11_isOnTape 12 = .ok (.iconst 0, 1) := by decide +kernel
theorem dX11_isOnTape_13 : decode cX11_isOnTape 13 = .ok (.ireturn, 1) := by decide +kernel
theorem dX11_isOnTape_14 : decode cX11_isOnTape 14 = .ok (.iconst 0, 1) := by decide +kernel
theorem dX11_isOnTape_15 : decode cX11_isOnTape 15 = .ok (.istore_n 2, 1) := by decide +kernel
theorem dX11_isOnTape_16 : decode cX11_isOnTape 16 = .ok (.iload_n 2, 1) := by decide +kernel
theorem dX11_isOnTape_17 : decode cX11_isOnTape 17 = .ok (.aload_n 0, 1) := by decide +kernel
theorem dX11_isOnTape_18 : decode cX11_isOnTape 18 = .ok (.getfield 87, 3) := by decide +kernel
theorem dX11_isOnTape_21 : decode cX11_isOnTape 21 = .ok (.if_icmp .ge 31, 3) := by decide +kernel
theorem dX11_isOnTape_24 : decode cX11_isOnTape 24 = .ok (.aload_n 0, 1) := by decide +kernel
theorem dX11_isOnTape_25 : decode cX11_isOnTape 25 = .ok (.getfield 19, 3) := by decide +kernel
theorem dX11_isOnTape_28 : decode cX11_isOnTape 28 = .ok (.iload_n 2, 1) := by decide +kernel
theorem dX11_isOnTape_29 : decode cX11_isOnTape 29 = .ok (.iaload, 1) := by decide +kernel
theorem dX11_isOnTape_30 : decode cX11_isOnTape 30 = .ok (.aload_n 0, 1) := by decide +kernel
theorem dX11_isOnTape_31 : decode cX11_isOnTape 31 = .ok (.getfield 22, 3) := by decide +kernel
theorem dX11_isOnTape_34 : decode cX11_isOnTape 34 = .ok (.bipush 6, 2) := by decide +kernel
theorem dX11_isOnTape_36 : decode cX11_isOnTape 36 = .ok (.iload_n 1, 1) := by decide +kernel
theorem dX11_isOnTape_37 : decode cX11_isOnTape 37 = .ok (.imul, 1) := by decide +kernel
theorem dX11_isOnTape_38 : decode cX11_isOnTape 38 = .ok (.iload_n 2, 1) := by decide +kernel
theorem dX11_isOnTape_39 : decode cX11_isOnTape 39 = .ok (.iadd, 1) := by decide +kernel
theorem dX11_isOnTape_40 : decode cX11_isOnTape 40 = .ok (.iaload, 1) := by decide +kernel
theorem dX11_isOnTape_41 : decode cX11_isOnTape 41 = .ok (.if_icmp .eq 5, 3) := by decide +kernel
theorem dX11_isOnTape_44 : decode cX11_isOnTape 44 = .ok (.iconst 0, 1) := by decide +kernel
theorem dX11_isOnTape_45 : decode cX11_isOnTape 45 = .ok (.ireturn, 1) := by decide +kernel
theorem dX11_isOnTape_46 : decode cX11_isOnTape 46 = .ok (.iinc 2 1, 3) := by decide +kernel
theorem dX11_isOnTape_49 : decode cX11_isOnTape 49 = .ok (.goto (-33), 3) := by decide +kernel
theorem dX11_isOnTape_52 : decode cX11_isOnTape 52 = .ok (.iconst 1, 1) := by decide +kernel
theorem dX11_isOnTape_53 : decode cX11_isOnTape 53 = .ok (.ireturn, 1) := by decide +kernel
theorem dX11_rule_0 : decode cX11_rule 0 = .ok (.iconst 0, 1) := by decide +kernel
theorem dX11_rule_1 : decode cX11_rule 1 = .ok (.istore_n 1, 1) := by decide +kernel
theorem dX11_rule_2 : decode cX11_rule 2 = .ok (.iload_n 1, 1) := by decide +kernel
theorem dX11_rule_3 : decode cX11_rule 3 = .ok (.iconst 4, 1) := by decide +kernel
theorem dX11_rule_4 : decode cX11_rule 4 = .ok (.if_icmp .ge 32, 3) := by decide +kernel
theorem dX11_rule_7 : decode cX11_rule 7 = .ok (.aload_n 0, 1) := by decide +kernel
theorem dX11_rule_8 : decode cX11_rule 8 = .ok (.bipush 6, 2) := by decide +kernel
theorem dX11_rule_10 : decode cX11_rule 10 = .ok (.iload_n 1, 1) := by decide +kernel
theorem dX11_rule_11 : decode cX11_rule 11 = .ok (.iadd, 1) := by decide +kernel
theorem dX11_rule_12 : decode cX11_rule 12 = .ok (.invokevirtual 143, 3) := by decide +kernel
theorem dX11_rule_15 : decode cX11_rule 15 = .ok (.ifCond .eq 15, 3) := by decide +kernel
theorem dX11_rule_18 : decode cX11_rule 18 = .ok (.aload_n 0, 1) := by decide +kernel
theorem dX11_rule_19 : decode cX11_rule 19 = .ok (.iload_n 1, 1) := by decide +kernel
theorem dX11_rule_20 : decode cX11_rule 20 = .ok (.putfield 146, 3) := by decide +kernel
theorem dX11_rule_23 : decode cX11_rule 23 = .ok (.aload_n 0, 1) := by decide +kernel
theorem dX11_rule_24 : decode cX11_rule 24 = .ok (.iconst 0, 1) := by decide +kernel
theorem dX11_rule_25 : decode cX11_rule 25 = .ok (.putfield 87, 3) := by decide +kernel
theorem dX11_rule_28 : decode cX11_rule 28 = .ok (.iload_n 1, 1) := by decide +kernel
theorem dX11_rule_29 : decode cX11_rule 29 = .ok (.ireturn, 1) := by decide +kernel
theorem dX11_rule_30 : decode cX11_rule 30 = .ok (.iinc 1 1, 3) := by decide +kernel
theorem dX11_rule_33 : decode cX11_rule 33 = .ok (.goto (-31), 3) := by decide +kernel
theorem dX11_rule_36 : decode cX11_rule 36 = .ok (.iconst (-1), 1) := by decide +kernel
theorem dX11_rule_37 : decode cX11_rule 37 = .ok (.ireturn, 1) := by decide +kernel
theorem dX11_missOf_0 : decode cX11_missOf 0 = .ok (.iload_n 2, 1) := by decide +kernel
theorem dX11_missOf_1 : decode cX11_missOf 1 = .ok (.ifCond .eq 10, 3) := by decide +kernel
theorem dX11_missOf_4 : decode cX11_missOf 4 = .ok (.bipush 100, 2) := by decide +kernel
theorem dX11_missOf_6 : decode cX11_missOf 6 = .ok (.iload_n 1, 1) := by decide +kernel
theorem dX11_missOf_7 : decode cX11_missOf 7 = .ok (.isub, 1) := by decide +kernel
theorem dX11_missOf_8 : decode cX11_missOf 8 = .ok (.goto 4, 3) := by decide +kernel
theorem dX11_missOf_11 : decode cX11_missOf 11 = .ok (.iload_n 1, 1) := by decide +kernel
theorem dX11_missOf_12 : decode cX11_missOf 12 = .ok (.istore_n 3, 1) := by decide +kernel
theorem dX11_missOf_13 : decode cX11_missOf 13 = .ok (.aload_n 0, 1) := by decide +kernel
theorem dX11_missOf_14 : decode cX11_missOf 14 = .ok (.getfield 146, 3) := by decide +kernel
theorem dX11_missOf_17 : decode cX11_missOf 17 = .ok (.tableswitch 57 0 2 #[27, 31, 33], 27) := by decide +kernel
theorem dX11_missOf_44 : decode cX11_missOf 44 = .ok (.iload_n 3, 1) := by decide +kernel
theorem dX11_missOf_45 : decode cX11_missOf 45 = .ok (.iload_n 3, 1) := by decide +kernel
theorem dX11_missOf_46 : decode cX11_missOf 46 = .ok (.imul, 1) := by decide +kernel
theorem dX11_missOf_47 : decode cX11_missOf 47 = .ok (.ireturn, 1) := by decide +kernel
theorem dX11_missOf_48 : decode cX11_missOf 48 = .ok (.iload_n 3, 1) := by decide +kernel
theorem dX11_missOf_49 : decode cX11_missOf 49 = .ok (.ireturn, 1) := by decide +kernel
theorem dX11_missOf_50 : decode cX11_missOf 50 = .ok (.iload_n 3, 1) := by decide +kernel
theorem dX11_missOf_51 : decode cX11_missOf 51 = .ok (.bipush 50, 2) := by decide +kernel
theorem dX11_missOf_53 : decode cX11_missOf 53 = .ok (.if_icmp .le 8, 3) := by decide +kernel
theorem dX11_missOf_56 : decode cX11_missOf 56 = .ok (.bipush 100, 2) := by decide +kernel
theorem dX11_missOf_58 : decode cX11_missOf 58 = .ok (.goto 15, 3) := by decide +kernel
theorem dX11_missOf_61 : decode cX11_missOf 61 = .ok (.iload_n 3, 1) := by decide +kernel
theorem dX11_missOf_62 : decode cX11_missOf 62 = .ok (.bipush 50, 2) := by decide +kernel
theorem dX11_missOf_64 : decode cX11_missOf 64 = .ok (.if_icmp .ne 8, 3) := by decide +kernel
theorem dX11_missOf_67 : decode cX11_missOf 67 = .ok (.bipush 50, 2) := by decide +kernel
theorem dX11_missOf_69 : decode cX11_missOf 69 = .ok (.goto 4, 3) := by decide +kernel
theorem dX11_missOf_72 : decode cX11_missOf 72 = .ok (.iconst 0, 1) := by decide +kernel
theorem dX11_missOf_73 : decode cX11_missOf 73 = .ok (.ireturn, 1) := by decide +kernel
theorem dX11_missOf_74 : decode cX11_missOf 74 = .ok (.iload_n 3, 1) := by decide +kernel
theorem dX11_missOf_75 : decode cX11_missOf 75 = .ok (.iload_n 3, 1) := by decide +kernel
theorem dX11_missOf_76 : decode cX11_missOf 76 = .ok (.imul, 1) := by decide +kernel
theorem dX11_missOf_77 : decode cX11_missOf 77 = .ok (.iload_n 3, 1) := by decide +kernel
theorem dX11_missOf_78 : decode cX11_missOf 78 = .ok (.imul, 1) := by decide +kernel
theorem dX11_missOf_79 : decode cX11_missOf 79 = .ok (.ireturn, 1) := by decide +kernel
theorem dX11_miss_0 : decode cX11_miss 0 = .ok (.iload_n 1, 1) := by decide +kernel
theorem dX11_miss_1 : decode cX11_miss 1 = .ok (.iconst 0, 1) := by decide +kernel
theorem dX11_miss_2 : decode cX11_miss 2 = .ok (.bipush 100, 2) := by decide +kernel
theorem dX11_miss_4 : decode cX11_miss 4 = .ok (.invokestatic 66, 3) := by decide +kernel
theorem dX11_miss_7 : decode cX11_miss 7 = .ok (.ifCond .eq 30, 3) := by decide +kernel
theorem dX11_miss_10 : decode cX11_miss 10 = .ok (.iload_n 2, 1) := by decide +kernel
theorem dX11_miss_11 : decode cX11_miss 11 = .ok (.iconst 0, 1) := by decide +kernel
theorem dX11_miss_12 : decode cX11_miss 12 = .ok (.iconst 1, 1) := by decide +kernel
theorem dX11_miss_13 : decode cX11_miss 13 = .ok (.invokestatic 66, 3) := by decide +kernel
theorem dX11_miss_16 : decode cX11_miss 16 = .ok (.ifCond .eq 21, 3) := by decide +kernel
theorem dX11_miss_19 : decode cX11_miss 19 = .ok (.aload_n 0, 1) := by decide +kernel
theorem dX11_miss_20 : decode cX11_miss 20 = .ok (.iload_n 1, 1) := by decide +kernel
theorem dX11_miss_21 : decode cX11_miss 21 = .ok (.iload_n 2, 1) := by decide +kernel
theorem dX11_miss_22 : decode cX11_miss 22 = .ok (.iconst 1, 1) := by decide +kernel
theorem dX11_miss_23 : decode cX11_miss 23 = .ok (.if_icmp .ne 7, 3) := by decide +kernel
theorem dX11_miss_26 : decode cX11_miss 26 = .ok (.iconst 1, 1) := by decide +kernel
theorem dX11_miss_27 : decode cX11_miss 27 = .ok (.goto 4, 3) := by decide +kernel
theorem dX11_miss_30 : decode cX11_miss 30 = .ok (.iconst 0, 1) := by decide +kernel
theorem dX11_miss_31 : decode cX11_miss 31 = .ok (.invokevirtual 149, 3) := by decide +kernel
theorem dX11_miss_34 : decode cX11_miss 34 = .ok (.goto 5, 3) := by decide +kernel
theorem dX11_miss_37 : decode cX11_miss 37 = .ok (.bipush (-2), 2) := by decide +kernel
theorem dX11_miss_39 : decode cX11_miss 39 = .ok (.ireturn, 1) := by decide +kernel
theorem dX11_isCase_0 : decode cX11_isCase 0 = .ok (.aload_n 0, 1) := by decide +kernel
theorem dX11_isCase_1 : decode cX11_isCase 1 = .ok (.getfield 13, 3) := by decide +kernel
theorem dX11_isCase_4 : decode cX11_isCase 4 = .ok (.iload_n 2, 1) := by decide +kernel
theorem dX11_isCase_5 : decode cX11_isCase 5 = .ok (.iaload, 1) := by decide +kernel
theorem dX11_isCase_6 : decode cX11_isCase 6 = .ok (.ifCond .eq 18, 3) := by decide +kernel
theorem dX11_isCase_9 : decode cX11_isCase 9 = .ok (.aload_n 0, 1) := by decide +kernel
theorem dX11_isCase_10 : decode cX11_isCase 10 = .ok (.iload_n 1, 1) := by decide +kernel
theorem dX11_isCase_11 : decode cX11_isCase 11 = .ok (.iload_n 2, 1) := by decide +kernel
theorem dX11_isCase_12 : decode cX11_isCase 12 = .ok (.invokevirtual 84, 3) := by decide +kernel
theorem dX11_isCase_15 : decode cX11_isCase 15 = .ok (.bipush (-9), 2) := by decide +kernel
theorem dX11_isCase_17 : decode cX11_isCase 17 = .ok (.if_icmp .eq 7, 3) := by decide +kernel
theorem dX11_isCase_20 : decode cX11_isCase 20 = .ok (.iconst 1, 1) := by decide +kernel
theorem dX11_isCase_21 : decode cX11_isCase 21 = .ok (.goto 4, 3) := by decide +kernel
theorem dX11_isCase_24 : decode cX11_isCase 24 = .ok (.iconst 0, 1) := by decide +kernel
theorem dX11_isCase_25 : decode cX11_isCase 25 = .ok (.ireturn, 1) := by decide +kernel
theorem dX11_cases_0 : decode cX11_cases 0 = .ok (.iconst 0, 1) := by decide +kernel
theorem dX11_cases_1 : decode cX11_cases 1 = .ok (.istore_n 2, 1) := by decide +kernel
theorem dX11_cases_2 : decode cX11_cases 2 = .ok (.iconst 0, 1) := by decide +kernel
theorem dX11_cases_3 : decode cX11_cases 3 = .ok (.istore_n 3, 1) := by decide +kernel
theorem dX11_cases_4 : decode cX11_cases 4 = .ok (.iload_n 3, 1) := by decide +kernel
theorem dX11_cases_5 : decode cX11_cases 5 = .ok (.bipush 40, 2) := by decide +kernel
theorem dX11_cases_7 : decode cX11_cases 7 = .ok (.if_icmp .ge 26, 3) := by decide +kernel
theorem dX11_cases_10 : decode cX11_cases 10 = .ok (.iload_n 2, 1) := by decide +kernel
theorem dX11_cases_11 : decode cX11_cases 11 = .ok (.aload_n 0, 1) := by decide +kernel
theorem dX11_cases_12 : decode cX11_cases 12 = .ok (.iload_n 1, 1) := by decide +kernel
theorem dX11_cases_13 : decode cX11_cases 13 = .ok (.iload_n 3, 1) := by decide +kernel
theorem dX11_cases_14 : decode cX11_cases 14 = .ok (.invokevirtual 153, 3) := by decide +kernel
theorem dX11_cases_17 : decode cX11_cases 17 = .ok (.ifCond .eq 7, 3) := by decide +kernel
theorem dX11_cases_20 : decode cX11_cases 20 = .ok (.iconst 1, 1) := by decide +kernel
theorem dX11_cases_21 : decode cX11_cases 21 = .ok (.goto 4, 3) := by decide +kernel
theorem dX11_cases_24 : decode cX11_cases 24 = .ok (.iconst 0, 1) := by decide +kernel
theorem dX11_cases_25 : decode cX11_cases 25 = .ok (.iadd, 1) := by decide +kernel
theorem dX11_cases_26 : decode cX11_cases 26 = .ok (.istore_n 2, 1) := by decide +kernel
theorem dX11_cases_27 : decode cX11_cases 27 = .ok (.iinc 3 1, 3) := by decide +kernel
theorem dX11_cases_30 : decode cX11_cases 30 = .ok (.goto (-26), 3) := by decide +kernel
theorem dX11_cases_33 : decode cX11_cases 33 = .ok (.iload_n 2, 1) := by decide +kernel
theorem dX11_cases_34 : decode cX11_cases 34 = .ok (.ireturn, 1) := by decide +kernel
theorem dX11_misses_0 : decode cX11_misses 0 = .ok (.lconst 0, 1) := by decide +kernel
theorem dX11_misses_1 : decode cX11_misses 1 = .ok (.lstore_n 2, 1) := by decide +kernel
theorem dX11_misses_2 : decode cX11_misses 2 = .ok (.iconst 0, 1) := by decide +kernel
theorem dX11_misses_3 : decode cX11_misses 3 = .ok (.istore 4, 2) := by decide +kernel
theorem dX11_misses_5 : decode cX11_misses 5 = .ok (.iload 4, 2) := by decide +kernel
theorem dX11_misses_7 : decode cX11_misses 7 = .ok (.bipush 40, 2) := by decide +kernel
theorem dX11_misses_9 : decode cX11_misses 9 = .ok (.if_icmp .ge 54, 3) := by decide +kernel
theorem dX11_misses_12 : decode cX11_misses 12 = .ok (.lload_n 2, 1) := by decide +kernel
theorem dX11_misses_13 : decode cX11_misses 13 = .ok (.aload_n 0, 1) := by decide +kernel
theorem dX11_misses_14 : decode cX11_misses 14 = .ok (.iload_n 1, 1) := by decide +kernel
theorem dX11_misses_15 : decode cX11_misses 15 = .ok (.iload 4, 2) := by decide +kernel
theorem dX11_misses_17 : decode cX11_misses 17 = .ok (.invokevirtual 153, 3) := by decide +kernel
theorem dX11_misses_20 : decode cX11_misses 20 = .ok (.ifCond .eq 34, 3) := by decide +kernel
theorem dX11_misses_23 : decode cX11_misses 23 = .ok (.aload_n 0, 1) := by decide +kernel
theorem dX11_misses_24 : decode cX11_misses 24 = .ok (.aload_n 0, 1) := by decide +kernel
theorem dX11_misses_25 : decode cX11_misses 25 = .ok (.iload_n 1, 1) := by decide +kernel
theorem dX11_misses_26 : decode cX11_misses 26 = .ok (.iload 4, 2) := by decide +kernel
theorem dX11_misses_28 : decode cX11_misses 28 = .ok (.invokevirtual 84, 3) := by decide +kernel
theorem dX11_misses_31 : decode cX11_misses 31 = .ok (.aload_n 0, 1) := by decide +kernel
theorem dX11_misses_32 : decode cX11_misses 32 = .ok (.getfield 13, 3) := by decide +kernel
theorem dX11_misses_35 : decode cX11_misses 35 = .ok (.iload 4, 2) := by decide +kernel
theorem dX11_misses_37 : decode cX11_misses 37 = .ok (.iaload, 1) := by decide +kernel
theorem dX11_misses_38 : decode cX11_misses 38 = .ok (.iconst 1, 1) := by decide +kernel
theorem dX11_misses_39 : decode cX11_misses 39 = .ok (.if_icmp .ne 7, 3) := by decide +kernel
theorem dX11_misses_42 : decode cX11_misses 42 = .ok (.iconst 1, 1) := by decide +kernel
theorem dX11_misses_43 : decode cX11_misses 43 = .ok (.goto 4, 3) := by decide +kernel
theorem dX11_misses_46 : decode cX11_misses 46 = .ok (.iconst 0, 1) := by decide +kernel
theorem dX11_misses_47 : decode cX11_misses 47 = .ok (.invokevirtual 149, 3) := by decide +kernel
theorem dX11_misses_50 : decode cX11_misses 50 = .ok (.i2l, 1) := by decide +kernel
theorem dX11_misses_51 : decode cX11_misses 51 = .ok (.goto 4, 3) := by decide +kernel
theorem dX11_misses_54 : decode cX11_misses 54 = .ok (.lconst 0, 1) := by decide +kernel
theorem dX11_misses_55 : decode cX11_misses 55 = .ok (.ladd, 1) := by decide +kernel
theorem dX11_misses_56 : decode cX11_misses 56 = .ok (.lstore_n 2, 1) := by decide +kernel
theorem dX11_misses_57 : decode cX11_misses 57 = .ok (.iinc 4 1, 3) := by decide +kernel
theorem dX11_misses_60 : decode cX11_misses 60 = .ok (.goto (-55), 3) := by decide +kernel
theorem dX11_misses_63 : decode cX11_misses 63 = .ok (.lload_n 2, 1) := by decide +kernel
theorem dX11_misses_64 : decode cX11_misses 64 = .ok (.lreturn, 1) := by decide +kernel
theorem dX11_becomesFraction_0 : decode cX11_becomesFraction 0 = .ok (.lload_n 1, 1) := by decide +kernel
theorem dX11_becomesFraction_1 : decode cX11_becomesFraction 1 = .ok (.lconst 0, 1) := by decide +kernel
theorem dX11_becomesFraction_2 : decode cX11_becomesFraction 2 = .ok (.lcmp, 1) := by decide +kernel
theorem dX11_becomesFraction_3 : decode cX11_becomesFraction 3 = .ok (.ifCond .ge 8, 3) := by decide +kernel
theorem dX11_becomesFraction_6 : decode cX11_becomesFraction 6 = .ok (.lload_n 1, 1) := by decide +kernel
theorem dX11_becomesFraction_7 : decode cX11_becomesFraction 7 = .ok (.lneg, 1) := by decide +kernel
theorem dX11_becomesFraction_8 : decode cX11_becomesFraction 8 = .ok (.goto 4, 3) := by decide +kernel
theorem dX11_becomesFraction_11 : decode cX11_becomesFraction 11 = .ok (.lload_n 1, 1) := by decide +kernel
theorem dX11_becomesFraction_12 : decode cX11_becomesFraction 12 = .ok (.lstore 5, 2) := by decide +kernel
theorem dX11_becomesFraction_14 : decode cX11_becomesFraction 14 = .ok (.lload_n 3, 1) := by decide +kernel
theorem dX11_becomesFraction_15 : decode cX11_becomesFraction 15 = .ok (.lstore 7, 2) := by decide +kernel
theorem dX11_becomesFraction_17 : decode cX11_becomesFraction 17 = .ok (.lload 7, 2) := by decide +kernel
theorem dX11_becomesFraction_19 : decode cX11_becomesFraction 19 = .ok (.lconst 0, 1) := by decide +kernel
theorem dX11_becomesFraction_20 : decode cX11_becomesFraction 20 = .ok (.lcmp, 1) := by decide +kernel
theorem dX11_becomesFraction_21 : decode cX11_becomesFraction 21 = .ok (.ifCond .eq 21, 3) := by decide +kernel
theorem dX11_becomesFraction_24 : decode cX11_becomesFraction 24 = .ok (.lload 5, 2) := by decide +kernel
theorem dX11_becomesFraction_26 : decode cX11_becomesFraction 26 = .ok (.lload 7, 2) := by decide +kernel
theorem dX11_becomesFraction_28 : decode cX11_becomesFraction 28 = .ok (.lrem, 1) := by decide +kernel
theorem dX11_becomesFraction_29 : decode cX11_becomesFraction 29 = .ok (.lstore 9, 2) := by decide +kernel
theorem dX11_becomesFraction_31 : decode cX11_becomesFraction 31 = .ok (.lload 7, 2) := by decide +kernel
theorem dX11_becomesFraction_33 : decode cX11_becomesFraction 33 = .ok (.lstore 5, 2) := by decide +kernel
theorem dX11_becomesFraction_35 : decode cX11_becomesFraction 35 = .ok (.lload 9, 2) := by decide +kernel
theorem dX11_becomesFraction_37 : decode cX11_becomesFraction 37 = .ok (.lstore 7, 2) := by decide +kernel
theorem dX11_becomesFraction_39 : decode cX11_becomesFraction 39 = .ok (.goto (-22), 3) := by decide +kernel
theorem dX11_becomesFraction_42 : decode cX11_becomesFraction 42 = .ok (.aload_n 0, 1) := by decide +kernel
theorem dX11_becomesFraction_43 : decode cX11_becomesFraction 43 = .ok (.lload_n 1, 1) := by decide +kernel
theorem dX11_becomesFraction_44 : decode cX11_becomesFraction 44 = .ok (.lload 5, 2) := by decide +kernel
theorem dX11_becomesFraction_46 : decode cX11_becomesFraction 46 = .ok (.ldiv, 1) := by decide +kernel
theorem dX11_becomesFraction_47 : decode cX11_becomesFraction 47 = .ok (.putfield 157, 3) := by decide +kernel
theorem dX11_becomesFraction_50 : decode cX11_becomesFraction 50 = .ok (.aload_n 0, 1) := by decide +kernel
theorem dX11_becomesFraction_51 : decode cX11_becomesFraction 51 = .ok (.lload_n 3, 1) := by decide +kernel
theorem dX11_becomesFraction_52 : decode cX11_becomesFraction 52 = .ok (.lload 5, 2) := by decide +kernel
theorem dX11_becomesFraction_54 : decode cX11_becomesFraction 54 = .ok (.ldiv, 1) := by decide +kernel
theorem dX11_becomesFraction_55 : decode cX11_becomesFraction 55 = .ok (.putfield 28, 3) := by decide +kernel
theorem dX11_becomesFraction_58 : decode cX11_becomesFraction 58 = .ok (.return_, 1) := by decide +kernel
theorem dX11_adds_0 : decode cX11_adds 0 = .ok (.aload_n 0, 1) := by decide +kernel
theorem dX11_adds_1 : decode cX11_adds 1 = .ok (.aload_n 0, 1) := by decide +kernel
theorem dX11_adds_2 : decode cX11_adds 2 = .ok (.getfield 157, 3) := by decide +kernel
theorem dX11_adds_5 : decode cX11_adds 5 = .ok (.lload_n 3, 1) := by decide +kernel
theorem dX11_adds_6 : decode cX11_adds 6 = .ok (.lmul, 1) := by decide +kernel
theorem dX11_adds_7 : decode cX11_adds 7 = .ok (.lload_n 1, 1) := by decide +kernel
theorem dX11_adds_8 : decode cX11_adds 8 = .ok (.aload_n 0, 1) := by decide +kernel
theorem dX11_adds_9 : decode cX11_adds 9 = .ok (.getfield 28, 3) := by decide +kernel
theorem dX11_adds_12 : decode cX11_adds 12 = .ok (.lmul, 1) := by decide +kernel
theorem dX11_adds_13 : decode cX11_adds 13 = .ok (.ladd, 1) := by decide +kernel
theorem dX11_adds_14 : decode cX11_adds 14 = .ok (.aload_n 0, 1) := by decide +kernel
theorem dX11_adds_15 : decode cX11_adds 15 = .ok (.getfield 28, 3) := by decide +kernel
theorem dX11_adds_18 : decode cX11_adds 18 = .ok (.lload_n 3, 1) := by decide +kernel
theorem dX11_adds_19 : decode cX11_adds 19 = .ok (.lmul, 1) := by decide +kernel
theorem dX11_adds_20 : decode cX11_adds 20 = .ok (.invokevirtual 160, 3) := by decide +kernel
theorem dX11_adds_23 : decode cX11_adds 23 = .ok (.return_, 1) := by decide +kernel
theorem dX11_part_0 : decode cX11_part 0 = .ok (.iload_n 1, 1) := by decide +kernel
theorem dX11_part_1 : decode cX11_part 1 = .ok (.ifCond .ne 10, 3) := by decide +kernel
theorem dX11_part_4 : decode cX11_part 4 = .ok (.aload_n 0, 1) := by decide +kernel
theorem dX11_part_5 : decode cX11_part 5 = .ok (.getfield 157, 3) := by decide +kernel
theorem dX11_part_8 : decode cX11_part 8 = .ok (.goto 7, 3) := by decide +kernel
theorem dX11_part_11 : decode cX11_part 11 = .ok (.aload_n 0, 1) := by decide +kernel
theorem dX11_part_12 : decode cX11_part 12 = .ok (.getfield 28, 3) := by decide +kernel
theorem dX11_part_15 : decode cX11_part 15 = .ok (.lreturn, 1) := by decide +kernel
theorem dX11_score_0 : decode cX11_score 0 = .ok (.iload_n 1, 1) := by decide +kernel
theorem dX11_score_1 : decode cX11_score 1 = .ok (.invokestatic 81, 3) := by decide +kernel
theorem dX11_score_4 : decode cX11_score 4 = .ok (.ifCond .eq 20, 3) := by decide +kernel
theorem dX11_score_7 : decode cX11_score 7 = .ok (.iload_n 2, 1) := by decide +kernel
theorem dX11_score_8 : decode cX11_score 8 = .ok (.iconst 0, 1) := by decide +kernel
theorem dX11_score_9 : decode cX11_score 9 = .ok (.iconst 1, 1) := by decide +kernel
theorem dX11_score_10 : decode cX11_score 10 = .ok (.invokestatic 66, 3) := by decide +kernel
theorem dX11_score_13 : decode cX11_score 13 = .ok (.ifCond .eq 11, 3) := by decide +kernel
theorem dX11_score_16 : decode cX11_score 16 = .ok (.aload_n 0, 1) := by decide +kernel
theorem dX11_score_17 : decode cX11_score 17 = .ok (.iload_n 1, 1) := by decide +kernel
theorem dX11_score_18 : decode cX11_score 18 = .ok (.invokevirtual 164, 3) := by decide +kernel
theorem dX11_score_21 : decode cX11_score 21 = .ok (.ifCond .ne 7, 3) := by decide +kernel
theorem dX11_score_24 : decode cX11_score 24 = .ok (.ldc2_w 167, 3) := by decide +kernel
theorem dX11_score_27 : decode cX11_score 27 = .ok (.lreturn, 1) := by decide +kernel
theorem dX11_score_28 : decode cX11_score 28 = .ok (.aload_n 0, 1) := by decide +kernel
theorem dX11_score_29 : decode cX11_score 29 = .ok (.aload_n 0, 1) := by decide +kernel
theorem dX11_score_30 : decode cX11_score 30 = .ok (.iload_n 1, 1) := by decide +kernel
theorem dX11_score_31 : decode cX11_score 31 = .ok (.invokevirtual 169, 3) := by decide +kernel
theorem dX11_score_34 : decode cX11_score 34 = .ok (.aload_n 0, 1) := by decide +kernel
theorem dX11_score_35 : decode cX11_score 35 = .ok (.iload_n 1, 1) := by decide +kernel
theorem dX11_score_36 : decode cX11_score 36 = .ok (.invokevirtual 164, 3) := by decide +kernel
theorem dX11_score_39 : decode cX11_score 39 = .ok (.i2l, 1) := by decide +kernel
theorem dX11_score_40 : decode cX11_score 40 = .ok (.invokevirtual 160, 3) := by decide +kernel
theorem dX11_score_43 : decode cX11_score 43 = .ok (.aload_n 0, 1) := by decide +kernel
theorem dX11_score_44 : decode cX11_score 44 = .ok (.iload_n 2, 1) := by decide +kernel
theorem dX11_score_45 : decode cX11_score 45 = .ok (.invokevirtual 173, 3) := by decide +kernel
theorem dX11_score_48 : decode cX11_score 48 = .ok (.lreturn, 1) := by decide +kernel
theorem dX11_isAhead_0 : decode cX11_isAhead 0 = .ok (.aload_n 0, 1) := by decide +kernel
theorem dX11_isAhead_1 : decode cX11_isAhead 1 = .ok (.iload_n 1, 1) := by decide +kernel
theorem dX11_isAhead_2 : decode cX11_isAhead 2 = .ok (.invokevirtual 169, 3) := by decide +kernel
theorem dX11_isAhead_5 : decode cX11_isAhead 5 = .ok (.aload_n 0, 1) := by decide +kernel
theorem dX11_isAhead_6 : decode cX11_isAhead 6 = .ok (.iload_n 2, 1) := by decide +kernel
theorem dX11_isAhead_7 : decode cX11_isAhead 7 = .ok (.invokevirtual 164, 3) := by decide +kernel
theorem dX11_isAhead_10 : decode cX11_isAhead 10 = .ok (.i2l, 1) := by decide +kernel
theorem dX11_isAhead_11 : decode cX11_isAhead 11 = .ok (.lmul, 1) := by decide +kernel
theorem dX11_isAhead_12 : decode cX11_isAhead 12 = .ok (.lstore_n 3, 1) := by decide +kernel
theorem dX11_isAhead_13 : decode cX11_isAhead 13 = .ok (.aload_n 0, 1) := by decide +kernel
theorem dX11_isAhead_14 : decode cX11_isAhead 14 = .ok (.iload_n 2, 1) := by decide +kernel
theorem dX11_isAhead_15 : decode cX11_isAhead 15 = .ok (.invokevirtual 169, 3) := by decide +kernel
theorem dX11_isAhead_18 : decode cX11_isAhead 18 = .ok (.aload_n 0, 1) := by decide +kernel
theorem dX11_isAhead_19 : decode cX11_isAhead 19 = .ok (.iload_n 1, 1) := by decide +kernel
theorem dX11_isAhead_20 : decode cX11_isAhead 20 = .ok (.invokevirtual 164, 3) := by decide +kernel
theorem dX11_isAhead_23 : decode cX11_isAhead 23 = .ok (.i2l, 1) := by decide +kernel
theorem dX11_isAhead_24 : decode cX11_isAhead 24 = .ok (.lmul, 1) := by decide +kernel
theorem dX11_isAhead_25 : decode cX11_isAhead 25 = .ok (.lstore 5, 2) := by decide +kernel
theorem dX11_isAhead_27 : decode cX11_isAhead 27 = .ok (.lload_n 3, 1) := by decide +kernel
theorem dX11_isAhead_28 : decode cX11_isAhead 28 = .ok (.lload 5, 2) := by decide +kernel
theorem dX11_isAhead_30 : decode cX11_isAhead 30 = .ok (.lcmp, 1) := by decide +kernel
theorem dX11_isAhead_31 : decode cX11_isAhead 31 = .ok (.ifCond .eq 18, 3) := by decide +kernel
theorem dX11_isAhead_34 : decode cX11_isAhead 34 = .ok (.lload_n 3, 1) := by decide +kernel
theorem dX11_isAhead_35 : decode cX11_isAhead 35 = .ok (.lload 5, 2) := by decide +kernel
theorem dX11_isAhead_37 : decode cX11_isAhead 37 = .ok (.lcmp, 1) := by decide +kernel
theorem dX11_isAhead_38 : decode cX11_isAhead 38 = .ok (.ifCond .ge 7, 3) := by decide +kernel
theorem dX11_isAhead_41 : decode cX11_isAhead 41 = .ok (.iconst 1, 1) := by decide +kernel
theorem dX11_isAhead_42 : decode cX11_isAhead 42 = .ok (.goto 17, 3) := by decide +kernel
theorem dX11_isAhead_45 : decode cX11_isAhead 45 = .ok (.iconst 0, 1) := by decide +kernel
theorem dX11_isAhead_46 : decode cX11_isAhead 46 = .ok (.goto 13, 3) := by decide +kernel
theorem dX11_isAhead_49 : decode cX11_isAhead 49 = .ok (.iload_n 1, 1) := by decide +kernel
theorem dX11_isAhead_50 : decode cX11_isAhead 50 = .ok (.iload_n 2, 1) := by decide +kernel
theorem dX11_isAhead_51 : decode cX11_isAhead 51 = .ok (.if_icmp .ge 7, 3) := by decide +kernel
theorem dX11_isAhead_54 : decode cX11_isAhead 54 = .ok (.iconst 1, 1) := by decide +kernel
theorem dX11_isAhead_55 : decode cX11_isAhead 55 = .ok (.goto 4, 3) := by decide +kernel
theorem dX11_isAhead_58 : decode cX11_isAhead 58 = .ok (.iconst 0, 1) := by decide +kernel
theorem dX11_isAhead_59 : decode cX11_isAhead 59 = .ok (.ireturn, 1) := by decide +kernel
theorem dX11_rank_0 : decode cX11_rank 0 = .ok (.iconst 0, 1) := by decide +kernel
theorem dX11_rank_1 : decode cX11_rank 1 = .ok (.istore_n 2, 1) := by decide +kernel
theorem dX11_rank_2 : decode cX11_rank 2 = .ok (.iload_n 2, 1) := by decide +kernel
theorem dX11_rank_3 : decode cX11_rank 3 = .ok (.iconst 4, 1) := by decide +kernel
theorem dX11_rank_4 : decode cX11_rank 4 = .ok (.if_icmp .gt 68, 3) := by decide +kernel
theorem dX11_rank_7 : decode cX11_rank 7 = .ok (.iconst 0, 1) := by decide +kernel
theorem dX11_rank_8 : decode cX11_rank 8 = .ok (.istore_n 3, 1) := by decide +kernel
theorem dX11_rank_9 : decode cX11_rank 9 = .ok (.iconst 0, 1) := by decide +kernel
theorem dX11_rank_10 : decode cX11_rank 10 = .ok (.istore 4, 2) := by decide +kernel
theorem dX11_rank_12 : decode cX11_rank 12 = .ok (.iload 4, 2) := by decide +kernel
theorem dX11_rank_14 : decode cX11_rank 14 = .ok (.iconst 4, 1) := by decide +kernel
theorem dX11_rank_15 : decode cX11_rank 15 = .ok (.if_icmp .gt 36, 3) := by decide +kernel
theorem dX11_rank_18 : decode cX11_rank 18 = .ok (.iload_n 3, 1) := by decide +kernel
theorem dX11_rank_19 : decode cX11_rank 19 = .ok (.aload_n 0, 1) := by decide +kernel
theorem dX11_rank_20 : decode cX11_rank 20 = .ok (.iload 4, 2) := by decide +kernel
theorem dX11_rank_22 : decode cX11_rank 22 = .ok (.invokevirtual 164, 3) := by decide +kernel
theorem dX11_rank_25 : decode cX11_rank 25 = .ok (.ifCond .le 17, 3) := by decide +kernel
theorem dX11_rank_28 : decode cX11_rank 28 = .ok (.aload_n 0, 1) := by decide +kernel
theorem dX11_rank_29 : decode cX11_rank 29 = .ok (.iload 4, 2) := by decide +kernel
theorem dX11_rank_31 : decode cX11_rank 31 = .ok (.iload_n 2, 1) := by decide +kernel
theorem dX11_rank_32 : decode cX11_rank 32 = .ok (.invokevirtual 176, 3) := by decide +kernel
theorem dX11_rank_35 : decode cX11_rank 35 = .ok (.ifCond .eq 7, 3) := by decide +kernel
theorem dX11_rank_38 : decode cX11_rank 38 = .ok (.iconst 1, 1) := by decide +kernel
theorem dX11_rank_39 : decode cX11_rank 39 = .ok (.goto 4, 3) := by decide +kernel
theorem dX11_rank_42 : decode cX11_rank 42 = .ok (.iconst 0, 1) := by decide +kernel
theorem dX11_rank_43 : decode cX11_rank 43 = .ok (.iadd, 1) := by decide +kernel
theorem dX11_rank_44 : decode cX11_rank 44 = .ok (.istore_n 3, 1) := by decide +kernel
theorem dX11_rank_45 : decode cX11_rank 45 = .ok (.iinc 4 1, 3) := by decide +kernel
theorem dX11_rank_48 : decode cX11_rank 48 = .ok (.goto (-36), 3) := by decide +kernel
theorem dX11_rank_51 : decode cX11_rank 51 = .ok (.aload_n 0, 1) := by decide +kernel
theorem dX11_rank_52 : decode cX11_rank 52 = .ok (.iload_n 2, 1) := by decide +kernel
theorem dX11_rank_53 : decode cX11_rank 53 = .ok (.invokevirtual 164, 3) := by decide +kernel
theorem dX11_rank_56 : decode cX11_rank 56 = .ok (.ifCond .le 10, 3) := by decide +kernel
theorem dX11_rank_59 : decode cX11_rank 59 = .ok (.iload_n 3, 1) := by decide +kernel
theorem dX11_rank_60 : decode cX11_rank 60 = .ok (.iload_n 1, 1) := by decide +kernel
theorem dX11_rank_61 : decode cX11_rank 61 = .ok (.if_icmp .ne 5, 3) := by decide +kernel
theorem dX11_rank_64 : decode cX11_rank 64 = .ok (.iload_n 2, 1) := by decide +kernel
theorem dX11_rank_65 : decode cX11_rank 65 = .ok (.ireturn, 1) := by decide +kernel
theorem dX11_rank_66 : decode cX11_rank 66 = .ok (.iinc 2 1, 3) := by decide +kernel
theorem dX11_rank_69 : decode cX11_rank 69 = .ok (.goto (-67), 3) := by decide +kernel
theorem dX11_rank_72 : decode cX11_rank 72 = .ok (.iconst (-1), 1) := by decide +kernel
theorem dX11_rank_73 : decode cX11_rank 73 = .ok (.ireturn, 1) := by decide +kernel
theorem dX11_sumBy_0 : decode cX11_sumBy 0 = .ok (.iload_n 1, 1) := by decide +kernel
theorem dX11_sumBy_1 : decode cX11_sumBy 1 = .ok (.aload_n 0, 1) := by decide +kernel
theorem dX11_sumBy_2 : decode cX11_sumBy 2 = .ok (.iload_n 2, 1) := by decide +kernel
theorem dX11_sumBy_3 : decode cX11_sumBy 3 = .ok (.iconst 1, 1) := by decide +kernel
theorem dX11_sumBy_4 : decode cX11_sumBy 4 = .ok (.invokevirtual 149, 3) := by decide +kernel
theorem dX11_sumBy_7 : decode cX11_sumBy 7 = .ok (.imul, 1) := by decide +kernel
theorem dX11_sumBy_8 : decode cX11_sumBy 8 = .ok (.bipush 100, 2) := by decide +kernel
theorem dX11_sumBy_10 : decode cX11_sumBy 10 = .ok (.iload_n 1, 1) := by decide +kernel
theorem dX11_sumBy_11 : decode cX11_sumBy 11 = .ok (.isub, 1) := by decide +kernel
theorem dX11_sumBy_12 : decode cX11_sumBy 12 = .ok (.aload_n 0, 1) := by decide +kernel
theorem dX11_sumBy_13 : decode cX11_sumBy 13 = .ok (.iload_n 2, 1) := by decide +kernel
theorem dX11_sumBy_14 : decode cX11_sumBy 14 = .ok (.iconst 0, 1) := by decide +kernel
theorem dX11_sumBy_15 : decode cX11_sumBy 15 = .ok (.invokevirtual 149, 3) := by decide +kernel
theorem dX11_sumBy_18 : decode cX11_sumBy 18 = .ok (.imul, 1) := by decide +kernel
theorem dX11_sumBy_19 : decode cX11_sumBy 19 = .ok (.iadd, 1) := by decide +kernel
theorem dX11_sumBy_20 : decode cX11_sumBy 20 = .ok (.ireturn, 1) := by decide +kernel
theorem dX11_lureOf_0 : decode cX11_lureOf 0 = .ok (.iconst 0, 1) := by decide +kernel
theorem dX11_lureOf_1 : decode cX11_lureOf 1 = .ok (.istore_n 2, 1) := by decide +kernel
theorem dX11_lureOf_2 : decode cX11_lureOf 2 = .ok (.iconst 1, 1) := by decide +kernel
theorem dX11_lureOf_3 : decode cX11_lureOf 3 = .ok (.istore_n 3, 1) := by decide +kernel
theorem dX11_lureOf_4 : decode cX11_lureOf 4 = .ok (.iload_n 3, 1) := by decide +kernel
theorem dX11_lureOf_5 : decode cX11_lureOf 5 = .ok (.bipush 100, 2) := by decide +kernel
theorem dX11_lureOf_7 : decode cX11_lureOf 7 = .ok (.if_icmp .gt 30, 3) := by decide +kernel
theorem dX11_lureOf_10 : decode cX11_lureOf 10 = .ok (.aload_n 0, 1) := by decide +kernel
theorem dX11_lureOf_11 : decode cX11_lureOf 11 = .ok (.iload_n 1, 1) := by decide +kernel
theorem dX11_lureOf_12 : decode cX11_lureOf 12 = .ok (.iload_n 3, 1) := by decide +kernel
theorem dX11_lureOf_13 : decode cX11_lureOf 13 = .ok (.invokevirtual 179, 3) := by decide +kernel
theorem dX11_lureOf_16 : decode cX11_lureOf 16 = .ok (.aload_n 0, 1) := by decide +kernel
theorem dX11_lureOf_17 : decode cX11_lureOf 17 = .ok (.iload_n 1, 1) := by decide +kernel
theorem dX11_lureOf_18 : decode cX11_lureOf 18 = .ok (.iload_n 2, 1) := by decide +kernel
theorem dX11_lureOf_19 : decode cX11_lureOf 19 = .ok (.invokevirtual 179, 3) := by decide +kernel
theorem dX11_lureOf_22 : decode cX11_lureOf 22 = .ok (.if_icmp .ge 7, 3) := by decide +kernel
theorem dX11_lureOf_25 : decode cX11_lureOf 25 = .ok (.iload_n 3, 1) := by decide +kernel
theorem dX11_lureOf_26 : decode cX11_lureOf 26 = .ok (.goto 4, 3) := by decide +kernel
theorem dX11_lureOf_29 : decode cX11_lureOf 29 = .ok (.iload_n 2, 1) := by decide +kernel
theorem dX11_lureOf_30 : decode cX11_lureOf 30 = .ok (.istore_n 2, 1) := by decide +kernel
theorem dX11_lureOf_31 : decode cX11_lureOf 31 = .ok (.iinc 3 1, 3) := by decide +kernel
theorem dX11_lureOf_34 : decode cX11_lureOf 34 = .ok (.goto (-30), 3) := by decide +kernel
theorem dX11_lureOf_37 : decode cX11_lureOf 37 = .ok (.iload_n 2, 1) := by decide +kernel
theorem dX11_lureOf_38 : decode cX11_lureOf 38 = .ok (.ireturn, 1) := by decide +kernel
theorem dX11_lure_0 : decode cX11_lure 0 = .ok (.iload_n 1, 1) := by decide +kernel
theorem dX11_lure_1 : decode cX11_lure 1 = .ok (.iconst 0, 1) := by decide +kernel
theorem dX11_lure_2 : decode cX11_lure 2 = .ok (.bipush 100, 2) := by decide +kernel
theorem dX11_lure_4 : decode cX11_lure 4 = .ok (.invokestatic 66, 3) := by decide +kernel
theorem dX11_lure_7 : decode cX11_lure 7 = .ok (.ifCond .eq 11, 3) := by decide +kernel
theorem dX11_lure_10 : decode cX11_lure 10 = .ok (.aload_n 0, 1) := by decide +kernel
theorem dX11_lure_11 : decode cX11_lure 11 = .ok (.iload_n 1, 1) := by decide +kernel
theorem dX11_lure_12 : decode cX11_lure 12 = .ok (.invokevirtual 182, 3) := by decide +kernel
theorem dX11_lure_15 : decode cX11_lure 15 = .ok (.goto 5, 3) := by decide +kernel
theorem dX11_lure_18 : decode cX11_lure 18 = .ok (.bipush (-2), 2) := by decide +kernel
theorem dX11_lure_20 : decode cX11_lure 20 = .ok (.ireturn, 1) := by decide +kernel
theorem dX11_honest_0 : decode cX11_honest 0 = .ok (.iconst 0, 1) := by decide +kernel
theorem dX11_honest_1 : decode cX11_honest 1 = .ok (.istore_n 1, 1) := by decide +kernel
theorem dX11_honest_2 : decode cX11_honest 2 = .ok (.iconst 0, 1) := by decide +kernel
theorem dX11_honest_3 : decode cX11_honest 3 = .ok (.istore_n 2, 1) := by decide +kernel
theorem dX11_honest_4 : decode cX11_honest 4 = .ok (.iload_n 2, 1) := by decide +kernel
theorem dX11_honest_5 : decode cX11_honest 5 = .ok (.bipush 100, 2) := by decide +kernel
theorem dX11_honest_7 : decode cX11_honest 7 = .ok (.if_icmp .gt 36, 3) := by decide +kernel
theorem dX11_honest_10 : decode cX11_honest 10 = .ok (.iload_n 1, 1) := by decide +kernel
theorem dX11_honest_11 : decode cX11_honest 11 = .ok (.aload_n 0, 1) := by decide +kernel
theorem dX11_honest_12 : decode cX11_honest 12 = .ok (.iload_n 2, 1) := by decide +kernel
theorem dX11_honest_13 : decode cX11_honest 13 = .ok (.iload_n 2, 1) := by decide +kernel
theorem dX11_honest_14 : decode cX11_honest 14 = .ok (.invokevirtual 179, 3) := by decide +kernel
theorem dX11_honest_17 : decode cX11_honest 17 = .ok (.aload_n 0, 1) := by decide +kernel
theorem dX11_honest_18 : decode cX11_honest 18 = .ok (.iload_n 2, 1) := by decide +kernel
theorem dX11_honest_19 : decode cX11_honest 19 = .ok (.aload_n 0, 1) := by decide +kernel
theorem dX11_honest_20 : decode cX11_honest 20 = .ok (.iload_n 2, 1) := by decide +kernel
theorem dX11_honest_21 : decode cX11_honest 21 = .ok (.invokevirtual 182, 3) := by decide +kernel
theorem dX11_honest_24 : decode cX11_honest 24 = .ok (.invokevirtual 179, 3) := by decide +kernel
theorem dX11_honest_27 : decode cX11_honest 27 = .ok (.if_icmp .ne 7, 3) := by decide +kernel
theorem dX11_honest_30 : decode cX11_honest 30 = .ok (.iconst 1, 1) := by decide +kernel
theorem dX11_honest_31 : decode cX11_honest 31 = .ok (.goto 4, 3) := by decide +kernel
theorem dX11_honest_34 : decode cX11_honest 34 = .ok (.iconst 0, 1) := by decide +kernel
theorem dX11_honest_35 : decode cX11_honest 35 = .ok (.iadd, 1) := by decide +kernel
theorem dX11_honest_36 : decode cX11_honest 36 = .ok (.istore_n 1, 1) := by decide +kernel
theorem dX11_honest_37 : decode cX11_honest 37 = .ok (.iinc 2 1, 3) := by decide +kernel
theorem dX11_honest_40 : decode cX11_honest 40 = .ok (.goto (-36), 3) := by decide +kernel
theorem dX11_honest_43 : decode cX11_honest 43 = .ok (.iload_n 1, 1) := by decide +kernel
theorem dX11_honest_44 : decode cX11_honest 44 = .ok (.ireturn, 1) := by decide +kernel
theorem dX11_cuts_0 : decode cX11_cuts 0 = .ok (.iconst 0, 1) := by decide +kernel
theorem dX11_cuts_1 : decode cX11_cuts 1 = .ok (.istore_n 1, 1) := by decide +kernel
theorem dX11_cuts_2 : decode cX11_cuts 2 = .ok (.iconst 1, 1) := by decide +kernel
theorem dX11_cuts_3 : decode cX11_cuts 3 = .ok (.istore_n 2, 1) := by decide +kernel
theorem dX11_cuts_4 : decode cX11_cuts 4 = .ok (.iload_n 2, 1) := by decide +kernel
theorem dX11_cuts_5 : decode cX11_cuts 5 = .ok (.bipush 100, 2) := by decide +kernel
theorem dX11_cuts_7 : decode cX11_cuts 7 = .ok (.if_icmp .gt 26, 3) := by decide +kernel
theorem dX11_cuts_10 : decode cX11_cuts 10 = .ok (.iload_n 1, 1) := by decide +kernel
theorem dX11_cuts_11 : decode cX11_cuts 11 = .ok (.aload_n 0, 1) := by decide +kernel
theorem dX11_cuts_12 : decode cX11_cuts 12 = .ok (.getfield 32, 3) := by decide +kernel
theorem dX11_cuts_15 : decode cX11_cuts 15 = .ok (.iload_n 2, 1) := by decide +kernel
theorem dX11_cuts_16 : decode cX11_cuts 16 = .ok (.baload, 1) := by decide +kernel
theorem dX11_cuts_17 : decode cX11_cuts 17 = .ok (.ifCond .eq 7, 3) := by decide +kernel
theorem dX11_cuts_20 : decode cX11_cuts 20 = .ok (.iconst 1, 1) := by decide +kernel
theorem dX11_cuts_21 : decode cX11_cuts 21 = .ok (.goto 4, 3) := by decide +kernel
theorem dX11_cuts_24 : decode cX11_cuts 24 = .ok (.iconst 0, 1) := by decide +kernel
theorem dX11_cuts_25 : decode cX11_cuts 25 = .ok (.iadd, 1) := by decide +kernel
theorem dX11_cuts_26 : decode cX11_cuts 26 = .ok (.istore_n 1, 1) := by decide +kernel
theorem dX11_cuts_27 : decode cX11_cuts 27 = .ok (.iinc 2 1, 3) := by decide +kernel
theorem dX11_cuts_30 : decode cX11_cuts 30 = .ok (.goto (-26), 3) := by decide +kernel
theorem dX11_cuts_33 : decode cX11_cuts 33 = .ok (.iload_n 1, 1) := by decide +kernel
theorem dX11_cuts_34 : decode cX11_cuts 34 = .ok (.ireturn, 1) := by decide +kernel
theorem dX11_cut_0 : decode cX11_cut 0 = .ok (.iload_n 1, 1) := by decide +kernel
theorem dX11_cut_1 : decode cX11_cut 1 = .ok (.iconst 1, 1) := by decide +kernel
theorem dX11_cut_2 : decode cX11_cut 2 = .ok (.bipush 100, 2) := by decide +kernel
theorem dX11_cut_4 : decode cX11_cut 4 = .ok (.invokestatic 66, 3) := by decide +kernel
theorem dX11_cut_7 : decode cX11_cut 7 = .ok (.ifCond .ne 6, 3) := by decide +kernel
theorem dX11_cut_10 : decode cX11_cut 10 = .ok (.bipush (-2), 2) := by decide +kernel
theorem dX11_cut_12 : decode cX11_cut 12 = .ok (.ireturn, 1) := by decide +kernel
theorem dX11_cut_13 : decode cX11_cut 13 = .ok (.aload_n 0, 1) := by decide +kernel
theorem dX11_cut_14 : decode cX11_cut 14 = .ok (.getfield 32, 3) := by decide +kernel
theorem dX11_cut_17 : decode cX11_cut 17 = .ok (.iload_n 1, 1) := by decide +kernel
theorem dX11_cut_18 : decode cX11_cut 18 = .ok (.baload, 1) := by decide +kernel
theorem dX11_cut_19 : decode cX11_cut 19 = .ok (.ifCond .ne 15, 3) := by decide +kernel
theorem dX11_cut_22 : decode cX11_cut 22 = .ok (.aload_n 0, 1) := by decide +kernel
theorem dX11_cut_23 : decode cX11_cut 23 = .ok (.invokevirtual 185, 3) := by decide +kernel
theorem dX11_cut_26 : decode cX11_cut 26 = .ok (.bipush 9, 2) := by decide +kernel
theorem dX11_cut_28 : decode cX11_cut 28 = .ok (.if_icmp .ne 6, 3) := by decide +kernel
theorem dX11_cut_31 : decode cX11_cut 31 = .ok (.bipush (-4), 2) := by decide +kernel
theorem dX11_cut_33 : decode cX11_cut 33 = .ok (.ireturn, 1) := by decide +kernel
theorem dX11_cut_34 : decode cX11_cut 34 = .ok (.aload_n 0, 1) := by decide +kernel
theorem dX11_cut_35 : decode cX11_cut 35 = .ok (.getfield 32, 3) := by decide +kernel
theorem dX11_cut_38 : decode cX11_cut 38 = .ok (.iload_n 1, 1) := by decide +kernel
theorem dX11_cut_39 : decode cX11_cut 39 = .ok (.aload_n 0, 1) := by decide +kernel
theorem dX11_cut_40 : decode cX11_cut 40 = .ok (.getfield 32, 3) := by decide +kernel
theorem dX11_cut_43 : decode cX11_cut 43 = .ok (.iload_n 1, 1) := by decide +kernel
theorem dX11_cut_44 : decode cX11_cut 44 = .ok (.baload, 1) := by decide +kernel
theorem dX11_cut_45 : decode cX11_cut 45 = .ok (.ifCond .ne 7, 3) := by decide +kernel
theorem dX11_cut_48 : decode cX11_cut 48 = .ok (.iconst 1, 1) := by decide +kernel
theorem dX11_cut_49 : decode cX11_cut 49 = .ok (.goto 4, 3) := by decide +kernel
theorem dX11_cut_52 : decode cX11_cut 52 = .ok (.iconst 0, 1) := by decide +kernel
theorem dX11_cut_53 : decode cX11_cut 53 = .ok (.bastore, 1) := by decide +kernel
theorem dX11_cut_54 : decode cX11_cut 54 = .ok (.aload_n 0, 1) := by decide +kernel
theorem dX11_cut_55 : decode cX11_cut 55 = .ok (.invokevirtual 185, 3) := by decide +kernel
theorem dX11_cut_58 : decode cX11_cut 58 = .ok (.ireturn, 1) := by decide +kernel
theorem dX11_binOf_0 : decode cX11_binOf 0 = .ok (.iconst 0, 1) := by decide +kernel
theorem dX11_binOf_1 : decode cX11_binOf 1 = .ok (.istore_n 2, 1) := by decide +kernel
theorem dX11_binOf_2 : decode cX11_binOf 2 = .ok (.iconst 1, 1) := by decide +kernel
theorem dX11_binOf_3 : decode cX11_binOf 3 = .ok (.istore_n 3, 1) := by decide +kernel
theorem dX11_binOf_4 : decode cX11_binOf 4 = .ok (.iload_n 3, 1) := by decide +kernel
theorem dX11_binOf_5 : decode cX11_binOf 5 = .ok (.iload_n 1, 1) := by decide +kernel
theorem dX11_binOf_6 : decode cX11_binOf 6 = .ok (.if_icmp .gt 26, 3) := by decide +kernel
theorem dX11_binOf_9 : decode cX11_binOf 9 = .ok (.iload_n 2, 1) := by decide +kernel
theorem dX11_binOf_10 : decode cX11_binOf 10 = .ok (.aload_n 0, 1) := by decide +kernel
theorem dX11_binOf_11 : decode cX11_binOf 11 = .ok (.getfield 32, 3) := by decide +kernel
theorem dX11_binOf_14 : decode cX11_binOf 14 = .ok (.iload_n 3, 1) := by decide +kernel
theorem dX11_binOf_15 : decode cX11_binOf 15 = .ok (.baload, 1) := by decide +kernel
theorem dX11_binOf_16 : decode cX11_binOf 16 = .ok (.ifCond .eq 7, 3) := by decide +kernel
theorem dX11_binOf_19 : decode cX11_binOf 19 = .ok (.iconst 1, 1) := by decide +kernel
theorem dX11_binOf_20 : decode cX11_binOf 20 = .ok (.goto 4, 3) := by decide +kernel
theorem dX11_binOf_23 : decode cX11_binOf 23 = .ok (.iconst 0, 1) := by decide +kernel
theorem dX11_binOf_24 : decode cX11_binOf 24 = .ok (.iadd, 1) := by decide +kernel
theorem dX11_binOf_25 : decode cX11_binOf 25 = .ok (.istore_n 2, 1) := by decide +kernel
theorem dX11_binOf_26 : decode cX11_binOf 26 = .ok (.iinc 3 1, 3) := by decide +kernel
theorem dX11_binOf_29 : decode cX11_binOf 29 = .ok (.goto (-25), 3) := by decide +kernel
theorem dX11_binOf_32 : decode cX11_binOf 32 = .ok (.iload_n 2, 1) := by decide +kernel
theorem dX11_binOf_33 : decode cX11_binOf 33 = .ok (.ireturn, 1) := by decide +kernel
theorem dX11_counts_0 : decode cX11_counts 0 = .ok (.iconst 0, 1) := by decide +kernel
theorem dX11_counts_1 : decode cX11_counts 1 = .ok (.istore_n 2, 1) := by decide +kernel
theorem dX11_counts_2 : decode cX11_counts 2 = .ok (.iload_n 2, 1) := by decide +kernel
theorem dX11_counts_3 : decode cX11_counts 3 = .ok (.bipush 10, 2) := by decide +kernel
theorem dX11_counts_5 : decode cX11_counts 5 = .ok (.if_icmp .ge 44, 3) := by decide +kernel
theorem dX11_counts_8 : decode cX11_counts 8 = .ok (.aload_n 0, 1) := by decide +kernel
theorem dX11_counts_9 : decode cX11_counts 9 = .ok (.getfield 36, 3) := by decide +kernel
theorem dX11_counts_12 : decode cX11_counts 12 = .ok (.iload_n 2, 1) := by decide +kernel
theorem dX11_counts_13 : decode cX11_counts 13 = .ok (.iconst 0, 1) := by decide +kernel
theorem dX11_counts_14 : decode cX11_counts 14 = .ok (.iastore, 1) := by decide +kernel
theorem dX11_counts_15 : decode cX11_counts 15 = .ok (.aload_n 0, 1) := by decide +kernel
theorem dX11_counts_16 : decode cX11_counts 16 = .ok (.getfield 39, 3) := by decide +kernel
theorem dX11_counts_19 : decode cX11_counts 19 = .ok (.iload_n 2, 1) := by decide +kernel
theorem dX11_counts_20 : decode cX11_counts 20 = .ok (.iconst 0, 1) := by decide +kernel
theorem dX11_counts_21 : decode cX11_counts 21 = .ok (.iastore, 1) := by decide +kernel
theorem dX11_counts_22 : decode cX11_counts 22 = .ok (.aload_n 0, 1) := by decide +kernel
theorem dX11_counts_23 : decode cX11_counts 23 = .ok (.getfield 42, 3) := by decide +kernel
theorem dX11_counts_26 : decode cX11_counts 26 = .ok (.iload_n 2, 1) := by decide +kernel
theorem dX11_counts_27 : decode cX11_counts 27 = .ok (.iconst 0, 1) := by decide +kernel
theorem dX11_counts_28 : decode cX11_counts 28 = .ok (.iastore, 1) := by decide +kernel
theorem dX11_counts_29 : decode cX11_counts 29 = .ok (.aload_n 0, 1) := by decide +kernel
theorem dX11_counts_30 : decode cX11_counts 30 = .ok (.getfield 45, 3) := by decide +kernel
theorem dX11_counts_33 : decode cX11_counts 33 = .ok (.iload_n 2, 1) := by decide +kernel
theorem dX11_counts_34 : decode cX11_counts 34 = .ok (.iconst 0, 1) := by decide +kernel
theorem dX11_counts_35 : decode cX11_counts 35 = .ok (.iastore, 1) := by decide +kernel
theorem dX11_counts_36 : decode cX11_counts 36 = .ok (.aload_n 0, 1) := by decide +kernel
theorem dX11_counts_37 : decode cX11_counts 37 = .ok (.getfield 48, 3) := by decide +kernel
theorem dX11_counts_40 : decode cX11_counts 40 = .ok (.iload_n 2, 1) := by decide +kernel
theorem dX11_counts_41 : decode cX11_counts 41 = .ok (.iconst 0, 1) := by decide +kernel
theorem dX11_counts_42 : decode cX11_counts 42 = .ok (.iastore, 1) := by decide +kernel
theorem dX11_counts_43 : decode cX11_counts 43 = .ok (.iinc 2 1, 3) := by decide +kernel
theorem dX11_counts_46 : decode cX11_counts 46 = .ok (.goto (-44), 3) := by decide +kernel
theorem dX11_counts_49 : decode cX11_counts 49 = .ok (.aload_n 0, 1) := by decide +kernel
theorem dX11_counts_50 : decode cX11_counts 50 = .ok (.iconst 0, 1) := by decide +kernel
theorem dX11_counts_51 : decode cX11_counts 51 = .ok (.putfield 188, 3) := by decide +kernel
theorem dX11_counts_54 : decode cX11_counts 54 = .ok (.aload_n 0, 1) := by decide +kernel
theorem dX11_counts_55 : decode cX11_counts 55 = .ok (.iconst 0, 1) := by decide +kernel
theorem dX11_counts_56 : decode cX11_counts 56 = .ok (.putfield 191, 3) := by decide +kernel
theorem dX11_counts_59 : decode cX11_counts 59 = .ok (.iconst 0, 1) := by decide +kernel
theorem dX11_counts_60 : decode cX11_counts 60 = .ok (.istore_n 2, 1) := by decide +kernel
theorem dX11_counts_61 : decode cX11_counts 61 = .ok (.iload_n 2, 1) := by decide +kernel
theorem dX11_counts_62 : decode cX11_counts 62 = .ok (.bipush 40, 2) := by decide +kernel
theorem dX11_counts_64 : decode cX11_counts 64 = .ok (.if_icmp .ge 131, 3) := by decide +kernel
theorem dX11_counts_67 : decode cX11_counts 67 = .ok (.aload_n 0, 1) := by decide +kernel
theorem dX11_counts_68 : decode cX11_counts 68 = .ok (.iload_n 1, 1) := by decide +kernel
theorem dX11_counts_69 : decode cX11_counts 69 = .ok (.iload_n 2, 1) := by decide +kernel
theorem dX11_counts_70 : decode cX11_counts 70 = .ok (.invokevirtual 153, 3) := by decide +kernel
theorem dX11_counts_73 : decode cX11_counts 73 = .ok (.ifCond .eq 116, 3) := by decide +kernel
theorem dX11_counts_76 : decode cX11_counts 76 = .ok (.aload_n 0, 1) := by decide +kernel
theorem dX11_counts_77 : decode cX11_counts 77 = .ok (.iload_n 1, 1) := by decide +kernel
theorem dX11_counts_78 : decode cX11_counts 78 = .ok (.iload_n 2, 1) := by decide +kernel
theorem dX11_counts_79 : decode cX11_counts 79 = .ok (.invokevirtual 84, 3) := by decide +kernel
theorem dX11_counts_82 : decode cX11_counts 82 = .ok (.istore_n 3, 1) := by decide +kernel
theorem dX11_counts_83 : decode cX11_counts 83 = .ok (.aload_n 0, 1) := by decide +kernel
theorem dX11_counts_84 : decode cX11_counts 84 = .ok (.getfield 13, 3) := by decide +kernel
theorem dX11_counts_87 : decode cX11_counts 87 = .ok (.iload_n 2, 1) := by decide +kernel
theorem dX11_counts_88 : decode cX11_counts 88 = .ok (.iaload, 1) := by decide +kernel
theorem dX11_counts_89 : decode cX11_counts 89 = .ok (.iconst 1, 1) := by decide +kernel
theorem dX11_counts_90 : decode cX11_counts 90 = .ok (.if_icmp .ne 7, 3) := by decide +kernel
theorem dX11_counts_93 : decode cX11_counts 93 = .ok (.iconst 1, 1) := by decide +kernel
theorem dX11_counts_94 : decode cX11_counts 94 = .ok (.goto 4, 3) := by decide +kernel
theorem dX11_counts_97 : decode cX11_counts 97 = .ok (.iconst 0, 1) := by decide +kernel
theorem dX11_counts_98 : decode cX11_counts 98 = .ok (.istore 4, 2) := by decide +kernel
theorem dX11_counts_100 : decode cX11_counts 100 = .ok (.aload_n 0, 1) := by decide +kernel
theorem dX11_counts_101 : decode cX11_counts 101 = .ok (.iload_n 3, 1) := by decide +kernel
theorem dX11_counts_102 : decode cX11_counts 102 = .ok (.invokevirtual 194, 3) := by decide +kernel
theorem dX11_counts_105 : decode cX11_counts 105 = .ok (.istore 5, 2) := by decide +kernel
theorem dX11_counts_107 : decode cX11_counts 107 = .ok (.aload_n 0, 1) := by decide +kernel
theorem dX11_counts_108 : decode cX11_counts 108 = .ok (.getfield 36, 3) := by decide +kernel
theorem dX11_counts_111 : decode cX11_counts 111 = .ok (.iload 5, 2) := by decide +kernel
theorem dX11_counts_113 : decode cX11_counts 113 = .ok (.dup2, 1) := by decide +kernel
theorem dX11_counts_114 : decode cX11_counts 114 = .ok (.iaload, 1) := by decide +kernel
theorem dX11_counts_115 : decode cX11_counts 115 = .ok (.iconst 1, 1) := by decide +kernel
theorem dX11_counts_116 : decode cX11_counts 116 = .ok (.iadd, 1) := by decide +kernel
theorem dX11_counts_117 : decode cX11_counts 117 = .ok (.iastore, 1) := by decide +kernel
theorem dX11_counts_118 : decode cX11_counts 118 = .ok (.aload_n 0, 1) := by decide +kernel
theorem dX11_counts_119 : decode cX11_counts 119 = .ok (.getfield 39, 3) := by decide +kernel
theorem dX11_counts_122 : decode cX11_counts 122 = .ok (.iload 5, 2) := by decide +kernel
theorem dX11_counts_124 : decode cX11_counts 124 = .ok (.dup2, 1) := by decide +kernel
theorem dX11_counts_125 : decode cX11_counts 125 = .ok (.iaload, 1) := by decide +kernel
theorem dX11_counts_126 : decode cX11_counts 126 = .ok (.iload 4, 2) := by decide +kernel
theorem dX11_counts_128 : decode cX11_counts 128 = .ok (.iadd, 1) := by decide +kernel
theorem dX11_counts_129 : decode cX11_counts 129 = .ok (.iastore, 1) := by decide +kernel
theorem dX11_counts_130 : decode cX11_counts 130 = .ok (.aload_n 0, 1) := by decide +kernel
theorem dX11_counts_131 : decode cX11_counts 131 = .ok (.getfield 42, 3) := by decide +kernel
theorem dX11_counts_134 : decode cX11_counts 134 = .ok (.iload 5, 2) := by decide +kernel
theorem dX11_counts_136 : decode cX11_counts 136 = .ok (.dup2, 1) := by decide +kernel
theorem dX11_counts_137 : decode cX11_counts 137 = .ok (.iaload, 1) := by decide +kernel
theorem dX11_counts_138 : decode cX11_counts 138 = .ok (.iload_n 3, 1) := by decide +kernel
theorem dX11_counts_139 : decode cX11_counts 139 = .ok (.iadd, 1) := by decide +kernel
theorem dX11_counts_140 : decode cX11_counts 140 = .ok (.iastore, 1) := by decide +kernel
theorem dX11_counts_141 : decode cX11_counts 141 = .ok (.aload_n 0, 1) := by decide +kernel
theorem dX11_counts_142 : decode cX11_counts 142 = .ok (.getfield 45, 3) := by decide +kernel
theorem dX11_counts_145 : decode cX11_counts 145 = .ok (.iload 5, 2) := by decide +kernel
theorem dX11_counts_147 : decode cX11_counts 147 = .ok (.dup2, 1) := by decide +kernel
theorem dX11_counts_148 : decode cX11_counts 148 = .ok (.iaload, 1) := by decide +kernel
theorem dX11_counts_149 : decode cX11_counts 149 = .ok (.iload_n 3, 1) := by decide +kernel
theorem dX11_counts_150 : decode cX11_counts 150 = .ok (.iload_n 3, 1) := by decide +kernel
theorem dX11_counts_151 : decode cX11_counts 151 = .ok (.imul, 1) := by decide +kernel
theorem dX11_counts_152 : decode cX11_counts 152 = .ok (.iadd, 1) := by decide +kernel
theorem dX11_counts_153 : decode cX11_counts 153 = .ok (.iastore, 1) := by decide +kernel
theorem dX11_counts_154 : decode cX11_counts 154 = .ok (.aload_n 0, 1) := by decide +kernel
theorem dX11_counts_155 : decode cX11_counts 155 = .ok (.getfield 48, 3) := by decide +kernel
theorem dX11_counts_158 : decode cX11_counts 158 = .ok (.iload 5, 2) := by decide +kernel
theorem dX11_counts_160 : decode cX11_counts 160 = .ok (.dup2, 1) := by decide +kernel
theorem dX11_counts_161 : decode cX11_counts 161 = .ok (.iaload, 1) := by decide +kernel
theorem dX11_counts_162 : decode cX11_counts 162 = .ok (.iload_n 3, 1) := by decide +kernel
theorem dX11_counts_163 : decode cX11_counts 163 = .ok (.iload 4, 2) := by decide +kernel
theorem dX11_counts_165 : decode cX11_counts 165 = .ok (.imul, 1) := by decide +kernel
theorem dX11_counts_166 : decode cX11_counts 166 = .ok (.iadd, 1) := by decide +kernel
theorem dX11_counts_167 : decode cX11_counts 167 = .ok (.iastore, 1) := by decide +kernel
theorem dX11_counts_168 : decode cX11_counts 168 = .ok (.aload_n 0, 1) := by decide +kernel
end
section
theorem dX11_counts_169 : decode cX11_counts 169 = .ok (.dup, 1) := by decide +kernel
theorem dX11_counts_170 : decode cX11_counts 170 = .ok (.getfield 188, 3) := by decide +kernel
theorem dX11_counts_173 : decode cX11_counts 173 = .ok (.iconst 1, 1) := by decide +kernel
theorem dX11_counts_174 : decode cX11_counts 174 = .ok (.iadd, 1) := by decide +kernel
theorem dX11_counts_175 : decode cX11_counts 175 = .ok (.putfield 188, 3) := by decide +kernel
theorem dX11_counts_178 : decode cX11_counts 178 = .ok (.aload_n 0, 1) := by decide +kernel
theorem dX11_counts_179 : decode cX11_counts 179 = .ok (.dup, 1) := by decide +kernel
theorem dX11_counts_180 : decode cX11_counts 180 = .ok (.getfield 191, 3) := by decide +kernel
theorem dX11_counts_183 : decode cX11_counts 183 = .ok (.iload 4, 2) := by decide +kernel
theorem dX11_counts_185 : decode cX11_counts 185 = .ok (.iadd, 1) := by decide +kernel
theorem dX11_counts_186 : decode cX11_counts 186 = .ok (.putfield 191, 3) := by decide +kernel
theorem dX11_counts_189 : decode cX11_counts 189 = .ok (.iinc 2 1, 3) := by decide +kernel
theorem dX11_counts_192 : decode cX11_counts 192 = .ok (.goto (-131), 3) := by decide +kernel
theorem dX11_counts_195 : decode cX11_counts 195 = .ok (.return_, 1) := by decide +kernel
theorem dX11_leastIn_0 : decode cX11_leastIn 0 = .ok (.iconst 0, 1) := by decide +kernel
theorem dX11_leastIn_1 : decode cX11_leastIn 1 = .ok (.istore_n 2, 1) := by decide +kernel
theorem dX11_leastIn_2 : decode cX11_leastIn 2 = .ok (.aload_n 0, 1) := by decide +kernel
theorem dX11_leastIn_3 : decode cX11_leastIn 3 = .ok (.iload_n 2, 1) := by decide +kernel
theorem dX11_leastIn_4 : decode cX11_leastIn 4 = .ok (.invokevirtual 194, 3) := by decide +kernel
theorem dX11_leastIn_7 : decode cX11_leastIn 7 = .ok (.iload_n 1, 1) := by decide +kernel
theorem dX11_leastIn_8 : decode cX11_leastIn 8 = .ok (.if_icmp .ge 9, 3) := by decide +kernel
theorem dX11_leastIn_11 : decode cX11_leastIn 11 = .ok (.iinc 2 1, 3) := by decide +kernel
theorem dX11_leastIn_14 : decode cX11_leastIn 14 = .ok (.goto (-12), 3) := by decide +kernel
theorem dX11_leastIn_17 : decode cX11_leastIn 17 = .ok (.iload_n 2, 1) := by decide +kernel
theorem dX11_leastIn_18 : decode cX11_leastIn 18 = .ok (.ireturn, 1) := by decide +kernel
theorem dX11_greatestIn_0 : decode cX11_greatestIn 0 = .ok (.bipush 100, 2) := by decide +kernel
theorem dX11_greatestIn_2 : decode cX11_greatestIn 2 = .ok (.istore_n 2, 1) := by decide +kernel
theorem dX11_greatestIn_3 : decode cX11_greatestIn 3 = .ok (.aload_n 0, 1) := by decide +kernel
theorem dX11_greatestIn_4 : decode cX11_greatestIn 4 = .ok (.iload_n 2, 1) := by decide +kernel
theorem dX11_greatestIn_5 : decode cX11_greatestIn 5 = .ok (.invokevirtual 194, 3) := by decide +kernel
theorem dX11_greatestIn_8 : decode cX11_greatestIn 8 = .ok (.iload_n 1, 1) := by decide +kernel
theorem dX11_greatestIn_9 : decode cX11_greatestIn 9 = .ok (.if_icmp .le 9, 3) := by decide +kernel
theorem dX11_greatestIn_12 : decode cX11_greatestIn 12 = .ok (.iinc 2 (-1), 3) := by decide +kernel
theorem dX11_greatestIn_15 : decode cX11_greatestIn 15 = .ok (.goto (-12), 3) := by decide +kernel
theorem dX11_greatestIn_18 : decode cX11_greatestIn 18 = .ok (.iload_n 2, 1) := by decide +kernel
theorem dX11_greatestIn_19 : decode cX11_greatestIn 19 = .ok (.ireturn, 1) := by decide +kernel
theorem dX11_bin_0 : decode cX11_bin 0 = .ok (.iload_n 1, 1) := by decide +kernel
theorem dX11_bin_1 : decode cX11_bin 1 = .ok (.invokestatic 81, 3) := by decide +kernel
theorem dX11_bin_4 : decode cX11_bin 4 = .ok (.ifCond .eq 15, 3) := by decide +kernel
theorem dX11_bin_7 : decode cX11_bin 7 = .ok (.iload_n 2, 1) := by decide +kernel
theorem dX11_bin_8 : decode cX11_bin 8 = .ok (.iconst 0, 1) := by decide +kernel
theorem dX11_bin_9 : decode cX11_bin 9 = .ok (.aload_n 0, 1) := by decide +kernel
theorem dX11_bin_10 : decode cX11_bin 10 = .ok (.invokevirtual 185, 3) := by decide +kernel
theorem dX11_bin_13 : decode cX11_bin 13 = .ok (.invokestatic 66, 3) := by decide +kernel
theorem dX11_bin_16 : decode cX11_bin 16 = .ok (.ifCond .ne 5, 3) := by decide +kernel
theorem dX11_bin_19 : decode cX11_bin 19 = .ok (.iconst (-1), 1) := by decide +kernel
theorem dX11_bin_20 : decode cX11_bin 20 = .ok (.ireturn, 1) := by decide +kernel
theorem dX11_bin_21 : decode cX11_bin 21 = .ok (.aload_n 0, 1) := by decide +kernel
theorem dX11_bin_22 : decode cX11_bin 22 = .ok (.iload_n 1, 1) := by decide +kernel
theorem dX11_bin_23 : decode cX11_bin 23 = .ok (.invokevirtual 197, 3) := by decide +kernel
theorem dX11_bin_26 : decode cX11_bin 26 = .ok (.iload_n 3, 1) := by decide +kernel
theorem dX11_bin_27 : decode cX11_bin 27 = .ok (.tableswitch 66 0 4 #[33, 40, 47, 54, 60], 33) := by decide +kernel
theorem dX11_bin_60 : decode cX11_bin 60 = .ok (.aload_n 0, 1) := by decide +kernel
theorem dX11_bin_61 : decode cX11_bin 61 = .ok (.getfield 36, 3) := by decide +kernel
theorem dX11_bin_64 : decode cX11_bin 64 = .ok (.iload_n 2, 1) := by decide +kernel
theorem dX11_bin_65 : decode cX11_bin 65 = .ok (.iaload, 1) := by decide +kernel
theorem dX11_bin_66 : decode cX11_bin 66 = .ok (.ireturn, 1) := by decide +kernel
theorem dX11_bin_67 : decode cX11_bin 67 = .ok (.aload_n 0, 1) := by decide +kernel
theorem dX11_bin_68 : decode cX11_bin 68 = .ok (.getfield 39, 3) := by decide +kernel
theorem dX11_bin_71 : decode cX11_bin 71 = .ok (.iload_n 2, 1) := by decide +kernel
theorem dX11_bin_72 : decode cX11_bin 72 = .ok (.iaload, 1) := by decide +kernel
theorem dX11_bin_73 : decode cX11_bin 73 = .ok (.ireturn, 1) := by decide +kernel
theorem dX11_bin_74 : decode cX11_bin 74 = .ok (.aload_n 0, 1) := by decide +kernel
theorem dX11_bin_75 : decode cX11_bin 75 = .ok (.getfield 42, 3) := by decide +kernel
theorem dX11_bin_78 : decode cX11_bin 78 = .ok (.iload_n 2, 1) := by decide +kernel
theorem dX11_bin_79 : decode cX11_bin 79 = .ok (.iaload, 1) := by decide +kernel
theorem dX11_bin_80 : decode cX11_bin 80 = .ok (.ireturn, 1) := by decide +kernel
theorem dX11_bin_81 : decode cX11_bin 81 = .ok (.aload_n 0, 1) := by decide +kernel
theorem dX11_bin_82 : decode cX11_bin 82 = .ok (.iload_n 2, 1) := by decide +kernel
theorem dX11_bin_83 : decode cX11_bin 83 = .ok (.invokevirtual 201, 3) := by decide +kernel
theorem dX11_bin_86 : decode cX11_bin 86 = .ok (.ireturn, 1) := by decide +kernel
theorem dX11_bin_87 : decode cX11_bin 87 = .ok (.aload_n 0, 1) := by decide +kernel
theorem dX11_bin_88 : decode cX11_bin 88 = .ok (.iload_n 2, 1) := by decide +kernel
theorem dX11_bin_89 : decode cX11_bin 89 = .ok (.invokevirtual 204, 3) := by decide +kernel
theorem dX11_bin_92 : decode cX11_bin 92 = .ok (.ireturn, 1) := by decide +kernel
theorem dX11_bin_93 : decode cX11_bin 93 = .ok (.bipush (-2), 2) := by decide +kernel
theorem dX11_bin_95 : decode cX11_bin 95 = .ok (.ireturn, 1) := by decide +kernel
theorem dX11_inBin_0 : decode cX11_inBin 0 = .ok (.aload_n 0, 1) := by decide +kernel
theorem dX11_inBin_1 : decode cX11_inBin 1 = .ok (.getfield 36, 3) := by decide +kernel
theorem dX11_inBin_4 : decode cX11_inBin 4 = .ok (.iload_n 2, 1) := by decide +kernel
theorem dX11_inBin_5 : decode cX11_inBin 5 = .ok (.iaload, 1) := by decide +kernel
theorem dX11_inBin_6 : decode cX11_inBin 6 = .ok (.i2l, 1) := by decide +kernel
theorem dX11_inBin_7 : decode cX11_inBin 7 = .ok (.lstore_n 3, 1) := by decide +kernel
theorem dX11_inBin_8 : decode cX11_inBin 8 = .ok (.aload_n 0, 1) := by decide +kernel
theorem dX11_inBin_9 : decode cX11_inBin 9 = .ok (.getfield 39, 3) := by decide +kernel
theorem dX11_inBin_12 : decode cX11_inBin 12 = .ok (.iload_n 2, 1) := by decide +kernel
theorem dX11_inBin_13 : decode cX11_inBin 13 = .ok (.iaload, 1) := by decide +kernel
theorem dX11_inBin_14 : decode cX11_inBin 14 = .ok (.i2l, 1) := by decide +kernel
theorem dX11_inBin_15 : decode cX11_inBin 15 = .ok (.lstore 5, 2) := by decide +kernel
theorem dX11_inBin_17 : decode cX11_inBin 17 = .ok (.aload_n 0, 1) := by decide +kernel
theorem dX11_inBin_18 : decode cX11_inBin 18 = .ok (.getfield 42, 3) := by decide +kernel
theorem dX11_inBin_21 : decode cX11_inBin 21 = .ok (.iload_n 2, 1) := by decide +kernel
theorem dX11_inBin_22 : decode cX11_inBin 22 = .ok (.iaload, 1) := by decide +kernel
theorem dX11_inBin_23 : decode cX11_inBin 23 = .ok (.i2l, 1) := by decide +kernel
theorem dX11_inBin_24 : decode cX11_inBin 24 = .ok (.lstore 7, 2) := by decide +kernel
theorem dX11_inBin_26 : decode cX11_inBin 26 = .ok (.iload_n 1, 1) := by decide +kernel
theorem dX11_inBin_27 : decode cX11_inBin 27 = .ok (.iconst 1, 1) := by decide +kernel
theorem dX11_inBin_28 : decode cX11_inBin 28 = .ok (.if_icmp .ne 22, 3) := by decide +kernel
theorem dX11_inBin_31 : decode cX11_inBin 31 = .ok (.lload 5, 2) := by decide +kernel
theorem dX11_inBin_33 : decode cX11_inBin 33 = .ok (.aload_n 0, 1) := by decide +kernel
theorem dX11_inBin_34 : decode cX11_inBin 34 = .ok (.getfield 188, 3) := by decide +kernel
theorem dX11_inBin_37 : decode cX11_inBin 37 = .ok (.i2l, 1) := by decide +kernel
theorem dX11_inBin_38 : decode cX11_inBin 38 = .ok (.lmul, 1) := by decide +kernel
theorem dX11_inBin_39 : decode cX11_inBin 39 = .ok (.aload_n 0, 1) := by decide +kernel
theorem dX11_inBin_40 : decode cX11_inBin 40 = .ok (.getfield 191, 3) := by decide +kernel
theorem dX11_inBin_43 : decode cX11_inBin 43 = .ok (.i2l, 1) := by decide +kernel
theorem dX11_inBin_44 : decode cX11_inBin 44 = .ok (.lload_n 3, 1) := by decide +kernel
theorem dX11_inBin_45 : decode cX11_inBin 45 = .ok (.lmul, 1) := by decide +kernel
theorem dX11_inBin_46 : decode cX11_inBin 46 = .ok (.lsub, 1) := by decide +kernel
theorem dX11_inBin_47 : decode cX11_inBin 47 = .ok (.goto 12, 3) := by decide +kernel
theorem dX11_inBin_50 : decode cX11_inBin 50 = .ok (.lload 7, 2) := by decide +kernel
theorem dX11_inBin_52 : decode cX11_inBin 52 = .ok (.ldc2_w 207, 3) := by decide +kernel
theorem dX11_inBin_55 : decode cX11_inBin 55 = .ok (.lload 5, 2) := by decide +kernel
theorem dX11_inBin_57 : decode cX11_inBin 57 = .ok (.lmul, 1) := by decide +kernel
theorem dX11_inBin_58 : decode cX11_inBin 58 = .ok (.lsub, 1) := by decide +kernel
theorem dX11_inBin_59 : decode cX11_inBin 59 = .ok (.lstore 9, 2) := by decide +kernel
theorem dX11_inBin_61 : decode cX11_inBin 61 = .ok (.iload_n 1, 1) := by decide +kernel
theorem dX11_inBin_62 : decode cX11_inBin 62 = .ok (.tableswitch 48 1 3 #[26, 26, 32], 26) := by decide +kernel
theorem dX11_inBin_88 : decode cX11_inBin 88 = .ok (.lload 9, 2) := by decide +kernel
theorem dX11_inBin_90 : decode cX11_inBin 90 = .ok (.lload 9, 2) := by decide +kernel
theorem dX11_inBin_92 : decode cX11_inBin 92 = .ok (.lmul, 1) := by decide +kernel
theorem dX11_inBin_93 : decode cX11_inBin 93 = .ok (.lreturn, 1) := by decide +kernel
theorem dX11_inBin_94 : decode cX11_inBin 94 = .ok (.lload_n 3, 1) := by decide +kernel
theorem dX11_inBin_95 : decode cX11_inBin 95 = .ok (.aload_n 0, 1) := by decide +kernel
theorem dX11_inBin_96 : decode cX11_inBin 96 = .ok (.getfield 45, 3) := by decide +kernel
theorem dX11_inBin_99 : decode cX11_inBin 99 = .ok (.iload_n 2, 1) := by decide +kernel
theorem dX11_inBin_100 : decode cX11_inBin 100 = .ok (.iaload, 1) := by decide +kernel
theorem dX11_inBin_101 : decode cX11_inBin 101 = .ok (.i2l, 1) := by decide +kernel
theorem dX11_inBin_102 : decode cX11_inBin 102 = .ok (.lmul, 1) := by decide +kernel
theorem dX11_inBin_103 : decode cX11_inBin 103 = .ok (.lload 7, 2) := by decide +kernel
theorem dX11_inBin_105 : decode cX11_inBin 105 = .ok (.lload 7, 2) := by decide +kernel
theorem dX11_inBin_107 : decode cX11_inBin 107 = .ok (.lmul, 1) := by decide +kernel
theorem dX11_inBin_108 : decode cX11_inBin 108 = .ok (.lsub, 1) := by decide +kernel
theorem dX11_inBin_109 : decode cX11_inBin 109 = .ok (.lreturn, 1) := by decide +kernel
theorem dX11_inBin_110 : decode cX11_inBin 110 = .ok (.ldc2_w 209, 3) := by decide +kernel
theorem dX11_inBin_113 : decode cX11_inBin 113 = .ok (.lload_n 3, 1) := by decide +kernel
theorem dX11_inBin_114 : decode cX11_inBin 114 = .ok (.aload_n 0, 1) := by decide +kernel
theorem dX11_inBin_115 : decode cX11_inBin 115 = .ok (.getfield 48, 3) := by decide +kernel
theorem dX11_inBin_118 : decode cX11_inBin 118 = .ok (.iload_n 2, 1) := by decide +kernel
theorem dX11_inBin_119 : decode cX11_inBin 119 = .ok (.iaload, 1) := by decide +kernel
theorem dX11_inBin_120 : decode cX11_inBin 120 = .ok (.i2l, 1) := by decide +kernel
theorem dX11_inBin_121 : decode cX11_inBin 121 = .ok (.lmul, 1) := by decide +kernel
theorem dX11_inBin_122 : decode cX11_inBin 122 = .ok (.lload 7, 2) := by decide +kernel
theorem dX11_inBin_124 : decode cX11_inBin 124 = .ok (.lload 5, 2) := by decide +kernel
theorem dX11_inBin_126 : decode cX11_inBin 126 = .ok (.lmul, 1) := by decide +kernel
theorem dX11_inBin_127 : decode cX11_inBin 127 = .ok (.lsub, 1) := by decide +kernel
theorem dX11_inBin_128 : decode cX11_inBin 128 = .ok (.lmul, 1) := by decide +kernel
theorem dX11_inBin_129 : decode cX11_inBin 129 = .ok (.lreturn, 1) := by decide +kernel
theorem dX11_wholeOf_0 : decode cX11_wholeOf 0 = .ok (.aload_n 0, 1) := by decide +kernel
theorem dX11_wholeOf_1 : decode cX11_wholeOf 1 = .ok (.getfield 188, 3) := by decide +kernel
theorem dX11_wholeOf_4 : decode cX11_wholeOf 4 = .ok (.i2l, 1) := by decide +kernel
theorem dX11_wholeOf_5 : decode cX11_wholeOf 5 = .ok (.lstore_n 2, 1) := by decide +kernel
theorem dX11_wholeOf_6 : decode cX11_wholeOf 6 = .ok (.iload_n 1, 1) := by decide +kernel
theorem dX11_wholeOf_7 : decode cX11_wholeOf 7 = .ok (.iconst 1, 1) := by decide +kernel
theorem dX11_wholeOf_8 : decode cX11_wholeOf 8 = .ok (.if_icmp .ne 11, 3) := by decide +kernel
theorem dX11_wholeOf_11 : decode cX11_wholeOf 11 = .ok (.lload_n 2, 1) := by decide +kernel
theorem dX11_wholeOf_12 : decode cX11_wholeOf 12 = .ok (.lload_n 2, 1) := by decide +kernel
theorem dX11_wholeOf_13 : decode cX11_wholeOf 13 = .ok (.lmul, 1) := by decide +kernel
theorem dX11_wholeOf_14 : decode cX11_wholeOf 14 = .ok (.lload_n 2, 1) := by decide +kernel
theorem dX11_wholeOf_15 : decode cX11_wholeOf 15 = .ok (.lmul, 1) := by decide +kernel
theorem dX11_wholeOf_16 : decode cX11_wholeOf 16 = .ok (.goto 21, 3) := by decide +kernel
theorem dX11_wholeOf_19 : decode cX11_wholeOf 19 = .ok (.iload_n 1, 1) := by decide +kernel
theorem dX11_wholeOf_20 : decode cX11_wholeOf 20 = .ok (.iconst 4, 1) := by decide +kernel
theorem dX11_wholeOf_21 : decode cX11_wholeOf 21 = .ok (.if_icmp .ne 11, 3) := by decide +kernel
theorem dX11_wholeOf_24 : decode cX11_wholeOf 24 = .ok (.ldc2_w 207, 3) := by decide +kernel
theorem dX11_wholeOf_27 : decode cX11_wholeOf 27 = .ok (.lload_n 2, 1) := by decide +kernel
theorem dX11_wholeOf_28 : decode cX11_wholeOf 28 = .ok (.lmul, 1) := by decide +kernel
theorem dX11_wholeOf_29 : decode cX11_wholeOf 29 = .ok (.goto 8, 3) := by decide +kernel
theorem dX11_wholeOf_32 : decode cX11_wholeOf 32 = .ok (.ldc2_w 211, 3) := by decide +kernel
theorem dX11_wholeOf_35 : decode cX11_wholeOf 35 = .ok (.lload_n 2, 1) := by decide +kernel
theorem dX11_wholeOf_36 : decode cX11_wholeOf 36 = .ok (.lmul, 1) := by decide +kernel
theorem dX11_wholeOf_37 : decode cX11_wholeOf 37 = .ok (.lreturn, 1) := by decide +kernel
theorem dX11_addPart_0 : decode cX11_addPart 0 = .ok (.aload_n 0, 1) := by decide +kernel
theorem dX11_addPart_1 : decode cX11_addPart 1 = .ok (.getfield 188, 3) := by decide +kernel
theorem dX11_addPart_4 : decode cX11_addPart 4 = .ok (.i2l, 1) := by decide +kernel
theorem dX11_addPart_5 : decode cX11_addPart 5 = .ok (.lstore_n 3, 1) := by decide +kernel
theorem dX11_addPart_6 : decode cX11_addPart 6 = .ok (.iload_n 1, 1) := by decide +kernel
theorem dX11_addPart_7 : decode cX11_addPart 7 = .ok (.ifCond .ne 27, 3) := by decide +kernel
theorem dX11_addPart_10 : decode cX11_addPart 10 = .ok (.aload_n 0, 1) := by decide +kernel
theorem dX11_addPart_11 : decode cX11_addPart 11 = .ok (.iload_n 2, 1) := by decide +kernel
theorem dX11_addPart_12 : decode cX11_addPart 12 = .ok (.i2l, 1) := by decide +kernel
theorem dX11_addPart_13 : decode cX11_addPart 13 = .ok (.aload_n 0, 1) := by decide +kernel
theorem dX11_addPart_14 : decode cX11_addPart 14 = .ok (.getfield 191, 3) := by decide +kernel
theorem dX11_addPart_17 : decode cX11_addPart 17 = .ok (.i2l, 1) := by decide +kernel
theorem dX11_addPart_18 : decode cX11_addPart 18 = .ok (.lmul, 1) := by decide +kernel
theorem dX11_addPart_19 : decode cX11_addPart 19 = .ok (.lload_n 3, 1) := by decide +kernel
theorem dX11_addPart_20 : decode cX11_addPart 20 = .ok (.aload_n 0, 1) := by decide +kernel
theorem dX11_addPart_21 : decode cX11_addPart 21 = .ok (.getfield 191, 3) := by decide +kernel
theorem dX11_addPart_24 : decode cX11_addPart 24 = .ok (.i2l, 1) := by decide +kernel
theorem dX11_addPart_25 : decode cX11_addPart 25 = .ok (.lsub, 1) := by decide +kernel
theorem dX11_addPart_26 : decode cX11_addPart 26 = .ok (.lmul, 1) := by decide +kernel
theorem dX11_addPart_27 : decode cX11_addPart 27 = .ok (.lload_n 3, 1) := by decide +kernel
theorem dX11_addPart_28 : decode cX11_addPart 28 = .ok (.lload_n 3, 1) := by decide +kernel
theorem dX11_addPart_29 : decode cX11_addPart 29 = .ok (.lmul, 1) := by decide +kernel
theorem dX11_addPart_30 : decode cX11_addPart 30 = .ok (.invokevirtual 213, 3) := by decide +kernel
theorem dX11_addPart_33 : decode cX11_addPart 33 = .ok (.return_, 1) := by decide +kernel
theorem dX11_addPart_34 : decode cX11_addPart 34 = .ok (.iconst 0, 1) := by decide +kernel
theorem dX11_addPart_35 : decode cX11_addPart 35 = .ok (.istore 5, 2) := by decide +kernel
theorem dX11_addPart_37 : decode cX11_addPart 37 = .ok (.iload 5, 2) := by decide +kernel
theorem dX11_addPart_39 : decode cX11_addPart 39 = .ok (.aload_n 0, 1) := by decide +kernel
theorem dX11_addPart_40 : decode cX11_addPart 40 = .ok (.invokevirtual 185, 3) := by decide +kernel
theorem dX11_addPart_43 : decode cX11_addPart 43 = .ok (.if_icmp .gt 47, 3) := by decide +kernel
theorem dX11_addPart_46 : decode cX11_addPart 46 = .ok (.aload_n 0, 1) := by decide +kernel
theorem dX11_addPart_47 : decode cX11_addPart 47 = .ok (.getfield 36, 3) := by decide +kernel
theorem dX11_addPart_50 : decode cX11_addPart 50 = .ok (.iload 5, 2) := by decide +kernel
theorem dX11_addPart_52 : decode cX11_addPart 52 = .ok (.iaload, 1) := by decide +kernel
theorem dX11_addPart_53 : decode cX11_addPart 53 = .ok (.ifCond .le 31, 3) := by decide +kernel
theorem dX11_addPart_56 : decode cX11_addPart 56 = .ok (.aload_n 0, 1) := by decide +kernel
theorem dX11_addPart_57 : decode cX11_addPart 57 = .ok (.iload_n 2, 1) := by decide +kernel
theorem dX11_addPart_58 : decode cX11_addPart 58 = .ok (.i2l, 1) := by decide +kernel
theorem dX11_addPart_59 : decode cX11_addPart 59 = .ok (.aload_n 0, 1) := by decide +kernel
theorem dX11_addPart_60 : decode cX11_addPart 60 = .ok (.iload_n 1, 1) := by decide +kernel
theorem dX11_addPart_61 : decode cX11_addPart 61 = .ok (.iload 5, 2) := by decide +kernel
theorem dX11_addPart_63 : decode cX11_addPart 63 = .ok (.invokevirtual 216, 3) := by decide +kernel
theorem dX11_addPart_66 : decode cX11_addPart 66 = .ok (.lmul, 1) := by decide +kernel
theorem dX11_addPart_67 : decode cX11_addPart 67 = .ok (.aload_n 0, 1) := by decide +kernel
theorem dX11_addPart_68 : decode cX11_addPart 68 = .ok (.getfield 36, 3) := by decide +kernel
theorem dX11_addPart_71 : decode cX11_addPart 71 = .ok (.iload 5, 2) := by decide +kernel
theorem dX11_addPart_73 : decode cX11_addPart 73 = .ok (.iaload, 1) := by decide +kernel
theorem dX11_addPart_74 : decode cX11_addPart 74 = .ok (.i2l, 1) := by decide +kernel
theorem dX11_addPart_75 : decode cX11_addPart 75 = .ok (.aload_n 0, 1) := by decide +kernel
theorem dX11_addPart_76 : decode cX11_addPart 76 = .ok (.iload_n 1, 1) := by decide +kernel
theorem dX11_addPart_77 : decode cX11_addPart 77 = .ok (.invokevirtual 220, 3) := by decide +kernel
theorem dX11_addPart_80 : decode cX11_addPart 80 = .ok (.lmul, 1) := by decide +kernel
theorem dX11_addPart_81 : decode cX11_addPart 81 = .ok (.invokevirtual 213, 3) := by decide +kernel
theorem dX11_addPart_84 : decode cX11_addPart 84 = .ok (.iinc 5 1, 3) := by decide +kernel
theorem dX11_addPart_87 : decode cX11_addPart 87 = .ok (.goto (-50), 3) := by decide +kernel
theorem dX11_addPart_90 : decode cX11_addPart 90 = .ok (.return_, 1) := by decide +kernel
theorem dX11_noFraction_0 : decode cX11_noFraction 0 = .ok (.aload_n 0, 1) := by decide +kernel
theorem dX11_noFraction_1 : decode cX11_noFraction 1 = .ok (.lconst 0, 1) := by decide +kernel
theorem dX11_noFraction_2 : decode cX11_noFraction 2 = .ok (.putfield 157, 3) := by decide +kernel
theorem dX11_noFraction_5 : decode cX11_noFraction 5 = .ok (.aload_n 0, 1) := by decide +kernel
theorem dX11_noFraction_6 : decode cX11_noFraction 6 = .ok (.lconst 1, 1) := by decide +kernel
theorem dX11_noFraction_7 : decode cX11_noFraction 7 = .ok (.putfield 28, 3) := by decide +kernel
theorem dX11_noFraction_10 : decode cX11_noFraction 10 = .ok (.return_, 1) := by decide +kernel
theorem dX11_split_0 : decode cX11_split 0 = .ok (.iload_n 1, 1) := by decide +kernel
theorem dX11_split_1 : decode cX11_split 1 = .ok (.invokestatic 81, 3) := by decide +kernel
theorem dX11_split_4 : decode cX11_split 4 = .ok (.ifCond .eq 29, 3) := by decide +kernel
theorem dX11_split_7 : decode cX11_split 7 = .ok (.iload_n 2, 1) := by decide +kernel
theorem dX11_split_8 : decode cX11_split 8 = .ok (.iconst 0, 1) := by decide +kernel
theorem dX11_split_9 : decode cX11_split 9 = .ok (.iconst 5, 1) := by decide +kernel
theorem dX11_split_10 : decode cX11_split 10 = .ok (.invokestatic 66, 3) := by decide +kernel
theorem dX11_split_13 : decode cX11_split 13 = .ok (.ifCond .eq 20, 3) := by decide +kernel
theorem dX11_split_16 : decode cX11_split 16 = .ok (.iload_n 3, 1) := by decide +kernel
theorem dX11_split_17 : decode cX11_split 17 = .ok (.iconst 0, 1) := by decide +kernel
theorem dX11_split_18 : decode cX11_split 18 = .ok (.iconst 1, 1) := by decide +kernel
theorem dX11_split_19 : decode cX11_split 19 = .ok (.invokestatic 66, 3) := by decide +kernel
theorem dX11_split_22 : decode cX11_split 22 = .ok (.ifCond .eq 11, 3) := by decide +kernel
theorem dX11_split_25 : decode cX11_split 25 = .ok (.aload_n 0, 1) := by decide +kernel
theorem dX11_split_26 : decode cX11_split 26 = .ok (.iload_n 1, 1) := by decide +kernel
theorem dX11_split_27 : decode cX11_split 27 = .ok (.invokevirtual 164, 3) := by decide +kernel
theorem dX11_split_30 : decode cX11_split 30 = .ok (.ifCond .ne 7, 3) := by decide +kernel
theorem dX11_split_33 : decode cX11_split 33 = .ok (.ldc2_w 167, 3) := by decide +kernel
theorem dX11_split_36 : decode cX11_split 36 = .ok (.lreturn, 1) := by decide +kernel
theorem dX11_split_37 : decode cX11_split 37 = .ok (.aload_n 0, 1) := by decide +kernel
theorem dX11_split_38 : decode cX11_split 38 = .ok (.iload_n 1, 1) := by decide +kernel
theorem dX11_split_39 : decode cX11_split 39 = .ok (.invokevirtual 197, 3) := by decide +kernel
theorem dX11_split_42 : decode cX11_split 42 = .ok (.aload_n 0, 1) := by decide +kernel
theorem dX11_split_43 : decode cX11_split 43 = .ok (.invokevirtual 223, 3) := by decide +kernel
theorem dX11_split_46 : decode cX11_split 46 = .ok (.iload_n 2, 1) := by decide +kernel
theorem dX11_split_47 : decode cX11_split 47 = .ok (.iconst 5, 1) := by decide +kernel
theorem dX11_split_48 : decode cX11_split 48 = .ok (.if_icmp .ge 12, 3) := by decide +kernel
theorem dX11_split_51 : decode cX11_split 51 = .ok (.aload_n 0, 1) := by decide +kernel
theorem dX11_split_52 : decode cX11_split 52 = .ok (.iload_n 2, 1) := by decide +kernel
theorem dX11_split_53 : decode cX11_split 53 = .ok (.iconst 1, 1) := by decide +kernel
theorem dX11_split_54 : decode cX11_split 54 = .ok (.invokevirtual 226, 3) := by decide +kernel
theorem dX11_split_57 : decode cX11_split 57 = .ok (.goto 33, 3) := by decide +kernel
theorem dX11_split_60 : decode cX11_split 60 = .ok (.aload_n 0, 1) := by decide +kernel
theorem dX11_split_61 : decode cX11_split 61 = .ok (.iconst 0, 1) := by decide +kernel
theorem dX11_split_62 : decode cX11_split 62 = .ok (.iconst 1, 1) := by decide +kernel
theorem dX11_split_63 : decode cX11_split 63 = .ok (.invokevirtual 226, 3) := by decide +kernel
theorem dX11_split_66 : decode cX11_split 66 = .ok (.aload_n 0, 1) := by decide +kernel
theorem dX11_split_67 : decode cX11_split 67 = .ok (.iconst 1, 1) := by decide +kernel
theorem dX11_split_68 : decode cX11_split 68 = .ok (.iconst (-1), 1) := by decide +kernel
theorem dX11_split_69 : decode cX11_split 69 = .ok (.invokevirtual 226, 3) := by decide +kernel
theorem dX11_split_72 : decode cX11_split 72 = .ok (.aload_n 0, 1) := by decide +kernel
theorem dX11_split_73 : decode cX11_split 73 = .ok (.iconst 2, 1) := by decide +kernel
theorem dX11_split_74 : decode cX11_split 74 = .ok (.iconst 1, 1) := by decide +kernel
theorem dX11_split_75 : decode cX11_split 75 = .ok (.invokevirtual 226, 3) := by decide +kernel
theorem dX11_split_78 : decode cX11_split 78 = .ok (.aload_n 0, 1) := by decide +kernel
theorem dX11_split_79 : decode cX11_split 79 = .ok (.iconst 3, 1) := by decide +kernel
theorem dX11_split_80 : decode cX11_split 80 = .ok (.iconst 1, 1) := by decide +kernel
theorem dX11_split_81 : decode cX11_split 81 = .ok (.invokevirtual 226, 3) := by decide +kernel
theorem dX11_split_84 : decode cX11_split 84 = .ok (.aload_n 0, 1) := by decide +kernel
theorem dX11_split_85 : decode cX11_split 85 = .ok (.iconst 4, 1) := by decide +kernel
theorem dX11_split_86 : decode cX11_split 86 = .ok (.iconst (-1), 1) := by decide +kernel
theorem dX11_split_87 : decode cX11_split 87 = .ok (.invokevirtual 226, 3) := by decide +kernel
theorem dX11_split_90 : decode cX11_split 90 = .ok (.aload_n 0, 1) := by decide +kernel
theorem dX11_split_91 : decode cX11_split 91 = .ok (.iload_n 3, 1) := by decide +kernel
theorem dX11_split_92 : decode cX11_split 92 = .ok (.invokevirtual 173, 3) := by decide +kernel
theorem dX11_split_95 : decode cX11_split 95 = .ok (.lreturn, 1) := by decide +kernel
theorem dX11_joined_0 : decode cX11_joined 0 = .ok (.iload_n 1, 1) := by decide +kernel
theorem dX11_joined_1 : decode cX11_joined 1 = .ok (.invokestatic 81, 3) := by decide +kernel
theorem dX11_joined_4 : decode cX11_joined 4 = .ok (.ifCond .eq 34, 3) := by decide +kernel
theorem dX11_joined_7 : decode cX11_joined 7 = .ok (.iload_n 2, 1) := by decide +kernel
theorem dX11_joined_8 : decode cX11_joined 8 = .ok (.iconst 0, 1) := by decide +kernel
theorem dX11_joined_9 : decode cX11_joined 9 = .ok (.aload_n 0, 1) := by decide +kernel
theorem dX11_joined_10 : decode cX11_joined 10 = .ok (.invokevirtual 185, 3) := by decide +kernel
theorem dX11_joined_13 : decode cX11_joined 13 = .ok (.iconst 1, 1) := by decide +kernel
theorem dX11_joined_14 : decode cX11_joined 14 = .ok (.isub, 1) := by decide +kernel
theorem dX11_joined_15 : decode cX11_joined 15 = .ok (.invokestatic 66, 3) := by decide +kernel
theorem dX11_joined_18 : decode cX11_joined 18 = .ok (.ifCond .eq 20, 3) := by decide +kernel
theorem dX11_joined_21 : decode cX11_joined 21 = .ok (.iload_n 3, 1) := by decide +kernel
theorem dX11_joined_22 : decode cX11_joined 22 = .ok (.iconst 0, 1) := by decide +kernel
theorem dX11_joined_23 : decode cX11_joined 23 = .ok (.iconst 1, 1) := by decide +kernel
theorem dX11_joined_24 : decode cX11_joined 24 = .ok (.invokestatic 66, 3) := by decide +kernel
theorem dX11_joined_27 : decode cX11_joined 27 = .ok (.ifCond .eq 11, 3) := by decide +kernel
theorem dX11_joined_30 : decode cX11_joined 30 = .ok (.aload_n 0, 1) := by decide +kernel
theorem dX11_joined_31 : decode cX11_joined 31 = .ok (.iload_n 1, 1) := by decide +kernel
theorem dX11_joined_32 : decode cX11_joined 32 = .ok (.invokevirtual 164, 3) := by decide +kernel
theorem dX11_joined_35 : decode cX11_joined 35 = .ok (.ifCond .ne 7, 3) := by decide +kernel
theorem dX11_joined_38 : decode cX11_joined 38 = .ok (.ldc2_w 167, 3) := by decide +kernel
theorem dX11_joined_41 : decode cX11_joined 41 = .ok (.lreturn, 1) := by decide +kernel
theorem dX11_joined_42 : decode cX11_joined 42 = .ok (.aload_n 0, 1) := by decide +kernel
theorem dX11_joined_43 : decode cX11_joined 43 = .ok (.iload_n 1, 1) := by decide +kernel
theorem dX11_joined_44 : decode cX11_joined 44 = .ok (.invokevirtual 197, 3) := by decide +kernel
theorem dX11_joined_47 : decode cX11_joined 47 = .ok (.aload_n 0, 1) := by decide +kernel
theorem dX11_joined_48 : decode cX11_joined 48 = .ok (.invokevirtual 223, 3) := by decide +kernel
theorem dX11_joined_51 : decode cX11_joined 51 = .ok (.aload_n 0, 1) := by decide +kernel
theorem dX11_joined_52 : decode cX11_joined 52 = .ok (.iconst 1, 1) := by decide +kernel
theorem dX11_joined_53 : decode cX11_joined 53 = .ok (.iconst 1, 1) := by decide +kernel
theorem dX11_joined_54 : decode cX11_joined 54 = .ok (.invokevirtual 226, 3) := by decide +kernel
theorem dX11_joined_57 : decode cX11_joined 57 = .ok (.aload_n 0, 1) := by decide +kernel
theorem dX11_joined_58 : decode cX11_joined 58 = .ok (.getfield 36, 3) := by decide +kernel
theorem dX11_joined_61 : decode cX11_joined 61 = .ok (.iload_n 2, 1) := by decide +kernel
theorem dX11_joined_62 : decode cX11_joined 62 = .ok (.dup2, 1) := by decide +kernel
theorem dX11_joined_63 : decode cX11_joined 63 = .ok (.iaload, 1) := by decide +kernel
theorem dX11_joined_64 : decode cX11_joined 64 = .ok (.aload_n 0, 1) := by decide +kernel
theorem dX11_joined_65 : decode cX11_joined 65 = .ok (.getfield 36, 3) := by decide +kernel
theorem dX11_joined_68 : decode cX11_joined 68 = .ok (.iload_n 2, 1) := by decide +kernel
theorem dX11_joined_69 : decode cX11_joined 69 = .ok (.iconst 1, 1) := by decide +kernel
theorem dX11_joined_70 : decode cX11_joined 70 = .ok (.iadd, 1) := by decide +kernel
theorem dX11_joined_71 : decode cX11_joined 71 = .ok (.iaload, 1) := by decide +kernel
theorem dX11_joined_72 : decode cX11_joined 72 = .ok (.iadd, 1) := by decide +kernel
theorem dX11_joined_73 : decode cX11_joined 73 = .ok (.iastore, 1) := by decide +kernel
theorem dX11_joined_74 : decode cX11_joined 74 = .ok (.aload_n 0, 1) := by decide +kernel
theorem dX11_joined_75 : decode cX11_joined 75 = .ok (.getfield 39, 3) := by decide +kernel
theorem dX11_joined_78 : decode cX11_joined 78 = .ok (.iload_n 2, 1) := by decide +kernel
theorem dX11_joined_79 : decode cX11_joined 79 = .ok (.dup2, 1) := by decide +kernel
theorem dX11_joined_80 : decode cX11_joined 80 = .ok (.iaload, 1) := by decide +kernel
theorem dX11_joined_81 : decode cX11_joined 81 = .ok (.aload_n 0, 1) := by decide +kernel
theorem dX11_joined_82 : decode cX11_joined 82 = .ok (.getfield 39, 3) := by decide +kernel
theorem dX11_joined_85 : decode cX11_joined 85 = .ok (.iload_n 2, 1) := by decide +kernel
theorem dX11_joined_86 : decode cX11_joined 86 = .ok (.iconst 1, 1) := by decide +kernel
theorem dX11_joined_87 : decode cX11_joined 87 = .ok (.iadd, 1) := by decide +kernel
theorem dX11_joined_88 : decode cX11_joined 88 = .ok (.iaload, 1) := by decide +kernel
theorem dX11_joined_89 : decode cX11_joined 89 = .ok (.iadd, 1) := by decide +kernel
theorem dX11_joined_90 : decode cX11_joined 90 = .ok (.iastore, 1) := by decide +kernel
theorem dX11_joined_91 : decode cX11_joined 91 = .ok (.aload_n 0, 1) := by decide +kernel
theorem dX11_joined_92 : decode cX11_joined 92 = .ok (.getfield 36, 3) := by decide +kernel
theorem dX11_joined_95 : decode cX11_joined 95 = .ok (.iload_n 2, 1) := by decide +kernel
theorem dX11_joined_96 : decode cX11_joined 96 = .ok (.iconst 1, 1) := by decide +kernel
theorem dX11_joined_97 : decode cX11_joined 97 = .ok (.iadd, 1) := by decide +kernel
theorem dX11_joined_98 : decode cX11_joined 98 = .ok (.iconst 0, 1) := by decide +kernel
theorem dX11_joined_99 : decode cX11_joined 99 = .ok (.iastore, 1) := by decide +kernel
theorem dX11_joined_100 : decode cX11_joined 100 = .ok (.aload_n 0, 1) := by decide +kernel
theorem dX11_joined_101 : decode cX11_joined 101 = .ok (.iconst 1, 1) := by decide +kernel
theorem dX11_joined_102 : decode cX11_joined 102 = .ok (.iconst (-1), 1) := by decide +kernel
theorem dX11_joined_103 : decode cX11_joined 103 = .ok (.invokevirtual 226, 3) := by decide +kernel
theorem dX11_joined_106 : decode cX11_joined 106 = .ok (.aload_n 0, 1) := by decide +kernel
theorem dX11_joined_107 : decode cX11_joined 107 = .ok (.iload_n 3, 1) := by decide +kernel
theorem dX11_joined_108 : decode cX11_joined 108 = .ok (.invokevirtual 173, 3) := by decide +kernel
theorem dX11_joined_111 : decode cX11_joined 111 = .ok (.lreturn, 1) := by decide +kernel
theorem dX11_area_0 : decode cX11_area 0 = .ok (.iload_n 1, 1) := by decide +kernel
theorem dX11_area_1 : decode cX11_area 1 = .ok (.invokestatic 81, 3) := by decide +kernel
theorem dX11_area_4 : decode cX11_area 4 = .ok (.ifCond .eq 12, 3) := by decide +kernel
theorem dX11_area_7 : decode cX11_area 7 = .ok (.iload_n 2, 1) := by decide +kernel
theorem dX11_area_8 : decode cX11_area 8 = .ok (.iconst 0, 1) := by decide +kernel
theorem dX11_area_9 : decode cX11_area 9 = .ok (.iconst 1, 1) := by decide +kernel
theorem dX11_area_10 : decode cX11_area 10 = .ok (.invokestatic 66, 3) := by decide +kernel
theorem dX11_area_13 : decode cX11_area 13 = .ok (.ifCond .ne 7, 3) := by decide +kernel
theorem dX11_area_16 : decode cX11_area 16 = .ok (.ldc2_w 167, 3) := by decide +kernel
theorem dX11_area_19 : decode cX11_area 19 = .ok (.lreturn, 1) := by decide +kernel
theorem dX11_area_20 : decode cX11_area 20 = .ok (.iconst 0, 1) := by decide +kernel
theorem dX11_area_21 : decode cX11_area 21 = .ok (.istore_n 3, 1) := by decide +kernel
theorem dX11_area_22 : decode cX11_area 22 = .ok (.iconst 0, 1) := by decide +kernel
theorem dX11_area_23 : decode cX11_area 23 = .ok (.istore 4, 2) := by decide +kernel
theorem dX11_area_25 : decode cX11_area 25 = .ok (.iconst 0, 1) := by decide +kernel
theorem dX11_area_26 : decode cX11_area 26 = .ok (.istore 5, 2) := by decide +kernel
theorem dX11_area_28 : decode cX11_area 28 = .ok (.iload 5, 2) := by decide +kernel
theorem dX11_area_30 : decode cX11_area 30 = .ok (.bipush 40, 2) := by decide +kernel
theorem dX11_area_32 : decode cX11_area 32 = .ok (.if_icmp .ge 111, 3) := by decide +kernel
theorem dX11_area_35 : decode cX11_area 35 = .ok (.iconst 0, 1) := by decide +kernel
theorem dX11_area_36 : decode cX11_area 36 = .ok (.istore 6, 2) := by decide +kernel
theorem dX11_area_38 : decode cX11_area 38 = .ok (.iload 6, 2) := by decide +kernel
theorem dX11_area_40 : decode cX11_area 40 = .ok (.bipush 40, 2) := by decide +kernel
theorem dX11_area_42 : decode cX11_area 42 = .ok (.if_icmp .ge 95, 3) := by decide +kernel
theorem dX11_area_45 : decode cX11_area 45 = .ok (.aload_n 0, 1) := by decide +kernel
theorem dX11_area_46 : decode cX11_area 46 = .ok (.iload_n 1, 1) := by decide +kernel
theorem dX11_area_47 : decode cX11_area 47 = .ok (.iload 5, 2) := by decide +kernel
theorem dX11_area_49 : decode cX11_area 49 = .ok (.invokevirtual 153, 3) := by decide +kernel
theorem dX11_area_52 : decode cX11_area 52 = .ok (.ifCond .eq 79, 3) := by decide +kernel
theorem dX11_area_55 : decode cX11_area 55 = .ok (.aload_n 0, 1) := by decide +kernel
theorem dX11_area_56 : decode cX11_area 56 = .ok (.iload_n 1, 1) := by decide +kernel
theorem dX11_area_57 : decode cX11_area 57 = .ok (.iload 6, 2) := by decide +kernel
theorem dX11_area_59 : decode cX11_area 59 = .ok (.invokevirtual 153, 3) := by decide +kernel
theorem dX11_area_62 : decode cX11_area 62 = .ok (.ifCond .eq 69, 3) := by decide +kernel
theorem dX11_area_65 : decode cX11_area 65 = .ok (.aload_n 0, 1) := by decide +kernel
theorem dX11_area_66 : decode cX11_area 66 = .ok (.getfield 13, 3) := by decide +kernel
theorem dX11_area_69 : decode cX11_area 69 = .ok (.iload 5, 2) := by decide +kernel
theorem dX11_area_71 : decode cX11_area 71 = .ok (.iaload, 1) := by decide +kernel
theorem dX11_area_72 : decode cX11_area 72 = .ok (.iconst 1, 1) := by decide +kernel
theorem dX11_area_73 : decode cX11_area 73 = .ok (.if_icmp .ne 58, 3) := by decide +kernel
theorem dX11_area_76 : decode cX11_area 76 = .ok (.aload_n 0, 1) := by decide +kernel
theorem dX11_area_77 : decode cX11_area 77 = .ok (.getfield 13, 3) := by decide +kernel
theorem dX11_area_80 : decode cX11_area 80 = .ok (.iload 6, 2) := by decide +kernel
theorem dX11_area_82 : decode cX11_area 82 = .ok (.iaload, 1) := by decide +kernel
theorem dX11_area_83 : decode cX11_area 83 = .ok (.iconst 2, 1) := by decide +kernel
theorem dX11_area_84 : decode cX11_area 84 = .ok (.if_icmp .ne 47, 3) := by decide +kernel
theorem dX11_area_87 : decode cX11_area 87 = .ok (.aload_n 0, 1) := by decide +kernel
theorem dX11_area_88 : decode cX11_area 88 = .ok (.iload_n 1, 1) := by decide +kernel
theorem dX11_area_89 : decode cX11_area 89 = .ok (.iload 5, 2) := by decide +kernel
theorem dX11_area_91 : decode cX11_area 91 = .ok (.invokevirtual 84, 3) := by decide +kernel
theorem dX11_area_94 : decode cX11_area 94 = .ok (.aload_n 0, 1) := by decide +kernel
theorem dX11_area_95 : decode cX11_area 95 = .ok (.iload_n 1, 1) := by decide +kernel
theorem dX11_area_96 : decode cX11_area 96 = .ok (.iload 6, 2) := by decide +kernel
theorem dX11_area_98 : decode cX11_area 98 = .ok (.invokevirtual 84, 3) := by decide +kernel
theorem dX11_area_101 : decode cX11_area 101 = .ok (.isub, 1) := by decide +kernel
theorem dX11_area_102 : decode cX11_area 102 = .ok (.istore 7, 2) := by decide +kernel
theorem dX11_area_104 : decode cX11_area 104 = .ok (.iinc 3 1, 3) := by decide +kernel
theorem dX11_area_107 : decode cX11_area 107 = .ok (.iload 4, 2) := by decide +kernel
theorem dX11_area_109 : decode cX11_area 109 = .ok (.iload 7, 2) := by decide +kernel
theorem dX11_area_111 : decode cX11_area 111 = .ok (.ifCond .le 7, 3) := by decide +kernel
theorem dX11_area_114 : decode cX11_area 114 = .ok (.iconst 2, 1) := by decide +kernel
theorem dX11_area_115 : decode cX11_area 115 = .ok (.goto 13, 3) := by decide +kernel
theorem dX11_area_118 : decode cX11_area 118 = .ok (.iload 7, 2) := by decide +kernel
theorem dX11_area_120 : decode cX11_area 120 = .ok (.ifCond .ne 7, 3) := by decide +kernel
theorem dX11_area_123 : decode cX11_area 123 = .ok (.iconst 1, 1) := by decide +kernel
theorem dX11_area_124 : decode cX11_area 124 = .ok (.goto 4, 3) := by decide +kernel
theorem dX11_area_127 : decode cX11_area 127 = .ok (.iconst 0, 1) := by decide +kernel
theorem dX11_area_128 : decode cX11_area 128 = .ok (.iadd, 1) := by decide +kernel
theorem dX11_area_129 : decode cX11_area 129 = .ok (.istore 4, 2) := by decide +kernel
theorem dX11_area_131 : decode cX11_area 131 = .ok (.iinc 6 1, 3) := by decide +kernel
theorem dX11_area_134 : decode cX11_area 134 = .ok (.goto (-96), 3) := by decide +kernel
theorem dX11_area_137 : decode cX11_area 137 = .ok (.iinc 5 1, 3) := by decide +kernel
theorem dX11_area_140 : decode cX11_area 140 = .ok (.goto (-112), 3) := by decide +kernel
theorem dX11_area_143 : decode cX11_area 143 = .ok (.iload_n 3, 1) := by decide +kernel
theorem dX11_area_144 : decode cX11_area 144 = .ok (.ifCond .ne 7, 3) := by decide +kernel
theorem dX11_area_147 : decode cX11_area 147 = .ok (.ldc2_w 167, 3) := by decide +kernel
theorem dX11_area_150 : decode cX11_area 150 = .ok (.lreturn, 1) := by decide +kernel
theorem dX11_area_151 : decode cX11_area 151 = .ok (.aload_n 0, 1) := by decide +kernel
theorem dX11_area_152 : decode cX11_area 152 = .ok (.iload 4, 2) := by decide +kernel
theorem dX11_area_154 : decode cX11_area 154 = .ok (.i2l, 1) := by decide +kernel
theorem dX11_area_155 : decode cX11_area 155 = .ok (.ldc2_w 209, 3) := by decide +kernel
theorem dX11_area_158 : decode cX11_area 158 = .ok (.iload_n 3, 1) := by decide +kernel
theorem dX11_area_159 : decode cX11_area 159 = .ok (.i2l, 1) := by decide +kernel
theorem dX11_area_160 : decode cX11_area 160 = .ok (.lmul, 1) := by decide +kernel
theorem dX11_area_161 : decode cX11_area 161 = .ok (.invokevirtual 160, 3) := by decide +kernel
theorem dX11_area_164 : decode cX11_area 164 = .ok (.aload_n 0, 1) := by decide +kernel
theorem dX11_area_165 : decode cX11_area 165 = .ok (.iload_n 2, 1) := by decide +kernel
theorem dX11_area_166 : decode cX11_area 166 = .ok (.invokevirtual 173, 3) := by decide +kernel
theorem dX11_area_169 : decode cX11_area 169 = .ok (.lreturn, 1) := by decide +kernel
theorem dX11_isFlat_0 : decode cX11_isFlat 0 = .ok (.aload_n 0, 1) := by decide +kernel
theorem dX11_isFlat_1 : decode cX11_isFlat 1 = .ok (.getfield 60, 3) := by decide +kernel
theorem dX11_isFlat_4 : decode cX11_isFlat 4 = .ok (.iload_n 1, 1) := by decide +kernel
theorem dX11_isFlat_5 : decode cX11_isFlat 5 = .ok (.iconst 1, 1) := by decide +kernel
theorem dX11_isFlat_6 : decode cX11_isFlat 6 = .ok (.iadd, 1) := by decide +kernel
theorem dX11_isFlat_7 : decode cX11_isFlat 7 = .ok (.iaload, 1) := by decide +kernel
theorem dX11_isFlat_8 : decode cX11_isFlat 8 = .ok (.aload_n 0, 1) := by decide +kernel
theorem dX11_isFlat_9 : decode cX11_isFlat 9 = .ok (.getfield 57, 3) := by decide +kernel
theorem dX11_isFlat_12 : decode cX11_isFlat 12 = .ok (.iload_n 1, 1) := by decide +kernel
theorem dX11_isFlat_13 : decode cX11_isFlat 13 = .ok (.iaload, 1) := by decide +kernel
theorem dX11_isFlat_14 : decode cX11_isFlat 14 = .ok (.imul, 1) := by decide +kernel
theorem dX11_isFlat_15 : decode cX11_isFlat 15 = .ok (.aload_n 0, 1) := by decide +kernel
theorem dX11_isFlat_16 : decode cX11_isFlat 16 = .ok (.getfield 60, 3) := by decide +kernel
theorem dX11_isFlat_19 : decode cX11_isFlat 19 = .ok (.iload_n 1, 1) := by decide +kernel
theorem dX11_isFlat_20 : decode cX11_isFlat 20 = .ok (.iaload, 1) := by decide +kernel
theorem dX11_isFlat_21 : decode cX11_isFlat 21 = .ok (.aload_n 0, 1) := by decide +kernel
theorem dX11_isFlat_22 : decode cX11_isFlat 22 = .ok (.getfield 57, 3) := by decide +kernel
theorem dX11_isFlat_25 : decode cX11_isFlat 25 = .ok (.iload_n 1, 1) := by decide +kernel
theorem dX11_isFlat_26 : decode cX11_isFlat 26 = .ok (.iconst 1, 1) := by decide +kernel
theorem dX11_isFlat_27 : decode cX11_isFlat 27 = .ok (.iadd, 1) := by decide +kernel
theorem dX11_isFlat_28 : decode cX11_isFlat 28 = .ok (.iaload, 1) := by decide +kernel
theorem dX11_isFlat_29 : decode cX11_isFlat 29 = .ok (.imul, 1) := by decide +kernel
theorem dX11_isFlat_30 : decode cX11_isFlat 30 = .ok (.if_icmp .gt 7, 3) := by decide +kernel
theorem dX11_isFlat_33 : decode cX11_isFlat 33 = .ok (.iconst 1, 1) := by decide +kernel
theorem dX11_isFlat_34 : decode cX11_isFlat 34 = .ok (.goto 4, 3) := by decide +kernel
theorem dX11_isFlat_37 : decode cX11_isFlat 37 = .ok (.iconst 0, 1) := by decide +kernel
theorem dX11_isFlat_38 : decode cX11_isFlat 38 = .ok (.ireturn, 1) := by decide +kernel
theorem dX11_joinsLast_0 : decode cX11_joinsLast 0 = .ok (.aload_n 0, 1) := by decide +kernel
theorem dX11_joinsLast_1 : decode cX11_joinsLast 1 = .ok (.getfield 230, 3) := by decide +kernel
theorem dX11_joinsLast_4 : decode cX11_joinsLast 4 = .ok (.iconst 2, 1) := by decide +kernel
theorem dX11_joinsLast_5 : decode cX11_joinsLast 5 = .ok (.isub, 1) := by decide +kernel
theorem dX11_joinsLast_6 : decode cX11_joinsLast 6 = .ok (.istore_n 1, 1) := by decide +kernel
theorem dX11_joinsLast_7 : decode cX11_joinsLast 7 = .ok (.aload_n 0, 1) := by decide +kernel
theorem dX11_joinsLast_8 : decode cX11_joinsLast 8 = .ok (.getfield 54, 3) := by decide +kernel
theorem dX11_joinsLast_11 : decode cX11_joinsLast 11 = .ok (.iload_n 1, 1) := by decide +kernel
theorem dX11_joinsLast_12 : decode cX11_joinsLast 12 = .ok (.aload_n 0, 1) := by decide +kernel
theorem dX11_joinsLast_13 : decode cX11_joinsLast 13 = .ok (.getfield 54, 3) := by decide +kernel
theorem dX11_joinsLast_16 : decode cX11_joinsLast 16 = .ok (.iload_n 1, 1) := by decide +kernel
theorem dX11_joinsLast_17 : decode cX11_joinsLast 17 = .ok (.iconst 1, 1) := by decide +kernel
theorem dX11_joinsLast_18 : decode cX11_joinsLast 18 = .ok (.iadd, 1) := by decide +kernel
theorem dX11_joinsLast_19 : decode cX11_joinsLast 19 = .ok (.iaload, 1) := by decide +kernel
theorem dX11_joinsLast_20 : decode cX11_joinsLast 20 = .ok (.iastore, 1) := by decide +kernel
theorem dX11_joinsLast_21 : decode cX11_joinsLast 21 = .ok (.aload_n 0, 1) := by decide +kernel
theorem dX11_joinsLast_22 : decode cX11_joinsLast 22 = .ok (.getfield 57, 3) := by decide +kernel
theorem dX11_joinsLast_25 : decode cX11_joinsLast 25 = .ok (.iload_n 1, 1) := by decide +kernel
theorem dX11_joinsLast_26 : decode cX11_joinsLast 26 = .ok (.dup2, 1) := by decide +kernel
theorem dX11_joinsLast_27 : decode cX11_joinsLast 27 = .ok (.iaload, 1) := by decide +kernel
theorem dX11_joinsLast_28 : decode cX11_joinsLast 28 = .ok (.aload_n 0, 1) := by decide +kernel
theorem dX11_joinsLast_29 : decode cX11_joinsLast 29 = .ok (.getfield 57, 3) := by decide +kernel
theorem dX11_joinsLast_32 : decode cX11_joinsLast 32 = .ok (.iload_n 1, 1) := by decide +kernel
theorem dX11_joinsLast_33 : decode cX11_joinsLast 33 = .ok (.iconst 1, 1) := by decide +kernel
theorem dX11_joinsLast_34 : decode cX11_joinsLast 34 = .ok (.iadd, 1) := by decide +kernel
theorem dX11_joinsLast_35 : decode cX11_joinsLast 35 = .ok (.iaload, 1) := by decide +kernel
theorem dX11_joinsLast_36 : decode cX11_joinsLast 36 = .ok (.iadd, 1) := by decide +kernel
theorem dX11_joinsLast_37 : decode cX11_joinsLast 37 = .ok (.iastore, 1) := by decide +kernel
theorem dX11_joinsLast_38 : decode cX11_joinsLast 38 = .ok (.aload_n 0, 1) := by decide +kernel
theorem dX11_joinsLast_39 : decode cX11_joinsLast 39 = .ok (.getfield 60, 3) := by decide +kernel
theorem dX11_joinsLast_42 : decode cX11_joinsLast 42 = .ok (.iload_n 1, 1) := by decide +kernel
theorem dX11_joinsLast_43 : decode cX11_joinsLast 43 = .ok (.dup2, 1) := by decide +kernel
theorem dX11_joinsLast_44 : decode cX11_joinsLast 44 = .ok (.iaload, 1) := by decide +kernel
theorem dX11_joinsLast_45 : decode cX11_joinsLast 45 = .ok (.aload_n 0, 1) := by decide +kernel
theorem dX11_joinsLast_46 : decode cX11_joinsLast 46 = .ok (.getfield 60, 3) := by decide +kernel
theorem dX11_joinsLast_49 : decode cX11_joinsLast 49 = .ok (.iload_n 1, 1) := by decide +kernel
theorem dX11_joinsLast_50 : decode cX11_joinsLast 50 = .ok (.iconst 1, 1) := by decide +kernel
theorem dX11_joinsLast_51 : decode cX11_joinsLast 51 = .ok (.iadd, 1) := by decide +kernel
theorem dX11_joinsLast_52 : decode cX11_joinsLast 52 = .ok (.iaload, 1) := by decide +kernel
theorem dX11_joinsLast_53 : decode cX11_joinsLast 53 = .ok (.iadd, 1) := by decide +kernel
theorem dX11_joinsLast_54 : decode cX11_joinsLast 54 = .ok (.iastore, 1) := by decide +kernel
theorem dX11_joinsLast_55 : decode cX11_joinsLast 55 = .ok (.aload_n 0, 1) := by decide +kernel
theorem dX11_joinsLast_56 : decode cX11_joinsLast 56 = .ok (.dup, 1) := by decide +kernel
theorem dX11_joinsLast_57 : decode cX11_joinsLast 57 = .ok (.getfield 230, 3) := by decide +kernel
theorem dX11_joinsLast_60 : decode cX11_joinsLast 60 = .ok (.iconst 1, 1) := by decide +kernel
theorem dX11_joinsLast_61 : decode cX11_joinsLast 61 = .ok (.isub, 1) := by decide +kernel
theorem dX11_joinsLast_62 : decode cX11_joinsLast 62 = .ok (.putfield 230, 3) := by decide +kernel
theorem dX11_joinsLast_65 : decode cX11_joinsLast 65 = .ok (.return_, 1) := by decide +kernel
theorem dX11_findPools_0 : decode cX11_findPools 0 = .ok (.aload_n 0, 1) := by decide +kernel
theorem dX11_findPools_1 : decode cX11_findPools 1 = .ok (.iconst 0, 1) := by decide +kernel
theorem dX11_findPools_2 : decode cX11_findPools 2 = .ok (.putfield 230, 3) := by decide +kernel
theorem dX11_findPools_5 : decode cX11_findPools 5 = .ok (.iconst 0, 1) := by decide +kernel
theorem dX11_findPools_6 : decode cX11_findPools 6 = .ok (.istore_n 2, 1) := by decide +kernel
theorem dX11_findPools_7 : decode cX11_findPools 7 = .ok (.iload_n 2, 1) := by decide +kernel
theorem dX11_findPools_8 : decode cX11_findPools 8 = .ok (.bipush 100, 2) := by decide +kernel
theorem dX11_findPools_10 : decode cX11_findPools 10 = .ok (.if_icmp .gt 180, 3) := by decide +kernel
theorem dX11_findPools_13 : decode cX11_findPools 13 = .ok (.iconst 0, 1) := by decide +kernel
theorem dX11_findPools_14 : decode cX11_findPools 14 = .ok (.istore_n 3, 1) := by decide +kernel
theorem dX11_findPools_15 : decode cX11_findPools 15 = .ok (.iconst 0, 1) := by decide +kernel
theorem dX11_findPools_16 : decode cX11_findPools 16 = .ok (.istore 4, 2) := by decide +kernel
theorem dX11_findPools_18 : decode cX11_findPools 18 = .ok (.iconst 0, 1) := by decide +kernel
theorem dX11_findPools_19 : decode cX11_findPools 19 = .ok (.istore 5, 2) := by decide +kernel
theorem dX11_findPools_21 : decode cX11_findPools 21 = .ok (.iload 5, 2) := by decide +kernel
theorem dX11_findPools_23 : decode cX11_findPools 23 = .ok (.bipush 40, 2) := by decide +kernel
theorem dX11_findPools_25 : decode cX11_findPools 25 = .ok (.if_icmp .ge 76, 3) := by decide +kernel
theorem dX11_findPools_28 : decode cX11_findPools 28 = .ok (.aload_n 0, 1) := by decide +kernel
theorem dX11_findPools_29 : decode cX11_findPools 29 = .ok (.iload_n 1, 1) := by decide +kernel
theorem dX11_findPools_30 : decode cX11_findPools 30 = .ok (.iload 5, 2) := by decide +kernel
theorem dX11_findPools_32 : decode cX11_findPools 32 = .ok (.invokevirtual 153, 3) := by decide +kernel
theorem dX11_findPools_35 : decode cX11_findPools 35 = .ok (.ifCond .eq 18, 3) := by decide +kernel
theorem dX11_findPools_38 : decode cX11_findPools 38 = .ok (.aload_n 0, 1) := by decide +kernel
theorem dX11_findPools_39 : decode cX11_findPools 39 = .ok (.iload_n 1, 1) := by decide +kernel
theorem dX11_findPools_40 : decode cX11_findPools 40 = .ok (.iload 5, 2) := by decide +kernel
theorem dX11_findPools_42 : decode cX11_findPools 42 = .ok (.invokevirtual 84, 3) := by decide +kernel
theorem dX11_findPools_45 : decode cX11_findPools 45 = .ok (.iload_n 2, 1) := by decide +kernel
theorem dX11_findPools_46 : decode cX11_findPools 46 = .ok (.if_icmp .ne 7, 3) := by decide +kernel
theorem dX11_findPools_49 : decode cX11_findPools 49 = .ok (.iconst 1, 1) := by decide +kernel
theorem dX11_findPools_50 : decode cX11_findPools 50 = .ok (.goto 4, 3) := by decide +kernel
theorem dX11_findPools_53 : decode cX11_findPools 53 = .ok (.iconst 0, 1) := by decide +kernel
theorem dX11_findPools_54 : decode cX11_findPools 54 = .ok (.istore 6, 2) := by decide +kernel
theorem dX11_findPools_56 : decode cX11_findPools 56 = .ok (.iload_n 3, 1) := by decide +kernel
theorem dX11_findPools_57 : decode cX11_findPools 57 = .ok (.iload 6, 2) := by decide +kernel
theorem dX11_findPools_59 : decode cX11_findPools 59 = .ok (.ifCond .eq 7, 3) := by decide +kernel
theorem dX11_findPools_62 : decode cX11_findPools 62 = .ok (.iconst 1, 1) := by decide +kernel
theorem dX11_findPools_63 : decode cX11_findPools 63 = .ok (.goto 4, 3) := by decide +kernel
theorem dX11_findPools_66 : decode cX11_findPools 66 = .ok (.iconst 0, 1) := by decide +kernel
theorem dX11_findPools_67 : decode cX11_findPools 67 = .ok (.iadd, 1) := by decide +kernel
theorem dX11_findPools_68 : decode cX11_findPools 68 = .ok (.istore_n 3, 1) := by decide +kernel
theorem dX11_findPools_69 : decode cX11_findPools 69 = .ok (.iload 4, 2) := by decide +kernel
theorem dX11_findPools_71 : decode cX11_findPools 71 = .ok (.iload 6, 2) := by decide +kernel
theorem dX11_findPools_73 : decode cX11_findPools 73 = .ok (.ifCond .eq 18, 3) := by decide +kernel
theorem dX11_findPools_76 : decode cX11_findPools 76 = .ok (.aload_n 0, 1) := by decide +kernel
theorem dX11_findPools_77 : decode cX11_findPools 77 = .ok (.getfield 13, 3) := by decide +kernel
theorem dX11_findPools_80 : decode cX11_findPools 80 = .ok (.iload 5, 2) := by decide +kernel
theorem dX11_findPools_82 : decode cX11_findPools 82 = .ok (.iaload, 1) := by decide +kernel
theorem dX11_findPools_83 : decode cX11_findPools 83 = .ok (.iconst 1, 1) := by decide +kernel
theorem dX11_findPools_84 : decode cX11_findPools 84 = .ok (.if_icmp .ne 7, 3) := by decide +kernel
theorem dX11_findPools_87 : decode cX11_findPools 87 = .ok (.iconst 1, 1) := by decide +kernel
theorem dX11_findPools_88 : decode cX11_findPools 88 = .ok (.goto 4, 3) := by decide +kernel
theorem dX11_findPools_91 : decode cX11_findPools 91 = .ok (.iconst 0, 1) := by decide +kernel
theorem dX11_findPools_92 : decode cX11_findPools 92 = .ok (.iadd, 1) := by decide +kernel
theorem dX11_findPools_93 : decode cX11_findPools 93 = .ok (.istore 4, 2) := by decide +kernel
theorem dX11_findPools_95 : decode cX11_findPools 95 = .ok (.iinc 5 1, 3) := by decide +kernel
theorem dX11_findPools_98 : decode cX11_findPools 98 = .ok (.goto (-77), 3) := by decide +kernel
theorem dX11_findPools_101 : decode cX11_findPools 101 = .ok (.iload_n 3, 1) := by decide +kernel
theorem dX11_findPools_102 : decode cX11_findPools 102 = .ok (.ifCond .le 82, 3) := by decide +kernel
theorem dX11_findPools_105 : decode cX11_findPools 105 = .ok (.aload_n 0, 1) := by decide +kernel
theorem dX11_findPools_106 : decode cX11_findPools 106 = .ok (.getfield 51, 3) := by decide +kernel
theorem dX11_findPools_109 : decode cX11_findPools 109 = .ok (.aload_n 0, 1) := by decide +kernel
theorem dX11_findPools_110 : decode cX11_findPools 110 = .ok (.getfield 230, 3) := by decide +kernel
theorem dX11_findPools_113 : decode cX11_findPools 113 = .ok (.iload_n 2, 1) := by decide +kernel
theorem dX11_findPools_114 : decode cX11_findPools 114 = .ok (.iastore, 1) := by decide +kernel
theorem dX11_findPools_115 : decode cX11_findPools 115 = .ok (.aload_n 0, 1) := by decide +kernel
theorem dX11_findPools_116 : decode cX11_findPools 116 = .ok (.getfield 54, 3) := by decide +kernel
theorem dX11_findPools_119 : decode cX11_findPools 119 = .ok (.aload_n 0, 1) := by decide +kernel
theorem dX11_findPools_120 : decode cX11_findPools 120 = .ok (.getfield 230, 3) := by decide +kernel
theorem dX11_findPools_123 : decode cX11_findPools 123 = .ok (.iload_n 2, 1) := by decide +kernel
theorem dX11_findPools_124 : decode cX11_findPools 124 = .ok (.iastore, 1) := by decide +kernel
theorem dX11_findPools_125 : decode cX11_findPools 125 = .ok (.aload_n 0, 1) := by decide +kernel
theorem dX11_findPools_126 : decode cX11_findPools 126 = .ok (.getfield 57, 3) := by decide +kernel
theorem dX11_findPools_129 : decode cX11_findPools 129 = .ok (.aload_n 0, 1) := by decide +kernel
theorem dX11_findPools_130 : decode cX11_findPools 130 = .ok (.getfield 230, 3) := by decide +kernel
theorem dX11_findPools_133 : decode cX11_findPools 133 = .ok (.iload_n 3, 1) := by decide +kernel
theorem dX11_findPools_134 : decode cX11_findPools 134 = .ok (.iastore, 1) := by decide +kernel
theorem dX11_findPools_135 : decode cX11_findPools 135 = .ok (.aload_n 0, 1) := by decide +kernel
theorem dX11_findPools_136 : decode cX11_findPools 136 = .ok (.getfield 60, 3) := by decide +kernel
theorem dX11_findPools_139 : decode cX11_findPools 139 = .ok (.aload_n 0, 1) := by decide +kernel
theorem dX11_findPools_140 : decode cX11_findPools 140 = .ok (.getfield 230, 3) := by decide +kernel
theorem dX11_findPools_143 : decode cX11_findPools 143 = .ok (.iload 4, 2) := by decide +kernel
theorem dX11_findPools_145 : decode cX11_findPools 145 = .ok (.iastore, 1) := by decide +kernel
theorem dX11_findPools_146 : decode cX11_findPools 146 = .ok (.aload_n 0, 1) := by decide +kernel
theorem dX11_findPools_147 : decode cX11_findPools 147 = .ok (.dup, 1) := by decide +kernel
theorem dX11_findPools_148 : decode cX11_findPools 148 = .ok (.getfield 230, 3) := by decide +kernel
theorem dX11_findPools_151 : decode cX11_findPools 151 = .ok (.iconst 1, 1) := by decide +kernel
theorem dX11_findPools_152 : decode cX11_findPools 152 = .ok (.iadd, 1) := by decide +kernel
theorem dX11_findPools_153 : decode cX11_findPools 153 = .ok (.putfield 230, 3) := by decide +kernel
theorem dX11_findPools_156 : decode cX11_findPools 156 = .ok (.aload_n 0, 1) := by decide +kernel
theorem dX11_findPools_157 : decode cX11_findPools 157 = .ok (.getfield 230, 3) := by decide +kernel
theorem dX11_findPools_160 : decode cX11_findPools 160 = .ok (.iconst 1, 1) := by decide +kernel
theorem dX11_findPools_161 : decode cX11_findPools 161 = .ok (.if_icmp .le 23, 3) := by decide +kernel
theorem dX11_findPools_164 : decode cX11_findPools 164 = .ok (.aload_n 0, 1) := by decide +kernel
theorem dX11_findPools_165 : decode cX11_findPools 165 = .ok (.aload_n 0, 1) := by decide +kernel
theorem dX11_findPools_166 : decode cX11_findPools 166 = .ok (.getfield 230, 3) := by decide +kernel
theorem dX11_findPools_169 : decode cX11_findPools 169 = .ok (.iconst 2, 1) := by decide +kernel
theorem dX11_findPools_170 : decode cX11_findPools 170 = .ok (.isub, 1) := by decide +kernel
theorem dX11_findPools_171 : decode cX11_findPools 171 = .ok (.invokevirtual 233, 3) := by decide +kernel
theorem dX11_findPools_174 : decode cX11_findPools 174 = .ok (.ifCond .eq 10, 3) := by decide +kernel
theorem dX11_findPools_177 : decode cX11_findPools 177 = .ok (.aload_n 0, 1) := by decide +kernel
theorem dX11_findPools_178 : decode cX11_findPools 178 = .ok (.invokevirtual 236, 3) := by decide +kernel
theorem dX11_findPools_181 : decode cX11_findPools 181 = .ok (.goto (-25), 3) := by decide +kernel
theorem dX11_findPools_184 : decode cX11_findPools 184 = .ok (.iinc 2 1, 3) := by decide +kernel
theorem dX11_findPools_187 : decode cX11_findPools 187 = .ok (.goto (-180), 3) := by decide +kernel
theorem dX11_findPools_190 : decode cX11_findPools 190 = .ok (.return_, 1) := by decide +kernel
theorem dX11_pools_0 : decode cX11_pools 0 = .ok (.iload_n 1, 1) := by decide +kernel
theorem dX11_pools_1 : decode cX11_pools 1 = .ok (.invokestatic 81, 3) := by decide +kernel
theorem dX11_pools_4 : decode cX11_pools 4 = .ok (.ifCond .ne 5, 3) := by decide +kernel
theorem dX11_pools_7 : decode cX11_pools 7 = .ok (.iconst (-1), 1) := by decide +kernel
theorem dX11_pools_8 : decode cX11_pools 8 = .ok (.ireturn, 1) := by decide +kernel
theorem dX11_pools_9 : decode cX11_pools 9 = .ok (.aload_n 0, 1) := by decide +kernel
theorem dX11_pools_10 : decode cX11_pools 10 = .ok (.iload_n 1, 1) := by decide +kernel
theorem dX11_pools_11 : decode cX11_pools 11 = .ok (.invokevirtual 239, 3) := by decide +kernel
theorem dX11_pools_14 : decode cX11_pools 14 = .ok (.aload_n 0, 1) := by decide +kernel
theorem dX11_pools_15 : decode cX11_pools 15 = .ok (.getfield 230, 3) := by decide +kernel
theorem dX11_pools_18 : decode cX11_pools 18 = .ok (.ireturn, 1) := by decide +kernel
theorem dX11_pool_0 : decode cX11_pool 0 = .ok (.iload_n 1, 1) := by decide +kernel
theorem dX11_pool_1 : decode cX11_pool 1 = .ok (.invokestatic 81, 3) := by decide +kernel
theorem dX11_pool_4 : decode cX11_pool 4 = .ok (.ifCond .ne 5, 3) := by decide +kernel
theorem dX11_pool_7 : decode cX11_pool 7 = .ok (.iconst (-1), 1) := by decide +kernel
theorem dX11_pool_8 : decode cX11_pool 8 = .ok (.ireturn, 1) := by decide +kernel
theorem dX11_pool_9 : decode cX11_pool 9 = .ok (.aload_n 0, 1) := by decide +kernel
theorem dX11_pool_10 : decode cX11_pool 10 = .ok (.iload_n 1, 1) := by decide +kernel
theorem dX11_pool_11 : decode cX11_pool 11 = .ok (.invokevirtual 239, 3) := by decide +kernel
theorem dX11_pool_14 : decode cX11_pool 14 = .ok (.iload_n 2, 1) := by decide +kernel
theorem dX11_pool_15 : decode cX11_pool 15 = .ok (.iconst 0, 1) := by decide +kernel
theorem dX11_pool_16 : decode cX11_pool 16 = .ok (.aload_n 0, 1) := by decide +kernel
theorem dX11_pool_17 : decode cX11_pool 17 = .ok (.getfield 230, 3) := by decide +kernel
theorem dX11_pool_20 : decode cX11_pool 20 = .ok (.iconst 1, 1) := by decide +kernel
theorem dX11_pool_21 : decode cX11_pool 21 = .ok (.isub, 1) := by decide +kernel
theorem dX11_pool_22 : decode cX11_pool 22 = .ok (.invokestatic 66, 3) := by decide +kernel
theorem dX11_pool_25 : decode cX11_pool 25 = .ok (.ifCond .ne 5, 3) := by decide +kernel
theorem dX11_pool_28 : decode cX11_pool 28 = .ok (.iconst (-1), 1) := by decide +kernel
theorem dX11_pool_29 : decode cX11_pool 29 = .ok (.ireturn, 1) := by decide +kernel
theorem dX11_pool_30 : decode cX11_pool 30 = .ok (.iload_n 3, 1) := by decide +kernel
theorem dX11_pool_31 : decode cX11_pool 31 = .ok (.tableswitch 57 0 3 #[29, 36, 43, 50], 29) := by decide +kernel
theorem dX11_pool_60 : decode cX11_pool 60 = .ok (.aload_n 0, 1) := by decide +kernel
theorem dX11_pool_61 : decode cX11_pool 61 = .ok (.getfield 51, 3) := by decide +kernel
theorem dX11_pool_64 : decode cX11_pool 64 = .ok (.iload_n 2, 1) := by decide +kernel
theorem dX11_pool_65 : decode cX11_pool 65 = .ok (.iaload, 1) := by decide +kernel
theorem dX11_pool_66 : decode cX11_pool 66 = .ok (.ireturn, 1) := by decide +kernel
theorem dX11_pool_67 : decode cX11_pool 67 = .ok (.aload_n 0, 1) := by decide +kernel
theorem dX11_pool_68 : decode cX11_pool 68 = .ok (.getfield 54, 3) := by decide +kernel
theorem dX11_pool_71 : decode cX11_pool 71 = .ok (.iload_n 2, 1) := by decide +kernel
theorem dX11_pool_72 : decode cX11_pool 72 = .ok (.iaload, 1) := by decide +kernel
theorem dX11_pool_73 : decode cX11_pool 73 = .ok (.ireturn, 1) := by decide +kernel
theorem dX11_pool_74 : decode cX11_pool 74 = .ok (.aload_n 0, 1) := by decide +kernel
theorem dX11_pool_75 : decode cX11_pool 75 = .ok (.getfield 57, 3) := by decide +kernel
theorem dX11_pool_78 : decode cX11_pool 78 = .ok (.iload_n 2, 1) := by decide +kernel
theorem dX11_pool_79 : decode cX11_pool 79 = .ok (.iaload, 1) := by decide +kernel
theorem dX11_pool_80 : decode cX11_pool 80 = .ok (.ireturn, 1) := by decide +kernel
theorem dX11_pool_81 : decode cX11_pool 81 = .ok (.aload_n 0, 1) := by decide +kernel
theorem dX11_pool_82 : decode cX11_pool 82 = .ok (.getfield 60, 3) := by decide +kernel
theorem dX11_pool_85 : decode cX11_pool 85 = .ok (.iload_n 2, 1) := by decide +kernel
theorem dX11_pool_86 : decode cX11_pool 86 = .ok (.iaload, 1) := by decide +kernel
theorem dX11_pool_87 : decode cX11_pool 87 = .ok (.ireturn, 1) := by decide +kernel
theorem dX11_pool_88 : decode cX11_pool 88 = .ok (.bipush (-2), 2) := by decide +kernel
theorem dX11_pool_90 : decode cX11_pool 90 = .ok (.ireturn, 1) := by decide +kernel
theorem dX11_flat_0 : decode cX11_flat 0 = .ok (.iload_n 1, 1) := by decide +kernel
theorem dX11_flat_1 : decode cX11_flat 1 = .ok (.invokestatic 81, 3) := by decide +kernel
theorem dX11_flat_4 : decode cX11_flat 4 = .ok (.ifCond .eq 20, 3) := by decide +kernel
theorem dX11_flat_7 : decode cX11_flat 7 = .ok (.iload_n 2, 1) := by decide +kernel
theorem dX11_flat_8 : decode cX11_flat 8 = .ok (.iconst 0, 1) := by decide +kernel
theorem dX11_flat_9 : decode cX11_flat 9 = .ok (.iconst 1, 1) := by decide +kernel
theorem dX11_flat_10 : decode cX11_flat 10 = .ok (.invokestatic 66, 3) := by decide +kernel
theorem dX11_flat_13 : decode cX11_flat 13 = .ok (.ifCond .eq 11, 3) := by decide +kernel
theorem dX11_flat_16 : decode cX11_flat 16 = .ok (.aload_n 0, 1) := by decide +kernel
theorem dX11_flat_17 : decode cX11_flat 17 = .ok (.iload_n 1, 1) := by decide +kernel
theorem dX11_flat_18 : decode cX11_flat 18 = .ok (.invokevirtual 164, 3) := by decide +kernel
theorem dX11_flat_21 : decode cX11_flat 21 = .ok (.ifCond .ne 7, 3) := by decide +kernel
theorem dX11_flat_24 : decode cX11_flat 24 = .ok (.ldc2_w 167, 3) := by decide +kernel
theorem dX11_flat_27 : decode cX11_flat 27 = .ok (.lreturn, 1) := by decide +kernel
theorem dX11_flat_28 : decode cX11_flat 28 = .ok (.aload_n 0, 1) := by decide +kernel
theorem dX11_flat_29 : decode cX11_flat 29 = .ok (.iload_n 1, 1) := by decide +kernel
theorem dX11_flat_30 : decode cX11_flat 30 = .ok (.invokevirtual 239, 3) := by decide +kernel
theorem dX11_flat_33 : decode cX11_flat 33 = .ok (.aload_n 0, 1) := by decide +kernel
theorem dX11_flat_34 : decode cX11_flat 34 = .ok (.iload_n 1, 1) := by decide +kernel
theorem dX11_flat_35 : decode cX11_flat 35 = .ok (.invokevirtual 164, 3) := by decide +kernel
theorem dX11_flat_38 : decode cX11_flat 38 = .ok (.i2l, 1) := by decide +kernel
theorem dX11_flat_39 : decode cX11_flat 39 = .ok (.lstore_n 3, 1) := by decide +kernel
theorem dX11_flat_40 : decode cX11_flat 40 = .ok (.aload_n 0, 1) := by decide +kernel
theorem dX11_flat_41 : decode cX11_flat 41 = .ok (.invokevirtual 223, 3) := by decide +kernel
theorem dX11_flat_44 : decode cX11_flat 44 = .ok (.iconst 0, 1) := by decide +kernel
theorem dX11_flat_45 : decode cX11_flat 45 = .ok (.istore 5, 2) := by decide +kernel
theorem dX11_flat_47 : decode cX11_flat 47 = .ok (.iload 5, 2) := by decide +kernel
theorem dX11_flat_49 : decode cX11_flat 49 = .ok (.aload_n 0, 1) := by decide +kernel
theorem dX11_flat_50 : decode cX11_flat 50 = .ok (.getfield 230, 3) := by decide +kernel
theorem dX11_flat_53 : decode cX11_flat 53 = .ok (.if_icmp .ge 48, 3) := by decide +kernel
theorem dX11_flat_56 : decode cX11_flat 56 = .ok (.aload_n 0, 1) := by decide +kernel
theorem dX11_flat_57 : decode cX11_flat 57 = .ok (.aload_n 0, 1) := by decide +kernel
theorem dX11_flat_58 : decode cX11_flat 58 = .ok (.getfield 60, 3) := by decide +kernel
theorem dX11_flat_61 : decode cX11_flat 61 = .ok (.iload 5, 2) := by decide +kernel
theorem dX11_flat_63 : decode cX11_flat 63 = .ok (.iaload, 1) := by decide +kernel
theorem dX11_flat_64 : decode cX11_flat 64 = .ok (.i2l, 1) := by decide +kernel
theorem dX11_flat_65 : decode cX11_flat 65 = .ok (.aload_n 0, 1) := by decide +kernel
theorem dX11_flat_66 : decode cX11_flat 66 = .ok (.getfield 57, 3) := by decide +kernel
theorem dX11_flat_69 : decode cX11_flat 69 = .ok (.iload 5, 2) := by decide +kernel
theorem dX11_flat_71 : decode cX11_flat 71 = .ok (.iaload, 1) := by decide +kernel
theorem dX11_flat_72 : decode cX11_flat 72 = .ok (.aload_n 0, 1) := by decide +kernel
theorem dX11_flat_73 : decode cX11_flat 73 = .ok (.getfield 60, 3) := by decide +kernel
theorem dX11_flat_76 : decode cX11_flat 76 = .ok (.iload 5, 2) := by decide +kernel
theorem dX11_flat_78 : decode cX11_flat 78 = .ok (.iaload, 1) := by decide +kernel
theorem dX11_flat_79 : decode cX11_flat 79 = .ok (.isub, 1) := by decide +kernel
theorem dX11_flat_80 : decode cX11_flat 80 = .ok (.i2l, 1) := by decide +kernel
theorem dX11_flat_81 : decode cX11_flat 81 = .ok (.lmul, 1) := by decide +kernel
theorem dX11_flat_82 : decode cX11_flat 82 = .ok (.aload_n 0, 1) := by decide +kernel
theorem dX11_flat_83 : decode cX11_flat 83 = .ok (.getfield 57, 3) := by decide +kernel
theorem dX11_flat_86 : decode cX11_flat 86 = .ok (.iload 5, 2) := by decide +kernel
theorem dX11_flat_88 : decode cX11_flat 88 = .ok (.iaload, 1) := by decide +kernel
theorem dX11_flat_89 : decode cX11_flat 89 = .ok (.i2l, 1) := by decide +kernel
theorem dX11_flat_90 : decode cX11_flat 90 = .ok (.lload_n 3, 1) := by decide +kernel
theorem dX11_flat_91 : decode cX11_flat 91 = .ok (.lmul, 1) := by decide +kernel
theorem dX11_flat_92 : decode cX11_flat 92 = .ok (.invokevirtual 213, 3) := by decide +kernel
theorem dX11_flat_95 : decode cX11_flat 95 = .ok (.iinc 5 1, 3) := by decide +kernel
theorem dX11_flat_98 : decode cX11_flat 98 = .ok (.goto (-51), 3) := by decide +kernel
theorem dX11_flat_101 : decode cX11_flat 101 = .ok (.aload_n 0, 1) := by decide +kernel
theorem dX11_flat_102 : decode cX11_flat 102 = .ok (.iload_n 2, 1) := by decide +kernel
theorem dX11_flat_103 : decode cX11_flat 103 = .ok (.invokevirtual 173, 3) := by decide +kernel
theorem dX11_flat_106 : decode cX11_flat 106 = .ok (.lreturn, 1) := by decide +kernel
theorem dX11_compares_0 : decode cX11_compares 0 = .ok (.aload_n 0, 1) := by decide +kernel
theorem dX11_compares_1 : decode cX11_compares 1 = .ok (.iconst 0, 1) := by decide +kernel
theorem dX11_compares_2 : decode cX11_compares 2 = .ok (.putfield 242, 3) := by decide +kernel
theorem dX11_compares_5 : decode cX11_compares 5 = .ok (.aload_n 0, 1) := by decide +kernel
theorem dX11_compares_6 : decode cX11_compares 6 = .ok (.iconst 0, 1) := by decide +kernel
theorem dX11_compares_7 : decode cX11_compares 7 = .ok (.putfield 245, 3) := by decide +kernel
theorem dX11_compares_10 : decode cX11_compares 10 = .ok (.aload_n 0, 1) := by decide +kernel
theorem dX11_compares_11 : decode cX11_compares 11 = .ok (.iconst 0, 1) := by decide +kernel
theorem dX11_compares_12 : decode cX11_compares 12 = .ok (.putfield 248, 3) := by decide +kernel
theorem dX11_compares_15 : decode cX11_compares 15 = .ok (.iconst 0, 1) := by decide +kernel
theorem dX11_compares_16 : decode cX11_compares 16 = .ok (.istore_n 3, 1) := by decide +kernel
theorem dX11_compares_17 : decode cX11_compares 17 = .ok (.iload_n 3, 1) := by decide +kernel
theorem dX11_compares_18 : decode cX11_compares 18 = .ok (.bipush 40, 2) := by decide +kernel
theorem dX11_compares_20 : decode cX11_compares 20 = .ok (.if_icmp .ge 133, 3) := by decide +kernel
theorem dX11_compares_23 : decode cX11_compares 23 = .ok (.aload_n 0, 1) := by decide +kernel
theorem dX11_compares_24 : decode cX11_compares 24 = .ok (.iload_n 1, 1) := by decide +kernel
theorem dX11_compares_25 : decode cX11_compares 25 = .ok (.iload_n 3, 1) := by decide +kernel
theorem dX11_compares_26 : decode cX11_compares 26 = .ok (.invokevirtual 153, 3) := by decide +kernel
theorem dX11_compares_29 : decode cX11_compares 29 = .ok (.ifCond .eq 118, 3) := by decide +kernel
theorem dX11_compares_32 : decode cX11_compares 32 = .ok (.aload_n 0, 1) := by decide +kernel
theorem dX11_compares_33 : decode cX11_compares 33 = .ok (.iload_n 2, 1) := by decide +kernel
theorem dX11_compares_34 : decode cX11_compares 34 = .ok (.iload_n 3, 1) := by decide +kernel
theorem dX11_compares_35 : decode cX11_compares 35 = .ok (.invokevirtual 153, 3) := by decide +kernel
theorem dX11_compares_38 : decode cX11_compares 38 = .ok (.ifCond .eq 109, 3) := by decide +kernel
theorem dX11_compares_41 : decode cX11_compares 41 = .ok (.aload_n 0, 1) := by decide +kernel
theorem dX11_compares_42 : decode cX11_compares 42 = .ok (.aload_n 0, 1) := by decide +kernel
theorem dX11_compares_43 : decode cX11_compares 43 = .ok (.iload_n 1, 1) := by decide +kernel
theorem dX11_compares_44 : decode cX11_compares 44 = .ok (.iload_n 3, 1) := by decide +kernel
theorem dX11_compares_45 : decode cX11_compares 45 = .ok (.invokevirtual 84, 3) := by decide +kernel
theorem dX11_compares_48 : decode cX11_compares 48 = .ok (.aload_n 0, 1) := by decide +kernel
theorem dX11_compares_49 : decode cX11_compares 49 = .ok (.getfield 13, 3) := by decide +kernel
theorem dX11_compares_52 : decode cX11_compares 52 = .ok (.iload_n 3, 1) := by decide +kernel
theorem dX11_compares_53 : decode cX11_compares 53 = .ok (.iaload, 1) := by decide +kernel
theorem dX11_compares_54 : decode cX11_compares 54 = .ok (.iconst 1, 1) := by decide +kernel
theorem dX11_compares_55 : decode cX11_compares 55 = .ok (.if_icmp .ne 7, 3) := by decide +kernel
theorem dX11_compares_58 : decode cX11_compares 58 = .ok (.iconst 1, 1) := by decide +kernel
theorem dX11_compares_59 : decode cX11_compares 59 = .ok (.goto 4, 3) := by decide +kernel
theorem dX11_compares_62 : decode cX11_compares 62 = .ok (.iconst 0, 1) := by decide +kernel
theorem dX11_compares_63 : decode cX11_compares 63 = .ok (.invokevirtual 149, 3) := by decide +kernel
theorem dX11_compares_66 : decode cX11_compares 66 = .ok (.istore 4, 2) := by decide +kernel
theorem dX11_compares_68 : decode cX11_compares 68 = .ok (.aload_n 0, 1) := by decide +kernel
theorem dX11_compares_69 : decode cX11_compares 69 = .ok (.aload_n 0, 1) := by decide +kernel
theorem dX11_compares_70 : decode cX11_compares 70 = .ok (.iload_n 2, 1) := by decide +kernel
theorem dX11_compares_71 : decode cX11_compares 71 = .ok (.iload_n 3, 1) := by decide +kernel
theorem dX11_compares_72 : decode cX11_compares 72 = .ok (.invokevirtual 84, 3) := by decide +kernel
theorem dX11_compares_75 : decode cX11_compares 75 = .ok (.aload_n 0, 1) := by decide +kernel
theorem dX11_compares_76 : decode cX11_compares 76 = .ok (.getfield 13, 3) := by decide +kernel
theorem dX11_compares_79 : decode cX11_compares 79 = .ok (.iload_n 3, 1) := by decide +kernel
theorem dX11_compares_80 : decode cX11_compares 80 = .ok (.iaload, 1) := by decide +kernel
theorem dX11_compares_81 : decode cX11_compares 81 = .ok (.iconst 1, 1) := by decide +kernel
theorem dX11_compares_82 : decode cX11_compares 82 = .ok (.if_icmp .ne 7, 3) := by decide +kernel
theorem dX11_compares_85 : decode cX11_compares 85 = .ok (.iconst 1, 1) := by decide +kernel
theorem dX11_compares_86 : decode cX11_compares 86 = .ok (.goto 4, 3) := by decide +kernel
theorem dX11_compares_89 : decode cX11_compares 89 = .ok (.iconst 0, 1) := by decide +kernel
theorem dX11_compares_90 : decode cX11_compares 90 = .ok (.invokevirtual 149, 3) := by decide +kernel
theorem dX11_compares_93 : decode cX11_compares 93 = .ok (.istore 5, 2) := by decide +kernel
theorem dX11_compares_95 : decode cX11_compares 95 = .ok (.aload_n 0, 1) := by decide +kernel
theorem dX11_compares_96 : decode cX11_compares 96 = .ok (.dup, 1) := by decide +kernel
theorem dX11_compares_97 : decode cX11_compares 97 = .ok (.getfield 242, 3) := by decide +kernel
theorem dX11_compares_100 : decode cX11_compares 100 = .ok (.iconst 1, 1) := by decide +kernel
theorem dX11_compares_101 : decode cX11_compares 101 = .ok (.iadd, 1) := by decide +kernel
theorem dX11_compares_102 : decode cX11_compares 102 = .ok (.putfield 242, 3) := by decide +kernel
theorem dX11_compares_105 : decode cX11_compares 105 = .ok (.aload_n 0, 1) := by decide +kernel
theorem dX11_compares_106 : decode cX11_compares 106 = .ok (.dup, 1) := by decide +kernel
theorem dX11_compares_107 : decode cX11_compares 107 = .ok (.getfield 245, 3) := by decide +kernel
theorem dX11_compares_110 : decode cX11_compares 110 = .ok (.iload 4, 2) := by decide +kernel
theorem dX11_compares_112 : decode cX11_compares 112 = .ok (.iload 5, 2) := by decide +kernel
theorem dX11_compares_114 : decode cX11_compares 114 = .ok (.if_icmp .ge 7, 3) := by decide +kernel
theorem dX11_compares_117 : decode cX11_compares 117 = .ok (.iconst 1, 1) := by decide +kernel
theorem dX11_compares_118 : decode cX11_compares 118 = .ok (.goto 4, 3) := by decide +kernel
theorem dX11_compares_121 : decode cX11_compares 121 = .ok (.iconst 0, 1) := by decide +kernel
theorem dX11_compares_122 : decode cX11_compares 122 = .ok (.iadd, 1) := by decide +kernel
theorem dX11_compares_123 : decode cX11_compares 123 = .ok (.putfield 245, 3) := by decide +kernel
theorem dX11_compares_126 : decode cX11_compares 126 = .ok (.aload_n 0, 1) := by decide +kernel
theorem dX11_compares_127 : decode cX11_compares 127 = .ok (.dup, 1) := by decide +kernel
theorem dX11_compares_128 : decode cX11_compares 128 = .ok (.getfield 248, 3) := by decide +kernel
theorem dX11_compares_131 : decode cX11_compares 131 = .ok (.iload 5, 2) := by decide +kernel
theorem dX11_compares_133 : decode cX11_compares 133 = .ok (.iload 4, 2) := by decide +kernel
theorem dX11_compares_135 : decode cX11_compares 135 = .ok (.if_icmp .ge 7, 3) := by decide +kernel
theorem dX11_compares_138 : decode cX11_compares 138 = .ok (.iconst 1, 1) := by decide +kernel
theorem dX11_compares_139 : decode cX11_compares 139 = .ok (.goto 4, 3) := by decide +kernel
theorem dX11_compares_142 : decode cX11_compares 142 = .ok (.iconst 0, 1) := by decide +kernel
theorem dX11_compares_143 : decode cX11_compares 143 = .ok (.iadd, 1) := by decide +kernel
theorem dX11_compares_144 : decode cX11_compares 144 = .ok (.putfield 248, 3) := by decide +kernel
theorem dX11_compares_147 : decode cX11_compares 147 = .ok (.iinc 3 1, 3) := by decide +kernel
theorem dX11_compares_150 : decode cX11_compares 150 = .ok (.goto (-133), 3) := by decide +kernel
theorem dX11_compares_153 : decode cX11_compares 153 = .ok (.return_, 1) := by decide +kernel
theorem dX11_better_0 : decode cX11_better 0 = .ok (.iload_n 1, 1) := by decide +kernel
theorem dX11_better_1 : decode cX11_better 1 = .ok (.invokestatic 81, 3) := by decide +kernel
theorem dX11_better_4 : decode cX11_better 4 = .ok (.ifCond .eq 10, 3) := by decide +kernel
theorem dX11_better_7 : decode cX11_better 7 = .ok (.iload_n 2, 1) := by decide +kernel
theorem dX11_better_8 : decode cX11_better 8 = .ok (.invokestatic 81, 3) := by decide +kernel
theorem dX11_better_11 : decode cX11_better 11 = .ok (.ifCond .ne 5, 3) := by decide +kernel
theorem dX11_better_14 : decode cX11_better 14 = .ok (.iconst (-1), 1) := by decide +kernel
theorem dX11_better_15 : decode cX11_better 15 = .ok (.ireturn, 1) := by decide +kernel
theorem dX11_better_16 : decode cX11_better 16 = .ok (.aload_n 0, 1) := by decide +kernel
theorem dX11_better_17 : decode cX11_better 17 = .ok (.iload_n 1, 1) := by decide +kernel
theorem dX11_better_18 : decode cX11_better 18 = .ok (.iload_n 2, 1) := by decide +kernel
theorem dX11_better_19 : decode cX11_better 19 = .ok (.invokevirtual 251, 3) := by decide +kernel
theorem dX11_better_22 : decode cX11_better 22 = .ok (.iload_n 3, 1) := by decide +kernel
theorem dX11_better_23 : decode cX11_better 23 = .ok (.tableswitch 59 0 3 #[29, 34, 39, 44], 29) := by decide +kernel
theorem dX11_better_52 : decode cX11_better 52 = .ok (.aload_n 0, 1) := by decide +kernel
theorem dX11_better_53 : decode cX11_better 53 = .ok (.getfield 242, 3) := by decide +kernel
theorem dX11_better_56 : decode cX11_better 56 = .ok (.ireturn, 1) := by decide +kernel
theorem dX11_better_57 : decode cX11_better 57 = .ok (.aload_n 0, 1) := by decide +kernel
theorem dX11_better_58 : decode cX11_better 58 = .ok (.getfield 245, 3) := by decide +kernel
theorem dX11_better_61 : decode cX11_better 61 = .ok (.ireturn, 1) := by decide +kernel
theorem dX11_better_62 : decode cX11_better 62 = .ok (.aload_n 0, 1) := by decide +kernel
theorem dX11_better_63 : decode cX11_better 63 = .ok (.getfield 248, 3) := by decide +kernel
theorem dX11_better_66 : decode cX11_better 66 = .ok (.ireturn, 1) := by decide +kernel
theorem dX11_better_67 : decode cX11_better 67 = .ok (.aload_n 0, 1) := by decide +kernel
theorem dX11_better_68 : decode cX11_better 68 = .ok (.getfield 242, 3) := by decide +kernel
theorem dX11_better_71 : decode cX11_better 71 = .ok (.aload_n 0, 1) := by decide +kernel
theorem dX11_better_72 : decode cX11_better 72 = .ok (.getfield 245, 3) := by decide +kernel
theorem dX11_better_75 : decode cX11_better 75 = .ok (.isub, 1) := by decide +kernel
theorem dX11_better_76 : decode cX11_better 76 = .ok (.aload_n 0, 1) := by decide +kernel
theorem dX11_better_77 : decode cX11_better 77 = .ok (.getfield 248, 3) := by decide +kernel
theorem dX11_better_80 : decode cX11_better 80 = .ok (.isub, 1) := by decide +kernel
theorem dX11_better_81 : decode cX11_better 81 = .ok (.ireturn, 1) := by decide +kernel
theorem dX11_better_82 : decode cX11_better 82 = .ok (.bipush (-2), 2) := by decide +kernel
theorem dX11_better_84 : decode cX11_better 84 = .ok (.ireturn, 1) := by decide +kernel
theorem dX11_choose_0 : decode cX11_choose 0 = .ok (.lconst 1, 1) := by decide +kernel
theorem dX11_choose_1 : decode cX11_choose 1 = .ok (.lstore_n 2, 1) := by decide +kernel
theorem dX11_choose_2 : decode cX11_choose 2 = .ok (.iconst 0, 1) := by decide +kernel
theorem dX11_choose_3 : decode cX11_choose 3 = .ok (.istore 4, 2) := by decide +kernel
theorem dX11_choose_5 : decode cX11_choose 5 = .ok (.iload 4, 2) := by decide +kernel
theorem dX11_choose_7 : decode cX11_choose 7 = .ok (.iload_n 1, 1) := by decide +kernel
theorem dX11_choose_8 : decode cX11_choose 8 = .ok (.if_icmp .ge 23, 3) := by decide +kernel
theorem dX11_choose_11 : decode cX11_choose 11 = .ok (.lload_n 2, 1) := by decide +kernel
theorem dX11_choose_12 : decode cX11_choose 12 = .ok (.iload_n 0, 1) := by decide +kernel
theorem dX11_choose_13 : decode cX11_choose 13 = .ok (.iload 4, 2) := by decide +kernel
theorem dX11_choose_15 : decode cX11_choose 15 = .ok (.isub, 1) := by decide +kernel
theorem dX11_choose_16 : decode cX11_choose 16 = .ok (.i2l, 1) := by decide +kernel
theorem dX11_choose_17 : decode cX11_choose 17 = .ok (.lmul, 1) := by decide +kernel
theorem dX11_choose_18 : decode cX11_choose 18 = .ok (.iload 4, 2) := by decide +kernel
theorem dX11_choose_20 : decode cX11_choose 20 = .ok (.iconst 1, 1) := by decide +kernel
theorem dX11_choose_21 : decode cX11_choose 21 = .ok (.iadd, 1) := by decide +kernel
theorem dX11_choose_22 : decode cX11_choose 22 = .ok (.i2l, 1) := by decide +kernel
theorem dX11_choose_23 : decode cX11_choose 23 = .ok (.ldiv, 1) := by decide +kernel
theorem dX11_choose_24 : decode cX11_choose 24 = .ok (.lstore_n 2, 1) := by decide +kernel
theorem dX11_choose_25 : decode cX11_choose 25 = .ok (.iinc 4 1, 3) := by decide +kernel
theorem dX11_choose_28 : decode cX11_choose 28 = .ok (.goto (-23), 3) := by decide +kernel
theorem dX11_choose_31 : decode cX11_choose 31 = .ok (.lload_n 2, 1) := by decide +kernel
theorem dX11_choose_32 : decode cX11_choose 32 = .ok (.lreturn, 1) := by decide +kernel
theorem dX11_luck_0 : decode cX11_luck 0 = .ok (.iload_n 1, 1) := by decide +kernel
theorem dX11_luck_1 : decode cX11_luck 1 = .ok (.invokestatic 81, 3) := by decide +kernel
theorem dX11_luck_4 : decode cX11_luck 4 = .ok (.ifCond .eq 19, 3) := by decide +kernel
theorem dX11_luck_7 : decode cX11_luck 7 = .ok (.iload_n 2, 1) := by decide +kernel
theorem dX11_luck_8 : decode cX11_luck 8 = .ok (.invokestatic 81, 3) := by decide +kernel
theorem dX11_luck_11 : decode cX11_luck 11 = .ok (.ifCond .eq 12, 3) := by decide +kernel
theorem dX11_luck_14 : decode cX11_luck 14 = .ok (.iload_n 3, 1) := by decide +kernel
theorem dX11_luck_15 : decode cX11_luck 15 = .ok (.iconst 0, 1) := by decide +kernel
theorem dX11_luck_16 : decode cX11_luck 16 = .ok (.iconst 1, 1) := by decide +kernel
theorem dX11_luck_17 : decode cX11_luck 17 = .ok (.invokestatic 66, 3) := by decide +kernel
theorem dX11_luck_20 : decode cX11_luck 20 = .ok (.ifCond .ne 7, 3) := by decide +kernel
theorem dX11_luck_23 : decode cX11_luck 23 = .ok (.ldc2_w 167, 3) := by decide +kernel
theorem dX11_luck_26 : decode cX11_luck 26 = .ok (.lreturn, 1) := by decide +kernel
theorem dX11_luck_27 : decode cX11_luck 27 = .ok (.aload_n 0, 1) := by decide +kernel
theorem dX11_luck_28 : decode cX11_luck 28 = .ok (.iload_n 1, 1) := by decide +kernel
theorem dX11_luck_29 : decode cX11_luck 29 = .ok (.iload_n 2, 1) := by decide +kernel
theorem dX11_luck_30 : decode cX11_luck 30 = .ok (.invokevirtual 251, 3) := by decide +kernel
theorem dX11_luck_33 : decode cX11_luck 33 = .ok (.aload_n 0, 1) := by decide +kernel
theorem dX11_luck_34 : decode cX11_luck 34 = .ok (.getfield 245, 3) := by decide +kernel
theorem dX11_luck_37 : decode cX11_luck 37 = .ok (.aload_n 0, 1) := by decide +kernel
theorem dX11_luck_38 : decode cX11_luck 38 = .ok (.getfield 248, 3) := by decide +kernel
theorem dX11_luck_41 : decode cX11_luck 41 = .ok (.iadd, 1) := by decide +kernel
theorem dX11_luck_42 : decode cX11_luck 42 = .ok (.istore 4, 2) := by decide +kernel
theorem dX11_luck_44 : decode cX11_luck 44 = .ok (.lconst 0, 1) := by decide +kernel
theorem dX11_luck_45 : decode cX11_luck 45 = .ok (.lstore 5, 2) := by decide +kernel
theorem dX11_luck_47 : decode cX11_luck 47 = .ok (.aload_n 0, 1) := by decide +kernel
theorem dX11_luck_48 : decode cX11_luck 48 = .ok (.getfield 245, 3) := by decide +kernel
theorem dX11_luck_51 : decode cX11_luck 51 = .ok (.aload_n 0, 1) := by decide +kernel
theorem dX11_luck_52 : decode cX11_luck 52 = .ok (.getfield 248, 3) := by decide +kernel
theorem dX11_luck_55 : decode cX11_luck 55 = .ok (.if_icmp .le 10, 3) := by decide +kernel
theorem dX11_luck_58 : decode cX11_luck 58 = .ok (.aload_n 0, 1) := by decide +kernel
theorem dX11_luck_59 : decode cX11_luck 59 = .ok (.getfield 245, 3) := by decide +kernel
theorem dX11_luck_62 : decode cX11_luck 62 = .ok (.goto 7, 3) := by decide +kernel
theorem dX11_luck_65 : decode cX11_luck 65 = .ok (.aload_n 0, 1) := by decide +kernel
theorem dX11_luck_66 : decode cX11_luck 66 = .ok (.getfield 248, 3) := by decide +kernel
theorem dX11_luck_69 : decode cX11_luck 69 = .ok (.istore 7, 2) := by decide +kernel
theorem dX11_luck_71 : decode cX11_luck 71 = .ok (.iload 7, 2) := by decide +kernel
theorem dX11_luck_73 : decode cX11_luck 73 = .ok (.iload 4, 2) := by decide +kernel
theorem dX11_luck_75 : decode cX11_luck 75 = .ok (.if_icmp .gt 21, 3) := by decide +kernel
theorem dX11_luck_78 : decode cX11_luck 78 = .ok (.lload 5, 2) := by decide +kernel
theorem dX11_luck_80 : decode cX11_luck 80 = .ok (.iload 4, 2) := by decide +kernel
theorem dX11_luck_82 : decode cX11_luck 82 = .ok (.iload 7, 2) := by decide +kernel
theorem dX11_luck_84 : decode cX11_luck 84 = .ok (.invokestatic 254, 3) := by decide +kernel
theorem dX11_luck_87 : decode cX11_luck 87 = .ok (.ladd, 1) := by decide +kernel
theorem dX11_luck_88 : decode cX11_luck 88 = .ok (.lstore 5, 2) := by decide +kernel
theorem dX11_luck_90 : decode cX11_luck 90 = .ok (.iinc 7 1, 3) := by decide +kernel
theorem dX11_luck_93 : decode cX11_luck 93 = .ok (.goto (-22), 3) := by decide +kernel
theorem dX11_luck_96 : decode cX11_luck 96 = .ok (.aload_n 0, 1) := by decide +kernel
theorem dX11_luck_97 : decode cX11_luck 97 = .ok (.lload 5, 2) := by decide +kernel
theorem dX11_luck_99 : decode cX11_luck 99 = .ok (.lconst 1, 1) := by decide +kernel
theorem dX11_luck_100 : decode cX11_luck 100 = .ok (.iload 4, 2) := by decide +kernel
theorem dX11_luck_102 : decode cX11_luck 102 = .ok (.lshl, 1) := by decide +kernel
theorem dX11_luck_103 : decode cX11_luck 103 = .ok (.invokevirtual 160, 3) := by decide +kernel
theorem dX11_luck_106 : decode cX11_luck 106 = .ok (.aload_n 0, 1) := by decide +kernel
theorem dX11_luck_107 : decode cX11_luck 107 = .ok (.iload_n 3, 1) := by decide +kernel
theorem dX11_luck_108 : decode cX11_luck 108 = .ok (.invokevirtual 173, 3) := by decide +kernel
theorem dX11_luck_111 : decode cX11_luck 111 = .ok (.lreturn, 1) := by decide +kernel
theorem dX11_writes_0 : decode cX11_writes 0 = .ok (.aload_n 0, 1) := by decide +kernel
theorem dX11_writes_1 : decode cX11_writes 1 = .ok (.getfield 63, 3) := by decide +kernel
theorem dX11_writes_4 : decode cX11_writes 4 = .ok (.aload_n 0, 1) := by decide +kernel
theorem dX11_writes_5 : decode cX11_writes 5 = .ok (.getfield 257, 3) := by decide +kernel
theorem dX11_writes_8 : decode cX11_writes 8 = .ok (.iload_n 1, 1) := by decide +kernel
theorem dX11_writes_9 : decode cX11_writes 9 = .ok (.iastore, 1) := by decide +kernel
theorem dX11_writes_10 : decode cX11_writes 10 = .ok (.aload_n 0, 1) := by decide +kernel
theorem dX11_writes_11 : decode cX11_writes 11 = .ok (.dup, 1) := by decide +kernel
theorem dX11_writes_12 : decode cX11_writes 12 = .ok (.getfield 257, 3) := by decide +kernel
theorem dX11_writes_15 : decode cX11_writes 15 = .ok (.iconst 1, 1) := by decide +kernel
theorem dX11_writes_16 : decode cX11_writes 16 = .ok (.iadd, 1) := by decide +kernel
theorem dX11_writes_17 : decode cX11_writes 17 = .ok (.putfield 257, 3) := by decide +kernel
theorem dX11_writes_20 : decode cX11_writes 20 = .ok (.return_, 1) := by decide +kernel
theorem dX11_writesNumber_0 : decode cX11_writesNumber 0 = .ok (.lconst 1, 1) := by decide +kernel
theorem dX11_writesNumber_1 : decode cX11_writesNumber 1 = .ok (.lstore_n 3, 1) := by decide +kernel
theorem dX11_writesNumber_2 : decode cX11_writesNumber 2 = .ok (.lload_n 1, 1) := by decide +kernel
theorem dX11_writesNumber_3 : decode cX11_writesNumber 3 = .ok (.lload_n 3, 1) := by decide +kernel
theorem dX11_writesNumber_4 : decode cX11_writesNumber 4 = .ok (.ldiv, 1) := by decide +kernel
theorem dX11_writesNumber_5 : decode cX11_writesNumber 5 = .ok (.ldc2_w 260, 3) := by decide +kernel
theorem dX11_writesNumber_8 : decode cX11_writesNumber 8 = .ok (.lcmp, 1) := by decide +kernel
theorem dX11_writesNumber_9 : decode cX11_writesNumber 9 = .ok (.ifCond .le 12, 3) := by decide +kernel
theorem dX11_writesNumber_12 : decode cX11_writesNumber 12 = .ok (.lload_n 3, 1) := by decide +kernel
theorem dX11_writesNumber_13 : decode cX11_writesNumber 13 = .ok (.ldc2_w 262, 3) := by decide +kernel
theorem dX11_writesNumber_16 : decode cX11_writesNumber 16 = .ok (.lmul, 1) := by decide +kernel
theorem dX11_writesNumber_17 : decode cX11_writesNumber 17 = .ok (.lstore_n 3, 1) := by decide +kernel
theorem dX11_writesNumber_18 : decode cX11_writesNumber 18 = .ok (.goto (-16), 3) := by decide +kernel
theorem dX11_writesNumber_21 : decode cX11_writesNumber 21 = .ok (.lload_n 3, 1) := by decide +kernel
theorem dX11_writesNumber_22 : decode cX11_writesNumber 22 = .ok (.lconst 0, 1) := by decide +kernel
theorem dX11_writesNumber_23 : decode cX11_writesNumber 23 = .ok (.lcmp, 1) := by decide +kernel
theorem dX11_writesNumber_24 : decode cX11_writesNumber 24 = .ok (.ifCond .le 27, 3) := by decide +kernel
theorem dX11_writesNumber_27 : decode cX11_writesNumber 27 = .ok (.aload_n 0, 1) := by decide +kernel
theorem dX11_writesNumber_28 : decode cX11_writesNumber 28 = .ok (.bipush 48, 2) := by decide +kernel
theorem dX11_writesNumber_30 : decode cX11_writesNumber 30 = .ok (.lload_n 1, 1) := by decide +kernel
theorem dX11_writesNumber_31 : decode cX11_writesNumber 31 = .ok (.lload_n 3, 1) := by decide +kernel
theorem dX11_writesNumber_32 : decode cX11_writesNumber 32 = .ok (.ldiv, 1) := by decide +kernel
theorem dX11_writesNumber_33 : decode cX11_writesNumber 33 = .ok (.ldc2_w 262, 3) := by decide +kernel
theorem dX11_writesNumber_36 : decode cX11_writesNumber 36 = .ok (.lrem, 1) := by decide +kernel
theorem dX11_writesNumber_37 : decode cX11_writesNumber 37 = .ok (.l2i, 1) := by decide +kernel
theorem dX11_writesNumber_38 : decode cX11_writesNumber 38 = .ok (.iadd, 1) := by decide +kernel
theorem dX11_writesNumber_39 : decode cX11_writesNumber 39 = .ok (.invokevirtual 264, 3) := by decide +kernel
theorem dX11_writesNumber_42 : decode cX11_writesNumber 42 = .ok (.lload_n 3, 1) := by decide +kernel
theorem dX11_writesNumber_43 : decode cX11_writesNumber 43 = .ok (.ldc2_w 262, 3) := by decide +kernel
theorem dX11_writesNumber_46 : decode cX11_writesNumber 46 = .ok (.ldiv, 1) := by decide +kernel
theorem dX11_writesNumber_47 : decode cX11_writesNumber 47 = .ok (.lstore_n 3, 1) := by decide +kernel
theorem dX11_writesNumber_48 : decode cX11_writesNumber 48 = .ok (.goto (-27), 3) := by decide +kernel
theorem dX11_writesNumber_51 : decode cX11_writesNumber 51 = .ok (.return_, 1) := by decide +kernel
theorem dX11_writesReport_0 : decode cX11_writesReport 0 = .ok (.aload_n 0, 1) := by decide +kernel
theorem dX11_writesReport_1 : decode cX11_writesReport 1 = .ok (.iconst 0, 1) := by decide +kernel
theorem dX11_writesReport_2 : decode cX11_writesReport 2 = .ok (.putfield 257, 3) := by decide +kernel
theorem dX11_writesReport_5 : decode cX11_writesReport 5 = .ok (.aload_n 0, 1) := by decide +kernel
theorem dX11_writesReport_6 : decode cX11_writesReport 6 = .ok (.bipush 84, 2) := by decide +kernel
theorem dX11_writesReport_8 : decode cX11_writesReport 8 = .ok (.invokevirtual 264, 3) := by decide +kernel
theorem dX11_writesReport_11 : decode cX11_writesReport 11 = .ok (.aload_n 0, 1) := by decide +kernel
theorem dX11_writesReport_12 : decode cX11_writesReport 12 = .ok (.bipush 48, 2) := by decide +kernel
theorem dX11_writesReport_14 : decode cX11_writesReport 14 = .ok (.iload_n 1, 1) := by decide +kernel
theorem dX11_writesReport_15 : decode cX11_writesReport 15 = .ok (.iadd, 1) := by decide +kernel
theorem dX11_writesReport_16 : decode cX11_writesReport 16 = .ok (.invokevirtual 264, 3) := by decide +kernel
theorem dX11_writesReport_19 : decode cX11_writesReport 19 = .ok (.aload_n 0, 1) := by decide +kernel
theorem dX11_writesReport_20 : decode cX11_writesReport 20 = .ok (.bipush 32, 2) := by decide +kernel
theorem dX11_writesReport_22 : decode cX11_writesReport 22 = .ok (.invokevirtual 264, 3) := by decide +kernel
theorem dX11_writesReport_25 : decode cX11_writesReport 25 = .ok (.iconst 0, 1) := by decide +kernel
theorem dX11_writesReport_26 : decode cX11_writesReport 26 = .ok (.istore_n 2, 1) := by decide +kernel
theorem dX11_writesReport_27 : decode cX11_writesReport 27 = .ok (.iload_n 2, 1) := by decide +kernel
theorem dX11_writesReport_28 : decode cX11_writesReport 28 = .ok (.aload_n 0, 1) := by decide +kernel
theorem dX11_writesReport_29 : decode cX11_writesReport 29 = .ok (.bipush 6, 2) := by decide +kernel
theorem dX11_writesReport_31 : decode cX11_writesReport 31 = .ok (.aload_n 0, 1) := by decide +kernel
theorem dX11_writesReport_32 : decode cX11_writesReport 32 = .ok (.getfield 146, 3) := by decide +kernel
theorem dX11_writesReport_35 : decode cX11_writesReport 35 = .ok (.iadd, 1) := by decide +kernel
theorem dX11_writesReport_36 : decode cX11_writesReport 36 = .ok (.invokevirtual 97, 3) := by decide +kernel
theorem dX11_writesReport_39 : decode cX11_writesReport 39 = .ok (.if_icmp .ge 30, 3) := by decide +kernel
theorem dX11_writesReport_42 : decode cX11_writesReport 42 = .ok (.aload_n 0, 1) := by decide +kernel
theorem dX11_writesReport_43 : decode cX11_writesReport 43 = .ok (.aload_n 0, 1) := by decide +kernel
theorem dX11_writesReport_44 : decode cX11_writesReport 44 = .ok (.getfield 22, 3) := by decide +kernel
theorem dX11_writesReport_47 : decode cX11_writesReport 47 = .ok (.bipush 6, 2) := by decide +kernel
theorem dX11_writesReport_49 : decode cX11_writesReport 49 = .ok (.bipush 6, 2) := by decide +kernel
theorem dX11_writesReport_51 : decode cX11_writesReport 51 = .ok (.aload_n 0, 1) := by decide +kernel
theorem dX11_writesReport_52 : decode cX11_writesReport 52 = .ok (.getfield 146, 3) := by decide +kernel
theorem dX11_writesReport_55 : decode cX11_writesReport 55 = .ok (.iadd, 1) := by decide +kernel
theorem dX11_writesReport_56 : decode cX11_writesReport 56 = .ok (.imul, 1) := by decide +kernel
theorem dX11_writesReport_57 : decode cX11_writesReport 57 = .ok (.iload_n 2, 1) := by decide +kernel
theorem dX11_writesReport_58 : decode cX11_writesReport 58 = .ok (.iadd, 1) := by decide +kernel
theorem dX11_writesReport_59 : decode cX11_writesReport 59 = .ok (.iaload, 1) := by decide +kernel
theorem dX11_writesReport_60 : decode cX11_writesReport 60 = .ok (.invokevirtual 264, 3) := by decide +kernel
theorem dX11_writesReport_63 : decode cX11_writesReport 63 = .ok (.iinc 2 1, 3) := by decide +kernel
theorem dX11_writesReport_66 : decode cX11_writesReport 66 = .ok (.goto (-39), 3) := by decide +kernel
theorem dX11_writesReport_69 : decode cX11_writesReport 69 = .ok (.aload_n 0, 1) := by decide +kernel
theorem dX11_writesReport_70 : decode cX11_writesReport 70 = .ok (.bipush 32, 2) := by decide +kernel
theorem dX11_writesReport_72 : decode cX11_writesReport 72 = .ok (.invokevirtual 264, 3) := by decide +kernel
theorem dX11_writesReport_75 : decode cX11_writesReport 75 = .ok (.aload_n 0, 1) := by decide +kernel
theorem dX11_writesReport_76 : decode cX11_writesReport 76 = .ok (.iload_n 1, 1) := by decide +kernel
theorem dX11_writesReport_77 : decode cX11_writesReport 77 = .ok (.invokevirtual 164, 3) := by decide +kernel
theorem dX11_writesReport_80 : decode cX11_writesReport 80 = .ok (.ifCond .ne 12, 3) := by decide +kernel
theorem dX11_writesReport_83 : decode cX11_writesReport 83 = .ok (.aload_n 0, 1) := by decide +kernel
theorem dX11_writesReport_84 : decode cX11_writesReport 84 = .ok (.bipush 45, 2) := by decide +kernel
theorem dX11_writesReport_86 : decode cX11_writesReport 86 = .ok (.invokevirtual 264, 3) := by decide +kernel
theorem dX11_writesReport_89 : decode cX11_writesReport 89 = .ok (.goto 40, 3) := by decide +kernel
theorem dX11_writesReport_92 : decode cX11_writesReport 92 = .ok (.aload_n 0, 1) := by decide +kernel
theorem dX11_writesReport_93 : decode cX11_writesReport 93 = .ok (.aload_n 0, 1) := by decide +kernel
theorem dX11_writesReport_94 : decode cX11_writesReport 94 = .ok (.iload_n 1, 1) := by decide +kernel
theorem dX11_writesReport_95 : decode cX11_writesReport 95 = .ok (.invokevirtual 169, 3) := by decide +kernel
theorem dX11_writesReport_98 : decode cX11_writesReport 98 = .ok (.aload_n 0, 1) := by decide +kernel
theorem dX11_writesReport_99 : decode cX11_writesReport 99 = .ok (.iload_n 1, 1) := by decide +kernel
theorem dX11_writesReport_100 : decode cX11_writesReport 100 = .ok (.invokevirtual 164, 3) := by decide +kernel
theorem dX11_writesReport_103 : decode cX11_writesReport 103 = .ok (.i2l, 1) := by decide +kernel
theorem dX11_writesReport_104 : decode cX11_writesReport 104 = .ok (.invokevirtual 160, 3) := by decide +kernel
theorem dX11_writesReport_107 : decode cX11_writesReport 107 = .ok (.aload_n 0, 1) := by decide +kernel
theorem dX11_writesReport_108 : decode cX11_writesReport 108 = .ok (.aload_n 0, 1) := by decide +kernel
theorem dX11_writesReport_109 : decode cX11_writesReport 109 = .ok (.getfield 157, 3) := by decide +kernel
theorem dX11_writesReport_112 : decode cX11_writesReport 112 = .ok (.invokevirtual 267, 3) := by decide +kernel
theorem dX11_writesReport_115 : decode cX11_writesReport 115 = .ok (.aload_n 0, 1) := by decide +kernel
theorem dX11_writesReport_116 : decode cX11_writesReport 116 = .ok (.bipush 47, 2) := by decide +kernel
theorem dX11_writesReport_118 : decode cX11_writesReport 118 = .ok (.invokevirtual 264, 3) := by decide +kernel
theorem dX11_writesReport_121 : decode cX11_writesReport 121 = .ok (.aload_n 0, 1) := by decide +kernel
theorem dX11_writesReport_122 : decode cX11_writesReport 122 = .ok (.aload_n 0, 1) := by decide +kernel
theorem dX11_writesReport_123 : decode cX11_writesReport 123 = .ok (.getfield 28, 3) := by decide +kernel
theorem dX11_writesReport_126 : decode cX11_writesReport 126 = .ok (.invokevirtual 267, 3) := by decide +kernel
theorem dX11_writesReport_129 : decode cX11_writesReport 129 = .ok (.aload_n 0, 1) := by decide +kernel
theorem dX11_writesReport_130 : decode cX11_writesReport 130 = .ok (.bipush 32, 2) := by decide +kernel
theorem dX11_writesReport_132 : decode cX11_writesReport 132 = .ok (.invokevirtual 264, 3) := by decide +kernel
theorem dX11_writesReport_135 : decode cX11_writesReport 135 = .ok (.iconst 0, 1) := by decide +kernel
theorem dX11_writesReport_136 : decode cX11_writesReport 136 = .ok (.istore_n 2, 1) := by decide +kernel
theorem dX11_writesReport_137 : decode cX11_writesReport 137 = .ok (.iload_n 2, 1) := by decide +kernel
theorem dX11_writesReport_138 : decode cX11_writesReport 138 = .ok (.bipush 40, 2) := by decide +kernel
theorem dX11_writesReport_140 : decode cX11_writesReport 140 = .ok (.if_icmp .ge 91, 3) := by decide +kernel
theorem dX11_writesReport_143 : decode cX11_writesReport 143 = .ok (.aload_n 0, 1) := by decide +kernel
theorem dX11_writesReport_144 : decode cX11_writesReport 144 = .ok (.iload_n 1, 1) := by decide +kernel
theorem dX11_writesReport_145 : decode cX11_writesReport 145 = .ok (.iload_n 2, 1) := by decide +kernel
theorem dX11_writesReport_146 : decode cX11_writesReport 146 = .ok (.invokevirtual 153, 3) := by decide +kernel
theorem dX11_writesReport_149 : decode cX11_writesReport 149 = .ok (.ifCond .eq 76, 3) := by decide +kernel
theorem dX11_writesReport_152 : decode cX11_writesReport 152 = .ok (.aload_n 0, 1) := by decide +kernel
theorem dX11_writesReport_153 : decode cX11_writesReport 153 = .ok (.iload_n 1, 1) := by decide +kernel
theorem dX11_writesReport_154 : decode cX11_writesReport 154 = .ok (.iload_n 2, 1) := by decide +kernel
theorem dX11_writesReport_155 : decode cX11_writesReport 155 = .ok (.invokevirtual 84, 3) := by decide +kernel
theorem dX11_writesReport_158 : decode cX11_writesReport 158 = .ok (.istore_n 3, 1) := by decide +kernel
theorem dX11_writesReport_159 : decode cX11_writesReport 159 = .ok (.iload_n 3, 1) := by decide +kernel
theorem dX11_writesReport_160 : decode cX11_writesReport 160 = .ok (.bipush 50, 2) := by decide +kernel
theorem dX11_writesReport_162 : decode cX11_writesReport 162 = .ok (.if_icmp .le 13, 3) := by decide +kernel
theorem dX11_writesReport_165 : decode cX11_writesReport 165 = .ok (.aload_n 0, 1) := by decide +kernel
theorem dX11_writesReport_166 : decode cX11_writesReport 166 = .ok (.getfield 13, 3) := by decide +kernel
theorem dX11_writesReport_169 : decode cX11_writesReport 169 = .ok (.iload_n 2, 1) := by decide +kernel
theorem dX11_writesReport_170 : decode cX11_writesReport 170 = .ok (.iaload, 1) := by decide +kernel
theorem dX11_writesReport_171 : decode cX11_writesReport 171 = .ok (.iconst 1, 1) := by decide +kernel
theorem dX11_writesReport_172 : decode cX11_writesReport 172 = .ok (.if_icmp .eq 19, 3) := by decide +kernel
theorem dX11_writesReport_175 : decode cX11_writesReport 175 = .ok (.iload_n 3, 1) := by decide +kernel
theorem dX11_writesReport_176 : decode cX11_writesReport 176 = .ok (.bipush 50, 2) := by decide +kernel
theorem dX11_writesReport_178 : decode cX11_writesReport 178 = .ok (.if_icmp .ge 17, 3) := by decide +kernel
theorem dX11_writesReport_181 : decode cX11_writesReport 181 = .ok (.aload_n 0, 1) := by decide +kernel
theorem dX11_writesReport_182 : decode cX11_writesReport 182 = .ok (.getfield 13, 3) := by decide +kernel
theorem dX11_writesReport_185 : decode cX11_writesReport 185 = .ok (.iload_n 2, 1) := by decide +kernel
theorem dX11_writesReport_186 : decode cX11_writesReport 186 = .ok (.iaload, 1) := by decide +kernel
theorem dX11_writesReport_187 : decode cX11_writesReport 187 = .ok (.iconst 2, 1) := by decide +kernel
theorem dX11_writesReport_188 : decode cX11_writesReport 188 = .ok (.if_icmp .ne 7, 3) := by decide +kernel
theorem dX11_writesReport_191 : decode cX11_writesReport 191 = .ok (.iconst 1, 1) := by decide +kernel
theorem dX11_writesReport_192 : decode cX11_writesReport 192 = .ok (.goto 4, 3) := by decide +kernel
theorem dX11_writesReport_195 : decode cX11_writesReport 195 = .ok (.iconst 0, 1) := by decide +kernel
theorem dX11_writesReport_196 : decode cX11_writesReport 196 = .ok (.istore 4, 2) := by decide +kernel
theorem dX11_writesReport_198 : decode cX11_writesReport 198 = .ok (.aload_n 0, 1) := by decide +kernel
theorem dX11_writesReport_199 : decode cX11_writesReport 199 = .ok (.iload_n 3, 1) := by decide +kernel
theorem dX11_writesReport_200 : decode cX11_writesReport 200 = .ok (.bipush 50, 2) := by decide +kernel
theorem dX11_writesReport_202 : decode cX11_writesReport 202 = .ok (.if_icmp .ne 8, 3) := by decide +kernel
theorem dX11_writesReport_205 : decode cX11_writesReport 205 = .ok (.bipush 61, 2) := by decide +kernel
theorem dX11_writesReport_207 : decode cX11_writesReport 207 = .ok (.goto 15, 3) := by decide +kernel
theorem dX11_writesReport_210 : decode cX11_writesReport 210 = .ok (.iload 4, 2) := by decide +kernel
theorem dX11_writesReport_212 : decode cX11_writesReport 212 = .ok (.ifCond .eq 8, 3) := by decide +kernel
theorem dX11_writesReport_215 : decode cX11_writesReport 215 = .ok (.bipush 43, 2) := by decide +kernel
theorem dX11_writesReport_217 : decode cX11_writesReport 217 = .ok (.goto 5, 3) := by decide +kernel
theorem dX11_writesReport_220 : decode cX11_writesReport 220 = .ok (.bipush 45, 2) := by decide +kernel
theorem dX11_writesReport_222 : decode cX11_writesReport 222 = .ok (.invokevirtual 264, 3) := by decide +kernel
theorem dX11_writesReport_225 : decode cX11_writesReport 225 = .ok (.iinc 2 1, 3) := by decide +kernel
theorem dX11_writesReport_228 : decode cX11_writesReport 228 = .ok (.goto (-91), 3) := by decide +kernel
theorem dX11_writesReport_231 : decode cX11_writesReport 231 = .ok (.return_, 1) := by decide +kernel
theorem dX11_report_0 : decode cX11_report 0 = .ok (.iload_n 1, 1) := by decide +kernel
theorem dX11_report_1 : decode cX11_report 1 = .ok (.invokestatic 81, 3) := by decide +kernel
theorem dX11_report_4 : decode cX11_report 4 = .ok (.ifCond .ne 5, 3) := by decide +kernel
theorem dX11_report_7 : decode cX11_report 7 = .ok (.iconst (-1), 1) := by decide +kernel
theorem dX11_report_8 : decode cX11_report 8 = .ok (.ireturn, 1) := by decide +kernel
theorem dX11_report_9 : decode cX11_report 9 = .ok (.iload_n 2, 1) := by decide +kernel
theorem dX11_report_10 : decode cX11_report 10 = .ok (.iconst (-1), 1) := by decide +kernel
theorem dX11_report_11 : decode cX11_report 11 = .ok (.bipush 99, 2) := by decide +kernel
theorem dX11_report_13 : decode cX11_report 13 = .ok (.invokestatic 66, 3) := by decide +kernel
theorem dX11_report_16 : decode cX11_report 16 = .ok (.ifCond .ne 6, 3) := by decide +kernel
theorem dX11_report_19 : decode cX11_report 19 = .ok (.bipush (-2), 2) := by decide +kernel
theorem dX11_report_21 : decode cX11_report 21 = .ok (.ireturn, 1) := by decide +kernel
theorem dX11_report_22 : decode cX11_report 22 = .ok (.aload_n 0, 1) := by decide +kernel
theorem dX11_report_23 : decode cX11_report 23 = .ok (.iload_n 1, 1) := by decide +kernel
theorem dX11_report_24 : decode cX11_report 24 = .ok (.invokevirtual 271, 3) := by decide +kernel
theorem dX11_report_27 : decode cX11_report 27 = .ok (.iload_n 2, 1) := by decide +kernel
theorem dX11_report_28 : decode cX11_report 28 = .ok (.ifCond .ge 10, 3) := by decide +kernel
theorem dX11_report_31 : decode cX11_report 31 = .ok (.aload_n 0, 1) := by decide +kernel
theorem dX11_report_32 : decode cX11_report 32 = .ok (.getfield 257, 3) := by decide +kernel
theorem dX11_report_35 : decode cX11_report 35 = .ok (.goto 22, 3) := by decide +kernel
theorem dX11_report_38 : decode cX11_report 38 = .ok (.iload_n 2, 1) := by decide +kernel
theorem dX11_report_39 : decode cX11_report 39 = .ok (.aload_n 0, 1) := by decide +kernel
theorem dX11_report_40 : decode cX11_report 40 = .ok (.getfield 257, 3) := by decide +kernel
theorem dX11_report_43 : decode cX11_report 43 = .ok (.if_icmp .ge 12, 3) := by decide +kernel
theorem dX11_report_46 : decode cX11_report 46 = .ok (.aload_n 0, 1) := by decide +kernel
theorem dX11_report_47 : decode cX11_report 47 = .ok (.getfield 63, 3) := by decide +kernel
theorem dX11_report_50 : decode cX11_report 50 = .ok (.iload_n 2, 1) := by decide +kernel
theorem dX11_report_51 : decode cX11_report 51 = .ok (.iaload, 1) := by decide +kernel
theorem dX11_report_52 : decode cX11_report 52 = .ok (.goto 5, 3) := by decide +kernel
theorem dX11_report_55 : decode cX11_report 55 = .ok (.bipush (-9), 2) := by decide +kernel
theorem dX11_report_57 : decode cX11_report 57 = .ok (.ireturn, 1) := by decide +kernel
theorem dX11_many_0 : decode cX11_many 0 = .ok (.iconst 0, 1) := by decide +kernel
theorem dX11_many_1 : decode cX11_many 1 = .ok (.istore_n 2, 1) := by decide +kernel
theorem dX11_many_2 : decode cX11_many 2 = .ok (.iconst 0, 1) := by decide +kernel
theorem dX11_many_3 : decode cX11_many 3 = .ok (.istore_n 3, 1) := by decide +kernel
theorem dX11_many_4 : decode cX11_many 4 = .ok (.iconst 0, 1) := by decide +kernel
theorem dX11_many_5 : decode cX11_many 5 = .ok (.istore 4, 2) := by decide +kernel
theorem dX11_many_7 : decode cX11_many 7 = .ok (.iconst 0, 1) := by decide +kernel
theorem dX11_many_8 : decode cX11_many 8 = .ok (.istore 5, 2) := by decide +kernel
theorem dX11_many_10 : decode cX11_many 10 = .ok (.iconst 0, 1) := by decide +kernel
theorem dX11_many_11 : decode cX11_many 11 = .ok (.istore 6, 2) := by decide +kernel
theorem dX11_many_13 : decode cX11_many 13 = .ok (.iload 6, 2) := by decide +kernel
theorem dX11_many_15 : decode cX11_many 15 = .ok (.bipush 40, 2) := by decide +kernel
theorem dX11_many_17 : decode cX11_many 17 = .ok (.if_icmp .ge 47, 3) := by decide +kernel
theorem dX11_many_20 : decode cX11_many 20 = .ok (.iload_n 2, 1) := by decide +kernel
theorem dX11_many_21 : decode cX11_many 21 = .ok (.aload_n 0, 1) := by decide +kernel
theorem dX11_many_22 : decode cX11_many 22 = .ok (.getfield 13, 3) := by decide +kernel
theorem dX11_many_25 : decode cX11_many 25 = .ok (.iload 6, 2) := by decide +kernel
theorem dX11_many_27 : decode cX11_many 27 = .ok (.iaload, 1) := by decide +kernel
theorem dX11_many_28 : decode cX11_many 28 = .ok (.iconst 1, 1) := by decide +kernel
theorem dX11_many_29 : decode cX11_many 29 = .ok (.if_icmp .ne 7, 3) := by decide +kernel
theorem dX11_many_32 : decode cX11_many 32 = .ok (.iconst 1, 1) := by decide +kernel
theorem dX11_many_33 : decode cX11_many 33 = .ok (.goto 4, 3) := by decide +kernel
theorem dX11_many_36 : decode cX11_many 36 = .ok (.iconst 0, 1) := by decide +kernel
theorem dX11_many_37 : decode cX11_many 37 = .ok (.iadd, 1) := by decide +kernel
theorem dX11_many_38 : decode cX11_many 38 = .ok (.istore_n 2, 1) := by decide +kernel
theorem dX11_many_39 : decode cX11_many 39 = .ok (.iload_n 3, 1) := by decide +kernel
theorem dX11_many_40 : decode cX11_many 40 = .ok (.aload_n 0, 1) := by decide +kernel
theorem dX11_many_41 : decode cX11_many 41 = .ok (.getfield 13, 3) := by decide +kernel
theorem dX11_many_44 : decode cX11_many 44 = .ok (.iload 6, 2) := by decide +kernel
theorem dX11_many_46 : decode cX11_many 46 = .ok (.iaload, 1) := by decide +kernel
theorem dX11_many_47 : decode cX11_many 47 = .ok (.iconst 2, 1) := by decide +kernel
theorem dX11_many_48 : decode cX11_many 48 = .ok (.if_icmp .ne 7, 3) := by decide +kernel
theorem dX11_many_51 : decode cX11_many 51 = .ok (.iconst 1, 1) := by decide +kernel
theorem dX11_many_52 : decode cX11_many 52 = .ok (.goto 4, 3) := by decide +kernel
theorem dX11_many_55 : decode cX11_many 55 = .ok (.iconst 0, 1) := by decide +kernel
theorem dX11_many_56 : decode cX11_many 56 = .ok (.iadd, 1) := by decide +kernel
theorem dX11_many_57 : decode cX11_many 57 = .ok (.istore_n 3, 1) := by decide +kernel
theorem dX11_many_58 : decode cX11_many 58 = .ok (.iinc 6 1, 3) := by decide +kernel
theorem dX11_many_61 : decode cX11_many 61 = .ok (.goto (-48), 3) := by decide +kernel
theorem dX11_many_64 : decode cX11_many 64 = .ok (.iconst 0, 1) := by decide +kernel
theorem dX11_many_65 : decode cX11_many 65 = .ok (.istore 6, 2) := by decide +kernel
theorem dX11_many_67 : decode cX11_many 67 = .ok (.iload 6, 2) := by decide +kernel
theorem dX11_many_69 : decode cX11_many 69 = .ok (.iconst 4, 1) := by decide +kernel
theorem dX11_many_70 : decode cX11_many 70 = .ok (.if_icmp .ge 64, 3) := by decide +kernel
theorem dX11_many_73 : decode cX11_many 73 = .ok (.iconst 0, 1) := by decide +kernel
theorem dX11_many_74 : decode cX11_many 74 = .ok (.istore 7, 2) := by decide +kernel
theorem dX11_many_76 : decode cX11_many 76 = .ok (.iload 7, 2) := by decide +kernel
theorem dX11_many_78 : decode cX11_many 78 = .ok (.bipush 40, 2) := by decide +kernel
theorem dX11_many_80 : decode cX11_many 80 = .ok (.if_icmp .ge 37, 3) := by decide +kernel
theorem dX11_many_83 : decode cX11_many 83 = .ok (.iload 4, 2) := by decide +kernel
theorem dX11_many_85 : decode cX11_many 85 = .ok (.aload_n 0, 1) := by decide +kernel
theorem dX11_many_86 : decode cX11_many 86 = .ok (.getfield 7, 3) := by decide +kernel
theorem dX11_many_89 : decode cX11_many 89 = .ok (.bipush 40, 2) := by decide +kernel
theorem dX11_many_91 : decode cX11_many 91 = .ok (.iload 6, 2) := by decide +kernel
theorem dX11_many_93 : decode cX11_many 93 = .ok (.imul, 1) := by decide +kernel
theorem dX11_many_94 : decode cX11_many 94 = .ok (.iload 7, 2) := by decide +kernel
theorem dX11_many_96 : decode cX11_many 96 = .ok (.iadd, 1) := by decide +kernel
theorem dX11_many_97 : decode cX11_many 97 = .ok (.iaload, 1) := by decide +kernel
theorem dX11_many_98 : decode cX11_many 98 = .ok (.bipush (-9), 2) := by decide +kernel
theorem dX11_many_100 : decode cX11_many 100 = .ok (.if_icmp .ne 7, 3) := by decide +kernel
theorem dX11_many_103 : decode cX11_many 103 = .ok (.iconst 0, 1) := by decide +kernel
theorem dX11_many_104 : decode cX11_many 104 = .ok (.goto 4, 3) := by decide +kernel
theorem dX11_many_107 : decode cX11_many 107 = .ok (.iconst 1, 1) := by decide +kernel
theorem dX11_many_108 : decode cX11_many 108 = .ok (.iadd, 1) := by decide +kernel
theorem dX11_many_109 : decode cX11_many 109 = .ok (.istore 4, 2) := by decide +kernel
theorem dX11_many_111 : decode cX11_many 111 = .ok (.iinc 7 1, 3) := by decide +kernel
theorem dX11_many_114 : decode cX11_many 114 = .ok (.goto (-38), 3) := by decide +kernel
theorem dX11_many_117 : decode cX11_many 117 = .ok (.iload 5, 2) := by decide +kernel
theorem dX11_many_119 : decode cX11_many 119 = .ok (.aload_n 0, 1) := by decide +kernel
theorem dX11_many_120 : decode cX11_many 120 = .ok (.iload 6, 2) := by decide +kernel
theorem dX11_many_122 : decode cX11_many 122 = .ok (.invokevirtual 164, 3) := by decide +kernel
theorem dX11_many_125 : decode cX11_many 125 = .ok (.iadd, 1) := by decide +kernel
theorem dX11_many_126 : decode cX11_many 126 = .ok (.istore 5, 2) := by decide +kernel
theorem dX11_many_128 : decode cX11_many 128 = .ok (.iinc 6 1, 3) := by decide +kernel
theorem dX11_many_131 : decode cX11_many 131 = .ok (.goto (-64), 3) := by decide +kernel
theorem dX11_many_134 : decode cX11_many 134 = .ok (.iload_n 1, 1) := by decide +kernel
theorem dX11_many_135 : decode cX11_many 135 = .ok (.tableswitch 57 0 5 #[37, 39, 41, 44, 49, 54], 37) := by decide +kernel
theorem dX11_many_172 : decode cX11_many 172 = .ok (.iload_n 2, 1) := by decide +kernel
theorem dX11_many_173 : decode cX11_many 173 = .ok (.ireturn, 1) := by decide +kernel
theorem dX11_many_174 : decode cX11_many 174 = .ok (.iload_n 3, 1) := by decide +kernel
theorem dX11_many_175 : decode cX11_many 175 = .ok (.ireturn, 1) := by decide +kernel
theorem dX11_many_176 : decode cX11_many 176 = .ok (.iload 4, 2) := by decide +kernel
theorem dX11_many_178 : decode cX11_many 178 = .ok (.ireturn, 1) := by decide +kernel
theorem dX11_many_179 : decode cX11_many 179 = .ok (.aload_n 0, 1) := by decide +kernel
theorem dX11_many_180 : decode cX11_many 180 = .ok (.getfield 87, 3) := by decide +kernel
theorem dX11_many_183 : decode cX11_many 183 = .ok (.ireturn, 1) := by decide +kernel
theorem dX11_many_184 : decode cX11_many 184 = .ok (.aload_n 0, 1) := by decide +kernel
theorem dX11_many_185 : decode cX11_many 185 = .ok (.invokevirtual 185, 3) := by decide +kernel
theorem dX11_many_188 : decode cX11_many 188 = .ok (.ireturn, 1) := by decide +kernel
theorem dX11_many_189 : decode cX11_many 189 = .ok (.iload 5, 2) := by decide +kernel
theorem dX11_many_191 : decode cX11_many 191 = .ok (.ireturn, 1) := by decide +kernel
theorem dX11_many_192 : decode cX11_many 192 = .ok (.bipush (-2), 2) := by decide +kernel
theorem dX11_many_194 : decode cX11_many 194 = .ok (.ireturn, 1) := by decide +kernel
end
section
def bkX4_sharedBy_44 (P : Nat → tc_B) (q : tc_Q) : tc_B := tb_lload 4 <| tb_jret q
theorem okX4_sharedBy_44 {Z : tc_Z} {q : tc_Q} (X : tc_Cx ({ frames := 0, cells := 0, slots := 0, locals := 0 } : Room) cX4_sharedBy 11 RX4 Z) (hr : tc_Rt 2 cX4_sharedBy 11 Z q) : tc_Ok 11 Z 44 (bkX4_sharedBy_44 (tc_At 11 Z) q) := by
  unfold bkX4_sharedBy_44
  refine to_lload (pc := 44) X dX4_sharedBy_44 ?_
  exact to_jret (pc := 46) hr dX4_sharedBy_46
def bkX4_sharedBy_9 (P : Nat → tc_B) (q : tc_Q) : tc_B := tb_iload 8 <| tb_i 100 <| tb_icmp_ge (tb_cut (P 44) [4]) <| tb_lload 6 <| tb_j 0 <| tb_lcmp <| tb_if_eq (tb_cut (P 44) [4]) <| tb_lload 4 <| tb_lload 6 <| tb_lrem <| tb_lstore 9 <| tb_lload 6 <| tb_lstore 4 <| tb_lload 9 <| tb_lstore 6 <| tb_iinc 8 1 <| tb_cut (P 9) [4, 6, 8]
theorem okX4_sharedBy_9 {Z : tc_Z} {q : tc_Q} (X : tc_Cx ({ frames := 0, cells := 0, slots := 0, locals := 0 } : Room) cX4_sharedBy 11 RX4 Z) (hr : tc_Rt 2 cX4_sharedBy 11 Z q) : tc_Ok 11 Z 9 (bkX4_sharedBy_9 (tc_At 11 Z) q) := by
  unfold bkX4_sharedBy_9
  refine to_iload (pc := 9) X dX4_sharedBy_9 ?_
  refine to_bipush (pc := 11) X dX4_sharedBy_11 (by decide) ?_
  refine to_icmp_ge (pc := 13) (tgt := 44) X dX4_sharedBy_13 (by decide) ?_ ?_
  · exact to_cut [4] (fun _ _ _ h => h)
  refine to_lload (pc := 16) X dX4_sharedBy_16 ?_
  refine to_lconst (pc := 18) X dX4_sharedBy_18 (by decide) ?_
  refine to_lcmp (pc := 19) X dX4_sharedBy_19 ?_
  refine to_if_eq (pc := 20) (tgt := 44) X dX4_sharedBy_20 (by decide) ?_ ?_
  · exact to_cut [4] (fun _ _ _ h => h)
  refine to_lload (pc := 23) X dX4_sharedBy_23 ?_
  refine to_lload (pc := 25) X dX4_sharedBy_25 ?_
  refine to_lrem (pc := 27) X dX4_sharedBy_27 ?_
  refine to_lstore (pc := 28) X dX4_sharedBy_28 (by decide) ?_
  refine to_lload (pc := 30) X dX4_sharedBy_30 ?_
  refine to_lstore (pc := 32) X dX4_sharedBy_32 (by decide) ?_
  refine to_lload (pc := 34) X dX4_sharedBy_34 ?_
  refine to_lstore (pc := 36) X dX4_sharedBy_36 (by decide) ?_
  refine to_iinc (pc := 38) X dX4_sharedBy_38 (by decide) (by decide) ?_
  refine to_goto (pc := 41) (tgt := 9) X dX4_sharedBy_41 (by decide) ?_
  exact to_cut [4, 6, 8] (fun _ _ _ h => h)
def bkX4_sharedBy_0 (P : Nat → tc_B) (q : tc_Q) : tc_B := tb_lload 0 <| tb_lstore 4 <| tb_lload 2 <| tb_lstore 6 <| tb_i 0 <| tb_istore 8 <| tb_cut (P 9) [4, 6, 8]
theorem okX4_sharedBy_0 {Z : tc_Z} {q : tc_Q} (X : tc_Cx ({ frames := 0, cells := 0, slots := 0, locals := 0 } : Room) cX4_sharedBy 11 RX4 Z) (hr : tc_Rt 2 cX4_sharedBy 11 Z q) : tc_Ok 11 Z 0 (bkX4_sharedBy_0 (tc_At 11 Z) q) := by
  unfold bkX4_sharedBy_0
  refine to_lload_n (pc := 0) X dX4_sharedBy_0 rfl ?_
  refine to_lstore (pc := 1) X dX4_sharedBy_1 (by decide) ?_
  refine to_lload_n (pc := 3) X dX4_sharedBy_3 rfl ?_
  refine to_lstore (pc := 4) X dX4_sharedBy_4 (by decide) ?_
  refine to_iconst (pc := 6) X dX4_sharedBy_6 (by decide) ?_
  refine to_istore (pc := 7) X dX4_sharedBy_7 (by decide) ?_
  exact to_cut [4, 6, 8] (fun _ _ _ h => h)
def RX4_sharedBy (vs : List tc_V) (S : tc_S) (q : tc_Q) : Prop := ∀ P : Nat → tc_B, (∀ L K S, bkX4_sharedBy_9 P q L K S → P 9 L K S) → (∀ L K S, bkX4_sharedBy_44 P q L K S → P 44 L K S) → bkX4_sharedBy_0 P q (tc_num 0 vs) [] S
theorem metX4_sharedBy : tc_Met yX4_sharedBy (Cond.code yX4_sharedBy cX4_sharedBy 11 (some .long)) ({ frames := 0, cells := 0, slots := 0, locals := 0 } : Room) 2 11 RX4_sharedBy := tc_met (rk := 2) (by decide) ⟨rfl, rfl⟩ (fun Z q X hr vs S h => okX4_sharedBy_0 X hr _ _ _ (h (tc_At 11 Z) (okX4_sharedBy_9 X hr) (okX4_sharedBy_44 X hr)))
theorem cvX4_sharedBy {R : Room} {cc : ByteArray} {nL pc ix : Nat} {own : String} {Z : tc_Z} {k : tc_B} (X : tc_Cx R cc nL own Z) (h1 : Cond.methodLink own ix yX4_sharedBy ∈ tc_tb) (hR : 0 + 1 ≤ R.frames ∧ 8 + (11 + 11) + 0 ≤ R.locals) (hd : decode cc pc = .ok (.invokestatic ix, 3)) (h : tc_Ok nL Z (pc + 3) k) : tc_Ok nL Z pc (tb_callS 2 11 RX4_sharedBy k) := to_callS X metX4_sharedBy ⟨rfl, rfl⟩ hR h1 ws_X4_sharedBy wn_RX4 wc_X4_sharedBy ⟨by decide +kernel, by decide +kernel, by decide +kernel⟩ hd h
def bkX4_become_8 (P : Nat → tc_B) (q : tc_Q) : tc_B := tb_lstore 5 <| tb_lload 3 <| tb_j 0 <| tb_lcmp <| tb_if_le (tb_vret q) <| tb_lload 5 <| tb_j 0 <| tb_lcmp <| tb_if_le (tb_vret q) <| tb_aload 0 <| tb_lload 1 <| tb_lload 5 <| tb_ldiv <| tb_putJ 3 0 <| tb_aload 0 <| tb_lload 3 <| tb_lload 5 <| tb_ldiv <| tb_putJ 3 1 <| tb_vret q
theorem okX4_become_8 {Z : tc_Z} {q : tc_Q} (X : tc_Cx ({ frames := 1, cells := 0, slots := 0, locals := 30 } : Room) cX4_become 7 RX4 Z) (hr : tc_Rt 3 cX4_become 7 Z q) : tc_Ok 7 Z 8 (bkX4_become_8 (tc_At 7 Z) q) := by
  unfold bkX4_become_8
  refine to_lstore (pc := 8) X dX4_become_8 (by decide) ?_
  refine to_lload_n (pc := 10) X dX4_become_10 rfl ?_
  refine to_lconst (pc := 11) X dX4_become_11 (by decide) ?_
  refine to_lcmp (pc := 12) X dX4_become_12 ?_
  refine to_if_le (pc := 13) (tgt := 39) X dX4_become_13 (by decide) ?_ ?_
  · exact to_vret (pc := 39) hr dX4_become_39
  refine to_lload (pc := 16) X dX4_become_16 ?_
  refine to_lconst (pc := 18) X dX4_become_18 (by decide) ?_
  refine to_lcmp (pc := 19) X dX4_become_19 ?_
  refine to_if_le (pc := 20) (tgt := 39) X dX4_become_20 (by decide) ?_ ?_
  · exact to_vret (pc := 39) hr dX4_become_39
  refine to_aload_n (pc := 23) X dX4_become_23 rfl ?_
  refine to_lload_n (pc := 24) X dX4_become_24 rfl ?_
  refine to_lload (pc := 25) X dX4_become_25 ?_
  refine to_ldiv (pc := 27) X dX4_become_27 ?_
  refine pfX4_0 (pc := 28) X wf_RX4_7 dX4_become_28 ?_
  refine to_aload_n (pc := 31) X dX4_become_31 rfl ?_
  refine to_lload_n (pc := 32) X dX4_become_32 rfl ?_
  refine to_lload (pc := 33) X dX4_become_33 ?_
  refine to_ldiv (pc := 35) X dX4_become_35 ?_
  refine pfX4_1 (pc := 36) X wf_RX4_13 dX4_become_36 ?_
  exact to_vret (pc := 39) hr dX4_become_39
def bkX4_become_0 (P : Nat → tc_B) (q : tc_Q) : tc_B := tb_lload 1 <| tb_mabs <| tb_lload 3 <| tb_callS 2 11 RX4_sharedBy <| bkX4_become_8 P q
theorem okX4_become_0 {Z : tc_Z} {q : tc_Q} (X : tc_Cx ({ frames := 1, cells := 0, slots := 0, locals := 30 } : Room) cX4_become 7 RX4 Z) (hr : tc_Rt 3 cX4_become 7 Z q) : tc_Ok 7 Z 0 (bkX4_become_0 (tc_At 7 Z) q) := by
  unfold bkX4_become_0
  refine to_lload_n (pc := 0) X dX4_become_0 rfl ?_
  refine to_mabs (pc := 1) X (by decide) wm_RX4_16 wx_mabs_1 wx_mabs_2 wx_mabs_3 dX4_become_1 ?_
  refine to_lload_n (pc := 4) X dX4_become_4 rfl ?_
  refine cvX4_sharedBy (pc := 5) X wm_RX4_22 (by decide) dX4_become_5 ?_
  exact okX4_become_8 X hr
def RX4_become (vs : List tc_V) (S : tc_S) (q : tc_Q) : Prop := ∀ P : Nat → tc_B, bkX4_become_0 P q (tc_num 0 vs) [] S
theorem metX4_become : tc_Met yX4_become (Cond.code yX4_become cX4_become 7 none) ({ frames := 1, cells := 0, slots := 0, locals := 30 } : Room) 3 7 RX4_become := tc_met (rk := 3) (by decide) ⟨rfl, rfl⟩ (fun Z q X hr vs S h => okX4_become_0 X hr _ _ _ (h (tc_At 7 Z)))
theorem cvX4_become {R : Room} {cc : ByteArray} {nL pc ix : Nat} {own : String} {Z : tc_Z} {k : tc_B} (X : tc_Cx R cc nL own Z) (h1 : Cond.methodLink own ix yX4_become ∈ tc_tb) (hR : 1 + 1 ≤ R.frames ∧ 8 + (7 + 11) + 30 ≤ R.locals) (hd : decode cc pc = .ok (.invokevirtual ix, 3)) (h : tc_Ok nL Z (pc + 3) k) : tc_Ok nL Z pc (tb_callV 2 7 3 RX4_become k) := to_callV X metX4_become rfl ⟨rfl, rfl⟩ hR h1 wi_X4_become wl_X4_become wn_RX4 wc_X4_become ⟨by decide +kernel, by decide +kernel, by decide +kernel, by decide +kernel⟩ hd h
def bkX4_add_51 (P : Nat → tc_B) (q : tc_Q) : tc_B := tb_vret q
theorem okX4_add_51 {Z : tc_Z} {q : tc_Q} (X : tc_Cx ({ frames := 2, cells := 0, slots := 0, locals := 56 } : Room) cX4_add 9 RX4 Z) (hr : tc_Rt 3 cX4_add 9 Z q) : tc_Ok 9 Z 51 (bkX4_add_51 (tc_At 9 Z) q) := by
  unfold bkX4_add_51
  exact to_vret (pc := 51) hr dX4_add_51
def bkX4_add_8 (P : Nat → tc_B) (q : tc_Q) : tc_B := tb_lstore 5 <| tb_lload 5 <| tb_j 0 <| tb_lcmp <| tb_if_le (bkX4_add_51 P q) <| tb_lload 3 <| tb_lload 5 <| tb_ldiv <| tb_lstore 7 <| tb_aload 0 <| tb_aload 0 <| tb_getf 3 0 <| tb_lload 7 <| tb_lmul <| tb_lload 1 <| tb_aload 0 <| tb_getf 3 1 <| tb_lload 5 <| tb_ldiv <| tb_lmul <| tb_ladd <| tb_aload 0 <| tb_getf 3 1 <| tb_lload 7 <| tb_lmul <| tb_callV 2 7 3 RX4_become <| bkX4_add_51 P q
theorem okX4_add_8 {Z : tc_Z} {q : tc_Q} (X : tc_Cx ({ frames := 2, cells := 0, slots := 0, locals := 56 } : Room) cX4_add 9 RX4 Z) (hr : tc_Rt 3 cX4_add 9 Z q) : tc_Ok 9 Z 8 (bkX4_add_8 (tc_At 9 Z) q) := by
  unfold bkX4_add_8
  refine to_lstore (pc := 8) X dX4_add_8 (by decide) ?_
  refine to_lload (pc := 10) X dX4_add_10 ?_
  refine to_lconst (pc := 12) X dX4_add_12 (by decide) ?_
  refine to_lcmp (pc := 13) X dX4_add_13 ?_
  refine to_if_le (pc := 14) (tgt := 51) X dX4_add_14 (by decide) ?_ ?_
  · exact okX4_add_51 X hr
  refine to_lload_n (pc := 17) X dX4_add_17 rfl ?_
  refine to_lload (pc := 18) X dX4_add_18 ?_
  refine to_ldiv (pc := 20) X dX4_add_20 ?_
  refine to_lstore (pc := 21) X dX4_add_21 (by decide) ?_
  refine to_aload_n (pc := 23) X dX4_add_23 rfl ?_
  refine to_aload_n (pc := 24) X dX4_add_24 rfl ?_
  refine gfX4_0 (pc := 25) X wf_RX4_7 dX4_add_25 ?_
  refine to_lload (pc := 28) X dX4_add_28 ?_
  refine to_lmul (pc := 30) X dX4_add_30 ?_
  refine to_lload_n (pc := 31) X dX4_add_31 rfl ?_
  refine to_aload_n (pc := 32) X dX4_add_32 rfl ?_
  refine gfX4_1 (pc := 33) X wf_RX4_13 dX4_add_33 ?_
  refine to_lload (pc := 36) X dX4_add_36 ?_
  refine to_ldiv (pc := 38) X dX4_add_38 ?_
  refine to_lmul (pc := 39) X dX4_add_39 ?_
  refine to_ladd (pc := 40) X dX4_add_40 ?_
  refine to_aload_n (pc := 41) X dX4_add_41 rfl ?_
  refine gfX4_1 (pc := 42) X wf_RX4_13 dX4_add_42 ?_
  refine to_lload (pc := 45) X dX4_add_45 ?_
  refine to_lmul (pc := 47) X dX4_add_47 ?_
  refine cvX4_become (pc := 48) X wm_RX4_26 (by decide) dX4_add_48 ?_
  exact okX4_add_51 X hr
def bkX4_add_0 (P : Nat → tc_B) (q : tc_Q) : tc_B := tb_aload 0 <| tb_getf 3 1 <| tb_lload 3 <| tb_callS 2 11 RX4_sharedBy <| bkX4_add_8 P q
theorem okX4_add_0 {Z : tc_Z} {q : tc_Q} (X : tc_Cx ({ frames := 2, cells := 0, slots := 0, locals := 56 } : Room) cX4_add 9 RX4 Z) (hr : tc_Rt 3 cX4_add 9 Z q) : tc_Ok 9 Z 0 (bkX4_add_0 (tc_At 9 Z) q) := by
  unfold bkX4_add_0
  refine to_aload_n (pc := 0) X dX4_add_0 rfl ?_
  refine gfX4_1 (pc := 1) X wf_RX4_13 dX4_add_1 ?_
  refine to_lload_n (pc := 4) X dX4_add_4 rfl ?_
  refine cvX4_sharedBy (pc := 5) X wm_RX4_22 (by decide) dX4_add_5 ?_
  exact okX4_add_8 X hr
def RX4_add (vs : List tc_V) (S : tc_S) (q : tc_Q) : Prop := ∀ P : Nat → tc_B, bkX4_add_0 P q (tc_num 0 vs) [] S
theorem metX4_add : tc_Met yX4_add (Cond.code yX4_add cX4_add 9 none) ({ frames := 2, cells := 0, slots := 0, locals := 56 } : Room) 3 9 RX4_add := tc_met (rk := 3) (by decide) ⟨rfl, rfl⟩ (fun Z q X hr vs S h => okX4_add_0 X hr _ _ _ (h (tc_At 9 Z)))
theorem cvX4_add {R : Room} {cc : ByteArray} {nL pc ix : Nat} {own : String} {Z : tc_Z} {k : tc_B} (X : tc_Cx R cc nL own Z) (h1 : Cond.methodLink own ix yX4_add ∈ tc_tb) (hR : 2 + 1 ≤ R.frames ∧ 8 + (9 + 11) + 56 ≤ R.locals) (hd : decode cc pc = .ok (.invokevirtual ix, 3)) (h : tc_Ok nL Z (pc + 3) k) : tc_Ok nL Z pc (tb_callV 2 9 3 RX4_add k) := to_callV X metX4_add rfl ⟨rfl, rfl⟩ hR h1 wi_X4_add wl_X4_add wn_RX4 wc_X4_add ⟨by decide +kernel, by decide +kernel, by decide +kernel, by decide +kernel⟩ hd h
def bkX4_divideBy_14 (P : Nat → tc_B) (q : tc_Q) : tc_B := tb_vret q
theorem okX4_divideBy_14 {Z : tc_Z} {q : tc_Q} (X : tc_Cx ({ frames := 2, cells := 0, slots := 0, locals := 56 } : Room) cX4_divideBy 3 RX4 Z) (hr : tc_Rt 3 cX4_divideBy 3 Z q) : tc_Ok 3 Z 14 (bkX4_divideBy_14 (tc_At 3 Z) q) := by
  unfold bkX4_divideBy_14
  exact to_vret (pc := 14) hr dX4_divideBy_14
def bkX4_divideBy_0 (P : Nat → tc_B) (q : tc_Q) : tc_B := tb_aload 0 <| tb_aload 0 <| tb_getf 3 0 <| tb_aload 0 <| tb_getf 3 1 <| tb_lload 1 <| tb_lmul <| tb_callV 2 7 3 RX4_become <| bkX4_divideBy_14 P q
theorem okX4_divideBy_0 {Z : tc_Z} {q : tc_Q} (X : tc_Cx ({ frames := 2, cells := 0, slots := 0, locals := 56 } : Room) cX4_divideBy 3 RX4 Z) (hr : tc_Rt 3 cX4_divideBy 3 Z q) : tc_Ok 3 Z 0 (bkX4_divideBy_0 (tc_At 3 Z) q) := by
  unfold bkX4_divideBy_0
  refine to_aload_n (pc := 0) X dX4_divideBy_0 rfl ?_
  refine to_aload_n (pc := 1) X dX4_divideBy_1 rfl ?_
  refine gfX4_0 (pc := 2) X wf_RX4_7 dX4_divideBy_2 ?_
  refine to_aload_n (pc := 5) X dX4_divideBy_5 rfl ?_
  refine gfX4_1 (pc := 6) X wf_RX4_13 dX4_divideBy_6 ?_
  refine to_lload_n (pc := 9) X dX4_divideBy_9 rfl ?_
  refine to_lmul (pc := 10) X dX4_divideBy_10 ?_
  refine cvX4_become (pc := 11) X wm_RX4_26 (by decide) dX4_divideBy_11 ?_
  exact okX4_divideBy_14 X hr
def RX4_divideBy (vs : List tc_V) (S : tc_S) (q : tc_Q) : Prop := ∀ P : Nat → tc_B, bkX4_divideBy_0 P q (tc_num 0 vs) [] S
theorem metX4_divideBy : tc_Met yX4_divideBy (Cond.code yX4_divideBy cX4_divideBy 3 none) ({ frames := 2, cells := 0, slots := 0, locals := 56 } : Room) 3 3 RX4_divideBy := tc_met (rk := 3) (by decide) ⟨rfl, rfl⟩ (fun Z q X hr vs S h => okX4_divideBy_0 X hr _ _ _ (h (tc_At 3 Z)))
theorem cvX4_divideBy {R : Room} {cc : ByteArray} {nL pc ix : Nat} {own : String} {Z : tc_Z} {k : tc_B} (X : tc_Cx R cc nL own Z) (h1 : Cond.methodLink own ix yX4_divideBy ∈ tc_tb) (hR : 2 + 1 ≤ R.frames ∧ 8 + (3 + 11) + 56 ≤ R.locals) (hd : decode cc pc = .ok (.invokevirtual ix, 3)) (h : tc_Ok nL Z (pc + 3) k) : tc_Ok nL Z pc (tb_callV 1 3 3 RX4_divideBy k) := to_callV X metX4_divideBy rfl ⟨rfl, rfl⟩ hR h1 wi_X4_divideBy wl_X4_divideBy wn_RX4 wc_X4_divideBy ⟨by decide +kernel, by decide +kernel, by decide +kernel, by decide +kernel⟩ hd h
def bkX1_swapChance_0 (P : Nat → tc_B) (q : tc_Q) : tc_B := tb_aload 0 <| tb_getf 1 0 <| tb_iload 1 <| tb_i 40 <| tb_imul <| tb_iload 2 <| tb_iadd <| tb_iald <| tb_istore 4 <| tb_aload 0 <| tb_getf 1 0 <| tb_iload 1 <| tb_i 40 <| tb_imul <| tb_iload 2 <| tb_iadd <| tb_iload 3 <| tb_iast <| tb_iload 4 <| tb_iret q
theorem okX1_swapChance_0 {Z : tc_Z} {q : tc_Q} (X : tc_Cx ({ frames := 0, cells := 0, slots := 0, locals := 0 } : Room) cX1_swapChance 5 RX1 Z) (hr : tc_Rt 0 cX1_swapChance 5 Z q) : tc_Ok 5 Z 0 (bkX1_swapChance_0 (tc_At 5 Z) q) := by
  unfold bkX1_swapChance_0
  refine to_aload_n (pc := 0) X dX1_swapChance_0 rfl ?_
  refine gfX1_0 (pc := 1) X wf_RX1_9 dX1_swapChance_1 ?_
  refine to_iload_n (pc := 4) X dX1_swapChance_4 rfl ?_
  refine to_bipush (pc := 5) X dX1_swapChance_5 (by decide) ?_
  refine to_imul (pc := 7) X dX1_swapChance_7 ?_
  refine to_iload_n (pc := 8) X dX1_swapChance_8 rfl ?_
  refine to_iadd (pc := 9) X dX1_swapChance_9 ?_
  refine to_iald (pc := 10) X dX1_swapChance_10 ?_
  refine to_istore (pc := 11) X dX1_swapChance_11 (by decide) ?_
  refine to_aload_n (pc := 13) X dX1_swapChance_13 rfl ?_
  refine gfX1_0 (pc := 14) X wf_RX1_9 dX1_swapChance_14 ?_
  refine to_iload_n (pc := 17) X dX1_swapChance_17 rfl ?_
  refine to_bipush (pc := 18) X dX1_swapChance_18 (by decide) ?_
  refine to_imul (pc := 20) X dX1_swapChance_20 ?_
  refine to_iload_n (pc := 21) X dX1_swapChance_21 rfl ?_
  refine to_iadd (pc := 22) X dX1_swapChance_22 ?_
  refine to_iload_n (pc := 23) X dX1_swapChance_23 rfl ?_
  refine to_iast (pc := 24) X dX1_swapChance_24 ?_
  refine to_iload (pc := 25) X dX1_swapChance_25 ?_
  exact to_iret (pc := 27) hr dX1_swapChance_27
def RX1_swapChance (vs : List tc_V) (S : tc_S) (q : tc_Q) : Prop := ∀ P : Nat → tc_B, bkX1_swapChance_0 P q (tc_num 0 vs) [] S
theorem metX1_swapChance : tc_Met yX1_swapChance (Cond.code yX1_swapChance cX1_swapChance 5 (some .int)) ({ frames := 0, cells := 0, slots := 0, locals := 0 } : Room) 0 5 RX1_swapChance := tc_met (rk := 0) (by decide) ⟨rfl, rfl⟩ (fun Z q X hr vs S h => okX1_swapChance_0 X hr _ _ _ (h (tc_At 5 Z)))
theorem cvX1_swapChance {R : Room} {cc : ByteArray} {nL pc ix : Nat} {own : String} {Z : tc_Z} {k : tc_B} (X : tc_Cx R cc nL own Z) (h1 : Cond.methodLink own ix yX1_swapChance ∈ tc_tb) (hR : 0 + 1 ≤ R.frames ∧ 8 + (5 + 11) + 0 ≤ R.locals) (hd : decode cc pc = .ok (.invokevirtual ix, 3)) (h : tc_Ok nL Z (pc + 3) k) : tc_Ok nL Z pc (tb_callV 3 5 1 RX1_swapChance k) := to_callV X metX1_swapChance rfl ⟨rfl, rfl⟩ hR h1 wi_X1_swapChance wl_X1_swapChance wn_RX1 wc_X1_swapChance ⟨by decide +kernel, by decide +kernel, by decide +kernel, by decide +kernel⟩ hd h
def bkX1_swapState_0 (P : Nat → tc_B) (q : tc_Q) : tc_B := tb_aload 0 <| tb_getf 1 2 <| tb_iload 1 <| tb_iald <| tb_istore 3 <| tb_aload 0 <| tb_getf 1 2 <| tb_iload 1 <| tb_iload 2 <| tb_iast <| tb_iload 3 <| tb_iret q
theorem okX1_swapState_0 {Z : tc_Z} {q : tc_Q} (X : tc_Cx ({ frames := 0, cells := 0, slots := 0, locals := 0 } : Room) cX1_swapState 4 RX1 Z) (hr : tc_Rt 0 cX1_swapState 4 Z q) : tc_Ok 4 Z 0 (bkX1_swapState_0 (tc_At 4 Z) q) := by
  unfold bkX1_swapState_0
  refine to_aload_n (pc := 0) X dX1_swapState_0 rfl ?_
  refine gfX1_2 (pc := 1) X wf_RX1_18 dX1_swapState_1 ?_
  refine to_iload_n (pc := 4) X dX1_swapState_4 rfl ?_
  refine to_iald (pc := 5) X dX1_swapState_5 ?_
  refine to_istore_n (pc := 6) X dX1_swapState_6 rfl (by decide) ?_
  refine to_aload_n (pc := 7) X dX1_swapState_7 rfl ?_
  refine gfX1_2 (pc := 8) X wf_RX1_18 dX1_swapState_8 ?_
  refine to_iload_n (pc := 11) X dX1_swapState_11 rfl ?_
  refine to_iload_n (pc := 12) X dX1_swapState_12 rfl ?_
  refine to_iast (pc := 13) X dX1_swapState_13 ?_
  refine to_iload_n (pc := 14) X dX1_swapState_14 rfl ?_
  exact to_iret (pc := 15) hr dX1_swapState_15
def RX1_swapState (vs : List tc_V) (S : tc_S) (q : tc_Q) : Prop := ∀ P : Nat → tc_B, bkX1_swapState_0 P q (tc_num 0 vs) [] S
theorem metX1_swapState : tc_Met yX1_swapState (Cond.code yX1_swapState cX1_swapState 4 (some .int)) ({ frames := 0, cells := 0, slots := 0, locals := 0 } : Room) 0 4 RX1_swapState := tc_met (rk := 0) (by decide) ⟨rfl, rfl⟩ (fun Z q X hr vs S h => okX1_swapState_0 X hr _ _ _ (h (tc_At 4 Z)))
theorem cvX1_swapState {R : Room} {cc : ByteArray} {nL pc ix : Nat} {own : String} {Z : tc_Z} {k : tc_B} (X : tc_Cx R cc nL own Z) (h1 : Cond.methodLink own ix yX1_swapState ∈ tc_tb) (hR : 0 + 1 ≤ R.frames ∧ 8 + (4 + 11) + 0 ≤ R.locals) (hd : decode cc pc = .ok (.invokevirtual ix, 3)) (h : tc_Ok nL Z (pc + 3) k) : tc_Ok nL Z pc (tb_callV 2 4 1 RX1_swapState k) := to_callV X metX1_swapState rfl ⟨rfl, rfl⟩ hR h1 wi_X1_swapState wl_X1_swapState wn_RX1 wc_X1_swapState ⟨by decide +kernel, by decide +kernel, by decide +kernel, by decide +kernel⟩ hd h
def bkX1_swapWeight_0 (P : Nat → tc_B) (q : tc_Q) : tc_B := tb_aload 0 <| tb_getf 1 1 <| tb_iload 1 <| tb_iald <| tb_istore 3 <| tb_aload 0 <| tb_getf 1 1 <| tb_iload 1 <| tb_iload 2 <| tb_iast <| tb_iload 3 <| tb_iret q
theorem okX1_swapWeight_0 {Z : tc_Z} {q : tc_Q} (X : tc_Cx ({ frames := 0, cells := 0, slots := 0, locals := 0 } : Room) cX1_swapWeight 4 RX1 Z) (hr : tc_Rt 0 cX1_swapWeight 4 Z q) : tc_Ok 4 Z 0 (bkX1_swapWeight_0 (tc_At 4 Z) q) := by
  unfold bkX1_swapWeight_0
  refine to_aload_n (pc := 0) X dX1_swapWeight_0 rfl ?_
  refine gfX1_1 (pc := 1) X wf_RX1_15 dX1_swapWeight_1 ?_
  refine to_iload_n (pc := 4) X dX1_swapWeight_4 rfl ?_
  refine to_iald (pc := 5) X dX1_swapWeight_5 ?_
  refine to_istore_n (pc := 6) X dX1_swapWeight_6 rfl (by decide) ?_
  refine to_aload_n (pc := 7) X dX1_swapWeight_7 rfl ?_
  refine gfX1_1 (pc := 8) X wf_RX1_15 dX1_swapWeight_8 ?_
  refine to_iload_n (pc := 11) X dX1_swapWeight_11 rfl ?_
  refine to_iload_n (pc := 12) X dX1_swapWeight_12 rfl ?_
  refine to_iast (pc := 13) X dX1_swapWeight_13 ?_
  refine to_iload_n (pc := 14) X dX1_swapWeight_14 rfl ?_
  exact to_iret (pc := 15) hr dX1_swapWeight_15
def RX1_swapWeight (vs : List tc_V) (S : tc_S) (q : tc_Q) : Prop := ∀ P : Nat → tc_B, bkX1_swapWeight_0 P q (tc_num 0 vs) [] S
theorem metX1_swapWeight : tc_Met yX1_swapWeight (Cond.code yX1_swapWeight cX1_swapWeight 4 (some .int)) ({ frames := 0, cells := 0, slots := 0, locals := 0 } : Room) 0 4 RX1_swapWeight := tc_met (rk := 0) (by decide) ⟨rfl, rfl⟩ (fun Z q X hr vs S h => okX1_swapWeight_0 X hr _ _ _ (h (tc_At 4 Z)))
theorem cvX1_swapWeight {R : Room} {cc : ByteArray} {nL pc ix : Nat} {own : String} {Z : tc_Z} {k : tc_B} (X : tc_Cx R cc nL own Z) (h1 : Cond.methodLink own ix yX1_swapWeight ∈ tc_tb) (hR : 0 + 1 ≤ R.frames ∧ 8 + (4 + 11) + 0 ≤ R.locals) (hd : decode cc pc = .ok (.invokevirtual ix, 3)) (h : tc_Ok nL Z (pc + 3) k) : tc_Ok nL Z pc (tb_callV 2 4 1 RX1_swapWeight k) := to_callV X metX1_swapWeight rfl ⟨rfl, rfl⟩ hR h1 wi_X1_swapWeight wl_X1_swapWeight wn_RX1 wc_X1_swapWeight ⟨by decide +kernel, by decide +kernel, by decide +kernel, by decide +kernel⟩ hd h
def bkX1_mixedChance_57 (P : Nat → tc_B) (q : tc_Q) : tc_B := tb_iinc 4 1 <| tb_cut (P 7) [0, 1, 2, 3, 4]
theorem okX1_mixedChance_57 {Z : tc_Z} {q : tc_Q} (X : tc_Cx ({ frames := 0, cells := 0, slots := 0, locals := 0 } : Room) cX1_mixedChance 6 RX1 Z) (hr : tc_Rt 0 cX1_mixedChance 6 Z q) : tc_Ok 6 Z 57 (bkX1_mixedChance_57 (tc_At 6 Z) q) := by
  unfold bkX1_mixedChance_57
  refine to_iinc (pc := 57) X dX1_mixedChance_57 (by decide) (by decide) ?_
  refine to_goto (pc := 60) (tgt := 7) X dX1_mixedChance_60 (by decide) ?_
  exact to_cut [0, 1, 2, 3, 4] (fun _ _ _ h => h)
def bkX1_mixedChance_7 (P : Nat → tc_B) (q : tc_Q) : tc_B := tb_iload 4 <| tb_i 4 <| tb_icmp_ge (tb_iload 3 <| tb_if_ne (tb_i 2 <| tb_iload 2 <| tb_imul <| tb_iload 3 <| tb_iadd <| tb_i 2 <| tb_iload 3 <| tb_imul <| tb_idiv <| tb_iret q) <| tb_i (-9) <| tb_iret q) <| tb_aload 0 <| tb_getf 1 0 <| tb_iload 4 <| tb_i 40 <| tb_imul <| tb_iload 1 <| tb_iadd <| tb_iald <| tb_istore 5 <| tb_iload 5 <| tb_i (-9) <| tb_icmp_eq (tb_cut (P 57) [0, 1, 2, 3, 4]) <| tb_iload 2 <| tb_aload 0 <| tb_getf 1 1 <| tb_iload 4 <| tb_iald <| tb_iload 5 <| tb_imul <| tb_iadd <| tb_istore 2 <| tb_iload 3 <| tb_aload 0 <| tb_getf 1 1 <| tb_iload 4 <| tb_iald <| tb_iadd <| tb_istore 3 <| tb_cut (P 57) [0, 1, 2, 3, 4]
theorem okX1_mixedChance_7 {Z : tc_Z} {q : tc_Q} (X : tc_Cx ({ frames := 0, cells := 0, slots := 0, locals := 0 } : Room) cX1_mixedChance 6 RX1 Z) (hr : tc_Rt 0 cX1_mixedChance 6 Z q) : tc_Ok 6 Z 7 (bkX1_mixedChance_7 (tc_At 6 Z) q) := by
  unfold bkX1_mixedChance_7
  refine to_iload (pc := 7) X dX1_mixedChance_7 ?_
  refine to_iconst (pc := 9) X dX1_mixedChance_9 (by decide) ?_
  refine to_icmp_ge (pc := 10) (tgt := 63) X dX1_mixedChance_10 (by decide) ?_ ?_
  · refine to_iload_n (pc := 63) X dX1_mixedChance_63 rfl ?_
    refine to_if_ne (pc := 64) (tgt := 70) X dX1_mixedChance_64 (by decide) ?_ ?_
    · refine to_iconst (pc := 70) X dX1_mixedChance_70 (by decide) ?_
      refine to_iload_n (pc := 71) X dX1_mixedChance_71 rfl ?_
      refine to_imul (pc := 72) X dX1_mixedChance_72 ?_
      refine to_iload_n (pc := 73) X dX1_mixedChance_73 rfl ?_
      refine to_iadd (pc := 74) X dX1_mixedChance_74 ?_
      refine to_iconst (pc := 75) X dX1_mixedChance_75 (by decide) ?_
      refine to_iload_n (pc := 76) X dX1_mixedChance_76 rfl ?_
      refine to_imul (pc := 77) X dX1_mixedChance_77 ?_
      refine to_idiv (pc := 78) X dX1_mixedChance_78 ?_
      exact to_iret (pc := 79) hr dX1_mixedChance_79
    refine to_bipush (pc := 67) X dX1_mixedChance_67 (by decide) ?_
    exact to_iret (pc := 69) hr dX1_mixedChance_69
  refine to_aload_n (pc := 13) X dX1_mixedChance_13 rfl ?_
  refine gfX1_0 (pc := 14) X wf_RX1_9 dX1_mixedChance_14 ?_
  refine to_iload (pc := 17) X dX1_mixedChance_17 ?_
  refine to_bipush (pc := 19) X dX1_mixedChance_19 (by decide) ?_
  refine to_imul (pc := 21) X dX1_mixedChance_21 ?_
  refine to_iload_n (pc := 22) X dX1_mixedChance_22 rfl ?_
  refine to_iadd (pc := 23) X dX1_mixedChance_23 ?_
  refine to_iald (pc := 24) X dX1_mixedChance_24 ?_
  refine to_istore (pc := 25) X dX1_mixedChance_25 (by decide) ?_
  refine to_iload (pc := 27) X dX1_mixedChance_27 ?_
  refine to_bipush (pc := 29) X dX1_mixedChance_29 (by decide) ?_
  refine to_icmp_eq (pc := 31) (tgt := 57) X dX1_mixedChance_31 (by decide) ?_ ?_
  · exact to_cut [0, 1, 2, 3, 4] (fun _ _ _ h => h)
  refine to_iload_n (pc := 34) X dX1_mixedChance_34 rfl ?_
  refine to_aload_n (pc := 35) X dX1_mixedChance_35 rfl ?_
  refine gfX1_1 (pc := 36) X wf_RX1_15 dX1_mixedChance_36 ?_
  refine to_iload (pc := 39) X dX1_mixedChance_39 ?_
  refine to_iald (pc := 41) X dX1_mixedChance_41 ?_
  refine to_iload (pc := 42) X dX1_mixedChance_42 ?_
  refine to_imul (pc := 44) X dX1_mixedChance_44 ?_
  refine to_iadd (pc := 45) X dX1_mixedChance_45 ?_
  refine to_istore_n (pc := 46) X dX1_mixedChance_46 rfl (by decide) ?_
  refine to_iload_n (pc := 47) X dX1_mixedChance_47 rfl ?_
  refine to_aload_n (pc := 48) X dX1_mixedChance_48 rfl ?_
  refine gfX1_1 (pc := 49) X wf_RX1_15 dX1_mixedChance_49 ?_
  refine to_iload (pc := 52) X dX1_mixedChance_52 ?_
  refine to_iald (pc := 54) X dX1_mixedChance_54 ?_
  refine to_iadd (pc := 55) X dX1_mixedChance_55 ?_
  refine to_istore_n (pc := 56) X dX1_mixedChance_56 rfl (by decide) ?_
  exact to_cut [0, 1, 2, 3, 4] (fun _ _ _ h => h)
def bkX1_mixedChance_0 (P : Nat → tc_B) (q : tc_Q) : tc_B := tb_i 0 <| tb_istore 2 <| tb_i 0 <| tb_istore 3 <| tb_i 0 <| tb_istore 4 <| tb_cut (P 7) [0, 1, 2, 3, 4]
theorem okX1_mixedChance_0 {Z : tc_Z} {q : tc_Q} (X : tc_Cx ({ frames := 0, cells := 0, slots := 0, locals := 0 } : Room) cX1_mixedChance 6 RX1 Z) (hr : tc_Rt 0 cX1_mixedChance 6 Z q) : tc_Ok 6 Z 0 (bkX1_mixedChance_0 (tc_At 6 Z) q) := by
  unfold bkX1_mixedChance_0
  refine to_iconst (pc := 0) X dX1_mixedChance_0 (by decide) ?_
  refine to_istore_n (pc := 1) X dX1_mixedChance_1 rfl (by decide) ?_
  refine to_iconst (pc := 2) X dX1_mixedChance_2 (by decide) ?_
  refine to_istore_n (pc := 3) X dX1_mixedChance_3 rfl (by decide) ?_
  refine to_iconst (pc := 4) X dX1_mixedChance_4 (by decide) ?_
  refine to_istore (pc := 5) X dX1_mixedChance_5 (by decide) ?_
  exact to_cut [0, 1, 2, 3, 4] (fun _ _ _ h => h)
def RX1_mixedChance (vs : List tc_V) (S : tc_S) (q : tc_Q) : Prop := ∀ P : Nat → tc_B, (∀ L K S, bkX1_mixedChance_7 P q L K S → P 7 L K S) → (∀ L K S, bkX1_mixedChance_57 P q L K S → P 57 L K S) → bkX1_mixedChance_0 P q (tc_num 0 vs) [] S
theorem metX1_mixedChance : tc_Met yX1_mixedChance (Cond.code yX1_mixedChance cX1_mixedChance 6 (some .int)) ({ frames := 0, cells := 0, slots := 0, locals := 0 } : Room) 0 6 RX1_mixedChance := tc_met (rk := 0) (by decide) ⟨rfl, rfl⟩ (fun Z q X hr vs S h => okX1_mixedChance_0 X hr _ _ _ (h (tc_At 6 Z) (okX1_mixedChance_7 X hr) (okX1_mixedChance_57 X hr)))
theorem cvX1_mixedChance {R : Room} {cc : ByteArray} {nL pc ix : Nat} {own : String} {Z : tc_Z} {k : tc_B} (X : tc_Cx R cc nL own Z) (h1 : Cond.methodLink own ix yX1_mixedChance ∈ tc_tb) (hR : 0 + 1 ≤ R.frames ∧ 8 + (6 + 11) + 0 ≤ R.locals) (hd : decode cc pc = .ok (.invokevirtual ix, 3)) (h : tc_Ok nL Z (pc + 3) k) : tc_Ok nL Z pc (tb_callV 1 6 1 RX1_mixedChance k) := to_callV X metX1_mixedChance rfl ⟨rfl, rfl⟩ hR h1 wi_X1_mixedChance wl_X1_mixedChance wn_RX1 wc_X1_mixedChance ⟨by decide +kernel, by decide +kernel, by decide +kernel, by decide +kernel⟩ hd h
def bkX1_chanceOf_10 (P : Nat → tc_B) (q : tc_Q) : tc_B := tb_iret q
theorem okX1_chanceOf_10 {Z : tc_Z} {q : tc_Q} (X : tc_Cx ({ frames := 1, cells := 0, slots := 0, locals := 25 } : Room) cX1_chanceOf 3 RX1 Z) (hr : tc_Rt 0 cX1_chanceOf 3 Z q) : tc_Ok 3 Z 10 (bkX1_chanceOf_10 (tc_At 3 Z) q) := by
  unfold bkX1_chanceOf_10
  refine to_goto (pc := 10) (tgt := 24) X dX1_chanceOf_10 (by decide) ?_
  exact to_iret (pc := 24) hr dX1_chanceOf_24
def bkX1_chanceOf_0 (P : Nat → tc_B) (q : tc_Q) : tc_B := tb_iload 1 <| tb_i 4 <| tb_icmp_ne (tb_aload 0 <| tb_getf 1 0 <| tb_iload 1 <| tb_i 40 <| tb_imul <| tb_iload 2 <| tb_iadd <| tb_iald <| tb_iret q) <| tb_aload 0 <| tb_iload 2 <| tb_callV 1 6 1 RX1_mixedChance <| bkX1_chanceOf_10 P q
theorem okX1_chanceOf_0 {Z : tc_Z} {q : tc_Q} (X : tc_Cx ({ frames := 1, cells := 0, slots := 0, locals := 25 } : Room) cX1_chanceOf 3 RX1 Z) (hr : tc_Rt 0 cX1_chanceOf 3 Z q) : tc_Ok 3 Z 0 (bkX1_chanceOf_0 (tc_At 3 Z) q) := by
  unfold bkX1_chanceOf_0
  refine to_iload_n (pc := 0) X dX1_chanceOf_0 rfl ?_
  refine to_iconst (pc := 1) X dX1_chanceOf_1 (by decide) ?_
  refine to_icmp_ne (pc := 2) (tgt := 13) X dX1_chanceOf_2 (by decide) ?_ ?_
  · refine to_aload_n (pc := 13) X dX1_chanceOf_13 rfl ?_
    refine gfX1_0 (pc := 14) X wf_RX1_9 dX1_chanceOf_14 ?_
    refine to_iload_n (pc := 17) X dX1_chanceOf_17 rfl ?_
    refine to_bipush (pc := 18) X dX1_chanceOf_18 (by decide) ?_
    refine to_imul (pc := 20) X dX1_chanceOf_20 ?_
    refine to_iload_n (pc := 21) X dX1_chanceOf_21 rfl ?_
    refine to_iadd (pc := 22) X dX1_chanceOf_22 ?_
    refine to_iald (pc := 23) X dX1_chanceOf_23 ?_
    exact to_iret (pc := 24) hr dX1_chanceOf_24
  refine to_aload_n (pc := 5) X dX1_chanceOf_5 rfl ?_
  refine to_iload_n (pc := 6) X dX1_chanceOf_6 rfl ?_
  refine cvX1_mixedChance (pc := 7) X wm_RX1_21 (by decide) dX1_chanceOf_7 ?_
  exact okX1_chanceOf_10 X hr
def RX1_chanceOf (vs : List tc_V) (S : tc_S) (q : tc_Q) : Prop := ∀ P : Nat → tc_B, bkX1_chanceOf_0 P q (tc_num 0 vs) [] S
theorem metX1_chanceOf : tc_Met yX1_chanceOf (Cond.code yX1_chanceOf cX1_chanceOf 3 (some .int)) ({ frames := 1, cells := 0, slots := 0, locals := 25 } : Room) 0 3 RX1_chanceOf := tc_met (rk := 0) (by decide) ⟨rfl, rfl⟩ (fun Z q X hr vs S h => okX1_chanceOf_0 X hr _ _ _ (h (tc_At 3 Z)))
theorem cvX1_chanceOf {R : Room} {cc : ByteArray} {nL pc ix : Nat} {own : String} {Z : tc_Z} {k : tc_B} (X : tc_Cx R cc nL own Z) (h1 : Cond.methodLink own ix yX1_chanceOf ∈ tc_tb) (hR : 1 + 1 ≤ R.frames ∧ 8 + (3 + 11) + 25 ≤ R.locals) (hd : decode cc pc = .ok (.invokevirtual ix, 3)) (h : tc_Ok nL Z (pc + 3) k) : tc_Ok nL Z pc (tb_callV 2 3 1 RX1_chanceOf k) := to_callV X metX1_chanceOf rfl ⟨rfl, rfl⟩ hR h1 wi_X1_chanceOf wl_X1_chanceOf wn_RX1 wc_X1_chanceOf ⟨by decide +kernel, by decide +kernel, by decide +kernel, by decide +kernel⟩ hd h
def bkX1_isCase_15 (P : Nat → tc_B) (q : tc_Q) : tc_B := tb_i (-9) <| tb_icmp_eq (tb_i 0 <| tb_zret q) <| tb_i 1 <| tb_zret q
theorem okX1_isCase_15 {Z : tc_Z} {q : tc_Q} (X : tc_Cx ({ frames := 2, cells := 0, slots := 0, locals := 47 } : Room) cX1_isCase 3 RX1 Z) (hr : tc_Rt 1 cX1_isCase 3 Z q) : tc_Ok 3 Z 15 (bkX1_isCase_15 (tc_At 3 Z) q) := by
  unfold bkX1_isCase_15
  refine to_bipush (pc := 15) X dX1_isCase_15 (by decide) ?_
  refine to_icmp_eq (pc := 17) (tgt := 24) X dX1_isCase_17 (by decide) ?_ ?_
  · refine to_iconst (pc := 24) X dX1_isCase_24 (by decide) ?_
    exact to_zret (pc := 25) hr dX1_isCase_25
  refine to_iconst (pc := 20) X dX1_isCase_20 (by decide) ?_
  refine to_goto (pc := 21) (tgt := 25) X dX1_isCase_21 (by decide) ?_
  exact to_zret (pc := 25) hr dX1_isCase_25
def bkX1_isCase_0 (P : Nat → tc_B) (q : tc_Q) : tc_B := tb_aload 0 <| tb_getf 1 2 <| tb_iload 2 <| tb_iald <| tb_if_eq (tb_i 0 <| tb_zret q) <| tb_aload 0 <| tb_iload 1 <| tb_iload 2 <| tb_callV 2 3 1 RX1_chanceOf <| bkX1_isCase_15 P q
theorem okX1_isCase_0 {Z : tc_Z} {q : tc_Q} (X : tc_Cx ({ frames := 2, cells := 0, slots := 0, locals := 47 } : Room) cX1_isCase 3 RX1 Z) (hr : tc_Rt 1 cX1_isCase 3 Z q) : tc_Ok 3 Z 0 (bkX1_isCase_0 (tc_At 3 Z) q) := by
  unfold bkX1_isCase_0
  refine to_aload_n (pc := 0) X dX1_isCase_0 rfl ?_
  refine gfX1_2 (pc := 1) X wf_RX1_18 dX1_isCase_1 ?_
  refine to_iload_n (pc := 4) X dX1_isCase_4 rfl ?_
  refine to_iald (pc := 5) X dX1_isCase_5 ?_
  refine to_if_eq (pc := 6) (tgt := 24) X dX1_isCase_6 (by decide) ?_ ?_
  · refine to_iconst (pc := 24) X dX1_isCase_24 (by decide) ?_
    exact to_zret (pc := 25) hr dX1_isCase_25
  refine to_aload_n (pc := 9) X dX1_isCase_9 rfl ?_
  refine to_iload_n (pc := 10) X dX1_isCase_10 rfl ?_
  refine to_iload_n (pc := 11) X dX1_isCase_11 rfl ?_
  refine cvX1_chanceOf (pc := 12) X wm_RX1_25 (by decide) dX1_isCase_12 ?_
  exact okX1_isCase_15 X hr
def RX1_isCase (vs : List tc_V) (S : tc_S) (q : tc_Q) : Prop := ∀ P : Nat → tc_B, bkX1_isCase_0 P q (tc_num 0 vs) [] S
theorem metX1_isCase : tc_Met yX1_isCase (Cond.code yX1_isCase cX1_isCase 3 (some .boolean)) ({ frames := 2, cells := 0, slots := 0, locals := 47 } : Room) 1 3 RX1_isCase := tc_met (rk := 1) (by decide) ⟨rfl, rfl⟩ (fun Z q X hr vs S h => okX1_isCase_0 X hr _ _ _ (h (tc_At 3 Z)))
theorem cvX1_isCase {R : Room} {cc : ByteArray} {nL pc ix : Nat} {own : String} {Z : tc_Z} {k : tc_B} (X : tc_Cx R cc nL own Z) (h1 : Cond.methodLink own ix yX1_isCase ∈ tc_tb) (hR : 2 + 1 ≤ R.frames ∧ 8 + (3 + 11) + 47 ≤ R.locals) (hd : decode cc pc = .ok (.invokevirtual ix, 3)) (h : tc_Ok nL Z (pc + 3) k) : tc_Ok nL Z pc (tb_callV 2 3 1 RX1_isCase k) := to_callV X metX1_isCase rfl ⟨rfl, rfl⟩ hR h1 wi_X1_isCase wl_X1_isCase wn_RX1 wc_X1_isCase ⟨by decide +kernel, by decide +kernel, by decide +kernel, by decide +kernel⟩ hd h
def bkX1_countState_23 (P : Nat → tc_B) (q : tc_Q) : tc_B := tb_iinc 3 1 <| tb_cut (P 4) [0, 1, 2, 3]
theorem okX1_countState_23 {Z : tc_Z} {q : tc_Q} (X : tc_Cx ({ frames := 0, cells := 0, slots := 0, locals := 0 } : Room) cX1_countState 4 RX1 Z) (hr : tc_Rt 0 cX1_countState 4 Z q) : tc_Ok 4 Z 23 (bkX1_countState_23 (tc_At 4 Z) q) := by
  unfold bkX1_countState_23
  refine to_iinc (pc := 23) X dX1_countState_23 (by decide) (by decide) ?_
  refine to_goto (pc := 26) (tgt := 4) X dX1_countState_26 (by decide) ?_
  exact to_cut [0, 1, 2, 3] (fun _ _ _ h => h)
def bkX1_countState_4 (P : Nat → tc_B) (q : tc_Q) : tc_B := tb_iload 3 <| tb_i 40 <| tb_icmp_ge (tb_iload 2 <| tb_iret q) <| tb_aload 0 <| tb_getf 1 2 <| tb_iload 3 <| tb_iald <| tb_iload 1 <| tb_icmp_ne (tb_cut (P 23) [0, 1, 2, 3]) <| tb_iinc 2 1 <| tb_cut (P 23) [0, 1, 2, 3]
theorem okX1_countState_4 {Z : tc_Z} {q : tc_Q} (X : tc_Cx ({ frames := 0, cells := 0, slots := 0, locals := 0 } : Room) cX1_countState 4 RX1 Z) (hr : tc_Rt 0 cX1_countState 4 Z q) : tc_Ok 4 Z 4 (bkX1_countState_4 (tc_At 4 Z) q) := by
  unfold bkX1_countState_4
  refine to_iload_n (pc := 4) X dX1_countState_4 rfl ?_
  refine to_bipush (pc := 5) X dX1_countState_5 (by decide) ?_
  refine to_icmp_ge (pc := 7) (tgt := 29) X dX1_countState_7 (by decide) ?_ ?_
  · refine to_iload_n (pc := 29) X dX1_countState_29 rfl ?_
    exact to_iret (pc := 30) hr dX1_countState_30
  refine to_aload_n (pc := 10) X dX1_countState_10 rfl ?_
  refine gfX1_2 (pc := 11) X wf_RX1_18 dX1_countState_11 ?_
  refine to_iload_n (pc := 14) X dX1_countState_14 rfl ?_
  refine to_iald (pc := 15) X dX1_countState_15 ?_
  refine to_iload_n (pc := 16) X dX1_countState_16 rfl ?_
  refine to_icmp_ne (pc := 17) (tgt := 23) X dX1_countState_17 (by decide) ?_ ?_
  · exact to_cut [0, 1, 2, 3] (fun _ _ _ h => h)
  refine to_iinc (pc := 20) X dX1_countState_20 (by decide) (by decide) ?_
  exact to_cut [0, 1, 2, 3] (fun _ _ _ h => h)
def bkX1_countState_0 (P : Nat → tc_B) (q : tc_Q) : tc_B := tb_i 0 <| tb_istore 2 <| tb_i 0 <| tb_istore 3 <| tb_cut (P 4) [0, 1, 2, 3]
theorem okX1_countState_0 {Z : tc_Z} {q : tc_Q} (X : tc_Cx ({ frames := 0, cells := 0, slots := 0, locals := 0 } : Room) cX1_countState 4 RX1 Z) (hr : tc_Rt 0 cX1_countState 4 Z q) : tc_Ok 4 Z 0 (bkX1_countState_0 (tc_At 4 Z) q) := by
  unfold bkX1_countState_0
  refine to_iconst (pc := 0) X dX1_countState_0 (by decide) ?_
  refine to_istore_n (pc := 1) X dX1_countState_1 rfl (by decide) ?_
  refine to_iconst (pc := 2) X dX1_countState_2 (by decide) ?_
  refine to_istore_n (pc := 3) X dX1_countState_3 rfl (by decide) ?_
  exact to_cut [0, 1, 2, 3] (fun _ _ _ h => h)
def RX1_countState (vs : List tc_V) (S : tc_S) (q : tc_Q) : Prop := ∀ P : Nat → tc_B, (∀ L K S, bkX1_countState_4 P q L K S → P 4 L K S) → (∀ L K S, bkX1_countState_23 P q L K S → P 23 L K S) → bkX1_countState_0 P q (tc_num 0 vs) [] S
theorem metX1_countState : tc_Met yX1_countState (Cond.code yX1_countState cX1_countState 4 (some .int)) ({ frames := 0, cells := 0, slots := 0, locals := 0 } : Room) 0 4 RX1_countState := tc_met (rk := 0) (by decide) ⟨rfl, rfl⟩ (fun Z q X hr vs S h => okX1_countState_0 X hr _ _ _ (h (tc_At 4 Z) (okX1_countState_4 X hr) (okX1_countState_23 X hr)))
theorem cvX1_countState {R : Room} {cc : ByteArray} {nL pc ix : Nat} {own : String} {Z : tc_Z} {k : tc_B} (X : tc_Cx R cc nL own Z) (h1 : Cond.methodLink own ix yX1_countState ∈ tc_tb) (hR : 0 + 1 ≤ R.frames ∧ 8 + (4 + 11) + 0 ≤ R.locals) (hd : decode cc pc = .ok (.invokevirtual ix, 3)) (h : tc_Ok nL Z (pc + 3) k) : tc_Ok nL Z pc (tb_callV 1 4 1 RX1_countState k) := to_callV X metX1_countState rfl ⟨rfl, rfl⟩ hR h1 wi_X1_countState wl_X1_countState wn_RX1 wc_X1_countState ⟨by decide +kernel, by decide +kernel, by decide +kernel, by decide +kernel⟩ hd h
def bkX1_countTold_27 (P : Nat → tc_B) (q : tc_Q) : tc_B := tb_iinc 2 1 <| tb_cut (P 4) [0, 1, 2]
theorem okX1_countTold_27 {Z : tc_Z} {q : tc_Q} (X : tc_Cx ({ frames := 0, cells := 0, slots := 0, locals := 0 } : Room) cX1_countTold 3 RX1 Z) (hr : tc_Rt 0 cX1_countTold 3 Z q) : tc_Ok 3 Z 27 (bkX1_countTold_27 (tc_At 3 Z) q) := by
  unfold bkX1_countTold_27
  refine to_iinc (pc := 27) X dX1_countTold_27 (by decide) (by decide) ?_
  refine to_goto (pc := 30) (tgt := 4) X dX1_countTold_30 (by decide) ?_
  exact to_cut [0, 1, 2] (fun _ _ _ h => h)
def bkX1_countTold_4 (P : Nat → tc_B) (q : tc_Q) : tc_B := tb_iload 2 <| tb_aload 0 <| tb_getf 1 0 <| tb_alen <| tb_icmp_ge (tb_iload 1 <| tb_iret q) <| tb_aload 0 <| tb_getf 1 0 <| tb_iload 2 <| tb_iald <| tb_i (-9) <| tb_icmp_eq (tb_cut (P 27) [0, 1, 2]) <| tb_iinc 1 1 <| tb_cut (P 27) [0, 1, 2]
theorem okX1_countTold_4 {Z : tc_Z} {q : tc_Q} (X : tc_Cx ({ frames := 0, cells := 0, slots := 0, locals := 0 } : Room) cX1_countTold 3 RX1 Z) (hr : tc_Rt 0 cX1_countTold 3 Z q) : tc_Ok 3 Z 4 (bkX1_countTold_4 (tc_At 3 Z) q) := by
  unfold bkX1_countTold_4
  refine to_iload_n (pc := 4) X dX1_countTold_4 rfl ?_
  refine to_aload_n (pc := 5) X dX1_countTold_5 rfl ?_
  refine gfX1_0 (pc := 6) X wf_RX1_9 dX1_countTold_6 ?_
  refine to_alen (pc := 9) X dX1_countTold_9 ?_
  refine to_icmp_ge (pc := 10) (tgt := 33) X dX1_countTold_10 (by decide) ?_ ?_
  · refine to_iload_n (pc := 33) X dX1_countTold_33 rfl ?_
    exact to_iret (pc := 34) hr dX1_countTold_34
  refine to_aload_n (pc := 13) X dX1_countTold_13 rfl ?_
  refine gfX1_0 (pc := 14) X wf_RX1_9 dX1_countTold_14 ?_
  refine to_iload_n (pc := 17) X dX1_countTold_17 rfl ?_
  refine to_iald (pc := 18) X dX1_countTold_18 ?_
  refine to_bipush (pc := 19) X dX1_countTold_19 (by decide) ?_
  refine to_icmp_eq (pc := 21) (tgt := 27) X dX1_countTold_21 (by decide) ?_ ?_
  · exact to_cut [0, 1, 2] (fun _ _ _ h => h)
  refine to_iinc (pc := 24) X dX1_countTold_24 (by decide) (by decide) ?_
  exact to_cut [0, 1, 2] (fun _ _ _ h => h)
def bkX1_countTold_0 (P : Nat → tc_B) (q : tc_Q) : tc_B := tb_i 0 <| tb_istore 1 <| tb_i 0 <| tb_istore 2 <| tb_cut (P 4) [0, 1, 2]
theorem okX1_countTold_0 {Z : tc_Z} {q : tc_Q} (X : tc_Cx ({ frames := 0, cells := 0, slots := 0, locals := 0 } : Room) cX1_countTold 3 RX1 Z) (hr : tc_Rt 0 cX1_countTold 3 Z q) : tc_Ok 3 Z 0 (bkX1_countTold_0 (tc_At 3 Z) q) := by
  unfold bkX1_countTold_0
  refine to_iconst (pc := 0) X dX1_countTold_0 (by decide) ?_
  refine to_istore_n (pc := 1) X dX1_countTold_1 rfl (by decide) ?_
  refine to_iconst (pc := 2) X dX1_countTold_2 (by decide) ?_
  refine to_istore_n (pc := 3) X dX1_countTold_3 rfl (by decide) ?_
  exact to_cut [0, 1, 2] (fun _ _ _ h => h)
def RX1_countTold (vs : List tc_V) (S : tc_S) (q : tc_Q) : Prop := ∀ P : Nat → tc_B, (∀ L K S, bkX1_countTold_4 P q L K S → P 4 L K S) → (∀ L K S, bkX1_countTold_27 P q L K S → P 27 L K S) → bkX1_countTold_0 P q (tc_num 0 vs) [] S
theorem metX1_countTold : tc_Met yX1_countTold (Cond.code yX1_countTold cX1_countTold 3 (some .int)) ({ frames := 0, cells := 0, slots := 0, locals := 0 } : Room) 0 3 RX1_countTold := tc_met (rk := 0) (by decide) ⟨rfl, rfl⟩ (fun Z q X hr vs S h => okX1_countTold_0 X hr _ _ _ (h (tc_At 3 Z) (okX1_countTold_4 X hr) (okX1_countTold_27 X hr)))
theorem cvX1_countTold {R : Room} {cc : ByteArray} {nL pc ix : Nat} {own : String} {Z : tc_Z} {k : tc_B} (X : tc_Cx R cc nL own Z) (h1 : Cond.methodLink own ix yX1_countTold ∈ tc_tb) (hR : 0 + 1 ≤ R.frames ∧ 8 + (3 + 11) + 0 ≤ R.locals) (hd : decode cc pc = .ok (.invokevirtual ix, 3)) (h : tc_Ok nL Z (pc + 3) k) : tc_Ok nL Z pc (tb_callV 0 3 1 RX1_countTold k) := to_callV X metX1_countTold rfl ⟨rfl, rfl⟩ hR h1 wi_X1_countTold wl_X1_countTold wn_RX1 wc_X1_countTold ⟨by decide +kernel, by decide +kernel, by decide +kernel, by decide +kernel⟩ hd h
def bkX1_countCases_29 (P : Nat → tc_B) (q : tc_Q) : tc_B := tb_iinc 3 1 <| tb_cut (P 11) [0, 1, 2, 3]
theorem okX1_countCases_29 {Z : tc_Z} {q : tc_Q} (X : tc_Cx ({ frames := 3, cells := 0, slots := 0, locals := 69 } : Room) cX1_countCases 4 RX1 Z) (hr : tc_Rt 0 cX1_countCases 4 Z q) : tc_Ok 4 Z 29 (bkX1_countCases_29 (tc_At 4 Z) q) := by
  unfold bkX1_countCases_29
  refine to_iinc (pc := 29) X dX1_countCases_29 (by decide) (by decide) ?_
  refine to_goto (pc := 32) (tgt := 11) X dX1_countCases_32 (by decide) ?_
  exact to_cut [0, 1, 2, 3] (fun _ _ _ h => h)
def bkX1_countCases_23 (P : Nat → tc_B) (q : tc_Q) : tc_B := tb_if_eq (tb_cut (P 29) [0, 1, 2, 3]) <| tb_iinc 1 1 <| tb_cut (P 29) [0, 1, 2, 3]
theorem okX1_countCases_23 {Z : tc_Z} {q : tc_Q} (X : tc_Cx ({ frames := 3, cells := 0, slots := 0, locals := 69 } : Room) cX1_countCases 4 RX1 Z) (hr : tc_Rt 0 cX1_countCases 4 Z q) : tc_Ok 4 Z 23 (bkX1_countCases_23 (tc_At 4 Z) q) := by
  unfold bkX1_countCases_23
  refine to_if_eq (pc := 23) (tgt := 29) X dX1_countCases_23 (by decide) ?_ ?_
  · exact to_cut [0, 1, 2, 3] (fun _ _ _ h => h)
  refine to_iinc (pc := 26) X dX1_countCases_26 (by decide) (by decide) ?_
  exact to_cut [0, 1, 2, 3] (fun _ _ _ h => h)
def bkX1_countCases_11 (P : Nat → tc_B) (q : tc_Q) : tc_B := tb_iload 3 <| tb_i 40 <| tb_icmp_ge (tb_iinc 2 1 <| tb_cut (P 4) [0, 1, 2]) <| tb_aload 0 <| tb_iload 2 <| tb_iload 3 <| tb_callV 2 3 1 RX1_isCase <| bkX1_countCases_23 P q
theorem okX1_countCases_11 {Z : tc_Z} {q : tc_Q} (X : tc_Cx ({ frames := 3, cells := 0, slots := 0, locals := 69 } : Room) cX1_countCases 4 RX1 Z) (hr : tc_Rt 0 cX1_countCases 4 Z q) : tc_Ok 4 Z 11 (bkX1_countCases_11 (tc_At 4 Z) q) := by
  unfold bkX1_countCases_11
  refine to_iload_n (pc := 11) X dX1_countCases_11 rfl ?_
  refine to_bipush (pc := 12) X dX1_countCases_12 (by decide) ?_
  refine to_icmp_ge (pc := 14) (tgt := 35) X dX1_countCases_14 (by decide) ?_ ?_
  · refine to_iinc (pc := 35) X dX1_countCases_35 (by decide) (by decide) ?_
    refine to_goto (pc := 38) (tgt := 4) X dX1_countCases_38 (by decide) ?_
    exact to_cut [0, 1, 2] (fun _ _ _ h => h)
  refine to_aload_n (pc := 17) X dX1_countCases_17 rfl ?_
  refine to_iload_n (pc := 18) X dX1_countCases_18 rfl ?_
  refine to_iload_n (pc := 19) X dX1_countCases_19 rfl ?_
  refine cvX1_isCase (pc := 20) X wm_RX1_29 (by decide) dX1_countCases_20 ?_
  exact okX1_countCases_23 X hr
def bkX1_countCases_4 (P : Nat → tc_B) (q : tc_Q) : tc_B := tb_iload 2 <| tb_i 4 <| tb_icmp_ge (tb_iload 1 <| tb_iret q) <| tb_i 0 <| tb_istore 3 <| tb_cut (P 11) [0, 1, 2, 3]
theorem okX1_countCases_4 {Z : tc_Z} {q : tc_Q} (X : tc_Cx ({ frames := 3, cells := 0, slots := 0, locals := 69 } : Room) cX1_countCases 4 RX1 Z) (hr : tc_Rt 0 cX1_countCases 4 Z q) : tc_Ok 4 Z 4 (bkX1_countCases_4 (tc_At 4 Z) q) := by
  unfold bkX1_countCases_4
  refine to_iload_n (pc := 4) X dX1_countCases_4 rfl ?_
  refine to_iconst (pc := 5) X dX1_countCases_5 (by decide) ?_
  refine to_icmp_ge (pc := 6) (tgt := 41) X dX1_countCases_6 (by decide) ?_ ?_
  · refine to_iload_n (pc := 41) X dX1_countCases_41 rfl ?_
    exact to_iret (pc := 42) hr dX1_countCases_42
  refine to_iconst (pc := 9) X dX1_countCases_9 (by decide) ?_
  refine to_istore_n (pc := 10) X dX1_countCases_10 rfl (by decide) ?_
  exact to_cut [0, 1, 2, 3] (fun _ _ _ h => h)
def bkX1_countCases_0 (P : Nat → tc_B) (q : tc_Q) : tc_B := tb_i 0 <| tb_istore 1 <| tb_i 0 <| tb_istore 2 <| tb_cut (P 4) [0, 1, 2]
theorem okX1_countCases_0 {Z : tc_Z} {q : tc_Q} (X : tc_Cx ({ frames := 3, cells := 0, slots := 0, locals := 69 } : Room) cX1_countCases 4 RX1 Z) (hr : tc_Rt 0 cX1_countCases 4 Z q) : tc_Ok 4 Z 0 (bkX1_countCases_0 (tc_At 4 Z) q) := by
  unfold bkX1_countCases_0
  refine to_iconst (pc := 0) X dX1_countCases_0 (by decide) ?_
  refine to_istore_n (pc := 1) X dX1_countCases_1 rfl (by decide) ?_
  refine to_iconst (pc := 2) X dX1_countCases_2 (by decide) ?_
  refine to_istore_n (pc := 3) X dX1_countCases_3 rfl (by decide) ?_
  exact to_cut [0, 1, 2] (fun _ _ _ h => h)
def RX1_countCases (vs : List tc_V) (S : tc_S) (q : tc_Q) : Prop := ∀ P : Nat → tc_B, (∀ L K S, bkX1_countCases_4 P q L K S → P 4 L K S) → (∀ L K S, bkX1_countCases_11 P q L K S → P 11 L K S) → (∀ L K S, bkX1_countCases_29 P q L K S → P 29 L K S) → bkX1_countCases_0 P q (tc_num 0 vs) [] S
theorem metX1_countCases : tc_Met yX1_countCases (Cond.code yX1_countCases cX1_countCases 4 (some .int)) ({ frames := 3, cells := 0, slots := 0, locals := 69 } : Room) 0 4 RX1_countCases := tc_met (rk := 0) (by decide) ⟨rfl, rfl⟩ (fun Z q X hr vs S h => okX1_countCases_0 X hr _ _ _ (h (tc_At 4 Z) (okX1_countCases_4 X hr) (okX1_countCases_11 X hr) (okX1_countCases_29 X hr)))
theorem cvX1_countCases {R : Room} {cc : ByteArray} {nL pc ix : Nat} {own : String} {Z : tc_Z} {k : tc_B} (X : tc_Cx R cc nL own Z) (h1 : Cond.methodLink own ix yX1_countCases ∈ tc_tb) (hR : 3 + 1 ≤ R.frames ∧ 8 + (4 + 11) + 69 ≤ R.locals) (hd : decode cc pc = .ok (.invokevirtual ix, 3)) (h : tc_Ok nL Z (pc + 3) k) : tc_Ok nL Z pc (tb_callV 0 4 1 RX1_countCases k) := to_callV X metX1_countCases rfl ⟨rfl, rfl⟩ hR h1 wi_X1_countCases wl_X1_countCases wn_RX1 wc_X1_countCases ⟨by decide +kernel, by decide +kernel, by decide +kernel, by decide +kernel⟩ hd h
def bkX2_gather_98 (P : Nat → tc_B) (q : tc_Q) : tc_B := tb_iinc 3 1 <| tb_cut (P 12) [0, 1, 2, 3]
theorem okX2_gather_98 {Z : tc_Z} {q : tc_Q} (X : tc_Cx ({ frames := 3, cells := 0, slots := 0, locals := 69 } : Room) cX2_gather 4 RX2 Z) (hr : tc_Rt 3 cX2_gather 4 Z q) : tc_Ok 4 Z 98 (bkX2_gather_98 (tc_At 4 Z) q) := by
  unfold bkX2_gather_98
  refine to_iinc (pc := 98) X dX2_gather_98 (by decide) (by decide) ?_
  refine to_goto (pc := 101) (tgt := 12) X dX2_gather_101 (by decide) ?_
  exact to_cut [0, 1, 2, 3] (fun _ _ _ h => h)
def bkX2_gather_88 (P : Nat → tc_B) (q : tc_Q) : tc_B := tb_aload 0 <| tb_dup <| tb_getf 2 2 <| tb_i 1 <| tb_iadd <| tb_putI 2 2 <| tb_cut (P 98) [0, 1, 2, 3]
theorem okX2_gather_88 {Z : tc_Z} {q : tc_Q} (X : tc_Cx ({ frames := 3, cells := 0, slots := 0, locals := 69 } : Room) cX2_gather 4 RX2 Z) (hr : tc_Rt 3 cX2_gather 4 Z q) : tc_Ok 4 Z 88 (bkX2_gather_88 (tc_At 4 Z) q) := by
  unfold bkX2_gather_88
  refine to_aload_n (pc := 88) X dX2_gather_88 rfl ?_
  refine to_dup (pc := 89) X dX2_gather_89 ?_
  refine gfX2_2 (pc := 90) X wf_RX2_19 dX2_gather_90 ?_
  refine to_iconst (pc := 93) X dX2_gather_93 (by decide) ?_
  refine to_iadd (pc := 94) X dX2_gather_94 ?_
  refine pfX2_2 (pc := 95) X wf_RX2_19 dX2_gather_95 ?_
  exact to_cut [0, 1, 2, 3] (fun _ _ _ h => h)
def bkX2_gather_65 (P : Nat → tc_B) (q : tc_Q) : tc_B := tb_zast <| tb_aload 0 <| tb_getf 2 1 <| tb_aload 0 <| tb_getf 2 2 <| tb_zald <| tb_if_eq (tb_cut (P 88) [0, 1, 2, 3]) <| tb_aload 0 <| tb_dup <| tb_getf 2 3 <| tb_i 1 <| tb_iadd <| tb_putI 2 3 <| tb_cut (P 88) [0, 1, 2, 3]
theorem okX2_gather_65 {Z : tc_Z} {q : tc_Q} (X : tc_Cx ({ frames := 3, cells := 0, slots := 0, locals := 69 } : Room) cX2_gather 4 RX2 Z) (hr : tc_Rt 3 cX2_gather 4 Z q) : tc_Ok 4 Z 65 (bkX2_gather_65 (tc_At 4 Z) q) := by
  unfold bkX2_gather_65
  refine to_zast (pc := 65) X dX2_gather_65 ?_
  refine to_aload_n (pc := 66) X dX2_gather_66 rfl ?_
  refine gfX2_1 (pc := 67) X wf_RX2_15 dX2_gather_67 ?_
  refine to_aload_n (pc := 70) X dX2_gather_70 rfl ?_
  refine gfX2_2 (pc := 71) X wf_RX2_19 dX2_gather_71 ?_
  refine to_zald (pc := 74) X dX2_gather_74 ?_
  refine to_if_eq (pc := 75) (tgt := 88) X dX2_gather_75 (by decide) ?_ ?_
  · exact to_cut [0, 1, 2, 3] (fun _ _ _ h => h)
  refine to_aload_n (pc := 78) X dX2_gather_78 rfl ?_
  refine to_dup (pc := 79) X dX2_gather_79 ?_
  refine gfX2_3 (pc := 80) X wf_RX2_23 dX2_gather_80 ?_
  refine to_iconst (pc := 83) X dX2_gather_83 (by decide) ?_
  refine to_iadd (pc := 84) X dX2_gather_84 ?_
  refine pfX2_3 (pc := 85) X wf_RX2_23 dX2_gather_85 ?_
  exact to_cut [0, 1, 2, 3] (fun _ _ _ h => h)
def bkX2_gather_41 (P : Nat → tc_B) (q : tc_Q) : tc_B := tb_iast <| tb_aload 0 <| tb_getf 2 1 <| tb_aload 0 <| tb_getf 2 2 <| tb_aload 1 <| tb_getf 1 2 <| tb_iload 3 <| tb_iald <| tb_i 1 <| tb_icmp_ne (tb_i 0 <| tb_cut (P 65) [0, 1, 2, 3]) <| tb_i 1 <| tb_cut (P 65) [0, 1, 2, 3]
theorem okX2_gather_41 {Z : tc_Z} {q : tc_Q} (X : tc_Cx ({ frames := 3, cells := 0, slots := 0, locals := 69 } : Room) cX2_gather 4 RX2 Z) (hr : tc_Rt 3 cX2_gather 4 Z q) : tc_Ok 4 Z 41 (bkX2_gather_41 (tc_At 4 Z) q) := by
  unfold bkX2_gather_41
  refine to_iast (pc := 41) X dX2_gather_41 ?_
  refine to_aload_n (pc := 42) X dX2_gather_42 rfl ?_
  refine gfX2_1 (pc := 43) X wf_RX2_15 dX2_gather_43 ?_
  refine to_aload_n (pc := 46) X dX2_gather_46 rfl ?_
  refine gfX2_2 (pc := 47) X wf_RX2_19 dX2_gather_47 ?_
  refine to_aload_n (pc := 50) X dX2_gather_50 rfl ?_
  refine gfX1_2 (pc := 51) X wf_RX2_36 dX2_gather_51 ?_
  refine to_iload_n (pc := 54) X dX2_gather_54 rfl ?_
  refine to_iald (pc := 55) X dX2_gather_55 ?_
  refine to_iconst (pc := 56) X dX2_gather_56 (by decide) ?_
  refine to_icmp_ne (pc := 57) (tgt := 64) X dX2_gather_57 (by decide) ?_ ?_
  · refine to_iconst (pc := 64) X dX2_gather_64 (by decide) ?_
    exact to_cut [0, 1, 2, 3] (fun _ _ _ h => h)
  refine to_iconst (pc := 60) X dX2_gather_60 (by decide) ?_
  refine to_goto (pc := 61) (tgt := 65) X dX2_gather_61 (by decide) ?_
  exact to_cut [0, 1, 2, 3] (fun _ _ _ h => h)
def bkX2_gather_24 (P : Nat → tc_B) (q : tc_Q) : tc_B := tb_if_eq (tb_cut (P 98) [0, 1, 2, 3]) <| tb_aload 0 <| tb_getf 2 0 <| tb_aload 0 <| tb_getf 2 2 <| tb_aload 1 <| tb_iload 2 <| tb_iload 3 <| tb_callV 2 3 1 RX1_chanceOf <| bkX2_gather_41 P q
theorem okX2_gather_24 {Z : tc_Z} {q : tc_Q} (X : tc_Cx ({ frames := 3, cells := 0, slots := 0, locals := 69 } : Room) cX2_gather 4 RX2 Z) (hr : tc_Rt 3 cX2_gather 4 Z q) : tc_Ok 4 Z 24 (bkX2_gather_24 (tc_At 4 Z) q) := by
  unfold bkX2_gather_24
  refine to_if_eq (pc := 24) (tgt := 98) X dX2_gather_24 (by decide) ?_ ?_
  · exact to_cut [0, 1, 2, 3] (fun _ _ _ h => h)
  refine to_aload_n (pc := 27) X dX2_gather_27 rfl ?_
  refine gfX2_0 (pc := 28) X wf_RX2_9 dX2_gather_28 ?_
  refine to_aload_n (pc := 31) X dX2_gather_31 rfl ?_
  refine gfX2_2 (pc := 32) X wf_RX2_19 dX2_gather_32 ?_
  refine to_aload_n (pc := 35) X dX2_gather_35 rfl ?_
  refine to_iload_n (pc := 36) X dX2_gather_36 rfl ?_
  refine to_iload_n (pc := 37) X dX2_gather_37 rfl ?_
  refine cvX1_chanceOf (pc := 38) X wm_RX2_32 (by decide) dX2_gather_38 ?_
  exact okX2_gather_41 X hr
def bkX2_gather_12 (P : Nat → tc_B) (q : tc_Q) : tc_B := tb_iload 3 <| tb_i 40 <| tb_icmp_ge (tb_vret q) <| tb_aload 1 <| tb_iload 2 <| tb_iload 3 <| tb_callV 2 3 1 RX1_isCase <| bkX2_gather_24 P q
theorem okX2_gather_12 {Z : tc_Z} {q : tc_Q} (X : tc_Cx ({ frames := 3, cells := 0, slots := 0, locals := 69 } : Room) cX2_gather 4 RX2 Z) (hr : tc_Rt 3 cX2_gather 4 Z q) : tc_Ok 4 Z 12 (bkX2_gather_12 (tc_At 4 Z) q) := by
  unfold bkX2_gather_12
  refine to_iload_n (pc := 12) X dX2_gather_12 rfl ?_
  refine to_bipush (pc := 13) X dX2_gather_13 (by decide) ?_
  refine to_icmp_ge (pc := 15) (tgt := 104) X dX2_gather_15 (by decide) ?_ ?_
  · exact to_vret (pc := 104) hr dX2_gather_104
  refine to_aload_n (pc := 18) X dX2_gather_18 rfl ?_
  refine to_iload_n (pc := 19) X dX2_gather_19 rfl ?_
  refine to_iload_n (pc := 20) X dX2_gather_20 rfl ?_
  refine cvX1_isCase (pc := 21) X wm_RX2_26 (by decide) dX2_gather_21 ?_
  exact okX2_gather_24 X hr
def bkX2_gather_0 (P : Nat → tc_B) (q : tc_Q) : tc_B := tb_aload 0 <| tb_i 0 <| tb_putI 2 2 <| tb_aload 0 <| tb_i 0 <| tb_putI 2 3 <| tb_i 0 <| tb_istore 3 <| tb_cut (P 12) [0, 1, 2, 3]
theorem okX2_gather_0 {Z : tc_Z} {q : tc_Q} (X : tc_Cx ({ frames := 3, cells := 0, slots := 0, locals := 69 } : Room) cX2_gather 4 RX2 Z) (hr : tc_Rt 3 cX2_gather 4 Z q) : tc_Ok 4 Z 0 (bkX2_gather_0 (tc_At 4 Z) q) := by
  unfold bkX2_gather_0
  refine to_aload_n (pc := 0) X dX2_gather_0 rfl ?_
  refine to_iconst (pc := 1) X dX2_gather_1 (by decide) ?_
  refine pfX2_2 (pc := 2) X wf_RX2_19 dX2_gather_2 ?_
  refine to_aload_n (pc := 5) X dX2_gather_5 rfl ?_
  refine to_iconst (pc := 6) X dX2_gather_6 (by decide) ?_
  refine pfX2_3 (pc := 7) X wf_RX2_23 dX2_gather_7 ?_
  refine to_iconst (pc := 10) X dX2_gather_10 (by decide) ?_
  refine to_istore_n (pc := 11) X dX2_gather_11 rfl (by decide) ?_
  exact to_cut [0, 1, 2, 3] (fun _ _ _ h => h)
def RX2_gather (vs : List tc_V) (S : tc_S) (q : tc_Q) : Prop := ∀ P : Nat → tc_B, (∀ L K S, bkX2_gather_12 P q L K S → P 12 L K S) → (∀ L K S, bkX2_gather_65 P q L K S → P 65 L K S) → (∀ L K S, bkX2_gather_88 P q L K S → P 88 L K S) → (∀ L K S, bkX2_gather_98 P q L K S → P 98 L K S) → bkX2_gather_0 P q (tc_num 0 vs) [] S
theorem metX2_gather : tc_Met yX2_gather (Cond.code yX2_gather cX2_gather 4 none) ({ frames := 3, cells := 0, slots := 0, locals := 69 } : Room) 3 4 RX2_gather := tc_met (rk := 3) (by decide) ⟨rfl, rfl⟩ (fun Z q X hr vs S h => okX2_gather_0 X hr _ _ _ (h (tc_At 4 Z) (okX2_gather_12 X hr) (okX2_gather_65 X hr) (okX2_gather_88 X hr) (okX2_gather_98 X hr)))
theorem cvX2_gather {R : Room} {cc : ByteArray} {nL pc ix : Nat} {own : String} {Z : tc_Z} {k : tc_B} (X : tc_Cx R cc nL own Z) (h1 : Cond.methodLink own ix yX2_gather ∈ tc_tb) (hR : 3 + 1 ≤ R.frames ∧ 8 + (4 + 11) + 69 ≤ R.locals) (hd : decode cc pc = .ok (.invokevirtual ix, 3)) (h : tc_Ok nL Z (pc + 3) k) : tc_Ok nL Z pc (tb_callV 2 4 2 RX2_gather k) := to_callV X metX2_gather rfl ⟨rfl, rfl⟩ hR h1 wi_X2_gather wl_X2_gather wn_RX2 wc_X2_gather ⟨by decide +kernel, by decide +kernel, by decide +kernel, by decide +kernel⟩ hd h
def bkX8_missOf_12 (P : Nat → tc_B) (q : tc_Q) : tc_B := tb_istore 3 <| tb_aload 0 <| tb_gets (tc_R 1 0) <| tb_acmpR (tb_aload 0 <| tb_gets (tc_R 1 1) <| tb_acmpR (tb_aload 0 <| tb_gets (tc_R 1 3) <| tb_acmpR (tb_iload 3 <| tb_i 50 <| tb_icmp_ne (tb_iload 3 <| tb_i 50 <| tb_icmp_le (tb_i 0 <| tb_iret q) <| tb_i 100 <| tb_iret q) <| tb_i 50 <| tb_iret q) <| tb_iload 3 <| tb_iload 3 <| tb_imul <| tb_iload 3 <| tb_imul <| tb_iret q) <| tb_iload 3 <| tb_iret q) <| tb_iload 3 <| tb_iload 3 <| tb_imul <| tb_iret q
theorem okX8_missOf_12 {Z : tc_Z} {q : tc_Q} (X : tc_Cx ({ frames := 0, cells := 0, slots := 0, locals := 0 } : Room) cX8_missOf 4 RX8 Z) (hr : tc_Rt 0 cX8_missOf 4 Z q) : tc_Ok 4 Z 12 (bkX8_missOf_12 (tc_At 4 Z) q) := by
  unfold bkX8_missOf_12
  refine to_istore_n (pc := 12) X dX8_missOf_12 rfl (by decide) ?_
  refine to_aload_n (pc := 13) X dX8_missOf_13 rfl ?_
  refine to_gets (pc := 14) X (List.mem_of_getElem? (i := 0) rfl) wf_RX8_5 dX8_missOf_14 ?_
  refine to_acmpR (pc := 17) (tgt := 24) X dX8_missOf_17 (by decide) ?_ ?_
  · refine to_aload_n (pc := 24) X dX8_missOf_24 rfl ?_
    refine to_gets (pc := 25) X (List.mem_of_getElem? (i := 1) rfl) wf_RX8_9 dX8_missOf_25 ?_
    refine to_acmpR (pc := 28) (tgt := 33) X dX8_missOf_28 (by decide) ?_ ?_
    · refine to_aload_n (pc := 33) X dX8_missOf_33 rfl ?_
      refine to_gets (pc := 34) X (List.mem_of_getElem? (i := 3) rfl) wf_RX8_15 dX8_missOf_34 ?_
      refine to_acmpR (pc := 37) (tgt := 46) X dX8_missOf_37 (by decide) ?_ ?_
      · refine to_iload_n (pc := 46) X dX8_missOf_46 rfl ?_
        refine to_bipush (pc := 47) X dX8_missOf_47 (by decide) ?_
        refine to_icmp_ne (pc := 49) (tgt := 55) X dX8_missOf_49 (by decide) ?_ ?_
        · refine to_iload_n (pc := 55) X dX8_missOf_55 rfl ?_
          refine to_bipush (pc := 56) X dX8_missOf_56 (by decide) ?_
          refine to_icmp_le (pc := 58) (tgt := 66) X dX8_missOf_58 (by decide) ?_ ?_
          · refine to_iconst (pc := 66) X dX8_missOf_66 (by decide) ?_
            exact to_iret (pc := 67) hr dX8_missOf_67
          refine to_bipush (pc := 61) X dX8_missOf_61 (by decide) ?_
          refine to_goto (pc := 63) (tgt := 67) X dX8_missOf_63 (by decide) ?_
          exact to_iret (pc := 67) hr dX8_missOf_67
        refine to_bipush (pc := 52) X dX8_missOf_52 (by decide) ?_
        exact to_iret (pc := 54) hr dX8_missOf_54
      refine to_iload_n (pc := 40) X dX8_missOf_40 rfl ?_
      refine to_iload_n (pc := 41) X dX8_missOf_41 rfl ?_
      refine to_imul (pc := 42) X dX8_missOf_42 ?_
      refine to_iload_n (pc := 43) X dX8_missOf_43 rfl ?_
      refine to_imul (pc := 44) X dX8_missOf_44 ?_
      exact to_iret (pc := 45) hr dX8_missOf_45
    refine to_iload_n (pc := 31) X dX8_missOf_31 rfl ?_
    exact to_iret (pc := 32) hr dX8_missOf_32
  refine to_iload_n (pc := 20) X dX8_missOf_20 rfl ?_
  refine to_iload_n (pc := 21) X dX8_missOf_21 rfl ?_
  refine to_imul (pc := 22) X dX8_missOf_22 ?_
  exact to_iret (pc := 23) hr dX8_missOf_23
def bkX8_missOf_0 (P : Nat → tc_B) (q : tc_Q) : tc_B := tb_iload 2 <| tb_if_eq (tb_iload 1 <| tb_cut (P 12) [0]) <| tb_i 100 <| tb_iload 1 <| tb_isub <| tb_cut (P 12) [0]
theorem okX8_missOf_0 {Z : tc_Z} {q : tc_Q} (X : tc_Cx ({ frames := 0, cells := 0, slots := 0, locals := 0 } : Room) cX8_missOf 4 RX8 Z) (hr : tc_Rt 0 cX8_missOf 4 Z q) : tc_Ok 4 Z 0 (bkX8_missOf_0 (tc_At 4 Z) q) := by
  unfold bkX8_missOf_0
  refine to_iload_n (pc := 0) X dX8_missOf_0 rfl ?_
  refine to_if_eq (pc := 1) (tgt := 11) X dX8_missOf_1 (by decide) ?_ ?_
  · refine to_iload_n (pc := 11) X dX8_missOf_11 rfl ?_
    exact to_cut [0] (fun _ _ _ h => h)
  refine to_bipush (pc := 4) X dX8_missOf_4 (by decide) ?_
  refine to_iload_n (pc := 6) X dX8_missOf_6 rfl ?_
  refine to_isub (pc := 7) X dX8_missOf_7 ?_
  refine to_goto (pc := 8) (tgt := 12) X dX8_missOf_8 (by decide) ?_
  exact to_cut [0] (fun _ _ _ h => h)
def RX8_missOf (vs : List tc_V) (S : tc_S) (q : tc_Q) : Prop := ∀ P : Nat → tc_B, (∀ L K S, bkX8_missOf_12 P q L K S → P 12 L K S) → bkX8_missOf_0 P q (tc_num 0 vs) [] S
theorem metX8_missOf : tc_Met yX8_missOf (Cond.code yX8_missOf cX8_missOf 4 (some .int)) ({ frames := 0, cells := 0, slots := 0, locals := 0 } : Room) 0 4 RX8_missOf := tc_met (rk := 0) (by decide) ⟨rfl, rfl⟩ (fun Z q X hr vs S h => okX8_missOf_0 X hr _ _ _ (h (tc_At 4 Z) (okX8_missOf_12 X hr)))
theorem cvX8_missOf {R : Room} {cc : ByteArray} {nL pc ix : Nat} {own : String} {Z : tc_Z} {k : tc_B} (X : tc_Cx R cc nL own Z) (h1 : Cond.methodLink own ix yX8_missOf ∈ tc_tb) (hR : 0 + 1 ≤ R.frames ∧ 8 + (4 + 11) + 0 ≤ R.locals) (hd : decode cc pc = .ok (.invokevirtual ix, 3)) (h : tc_Ok nL Z (pc + 3) k) : tc_Ok nL Z pc (tb_callE 2 4 1 4 RX8_missOf k) := to_callE X metX8_missOf (Or.inl ⟨rfl, rfl, rfl⟩) ⟨rfl, rfl⟩ hR h1 wi_X8_missOf wl_X8_missOf wn_RX8 wc_X8_missOf ⟨by decide +kernel, by decide +kernel, by decide +kernel, by decide +kernel⟩ hd h
def bkX2_missSum_33 (P : Nat → tc_B) (q : tc_Q) : tc_B := tb_i2l <| tb_ladd <| tb_lstore 2 <| tb_iinc 4 1 <| tb_cut (P 5) [0, 1, 2, 4]
theorem okX2_missSum_33 {Z : tc_Z} {q : tc_Q} (X : tc_Cx ({ frames := 1, cells := 0, slots := 0, locals := 23 } : Room) cX2_missSum 5 RX2 Z) (hr : tc_Rt 2 cX2_missSum 5 Z q) : tc_Ok 5 Z 33 (bkX2_missSum_33 (tc_At 5 Z) q) := by
  unfold bkX2_missSum_33
  refine to_i2l (pc := 33) X dX2_missSum_33 ?_
  refine to_ladd (pc := 34) X dX2_missSum_34 ?_
  refine to_lstore_n (pc := 35) X dX2_missSum_35 rfl (by decide) ?_
  refine to_iinc (pc := 36) X dX2_missSum_36 (by decide) (by decide) ?_
  refine to_goto (pc := 39) (tgt := 5) X dX2_missSum_39 (by decide) ?_
  exact to_cut [0, 1, 2, 4] (fun _ _ _ h => h)
def bkX2_missSum_5 (P : Nat → tc_B) (q : tc_Q) : tc_B := tb_iload 4 <| tb_aload 0 <| tb_getf 2 2 <| tb_icmp_ge (tb_lload 2 <| tb_jret q) <| tb_lload 2 <| tb_aload 1 <| tb_aload 0 <| tb_getf 2 0 <| tb_iload 4 <| tb_iald <| tb_aload 0 <| tb_getf 2 1 <| tb_iload 4 <| tb_zald <| tb_callE 2 4 1 4 RX8_missOf <| bkX2_missSum_33 P q
theorem okX2_missSum_5 {Z : tc_Z} {q : tc_Q} (X : tc_Cx ({ frames := 1, cells := 0, slots := 0, locals := 23 } : Room) cX2_missSum 5 RX2 Z) (hr : tc_Rt 2 cX2_missSum 5 Z q) : tc_Ok 5 Z 5 (bkX2_missSum_5 (tc_At 5 Z) q) := by
  unfold bkX2_missSum_5
  refine to_iload (pc := 5) X dX2_missSum_5 ?_
  refine to_aload_n (pc := 7) X dX2_missSum_7 rfl ?_
  refine gfX2_2 (pc := 8) X wf_RX2_19 dX2_missSum_8 ?_
  refine to_icmp_ge (pc := 11) (tgt := 42) X dX2_missSum_11 (by decide) ?_ ?_
  · refine to_lload_n (pc := 42) X dX2_missSum_42 rfl ?_
    exact to_jret (pc := 43) hr dX2_missSum_43
  refine to_lload_n (pc := 14) X dX2_missSum_14 rfl ?_
  refine to_aload_n (pc := 15) X dX2_missSum_15 rfl ?_
  refine to_aload_n (pc := 16) X dX2_missSum_16 rfl ?_
  refine gfX2_0 (pc := 17) X wf_RX2_9 dX2_missSum_17 ?_
  refine to_iload (pc := 20) X dX2_missSum_20 ?_
  refine to_iald (pc := 22) X dX2_missSum_22 ?_
  refine to_aload_n (pc := 23) X dX2_missSum_23 rfl ?_
  refine gfX2_1 (pc := 24) X wf_RX2_15 dX2_missSum_24 ?_
  refine to_iload (pc := 27) X dX2_missSum_27 ?_
  refine to_zald (pc := 29) X dX2_missSum_29 ?_
  refine cvX8_missOf (pc := 30) X wm_RX2_39 (by decide) dX2_missSum_30 ?_
  exact okX2_missSum_33 X hr
def bkX2_missSum_0 (P : Nat → tc_B) (q : tc_Q) : tc_B := tb_j 0 <| tb_lstore 2 <| tb_i 0 <| tb_istore 4 <| tb_cut (P 5) [0, 1, 2, 4]
theorem okX2_missSum_0 {Z : tc_Z} {q : tc_Q} (X : tc_Cx ({ frames := 1, cells := 0, slots := 0, locals := 23 } : Room) cX2_missSum 5 RX2 Z) (hr : tc_Rt 2 cX2_missSum 5 Z q) : tc_Ok 5 Z 0 (bkX2_missSum_0 (tc_At 5 Z) q) := by
  unfold bkX2_missSum_0
  refine to_lconst (pc := 0) X dX2_missSum_0 (by decide) ?_
  refine to_lstore_n (pc := 1) X dX2_missSum_1 rfl (by decide) ?_
  refine to_iconst (pc := 2) X dX2_missSum_2 (by decide) ?_
  refine to_istore (pc := 3) X dX2_missSum_3 (by decide) ?_
  exact to_cut [0, 1, 2, 4] (fun _ _ _ h => h)
def RX2_missSum (vs : List tc_V) (S : tc_S) (q : tc_Q) : Prop := ∀ P : Nat → tc_B, (∀ L K S, bkX2_missSum_5 P q L K S → P 5 L K S) → bkX2_missSum_0 P q (tc_num 0 vs) [] S
theorem metX2_missSum : tc_Met yX2_missSum (Cond.code yX2_missSum cX2_missSum 5 (some .long)) ({ frames := 1, cells := 0, slots := 0, locals := 23 } : Room) 2 5 RX2_missSum := tc_met (rk := 2) (by decide) ⟨rfl, rfl⟩ (fun Z q X hr vs S h => okX2_missSum_0 X hr _ _ _ (h (tc_At 5 Z) (okX2_missSum_5 X hr)))
theorem cvX2_missSum {R : Room} {cc : ByteArray} {nL pc ix : Nat} {own : String} {Z : tc_Z} {k : tc_B} (X : tc_Cx R cc nL own Z) (h1 : Cond.methodLink own ix yX2_missSum ∈ tc_tb) (hR : 1 + 1 ≤ R.frames ∧ 8 + (5 + 11) + 23 ≤ R.locals) (hd : decode cc pc = .ok (.invokevirtual ix, 3)) (h : tc_Ok nL Z (pc + 3) k) : tc_Ok nL Z pc (tb_callV 1 5 2 RX2_missSum k) := to_callV X metX2_missSum rfl ⟨rfl, rfl⟩ hR h1 wi_X2_missSum wl_X2_missSum wn_RX2 wc_X2_missSum ⟨by decide +kernel, by decide +kernel, by decide +kernel, by decide +kernel⟩ hd h
def bkJ6_compare_7cf53_0 (P : Nat → tc_B) (q : tc_Q) : tc_B := tb_iload 0 <| tb_iload 1 <| tb_icmp_ge (tb_iload 0 <| tb_iload 1 <| tb_icmp_ne (tb_i 1 <| tb_iret q) <| tb_i 0 <| tb_iret q) <| tb_i (-1) <| tb_iret q
theorem okJ6_compare_7cf53_0 {Z : tc_Z} {q : tc_Q} (X : tc_Cx ({ frames := 0, cells := 0, slots := 0, locals := 0 } : Room) cJ6_compare_7cf53 2 RJ6 Z) (hr : tc_Rt 0 cJ6_compare_7cf53 2 Z q) : tc_Ok 2 Z 0 (bkJ6_compare_7cf53_0 (tc_At 2 Z) q) := by
  unfold bkJ6_compare_7cf53_0
  refine to_iload_n (pc := 0) X dJ6_compare_7cf53_0 rfl ?_
  refine to_iload_n (pc := 1) X dJ6_compare_7cf53_1 rfl ?_
  refine to_icmp_ge (pc := 2) (tgt := 9) X dJ6_compare_7cf53_2 (by decide) ?_ ?_
  · refine to_iload_n (pc := 9) X dJ6_compare_7cf53_9 rfl ?_
    refine to_iload_n (pc := 10) X dJ6_compare_7cf53_10 rfl ?_
    refine to_icmp_ne (pc := 11) (tgt := 18) X dJ6_compare_7cf53_11 (by decide) ?_ ?_
    · refine to_iconst (pc := 18) X dJ6_compare_7cf53_18 (by decide) ?_
      exact to_iret (pc := 19) hr dJ6_compare_7cf53_19
    refine to_iconst (pc := 14) X dJ6_compare_7cf53_14 (by decide) ?_
    refine to_goto (pc := 15) (tgt := 19) X dJ6_compare_7cf53_15 (by decide) ?_
    exact to_iret (pc := 19) hr dJ6_compare_7cf53_19
  refine to_iconst (pc := 5) X dJ6_compare_7cf53_5 (by decide) ?_
  refine to_goto (pc := 6) (tgt := 19) X dJ6_compare_7cf53_6 (by decide) ?_
  exact to_iret (pc := 19) hr dJ6_compare_7cf53_19
def RJ6_compare_7cf53 (vs : List tc_V) (S : tc_S) (q : tc_Q) : Prop := ∀ P : Nat → tc_B, bkJ6_compare_7cf53_0 P q (tc_num 0 vs) [] S
theorem metJ6_compare_7cf53 : tc_Met yJ6_compare_7cf53 (Cond.code yJ6_compare_7cf53 cJ6_compare_7cf53 2 (some .int)) ({ frames := 0, cells := 0, slots := 0, locals := 0 } : Room) 0 2 RJ6_compare_7cf53 := tc_met (rk := 0) (by decide) ⟨rfl, rfl⟩ (fun Z q X hr vs S h => okJ6_compare_7cf53_0 X hr _ _ _ (h (tc_At 2 Z)))
theorem cvJ6_compare_7cf53 {R : Room} {cc : ByteArray} {nL pc ix : Nat} {own : String} {Z : tc_Z} {k : tc_B} (X : tc_Cx R cc nL own Z) (h1 : Cond.methodLink own ix yJ6_compare_7cf53 ∈ tc_tb) (hR : 0 + 1 ≤ R.frames ∧ 8 + (2 + 11) + 0 ≤ R.locals) (hd : decode cc pc = .ok (.invokestatic ix, 3)) (h : tc_Ok nL Z (pc + 3) k) : tc_Ok nL Z pc (tb_callS 2 2 RJ6_compare_7cf53 k) := to_callS X metJ6_compare_7cf53 ⟨rfl, rfl⟩ hR h1 ws_J6_compare_7cf53 wn_RJ6 wc_J6_compare_7cf53 ⟨by decide +kernel, by decide +kernel, by decide +kernel⟩ hd h
def bkX2_halvesWellRanked_65 (P : Nat → tc_B) (q : tc_Q) : tc_B := tb_iinc 4 1 <| tb_cut (P 15) [0, 1, 3, 4]
theorem okX2_halvesWellRanked_65 {Z : tc_Z} {q : tc_Q} (X : tc_Cx ({ frames := 1, cells := 0, slots := 0, locals := 21 } : Room) cX2_halvesWellRanked 5 RX2 Z) (hr : tc_Rt 2 cX2_halvesWellRanked 5 Z q) : tc_Ok 5 Z 65 (bkX2_halvesWellRanked_65 (tc_At 5 Z) q) := by
  unfold bkX2_halvesWellRanked_65
  refine to_iinc (pc := 65) X dX2_halvesWellRanked_65 (by decide) (by decide) ?_
  refine to_goto (pc := 68) (tgt := 15) X dX2_halvesWellRanked_68 (by decide) ?_
  exact to_cut [0, 1, 3, 4] (fun _ _ _ h => h)
def bkX2_halvesWellRanked_61 (P : Nat → tc_B) (q : tc_Q) : tc_B := tb_iadd <| tb_i2l <| tb_ladd <| tb_lstore 1 <| tb_cut (P 65) [0, 1, 3, 4]
theorem okX2_halvesWellRanked_61 {Z : tc_Z} {q : tc_Q} (X : tc_Cx ({ frames := 1, cells := 0, slots := 0, locals := 21 } : Room) cX2_halvesWellRanked 5 RX2 Z) (hr : tc_Rt 2 cX2_halvesWellRanked 5 Z q) : tc_Ok 5 Z 61 (bkX2_halvesWellRanked_61 (tc_At 5 Z) q) := by
  unfold bkX2_halvesWellRanked_61
  refine to_iadd (pc := 61) X dX2_halvesWellRanked_61 ?_
  refine to_i2l (pc := 62) X dX2_halvesWellRanked_62 ?_
  refine to_ladd (pc := 63) X dX2_halvesWellRanked_63 ?_
  refine to_lstore_n (pc := 64) X dX2_halvesWellRanked_64 rfl (by decide) ?_
  exact to_cut [0, 1, 3, 4] (fun _ _ _ h => h)
def bkX2_halvesWellRanked_15 (P : Nat → tc_B) (q : tc_Q) : tc_B := tb_iload 4 <| tb_aload 0 <| tb_getf 2 2 <| tb_icmp_ge (tb_iinc 3 1 <| tb_cut (P 4) [0, 1, 3]) <| tb_aload 0 <| tb_getf 2 1 <| tb_iload 3 <| tb_zald <| tb_if_eq (tb_cut (P 65) [0, 1, 3, 4]) <| tb_aload 0 <| tb_getf 2 1 <| tb_iload 4 <| tb_zald <| tb_if_ne (tb_cut (P 65) [0, 1, 3, 4]) <| tb_lload 1 <| tb_i 1 <| tb_aload 0 <| tb_getf 2 0 <| tb_iload 3 <| tb_iald <| tb_aload 0 <| tb_getf 2 0 <| tb_iload 4 <| tb_iald <| tb_callS 2 2 RJ6_compare_7cf53 <| bkX2_halvesWellRanked_61 P q
theorem okX2_halvesWellRanked_15 {Z : tc_Z} {q : tc_Q} (X : tc_Cx ({ frames := 1, cells := 0, slots := 0, locals := 21 } : Room) cX2_halvesWellRanked 5 RX2 Z) (hr : tc_Rt 2 cX2_halvesWellRanked 5 Z q) : tc_Ok 5 Z 15 (bkX2_halvesWellRanked_15 (tc_At 5 Z) q) := by
  unfold bkX2_halvesWellRanked_15
  refine to_iload (pc := 15) X dX2_halvesWellRanked_15 ?_
  refine to_aload_n (pc := 17) X dX2_halvesWellRanked_17 rfl ?_
  refine gfX2_2 (pc := 18) X wf_RX2_19 dX2_halvesWellRanked_18 ?_
  refine to_icmp_ge (pc := 21) (tgt := 71) X dX2_halvesWellRanked_21 (by decide) ?_ ?_
  · refine to_iinc (pc := 71) X dX2_halvesWellRanked_71 (by decide) (by decide) ?_
    refine to_goto (pc := 74) (tgt := 4) X dX2_halvesWellRanked_74 (by decide) ?_
    exact to_cut [0, 1, 3] (fun _ _ _ h => h)
  refine to_aload_n (pc := 24) X dX2_halvesWellRanked_24 rfl ?_
  refine gfX2_1 (pc := 25) X wf_RX2_15 dX2_halvesWellRanked_25 ?_
  refine to_iload_n (pc := 28) X dX2_halvesWellRanked_28 rfl ?_
  refine to_zald (pc := 29) X dX2_halvesWellRanked_29 ?_
  refine to_if_eq (pc := 30) (tgt := 65) X dX2_halvesWellRanked_30 (by decide) ?_ ?_
  · exact to_cut [0, 1, 3, 4] (fun _ _ _ h => h)
  refine to_aload_n (pc := 33) X dX2_halvesWellRanked_33 rfl ?_
  refine gfX2_1 (pc := 34) X wf_RX2_15 dX2_halvesWellRanked_34 ?_
  refine to_iload (pc := 37) X dX2_halvesWellRanked_37 ?_
  refine to_zald (pc := 39) X dX2_halvesWellRanked_39 ?_
  refine to_if_ne (pc := 40) (tgt := 65) X dX2_halvesWellRanked_40 (by decide) ?_ ?_
  · exact to_cut [0, 1, 3, 4] (fun _ _ _ h => h)
  refine to_lload_n (pc := 43) X dX2_halvesWellRanked_43 rfl ?_
  refine to_iconst (pc := 44) X dX2_halvesWellRanked_44 (by decide) ?_
  refine to_aload_n (pc := 45) X dX2_halvesWellRanked_45 rfl ?_
  refine gfX2_0 (pc := 46) X wf_RX2_9 dX2_halvesWellRanked_46 ?_
  refine to_iload_n (pc := 49) X dX2_halvesWellRanked_49 rfl ?_
  refine to_iald (pc := 50) X dX2_halvesWellRanked_50 ?_
  refine to_aload_n (pc := 51) X dX2_halvesWellRanked_51 rfl ?_
  refine gfX2_0 (pc := 52) X wf_RX2_9 dX2_halvesWellRanked_52 ?_
  refine to_iload (pc := 55) X dX2_halvesWellRanked_55 ?_
  refine to_iald (pc := 57) X dX2_halvesWellRanked_57 ?_
  refine cvJ6_compare_7cf53 (pc := 58) X wm_RX2_45 (by decide) dX2_halvesWellRanked_58 ?_
  exact okX2_halvesWellRanked_61 X hr
def bkX2_halvesWellRanked_4 (P : Nat → tc_B) (q : tc_Q) : tc_B := tb_iload 3 <| tb_aload 0 <| tb_getf 2 2 <| tb_icmp_ge (tb_lload 1 <| tb_jret q) <| tb_i 0 <| tb_istore 4 <| tb_cut (P 15) [0, 1, 3, 4]
theorem okX2_halvesWellRanked_4 {Z : tc_Z} {q : tc_Q} (X : tc_Cx ({ frames := 1, cells := 0, slots := 0, locals := 21 } : Room) cX2_halvesWellRanked 5 RX2 Z) (hr : tc_Rt 2 cX2_halvesWellRanked 5 Z q) : tc_Ok 5 Z 4 (bkX2_halvesWellRanked_4 (tc_At 5 Z) q) := by
  unfold bkX2_halvesWellRanked_4
  refine to_iload_n (pc := 4) X dX2_halvesWellRanked_4 rfl ?_
  refine to_aload_n (pc := 5) X dX2_halvesWellRanked_5 rfl ?_
  refine gfX2_2 (pc := 6) X wf_RX2_19 dX2_halvesWellRanked_6 ?_
  refine to_icmp_ge (pc := 9) (tgt := 77) X dX2_halvesWellRanked_9 (by decide) ?_ ?_
  · refine to_lload_n (pc := 77) X dX2_halvesWellRanked_77 rfl ?_
    exact to_jret (pc := 78) hr dX2_halvesWellRanked_78
  refine to_iconst (pc := 12) X dX2_halvesWellRanked_12 (by decide) ?_
  refine to_istore (pc := 13) X dX2_halvesWellRanked_13 (by decide) ?_
  exact to_cut [0, 1, 3, 4] (fun _ _ _ h => h)
def bkX2_halvesWellRanked_0 (P : Nat → tc_B) (q : tc_Q) : tc_B := tb_j 0 <| tb_lstore 1 <| tb_i 0 <| tb_istore 3 <| tb_cut (P 4) [0, 1, 3]
theorem okX2_halvesWellRanked_0 {Z : tc_Z} {q : tc_Q} (X : tc_Cx ({ frames := 1, cells := 0, slots := 0, locals := 21 } : Room) cX2_halvesWellRanked 5 RX2 Z) (hr : tc_Rt 2 cX2_halvesWellRanked 5 Z q) : tc_Ok 5 Z 0 (bkX2_halvesWellRanked_0 (tc_At 5 Z) q) := by
  unfold bkX2_halvesWellRanked_0
  refine to_lconst (pc := 0) X dX2_halvesWellRanked_0 (by decide) ?_
  refine to_lstore_n (pc := 1) X dX2_halvesWellRanked_1 rfl (by decide) ?_
  refine to_iconst (pc := 2) X dX2_halvesWellRanked_2 (by decide) ?_
  refine to_istore_n (pc := 3) X dX2_halvesWellRanked_3 rfl (by decide) ?_
  exact to_cut [0, 1, 3] (fun _ _ _ h => h)
def RX2_halvesWellRanked (vs : List tc_V) (S : tc_S) (q : tc_Q) : Prop := ∀ P : Nat → tc_B, (∀ L K S, bkX2_halvesWellRanked_4 P q L K S → P 4 L K S) → (∀ L K S, bkX2_halvesWellRanked_15 P q L K S → P 15 L K S) → (∀ L K S, bkX2_halvesWellRanked_65 P q L K S → P 65 L K S) → bkX2_halvesWellRanked_0 P q (tc_num 0 vs) [] S
theorem metX2_halvesWellRanked : tc_Met yX2_halvesWellRanked (Cond.code yX2_halvesWellRanked cX2_halvesWellRanked 5 (some .long)) ({ frames := 1, cells := 0, slots := 0, locals := 21 } : Room) 2 5 RX2_halvesWellRanked := tc_met (rk := 2) (by decide) ⟨rfl, rfl⟩ (fun Z q X hr vs S h => okX2_halvesWellRanked_0 X hr _ _ _ (h (tc_At 5 Z) (okX2_halvesWellRanked_4 X hr) (okX2_halvesWellRanked_15 X hr) (okX2_halvesWellRanked_65 X hr)))
theorem cvX2_halvesWellRanked {R : Room} {cc : ByteArray} {nL pc ix : Nat} {own : String} {Z : tc_Z} {k : tc_B} (X : tc_Cx R cc nL own Z) (h1 : Cond.methodLink own ix yX2_halvesWellRanked ∈ tc_tb) (hR : 1 + 1 ≤ R.frames ∧ 8 + (5 + 11) + 21 ≤ R.locals) (hd : decode cc pc = .ok (.invokevirtual ix, 3)) (h : tc_Ok nL Z (pc + 3) k) : tc_Ok nL Z pc (tb_callV 0 5 2 RX2_halvesWellRanked k) := to_callV X metX2_halvesWellRanked rfl ⟨rfl, rfl⟩ hR h1 wi_X2_halvesWellRanked wl_X2_halvesWellRanked wn_RX2 wc_X2_halvesWellRanked ⟨by decide +kernel, by decide +kernel, by decide +kernel, by decide +kernel⟩ hd h
def bkX3_greatest_0 (P : Nat → tc_B) (q : tc_Q) : tc_B := tb_iload 1 <| tb_if_ne (tb_iload 1 <| tb_i 1 <| tb_icmp_ne (tb_aload 0 <| tb_getE 2 6 (fun i => tc_I ([100, 0, 0, 0, 0, 0].getD i 0)) <| tb_iret q) <| tb_aload 0 <| tb_getE 2 6 (fun i => tc_I ([39, 39, 0, 0, 0, 9].getD i 0)) <| tb_iret q) <| tb_aload 0 <| tb_getE 2 6 (fun i => tc_I ([3, 3, 39, 39, 39, 3].getD i 0)) <| tb_iret q
theorem okX3_greatest_0 {Z : tc_Z} {q : tc_Q} (X : tc_Cx ({ frames := 0, cells := 0, slots := 0, locals := 0 } : Room) cX3_greatest 2 RX3 Z) (hr : tc_Rt 0 cX3_greatest 2 Z q) : tc_Ok 2 Z 0 (bkX3_greatest_0 (tc_At 2 Z) q) := by
  unfold bkX3_greatest_0
  refine to_iload_n (pc := 0) X dX3_greatest_0 rfl ?_
  refine to_if_ne (pc := 1) (tgt := 11) X dX3_greatest_1 (by decide) ?_ ?_
  · refine to_iload_n (pc := 11) X dX3_greatest_11 rfl ?_
    refine to_iconst (pc := 12) X dX3_greatest_12 (by decide) ?_
    refine to_icmp_ne (pc := 13) (tgt := 23) X dX3_greatest_13 (by decide) ?_ ?_
    · refine to_aload_n (pc := 23) X dX3_greatest_23 rfl ?_
      refine to_getE (pc := 24) X (List.mem_of_getElem? (i := 6) rfl) wf_RX3_57 dX3_greatest_24 ?_
      exact to_iret (pc := 27) hr dX3_greatest_27
    refine to_aload_n (pc := 16) X dX3_greatest_16 rfl ?_
    refine to_getE (pc := 17) X (List.mem_of_getElem? (i := 5) rfl) wf_RX3_54 dX3_greatest_17 ?_
    refine to_goto (pc := 20) (tgt := 27) X dX3_greatest_20 (by decide) ?_
    exact to_iret (pc := 27) hr dX3_greatest_27
  refine to_aload_n (pc := 4) X dX3_greatest_4 rfl ?_
  refine to_getE (pc := 5) X (List.mem_of_getElem? (i := 4) rfl) wf_RX3_51 dX3_greatest_5 ?_
  refine to_goto (pc := 8) (tgt := 27) X dX3_greatest_8 (by decide) ?_
  exact to_iret (pc := 27) hr dX3_greatest_27
def RX3_greatest (vs : List tc_V) (S : tc_S) (q : tc_Q) : Prop := ∀ P : Nat → tc_B, bkX3_greatest_0 P q (tc_num 0 vs) [] S
theorem metX3_greatest : tc_Met yX3_greatest (Cond.code yX3_greatest cX3_greatest 2 (some .int)) ({ frames := 0, cells := 0, slots := 0, locals := 0 } : Room) 0 2 RX3_greatest := tc_met (rk := 0) (by decide) ⟨rfl, rfl⟩ (fun Z q X hr vs S h => okX3_greatest_0 X hr _ _ _ (h (tc_At 2 Z)))
theorem cvX3_greatest {R : Room} {cc : ByteArray} {nL pc ix : Nat} {own : String} {Z : tc_Z} {k : tc_B} (X : tc_Cx R cc nL own Z) (h1 : Cond.methodLink own ix yX3_greatest ∈ tc_tb) (hR : 0 + 1 ≤ R.frames ∧ 8 + (2 + 11) + 0 ≤ R.locals) (hd : decode cc pc = .ok (.invokevirtual ix, 3)) (h : tc_Ok nL Z (pc + 3) k) : tc_Ok nL Z pc (tb_callE 1 2 2 6 RX3_greatest k) := to_callE X metX3_greatest (Or.inr (Or.inl ⟨rfl, rfl, rfl⟩)) ⟨rfl, rfl⟩ hR h1 wi_X3_greatest wl_X3_greatest wn_RX3 wc_X3_greatest ⟨by decide +kernel, by decide +kernel, by decide +kernel, by decide +kernel⟩ hd h
def bkX4_pick_0 (P : Nat → tc_B) (q : tc_Q) : tc_B := tb_iload 1 <| tb_if_ne (tb_aload 0 <| tb_getf 3 1 <| tb_jret q) <| tb_aload 0 <| tb_getf 3 0 <| tb_jret q
theorem okX4_pick_0 {Z : tc_Z} {q : tc_Q} (X : tc_Cx ({ frames := 0, cells := 0, slots := 0, locals := 0 } : Room) cX4_pick 2 RX4 Z) (hr : tc_Rt 2 cX4_pick 2 Z q) : tc_Ok 2 Z 0 (bkX4_pick_0 (tc_At 2 Z) q) := by
  unfold bkX4_pick_0
  refine to_iload_n (pc := 0) X dX4_pick_0 rfl ?_
  refine to_if_ne (pc := 1) (tgt := 11) X dX4_pick_1 (by decide) ?_ ?_
  · refine to_aload_n (pc := 11) X dX4_pick_11 rfl ?_
    refine gfX4_1 (pc := 12) X wf_RX4_13 dX4_pick_12 ?_
    exact to_jret (pc := 15) hr dX4_pick_15
  refine to_aload_n (pc := 4) X dX4_pick_4 rfl ?_
  refine gfX4_0 (pc := 5) X wf_RX4_7 dX4_pick_5 ?_
  refine to_goto (pc := 8) (tgt := 15) X dX4_pick_8 (by decide) ?_
  exact to_jret (pc := 15) hr dX4_pick_15
def RX4_pick (vs : List tc_V) (S : tc_S) (q : tc_Q) : Prop := ∀ P : Nat → tc_B, bkX4_pick_0 P q (tc_num 0 vs) [] S
theorem metX4_pick : tc_Met yX4_pick (Cond.code yX4_pick cX4_pick 2 (some .long)) ({ frames := 0, cells := 0, slots := 0, locals := 0 } : Room) 2 2 RX4_pick := tc_met (rk := 2) (by decide) ⟨rfl, rfl⟩ (fun Z q X hr vs S h => okX4_pick_0 X hr _ _ _ (h (tc_At 2 Z)))
theorem cvX4_pick {R : Room} {cc : ByteArray} {nL pc ix : Nat} {own : String} {Z : tc_Z} {k : tc_B} (X : tc_Cx R cc nL own Z) (h1 : Cond.methodLink own ix yX4_pick ∈ tc_tb) (hR : 0 + 1 ≤ R.frames ∧ 8 + (2 + 11) + 0 ≤ R.locals) (hd : decode cc pc = .ok (.invokevirtual ix, 3)) (h : tc_Ok nL Z (pc + 3) k) : tc_Ok nL Z pc (tb_callV 1 2 3 RX4_pick k) := to_callV X metX4_pick rfl ⟨rfl, rfl⟩ hR h1 wi_X4_pick wl_X4_pick wn_RX4 wc_X4_pick ⟨by decide +kernel, by decide +kernel, by decide +kernel, by decide +kernel⟩ hd h
end
