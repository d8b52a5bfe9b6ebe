section
-- ===== PART A: goes FIRST, ahead of the names: the tables' words, and 'selects' of the private methods out of them =====
/-- a private method of a class that the tables say can be made, by its rows of tables_1 -/
def lw_okq (q : MethodName × Nat) : Prop := (q.1.cls ≠ "java/lang/invoke/MethodHandle" ∧ q.1.cls ≠ "java/lang/invoke/VarHandle") ∧ Cond.instantiable q.1.cls q.2 ∈ tables_1 ∧ Cond.privateMethod q.1 ∈ tables_1 ∧ Cond.instanceMethod q.1 ∈ tables_1
theorem lw_p0 : lw_okq (⟨"ContentsFinder", "allIsOld", "()V"⟩, 9) := ⟨⟨by decide +kernel, by decide +kernel⟩, List.mem_of_getElem? (i := 17) (by decide +kernel), List.mem_of_getElem? (i := 339) (by decide +kernel), List.mem_of_getElem? (i := 340) (by decide +kernel)⟩
theorem lw_p1 : lw_okq (⟨"ContentsFinder", "putMany", "(I)I"⟩, 9) := ⟨⟨by decide +kernel, by decide +kernel⟩, List.mem_of_getElem? (i := 17) (by decide +kernel), List.mem_of_getElem? (i := 396) (by decide +kernel), List.mem_of_getElem? (i := 397) (by decide +kernel)⟩
theorem lw_p2 : lw_okq (⟨"ContentsFinder", "freshTree", "()LContentsFinder$Tree;"⟩, 9) := ⟨⟨by decide +kernel, by decide +kernel⟩, List.mem_of_getElem? (i := 17) (by decide +kernel), List.mem_of_getElem? (i := 404) (by decide +kernel), List.mem_of_getElem? (i := 405) (by decide +kernel)⟩
theorem lw_p3 : lw_okq (⟨"ContentsFinder$Lines", "areAlike", "(II)Z"⟩, 9) := ⟨⟨by decide +kernel, by decide +kernel⟩, List.mem_of_getElem? (i := 68) (by decide +kernel), List.mem_of_getElem? (i := 416) (by decide +kernel), List.mem_of_getElem? (i := 417) (by decide +kernel)⟩
theorem lw_p4 : lw_okq (⟨"ContentsFinder$Tree", "findCapsBehind", "(I)V"⟩, 15) := ⟨⟨by decide +kernel, by decide +kernel⟩, List.mem_of_getElem? (i := 118) (by decide +kernel), List.mem_of_getElem? (i := 420) (by decide +kernel), List.mem_of_getElem? (i := 421) (by decide +kernel)⟩
theorem lw_p5 : lw_okq (⟨"ContentsFinder$Tree", "passLine", "(I)V"⟩, 15) := ⟨⟨by decide +kernel, by decide +kernel⟩, List.mem_of_getElem? (i := 118) (by decide +kernel), List.mem_of_getElem? (i := 431) (by decide +kernel), List.mem_of_getElem? (i := 432) (by decide +kernel)⟩
theorem lw_p6 : lw_okq (⟨"ContentsFinder$Tree", "offer", "(IIJ)V"⟩, 15) := ⟨⟨by decide +kernel, by decide +kernel⟩, List.mem_of_getElem? (i := 118) (by decide +kernel), List.mem_of_getElem? (i := 444) (by decide +kernel), List.mem_of_getElem? (i := 445) (by decide +kernel)⟩
theorem lw_p7 : lw_okq (⟨"ContentsFinder$Tree", "textCost", "(I)I"⟩, 15) := ⟨⟨by decide +kernel, by decide +kernel⟩, List.mem_of_getElem? (i := 118) (by decide +kernel), List.mem_of_getElem? (i := 448) (by decide +kernel), List.mem_of_getElem? (i := 449) (by decide +kernel)⟩
theorem lw_p8 : lw_okq (⟨"ContentsFinder$Tree", "headCost", "(II)I"⟩, 15) := ⟨⟨by decide +kernel, by decide +kernel⟩, List.mem_of_getElem? (i := 118) (by decide +kernel), List.mem_of_getElem? (i := 456) (by decide +kernel), List.mem_of_getElem? (i := 457) (by decide +kernel)⟩
theorem lw_p9 : lw_okq (⟨"ContentsFinder$Tree", "swapRows", "()V"⟩, 15) := ⟨⟨by decide +kernel, by decide +kernel⟩, List.mem_of_getElem? (i := 118) (by decide +kernel), List.mem_of_getElem? (i := 474) (by decide +kernel), List.mem_of_getElem? (i := 475) (by decide +kernel)⟩
theorem lw_p10 : lw_okq (⟨"ContentsFinder$Tree", "takeLeastKey", "()J"⟩, 15) := ⟨⟨by decide +kernel, by decide +kernel⟩, List.mem_of_getElem? (i := 118) (by decide +kernel), List.mem_of_getElem? (i := 478) (by decide +kernel), List.mem_of_getElem? (i := 479) (by decide +kernel)⟩
theorem lw_p11 : lw_okq (⟨"ContentsFinder$Tree", "tellLevels", "(J)V"⟩, 15) := ⟨⟨by decide +kernel, by decide +kernel⟩, List.mem_of_getElem? (i := 118) (by decide +kernel), List.mem_of_getElem? (i := 482) (by decide +kernel), List.mem_of_getElem? (i := 483) (by decide +kernel)⟩
theorem lw_p12 : lw_okq (⟨"ContentsFinder$Tree", "tellCounters", "()V"⟩, 15) := ⟨⟨by decide +kernel, by decide +kernel⟩, List.mem_of_getElem? (i := 118) (by decide +kernel), List.mem_of_getElem? (i := 487) (by decide +kernel), List.mem_of_getElem? (i := 488) (by decide +kernel)⟩
theorem lw_p13 : lw_okq (⟨"ContentsFinder", "freshListing", "()LContentsFinder$Listing;"⟩, 9) := ⟨⟨by decide +kernel, by decide +kernel⟩, List.mem_of_getElem? (i := 17) (by decide +kernel), List.mem_of_getElem? (i := 491) (by decide +kernel), List.mem_of_getElem? (i := 492) (by decide +kernel)⟩
theorem lw_p14 : lw_okq (⟨"ContentsFinder$Listing", "gatherHeads", "()V"⟩, 15) := ⟨⟨by decide +kernel, by decide +kernel⟩, List.mem_of_getElem? (i := 195) (by decide +kernel), List.mem_of_getElem? (i := 499) (by decide +kernel), List.mem_of_getElem? (i := 500) (by decide +kernel)⟩
theorem lw_p15 : lw_okq (⟨"ContentsFinder$Listing", "leastFrom", "(II)I"⟩, 15) := ⟨⟨by decide +kernel, by decide +kernel⟩, List.mem_of_getElem? (i := 195) (by decide +kernel), List.mem_of_getElem? (i := 503) (by decide +kernel), List.mem_of_getElem? (i := 504) (by decide +kernel)⟩
def lw_privs_1 : List (MethodName × Nat) := [(⟨"ContentsFinder", "allIsOld", "()V"⟩, 9), (⟨"ContentsFinder", "putMany", "(I)I"⟩, 9), (⟨"ContentsFinder", "freshTree", "()LContentsFinder$Tree;"⟩, 9), (⟨"ContentsFinder$Lines", "areAlike", "(II)Z"⟩, 9), (⟨"ContentsFinder$Tree", "findCapsBehind", "(I)V"⟩, 15), (⟨"ContentsFinder$Tree", "passLine", "(I)V"⟩, 15), (⟨"ContentsFinder$Tree", "offer", "(IIJ)V"⟩, 15), (⟨"ContentsFinder$Tree", "textCost", "(I)I"⟩, 15), (⟨"ContentsFinder$Tree", "headCost", "(II)I"⟩, 15), (⟨"ContentsFinder$Tree", "swapRows", "()V"⟩, 15), (⟨"ContentsFinder$Tree", "takeLeastKey", "()J"⟩, 15), (⟨"ContentsFinder$Tree", "tellLevels", "(J)V"⟩, 15), (⟨"ContentsFinder$Tree", "tellCounters", "()V"⟩, 15), (⟨"ContentsFinder", "freshListing", "()LContentsFinder$Listing;"⟩, 9), (⟨"ContentsFinder$Listing", "gatherHeads", "()V"⟩, 15), (⟨"ContentsFinder$Listing", "leastFrom", "(II)I"⟩, 15)]
theorem lw_r1 : ∀ q ∈ lw_privs_1, lw_okq q := List.forall_mem_cons.mpr ⟨lw_p0, List.forall_mem_cons.mpr ⟨lw_p1, List.forall_mem_cons.mpr ⟨lw_p2, List.forall_mem_cons.mpr ⟨lw_p3, List.forall_mem_cons.mpr ⟨lw_p4, List.forall_mem_cons.mpr ⟨lw_p5, List.forall_mem_cons.mpr ⟨lw_p6, List.forall_mem_cons.mpr ⟨lw_p7, List.forall_mem_cons.mpr ⟨lw_p8, List.forall_mem_cons.mpr ⟨lw_p9, List.forall_mem_cons.mpr ⟨lw_p10, List.forall_mem_cons.mpr ⟨lw_p11, List.forall_mem_cons.mpr ⟨lw_p12, List.forall_mem_cons.mpr ⟨lw_p13, List.forall_mem_cons.mpr ⟨lw_p14, List.forall_mem_cons.mpr ⟨lw_p15, fun _ h => absurd h List.not_mem_nil⟩⟩⟩⟩⟩⟩⟩⟩⟩⟩⟩⟩⟩⟩⟩⟩
theorem lw_p16 : lw_okq (⟨"ContentsFinder$Listing", "pairCost", "(II)I"⟩, 15) := ⟨⟨by decide +kernel, by decide +kernel⟩, List.mem_of_getElem? (i := 195) (by decide +kernel), List.mem_of_getElem? (i := 510) (by decide +kernel), List.mem_of_getElem? (i := 511) (by decide +kernel)⟩
theorem lw_p17 : lw_okq (⟨"ContentsFinder$Listing", "tellPartners", "()V"⟩, 15) := ⟨⟨by decide +kernel, by decide +kernel⟩, List.mem_of_getElem? (i := 195) (by decide +kernel), List.mem_of_getElem? (i := 518) (by decide +kernel), List.mem_of_getElem? (i := 519) (by decide +kernel)⟩
theorem lw_p18 : lw_okq (⟨"ContentsFinder$Listing", "firstCheapHead", "(II)I"⟩, 15) := ⟨⟨by decide +kernel, by decide +kernel⟩, List.mem_of_getElem? (i := 195) (by decide +kernel), List.mem_of_getElem? (i := 523) (by decide +kernel), List.mem_of_getElem? (i := 524) (by decide +kernel)⟩
theorem lw_p19 : lw_okq (⟨"ContentsFinder", "freshShifts", "()LContentsFinder$Shifts;"⟩, 9) := ⟨⟨by decide +kernel, by decide +kernel⟩, List.mem_of_getElem? (i := 17) (by decide +kernel), List.mem_of_getElem? (i := 527) (by decide +kernel), List.mem_of_getElem? (i := 528) (by decide +kernel)⟩
theorem lw_p20 : lw_okq (⟨"ContentsFinder$Shifts", "findFirstSpan", "(I)V"⟩, 10) := ⟨⟨by decide +kernel, by decide +kernel⟩, List.mem_of_getElem? (i := 255) (by decide +kernel), List.mem_of_getElem? (i := 535) (by decide +kernel), List.mem_of_getElem? (i := 536) (by decide +kernel)⟩
theorem lw_p21 : lw_okq (⟨"ContentsFinder$Shifts", "addTime", "(I)I"⟩, 10) := ⟨⟨by decide +kernel, by decide +kernel⟩, List.mem_of_getElem? (i := 255) (by decide +kernel), List.mem_of_getElem? (i := 540) (by decide +kernel), List.mem_of_getElem? (i := 541) (by decide +kernel)⟩
theorem lw_p22 : lw_okq (⟨"ContentsFinder$Shifts", "shiftPlace", "(I)I"⟩, 10) := ⟨⟨by decide +kernel, by decide +kernel⟩, List.mem_of_getElem? (i := 255) (by decide +kernel), List.mem_of_getElem? (i := 544) (by decide +kernel), List.mem_of_getElem? (i := 545) (by decide +kernel)⟩
theorem lw_p23 : lw_okq (⟨"ContentsFinder$Shifts", "forgetTimes", "(II)V"⟩, 10) := ⟨⟨by decide +kernel, by decide +kernel⟩, List.mem_of_getElem? (i := 255) (by decide +kernel), List.mem_of_getElem? (i := 549) (by decide +kernel), List.mem_of_getElem? (i := 550) (by decide +kernel)⟩
theorem lw_p24 : lw_okq (⟨"ContentsFinder$Shifts", "tellSpans", "()V"⟩, 10) := ⟨⟨by decide +kernel, by decide +kernel⟩, List.mem_of_getElem? (i := 255) (by decide +kernel), List.mem_of_getElem? (i := 553) (by decide +kernel), List.mem_of_getElem? (i := 554) (by decide +kernel)⟩
theorem lw_p25 : lw_okq (⟨"ContentsFinder$Shifts", "bestShift", "(II)I"⟩, 10) := ⟨⟨by decide +kernel, by decide +kernel⟩, List.mem_of_getElem? (i := 255) (by decide +kernel), List.mem_of_getElem? (i := 557) (by decide +kernel), List.mem_of_getElem? (i := 558) (by decide +kernel)⟩
theorem lw_p26 : lw_okq (⟨"java/lang/Throwable", "fillInStackTrace", "(I)Ljava/lang/Throwable;"⟩, 6) := ⟨⟨by decide +kernel, by decide +kernel⟩, List.mem_of_getElem? (i := 634) (by decide +kernel), List.mem_of_getElem? (i := 632) (by decide +kernel), List.mem_of_getElem? (i := 633) (by decide +kernel)⟩
theorem lw_p27 : lw_okq (⟨"ContentsFinderModel", "partsOf", "(I[II)I"⟩, 35) := ⟨⟨by decide +kernel, by decide +kernel⟩, List.mem_of_getElem? (i := 682) (by decide +kernel), List.mem_of_getElem? (i := 817) (by decide +kernel), List.mem_of_getElem? (i := 818) (by decide +kernel)⟩
theorem lw_p28 : lw_okq (⟨"ContentsFinderModel", "isLine", "(I)Z"⟩, 35) := ⟨⟨by decide +kernel, by decide +kernel⟩, List.mem_of_getElem? (i := 682) (by decide +kernel), List.mem_of_getElem? (i := 829) (by decide +kernel), List.mem_of_getElem? (i := 830) (by decide +kernel)⟩
theorem lw_p29 : lw_okq (⟨"ContentsFinderModel", "find", "()V"⟩, 35) := ⟨⟨by decide +kernel, by decide +kernel⟩, List.mem_of_getElem? (i := 682) (by decide +kernel), List.mem_of_getElem? (i := 857) (by decide +kernel), List.mem_of_getElem? (i := 858) (by decide +kernel)⟩
theorem lw_p30 : lw_okq (⟨"ContentsFinderModel", "findTree", "()V"⟩, 35) := ⟨⟨by decide +kernel, by decide +kernel⟩, List.mem_of_getElem? (i := 682) (by decide +kernel), List.mem_of_getElem? (i := 861) (by decide +kernel), List.mem_of_getElem? (i := 862) (by decide +kernel)⟩
theorem lw_p31 : lw_okq (⟨"ContentsFinderModel", "isRunning", "(I)Z"⟩, 35) := ⟨⟨by decide +kernel, by decide +kernel⟩, List.mem_of_getElem? (i := 682) (by decide +kernel), List.mem_of_getElem? (i := 865) (by decide +kernel), List.mem_of_getElem? (i := 866) (by decide +kernel)⟩
def lw_privs_2 : List (MethodName × Nat) := [(⟨"ContentsFinder$Listing", "pairCost", "(II)I"⟩, 15), (⟨"ContentsFinder$Listing", "tellPartners", "()V"⟩, 15), (⟨"ContentsFinder$Listing", "firstCheapHead", "(II)I"⟩, 15), (⟨"ContentsFinder", "freshShifts", "()LContentsFinder$Shifts;"⟩, 9), (⟨"ContentsFinder$Shifts", "findFirstSpan", "(I)V"⟩, 10), (⟨"ContentsFinder$Shifts", "addTime", "(I)I"⟩, 10), (⟨"ContentsFinder$Shifts", "shiftPlace", "(I)I"⟩, 10), (⟨"ContentsFinder$Shifts", "forgetTimes", "(II)V"⟩, 10), (⟨"ContentsFinder$Shifts", "tellSpans", "()V"⟩, 10), (⟨"ContentsFinder$Shifts", "bestShift", "(II)I"⟩, 10), (⟨"java/lang/Throwable", "fillInStackTrace", "(I)Ljava/lang/Throwable;"⟩, 6), (⟨"ContentsFinderModel", "partsOf", "(I[II)I"⟩, 35), (⟨"ContentsFinderModel", "isLine", "(I)Z"⟩, 35), (⟨"ContentsFinderModel", "find", "()V"⟩, 35), (⟨"ContentsFinderModel", "findTree", "()V"⟩, 35), (⟨"ContentsFinderModel", "isRunning", "(I)Z"⟩, 35)]
theorem lw_r2 : ∀ q ∈ lw_privs_2, lw_okq q := List.forall_mem_cons.mpr ⟨lw_p16, List.forall_mem_cons.mpr ⟨lw_p17, List.forall_mem_cons.mpr ⟨lw_p18, List.forall_mem_cons.mpr ⟨lw_p19, List.forall_mem_cons.mpr ⟨lw_p20, List.forall_mem_cons.mpr ⟨lw_p21, List.forall_mem_cons.mpr ⟨lw_p22, List.forall_mem_cons.mpr ⟨lw_p23, List.forall_mem_cons.mpr ⟨lw_p24, List.forall_mem_cons.mpr ⟨lw_p25, List.forall_mem_cons.mpr ⟨lw_p26, List.forall_mem_cons.mpr ⟨lw_p27, List.forall_mem_cons.mpr ⟨lw_p28, List.forall_mem_cons.mpr ⟨lw_p29, List.forall_mem_cons.mpr ⟨lw_p30, List.forall_mem_cons.mpr ⟨lw_p31, fun _ h => absurd h List.not_mem_nil⟩⟩⟩⟩⟩⟩⟩⟩⟩⟩⟩⟩⟩⟩⟩⟩
theorem lw_p32 : lw_okq (⟨"ContentsFinderModel", "areLike", "(II)Z"⟩, 35) := ⟨⟨by decide +kernel, by decide +kernel⟩, List.mem_of_getElem? (i := 682) (by decide +kernel), List.mem_of_getElem? (i := 869) (by decide +kernel), List.mem_of_getElem? (i := 870) (by decide +kernel)⟩
theorem lw_p33 : lw_okq (⟨"ContentsFinderModel", "leastFrom", "(II)I"⟩, 35) := ⟨⟨by decide +kernel, by decide +kernel⟩, List.mem_of_getElem? (i := 682) (by decide +kernel), List.mem_of_getElem? (i := 873) (by decide +kernel), List.mem_of_getElem? (i := 874) (by decide +kernel)⟩
theorem lw_p34 : lw_okq (⟨"ContentsFinderModel", "costWithLevel", "(III)I"⟩, 35) := ⟨⟨by decide +kernel, by decide +kernel⟩, List.mem_of_getElem? (i := 682) (by decide +kernel), List.mem_of_getElem? (i := 879) (by decide +kernel), List.mem_of_getElem? (i := 880) (by decide +kernel)⟩
theorem lw_p35 : lw_okq (⟨"ContentsFinderModel", "behind", "(III)I"⟩, 35) := ⟨⟨by decide +kernel, by decide +kernel⟩, List.mem_of_getElem? (i := 682) (by decide +kernel), List.mem_of_getElem? (i := 883) (by decide +kernel), List.mem_of_getElem? (i := 884) (by decide +kernel)⟩
theorem lw_p36 : lw_okq (⟨"ContentsFinderModel", "costOf", "(III)I"⟩, 35) := ⟨⟨by decide +kernel, by decide +kernel⟩, List.mem_of_getElem? (i := 682) (by decide +kernel), List.mem_of_getElem? (i := 890) (by decide +kernel), List.mem_of_getElem? (i := 891) (by decide +kernel)⟩
theorem lw_p37 : lw_okq (⟨"ContentsFinderModel", "look", "(I)I"⟩, 35) := ⟨⟨by decide +kernel, by decide +kernel⟩, List.mem_of_getElem? (i := 682) (by decide +kernel), List.mem_of_getElem? (i := 894) (by decide +kernel), List.mem_of_getElem? (i := 895) (by decide +kernel)⟩
theorem lw_p38 : lw_okq (⟨"ContentsFinderModel", "hold", "()V"⟩, 35) := ⟨⟨by decide +kernel, by decide +kernel⟩, List.mem_of_getElem? (i := 682) (by decide +kernel), List.mem_of_getElem? (i := 900) (by decide +kernel), List.mem_of_getElem? (i := 901) (by decide +kernel)⟩
theorem lw_p39 : lw_okq (⟨"ContentsFinderModel", "costWith", "(III)I"⟩, 35) := ⟨⟨by decide +kernel, by decide +kernel⟩, List.mem_of_getElem? (i := 682) (by decide +kernel), List.mem_of_getElem? (i := 904) (by decide +kernel), List.mem_of_getElem? (i := 905) (by decide +kernel)⟩
theorem lw_p40 : lw_okq (⟨"ContentsFinderModel", "partnerCost", "(II)I"⟩, 35) := ⟨⟨by decide +kernel, by decide +kernel⟩, List.mem_of_getElem? (i := 682) (by decide +kernel), List.mem_of_getElem? (i := 908) (by decide +kernel), List.mem_of_getElem? (i := 909) (by decide +kernel)⟩
theorem lw_p41 : lw_okq (⟨"ContentsFinderModel", "findShifts", "()V"⟩, 35) := ⟨⟨by decide +kernel, by decide +kernel⟩, List.mem_of_getElem? (i := 682) (by decide +kernel), List.mem_of_getElem? (i := 912) (by decide +kernel), List.mem_of_getElem? (i := 913) (by decide +kernel)⟩
theorem lw_p42 : lw_okq (⟨"ContentsFinderModel", "wrongIn", "(II)I"⟩, 35) := ⟨⟨by decide +kernel, by decide +kernel⟩, List.mem_of_getElem? (i := 682) (by decide +kernel), List.mem_of_getElem? (i := 916) (by decide +kernel), List.mem_of_getElem? (i := 917) (by decide +kernel)⟩
theorem lw_p43 : lw_okq (⟨"ContentsFinderModel", "isWrong", "(I)Z"⟩, 35) := ⟨⟨by decide +kernel, by decide +kernel⟩, List.mem_of_getElem? (i := 682) (by decide +kernel), List.mem_of_getElem? (i := 920) (by decide +kernel), List.mem_of_getElem? (i := 921) (by decide +kernel)⟩
theorem lw_p44 : lw_okq (⟨"ContentsFinderModel", "endOf", "(I)I"⟩, 35) := ⟨⟨by decide +kernel, by decide +kernel⟩, List.mem_of_getElem? (i := 682) (by decide +kernel), List.mem_of_getElem? (i := 928) (by decide +kernel), List.mem_of_getElem? (i := 929) (by decide +kernel)⟩
theorem lw_p45 : lw_okq (⟨"ContentsFinderModel", "partnerOfLine", "(I)I"⟩, 35) := ⟨⟨by decide +kernel, by decide +kernel⟩, List.mem_of_getElem? (i := 682) (by decide +kernel), List.mem_of_getElem? (i := 932) (by decide +kernel), List.mem_of_getElem? (i := 933) (by decide +kernel)⟩
theorem lw_p46 : lw_okq (⟨"ContentsFinderModel", "aboveOf", "(I)I"⟩, 35) := ⟨⟨by decide +kernel, by decide +kernel⟩, List.mem_of_getElem? (i := 682) (by decide +kernel), List.mem_of_getElem? (i := 936) (by decide +kernel), List.mem_of_getElem? (i := 937) (by decide +kernel)⟩
def lw_privs_3 : List (MethodName × Nat) := [(⟨"ContentsFinderModel", "areLike", "(II)Z"⟩, 35), (⟨"ContentsFinderModel", "leastFrom", "(II)I"⟩, 35), (⟨"ContentsFinderModel", "costWithLevel", "(III)I"⟩, 35), (⟨"ContentsFinderModel", "behind", "(III)I"⟩, 35), (⟨"ContentsFinderModel", "costOf", "(III)I"⟩, 35), (⟨"ContentsFinderModel", "look", "(I)I"⟩, 35), (⟨"ContentsFinderModel", "hold", "()V"⟩, 35), (⟨"ContentsFinderModel", "costWith", "(III)I"⟩, 35), (⟨"ContentsFinderModel", "partnerCost", "(II)I"⟩, 35), (⟨"ContentsFinderModel", "findShifts", "()V"⟩, 35), (⟨"ContentsFinderModel", "wrongIn", "(II)I"⟩, 35), (⟨"ContentsFinderModel", "isWrong", "(I)Z"⟩, 35), (⟨"ContentsFinderModel", "endOf", "(I)I"⟩, 35), (⟨"ContentsFinderModel", "partnerOfLine", "(I)I"⟩, 35), (⟨"ContentsFinderModel", "aboveOf", "(I)I"⟩, 35)]
theorem lw_r3 : ∀ q ∈ lw_privs_3, lw_okq q := List.forall_mem_cons.mpr ⟨lw_p32, List.forall_mem_cons.mpr ⟨lw_p33, List.forall_mem_cons.mpr ⟨lw_p34, List.forall_mem_cons.mpr ⟨lw_p35, List.forall_mem_cons.mpr ⟨lw_p36, List.forall_mem_cons.mpr ⟨lw_p37, List.forall_mem_cons.mpr ⟨lw_p38, List.forall_mem_cons.mpr ⟨lw_p39, List.forall_mem_cons.mpr ⟨lw_p40, List.forall_mem_cons.mpr ⟨lw_p41, List.forall_mem_cons.mpr ⟨lw_p42, List.forall_mem_cons.mpr ⟨lw_p43, List.forall_mem_cons.mpr ⟨lw_p44, List.forall_mem_cons.mpr ⟨lw_p45, List.forall_mem_cons.mpr ⟨lw_p46, fun _ h => absurd h List.not_mem_nil⟩⟩⟩⟩⟩⟩⟩⟩⟩⟩⟩⟩⟩⟩⟩
def lw_privs : List (MethodName × Nat) := lw_privs_1 ++ (lw_privs_2 ++ (lw_privs_3))
def lw_tbl : List Cond := k2_sels lw_privs ++ tables_1
theorem lw_privs_ok : ∀ q ∈ lw_privs, lw_okq q := by
  show ∀ q ∈ lw_privs_1 ++ (lw_privs_2 ++ (lw_privs_3)), lw_okq q
  exact List.forall_mem_append.mpr ⟨lw_r1, List.forall_mem_append.mpr ⟨lw_r2, lw_r3⟩⟩
end
section
/-! ===== BEGIN words of one list among another's, by their places ===== -/
theorem goodIn_r {big : List Cond} (ws : List Cond) (ps : List Nat) (hp : ws = ps.filterMap (fun i => big[i]?)) (h : ws.all goodWord = true) : GoodIn big ws := by
  intro w hw
  have h1 := List.all_eq_true.mp h w hw
  rw [hp] at hw
  obtain ⟨i, -, hi⟩ := List.mem_filterMap.mp hw
  have hm : w ∈ big := by first | exact List.mem_of_getElem? hi | exact List.getElem?_mem hi
  exact ⟨hm, good_of_word h1⟩
theorem goodIn_app {big a b : List Cond} (ha : GoodIn big a) (hb : GoodIn big b) : GoodIn big (a ++ b) := fun w h => (List.mem_append.mp h).elim (ha w) (hb w)
theorem goodIn_ca {big a b : List Cond} {c : Cond} (ha : GoodIn big (c :: a)) (hb : GoodIn big b) : GoodIn big (c :: (a ++ b)) := fun w h => (List.mem_cons.mp h).elim (fun e => ha w (List.mem_cons.mpr (Or.inl e))) (fun h => (List.mem_append.mp h).elim (fun h => ha w (List.mem_cons.mpr (Or.inr h))) (hb w))
theorem goodIn_sub {big ws : List Cond} (hm : ∀ w ∈ ws, w ∈ big) (h : ws.all goodWord = true) : GoodIn big ws := fun w hw => ⟨hm w hw, good_of_word (List.all_eq_true.mp h w hw)⟩
/-! ===== END ===== -/
def RX0 : String := "ContentsFinder$Counters"
def TX0 : u_T := fun k => match k with
  | 0 => ("ContentsFinder$Counters", "at", "[I", true)
  | _ => ("ContentsFinder$Counters", "lines", "LContentsFinder$Lines;", true)
def tyX0 : Nat → FieldType := fun k => match k with
  | 0 => .array .int
  | _ => .object "ContentsFinder$Lines"
abbrev wsX00 : List Cond := u_ws RX0 TX0 2
theorem nmX0 : ∀ a, a < 2 → ∀ b, b < 2 → a ≠ b → (TX0 a).2.1 ≠ (TX0 b).2.1 := by decide +kernel
theorem tyX0_ok : ∀ k, k < 2 → parseFieldDescriptor (TX0 k).2.2.1 = some (tyX0 k) := by decide +kernel
abbrev cX0_init : ByteArray := prog_2_method_1_code
def yX0_init : MethodName := ⟨RX0, "<init>", "(LContentsFinder$Lines;)V"⟩
abbrev cX0_unpack : ByteArray := prog_2_method_2_code
def yX0_unpack : MethodName := ⟨RX0, "unpack", "(I)V"⟩
abbrev cX0_pack : ByteArray := prog_2_method_3_code
def yX0_pack : MethodName := ⟨RX0, "pack", "([I)I"⟩
abbrev cX0_allowHead : ByteArray := prog_2_method_4_code
def yX0_allowHead : MethodName := ⟨RX0, "allowHead", "(II)Z"⟩
abbrev cX0_passHead : ByteArray := prog_2_method_5_code
def yX0_passHead : MethodName := ⟨RX0, "passHead", "(II)V"⟩
def RX1 : String := "ContentsFinder$Lines"
def TX1 : u_T := fun k => match k with
  | 0 => ("ContentsFinder$Lines", "page", "[I", true)
  | 1 => ("ContentsFinder$Lines", "size", "[I", true)
  | 2 => ("ContentsFinder$Lines", "blank", "[I", true)
  | 3 => ("ContentsFinder$Lines", "centred", "[Z", true)
  | 4 => ("ContentsFinder$Lines", "firstWords", "[I", true)
  | 5 => ("ContentsFinder$Lines", "lastWords", "[I", true)
  | 6 => ("ContentsFinder$Lines", "parts", "[I", true)
  | 7 => ("ContentsFinder$Lines", "part", "[I", true)
  | _ => ("ContentsFinder$Lines", "count", "I", false)
def tyX1 : Nat → FieldType := fun k => match k with
  | 0 => .array .int
  | 1 => .array .int
  | 2 => .array .int
  | 3 => .array .boolean
  | 4 => .array .int
  | 5 => .array .int
  | 6 => .array .int
  | 7 => .array .int
  | _ => .int
abbrev wsX10 : List Cond := u_ws RX1 TX1 9
theorem nmX1 : ∀ a, a < 9 → ∀ b, b < 9 → a ≠ b → (TX1 a).2.1 ≠ (TX1 b).2.1 := by decide +kernel
theorem tyX1_ok : ∀ k, k < 9 → parseFieldDescriptor (TX1 k).2.2.1 = some (tyX1 k) := by decide +kernel
abbrev cX1_init : ByteArray := prog_3_method_1_code
def yX1_init : MethodName := ⟨RX1, "<init>", "()V"⟩
abbrev cX1_has : ByteArray := prog_3_method_2_code
def yX1_has : MethodName := ⟨RX1, "has", "(I)Z"⟩
abbrev cX1_canFollow : ByteArray := prog_3_method_3_code
def yX1_canFollow : MethodName := ⟨RX1, "canFollow", "(I)Z"⟩
abbrev cX1_putSizeAndNumbers : ByteArray := prog_3_method_4_code
def yX1_putSizeAndNumbers : MethodName := ⟨RX1, "putSizeAndNumbers", "(III)V"⟩
abbrev cX1_partAt : ByteArray := prog_3_method_5_code
def yX1_partAt : MethodName := ⟨RX1, "partAt", "(II)I"⟩
abbrev cX1_look : ByteArray := prog_3_method_6_code
def yX1_look : MethodName := ⟨RX1, "look", "(I)I"⟩
abbrev cX1_isRunning : ByteArray := prog_3_method_7_code
def yX1_isRunning : MethodName := ⟨RX1, "isRunning", "(II)Z"⟩
abbrev cX1_areAlike : ByteArray := prog_3_method_8_code
def yX1_areAlike : MethodName := ⟨RX1, "areAlike", "(II)Z"⟩
def RX2 : String := "ContentsFinder$Listing"
def TX2 : u_T := fun k => match k with
  | 0 => ("ContentsFinder$Listing", "level", "[I", true)
  | 1 => ("ContentsFinder$Listing", "number", "[I", true)
  | 2 => ("ContentsFinder$Listing", "firstWords", "[I", true)
  | 3 => ("ContentsFinder$Listing", "lastWords", "[I", true)
  | 4 => ("ContentsFinder$Listing", "count", "I", false)
  | 5 => ("ContentsFinder$Listing", "partnerOfEntry", "[I", true)
  | 6 => ("ContentsFinder$Listing", "partnerOfLine", "[I", true)
  | 7 => ("ContentsFinder$Listing", "cost", "I", false)
  | 8 => ("ContentsFinder$Listing", "lines", "LContentsFinder$Lines;", true)
  | 9 => ("ContentsFinder$Listing", "pages", "LContentsFinder$Pages;", true)
  | 10 => ("ContentsFinder$Listing", "tree", "LContentsFinder$Tree;", true)
  | 11 => ("ContentsFinder$Listing", "settings", "LContentsFinder$Settings;", true)
  | 12 => ("ContentsFinder$Listing", "heads", "[I", true)
  | 13 => ("ContentsFinder$Listing", "headCount", "I", false)
  | _ => ("ContentsFinder$Listing", "least", "[I", true)
def tyX2 : Nat → FieldType := fun k => match k with
  | 0 => .array .int
  | 1 => .array .int
  | 2 => .array .int
  | 3 => .array .int
  | 4 => .int
  | 5 => .array .int
  | 6 => .array .int
  | 7 => .int
  | 8 => .object "ContentsFinder$Lines"
  | 9 => .object "ContentsFinder$Pages"
  | 10 => .object "ContentsFinder$Tree"
  | 11 => .object "ContentsFinder$Settings"
  | 12 => .array .int
  | 13 => .int
  | _ => .array .int
abbrev wsX20 : List Cond := u_ws RX2 TX2 15
theorem nmX2 : ∀ a, a < 15 → ∀ b, b < 15 → a ≠ b → (TX2 a).2.1 ≠ (TX2 b).2.1 := by decide +kernel
theorem tyX2_ok : ∀ k, k < 15 → parseFieldDescriptor (TX2 k).2.2.1 = some (tyX2 k) := by decide +kernel
abbrev cX2_init : ByteArray := prog_4_method_1_code
def yX2_init : MethodName := ⟨RX2, "<init>", "(LContentsFinder$Lines;LContentsFinder$Pages;LContentsFinder$Tree;LContentsFinder$Settings;)V"⟩
abbrev cX2_hold : ByteArray := prog_4_method_2_code
def yX2_hold : MethodName := ⟨RX2, "hold", "()V"⟩
abbrev cX2_gatherHeads : ByteArray := prog_4_method_3_code
def yX2_gatherHeads : MethodName := ⟨RX2, "gatherHeads", "()V"⟩
abbrev cX2_leastFrom : ByteArray := prog_4_method_4_code
def yX2_leastFrom : MethodName := ⟨RX2, "leastFrom", "(II)I"⟩
abbrev cX2_pairCost : ByteArray := prog_4_method_5_code
def yX2_pairCost : MethodName := ⟨RX2, "pairCost", "(II)I"⟩
abbrev cX2_unlikePlaces : ByteArray := prog_4_method_6_code
def yX2_unlikePlaces : MethodName := ⟨RX2, "unlikePlaces", "(II)I"⟩
abbrev cX2_tellPartners : ByteArray := prog_4_method_7_code
def yX2_tellPartners : MethodName := ⟨RX2, "tellPartners", "()V"⟩
abbrev cX2_firstCheapHead : ByteArray := prog_4_method_8_code
def yX2_firstCheapHead : MethodName := ⟨RX2, "firstCheapHead", "(II)I"⟩
def RX3 : String := "ContentsFinder$Pages"
def TX3 : u_T := fun k => match k with
  | 0 => ("ContentsFinder$Pages", "readNumber", "[I", true)
  | _ => ("ContentsFinder$Pages", "count", "I", false)
def tyX3 : Nat → FieldType := fun k => match k with
  | 0 => .array .int
  | _ => .int
abbrev wsX30 : List Cond := u_ws RX3 TX3 2
theorem nmX3 : ∀ a, a < 2 → ∀ b, b < 2 → a ≠ b → (TX3 a).2.1 ≠ (TX3 b).2.1 := by decide +kernel
theorem tyX3_ok : ∀ k, k < 2 → parseFieldDescriptor (TX3 k).2.2.1 = some (tyX3 k) := by decide +kernel
abbrev cX3_init : ByteArray := prog_5_method_1_code
def yX3_init : MethodName := ⟨RX3, "<init>", "()V"⟩
abbrev cX3_begin : ByteArray := prog_5_method_2_code
def yX3_begin : MethodName := ⟨RX3, "begin", "(I)V"⟩
abbrev cX3_has : ByteArray := prog_5_method_3_code
def yX3_has : MethodName := ⟨RX3, "has", "(I)Z"⟩
def RX4 : String := "ContentsFinder$Settings"
def TX4 : u_T := fun k => match k with
  | 0 => ("ContentsFinder$Settings", "prices", "[I", true)
  | 1 => ("ContentsFinder$Settings", "wants", "[I", true)
  | _ => ("ContentsFinder$Settings", "many", "I", false)
def tyX4 : Nat → FieldType := fun k => match k with
  | 0 => .array .int
  | 1 => .array .int
  | _ => .int
abbrev wsX40 : List Cond := u_ws RX4 TX4 3
theorem nmX4 : ∀ a, a < 3 → ∀ b, b < 3 → a ≠ b → (TX4 a).2.1 ≠ (TX4 b).2.1 := by decide +kernel
theorem tyX4_ok : ∀ k, k < 3 → parseFieldDescriptor (TX4 k).2.2.1 = some (tyX4 k) := by decide +kernel
abbrev cX4_init : ByteArray := prog_6_method_1_code
def yX4_init : MethodName := ⟨RX4, "<init>", "()V"⟩
def RX5 : String := "ContentsFinder$Shifts"
def TX5 : u_T := fun k => match k with
  | 0 => ("ContentsFinder$Shifts", "shiftOfPage", "[I", true)
  | 1 => ("ContentsFinder$Shifts", "firstOfPage", "[I", true)
  | 2 => ("ContentsFinder$Shifts", "cost", "I", false)
  | 3 => ("ContentsFinder$Shifts", "spans", "I", false)
  | 4 => ("ContentsFinder$Shifts", "wrongs", "I", false)
  | 5 => ("ContentsFinder$Shifts", "pages", "LContentsFinder$Pages;", true)
  | 6 => ("ContentsFinder$Shifts", "settings", "LContentsFinder$Settings;", true)
  | 7 => ("ContentsFinder$Shifts", "least", "[I", true)
  | 8 => ("ContentsFinder$Shifts", "behind", "[I", true)
  | _ => ("ContentsFinder$Shifts", "timesOfShift", "[I", true)
def tyX5 : Nat → FieldType := fun k => match k with
  | 0 => .array .int
  | 1 => .array .int
  | 2 => .int
  | 3 => .int
  | 4 => .int
  | 5 => .object "ContentsFinder$Pages"
  | 6 => .object "ContentsFinder$Settings"
  | 7 => .array .int
  | 8 => .array .int
  | _ => .array .int
abbrev wsX50 : List Cond := u_ws RX5 TX5 10
theorem nmX5 : ∀ a, a < 10 → ∀ b, b < 10 → a ≠ b → (TX5 a).2.1 ≠ (TX5 b).2.1 := by decide +kernel
theorem tyX5_ok : ∀ k, k < 10 → parseFieldDescriptor (TX5 k).2.2.1 = some (tyX5 k) := by decide +kernel
abbrev cX5_init : ByteArray := prog_7_method_1_code
def yX5_init : MethodName := ⟨RX5, "<init>", "(LContentsFinder$Pages;LContentsFinder$Settings;)V"⟩
abbrev cX5_explain : ByteArray := prog_7_method_2_code
def yX5_explain : MethodName := ⟨RX5, "explain", "()V"⟩
abbrev cX5_findFirstSpan : ByteArray := prog_7_method_3_code
def yX5_findFirstSpan : MethodName := ⟨RX5, "findFirstSpan", "(I)V"⟩
abbrev cX5_shiftPlace : ByteArray := prog_7_method_4_code
def yX5_shiftPlace : MethodName := ⟨RX5, "shiftPlace", "(I)I"⟩
abbrev cX5_addTime : ByteArray := prog_7_method_5_code
def yX5_addTime : MethodName := ⟨RX5, "addTime", "(I)I"⟩
abbrev cX5_forgetTimes : ByteArray := prog_7_method_6_code
def yX5_forgetTimes : MethodName := ⟨RX5, "forgetTimes", "(II)V"⟩
abbrev cX5_tellSpans : ByteArray := prog_7_method_7_code
def yX5_tellSpans : MethodName := ⟨RX5, "tellSpans", "()V"⟩
abbrev cX5_bestShift : ByteArray := prog_7_method_8_code
def yX5_bestShift : MethodName := ⟨RX5, "bestShift", "(II)I"⟩
abbrev cX5_isWrong : ByteArray := prog_7_method_9_code
def yX5_isWrong : MethodName := ⟨RX5, "isWrong", "(I)Z"⟩
def RX6 : String := "ContentsFinder$Tree"
def TX6 : u_T := fun k => match k with
  | 0 => ("ContentsFinder$Tree", "running", "[Z", true)
  | 1 => ("ContentsFinder$Tree", "levels", "[I", true)
  | 2 => ("ContentsFinder$Tree", "countersBehind", "[I", true)
  | 3 => ("ContentsFinder$Tree", "heads", "I", false)
  | 4 => ("ContentsFinder$Tree", "cost", "I", false)
  | 5 => ("ContentsFinder$Tree", "lines", "LContentsFinder$Lines;", true)
  | 6 => ("ContentsFinder$Tree", "settings", "LContentsFinder$Settings;", true)
  | 7 => ("ContentsFinder$Tree", "counters", "LContentsFinder$Counters;", true)
  | 8 => ("ContentsFinder$Tree", "caps", "[I", true)
  | 9 => ("ContentsFinder$Tree", "keys", "[J", false)
  | 10 => ("ContentsFinder$Tree", "nextKeys", "[J", false)
  | 11 => ("ContentsFinder$Tree", "states", "[I", false)
  | 12 => ("ContentsFinder$Tree", "nextStates", "[I", false)
  | 13 => ("ContentsFinder$Tree", "reached", "I", false)
  | _ => ("ContentsFinder$Tree", "nextReached", "I", false)
def tyX6 : Nat → FieldType := fun k => match k with
  | 0 => .array .boolean
  | 1 => .array .int
  | 2 => .array .int
  | 3 => .int
  | 4 => .int
  | 5 => .object "ContentsFinder$Lines"
  | 6 => .object "ContentsFinder$Settings"
  | 7 => .object "ContentsFinder$Counters"
  | 8 => .array .int
  | 9 => .array .long
  | 10 => .array .long
  | 11 => .array .int
  | 12 => .array .int
  | 13 => .int
  | _ => .int
abbrev wsX60 : List Cond := u_ws RX6 TX6 15
theorem nmX6 : ∀ a, a < 15 → ∀ b, b < 15 → a ≠ b → (TX6 a).2.1 ≠ (TX6 b).2.1 := by decide +kernel
theorem tyX6_ok : ∀ k, k < 15 → parseFieldDescriptor (TX6 k).2.2.1 = some (tyX6 k) := by decide +kernel
abbrev cX6_init : ByteArray := prog_8_method_1_code
def yX6_init : MethodName := ⟨RX6, "<init>", "(LContentsFinder$Lines;LContentsFinder$Settings;)V"⟩
abbrev cX6_search : ByteArray := prog_8_method_2_code
def yX6_search : MethodName := ⟨RX6, "search", "()V"⟩
abbrev cX6_findCapsBehind : ByteArray := prog_8_method_3_code
def yX6_findCapsBehind : MethodName := ⟨RX6, "findCapsBehind", "(I)V"⟩
abbrev cX6_passLine : ByteArray := prog_8_method_4_code
def yX6_passLine : MethodName := ⟨RX6, "passLine", "(I)V"⟩
abbrev cX6_offer : ByteArray := prog_8_method_5_code
def yX6_offer : MethodName := ⟨RX6, "offer", "(IIJ)V"⟩
abbrev cX6_textCost : ByteArray := prog_8_method_6_code
def yX6_textCost : MethodName := ⟨RX6, "textCost", "(I)I"⟩
abbrev cX6_headCost : ByteArray := prog_8_method_7_code
def yX6_headCost : MethodName := ⟨RX6, "headCost", "(II)I"⟩
abbrev cX6_swapRows : ByteArray := prog_8_method_8_code
def yX6_swapRows : MethodName := ⟨RX6, "swapRows", "()V"⟩
abbrev cX6_takeLeastKey : ByteArray := prog_8_method_9_code
def yX6_takeLeastKey : MethodName := ⟨RX6, "takeLeastKey", "()J"⟩
abbrev cX6_tellLevels : ByteArray := prog_8_method_10_code
def yX6_tellLevels : MethodName := ⟨RX6, "tellLevels", "(J)V"⟩
abbrev cX6_tellCounters : ByteArray := prog_8_method_11_code
def yX6_tellCounters : MethodName := ⟨RX6, "tellCounters", "()V"⟩
abbrev cX6_lastPage : ByteArray := prog_8_method_12_code
def yX6_lastPage : MethodName := ⟨RX6, "lastPage", "(II)I"⟩
abbrev cX6_headAbove : ByteArray := prog_8_method_13_code
def yX6_headAbove : MethodName := ⟨RX6, "headAbove", "(I)I"⟩
def RX7 : String := "ContentsFinder"
def TX7 : u_T := fun k => match k with
  | 0 => ("ContentsFinder", "settings", "LContentsFinder$Settings;", true)
  | 1 => ("ContentsFinder", "pages", "LContentsFinder$Pages;", true)
  | 2 => ("ContentsFinder", "lines", "LContentsFinder$Lines;", true)
  | 3 => ("ContentsFinder", "tree", "LContentsFinder$Tree;", true)
  | 4 => ("ContentsFinder", "listing", "LContentsFinder$Listing;", true)
  | 5 => ("ContentsFinder", "shifts", "LContentsFinder$Shifts;", true)
  | 6 => ("ContentsFinder", "treeIsOld", "Z", false)
  | 7 => ("ContentsFinder", "listingIsOld", "Z", false)
  | _ => ("ContentsFinder", "shiftsAreOld", "Z", false)
def tyX7 : Nat → FieldType := fun k => match k with
  | 0 => .object "ContentsFinder$Settings"
  | 1 => .object "ContentsFinder$Pages"
  | 2 => .object "ContentsFinder$Lines"
  | 3 => .object "ContentsFinder$Tree"
  | 4 => .object "ContentsFinder$Listing"
  | 5 => .object "ContentsFinder$Shifts"
  | 6 => .boolean
  | 7 => .boolean
  | _ => .boolean
abbrev wsX70 : List Cond := u_ws RX7 TX7 9
theorem nmX7 : ∀ a, a < 9 → ∀ b, b < 9 → a ≠ b → (TX7 a).2.1 ≠ (TX7 b).2.1 := by decide +kernel
theorem tyX7_ok : ∀ k, k < 9 → parseFieldDescriptor (TX7 k).2.2.1 = some (tyX7 k) := by decide +kernel
abbrev cX7_init : ByteArray := prog_1_method_1_code
def yX7_init : MethodName := ⟨RX7, "<init>", "()V"⟩
abbrev cX7_book : ByteArray := prog_1_method_2_code
def yX7_book : MethodName := ⟨RX7, "book", "(I)Z"⟩
abbrev cX7_read : ByteArray := prog_1_method_3_code
def yX7_read : MethodName := ⟨RX7, "read", "(II)Z"⟩
abbrev cX7_line : ByteArray := prog_1_method_4_code
def yX7_line : MethodName := ⟨RX7, "line", "(IIIZIII)I"⟩
abbrev cX7_right : ByteArray := prog_1_method_5_code
def yX7_right : MethodName := ⟨RX7, "right", "(III)Z"⟩
abbrev cX7_drop : ByteArray := prog_1_method_6_code
def yX7_drop : MethodName := ⟨RX7, "drop", "()I"⟩
abbrev cX7_price : ByteArray := prog_1_method_7_code
def yX7_price : MethodName := ⟨RX7, "price", "(II)I"⟩
abbrev cX7_want : ByteArray := prog_1_method_8_code
def yX7_want : MethodName := ⟨RX7, "want", "(II)I"⟩
abbrev cX7_putMany : ByteArray := prog_1_method_9_code
def yX7_putMany : MethodName := ⟨RX7, "putMany", "(I)I"⟩
abbrev cX7_count : ByteArray := prog_1_method_10_code
def yX7_count : MethodName := ⟨RX7, "count", "(I)I"⟩
abbrev cX7_of : ByteArray := prog_1_method_11_code
def yX7_of : MethodName := ⟨RX7, "of", "(II)I"⟩
abbrev cX7_counter : ByteArray := prog_1_method_12_code
def yX7_counter : MethodName := ⟨RX7, "counter", "(II)I"⟩
abbrev cX7_entry : ByteArray := prog_1_method_13_code
def yX7_entry : MethodName := ⟨RX7, "entry", "(IIII)I"⟩
abbrev cX7_clear : ByteArray := prog_1_method_14_code
def yX7_clear : MethodName := ⟨RX7, "clear", "()I"⟩
abbrev cX7_partner : ByteArray := prog_1_method_15_code
def yX7_partner : MethodName := ⟨RX7, "partner", "(I)I"⟩
abbrev cX7_shift : ByteArray := prog_1_method_16_code
def yX7_shift : MethodName := ⟨RX7, "shift", "(I)I"⟩
abbrev cX7_span : ByteArray := prog_1_method_17_code
def yX7_span : MethodName := ⟨RX7, "span", "(I)I"⟩
abbrev cX7_wrong : ByteArray := prog_1_method_18_code
def yX7_wrong : MethodName := ⟨RX7, "wrong", "(I)I"⟩
abbrev cX7_allIsOld : ByteArray := prog_1_method_19_code
def yX7_allIsOld : MethodName := ⟨RX7, "allIsOld", "()V"⟩
abbrev cX7_freshTree : ByteArray := prog_1_method_20_code
def yX7_freshTree : MethodName := ⟨RX7, "freshTree", "()LContentsFinder$Tree;"⟩
abbrev cX7_freshListing : ByteArray := prog_1_method_21_code
def yX7_freshListing : MethodName := ⟨RX7, "freshListing", "()LContentsFinder$Listing;"⟩
abbrev cX7_freshShifts : ByteArray := prog_1_method_22_code
def yX7_freshShifts : MethodName := ⟨RX7, "freshShifts", "()LContentsFinder$Shifts;"⟩
abbrev cX7_isWithin : ByteArray := prog_1_method_23_code
def yX7_isWithin : MethodName := ⟨RX7, "isWithin", "(III)Z"⟩
abbrev cX7_areWords : ByteArray := prog_1_method_24_code
def yX7_areWords : MethodName := ⟨RX7, "areWords", "(I)Z"⟩
abbrev cX7_areNumbers : ByteArray := prog_1_method_25_code
def yX7_areNumbers : MethodName := ⟨RX7, "areNumbers", "(I)Z"⟩
abbrev cX7_countParts : ByteArray := prog_1_method_26_code
def yX7_countParts : MethodName := ⟨RX7, "countParts", "(I)I"⟩
def RX8 : String := "ContentsFinderModel"
def TX8 : u_T := fun k => match k with
  | 0 => ("ContentsFinderModel", "pages", "I", false)
  | 1 => ("ContentsFinderModel", "read", "[I", true)
  | 2 => ("ContentsFinderModel", "page", "[I", true)
  | 3 => ("ContentsFinderModel", "size", "[I", true)
  | 4 => ("ContentsFinderModel", "blank", "[I", true)
  | 5 => ("ContentsFinderModel", "isCentred", "[Z", true)
  | 6 => ("ContentsFinderModel", "words", "[I", true)
  | 7 => ("ContentsFinderModel", "parts", "[I", true)
  | 8 => ("ContentsFinderModel", "numbers", "[I", true)
  | 9 => ("ContentsFinderModel", "lines", "I", false)
  | 10 => ("ContentsFinderModel", "prices", "[I", true)
  | 11 => ("ContentsFinderModel", "wants", "[I", true)
  | 12 => ("ContentsFinderModel", "entryLevel", "[I", true)
  | 13 => ("ContentsFinderModel", "entryNumber", "[I", true)
  | 14 => ("ContentsFinderModel", "entryWords", "[I", true)
  | 15 => ("ContentsFinderModel", "entries", "I", false)
  | 16 => ("ContentsFinderModel", "thrown", "I", false)
  | 17 => ("ContentsFinderModel", "isFound", "Z", false)
  | 18 => ("ContentsFinderModel", "least", "[I", true)
  | 19 => ("ContentsFinderModel", "level", "[I", true)
  | 20 => ("ContentsFinderModel", "counters", "[I", true)
  | 21 => ("ContentsFinderModel", "treeCost", "I", false)
  | 22 => ("ContentsFinderModel", "heads", "[I", true)
  | 23 => ("ContentsFinderModel", "headMany", "I", false)
  | 24 => ("ContentsFinderModel", "held", "[I", true)
  | 25 => ("ContentsFinderModel", "partnerOf", "[I", true)
  | 26 => ("ContentsFinderModel", "spanCost", "[I", true)
  | 27 => ("ContentsFinderModel", "spanMany", "[I", true)
  | 28 => ("ContentsFinderModel", "spanEnd", "[I", true)
  | 29 => ("ContentsFinderModel", "spanOf", "[I", true)
  | 30 => ("ContentsFinderModel", "shiftOf", "[I", true)
  | 31 => ("ContentsFinderModel", "isRun", "[Z", true)
  | 32 => ("ContentsFinderModel", "asked", "[I", true)
  | 33 => ("ContentsFinderModel", "turn", "I", false)
  | _ => ("ContentsFinderModel", "bestShift", "I", false)
def tyX8 : Nat → FieldType := fun k => match k with
  | 0 => .int
  | 1 => .array .int
  | 2 => .array .int
  | 3 => .array .int
  | 4 => .array .int
  | 5 => .array .boolean
  | 6 => .array .int
  | 7 => .array .int
  | 8 => .array .int
  | 9 => .int
  | 10 => .array .int
  | 11 => .array .int
  | 12 => .array .int
  | 13 => .array .int
  | 14 => .array .int
  | 15 => .int
  | 16 => .int
  | 17 => .boolean
  | 18 => .array .int
  | 19 => .array .int
  | 20 => .array .int
  | 21 => .int
  | 22 => .array .int
  | 23 => .int
  | 24 => .array .int
  | 25 => .array .int
  | 26 => .array .int
  | 27 => .array .int
  | 28 => .array .int
  | 29 => .array .int
  | 30 => .array .int
  | 31 => .array .boolean
  | 32 => .array .int
  | 33 => .int
  | _ => .int
abbrev wsX80 : List Cond := u_ws RX8 TX8 35
theorem nmX8 : ∀ a, a < 35 → ∀ b, b < 35 → a ≠ b → (TX8 a).2.1 ≠ (TX8 b).2.1 := by decide +kernel
theorem tyX8_ok : ∀ k, k < 35 → parseFieldDescriptor (TX8 k).2.2.1 = some (tyX8 k) := by decide +kernel
abbrev cX8_init : ByteArray := prog_10_method_1_code
def yX8_init : MethodName := ⟨RX8, "<init>", "()V"⟩
abbrev cX8_thrown : ByteArray := prog_10_method_2_code
def yX8_thrown : MethodName := ⟨RX8, "thrown", "()I"⟩
abbrev cX8_in : ByteArray := prog_10_method_3_code
def yX8_in : MethodName := ⟨RX8, "in", "(III)Z"⟩
abbrev cX8_isLine : ByteArray := prog_10_method_4_code
def yX8_isLine : MethodName := ⟨RX8, "isLine", "(I)Z"⟩
abbrev cX8_book : ByteArray := prog_10_method_5_code
def yX8_book : MethodName := ⟨RX8, "book", "(I)Z"⟩
abbrev cX8_read : ByteArray := prog_10_method_6_code
def yX8_read : MethodName := ⟨RX8, "read", "(II)Z"⟩
abbrev cX8_partsOf : ByteArray := prog_10_method_7_code
def yX8_partsOf : MethodName := ⟨RX8, "partsOf", "(I[II)I"⟩
abbrev cX8_areWords : ByteArray := prog_10_method_8_code
def yX8_areWords : MethodName := ⟨RX8, "areWords", "(II)Z"⟩
abbrev cX8_layWords : ByteArray := prog_10_method_9_code
def yX8_layWords : MethodName := ⟨RX8, "layWords", "(II[II)V"⟩
abbrev cX8_line : ByteArray := prog_10_method_10_code
def yX8_line : MethodName := ⟨RX8, "line", "(IIIZIII)I"⟩
abbrev cX8_right : ByteArray := prog_10_method_11_code
def yX8_right : MethodName := ⟨RX8, "right", "(III)Z"⟩
abbrev cX8_drop : ByteArray := prog_10_method_12_code
def yX8_drop : MethodName := ⟨RX8, "drop", "()I"⟩
abbrev cX8_price : ByteArray := prog_10_method_13_code
def yX8_price : MethodName := ⟨RX8, "price", "(II)I"⟩
abbrev cX8_want : ByteArray := prog_10_method_14_code
def yX8_want : MethodName := ⟨RX8, "want", "(II)I"⟩
abbrev cX8_entry : ByteArray := prog_10_method_15_code
def yX8_entry : MethodName := ⟨RX8, "entry", "(IIII)I"⟩
abbrev cX8_clear : ByteArray := prog_10_method_16_code
def yX8_clear : MethodName := ⟨RX8, "clear", "()I"⟩
abbrev cX8_look : ByteArray := prog_10_method_17_code
def yX8_look : MethodName := ⟨RX8, "look", "(I)I"⟩
abbrev cX8_areLike : ByteArray := prog_10_method_18_code
def yX8_areLike : MethodName := ⟨RX8, "areLike", "(II)Z"⟩
abbrev cX8_isRunning : ByteArray := prog_10_method_19_code
def yX8_isRunning : MethodName := ⟨RX8, "isRunning", "(I)Z"⟩
abbrev cX8_counterOf : ByteArray := prog_10_method_20_code
def yX8_counterOf : MethodName := ⟨RX8, "counterOf", "(II)I"⟩
abbrev cX8_behind : ByteArray := prog_10_method_21_code
def yX8_behind : MethodName := ⟨RX8, "behind", "(III)I"⟩
abbrev cX8_costOf : ByteArray := prog_10_method_22_code
def yX8_costOf : MethodName := ⟨RX8, "costOf", "(III)I"⟩
abbrev cX8_costWithLevel : ByteArray := prog_10_method_23_code
def yX8_costWithLevel : MethodName := ⟨RX8, "costWithLevel", "(III)I"⟩
abbrev cX8_leastFrom : ByteArray := prog_10_method_24_code
def yX8_leastFrom : MethodName := ⟨RX8, "leastFrom", "(II)I"⟩
abbrev cX8_findTree : ByteArray := prog_10_method_25_code
def yX8_findTree : MethodName := ⟨RX8, "findTree", "()V"⟩
abbrev cX8_partnerCost : ByteArray := prog_10_method_26_code
def yX8_partnerCost : MethodName := ⟨RX8, "partnerCost", "(II)I"⟩
abbrev cX8_costWith : ByteArray := prog_10_method_27_code
def yX8_costWith : MethodName := ⟨RX8, "costWith", "(III)I"⟩
abbrev cX8_hold : ByteArray := prog_10_method_28_code
def yX8_hold : MethodName := ⟨RX8, "hold", "()V"⟩
abbrev cX8_wrongIn : ByteArray := prog_10_method_29_code
def yX8_wrongIn : MethodName := ⟨RX8, "wrongIn", "(II)I"⟩
abbrev cX8_findShifts : ByteArray := prog_10_method_30_code
def yX8_findShifts : MethodName := ⟨RX8, "findShifts", "()V"⟩
abbrev cX8_find : ByteArray := prog_10_method_31_code
def yX8_find : MethodName := ⟨RX8, "find", "()V"⟩
abbrev cX8_isWrong : ByteArray := prog_10_method_32_code
def yX8_isWrong : MethodName := ⟨RX8, "isWrong", "(I)Z"⟩
abbrev cX8_count : ByteArray := prog_10_method_33_code
def yX8_count : MethodName := ⟨RX8, "count", "(I)I"⟩
abbrev cX8_endOf : ByteArray := prog_10_method_34_code
def yX8_endOf : MethodName := ⟨RX8, "endOf", "(I)I"⟩
abbrev cX8_aboveOf : ByteArray := prog_10_method_35_code
def yX8_aboveOf : MethodName := ⟨RX8, "aboveOf", "(I)I"⟩
abbrev cX8_partnerOfLine : ByteArray := prog_10_method_36_code
def yX8_partnerOfLine : MethodName := ⟨RX8, "partnerOfLine", "(I)I"⟩
abbrev cX8_of : ByteArray := prog_10_method_37_code
def yX8_of : MethodName := ⟨RX8, "of", "(II)I"⟩
abbrev cX8_counter : ByteArray := prog_10_method_38_code
def yX8_counter : MethodName := ⟨RX8, "counter", "(II)I"⟩
abbrev cX8_partner : ByteArray := prog_10_method_39_code
def yX8_partner : MethodName := ⟨RX8, "partner", "(I)I"⟩
abbrev cX8_shift : ByteArray := prog_10_method_40_code
def yX8_shift : MethodName := ⟨RX8, "shift", "(I)I"⟩
abbrev cX8_span : ByteArray := prog_10_method_41_code
def yX8_span : MethodName := ⟨RX8, "span", "(I)I"⟩
abbrev cX8_wrong : ByteArray := prog_10_method_42_code
def yX8_wrong : MethodName := ⟨RX8, "wrong", "(I)I"⟩
def RJ9 : String := "java/lang/Math"
def TJ9 : u_T := fun k => match k with
  | _ => ("", "", "", false)
def tyJ9 : Nat → FieldType := fun k => match k with
  | _ => .int
abbrev wsJ90 : List Cond := u_ws RJ9 TJ9 0
theorem nmJ9 : ∀ a, a < 0 → ∀ b, b < 0 → a ≠ b → (TJ9 a).2.1 ≠ (TJ9 b).2.1 := by decide +kernel
theorem tyJ9_ok : ∀ k, k < 0 → parseFieldDescriptor (TJ9 k).2.2.1 = some (tyJ9 k) := by decide +kernel
abbrev cJ9_abs_0f7a4 : ByteArray := prog_12_method_59_code
def yJ9_abs_0f7a4 : MethodName := ⟨RJ9, "abs", "(I)I"⟩
abbrev cJ9_max_7cf53 : ByteArray := prog_12_method_65_code
def yJ9_max_7cf53 : MethodName := ⟨RJ9, "max", "(II)I"⟩
abbrev cJ9_min_7cf53 : ByteArray := prog_12_method_69_code
def yJ9_min_7cf53 : MethodName := ⟨RJ9, "min", "(II)I"⟩
abbrev cJ9_min_f86c9 : ByteArray := prog_12_method_70_code
def yJ9_min_f86c9 : MethodName := ⟨RJ9, "min", "(JJ)J"⟩
def RJ0 : String := "java/lang/String"
def TJ0 : u_T := fun k => match k with
  | _ => ("", "", "", false)
def tyJ0 : Nat → FieldType := fun k => match k with
  | _ => .int
abbrev wsJ00 : List Cond := u_ws RJ0 TJ0 0
theorem nmJ0 : ∀ a, a < 0 → ∀ b, b < 0 → a ≠ b → (TJ0 a).2.1 ≠ (TJ0 b).2.1 := by decide +kernel
theorem tyJ0_ok : ∀ k, k < 0 → parseFieldDescriptor (TJ0 k).2.2.1 = some (tyJ0 k) := by decide +kernel
def RJ7 : String := "java/util/Arrays"
def TJ7 : u_T := fun k => match k with
  | _ => ("", "", "", false)
def tyJ7 : Nat → FieldType := fun k => match k with
  | _ => .int
abbrev wsJ70 : List Cond := u_ws RJ7 TJ7 0
theorem nmJ7 : ∀ a, a < 0 → ∀ b, b < 0 → a ≠ b → (TJ7 a).2.1 ≠ (TJ7 b).2.1 := by decide +kernel
theorem tyJ7_ok : ∀ k, k < 0 → parseFieldDescriptor (TJ7 k).2.2.1 = some (tyJ7 k) := by decide +kernel
abbrev cJ7_fill_d0a16 : ByteArray := prog_16_method_101_code
def yJ7_fill_d0a16 : MethodName := ⟨RJ7, "fill", "([JJ)V"⟩
abbrev cJ7_fill_53178 : ByteArray := prog_16_method_103_code
def yJ7_fill_53178 : MethodName := ⟨RJ7, "fill", "([II)V"⟩
def RL : String := "ContentsFinderLaw"
abbrev cL_of : ByteArray := method_3_code
def yL_of : MethodName := ⟨RL, "of", "(LContentsFinder;II[J)I"⟩
abbrev cL_shift : ByteArray := method_4_code
def yL_shift : MethodName := ⟨RL, "shift", "(LContentsFinder;I[J)I"⟩
abbrev cL_law : ByteArray := code
def yL_law : MethodName := ⟨RL, "law", "([I)Z"⟩
def wsX0_init : List Cond := .code yX0_init cX0_init 2 none :: ([.methodLink RX0 5 objectInit, .instanceMethod objectInit, .code objectInit ⟨#[0xb1]⟩ 1 none, .arrayClass .int, .fieldLink RX0 11 "ContentsFinder$Counters" "at" "[I", .fieldLink RX0 15 "ContentsFinder$Counters" "lines" "LContentsFinder$Lines;"] ++ wsX00)
def wsX0_unpack : List Cond := .code yX0_unpack cX0_unpack 2 none :: ([.fieldLink RX0 11 "ContentsFinder$Counters" "at" "[I"] ++ wsX00)
def wsX0_pack : List Cond := .code yX0_pack cX0_pack 4 (some .int) :: ([.fieldLink RX0 11 "ContentsFinder$Counters" "at" "[I"] ++ wsX00)
def wsX1_partAt : List Cond := .code yX1_partAt cX1_partAt 3 (some .int) :: ([.fieldLink RX1 34 "ContentsFinder$Lines" "part" "[I"] ++ wsX10)
def wsX0_allowHead : List Cond := .code yX0_allowHead cX0_allowHead 5 (some .boolean) :: ([.fieldLink RX0 11 "ContentsFinder$Counters" "at" "[I", .fieldLink RX0 15 "ContentsFinder$Counters" "lines" "LContentsFinder$Lines;", .fieldLink RX0 19 "ContentsFinder$Lines" "parts" "[I", .methodLink RX0 24 yX1_partAt, .instanceMethod yX1_partAt, .selects RX1 yX1_partAt yX1_partAt, .initialized RX1, .code yX1_partAt cX1_partAt 3 (some .int), .fieldLink RX1 34 "ContentsFinder$Lines" "part" "[I"] ++ wsX00 ++ wsX10)
def wsX0_passHead : List Cond := .code yX0_passHead cX0_passHead 4 none :: ([.fieldLink RX0 11 "ContentsFinder$Counters" "at" "[I", .fieldLink RX0 15 "ContentsFinder$Counters" "lines" "LContentsFinder$Lines;", .fieldLink RX0 19 "ContentsFinder$Lines" "parts" "[I", .methodLink RX0 24 yX1_partAt, .instanceMethod yX1_partAt, .selects RX1 yX1_partAt yX1_partAt, .initialized RX1, .code yX1_partAt cX1_partAt 3 (some .int), .fieldLink RX1 34 "ContentsFinder$Lines" "part" "[I"] ++ wsX00 ++ wsX10)
def wsX1_init : List Cond := .code yX1_init cX1_init 1 none :: ([.methodLink RX1 3 objectInit, .instanceMethod objectInit, .code objectInit ⟨#[0xb1]⟩ 1 none, .arrayClass .int, .fieldLink RX1 9 "ContentsFinder$Lines" "page" "[I", .fieldLink RX1 15 "ContentsFinder$Lines" "size" "[I", .fieldLink RX1 18 "ContentsFinder$Lines" "blank" "[I", .arrayClass .boolean, .fieldLink RX1 21 "ContentsFinder$Lines" "centred" "[Z", .fieldLink RX1 25 "ContentsFinder$Lines" "firstWords" "[I", .fieldLink RX1 28 "ContentsFinder$Lines" "lastWords" "[I", .fieldLink RX1 31 "ContentsFinder$Lines" "parts" "[I", .fieldLink RX1 34 "ContentsFinder$Lines" "part" "[I", .fieldLink RX1 37 "ContentsFinder$Lines" "count" "I"] ++ wsX10)
def wsX7_isWithin : List Cond := .code yX7_isWithin cX7_isWithin 3 (some .boolean) :: ([])
def wsX1_has : List Cond := .code yX1_has cX1_has 2 (some .boolean) :: ([.fieldLink RX1 37 "ContentsFinder$Lines" "count" "I", .static yX7_isWithin, .initialized RX7, .code yX7_isWithin cX7_isWithin 3 (some .boolean)] ++ wsX10)
def wsX1_canFollow : List Cond := .code yX1_canFollow cX1_canFollow 2 (some .boolean) :: ([.fieldLink RX1 37 "ContentsFinder$Lines" "count" "I", .fieldLink RX1 9 "ContentsFinder$Lines" "page" "[I"] ++ wsX10)
def wsX7_countParts : List Cond := .code yX7_countParts cX7_countParts 1 (some .int) :: ([])
def wsX1_putSizeAndNumbers : List Cond := .code yX1_putSizeAndNumbers cX1_putSizeAndNumbers 7 none :: ([.fieldLink RX1 15 "ContentsFinder$Lines" "size" "[I", .fieldLink RX1 31 "ContentsFinder$Lines" "parts" "[I", .fieldLink RX1 34 "ContentsFinder$Lines" "part" "[I", .static yX7_countParts, .initialized RX7, .code yX7_countParts cX7_countParts 1 (some .int)] ++ wsX10)
def wsX1_look : List Cond := .code yX1_look cX1_look 2 (some .int) :: ([.fieldLink RX1 15 "ContentsFinder$Lines" "size" "[I", .fieldLink RX1 18 "ContentsFinder$Lines" "blank" "[I", .fieldLink RX1 21 "ContentsFinder$Lines" "centred" "[Z"] ++ wsX10)
def wsX1_areAlike : List Cond := .code yX1_areAlike cX1_areAlike 3 (some .boolean) :: ([.fieldLink RX1 15 "ContentsFinder$Lines" "size" "[I", .fieldLink RX1 25 "ContentsFinder$Lines" "firstWords" "[I", .fieldLink RX1 28 "ContentsFinder$Lines" "lastWords" "[I"] ++ wsX10)
def wsX1_isRunning : List Cond := .code yX1_isRunning cX1_isRunning 6 (some .boolean) :: ([.fieldLink RX1 25 "ContentsFinder$Lines" "firstWords" "[I", .fieldLink RX1 28 "ContentsFinder$Lines" "lastWords" "[I", .fieldLink RX1 37 "ContentsFinder$Lines" "count" "I", .fieldLink RX1 9 "ContentsFinder$Lines" "page" "[I", .methodLink RX1 49 yX1_areAlike, .instanceMethod yX1_areAlike, .selects RX1 yX1_areAlike yX1_areAlike, .initialized RX1, .code yX1_areAlike cX1_areAlike 3 (some .boolean), .fieldLink RX1 15 "ContentsFinder$Lines" "size" "[I"] ++ wsX10)
def wsX2_init : List Cond := .code yX2_init cX2_init 5 none :: ([.methodLink RX2 3 objectInit, .instanceMethod objectInit, .code objectInit ⟨#[0xb1]⟩ 1 none, .arrayClass .int, .fieldLink RX2 9 "ContentsFinder$Listing" "level" "[I", .fieldLink RX2 15 "ContentsFinder$Listing" "number" "[I", .fieldLink RX2 18 "ContentsFinder$Listing" "firstWords" "[I", .fieldLink RX2 21 "ContentsFinder$Listing" "lastWords" "[I", .fieldLink RX2 24 "ContentsFinder$Listing" "count" "I", .fieldLink RX2 28 "ContentsFinder$Listing" "partnerOfEntry" "[I", .fieldLink RX2 31 "ContentsFinder$Listing" "partnerOfLine" "[I", .fieldLink RX2 34 "ContentsFinder$Listing" "cost" "I", .fieldLink RX2 37 "ContentsFinder$Listing" "heads" "[I", .fieldLink RX2 40 "ContentsFinder$Listing" "headCount" "I", .fieldLink RX2 43 "ContentsFinder$Listing" "least" "[I", .fieldLink RX2 46 "ContentsFinder$Listing" "lines" "LContentsFinder$Lines;", .fieldLink RX2 50 "ContentsFinder$Listing" "pages" "LContentsFinder$Pages;", .fieldLink RX2 54 "ContentsFinder$Listing" "tree" "LContentsFinder$Tree;", .fieldLink RX2 58 "ContentsFinder$Listing" "settings" "LContentsFinder$Settings;"] ++ wsX20)
def wsX2_gatherHeads : List Cond := .code yX2_gatherHeads cX2_gatherHeads 2 none :: ([.fieldLink RX2 40 "ContentsFinder$Listing" "headCount" "I", .fieldLink RX2 46 "ContentsFinder$Listing" "lines" "LContentsFinder$Lines;", .fieldLink RX2 72 "ContentsFinder$Lines" "count" "I", .fieldLink RX2 54 "ContentsFinder$Listing" "tree" "LContentsFinder$Tree;", .fieldLink RX2 75 "ContentsFinder$Tree" "levels" "[I", .fieldLink RX2 37 "ContentsFinder$Listing" "heads" "[I"] ++ wsX20 ++ wsX10 ++ wsX60)
def wsX2_unlikePlaces : List Cond := .code yX2_unlikePlaces cX2_unlikePlaces 4 (some .int) :: ([])
def wsX2_pairCost : List Cond := .code yX2_pairCost cX2_pairCost 7 (some .int) :: ([.fieldLink RX2 37 "ContentsFinder$Listing" "heads" "[I", .fieldLink RX2 18 "ContentsFinder$Listing" "firstWords" "[I", .fieldLink RX2 46 "ContentsFinder$Listing" "lines" "LContentsFinder$Lines;", .fieldLink RX2 93 "ContentsFinder$Lines" "firstWords" "[I", .fieldLink RX2 21 "ContentsFinder$Listing" "lastWords" "[I", .fieldLink RX2 97 "ContentsFinder$Lines" "lastWords" "[I", .fieldLink RX2 9 "ContentsFinder$Listing" "level" "[I", .fieldLink RX2 54 "ContentsFinder$Listing" "tree" "LContentsFinder$Tree;", .fieldLink RX2 75 "ContentsFinder$Tree" "levels" "[I", .methodLink RX2 98 Lib.Math.abs.name, .static Lib.Math.abs.name, .initialized "java/lang/Math", .code Lib.Math.abs.name Lib.Math.abs.code 1 (some .int), .fieldLink RX2 50 "ContentsFinder$Listing" "pages" "LContentsFinder$Pages;", .fieldLink RX2 102 "ContentsFinder$Pages" "readNumber" "[I", .fieldLink RX2 107 "ContentsFinder$Lines" "page" "[I", .fieldLink RX2 15 "ContentsFinder$Listing" "number" "[I", .fieldLink RX2 58 "ContentsFinder$Listing" "settings" "LContentsFinder$Settings;", .fieldLink RX2 80 "ContentsFinder$Settings" "prices" "[I", .methodLink RX2 94 yX2_unlikePlaces, .static yX2_unlikePlaces, .initialized RX2, .code yX2_unlikePlaces cX2_unlikePlaces 4 (some .int)] ++ wsX20 ++ wsX10 ++ wsX60 ++ wsX30 ++ wsX40)
def wsX2_leastFrom_r1 : List Cond := [Cond.fieldLink RX2 58 "ContentsFinder$Listing" "settings" "LContentsFinder$Settings;", Cond.fieldLink RX2 80 "ContentsFinder$Settings" "prices" "[I", Cond.fieldLink RX2 24 "ContentsFinder$Listing" "count" "I", Cond.fieldLink RX2 40 "ContentsFinder$Listing" "headCount" "I", Cond.fieldLink RX2 43 "ContentsFinder$Listing" "least" "[I", Cond.methodLink RX2 85 Lib.Math.min.name, Cond.static Lib.Math.min.name, Cond.initialized "java/lang/Math", Cond.code Lib.Math.min.name Lib.Math.min.code 2 (some .int), Cond.methodLink RX2 90 yX2_pairCost, Cond.instanceMethod yX2_pairCost, Cond.selects RX2 yX2_pairCost yX2_pairCost, Cond.initialized RX2, Cond.code yX2_pairCost cX2_pairCost 7 (some .int), Cond.fieldLink RX2 37 "ContentsFinder$Listing" "heads" "[I", Cond.fieldLink RX2 18 "ContentsFinder$Listing" "firstWords" "[I", Cond.fieldLink RX2 46 "ContentsFinder$Listing" "lines" "LContentsFinder$Lines;", Cond.fieldLink RX2 93 "ContentsFinder$Lines" "firstWords" "[I", Cond.fieldLink RX2 21 "ContentsFinder$Listing" "lastWords" "[I", Cond.fieldLink RX2 97 "ContentsFinder$Lines" "lastWords" "[I", Cond.fieldLink RX2 9 "ContentsFinder$Listing" "level" "[I", Cond.fieldLink RX2 54 "ContentsFinder$Listing" "tree" "LContentsFinder$Tree;", Cond.fieldLink RX2 75 "ContentsFinder$Tree" "levels" "[I", Cond.methodLink RX2 98 Lib.Math.abs.name]
def wsX2_leastFrom_r2 : List Cond := [Cond.static Lib.Math.abs.name, Cond.code Lib.Math.abs.name Lib.Math.abs.code 1 (some .int), Cond.fieldLink RX2 50 "ContentsFinder$Listing" "pages" "LContentsFinder$Pages;", Cond.fieldLink RX2 102 "ContentsFinder$Pages" "readNumber" "[I", Cond.fieldLink RX2 107 "ContentsFinder$Lines" "page" "[I", Cond.fieldLink RX2 15 "ContentsFinder$Listing" "number" "[I", Cond.methodLink RX2 94 yX2_unlikePlaces, Cond.static yX2_unlikePlaces, Cond.code yX2_unlikePlaces cX2_unlikePlaces 4 (some .int)]
def wsX2_leastFrom : List Cond := .code yX2_leastFrom cX2_leastFrom 6 (some .int) :: ((wsX2_leastFrom_r1 ++ wsX2_leastFrom_r2) ++ wsX20 ++ wsX40 ++ wsX10 ++ wsX60 ++ wsX30)
def wsJ7_fill_53178 : List Cond := .code yJ7_fill_53178 cJ7_fill_53178 4 none :: ([])
def wsX2_firstCheapHead_r1 : List Cond := [Cond.fieldLink RX2 43 "ContentsFinder$Listing" "least" "[I", Cond.fieldLink RX2 40 "ContentsFinder$Listing" "headCount" "I", Cond.fieldLink RX2 58 "ContentsFinder$Listing" "settings" "LContentsFinder$Settings;", Cond.fieldLink RX2 80 "ContentsFinder$Settings" "prices" "[I", Cond.methodLink RX2 90 yX2_pairCost, Cond.instanceMethod yX2_pairCost, Cond.selects RX2 yX2_pairCost yX2_pairCost, Cond.initialized RX2, Cond.code yX2_pairCost cX2_pairCost 7 (some .int), Cond.fieldLink RX2 37 "ContentsFinder$Listing" "heads" "[I", Cond.fieldLink RX2 18 "ContentsFinder$Listing" "firstWords" "[I", Cond.fieldLink RX2 46 "ContentsFinder$Listing" "lines" "LContentsFinder$Lines;", Cond.fieldLink RX2 93 "ContentsFinder$Lines" "firstWords" "[I", Cond.fieldLink RX2 21 "ContentsFinder$Listing" "lastWords" "[I", Cond.fieldLink RX2 97 "ContentsFinder$Lines" "lastWords" "[I", Cond.fieldLink RX2 9 "ContentsFinder$Listing" "level" "[I", Cond.fieldLink RX2 54 "ContentsFinder$Listing" "tree" "LContentsFinder$Tree;", Cond.fieldLink RX2 75 "ContentsFinder$Tree" "levels" "[I", Cond.methodLink RX2 98 Lib.Math.abs.name, Cond.static Lib.Math.abs.name, Cond.initialized "java/lang/Math", Cond.code Lib.Math.abs.name Lib.Math.abs.code 1 (some .int), Cond.fieldLink RX2 50 "ContentsFinder$Listing" "pages" "LContentsFinder$Pages;", Cond.fieldLink RX2 102 "ContentsFinder$Pages" "readNumber" "[I"]
def wsX2_firstCheapHead_r2 : List Cond := [Cond.fieldLink RX2 107 "ContentsFinder$Lines" "page" "[I", Cond.fieldLink RX2 15 "ContentsFinder$Listing" "number" "[I", Cond.methodLink RX2 94 yX2_unlikePlaces, Cond.static yX2_unlikePlaces, Cond.code yX2_unlikePlaces cX2_unlikePlaces 4 (some .int)]
def wsX2_firstCheapHead : List Cond := .code yX2_firstCheapHead cX2_firstCheapHead 7 (some .int) :: ((wsX2_firstCheapHead_r1 ++ wsX2_firstCheapHead_r2) ++ wsX20 ++ wsX40 ++ wsX10 ++ wsX60 ++ wsX30)
def wsX2_tellPartners_r1 : List Cond := [Cond.fieldLink RX2 28 "ContentsFinder$Listing" "partnerOfEntry" "[I", Cond.fieldLink RX2 31 "ContentsFinder$Listing" "partnerOfLine" "[I", Cond.fieldLink RX2 24 "ContentsFinder$Listing" "count" "I", Cond.fieldLink RX2 37 "ContentsFinder$Listing" "heads" "[I", Cond.methodLink RX2 110 yJ7_fill_53178, Cond.static yJ7_fill_53178, Cond.initialized RJ7, Cond.code yJ7_fill_53178 cJ7_fill_53178 4 none, Cond.methodLink RX2 116 yX2_firstCheapHead, Cond.instanceMethod yX2_firstCheapHead, Cond.selects RX2 yX2_firstCheapHead yX2_firstCheapHead, Cond.initialized RX2, Cond.code yX2_firstCheapHead cX2_firstCheapHead 7 (some .int), Cond.fieldLink RX2 43 "ContentsFinder$Listing" "least" "[I", Cond.fieldLink RX2 40 "ContentsFinder$Listing" "headCount" "I", Cond.fieldLink RX2 58 "ContentsFinder$Listing" "settings" "LContentsFinder$Settings;", Cond.fieldLink RX2 80 "ContentsFinder$Settings" "prices" "[I", Cond.methodLink RX2 90 yX2_pairCost, Cond.instanceMethod yX2_pairCost, Cond.selects RX2 yX2_pairCost yX2_pairCost, Cond.code yX2_pairCost cX2_pairCost 7 (some .int), Cond.fieldLink RX2 18 "ContentsFinder$Listing" "firstWords" "[I", Cond.fieldLink RX2 46 "ContentsFinder$Listing" "lines" "LContentsFinder$Lines;", Cond.fieldLink RX2 93 "ContentsFinder$Lines" "firstWords" "[I"]
def wsX2_tellPartners_r2 : List Cond := [Cond.fieldLink RX2 21 "ContentsFinder$Listing" "lastWords" "[I", Cond.fieldLink RX2 97 "ContentsFinder$Lines" "lastWords" "[I", Cond.fieldLink RX2 9 "ContentsFinder$Listing" "level" "[I", Cond.fieldLink RX2 54 "ContentsFinder$Listing" "tree" "LContentsFinder$Tree;", Cond.fieldLink RX2 75 "ContentsFinder$Tree" "levels" "[I", Cond.methodLink RX2 98 Lib.Math.abs.name, Cond.static Lib.Math.abs.name, Cond.initialized "java/lang/Math", Cond.code Lib.Math.abs.name Lib.Math.abs.code 1 (some .int), Cond.fieldLink RX2 50 "ContentsFinder$Listing" "pages" "LContentsFinder$Pages;", Cond.fieldLink RX2 102 "ContentsFinder$Pages" "readNumber" "[I", Cond.fieldLink RX2 107 "ContentsFinder$Lines" "page" "[I", Cond.fieldLink RX2 15 "ContentsFinder$Listing" "number" "[I", Cond.methodLink RX2 94 yX2_unlikePlaces, Cond.static yX2_unlikePlaces, Cond.code yX2_unlikePlaces cX2_unlikePlaces 4 (some .int)]
def wsX2_tellPartners : List Cond := .code yX2_tellPartners cX2_tellPartners 4 none :: ((wsX2_tellPartners_r1 ++ wsX2_tellPartners_r2) ++ wsX20 ++ wsX40 ++ wsX10 ++ wsX60 ++ wsX30)
def wsX2_hold_r1 : List Cond := [Cond.fieldLink RX2 24 "ContentsFinder$Listing" "count" "I", Cond.fieldLink RX2 40 "ContentsFinder$Listing" "headCount" "I", Cond.fieldLink RX2 43 "ContentsFinder$Listing" "least" "[I", Cond.fieldLink RX2 34 "ContentsFinder$Listing" "cost" "I", Cond.methodLink RX2 62 yX2_gatherHeads, Cond.instanceMethod yX2_gatherHeads, Cond.selects RX2 yX2_gatherHeads yX2_gatherHeads, Cond.initialized RX2, Cond.code yX2_gatherHeads cX2_gatherHeads 2 none, Cond.fieldLink RX2 46 "ContentsFinder$Listing" "lines" "LContentsFinder$Lines;", Cond.fieldLink RX2 72 "ContentsFinder$Lines" "count" "I", Cond.fieldLink RX2 54 "ContentsFinder$Listing" "tree" "LContentsFinder$Tree;", Cond.fieldLink RX2 75 "ContentsFinder$Tree" "levels" "[I", Cond.fieldLink RX2 37 "ContentsFinder$Listing" "heads" "[I", Cond.methodLink RX2 65 yX2_leastFrom, Cond.instanceMethod yX2_leastFrom, Cond.selects RX2 yX2_leastFrom yX2_leastFrom, Cond.code yX2_leastFrom cX2_leastFrom 6 (some .int), Cond.fieldLink RX2 58 "ContentsFinder$Listing" "settings" "LContentsFinder$Settings;", Cond.fieldLink RX2 80 "ContentsFinder$Settings" "prices" "[I", Cond.methodLink RX2 85 Lib.Math.min.name, Cond.static Lib.Math.min.name, Cond.initialized "java/lang/Math", Cond.code Lib.Math.min.name Lib.Math.min.code 2 (some .int)]
def wsX2_hold_r2 : List Cond := [Cond.methodLink RX2 90 yX2_pairCost, Cond.instanceMethod yX2_pairCost, Cond.selects RX2 yX2_pairCost yX2_pairCost, Cond.code yX2_pairCost cX2_pairCost 7 (some .int), Cond.fieldLink RX2 18 "ContentsFinder$Listing" "firstWords" "[I", Cond.fieldLink RX2 93 "ContentsFinder$Lines" "firstWords" "[I", Cond.fieldLink RX2 21 "ContentsFinder$Listing" "lastWords" "[I", Cond.fieldLink RX2 97 "ContentsFinder$Lines" "lastWords" "[I", Cond.fieldLink RX2 9 "ContentsFinder$Listing" "level" "[I", Cond.methodLink RX2 98 Lib.Math.abs.name, Cond.static Lib.Math.abs.name, Cond.code Lib.Math.abs.name Lib.Math.abs.code 1 (some .int), Cond.fieldLink RX2 50 "ContentsFinder$Listing" "pages" "LContentsFinder$Pages;", Cond.fieldLink RX2 102 "ContentsFinder$Pages" "readNumber" "[I", Cond.fieldLink RX2 107 "ContentsFinder$Lines" "page" "[I", Cond.fieldLink RX2 15 "ContentsFinder$Listing" "number" "[I", Cond.methodLink RX2 94 yX2_unlikePlaces, Cond.static yX2_unlikePlaces, Cond.code yX2_unlikePlaces cX2_unlikePlaces 4 (some .int), Cond.methodLink RX2 69 yX2_tellPartners, Cond.instanceMethod yX2_tellPartners, Cond.selects RX2 yX2_tellPartners yX2_tellPartners, Cond.code yX2_tellPartners cX2_tellPartners 4 none, Cond.fieldLink RX2 28 "ContentsFinder$Listing" "partnerOfEntry" "[I"]
def wsX2_hold_r3 : List Cond := [Cond.fieldLink RX2 31 "ContentsFinder$Listing" "partnerOfLine" "[I", Cond.methodLink RX2 110 yJ7_fill_53178, Cond.static yJ7_fill_53178, Cond.initialized RJ7, Cond.code yJ7_fill_53178 cJ7_fill_53178 4 none, Cond.methodLink RX2 116 yX2_firstCheapHead, Cond.instanceMethod yX2_firstCheapHead, Cond.selects RX2 yX2_firstCheapHead yX2_firstCheapHead, Cond.code yX2_firstCheapHead cX2_firstCheapHead 7 (some .int)]
def wsX2_hold : List Cond := .code yX2_hold cX2_hold 3 none :: ((wsX2_hold_r1 ++ (wsX2_hold_r2 ++ wsX2_hold_r3)) ++ wsX20 ++ wsX10 ++ wsX60 ++ wsX40 ++ wsX30)
def wsX3_init : List Cond := .code yX3_init cX3_init 1 none :: ([.methodLink RX3 3 objectInit, .instanceMethod objectInit, .code objectInit ⟨#[0xb1]⟩ 1 none, .arrayClass .int, .fieldLink RX3 9 "ContentsFinder$Pages" "readNumber" "[I", .fieldLink RX3 15 "ContentsFinder$Pages" "count" "I"] ++ wsX30)
def wsX3_begin : List Cond := .code yX3_begin cX3_begin 2 none :: ([.fieldLink RX3 15 "ContentsFinder$Pages" "count" "I", .fieldLink RX3 9 "ContentsFinder$Pages" "readNumber" "[I", .methodLink RX3 19 yJ7_fill_53178, .static yJ7_fill_53178, .initialized RJ7, .code yJ7_fill_53178 cJ7_fill_53178 4 none] ++ wsX30)
def wsX3_has : List Cond := .code yX3_has cX3_has 2 (some .boolean) :: ([.fieldLink RX3 15 "ContentsFinder$Pages" "count" "I", .static yX7_isWithin, .initialized RX7, .code yX7_isWithin cX7_isWithin 3 (some .boolean)] ++ wsX30)
def wsX4_init : List Cond := .code yX4_init cX4_init 1 none :: ([.methodLink RX4 1 objectInit, .instanceMethod objectInit, .code objectInit ⟨#[0xb1]⟩ 1 none, .arrayClass .int, .fieldLink RX4 7 "ContentsFinder$Settings" "prices" "[I", .fieldLink RX4 13 "ContentsFinder$Settings" "wants" "[I", .fieldLink RX4 16 "ContentsFinder$Settings" "many" "I"] ++ wsX40)
def wsX5_init : List Cond := .code yX5_init cX5_init 3 none :: ([.methodLink RX5 5 objectInit, .instanceMethod objectInit, .code objectInit ⟨#[0xb1]⟩ 1 none, .arrayClass .int, .fieldLink RX5 11 "ContentsFinder$Shifts" "shiftOfPage" "[I", .fieldLink RX5 15 "ContentsFinder$Shifts" "firstOfPage" "[I", .fieldLink RX5 18 "ContentsFinder$Shifts" "cost" "I", .fieldLink RX5 22 "ContentsFinder$Shifts" "spans" "I", .fieldLink RX5 25 "ContentsFinder$Shifts" "wrongs" "I", .fieldLink RX5 28 "ContentsFinder$Shifts" "least" "[I", .fieldLink RX5 31 "ContentsFinder$Shifts" "behind" "[I", .fieldLink RX5 34 "ContentsFinder$Shifts" "timesOfShift" "[I", .fieldLink RX5 37 "ContentsFinder$Shifts" "pages" "LContentsFinder$Pages;", .fieldLink RX5 41 "ContentsFinder$Shifts" "settings" "LContentsFinder$Settings;"] ++ wsX50)
def wsX5_shiftPlace : List Cond := .code yX5_shiftPlace cX5_shiftPlace 2 (some .int) :: ([.fieldLink RX5 37 "ContentsFinder$Shifts" "pages" "LContentsFinder$Pages;", .fieldLink RX5 67 "ContentsFinder$Pages" "readNumber" "[I"] ++ wsX50 ++ wsX30)
def wsX5_addTime : List Cond := .code yX5_addTime cX5_addTime 3 (some .int) :: ([.fieldLink RX5 34 "ContentsFinder$Shifts" "timesOfShift" "[I", .methodLink RX5 80 yX5_shiftPlace, .instanceMethod yX5_shiftPlace, .selects RX5 yX5_shiftPlace yX5_shiftPlace, .initialized RX5, .code yX5_shiftPlace cX5_shiftPlace 2 (some .int), .fieldLink RX5 37 "ContentsFinder$Shifts" "pages" "LContentsFinder$Pages;", .fieldLink RX5 67 "ContentsFinder$Pages" "readNumber" "[I"] ++ wsX50 ++ wsX30)
def wsX5_findFirstSpan : List Cond := .code yX5_findFirstSpan cX5_findFirstSpan 8 none :: ([.fieldLink RX5 41 "ContentsFinder$Shifts" "settings" "LContentsFinder$Settings;", .fieldLink RX5 61 "ContentsFinder$Settings" "prices" "[I", .fieldLink RX5 28 "ContentsFinder$Shifts" "least" "[I", .constant RX5 66 (1073741824), .fieldLink RX5 37 "ContentsFinder$Shifts" "pages" "LContentsFinder$Pages;", .fieldLink RX5 45 "ContentsFinder$Pages" "count" "I", .fieldLink RX5 67 "ContentsFinder$Pages" "readNumber" "[I", .methodLink RX5 74 Lib.Math.max.name, .static Lib.Math.max.name, .initialized "java/lang/Math", .code Lib.Math.max.name Lib.Math.max.code 2 (some .int), .fieldLink RX5 31 "ContentsFinder$Shifts" "behind" "[I", .methodLink RX5 70 yX5_addTime, .instanceMethod yX5_addTime, .selects RX5 yX5_addTime yX5_addTime, .initialized RX5, .code yX5_addTime cX5_addTime 3 (some .int), .fieldLink RX5 34 "ContentsFinder$Shifts" "timesOfShift" "[I", .methodLink RX5 80 yX5_shiftPlace, .instanceMethod yX5_shiftPlace, .selects RX5 yX5_shiftPlace yX5_shiftPlace, .code yX5_shiftPlace cX5_shiftPlace 2 (some .int)] ++ wsX50 ++ wsX40 ++ wsX30)
def wsX5_forgetTimes : List Cond := .code yX5_forgetTimes cX5_forgetTimes 4 none :: ([.fieldLink RX5 34 "ContentsFinder$Shifts" "timesOfShift" "[I", .methodLink RX5 80 yX5_shiftPlace, .instanceMethod yX5_shiftPlace, .selects RX5 yX5_shiftPlace yX5_shiftPlace, .initialized RX5, .code yX5_shiftPlace cX5_shiftPlace 2 (some .int), .fieldLink RX5 37 "ContentsFinder$Shifts" "pages" "LContentsFinder$Pages;", .fieldLink RX5 67 "ContentsFinder$Pages" "readNumber" "[I"] ++ wsX50 ++ wsX30)
def wsX5_bestShift : List Cond := .code yX5_bestShift cX5_bestShift 8 (some .int) :: ([.fieldLink RX5 37 "ContentsFinder$Shifts" "pages" "LContentsFinder$Pages;", .fieldLink RX5 67 "ContentsFinder$Pages" "readNumber" "[I", .methodLink RX5 70 yX5_addTime, .instanceMethod yX5_addTime, .selects RX5 yX5_addTime yX5_addTime, .initialized RX5, .code yX5_addTime cX5_addTime 3 (some .int), .fieldLink RX5 34 "ContentsFinder$Shifts" "timesOfShift" "[I", .methodLink RX5 80 yX5_shiftPlace, .instanceMethod yX5_shiftPlace, .selects RX5 yX5_shiftPlace yX5_shiftPlace, .code yX5_shiftPlace cX5_shiftPlace 2 (some .int), .methodLink RX5 54 yX5_forgetTimes, .instanceMethod yX5_forgetTimes, .selects RX5 yX5_forgetTimes yX5_forgetTimes, .code yX5_forgetTimes cX5_forgetTimes 4 none] ++ wsX50 ++ wsX30)
def wsX5_isWrong : List Cond := .code yX5_isWrong cX5_isWrong 3 (some .boolean) :: ([.fieldLink RX5 37 "ContentsFinder$Shifts" "pages" "LContentsFinder$Pages;", .fieldLink RX5 67 "ContentsFinder$Pages" "readNumber" "[I", .fieldLink RX5 11 "ContentsFinder$Shifts" "shiftOfPage" "[I"] ++ wsX50 ++ wsX30)
def wsX5_tellSpans_r1 : List Cond := [Cond.fieldLink RX5 25 "ContentsFinder$Shifts" "wrongs" "I", Cond.fieldLink RX5 37 "ContentsFinder$Shifts" "pages" "LContentsFinder$Pages;", Cond.fieldLink RX5 45 "ContentsFinder$Pages" "count" "I", Cond.fieldLink RX5 31 "ContentsFinder$Shifts" "behind" "[I", Cond.fieldLink RX5 15 "ContentsFinder$Shifts" "firstOfPage" "[I", Cond.fieldLink RX5 11 "ContentsFinder$Shifts" "shiftOfPage" "[I", Cond.methodLink RX5 83 yX5_bestShift, Cond.instanceMethod yX5_bestShift, Cond.selects RX5 yX5_bestShift yX5_bestShift, Cond.initialized RX5, Cond.code yX5_bestShift cX5_bestShift 8 (some .int), Cond.fieldLink RX5 67 "ContentsFinder$Pages" "readNumber" "[I", Cond.methodLink RX5 70 yX5_addTime, Cond.instanceMethod yX5_addTime, Cond.selects RX5 yX5_addTime yX5_addTime, Cond.code yX5_addTime cX5_addTime 3 (some .int), Cond.fieldLink RX5 34 "ContentsFinder$Shifts" "timesOfShift" "[I", Cond.methodLink RX5 80 yX5_shiftPlace, Cond.instanceMethod yX5_shiftPlace, Cond.selects RX5 yX5_shiftPlace yX5_shiftPlace, Cond.code yX5_shiftPlace cX5_shiftPlace 2 (some .int), Cond.methodLink RX5 54 yX5_forgetTimes, Cond.instanceMethod yX5_forgetTimes, Cond.selects RX5 yX5_forgetTimes yX5_forgetTimes]
def wsX5_tellSpans_r2 : List Cond := [Cond.code yX5_forgetTimes cX5_forgetTimes 4 none, Cond.methodLink RX5 86 yX5_isWrong, Cond.instanceMethod yX5_isWrong, Cond.selects RX5 yX5_isWrong yX5_isWrong, Cond.code yX5_isWrong cX5_isWrong 3 (some .boolean)]
def wsX5_tellSpans : List Cond := .code yX5_tellSpans cX5_tellSpans 5 none :: ((wsX5_tellSpans_r1 ++ wsX5_tellSpans_r2) ++ wsX50 ++ wsX30)
def wsX5_explain_r1 : List Cond := [Cond.fieldLink RX5 28 "ContentsFinder$Shifts" "least" "[I", Cond.fieldLink RX5 37 "ContentsFinder$Shifts" "pages" "LContentsFinder$Pages;", Cond.fieldLink RX5 45 "ContentsFinder$Pages" "count" "I", Cond.fieldLink RX5 18 "ContentsFinder$Shifts" "cost" "I", Cond.fieldLink RX5 22 "ContentsFinder$Shifts" "spans" "I", Cond.methodLink RX5 50 yX5_findFirstSpan, Cond.instanceMethod yX5_findFirstSpan, Cond.selects RX5 yX5_findFirstSpan yX5_findFirstSpan, Cond.initialized RX5, Cond.code yX5_findFirstSpan cX5_findFirstSpan 8 none, Cond.fieldLink RX5 41 "ContentsFinder$Shifts" "settings" "LContentsFinder$Settings;", Cond.fieldLink RX5 61 "ContentsFinder$Settings" "prices" "[I", Cond.constant RX5 66 (1073741824), Cond.fieldLink RX5 67 "ContentsFinder$Pages" "readNumber" "[I", Cond.methodLink RX5 74 Lib.Math.max.name, Cond.static Lib.Math.max.name, Cond.initialized "java/lang/Math", Cond.code Lib.Math.max.name Lib.Math.max.code 2 (some .int), Cond.fieldLink RX5 31 "ContentsFinder$Shifts" "behind" "[I", Cond.methodLink RX5 70 yX5_addTime, Cond.instanceMethod yX5_addTime, Cond.selects RX5 yX5_addTime yX5_addTime, Cond.code yX5_addTime cX5_addTime 3 (some .int), Cond.fieldLink RX5 34 "ContentsFinder$Shifts" "timesOfShift" "[I"]
def wsX5_explain_r2 : List Cond := [Cond.methodLink RX5 80 yX5_shiftPlace, Cond.instanceMethod yX5_shiftPlace, Cond.selects RX5 yX5_shiftPlace yX5_shiftPlace, Cond.code yX5_shiftPlace cX5_shiftPlace 2 (some .int), Cond.methodLink RX5 54 yX5_forgetTimes, Cond.instanceMethod yX5_forgetTimes, Cond.selects RX5 yX5_forgetTimes yX5_forgetTimes, Cond.code yX5_forgetTimes cX5_forgetTimes 4 none, Cond.methodLink RX5 58 yX5_tellSpans, Cond.instanceMethod yX5_tellSpans, Cond.selects RX5 yX5_tellSpans yX5_tellSpans, Cond.code yX5_tellSpans cX5_tellSpans 5 none, Cond.fieldLink RX5 25 "ContentsFinder$Shifts" "wrongs" "I", Cond.fieldLink RX5 15 "ContentsFinder$Shifts" "firstOfPage" "[I", Cond.fieldLink RX5 11 "ContentsFinder$Shifts" "shiftOfPage" "[I", Cond.methodLink RX5 83 yX5_bestShift, Cond.instanceMethod yX5_bestShift, Cond.selects RX5 yX5_bestShift yX5_bestShift, Cond.code yX5_bestShift cX5_bestShift 8 (some .int), Cond.methodLink RX5 86 yX5_isWrong, Cond.instanceMethod yX5_isWrong, Cond.selects RX5 yX5_isWrong yX5_isWrong, Cond.code yX5_isWrong cX5_isWrong 3 (some .boolean)]
def wsX5_explain : List Cond := .code yX5_explain cX5_explain 2 none :: ((wsX5_explain_r1 ++ wsX5_explain_r2) ++ wsX50 ++ wsX30 ++ wsX40)
def wsJ7_fill_d0a16 : List Cond := .code yJ7_fill_d0a16 cJ7_fill_d0a16 5 none :: ([])
def wsX6_init_r1 : List Cond := [Cond.methodLink RX6 3 objectInit, Cond.instanceMethod objectInit, Cond.code objectInit ⟨#[0xb1]⟩ 1 none, Cond.arrayClass .boolean, Cond.fieldLink RX6 9 "ContentsFinder$Tree" "running" "[Z", Cond.arrayClass .int, Cond.fieldLink RX6 15 "ContentsFinder$Tree" "levels" "[I", Cond.fieldLink RX6 19 "ContentsFinder$Tree" "countersBehind" "[I", Cond.fieldLink RX6 22 "ContentsFinder$Tree" "heads" "I", Cond.fieldLink RX6 26 "ContentsFinder$Tree" "cost" "I", Cond.fieldLink RX6 29 "ContentsFinder$Tree" "caps" "[I", Cond.arrayClass .long, Cond.fieldLink RX6 34 "ContentsFinder$Tree" "keys" "[J", Cond.fieldLink RX6 38 "ContentsFinder$Tree" "nextKeys" "[J", Cond.fieldLink RX6 41 "ContentsFinder$Tree" "states" "[I", Cond.fieldLink RX6 44 "ContentsFinder$Tree" "nextStates" "[I", Cond.fieldLink RX6 47 "ContentsFinder$Tree" "reached" "I", Cond.fieldLink RX6 50 "ContentsFinder$Tree" "nextReached" "I", Cond.fieldLink RX6 53 "ContentsFinder$Tree" "lines" "LContentsFinder$Lines;", Cond.fieldLink RX6 57 "ContentsFinder$Tree" "settings" "LContentsFinder$Settings;", Cond.classLink RX6 32 RX0, Cond.instantiable RX0 2, Cond.initialized RX0, Cond.fieldLink RX6 64 "ContentsFinder$Tree" "counters" "LContentsFinder$Counters;"]
def wsX6_init_r2 : List Cond := [Cond.constantLong RX6 68 (1152921504606846976), Cond.methodLink RX6 61 yX0_init, Cond.instanceMethod yX0_init, Cond.code yX0_init cX0_init 2 none, Cond.methodLink RX0 5 objectInit, Cond.fieldLink RX0 11 "ContentsFinder$Counters" "at" "[I", Cond.fieldLink RX0 15 "ContentsFinder$Counters" "lines" "LContentsFinder$Lines;", Cond.methodLink RX6 70 yJ7_fill_d0a16, Cond.static yJ7_fill_d0a16, Cond.initialized RJ7, Cond.code yJ7_fill_d0a16 cJ7_fill_d0a16 5 none]
def wsX6_init : List Cond := .code yX6_init cX6_init 3 none :: ((wsX6_init_r1 ++ wsX6_init_r2) ++ wsX60 ++ wsX00)
def wsX6_findCapsBehind : List Cond := .code yX6_findCapsBehind cX6_findCapsBehind 5 none :: ([.fieldLink RX6 53 "ContentsFinder$Tree" "lines" "LContentsFinder$Lines;", .fieldLink RX6 76 "ContentsFinder$Lines" "count" "I", .methodLink RX6 112 Lib.Math.max.name, .static Lib.Math.max.name, .initialized "java/lang/Math", .code Lib.Math.max.name Lib.Math.max.code 2 (some .int), .fieldLink RX6 29 "ContentsFinder$Tree" "caps" "[I", .methodLink RX6 108 yX1_partAt, .instanceMethod yX1_partAt, .selects RX1 yX1_partAt yX1_partAt, .initialized RX1, .code yX1_partAt cX1_partAt 3 (some .int), .fieldLink RX1 34 "ContentsFinder$Lines" "part" "[I"] ++ wsX60 ++ wsX10)
def wsX6_textCost : List Cond := .code yX6_textCost cX6_textCost 2 (some .int) :: ([.fieldLink RX6 9 "ContentsFinder$Tree" "running" "[Z", .fieldLink RX6 53 "ContentsFinder$Tree" "lines" "LContentsFinder$Lines;", .fieldLink RX6 57 "ContentsFinder$Tree" "settings" "LContentsFinder$Settings;", .fieldLink RX6 152 "ContentsFinder$Settings" "prices" "[I", .methodLink RX6 149 yX1_look, .instanceMethod yX1_look, .selects RX1 yX1_look yX1_look, .initialized RX1, .code yX1_look cX1_look 2 (some .int), .fieldLink RX1 15 "ContentsFinder$Lines" "size" "[I", .fieldLink RX1 18 "ContentsFinder$Lines" "blank" "[I", .fieldLink RX1 21 "ContentsFinder$Lines" "centred" "[Z"] ++ wsX60 ++ wsX40 ++ wsX10)
def wsX6_headCost : List Cond := .code yX6_headCost cX6_headCost 6 (some .int) :: ([.fieldLink RX6 53 "ContentsFinder$Tree" "lines" "LContentsFinder$Lines;", .fieldLink RX6 57 "ContentsFinder$Tree" "settings" "LContentsFinder$Settings;", .fieldLink RX6 155 "ContentsFinder$Settings" "wants" "[I", .methodLink RX6 158 Lib.Math.abs.name, .static Lib.Math.abs.name, .initialized "java/lang/Math", .code Lib.Math.abs.name Lib.Math.abs.code 1 (some .int), .fieldLink RX6 152 "ContentsFinder$Settings" "prices" "[I", .fieldLink RX6 161 "ContentsFinder$Lines" "parts" "[I", .fieldLink RX6 64 "ContentsFinder$Tree" "counters" "LContentsFinder$Counters;", .fieldLink RX6 164 "ContentsFinder$Counters" "at" "[I", .methodLink RX6 149 yX1_look, .instanceMethod yX1_look, .selects RX1 yX1_look yX1_look, .initialized RX1, .code yX1_look cX1_look 2 (some .int), .fieldLink RX1 15 "ContentsFinder$Lines" "size" "[I", .fieldLink RX1 18 "ContentsFinder$Lines" "blank" "[I", .fieldLink RX1 21 "ContentsFinder$Lines" "centred" "[Z", .methodLink RX6 108 yX1_partAt, .instanceMethod yX1_partAt, .selects RX1 yX1_partAt yX1_partAt, .code yX1_partAt cX1_partAt 3 (some .int), .fieldLink RX1 34 "ContentsFinder$Lines" "part" "[I"] ++ wsX60 ++ wsX40 ++ wsX10 ++ wsX00)
def wsX6_offer_r1 : List Cond := [Cond.fieldLink RX6 64 "ContentsFinder$Tree" "counters" "LContentsFinder$Counters;", Cond.fieldLink RX6 29 "ContentsFinder$Tree" "caps" "[I", Cond.fieldLink RX6 38 "ContentsFinder$Tree" "nextKeys" "[J", Cond.constantLong RX6 68 (1152921504606846976), Cond.fieldLink RX6 44 "ContentsFinder$Tree" "nextStates" "[I", Cond.fieldLink RX6 50 "ContentsFinder$Tree" "nextReached" "I", Cond.methodLink RX6 145 Lib.MathLoose.min_long.x, Cond.static Lib.MathLoose.min_long.x, Cond.initialized "java/lang/Math", Cond.code Lib.MathLoose.min_long.x Lib.MathLoose.min_long.code 4 (some .long), Cond.methodLink RX6 130 yX6_textCost, Cond.instanceMethod yX6_textCost, Cond.selects RX6 yX6_textCost yX6_textCost, Cond.initialized RX6, Cond.code yX6_textCost cX6_textCost 2 (some .int), Cond.fieldLink RX6 9 "ContentsFinder$Tree" "running" "[Z", Cond.fieldLink RX6 53 "ContentsFinder$Tree" "lines" "LContentsFinder$Lines;", Cond.fieldLink RX6 57 "ContentsFinder$Tree" "settings" "LContentsFinder$Settings;", Cond.fieldLink RX6 152 "ContentsFinder$Settings" "prices" "[I", Cond.methodLink RX6 149 yX1_look, Cond.instanceMethod yX1_look, Cond.selects RX1 yX1_look yX1_look, Cond.initialized RX1, Cond.code yX1_look cX1_look 2 (some .int)]
def wsX6_offer_r2 : List Cond := [Cond.fieldLink RX1 15 "ContentsFinder$Lines" "size" "[I", Cond.fieldLink RX1 18 "ContentsFinder$Lines" "blank" "[I", Cond.fieldLink RX1 21 "ContentsFinder$Lines" "centred" "[Z", Cond.methodLink RX6 134 yX6_headCost, Cond.instanceMethod yX6_headCost, Cond.selects RX6 yX6_headCost yX6_headCost, Cond.code yX6_headCost cX6_headCost 6 (some .int), Cond.fieldLink RX6 155 "ContentsFinder$Settings" "wants" "[I", Cond.methodLink RX6 158 Lib.Math.abs.name, Cond.static Lib.Math.abs.name, Cond.code Lib.Math.abs.name Lib.Math.abs.code 1 (some .int), Cond.fieldLink RX6 161 "ContentsFinder$Lines" "parts" "[I", Cond.fieldLink RX6 164 "ContentsFinder$Counters" "at" "[I", Cond.methodLink RX6 108 yX1_partAt, Cond.instanceMethod yX1_partAt, Cond.selects RX1 yX1_partAt yX1_partAt, Cond.code yX1_partAt cX1_partAt 3 (some .int), Cond.fieldLink RX1 34 "ContentsFinder$Lines" "part" "[I", Cond.methodLink RX6 137 yX0_passHead, Cond.instanceMethod yX0_passHead, Cond.selects RX0 yX0_passHead yX0_passHead, Cond.initialized RX0, Cond.code yX0_passHead cX0_passHead 4 none, Cond.fieldLink RX0 11 "ContentsFinder$Counters" "at" "[I"]
def wsX6_offer_r3 : List Cond := [Cond.fieldLink RX0 15 "ContentsFinder$Counters" "lines" "LContentsFinder$Lines;", Cond.fieldLink RX0 19 "ContentsFinder$Lines" "parts" "[I", Cond.methodLink RX0 24 yX1_partAt, Cond.methodLink RX6 141 yX0_pack, Cond.instanceMethod yX0_pack, Cond.selects RX0 yX0_pack yX0_pack, Cond.code yX0_pack cX0_pack 4 (some .int)]
def wsX6_offer : List Cond := .code yX6_offer cX6_offer 10 none :: ((wsX6_offer_r1 ++ (wsX6_offer_r2 ++ wsX6_offer_r3)) ++ wsX60 ++ wsX40 ++ wsX10 ++ wsX00)
def wsX6_swapRows : List Cond := .code yX6_swapRows cX6_swapRows 3 none :: ([.fieldLink RX6 34 "ContentsFinder$Tree" "keys" "[J", .fieldLink RX6 38 "ContentsFinder$Tree" "nextKeys" "[J", .fieldLink RX6 41 "ContentsFinder$Tree" "states" "[I", .fieldLink RX6 44 "ContentsFinder$Tree" "nextStates" "[I", .fieldLink RX6 50 "ContentsFinder$Tree" "nextReached" "I", .fieldLink RX6 47 "ContentsFinder$Tree" "reached" "I"] ++ wsX60)
def wsX6_passLine_r1 : List Cond := [Cond.fieldLink RX6 9 "ContentsFinder$Tree" "running" "[Z", Cond.fieldLink RX6 50 "ContentsFinder$Tree" "nextReached" "I", Cond.fieldLink RX6 47 "ContentsFinder$Tree" "reached" "I", Cond.fieldLink RX6 41 "ContentsFinder$Tree" "states" "[I", Cond.fieldLink RX6 34 "ContentsFinder$Tree" "keys" "[J", Cond.constantLong RX6 68 (1152921504606846976), Cond.fieldLink RX6 64 "ContentsFinder$Tree" "counters" "LContentsFinder$Counters;", Cond.methodLink RX6 117 yX0_unpack, Cond.instanceMethod yX0_unpack, Cond.selects RX0 yX0_unpack yX0_unpack, Cond.initialized RX0, Cond.code yX0_unpack cX0_unpack 2 none, Cond.fieldLink RX0 11 "ContentsFinder$Counters" "at" "[I", Cond.methodLink RX6 120 yX0_allowHead, Cond.instanceMethod yX0_allowHead, Cond.selects RX0 yX0_allowHead yX0_allowHead, Cond.code yX0_allowHead cX0_allowHead 5 (some .boolean), Cond.fieldLink RX0 15 "ContentsFinder$Counters" "lines" "LContentsFinder$Lines;", Cond.fieldLink RX0 19 "ContentsFinder$Lines" "parts" "[I", Cond.methodLink RX0 24 yX1_partAt, Cond.instanceMethod yX1_partAt, Cond.selects RX1 yX1_partAt yX1_partAt, Cond.initialized RX1, Cond.code yX1_partAt cX1_partAt 3 (some .int)]
def wsX6_passLine_r2 : List Cond := [Cond.fieldLink RX1 34 "ContentsFinder$Lines" "part" "[I", Cond.methodLink RX6 123 yX6_offer, Cond.instanceMethod yX6_offer, Cond.selects RX6 yX6_offer yX6_offer, Cond.initialized RX6, Cond.code yX6_offer cX6_offer 10 none, Cond.fieldLink RX6 29 "ContentsFinder$Tree" "caps" "[I", Cond.fieldLink RX6 38 "ContentsFinder$Tree" "nextKeys" "[J", Cond.fieldLink RX6 44 "ContentsFinder$Tree" "nextStates" "[I", Cond.methodLink RX6 145 Lib.MathLoose.min_long.x, Cond.static Lib.MathLoose.min_long.x, Cond.initialized "java/lang/Math", Cond.code Lib.MathLoose.min_long.x Lib.MathLoose.min_long.code 4 (some .long), Cond.methodLink RX6 130 yX6_textCost, Cond.instanceMethod yX6_textCost, Cond.selects RX6 yX6_textCost yX6_textCost, Cond.code yX6_textCost cX6_textCost 2 (some .int), Cond.fieldLink RX6 53 "ContentsFinder$Tree" "lines" "LContentsFinder$Lines;", Cond.fieldLink RX6 57 "ContentsFinder$Tree" "settings" "LContentsFinder$Settings;", Cond.fieldLink RX6 152 "ContentsFinder$Settings" "prices" "[I", Cond.methodLink RX6 149 yX1_look, Cond.instanceMethod yX1_look, Cond.selects RX1 yX1_look yX1_look, Cond.code yX1_look cX1_look 2 (some .int)]
def wsX6_passLine_r3 : List Cond := [Cond.fieldLink RX1 15 "ContentsFinder$Lines" "size" "[I", Cond.fieldLink RX1 18 "ContentsFinder$Lines" "blank" "[I", Cond.fieldLink RX1 21 "ContentsFinder$Lines" "centred" "[Z", Cond.methodLink RX6 134 yX6_headCost, Cond.instanceMethod yX6_headCost, Cond.selects RX6 yX6_headCost yX6_headCost, Cond.code yX6_headCost cX6_headCost 6 (some .int), Cond.fieldLink RX6 155 "ContentsFinder$Settings" "wants" "[I", Cond.methodLink RX6 158 Lib.Math.abs.name, Cond.static Lib.Math.abs.name, Cond.code Lib.Math.abs.name Lib.Math.abs.code 1 (some .int), Cond.fieldLink RX6 161 "ContentsFinder$Lines" "parts" "[I", Cond.fieldLink RX6 164 "ContentsFinder$Counters" "at" "[I", Cond.methodLink RX6 108 yX1_partAt, Cond.methodLink RX6 137 yX0_passHead, Cond.instanceMethod yX0_passHead, Cond.selects RX0 yX0_passHead yX0_passHead, Cond.code yX0_passHead cX0_passHead 4 none, Cond.methodLink RX6 141 yX0_pack, Cond.instanceMethod yX0_pack, Cond.selects RX0 yX0_pack yX0_pack, Cond.code yX0_pack cX0_pack 4 (some .int), Cond.methodLink RX6 127 yX6_swapRows, Cond.instanceMethod yX6_swapRows]
def wsX6_passLine_r4 : List Cond := [Cond.selects RX6 yX6_swapRows yX6_swapRows, Cond.code yX6_swapRows cX6_swapRows 3 none]
def wsX6_passLine : List Cond := .code yX6_passLine cX6_passLine 8 none :: ((wsX6_passLine_r1 ++ (wsX6_passLine_r2 ++ (wsX6_passLine_r3 ++ wsX6_passLine_r4))) ++ wsX60 ++ wsX00 ++ wsX10 ++ wsX40)
def wsX6_takeLeastKey : List Cond := .code yX6_takeLeastKey cX6_takeLeastKey 4 (some .long) :: ([.constantLong RX6 68 (1152921504606846976), .fieldLink RX6 47 "ContentsFinder$Tree" "reached" "I", .fieldLink RX6 34 "ContentsFinder$Tree" "keys" "[J", .fieldLink RX6 41 "ContentsFinder$Tree" "states" "[I", .methodLink RX6 145 Lib.MathLoose.min_long.x, .static Lib.MathLoose.min_long.x, .initialized "java/lang/Math", .code Lib.MathLoose.min_long.x Lib.MathLoose.min_long.code 4 (some .long)] ++ wsX60)
def wsX6_tellLevels : List Cond := .code yX6_tellLevels cX6_tellLevels 4 none :: ([.fieldLink RX6 26 "ContentsFinder$Tree" "cost" "I", .fieldLink RX6 22 "ContentsFinder$Tree" "heads" "I", .fieldLink RX6 53 "ContentsFinder$Tree" "lines" "LContentsFinder$Lines;", .fieldLink RX6 76 "ContentsFinder$Lines" "count" "I", .fieldLink RX6 15 "ContentsFinder$Tree" "levels" "[I", .constantLong RX6 167 (3)] ++ wsX60 ++ wsX10)
def wsX6_tellCounters : List Cond := .code yX6_tellCounters cX6_tellCounters 3 none :: ([.fieldLink RX6 64 "ContentsFinder$Tree" "counters" "LContentsFinder$Counters;", .fieldLink RX6 53 "ContentsFinder$Tree" "lines" "LContentsFinder$Lines;", .fieldLink RX6 76 "ContentsFinder$Lines" "count" "I", .fieldLink RX6 15 "ContentsFinder$Tree" "levels" "[I", .fieldLink RX6 19 "ContentsFinder$Tree" "countersBehind" "[I", .fieldLink RX6 164 "ContentsFinder$Counters" "at" "[I", .methodLink RX6 117 yX0_unpack, .instanceMethod yX0_unpack, .selects RX0 yX0_unpack yX0_unpack, .initialized RX0, .code yX0_unpack cX0_unpack 2 none, .fieldLink RX0 11 "ContentsFinder$Counters" "at" "[I", .methodLink RX6 137 yX0_passHead, .instanceMethod yX0_passHead, .selects RX0 yX0_passHead yX0_passHead, .code yX0_passHead cX0_passHead 4 none, .fieldLink RX0 15 "ContentsFinder$Counters" "lines" "LContentsFinder$Lines;", .fieldLink RX0 19 "ContentsFinder$Lines" "parts" "[I", .methodLink RX0 24 yX1_partAt, .instanceMethod yX1_partAt, .selects RX1 yX1_partAt yX1_partAt, .initialized RX1, .code yX1_partAt cX1_partAt 3 (some .int), .fieldLink RX1 34 "ContentsFinder$Lines" "part" "[I"] ++ wsX60 ++ wsX10 ++ wsX00)
def wsX6_search_r1 : List Cond := [Cond.fieldLink RX6 53 "ContentsFinder$Tree" "lines" "LContentsFinder$Lines;", Cond.fieldLink RX6 76 "ContentsFinder$Lines" "count" "I", Cond.fieldLink RX6 9 "ContentsFinder$Tree" "running" "[Z", Cond.fieldLink RX6 57 "ContentsFinder$Tree" "settings" "LContentsFinder$Settings;", Cond.fieldLink RX6 81 "ContentsFinder$Settings" "many" "I", Cond.fieldLink RX6 47 "ContentsFinder$Tree" "reached" "I", Cond.fieldLink RX6 41 "ContentsFinder$Tree" "states" "[I", Cond.fieldLink RX6 34 "ContentsFinder$Tree" "keys" "[J", Cond.methodLink RX6 86 yX1_isRunning, Cond.instanceMethod yX1_isRunning, Cond.selects RX1 yX1_isRunning yX1_isRunning, Cond.initialized RX1, Cond.code yX1_isRunning cX1_isRunning 6 (some .boolean), Cond.fieldLink RX1 25 "ContentsFinder$Lines" "firstWords" "[I", Cond.fieldLink RX1 28 "ContentsFinder$Lines" "lastWords" "[I", Cond.fieldLink RX1 37 "ContentsFinder$Lines" "count" "I", Cond.fieldLink RX1 9 "ContentsFinder$Lines" "page" "[I", Cond.methodLink RX1 49 yX1_areAlike, Cond.instanceMethod yX1_areAlike, Cond.selects RX1 yX1_areAlike yX1_areAlike, Cond.code yX1_areAlike cX1_areAlike 3 (some .boolean), Cond.fieldLink RX1 15 "ContentsFinder$Lines" "size" "[I", Cond.methodLink RX6 90 yX6_findCapsBehind, Cond.instanceMethod yX6_findCapsBehind]
def wsX6_search_r2 : List Cond := [Cond.selects RX6 yX6_findCapsBehind yX6_findCapsBehind, Cond.initialized RX6, Cond.code yX6_findCapsBehind cX6_findCapsBehind 5 none, Cond.methodLink RX6 112 Lib.Math.max.name, Cond.static Lib.Math.max.name, Cond.initialized "java/lang/Math", Cond.code Lib.Math.max.name Lib.Math.max.code 2 (some .int), Cond.fieldLink RX6 29 "ContentsFinder$Tree" "caps" "[I", Cond.methodLink RX6 108 yX1_partAt, Cond.instanceMethod yX1_partAt, Cond.selects RX1 yX1_partAt yX1_partAt, Cond.code yX1_partAt cX1_partAt 3 (some .int), Cond.fieldLink RX1 34 "ContentsFinder$Lines" "part" "[I", Cond.methodLink RX6 94 yX6_passLine, Cond.instanceMethod yX6_passLine, Cond.selects RX6 yX6_passLine yX6_passLine, Cond.code yX6_passLine cX6_passLine 8 none, Cond.fieldLink RX6 50 "ContentsFinder$Tree" "nextReached" "I", Cond.constantLong RX6 68 (1152921504606846976), Cond.fieldLink RX6 64 "ContentsFinder$Tree" "counters" "LContentsFinder$Counters;", Cond.methodLink RX6 117 yX0_unpack, Cond.instanceMethod yX0_unpack, Cond.selects RX0 yX0_unpack yX0_unpack, Cond.initialized RX0]
def wsX6_search_r3 : List Cond := [Cond.code yX0_unpack cX0_unpack 2 none, Cond.fieldLink RX0 11 "ContentsFinder$Counters" "at" "[I", Cond.methodLink RX6 120 yX0_allowHead, Cond.instanceMethod yX0_allowHead, Cond.selects RX0 yX0_allowHead yX0_allowHead, Cond.code yX0_allowHead cX0_allowHead 5 (some .boolean), Cond.fieldLink RX0 15 "ContentsFinder$Counters" "lines" "LContentsFinder$Lines;", Cond.fieldLink RX0 19 "ContentsFinder$Lines" "parts" "[I", Cond.methodLink RX0 24 yX1_partAt, Cond.methodLink RX6 123 yX6_offer, Cond.instanceMethod yX6_offer, Cond.selects RX6 yX6_offer yX6_offer, Cond.code yX6_offer cX6_offer 10 none, Cond.fieldLink RX6 38 "ContentsFinder$Tree" "nextKeys" "[J", Cond.fieldLink RX6 44 "ContentsFinder$Tree" "nextStates" "[I", Cond.methodLink RX6 145 Lib.MathLoose.min_long.x, Cond.static Lib.MathLoose.min_long.x, Cond.code Lib.MathLoose.min_long.x Lib.MathLoose.min_long.code 4 (some .long), Cond.methodLink RX6 130 yX6_textCost, Cond.instanceMethod yX6_textCost, Cond.selects RX6 yX6_textCost yX6_textCost, Cond.code yX6_textCost cX6_textCost 2 (some .int), Cond.fieldLink RX6 152 "ContentsFinder$Settings" "prices" "[I", Cond.methodLink RX6 149 yX1_look]
def wsX6_search_r4 : List Cond := [Cond.instanceMethod yX1_look, Cond.selects RX1 yX1_look yX1_look, Cond.code yX1_look cX1_look 2 (some .int), Cond.fieldLink RX1 18 "ContentsFinder$Lines" "blank" "[I", Cond.fieldLink RX1 21 "ContentsFinder$Lines" "centred" "[Z", Cond.methodLink RX6 134 yX6_headCost, Cond.instanceMethod yX6_headCost, Cond.selects RX6 yX6_headCost yX6_headCost, Cond.code yX6_headCost cX6_headCost 6 (some .int), Cond.fieldLink RX6 155 "ContentsFinder$Settings" "wants" "[I", Cond.methodLink RX6 158 Lib.Math.abs.name, Cond.static Lib.Math.abs.name, Cond.code Lib.Math.abs.name Lib.Math.abs.code 1 (some .int), Cond.fieldLink RX6 161 "ContentsFinder$Lines" "parts" "[I", Cond.fieldLink RX6 164 "ContentsFinder$Counters" "at" "[I", Cond.methodLink RX6 137 yX0_passHead, Cond.instanceMethod yX0_passHead, Cond.selects RX0 yX0_passHead yX0_passHead, Cond.code yX0_passHead cX0_passHead 4 none, Cond.methodLink RX6 141 yX0_pack, Cond.instanceMethod yX0_pack, Cond.selects RX0 yX0_pack yX0_pack, Cond.code yX0_pack cX0_pack 4 (some .int), Cond.methodLink RX6 127 yX6_swapRows]
def wsX6_search_r5 : List Cond := [Cond.instanceMethod yX6_swapRows, Cond.selects RX6 yX6_swapRows yX6_swapRows, Cond.code yX6_swapRows cX6_swapRows 3 none, Cond.methodLink RX6 97 yX6_takeLeastKey, Cond.instanceMethod yX6_takeLeastKey, Cond.selects RX6 yX6_takeLeastKey yX6_takeLeastKey, Cond.code yX6_takeLeastKey cX6_takeLeastKey 4 (some .long), Cond.methodLink RX6 101 yX6_tellLevels, Cond.instanceMethod yX6_tellLevels, Cond.selects RX6 yX6_tellLevels yX6_tellLevels, Cond.code yX6_tellLevels cX6_tellLevels 4 none, Cond.fieldLink RX6 26 "ContentsFinder$Tree" "cost" "I", Cond.fieldLink RX6 22 "ContentsFinder$Tree" "heads" "I", Cond.fieldLink RX6 15 "ContentsFinder$Tree" "levels" "[I", Cond.constantLong RX6 167 (3), Cond.methodLink RX6 105 yX6_tellCounters, Cond.instanceMethod yX6_tellCounters, Cond.selects RX6 yX6_tellCounters yX6_tellCounters, Cond.code yX6_tellCounters cX6_tellCounters 3 none, Cond.fieldLink RX6 19 "ContentsFinder$Tree" "countersBehind" "[I"]
def wsX6_search : List Cond := .code yX6_search cX6_search 2 none :: ((wsX6_search_r1 ++ (wsX6_search_r2 ++ (wsX6_search_r3 ++ (wsX6_search_r4 ++ wsX6_search_r5)))) ++ wsX60 ++ wsX10 ++ wsX40 ++ wsX00)
def wsX6_lastPage : List Cond := .code yX6_lastPage cX6_lastPage 4 (some .int) :: ([.fieldLink RX6 15 "ContentsFinder$Tree" "levels" "[I", .fieldLink RX6 53 "ContentsFinder$Tree" "lines" "LContentsFinder$Lines;", .fieldLink RX6 76 "ContentsFinder$Lines" "count" "I", .fieldLink RX6 169 "ContentsFinder$Lines" "page" "[I"] ++ wsX60 ++ wsX10)
def wsX6_headAbove : List Cond := .code yX6_headAbove cX6_headAbove 3 (some .int) :: ([.fieldLink RX6 15 "ContentsFinder$Tree" "levels" "[I"] ++ wsX60)
def wsX7_init_r1 : List Cond := [Cond.methodLink RX7 1 objectInit, Cond.instanceMethod objectInit, Cond.code objectInit ⟨#[0xb1]⟩ 1 none, Cond.classLink RX7 7 RX4, Cond.instantiable RX4 3, Cond.initialized RX4, Cond.classLink RX7 10 RX3, Cond.instantiable RX3 2, Cond.initialized RX3, Cond.classLink RX7 13 RX1, Cond.instantiable RX1 9, Cond.initialized RX1, Cond.classLink RX7 16 RX6, Cond.instantiable RX6 15, Cond.initialized RX6, Cond.fieldLink RX7 21 "ContentsFinder" "settings" "LContentsFinder$Settings;", Cond.fieldLink RX7 27 "ContentsFinder" "pages" "LContentsFinder$Pages;", Cond.fieldLink RX7 31 "ContentsFinder" "lines" "LContentsFinder$Lines;", Cond.fieldLink RX7 35 "ContentsFinder" "tree" "LContentsFinder$Tree;", Cond.classLink RX7 39 RX2, Cond.instantiable RX2 15, Cond.initialized RX2, Cond.fieldLink RX7 44 "ContentsFinder" "listing" "LContentsFinder$Listing;", Cond.classLink RX7 48 RX5]
def wsX7_init_r2 : List Cond := [Cond.instantiable RX5 10, Cond.initialized RX5, Cond.fieldLink RX7 53 "ContentsFinder" "shifts" "LContentsFinder$Shifts;", Cond.fieldLink RX7 57 "ContentsFinder" "treeIsOld" "Z", Cond.fieldLink RX7 61 "ContentsFinder" "listingIsOld" "Z", Cond.fieldLink RX7 64 "ContentsFinder" "shiftsAreOld" "Z", Cond.instanceMethod yX4_init, Cond.code yX4_init cX4_init 1 none, Cond.methodLink RX4 1 objectInit, Cond.arrayClass .int, Cond.fieldLink RX4 7 "ContentsFinder$Settings" "prices" "[I", Cond.fieldLink RX4 13 "ContentsFinder$Settings" "wants" "[I", Cond.fieldLink RX4 16 "ContentsFinder$Settings" "many" "I", Cond.instanceMethod yX3_init, Cond.code yX3_init cX3_init 1 none, Cond.methodLink RX3 3 objectInit, Cond.fieldLink RX3 9 "ContentsFinder$Pages" "readNumber" "[I", Cond.fieldLink RX3 15 "ContentsFinder$Pages" "count" "I", Cond.instanceMethod yX1_init, Cond.code yX1_init cX1_init 1 none, Cond.methodLink RX1 3 objectInit, Cond.fieldLink RX1 9 "ContentsFinder$Lines" "page" "[I", Cond.fieldLink RX1 15 "ContentsFinder$Lines" "size" "[I", Cond.fieldLink RX1 18 "ContentsFinder$Lines" "blank" "[I"]
def wsX7_init_r3 : List Cond := [Cond.arrayClass .boolean, Cond.fieldLink RX1 21 "ContentsFinder$Lines" "centred" "[Z", Cond.fieldLink RX1 25 "ContentsFinder$Lines" "firstWords" "[I", Cond.fieldLink RX1 28 "ContentsFinder$Lines" "lastWords" "[I", Cond.fieldLink RX1 31 "ContentsFinder$Lines" "parts" "[I", Cond.fieldLink RX1 34 "ContentsFinder$Lines" "part" "[I", Cond.fieldLink RX1 37 "ContentsFinder$Lines" "count" "I", Cond.methodLink RX7 18 yX6_init, Cond.instanceMethod yX6_init, Cond.code yX6_init cX6_init 3 none, Cond.methodLink RX6 3 objectInit, Cond.fieldLink RX6 9 "ContentsFinder$Tree" "running" "[Z", Cond.fieldLink RX6 15 "ContentsFinder$Tree" "levels" "[I", Cond.fieldLink RX6 19 "ContentsFinder$Tree" "countersBehind" "[I", Cond.fieldLink RX6 22 "ContentsFinder$Tree" "heads" "I", Cond.fieldLink RX6 26 "ContentsFinder$Tree" "cost" "I", Cond.fieldLink RX6 29 "ContentsFinder$Tree" "caps" "[I", Cond.arrayClass .long, Cond.fieldLink RX6 34 "ContentsFinder$Tree" "keys" "[J", Cond.fieldLink RX6 38 "ContentsFinder$Tree" "nextKeys" "[J", Cond.fieldLink RX6 41 "ContentsFinder$Tree" "states" "[I", Cond.fieldLink RX6 44 "ContentsFinder$Tree" "nextStates" "[I", Cond.fieldLink RX6 47 "ContentsFinder$Tree" "reached" "I", Cond.fieldLink RX6 50 "ContentsFinder$Tree" "nextReached" "I"]
def wsX7_init_r4 : List Cond := [Cond.fieldLink RX6 53 "ContentsFinder$Tree" "lines" "LContentsFinder$Lines;", Cond.fieldLink RX6 57 "ContentsFinder$Tree" "settings" "LContentsFinder$Settings;", Cond.classLink RX6 32 RX0, Cond.instantiable RX0 2, Cond.initialized RX0, Cond.fieldLink RX6 64 "ContentsFinder$Tree" "counters" "LContentsFinder$Counters;", Cond.constantLong RX6 68 (1152921504606846976), Cond.methodLink RX6 61 yX0_init, Cond.instanceMethod yX0_init, Cond.code yX0_init cX0_init 2 none, Cond.methodLink RX0 5 objectInit, Cond.fieldLink RX0 11 "ContentsFinder$Counters" "at" "[I", Cond.fieldLink RX0 15 "ContentsFinder$Counters" "lines" "LContentsFinder$Lines;", Cond.methodLink RX6 70 yJ7_fill_d0a16, Cond.static yJ7_fill_d0a16, Cond.initialized RJ7, Cond.code yJ7_fill_d0a16 cJ7_fill_d0a16 5 none, Cond.methodLink RX7 41 yX2_init, Cond.instanceMethod yX2_init, Cond.code yX2_init cX2_init 5 none, Cond.methodLink RX2 3 objectInit, Cond.fieldLink RX2 9 "ContentsFinder$Listing" "level" "[I", Cond.fieldLink RX2 15 "ContentsFinder$Listing" "number" "[I", Cond.fieldLink RX2 18 "ContentsFinder$Listing" "firstWords" "[I"]
def wsX7_init_r5 : List Cond := [Cond.fieldLink RX2 21 "ContentsFinder$Listing" "lastWords" "[I", Cond.fieldLink RX2 24 "ContentsFinder$Listing" "count" "I", Cond.fieldLink RX2 28 "ContentsFinder$Listing" "partnerOfEntry" "[I", Cond.fieldLink RX2 31 "ContentsFinder$Listing" "partnerOfLine" "[I", Cond.fieldLink RX2 34 "ContentsFinder$Listing" "cost" "I", Cond.fieldLink RX2 37 "ContentsFinder$Listing" "heads" "[I", Cond.fieldLink RX2 40 "ContentsFinder$Listing" "headCount" "I", Cond.fieldLink RX2 43 "ContentsFinder$Listing" "least" "[I", Cond.fieldLink RX2 46 "ContentsFinder$Listing" "lines" "LContentsFinder$Lines;", Cond.fieldLink RX2 50 "ContentsFinder$Listing" "pages" "LContentsFinder$Pages;", Cond.fieldLink RX2 54 "ContentsFinder$Listing" "tree" "LContentsFinder$Tree;", Cond.fieldLink RX2 58 "ContentsFinder$Listing" "settings" "LContentsFinder$Settings;", Cond.methodLink RX7 50 yX5_init, Cond.instanceMethod yX5_init, Cond.code yX5_init cX5_init 3 none, Cond.methodLink RX5 5 objectInit, Cond.fieldLink RX5 11 "ContentsFinder$Shifts" "shiftOfPage" "[I", Cond.fieldLink RX5 15 "ContentsFinder$Shifts" "firstOfPage" "[I", Cond.fieldLink RX5 18 "ContentsFinder$Shifts" "cost" "I", Cond.fieldLink RX5 22 "ContentsFinder$Shifts" "spans" "I", Cond.fieldLink RX5 25 "ContentsFinder$Shifts" "wrongs" "I", Cond.fieldLink RX5 28 "ContentsFinder$Shifts" "least" "[I", Cond.fieldLink RX5 31 "ContentsFinder$Shifts" "behind" "[I", Cond.fieldLink RX5 34 "ContentsFinder$Shifts" "timesOfShift" "[I"]
def wsX7_init_r6 : List Cond := [Cond.fieldLink RX5 37 "ContentsFinder$Shifts" "pages" "LContentsFinder$Pages;", Cond.fieldLink RX5 41 "ContentsFinder$Shifts" "settings" "LContentsFinder$Settings;"]
def wsX7_init : List Cond := .code yX7_init cX7_init 5 none :: ((wsX7_init_r1 ++ (wsX7_init_r2 ++ (wsX7_init_r3 ++ (wsX7_init_r4 ++ (wsX7_init_r5 ++ wsX7_init_r6))))) ++ wsX40 ++ wsX30 ++ wsX10 ++ wsX60 ++ wsX70 ++ wsX20 ++ wsX50 ++ wsX00)
def wsX7_allIsOld : List Cond := .code yX7_allIsOld cX7_allIsOld 1 none :: ([.fieldLink RX7 57 "ContentsFinder" "treeIsOld" "Z", .fieldLink RX7 61 "ContentsFinder" "listingIsOld" "Z", .fieldLink RX7 64 "ContentsFinder" "shiftsAreOld" "Z"] ++ wsX70)
def wsX7_book_r1 : List Cond := [Cond.fieldLink RX7 27 "ContentsFinder" "pages" "LContentsFinder$Pages;", Cond.fieldLink RX7 31 "ContentsFinder" "lines" "LContentsFinder$Lines;", Cond.fieldLink RX7 75 "ContentsFinder$Lines" "count" "I", Cond.fieldLink RX7 44 "ContentsFinder" "listing" "LContentsFinder$Listing;", Cond.fieldLink RX7 79 "ContentsFinder$Listing" "count" "I", Cond.methodLink RX7 67 yX7_isWithin, Cond.static yX7_isWithin, Cond.initialized RX7, Cond.code yX7_isWithin cX7_isWithin 3 (some .boolean), Cond.methodLink RX7 71 yX3_begin, Cond.instanceMethod yX3_begin, Cond.selects RX3 yX3_begin yX3_begin, Cond.initialized RX3, Cond.code yX3_begin cX3_begin 2 none, Cond.fieldLink RX3 15 "ContentsFinder$Pages" "count" "I", Cond.fieldLink RX3 9 "ContentsFinder$Pages" "readNumber" "[I", Cond.methodLink RX3 19 yJ7_fill_53178, Cond.static yJ7_fill_53178, Cond.initialized RJ7, Cond.code yJ7_fill_53178 cJ7_fill_53178 4 none, Cond.methodLink RX7 80 yX7_allIsOld, Cond.instanceMethod yX7_allIsOld, Cond.selects RX7 yX7_allIsOld yX7_allIsOld, Cond.code yX7_allIsOld cX7_allIsOld 1 none]
def wsX7_book_r2 : List Cond := [Cond.fieldLink RX7 57 "ContentsFinder" "treeIsOld" "Z", Cond.fieldLink RX7 61 "ContentsFinder" "listingIsOld" "Z", Cond.fieldLink RX7 64 "ContentsFinder" "shiftsAreOld" "Z"]
def wsX7_book : List Cond := .code yX7_book cX7_book 2 (some .boolean) :: ((wsX7_book_r1 ++ wsX7_book_r2) ++ wsX70 ++ wsX10 ++ wsX20 ++ wsX30)
def wsX7_read : List Cond := .code yX7_read cX7_read 3 (some .boolean) :: ([.fieldLink RX7 27 "ContentsFinder" "pages" "LContentsFinder$Pages;", .fieldLink RX7 87 "ContentsFinder$Pages" "readNumber" "[I", .fieldLink RX7 61 "ContentsFinder" "listingIsOld" "Z", .fieldLink RX7 64 "ContentsFinder" "shiftsAreOld" "Z", .methodLink RX7 83 yX3_has, .instanceMethod yX3_has, .selects RX3 yX3_has yX3_has, .initialized RX3, .code yX3_has cX3_has 2 (some .boolean), .fieldLink RX3 15 "ContentsFinder$Pages" "count" "I", .static yX7_isWithin, .initialized RX7, .code yX7_isWithin cX7_isWithin 3 (some .boolean), .methodLink RX7 67 yX7_isWithin] ++ wsX70 ++ wsX30)
def wsX7_areWords : List Cond := .code yX7_areWords cX7_areWords 2 (some .boolean) :: ([])
def wsX7_areNumbers : List Cond := .code yX7_areNumbers cX7_areNumbers 3 (some .boolean) :: ([.constant RX7 226 (121212), .methodLink RX7 67 yX7_isWithin, .static yX7_isWithin, .initialized RX7, .code yX7_isWithin cX7_isWithin 3 (some .boolean), .methodLink RX7 227 yX7_countParts, .static yX7_countParts, .code yX7_countParts cX7_countParts 1 (some .int)])
def wsX7_line_r1 : List Cond := [Cond.fieldLink RX7 27 "ContentsFinder" "pages" "LContentsFinder$Pages;", Cond.fieldLink RX7 31 "ContentsFinder" "lines" "LContentsFinder$Lines;", Cond.fieldLink RX7 75 "ContentsFinder$Lines" "count" "I", Cond.fieldLink RX7 100 "ContentsFinder$Lines" "page" "[I", Cond.fieldLink RX7 103 "ContentsFinder$Lines" "blank" "[I", Cond.fieldLink RX7 106 "ContentsFinder$Lines" "centred" "[Z", Cond.fieldLink RX7 110 "ContentsFinder$Lines" "firstWords" "[I", Cond.fieldLink RX7 113 "ContentsFinder$Lines" "lastWords" "[I", Cond.fieldLink RX7 57 "ContentsFinder" "treeIsOld" "Z", Cond.methodLink RX7 83 yX3_has, Cond.instanceMethod yX3_has, Cond.selects RX3 yX3_has yX3_has, Cond.initialized RX3, Cond.code yX3_has cX3_has 2 (some .boolean), Cond.fieldLink RX3 15 "ContentsFinder$Pages" "count" "I", Cond.static yX7_isWithin, Cond.initialized RX7, Cond.code yX7_isWithin cX7_isWithin 3 (some .boolean), Cond.methodLink RX7 91 yX1_canFollow, Cond.instanceMethod yX1_canFollow, Cond.selects RX1 yX1_canFollow yX1_canFollow, Cond.initialized RX1, Cond.code yX1_canFollow cX1_canFollow 2 (some .boolean), Cond.fieldLink RX1 37 "ContentsFinder$Lines" "count" "I"]
def wsX7_line_r2 : List Cond := [Cond.fieldLink RX1 9 "ContentsFinder$Lines" "page" "[I", Cond.methodLink RX7 67 yX7_isWithin, Cond.methodLink RX7 94 yX7_areWords, Cond.static yX7_areWords, Cond.code yX7_areWords cX7_areWords 2 (some .boolean), Cond.methodLink RX7 97 yX7_areNumbers, Cond.static yX7_areNumbers, Cond.code yX7_areNumbers cX7_areNumbers 3 (some .boolean), Cond.constant RX7 226 (121212), Cond.methodLink RX7 227 yX7_countParts, Cond.static yX7_countParts, Cond.code yX7_countParts cX7_countParts 1 (some .int), Cond.methodLink RX7 116 yX1_putSizeAndNumbers, Cond.instanceMethod yX1_putSizeAndNumbers, Cond.selects RX1 yX1_putSizeAndNumbers yX1_putSizeAndNumbers, Cond.code yX1_putSizeAndNumbers cX1_putSizeAndNumbers 7 none, Cond.fieldLink RX1 15 "ContentsFinder$Lines" "size" "[I", Cond.fieldLink RX1 31 "ContentsFinder$Lines" "parts" "[I", Cond.fieldLink RX1 34 "ContentsFinder$Lines" "part" "[I"]
def wsX7_line : List Cond := .code yX7_line cX7_line 9 (some .int) :: ((wsX7_line_r1 ++ wsX7_line_r2) ++ wsX70 ++ wsX10 ++ wsX30)
def wsX7_right_r1 : List Cond := [Cond.fieldLink RX7 31 "ContentsFinder" "lines" "LContentsFinder$Lines;", Cond.fieldLink RX7 57 "ContentsFinder" "treeIsOld" "Z", Cond.methodLink RX7 120 yX1_has, Cond.instanceMethod yX1_has, Cond.selects RX1 yX1_has yX1_has, Cond.initialized RX1, Cond.code yX1_has cX1_has 2 (some .boolean), Cond.fieldLink RX1 37 "ContentsFinder$Lines" "count" "I", Cond.static yX7_isWithin, Cond.initialized RX7, Cond.code yX7_isWithin cX7_isWithin 3 (some .boolean), Cond.methodLink RX7 67 yX7_isWithin, Cond.methodLink RX7 97 yX7_areNumbers, Cond.static yX7_areNumbers, Cond.code yX7_areNumbers cX7_areNumbers 3 (some .boolean), Cond.constant RX7 226 (121212), Cond.methodLink RX7 227 yX7_countParts, Cond.static yX7_countParts, Cond.code yX7_countParts cX7_countParts 1 (some .int), Cond.methodLink RX7 116 yX1_putSizeAndNumbers, Cond.instanceMethod yX1_putSizeAndNumbers, Cond.selects RX1 yX1_putSizeAndNumbers yX1_putSizeAndNumbers, Cond.code yX1_putSizeAndNumbers cX1_putSizeAndNumbers 7 none, Cond.fieldLink RX1 15 "ContentsFinder$Lines" "size" "[I"]
def wsX7_right_r2 : List Cond := [Cond.fieldLink RX1 31 "ContentsFinder$Lines" "parts" "[I", Cond.fieldLink RX1 34 "ContentsFinder$Lines" "part" "[I"]
def wsX7_right : List Cond := .code yX7_right cX7_right 4 (some .boolean) :: ((wsX7_right_r1 ++ wsX7_right_r2) ++ wsX70 ++ wsX10)
def wsX7_drop : List Cond := .code yX7_drop cX7_drop 1 (some .int) :: ([.fieldLink RX7 31 "ContentsFinder" "lines" "LContentsFinder$Lines;", .fieldLink RX7 75 "ContentsFinder$Lines" "count" "I", .fieldLink RX7 57 "ContentsFinder" "treeIsOld" "Z"] ++ wsX70 ++ wsX10)
def wsX7_price : List Cond := .code yX7_price cX7_price 4 (some .int) :: ([.fieldLink RX7 21 "ContentsFinder" "settings" "LContentsFinder$Settings;", .fieldLink RX7 121 "ContentsFinder$Settings" "prices" "[I", .methodLink RX7 67 yX7_isWithin, .static yX7_isWithin, .initialized RX7, .code yX7_isWithin cX7_isWithin 3 (some .boolean), .methodLink RX7 80 yX7_allIsOld, .instanceMethod yX7_allIsOld, .selects RX7 yX7_allIsOld yX7_allIsOld, .code yX7_allIsOld cX7_allIsOld 1 none, .fieldLink RX7 57 "ContentsFinder" "treeIsOld" "Z", .fieldLink RX7 61 "ContentsFinder" "listingIsOld" "Z", .fieldLink RX7 64 "ContentsFinder" "shiftsAreOld" "Z"] ++ wsX70 ++ wsX40)
def wsX7_putMany : List Cond := .code yX7_putMany cX7_putMany 3 (some .int) :: ([.fieldLink RX7 21 "ContentsFinder" "settings" "LContentsFinder$Settings;", .fieldLink RX7 131 "ContentsFinder$Settings" "many" "I", .fieldLink RX7 57 "ContentsFinder" "treeIsOld" "Z", .methodLink RX7 67 yX7_isWithin, .static yX7_isWithin, .initialized RX7, .code yX7_isWithin cX7_isWithin 3 (some .boolean)] ++ wsX70 ++ wsX40)
def wsX7_want : List Cond := .code yX7_want cX7_want 4 (some .int) :: ([.fieldLink RX7 21 "ContentsFinder" "settings" "LContentsFinder$Settings;", .fieldLink RX7 128 "ContentsFinder$Settings" "wants" "[I", .fieldLink RX7 57 "ContentsFinder" "treeIsOld" "Z", .methodLink RX7 124 yX7_putMany, .instanceMethod yX7_putMany, .selects RX7 yX7_putMany yX7_putMany, .initialized RX7, .code yX7_putMany cX7_putMany 3 (some .int), .fieldLink RX7 131 "ContentsFinder$Settings" "many" "I", .methodLink RX7 67 yX7_isWithin, .static yX7_isWithin, .code yX7_isWithin cX7_isWithin 3 (some .boolean)] ++ wsX70 ++ wsX40)
def wsX7_freshTree_r1 : List Cond := [Cond.fieldLink RX7 57 "ContentsFinder" "treeIsOld" "Z", Cond.fieldLink RX7 35 "ContentsFinder" "tree" "LContentsFinder$Tree;", Cond.fieldLink RX7 61 "ContentsFinder" "listingIsOld" "Z", Cond.methodLink RX7 217 yX6_search, Cond.instanceMethod yX6_search, Cond.selects RX6 yX6_search yX6_search, Cond.initialized RX6, Cond.code yX6_search cX6_search 2 none, Cond.fieldLink RX6 53 "ContentsFinder$Tree" "lines" "LContentsFinder$Lines;", Cond.fieldLink RX6 76 "ContentsFinder$Lines" "count" "I", Cond.fieldLink RX6 9 "ContentsFinder$Tree" "running" "[Z", Cond.fieldLink RX6 57 "ContentsFinder$Tree" "settings" "LContentsFinder$Settings;", Cond.fieldLink RX6 81 "ContentsFinder$Settings" "many" "I", Cond.fieldLink RX6 47 "ContentsFinder$Tree" "reached" "I", Cond.fieldLink RX6 41 "ContentsFinder$Tree" "states" "[I", Cond.fieldLink RX6 34 "ContentsFinder$Tree" "keys" "[J", Cond.methodLink RX6 86 yX1_isRunning, Cond.instanceMethod yX1_isRunning, Cond.selects RX1 yX1_isRunning yX1_isRunning, Cond.initialized RX1, Cond.code yX1_isRunning cX1_isRunning 6 (some .boolean), Cond.fieldLink RX1 25 "ContentsFinder$Lines" "firstWords" "[I", Cond.fieldLink RX1 28 "ContentsFinder$Lines" "lastWords" "[I", Cond.fieldLink RX1 37 "ContentsFinder$Lines" "count" "I"]
def wsX7_freshTree_r2 : List Cond := [Cond.fieldLink RX1 9 "ContentsFinder$Lines" "page" "[I", Cond.methodLink RX1 49 yX1_areAlike, Cond.instanceMethod yX1_areAlike, Cond.selects RX1 yX1_areAlike yX1_areAlike, Cond.code yX1_areAlike cX1_areAlike 3 (some .boolean), Cond.fieldLink RX1 15 "ContentsFinder$Lines" "size" "[I", Cond.methodLink RX6 90 yX6_findCapsBehind, Cond.instanceMethod yX6_findCapsBehind, Cond.selects RX6 yX6_findCapsBehind yX6_findCapsBehind, Cond.code yX6_findCapsBehind cX6_findCapsBehind 5 none, Cond.methodLink RX6 112 Lib.Math.max.name, Cond.static Lib.Math.max.name, Cond.initialized "java/lang/Math", Cond.code Lib.Math.max.name Lib.Math.max.code 2 (some .int), Cond.fieldLink RX6 29 "ContentsFinder$Tree" "caps" "[I", Cond.methodLink RX6 108 yX1_partAt, Cond.instanceMethod yX1_partAt, Cond.selects RX1 yX1_partAt yX1_partAt, Cond.code yX1_partAt cX1_partAt 3 (some .int), Cond.fieldLink RX1 34 "ContentsFinder$Lines" "part" "[I", Cond.methodLink RX6 94 yX6_passLine, Cond.instanceMethod yX6_passLine, Cond.selects RX6 yX6_passLine yX6_passLine, Cond.code yX6_passLine cX6_passLine 8 none]
def wsX7_freshTree_r3 : List Cond := [Cond.fieldLink RX6 50 "ContentsFinder$Tree" "nextReached" "I", Cond.constantLong RX6 68 (1152921504606846976), Cond.fieldLink RX6 64 "ContentsFinder$Tree" "counters" "LContentsFinder$Counters;", Cond.methodLink RX6 117 yX0_unpack, Cond.instanceMethod yX0_unpack, Cond.selects RX0 yX0_unpack yX0_unpack, Cond.initialized RX0, Cond.code yX0_unpack cX0_unpack 2 none, Cond.fieldLink RX0 11 "ContentsFinder$Counters" "at" "[I", Cond.methodLink RX6 120 yX0_allowHead, Cond.instanceMethod yX0_allowHead, Cond.selects RX0 yX0_allowHead yX0_allowHead, Cond.code yX0_allowHead cX0_allowHead 5 (some .boolean), Cond.fieldLink RX0 15 "ContentsFinder$Counters" "lines" "LContentsFinder$Lines;", Cond.fieldLink RX0 19 "ContentsFinder$Lines" "parts" "[I", Cond.methodLink RX0 24 yX1_partAt, Cond.methodLink RX6 123 yX6_offer, Cond.instanceMethod yX6_offer, Cond.selects RX6 yX6_offer yX6_offer, Cond.code yX6_offer cX6_offer 10 none, Cond.fieldLink RX6 38 "ContentsFinder$Tree" "nextKeys" "[J", Cond.fieldLink RX6 44 "ContentsFinder$Tree" "nextStates" "[I", Cond.methodLink RX6 145 Lib.MathLoose.min_long.x, Cond.static Lib.MathLoose.min_long.x]
def wsX7_freshTree_r4 : List Cond := [Cond.code Lib.MathLoose.min_long.x Lib.MathLoose.min_long.code 4 (some .long), Cond.methodLink RX6 130 yX6_textCost, Cond.instanceMethod yX6_textCost, Cond.selects RX6 yX6_textCost yX6_textCost, Cond.code yX6_textCost cX6_textCost 2 (some .int), Cond.fieldLink RX6 152 "ContentsFinder$Settings" "prices" "[I", Cond.methodLink RX6 149 yX1_look, Cond.instanceMethod yX1_look, Cond.selects RX1 yX1_look yX1_look, Cond.code yX1_look cX1_look 2 (some .int), Cond.fieldLink RX1 18 "ContentsFinder$Lines" "blank" "[I", Cond.fieldLink RX1 21 "ContentsFinder$Lines" "centred" "[Z", Cond.methodLink RX6 134 yX6_headCost, Cond.instanceMethod yX6_headCost, Cond.selects RX6 yX6_headCost yX6_headCost, Cond.code yX6_headCost cX6_headCost 6 (some .int), Cond.fieldLink RX6 155 "ContentsFinder$Settings" "wants" "[I", Cond.methodLink RX6 158 Lib.Math.abs.name, Cond.static Lib.Math.abs.name, Cond.code Lib.Math.abs.name Lib.Math.abs.code 1 (some .int), Cond.fieldLink RX6 161 "ContentsFinder$Lines" "parts" "[I", Cond.fieldLink RX6 164 "ContentsFinder$Counters" "at" "[I", Cond.methodLink RX6 137 yX0_passHead, Cond.instanceMethod yX0_passHead]
def wsX7_freshTree_r5 : List Cond := [Cond.selects RX0 yX0_passHead yX0_passHead, Cond.code yX0_passHead cX0_passHead 4 none, Cond.methodLink RX6 141 yX0_pack, Cond.instanceMethod yX0_pack, Cond.selects RX0 yX0_pack yX0_pack, Cond.code yX0_pack cX0_pack 4 (some .int), Cond.methodLink RX6 127 yX6_swapRows, Cond.instanceMethod yX6_swapRows, Cond.selects RX6 yX6_swapRows yX6_swapRows, Cond.code yX6_swapRows cX6_swapRows 3 none, Cond.methodLink RX6 97 yX6_takeLeastKey, Cond.instanceMethod yX6_takeLeastKey, Cond.selects RX6 yX6_takeLeastKey yX6_takeLeastKey, Cond.code yX6_takeLeastKey cX6_takeLeastKey 4 (some .long), Cond.methodLink RX6 101 yX6_tellLevels, Cond.instanceMethod yX6_tellLevels, Cond.selects RX6 yX6_tellLevels yX6_tellLevels, Cond.code yX6_tellLevels cX6_tellLevels 4 none, Cond.fieldLink RX6 26 "ContentsFinder$Tree" "cost" "I", Cond.fieldLink RX6 22 "ContentsFinder$Tree" "heads" "I", Cond.fieldLink RX6 15 "ContentsFinder$Tree" "levels" "[I", Cond.constantLong RX6 167 (3), Cond.methodLink RX6 105 yX6_tellCounters, Cond.instanceMethod yX6_tellCounters]
def wsX7_freshTree_r6 : List Cond := [Cond.selects RX6 yX6_tellCounters yX6_tellCounters, Cond.code yX6_tellCounters cX6_tellCounters 3 none, Cond.fieldLink RX6 19 "ContentsFinder$Tree" "countersBehind" "[I"]
def wsX7_freshTree : List Cond := .code yX7_freshTree cX7_freshTree 1 (some (.object "ContentsFinder$Tree")) :: ((wsX7_freshTree_r1 ++ (wsX7_freshTree_r2 ++ (wsX7_freshTree_r3 ++ (wsX7_freshTree_r4 ++ (wsX7_freshTree_r5 ++ wsX7_freshTree_r6))))) ++ wsX70 ++ wsX60 ++ wsX10 ++ wsX40 ++ wsX00)
def wsX7_freshListing_r1 : List Cond := [Cond.fieldLink RX7 61 "ContentsFinder" "listingIsOld" "Z", Cond.fieldLink RX7 44 "ContentsFinder" "listing" "LContentsFinder$Listing;", Cond.methodLink RX7 135 yX7_freshTree, Cond.instanceMethod yX7_freshTree, Cond.selects RX7 yX7_freshTree yX7_freshTree, Cond.initialized RX7, Cond.code yX7_freshTree cX7_freshTree 1 (some (.object "ContentsFinder$Tree")), Cond.fieldLink RX7 57 "ContentsFinder" "treeIsOld" "Z", Cond.fieldLink RX7 35 "ContentsFinder" "tree" "LContentsFinder$Tree;", Cond.methodLink RX7 217 yX6_search, Cond.instanceMethod yX6_search, Cond.selects RX6 yX6_search yX6_search, Cond.initialized RX6, Cond.code yX6_search cX6_search 2 none, Cond.fieldLink RX6 53 "ContentsFinder$Tree" "lines" "LContentsFinder$Lines;", Cond.fieldLink RX6 76 "ContentsFinder$Lines" "count" "I", Cond.fieldLink RX6 9 "ContentsFinder$Tree" "running" "[Z", Cond.fieldLink RX6 57 "ContentsFinder$Tree" "settings" "LContentsFinder$Settings;", Cond.fieldLink RX6 81 "ContentsFinder$Settings" "many" "I", Cond.fieldLink RX6 47 "ContentsFinder$Tree" "reached" "I", Cond.fieldLink RX6 41 "ContentsFinder$Tree" "states" "[I", Cond.fieldLink RX6 34 "ContentsFinder$Tree" "keys" "[J", Cond.methodLink RX6 86 yX1_isRunning, Cond.instanceMethod yX1_isRunning]
def wsX7_freshListing_r2 : List Cond := [Cond.selects RX1 yX1_isRunning yX1_isRunning, Cond.initialized RX1, Cond.code yX1_isRunning cX1_isRunning 6 (some .boolean), Cond.fieldLink RX1 25 "ContentsFinder$Lines" "firstWords" "[I", Cond.fieldLink RX1 28 "ContentsFinder$Lines" "lastWords" "[I", Cond.fieldLink RX1 37 "ContentsFinder$Lines" "count" "I", Cond.fieldLink RX1 9 "ContentsFinder$Lines" "page" "[I", Cond.methodLink RX1 49 yX1_areAlike, Cond.instanceMethod yX1_areAlike, Cond.selects RX1 yX1_areAlike yX1_areAlike, Cond.code yX1_areAlike cX1_areAlike 3 (some .boolean), Cond.fieldLink RX1 15 "ContentsFinder$Lines" "size" "[I", Cond.methodLink RX6 90 yX6_findCapsBehind, Cond.instanceMethod yX6_findCapsBehind, Cond.selects RX6 yX6_findCapsBehind yX6_findCapsBehind, Cond.code yX6_findCapsBehind cX6_findCapsBehind 5 none, Cond.methodLink RX6 112 Lib.Math.max.name, Cond.static Lib.Math.max.name, Cond.initialized "java/lang/Math", Cond.code Lib.Math.max.name Lib.Math.max.code 2 (some .int), Cond.fieldLink RX6 29 "ContentsFinder$Tree" "caps" "[I", Cond.methodLink RX6 108 yX1_partAt, Cond.instanceMethod yX1_partAt, Cond.selects RX1 yX1_partAt yX1_partAt]
def wsX7_freshListing_r3 : List Cond := [Cond.code yX1_partAt cX1_partAt 3 (some .int), Cond.fieldLink RX1 34 "ContentsFinder$Lines" "part" "[I", Cond.methodLink RX6 94 yX6_passLine, Cond.instanceMethod yX6_passLine, Cond.selects RX6 yX6_passLine yX6_passLine, Cond.code yX6_passLine cX6_passLine 8 none, Cond.fieldLink RX6 50 "ContentsFinder$Tree" "nextReached" "I", Cond.constantLong RX6 68 (1152921504606846976), Cond.fieldLink RX6 64 "ContentsFinder$Tree" "counters" "LContentsFinder$Counters;", Cond.methodLink RX6 117 yX0_unpack, Cond.instanceMethod yX0_unpack, Cond.selects RX0 yX0_unpack yX0_unpack, Cond.initialized RX0, Cond.code yX0_unpack cX0_unpack 2 none, Cond.fieldLink RX0 11 "ContentsFinder$Counters" "at" "[I", Cond.methodLink RX6 120 yX0_allowHead, Cond.instanceMethod yX0_allowHead, Cond.selects RX0 yX0_allowHead yX0_allowHead, Cond.code yX0_allowHead cX0_allowHead 5 (some .boolean), Cond.fieldLink RX0 15 "ContentsFinder$Counters" "lines" "LContentsFinder$Lines;", Cond.fieldLink RX0 19 "ContentsFinder$Lines" "parts" "[I", Cond.methodLink RX0 24 yX1_partAt, Cond.methodLink RX6 123 yX6_offer, Cond.instanceMethod yX6_offer]
def wsX7_freshListing_r4 : List Cond := [Cond.selects RX6 yX6_offer yX6_offer, Cond.code yX6_offer cX6_offer 10 none, Cond.fieldLink RX6 38 "ContentsFinder$Tree" "nextKeys" "[J", Cond.fieldLink RX6 44 "ContentsFinder$Tree" "nextStates" "[I", Cond.methodLink RX6 145 Lib.MathLoose.min_long.x, Cond.static Lib.MathLoose.min_long.x, Cond.code Lib.MathLoose.min_long.x Lib.MathLoose.min_long.code 4 (some .long), Cond.methodLink RX6 130 yX6_textCost, Cond.instanceMethod yX6_textCost, Cond.selects RX6 yX6_textCost yX6_textCost, Cond.code yX6_textCost cX6_textCost 2 (some .int), Cond.fieldLink RX6 152 "ContentsFinder$Settings" "prices" "[I", Cond.methodLink RX6 149 yX1_look, Cond.instanceMethod yX1_look, Cond.selects RX1 yX1_look yX1_look, Cond.code yX1_look cX1_look 2 (some .int), Cond.fieldLink RX1 18 "ContentsFinder$Lines" "blank" "[I", Cond.fieldLink RX1 21 "ContentsFinder$Lines" "centred" "[Z", Cond.methodLink RX6 134 yX6_headCost, Cond.instanceMethod yX6_headCost, Cond.selects RX6 yX6_headCost yX6_headCost, Cond.code yX6_headCost cX6_headCost 6 (some .int), Cond.fieldLink RX6 155 "ContentsFinder$Settings" "wants" "[I", Cond.methodLink RX6 158 Lib.Math.abs.name]
def wsX7_freshListing_r5 : List Cond := [Cond.static Lib.Math.abs.name, Cond.code Lib.Math.abs.name Lib.Math.abs.code 1 (some .int), Cond.fieldLink RX6 161 "ContentsFinder$Lines" "parts" "[I", Cond.fieldLink RX6 164 "ContentsFinder$Counters" "at" "[I", Cond.methodLink RX6 137 yX0_passHead, Cond.instanceMethod yX0_passHead, Cond.selects RX0 yX0_passHead yX0_passHead, Cond.code yX0_passHead cX0_passHead 4 none, Cond.methodLink RX6 141 yX0_pack, Cond.instanceMethod yX0_pack, Cond.selects RX0 yX0_pack yX0_pack, Cond.code yX0_pack cX0_pack 4 (some .int), Cond.methodLink RX6 127 yX6_swapRows, Cond.instanceMethod yX6_swapRows, Cond.selects RX6 yX6_swapRows yX6_swapRows, Cond.code yX6_swapRows cX6_swapRows 3 none, Cond.methodLink RX6 97 yX6_takeLeastKey, Cond.instanceMethod yX6_takeLeastKey, Cond.selects RX6 yX6_takeLeastKey yX6_takeLeastKey, Cond.code yX6_takeLeastKey cX6_takeLeastKey 4 (some .long), Cond.methodLink RX6 101 yX6_tellLevels, Cond.instanceMethod yX6_tellLevels, Cond.selects RX6 yX6_tellLevels yX6_tellLevels, Cond.code yX6_tellLevels cX6_tellLevels 4 none]
def wsX7_freshListing_r6 : List Cond := [Cond.fieldLink RX6 26 "ContentsFinder$Tree" "cost" "I", Cond.fieldLink RX6 22 "ContentsFinder$Tree" "heads" "I", Cond.fieldLink RX6 15 "ContentsFinder$Tree" "levels" "[I", Cond.constantLong RX6 167 (3), Cond.methodLink RX6 105 yX6_tellCounters, Cond.instanceMethod yX6_tellCounters, Cond.selects RX6 yX6_tellCounters yX6_tellCounters, Cond.code yX6_tellCounters cX6_tellCounters 3 none, Cond.fieldLink RX6 19 "ContentsFinder$Tree" "countersBehind" "[I", Cond.methodLink RX7 220 yX2_hold, Cond.instanceMethod yX2_hold, Cond.selects RX2 yX2_hold yX2_hold, Cond.initialized RX2, Cond.code yX2_hold cX2_hold 3 none, Cond.fieldLink RX2 24 "ContentsFinder$Listing" "count" "I", Cond.fieldLink RX2 40 "ContentsFinder$Listing" "headCount" "I", Cond.fieldLink RX2 43 "ContentsFinder$Listing" "least" "[I", Cond.fieldLink RX2 34 "ContentsFinder$Listing" "cost" "I", Cond.methodLink RX2 62 yX2_gatherHeads, Cond.instanceMethod yX2_gatherHeads, Cond.selects RX2 yX2_gatherHeads yX2_gatherHeads, Cond.code yX2_gatherHeads cX2_gatherHeads 2 none, Cond.fieldLink RX2 46 "ContentsFinder$Listing" "lines" "LContentsFinder$Lines;", Cond.fieldLink RX2 72 "ContentsFinder$Lines" "count" "I"]
def wsX7_freshListing_r7 : List Cond := [Cond.fieldLink RX2 54 "ContentsFinder$Listing" "tree" "LContentsFinder$Tree;", Cond.fieldLink RX2 75 "ContentsFinder$Tree" "levels" "[I", Cond.fieldLink RX2 37 "ContentsFinder$Listing" "heads" "[I", Cond.methodLink RX2 65 yX2_leastFrom, Cond.instanceMethod yX2_leastFrom, Cond.selects RX2 yX2_leastFrom yX2_leastFrom, Cond.code yX2_leastFrom cX2_leastFrom 6 (some .int), Cond.fieldLink RX2 58 "ContentsFinder$Listing" "settings" "LContentsFinder$Settings;", Cond.fieldLink RX2 80 "ContentsFinder$Settings" "prices" "[I", Cond.methodLink RX2 85 Lib.Math.min.name, Cond.static Lib.Math.min.name, Cond.code Lib.Math.min.name Lib.Math.min.code 2 (some .int), Cond.methodLink RX2 90 yX2_pairCost, Cond.instanceMethod yX2_pairCost, Cond.selects RX2 yX2_pairCost yX2_pairCost, Cond.code yX2_pairCost cX2_pairCost 7 (some .int), Cond.fieldLink RX2 18 "ContentsFinder$Listing" "firstWords" "[I", Cond.fieldLink RX2 93 "ContentsFinder$Lines" "firstWords" "[I", Cond.fieldLink RX2 21 "ContentsFinder$Listing" "lastWords" "[I", Cond.fieldLink RX2 97 "ContentsFinder$Lines" "lastWords" "[I", Cond.fieldLink RX2 9 "ContentsFinder$Listing" "level" "[I", Cond.methodLink RX2 98 Lib.Math.abs.name, Cond.fieldLink RX2 50 "ContentsFinder$Listing" "pages" "LContentsFinder$Pages;", Cond.fieldLink RX2 102 "ContentsFinder$Pages" "readNumber" "[I"]
def wsX7_freshListing_r8 : List Cond := [Cond.fieldLink RX2 107 "ContentsFinder$Lines" "page" "[I", Cond.fieldLink RX2 15 "ContentsFinder$Listing" "number" "[I", Cond.methodLink RX2 94 yX2_unlikePlaces, Cond.static yX2_unlikePlaces, Cond.code yX2_unlikePlaces cX2_unlikePlaces 4 (some .int), Cond.methodLink RX2 69 yX2_tellPartners, Cond.instanceMethod yX2_tellPartners, Cond.selects RX2 yX2_tellPartners yX2_tellPartners, Cond.code yX2_tellPartners cX2_tellPartners 4 none, Cond.fieldLink RX2 28 "ContentsFinder$Listing" "partnerOfEntry" "[I", Cond.fieldLink RX2 31 "ContentsFinder$Listing" "partnerOfLine" "[I", Cond.methodLink RX2 110 yJ7_fill_53178, Cond.static yJ7_fill_53178, Cond.initialized RJ7, Cond.code yJ7_fill_53178 cJ7_fill_53178 4 none, Cond.methodLink RX2 116 yX2_firstCheapHead, Cond.instanceMethod yX2_firstCheapHead, Cond.selects RX2 yX2_firstCheapHead yX2_firstCheapHead, Cond.code yX2_firstCheapHead cX2_firstCheapHead 7 (some .int)]
def wsX7_freshListing : List Cond := .code yX7_freshListing cX7_freshListing 1 (some (.object "ContentsFinder$Listing")) :: ((wsX7_freshListing_r1 ++ (wsX7_freshListing_r2 ++ (wsX7_freshListing_r3 ++ (wsX7_freshListing_r4 ++ (wsX7_freshListing_r5 ++ (wsX7_freshListing_r6 ++ (wsX7_freshListing_r7 ++ wsX7_freshListing_r8))))))) ++ wsX70 ++ wsX60 ++ wsX10 ++ wsX40 ++ wsX00 ++ wsX20 ++ wsX30)
def wsX7_freshShifts_r1 : List Cond := [Cond.fieldLink RX7 64 "ContentsFinder" "shiftsAreOld" "Z", Cond.fieldLink RX7 53 "ContentsFinder" "shifts" "LContentsFinder$Shifts;", Cond.methodLink RX7 223 yX5_explain, Cond.instanceMethod yX5_explain, Cond.selects RX5 yX5_explain yX5_explain, Cond.initialized RX5, Cond.code yX5_explain cX5_explain 2 none, Cond.fieldLink RX5 28 "ContentsFinder$Shifts" "least" "[I", Cond.fieldLink RX5 37 "ContentsFinder$Shifts" "pages" "LContentsFinder$Pages;", Cond.fieldLink RX5 45 "ContentsFinder$Pages" "count" "I", Cond.fieldLink RX5 18 "ContentsFinder$Shifts" "cost" "I", Cond.fieldLink RX5 22 "ContentsFinder$Shifts" "spans" "I", Cond.methodLink RX5 50 yX5_findFirstSpan, Cond.instanceMethod yX5_findFirstSpan, Cond.selects RX5 yX5_findFirstSpan yX5_findFirstSpan, Cond.code yX5_findFirstSpan cX5_findFirstSpan 8 none, Cond.fieldLink RX5 41 "ContentsFinder$Shifts" "settings" "LContentsFinder$Settings;", Cond.fieldLink RX5 61 "ContentsFinder$Settings" "prices" "[I", Cond.constant RX5 66 (1073741824), Cond.fieldLink RX5 67 "ContentsFinder$Pages" "readNumber" "[I", Cond.methodLink RX5 74 Lib.Math.max.name, Cond.static Lib.Math.max.name, Cond.initialized "java/lang/Math", Cond.code Lib.Math.max.name Lib.Math.max.code 2 (some .int)]
def wsX7_freshShifts_r2 : List Cond := [Cond.fieldLink RX5 31 "ContentsFinder$Shifts" "behind" "[I", Cond.methodLink RX5 70 yX5_addTime, Cond.instanceMethod yX5_addTime, Cond.selects RX5 yX5_addTime yX5_addTime, Cond.code yX5_addTime cX5_addTime 3 (some .int), Cond.fieldLink RX5 34 "ContentsFinder$Shifts" "timesOfShift" "[I", Cond.methodLink RX5 80 yX5_shiftPlace, Cond.instanceMethod yX5_shiftPlace, Cond.selects RX5 yX5_shiftPlace yX5_shiftPlace, Cond.code yX5_shiftPlace cX5_shiftPlace 2 (some .int), Cond.methodLink RX5 54 yX5_forgetTimes, Cond.instanceMethod yX5_forgetTimes, Cond.selects RX5 yX5_forgetTimes yX5_forgetTimes, Cond.code yX5_forgetTimes cX5_forgetTimes 4 none, Cond.methodLink RX5 58 yX5_tellSpans, Cond.instanceMethod yX5_tellSpans, Cond.selects RX5 yX5_tellSpans yX5_tellSpans, Cond.code yX5_tellSpans cX5_tellSpans 5 none, Cond.fieldLink RX5 25 "ContentsFinder$Shifts" "wrongs" "I", Cond.fieldLink RX5 15 "ContentsFinder$Shifts" "firstOfPage" "[I", Cond.fieldLink RX5 11 "ContentsFinder$Shifts" "shiftOfPage" "[I", Cond.methodLink RX5 83 yX5_bestShift, Cond.instanceMethod yX5_bestShift, Cond.selects RX5 yX5_bestShift yX5_bestShift]
def wsX7_freshShifts_r3 : List Cond := [Cond.code yX5_bestShift cX5_bestShift 8 (some .int), Cond.methodLink RX5 86 yX5_isWrong, Cond.instanceMethod yX5_isWrong, Cond.selects RX5 yX5_isWrong yX5_isWrong, Cond.code yX5_isWrong cX5_isWrong 3 (some .boolean)]
def wsX7_freshShifts : List Cond := .code yX7_freshShifts cX7_freshShifts 1 (some (.object "ContentsFinder$Shifts")) :: ((wsX7_freshShifts_r1 ++ (wsX7_freshShifts_r2 ++ wsX7_freshShifts_r3)) ++ wsX70 ++ wsX50 ++ wsX30 ++ wsX40)
def wsX7_count_r1 : List Cond := [Cond.fieldLink RX7 27 "ContentsFinder" "pages" "LContentsFinder$Pages;", Cond.fieldLink RX7 134 "ContentsFinder$Pages" "count" "I", Cond.fieldLink RX7 31 "ContentsFinder" "lines" "LContentsFinder$Lines;", Cond.fieldLink RX7 75 "ContentsFinder$Lines" "count" "I", Cond.fieldLink RX7 44 "ContentsFinder" "listing" "LContentsFinder$Listing;", Cond.fieldLink RX7 79 "ContentsFinder$Listing" "count" "I", Cond.fieldLink RX7 139 "ContentsFinder$Tree" "heads" "I", Cond.fieldLink RX7 142 "ContentsFinder$Tree" "cost" "I", Cond.fieldLink RX7 149 "ContentsFinder$Listing" "cost" "I", Cond.fieldLink RX7 154 "ContentsFinder$Shifts" "cost" "I", Cond.fieldLink RX7 155 "ContentsFinder$Shifts" "spans" "I", Cond.fieldLink RX7 158 "ContentsFinder$Shifts" "wrongs" "I", Cond.methodLink RX7 135 yX7_freshTree, Cond.instanceMethod yX7_freshTree, Cond.selects RX7 yX7_freshTree yX7_freshTree, Cond.initialized RX7, Cond.code yX7_freshTree cX7_freshTree 1 (some (.object "ContentsFinder$Tree")), Cond.fieldLink RX7 57 "ContentsFinder" "treeIsOld" "Z", Cond.fieldLink RX7 35 "ContentsFinder" "tree" "LContentsFinder$Tree;", Cond.fieldLink RX7 61 "ContentsFinder" "listingIsOld" "Z", Cond.methodLink RX7 217 yX6_search, Cond.instanceMethod yX6_search, Cond.selects RX6 yX6_search yX6_search, Cond.initialized RX6]
def wsX7_count_r2 : List Cond := [Cond.code yX6_search cX6_search 2 none, Cond.fieldLink RX6 53 "ContentsFinder$Tree" "lines" "LContentsFinder$Lines;", Cond.fieldLink RX6 76 "ContentsFinder$Lines" "count" "I", Cond.fieldLink RX6 9 "ContentsFinder$Tree" "running" "[Z", Cond.fieldLink RX6 57 "ContentsFinder$Tree" "settings" "LContentsFinder$Settings;", Cond.fieldLink RX6 81 "ContentsFinder$Settings" "many" "I", Cond.fieldLink RX6 47 "ContentsFinder$Tree" "reached" "I", Cond.fieldLink RX6 41 "ContentsFinder$Tree" "states" "[I", Cond.fieldLink RX6 34 "ContentsFinder$Tree" "keys" "[J", Cond.methodLink RX6 86 yX1_isRunning, Cond.instanceMethod yX1_isRunning, Cond.selects RX1 yX1_isRunning yX1_isRunning, Cond.initialized RX1, Cond.code yX1_isRunning cX1_isRunning 6 (some .boolean), Cond.fieldLink RX1 25 "ContentsFinder$Lines" "firstWords" "[I", Cond.fieldLink RX1 28 "ContentsFinder$Lines" "lastWords" "[I", Cond.fieldLink RX1 37 "ContentsFinder$Lines" "count" "I", Cond.fieldLink RX1 9 "ContentsFinder$Lines" "page" "[I", Cond.methodLink RX1 49 yX1_areAlike, Cond.instanceMethod yX1_areAlike, Cond.selects RX1 yX1_areAlike yX1_areAlike, Cond.code yX1_areAlike cX1_areAlike 3 (some .boolean), Cond.fieldLink RX1 15 "ContentsFinder$Lines" "size" "[I", Cond.methodLink RX6 90 yX6_findCapsBehind]
def wsX7_count_r3 : List Cond := [Cond.instanceMethod yX6_findCapsBehind, Cond.selects RX6 yX6_findCapsBehind yX6_findCapsBehind, Cond.code yX6_findCapsBehind cX6_findCapsBehind 5 none, Cond.methodLink RX6 112 Lib.Math.max.name, Cond.static Lib.Math.max.name, Cond.initialized "java/lang/Math", Cond.code Lib.Math.max.name Lib.Math.max.code 2 (some .int), Cond.fieldLink RX6 29 "ContentsFinder$Tree" "caps" "[I", Cond.methodLink RX6 108 yX1_partAt, Cond.instanceMethod yX1_partAt, Cond.selects RX1 yX1_partAt yX1_partAt, Cond.code yX1_partAt cX1_partAt 3 (some .int), Cond.fieldLink RX1 34 "ContentsFinder$Lines" "part" "[I", Cond.methodLink RX6 94 yX6_passLine, Cond.instanceMethod yX6_passLine, Cond.selects RX6 yX6_passLine yX6_passLine, Cond.code yX6_passLine cX6_passLine 8 none, Cond.fieldLink RX6 50 "ContentsFinder$Tree" "nextReached" "I", Cond.constantLong RX6 68 (1152921504606846976), Cond.fieldLink RX6 64 "ContentsFinder$Tree" "counters" "LContentsFinder$Counters;", Cond.methodLink RX6 117 yX0_unpack, Cond.instanceMethod yX0_unpack, Cond.selects RX0 yX0_unpack yX0_unpack, Cond.initialized RX0]
def wsX7_count_r4 : List Cond := [Cond.code yX0_unpack cX0_unpack 2 none, Cond.fieldLink RX0 11 "ContentsFinder$Counters" "at" "[I", Cond.methodLink RX6 120 yX0_allowHead, Cond.instanceMethod yX0_allowHead, Cond.selects RX0 yX0_allowHead yX0_allowHead, Cond.code yX0_allowHead cX0_allowHead 5 (some .boolean), Cond.fieldLink RX0 15 "ContentsFinder$Counters" "lines" "LContentsFinder$Lines;", Cond.fieldLink RX0 19 "ContentsFinder$Lines" "parts" "[I", Cond.methodLink RX0 24 yX1_partAt, Cond.methodLink RX6 123 yX6_offer, Cond.instanceMethod yX6_offer, Cond.selects RX6 yX6_offer yX6_offer, Cond.code yX6_offer cX6_offer 10 none, Cond.fieldLink RX6 38 "ContentsFinder$Tree" "nextKeys" "[J", Cond.fieldLink RX6 44 "ContentsFinder$Tree" "nextStates" "[I", Cond.methodLink RX6 145 Lib.MathLoose.min_long.x, Cond.static Lib.MathLoose.min_long.x, Cond.code Lib.MathLoose.min_long.x Lib.MathLoose.min_long.code 4 (some .long), Cond.methodLink RX6 130 yX6_textCost, Cond.instanceMethod yX6_textCost, Cond.selects RX6 yX6_textCost yX6_textCost, Cond.code yX6_textCost cX6_textCost 2 (some .int), Cond.fieldLink RX6 152 "ContentsFinder$Settings" "prices" "[I", Cond.methodLink RX6 149 yX1_look]
def wsX7_count_r5 : List Cond := [Cond.instanceMethod yX1_look, Cond.selects RX1 yX1_look yX1_look, Cond.code yX1_look cX1_look 2 (some .int), Cond.fieldLink RX1 18 "ContentsFinder$Lines" "blank" "[I", Cond.fieldLink RX1 21 "ContentsFinder$Lines" "centred" "[Z", Cond.methodLink RX6 134 yX6_headCost, Cond.instanceMethod yX6_headCost, Cond.selects RX6 yX6_headCost yX6_headCost, Cond.code yX6_headCost cX6_headCost 6 (some .int), Cond.fieldLink RX6 155 "ContentsFinder$Settings" "wants" "[I", Cond.methodLink RX6 158 Lib.Math.abs.name, Cond.static Lib.Math.abs.name, Cond.code Lib.Math.abs.name Lib.Math.abs.code 1 (some .int), Cond.fieldLink RX6 161 "ContentsFinder$Lines" "parts" "[I", Cond.fieldLink RX6 164 "ContentsFinder$Counters" "at" "[I", Cond.methodLink RX6 137 yX0_passHead, Cond.instanceMethod yX0_passHead, Cond.selects RX0 yX0_passHead yX0_passHead, Cond.code yX0_passHead cX0_passHead 4 none, Cond.methodLink RX6 141 yX0_pack, Cond.instanceMethod yX0_pack, Cond.selects RX0 yX0_pack yX0_pack, Cond.code yX0_pack cX0_pack 4 (some .int), Cond.methodLink RX6 127 yX6_swapRows]
def wsX7_count_r6 : List Cond := [Cond.instanceMethod yX6_swapRows, Cond.selects RX6 yX6_swapRows yX6_swapRows, Cond.code yX6_swapRows cX6_swapRows 3 none, Cond.methodLink RX6 97 yX6_takeLeastKey, Cond.instanceMethod yX6_takeLeastKey, Cond.selects RX6 yX6_takeLeastKey yX6_takeLeastKey, Cond.code yX6_takeLeastKey cX6_takeLeastKey 4 (some .long), Cond.methodLink RX6 101 yX6_tellLevels, Cond.instanceMethod yX6_tellLevels, Cond.selects RX6 yX6_tellLevels yX6_tellLevels, Cond.code yX6_tellLevels cX6_tellLevels 4 none, Cond.fieldLink RX6 26 "ContentsFinder$Tree" "cost" "I", Cond.fieldLink RX6 22 "ContentsFinder$Tree" "heads" "I", Cond.fieldLink RX6 15 "ContentsFinder$Tree" "levels" "[I", Cond.constantLong RX6 167 (3), Cond.methodLink RX6 105 yX6_tellCounters, Cond.instanceMethod yX6_tellCounters, Cond.selects RX6 yX6_tellCounters yX6_tellCounters, Cond.code yX6_tellCounters cX6_tellCounters 3 none, Cond.fieldLink RX6 19 "ContentsFinder$Tree" "countersBehind" "[I", Cond.methodLink RX7 145 yX7_freshListing, Cond.instanceMethod yX7_freshListing, Cond.selects RX7 yX7_freshListing yX7_freshListing, Cond.code yX7_freshListing cX7_freshListing 1 (some (.object "ContentsFinder$Listing"))]
def wsX7_count_r7 : List Cond := [Cond.methodLink RX7 220 yX2_hold, Cond.instanceMethod yX2_hold, Cond.selects RX2 yX2_hold yX2_hold, Cond.initialized RX2, Cond.code yX2_hold cX2_hold 3 none, Cond.fieldLink RX2 24 "ContentsFinder$Listing" "count" "I", Cond.fieldLink RX2 40 "ContentsFinder$Listing" "headCount" "I", Cond.fieldLink RX2 43 "ContentsFinder$Listing" "least" "[I", Cond.fieldLink RX2 34 "ContentsFinder$Listing" "cost" "I", Cond.methodLink RX2 62 yX2_gatherHeads, Cond.instanceMethod yX2_gatherHeads, Cond.selects RX2 yX2_gatherHeads yX2_gatherHeads, Cond.code yX2_gatherHeads cX2_gatherHeads 2 none, Cond.fieldLink RX2 46 "ContentsFinder$Listing" "lines" "LContentsFinder$Lines;", Cond.fieldLink RX2 72 "ContentsFinder$Lines" "count" "I", Cond.fieldLink RX2 54 "ContentsFinder$Listing" "tree" "LContentsFinder$Tree;", Cond.fieldLink RX2 75 "ContentsFinder$Tree" "levels" "[I", Cond.fieldLink RX2 37 "ContentsFinder$Listing" "heads" "[I", Cond.methodLink RX2 65 yX2_leastFrom, Cond.instanceMethod yX2_leastFrom, Cond.selects RX2 yX2_leastFrom yX2_leastFrom, Cond.code yX2_leastFrom cX2_leastFrom 6 (some .int), Cond.fieldLink RX2 58 "ContentsFinder$Listing" "settings" "LContentsFinder$Settings;", Cond.fieldLink RX2 80 "ContentsFinder$Settings" "prices" "[I"]
def wsX7_count_r8 : List Cond := [Cond.methodLink RX2 85 Lib.Math.min.name, Cond.static Lib.Math.min.name, Cond.code Lib.Math.min.name Lib.Math.min.code 2 (some .int), Cond.methodLink RX2 90 yX2_pairCost, Cond.instanceMethod yX2_pairCost, Cond.selects RX2 yX2_pairCost yX2_pairCost, Cond.code yX2_pairCost cX2_pairCost 7 (some .int), Cond.fieldLink RX2 18 "ContentsFinder$Listing" "firstWords" "[I", Cond.fieldLink RX2 93 "ContentsFinder$Lines" "firstWords" "[I", Cond.fieldLink RX2 21 "ContentsFinder$Listing" "lastWords" "[I", Cond.fieldLink RX2 97 "ContentsFinder$Lines" "lastWords" "[I", Cond.fieldLink RX2 9 "ContentsFinder$Listing" "level" "[I", Cond.methodLink RX2 98 Lib.Math.abs.name, Cond.fieldLink RX2 50 "ContentsFinder$Listing" "pages" "LContentsFinder$Pages;", Cond.fieldLink RX2 102 "ContentsFinder$Pages" "readNumber" "[I", Cond.fieldLink RX2 107 "ContentsFinder$Lines" "page" "[I", Cond.fieldLink RX2 15 "ContentsFinder$Listing" "number" "[I", Cond.methodLink RX2 94 yX2_unlikePlaces, Cond.static yX2_unlikePlaces, Cond.code yX2_unlikePlaces cX2_unlikePlaces 4 (some .int), Cond.methodLink RX2 69 yX2_tellPartners, Cond.instanceMethod yX2_tellPartners, Cond.selects RX2 yX2_tellPartners yX2_tellPartners, Cond.code yX2_tellPartners cX2_tellPartners 4 none]
def wsX7_count_r9 : List Cond := [Cond.fieldLink RX2 28 "ContentsFinder$Listing" "partnerOfEntry" "[I", Cond.fieldLink RX2 31 "ContentsFinder$Listing" "partnerOfLine" "[I", Cond.methodLink RX2 110 yJ7_fill_53178, Cond.static yJ7_fill_53178, Cond.initialized RJ7, Cond.code yJ7_fill_53178 cJ7_fill_53178 4 none, Cond.methodLink RX2 116 yX2_firstCheapHead, Cond.instanceMethod yX2_firstCheapHead, Cond.selects RX2 yX2_firstCheapHead yX2_firstCheapHead, Cond.code yX2_firstCheapHead cX2_firstCheapHead 7 (some .int), Cond.methodLink RX7 150 yX7_freshShifts, Cond.instanceMethod yX7_freshShifts, Cond.selects RX7 yX7_freshShifts yX7_freshShifts, Cond.code yX7_freshShifts cX7_freshShifts 1 (some (.object "ContentsFinder$Shifts")), Cond.fieldLink RX7 64 "ContentsFinder" "shiftsAreOld" "Z", Cond.fieldLink RX7 53 "ContentsFinder" "shifts" "LContentsFinder$Shifts;", Cond.methodLink RX7 223 yX5_explain, Cond.instanceMethod yX5_explain, Cond.selects RX5 yX5_explain yX5_explain, Cond.initialized RX5, Cond.code yX5_explain cX5_explain 2 none, Cond.fieldLink RX5 28 "ContentsFinder$Shifts" "least" "[I", Cond.fieldLink RX5 37 "ContentsFinder$Shifts" "pages" "LContentsFinder$Pages;", Cond.fieldLink RX5 45 "ContentsFinder$Pages" "count" "I"]
def wsX7_count_r10 : List Cond := [Cond.fieldLink RX5 18 "ContentsFinder$Shifts" "cost" "I", Cond.fieldLink RX5 22 "ContentsFinder$Shifts" "spans" "I", Cond.methodLink RX5 50 yX5_findFirstSpan, Cond.instanceMethod yX5_findFirstSpan, Cond.selects RX5 yX5_findFirstSpan yX5_findFirstSpan, Cond.code yX5_findFirstSpan cX5_findFirstSpan 8 none, Cond.fieldLink RX5 41 "ContentsFinder$Shifts" "settings" "LContentsFinder$Settings;", Cond.fieldLink RX5 61 "ContentsFinder$Settings" "prices" "[I", Cond.constant RX5 66 (1073741824), Cond.fieldLink RX5 67 "ContentsFinder$Pages" "readNumber" "[I", Cond.methodLink RX5 74 Lib.Math.max.name, Cond.fieldLink RX5 31 "ContentsFinder$Shifts" "behind" "[I", Cond.methodLink RX5 70 yX5_addTime, Cond.instanceMethod yX5_addTime, Cond.selects RX5 yX5_addTime yX5_addTime, Cond.code yX5_addTime cX5_addTime 3 (some .int), Cond.fieldLink RX5 34 "ContentsFinder$Shifts" "timesOfShift" "[I", Cond.methodLink RX5 80 yX5_shiftPlace, Cond.instanceMethod yX5_shiftPlace, Cond.selects RX5 yX5_shiftPlace yX5_shiftPlace, Cond.code yX5_shiftPlace cX5_shiftPlace 2 (some .int), Cond.methodLink RX5 54 yX5_forgetTimes, Cond.instanceMethod yX5_forgetTimes, Cond.selects RX5 yX5_forgetTimes yX5_forgetTimes]
def wsX7_count_r11 : List Cond := [Cond.code yX5_forgetTimes cX5_forgetTimes 4 none, Cond.methodLink RX5 58 yX5_tellSpans, Cond.instanceMethod yX5_tellSpans, Cond.selects RX5 yX5_tellSpans yX5_tellSpans, Cond.code yX5_tellSpans cX5_tellSpans 5 none, Cond.fieldLink RX5 25 "ContentsFinder$Shifts" "wrongs" "I", Cond.fieldLink RX5 15 "ContentsFinder$Shifts" "firstOfPage" "[I", Cond.fieldLink RX5 11 "ContentsFinder$Shifts" "shiftOfPage" "[I", Cond.methodLink RX5 83 yX5_bestShift, Cond.instanceMethod yX5_bestShift, Cond.selects RX5 yX5_bestShift yX5_bestShift, Cond.code yX5_bestShift cX5_bestShift 8 (some .int), Cond.methodLink RX5 86 yX5_isWrong, Cond.instanceMethod yX5_isWrong, Cond.selects RX5 yX5_isWrong yX5_isWrong, Cond.code yX5_isWrong cX5_isWrong 3 (some .boolean)]
def wsX7_count : List Cond := .code yX7_count cX7_count 2 (some .int) :: ((wsX7_count_r1 ++ (wsX7_count_r2 ++ (wsX7_count_r3 ++ (wsX7_count_r4 ++ (wsX7_count_r5 ++ (wsX7_count_r6 ++ (wsX7_count_r7 ++ (wsX7_count_r8 ++ (wsX7_count_r9 ++ (wsX7_count_r10 ++ wsX7_count_r11)))))))))) ++ wsX70 ++ wsX30 ++ wsX10 ++ wsX20 ++ wsX60 ++ wsX50 ++ wsX40 ++ wsX00)
def wsX7_counter_r1 : List Cond := [Cond.fieldLink RX7 31 "ContentsFinder" "lines" "LContentsFinder$Lines;", Cond.fieldLink RX7 192 "ContentsFinder$Tree" "countersBehind" "[I", Cond.methodLink RX7 120 yX1_has, Cond.instanceMethod yX1_has, Cond.selects RX1 yX1_has yX1_has, Cond.initialized RX1, Cond.code yX1_has cX1_has 2 (some .boolean), Cond.fieldLink RX1 37 "ContentsFinder$Lines" "count" "I", Cond.static yX7_isWithin, Cond.initialized RX7, Cond.code yX7_isWithin cX7_isWithin 3 (some .boolean), Cond.methodLink RX7 67 yX7_isWithin, Cond.methodLink RX7 135 yX7_freshTree, Cond.instanceMethod yX7_freshTree, Cond.selects RX7 yX7_freshTree yX7_freshTree, Cond.code yX7_freshTree cX7_freshTree 1 (some (.object "ContentsFinder$Tree")), Cond.fieldLink RX7 57 "ContentsFinder" "treeIsOld" "Z", Cond.fieldLink RX7 35 "ContentsFinder" "tree" "LContentsFinder$Tree;", Cond.fieldLink RX7 61 "ContentsFinder" "listingIsOld" "Z", Cond.methodLink RX7 217 yX6_search, Cond.instanceMethod yX6_search, Cond.selects RX6 yX6_search yX6_search, Cond.initialized RX6, Cond.code yX6_search cX6_search 2 none]
def wsX7_counter_r2 : List Cond := [Cond.fieldLink RX6 53 "ContentsFinder$Tree" "lines" "LContentsFinder$Lines;", Cond.fieldLink RX6 76 "ContentsFinder$Lines" "count" "I", Cond.fieldLink RX6 9 "ContentsFinder$Tree" "running" "[Z", Cond.fieldLink RX6 57 "ContentsFinder$Tree" "settings" "LContentsFinder$Settings;", Cond.fieldLink RX6 81 "ContentsFinder$Settings" "many" "I", Cond.fieldLink RX6 47 "ContentsFinder$Tree" "reached" "I", Cond.fieldLink RX6 41 "ContentsFinder$Tree" "states" "[I", Cond.fieldLink RX6 34 "ContentsFinder$Tree" "keys" "[J", Cond.methodLink RX6 86 yX1_isRunning, Cond.instanceMethod yX1_isRunning, Cond.selects RX1 yX1_isRunning yX1_isRunning, Cond.code yX1_isRunning cX1_isRunning 6 (some .boolean), Cond.fieldLink RX1 25 "ContentsFinder$Lines" "firstWords" "[I", Cond.fieldLink RX1 28 "ContentsFinder$Lines" "lastWords" "[I", Cond.fieldLink RX1 9 "ContentsFinder$Lines" "page" "[I", Cond.methodLink RX1 49 yX1_areAlike, Cond.instanceMethod yX1_areAlike, Cond.selects RX1 yX1_areAlike yX1_areAlike, Cond.code yX1_areAlike cX1_areAlike 3 (some .boolean), Cond.fieldLink RX1 15 "ContentsFinder$Lines" "size" "[I", Cond.methodLink RX6 90 yX6_findCapsBehind, Cond.instanceMethod yX6_findCapsBehind, Cond.selects RX6 yX6_findCapsBehind yX6_findCapsBehind, Cond.code yX6_findCapsBehind cX6_findCapsBehind 5 none]
def wsX7_counter_r3 : List Cond := [Cond.methodLink RX6 112 Lib.Math.max.name, Cond.static Lib.Math.max.name, Cond.initialized "java/lang/Math", Cond.code Lib.Math.max.name Lib.Math.max.code 2 (some .int), Cond.fieldLink RX6 29 "ContentsFinder$Tree" "caps" "[I", Cond.methodLink RX6 108 yX1_partAt, Cond.instanceMethod yX1_partAt, Cond.selects RX1 yX1_partAt yX1_partAt, Cond.code yX1_partAt cX1_partAt 3 (some .int), Cond.fieldLink RX1 34 "ContentsFinder$Lines" "part" "[I", Cond.methodLink RX6 94 yX6_passLine, Cond.instanceMethod yX6_passLine, Cond.selects RX6 yX6_passLine yX6_passLine, Cond.code yX6_passLine cX6_passLine 8 none, Cond.fieldLink RX6 50 "ContentsFinder$Tree" "nextReached" "I", Cond.constantLong RX6 68 (1152921504606846976), Cond.fieldLink RX6 64 "ContentsFinder$Tree" "counters" "LContentsFinder$Counters;", Cond.methodLink RX6 117 yX0_unpack, Cond.instanceMethod yX0_unpack, Cond.selects RX0 yX0_unpack yX0_unpack, Cond.initialized RX0, Cond.code yX0_unpack cX0_unpack 2 none, Cond.fieldLink RX0 11 "ContentsFinder$Counters" "at" "[I", Cond.methodLink RX6 120 yX0_allowHead]
def wsX7_counter_r4 : List Cond := [Cond.instanceMethod yX0_allowHead, Cond.selects RX0 yX0_allowHead yX0_allowHead, Cond.code yX0_allowHead cX0_allowHead 5 (some .boolean), Cond.fieldLink RX0 15 "ContentsFinder$Counters" "lines" "LContentsFinder$Lines;", Cond.fieldLink RX0 19 "ContentsFinder$Lines" "parts" "[I", Cond.methodLink RX0 24 yX1_partAt, Cond.methodLink RX6 123 yX6_offer, Cond.instanceMethod yX6_offer, Cond.selects RX6 yX6_offer yX6_offer, Cond.code yX6_offer cX6_offer 10 none, Cond.fieldLink RX6 38 "ContentsFinder$Tree" "nextKeys" "[J", Cond.fieldLink RX6 44 "ContentsFinder$Tree" "nextStates" "[I", Cond.methodLink RX6 145 Lib.MathLoose.min_long.x, Cond.static Lib.MathLoose.min_long.x, Cond.code Lib.MathLoose.min_long.x Lib.MathLoose.min_long.code 4 (some .long), Cond.methodLink RX6 130 yX6_textCost, Cond.instanceMethod yX6_textCost, Cond.selects RX6 yX6_textCost yX6_textCost, Cond.code yX6_textCost cX6_textCost 2 (some .int), Cond.fieldLink RX6 152 "ContentsFinder$Settings" "prices" "[I", Cond.methodLink RX6 149 yX1_look, Cond.instanceMethod yX1_look, Cond.selects RX1 yX1_look yX1_look, Cond.code yX1_look cX1_look 2 (some .int)]
def wsX7_counter_r5 : List Cond := [Cond.fieldLink RX1 18 "ContentsFinder$Lines" "blank" "[I", Cond.fieldLink RX1 21 "ContentsFinder$Lines" "centred" "[Z", Cond.methodLink RX6 134 yX6_headCost, Cond.instanceMethod yX6_headCost, Cond.selects RX6 yX6_headCost yX6_headCost, Cond.code yX6_headCost cX6_headCost 6 (some .int), Cond.fieldLink RX6 155 "ContentsFinder$Settings" "wants" "[I", Cond.methodLink RX6 158 Lib.Math.abs.name, Cond.static Lib.Math.abs.name, Cond.code Lib.Math.abs.name Lib.Math.abs.code 1 (some .int), Cond.fieldLink RX6 161 "ContentsFinder$Lines" "parts" "[I", Cond.fieldLink RX6 164 "ContentsFinder$Counters" "at" "[I", Cond.methodLink RX6 137 yX0_passHead, Cond.instanceMethod yX0_passHead, Cond.selects RX0 yX0_passHead yX0_passHead, Cond.code yX0_passHead cX0_passHead 4 none, Cond.methodLink RX6 141 yX0_pack, Cond.instanceMethod yX0_pack, Cond.selects RX0 yX0_pack yX0_pack, Cond.code yX0_pack cX0_pack 4 (some .int), Cond.methodLink RX6 127 yX6_swapRows, Cond.instanceMethod yX6_swapRows, Cond.selects RX6 yX6_swapRows yX6_swapRows, Cond.code yX6_swapRows cX6_swapRows 3 none]
def wsX7_counter_r6 : List Cond := [Cond.methodLink RX6 97 yX6_takeLeastKey, Cond.instanceMethod yX6_takeLeastKey, Cond.selects RX6 yX6_takeLeastKey yX6_takeLeastKey, Cond.code yX6_takeLeastKey cX6_takeLeastKey 4 (some .long), Cond.methodLink RX6 101 yX6_tellLevels, Cond.instanceMethod yX6_tellLevels, Cond.selects RX6 yX6_tellLevels yX6_tellLevels, Cond.code yX6_tellLevels cX6_tellLevels 4 none, Cond.fieldLink RX6 26 "ContentsFinder$Tree" "cost" "I", Cond.fieldLink RX6 22 "ContentsFinder$Tree" "heads" "I", Cond.fieldLink RX6 15 "ContentsFinder$Tree" "levels" "[I", Cond.constantLong RX6 167 (3), Cond.methodLink RX6 105 yX6_tellCounters, Cond.instanceMethod yX6_tellCounters, Cond.selects RX6 yX6_tellCounters yX6_tellCounters, Cond.code yX6_tellCounters cX6_tellCounters 3 none, Cond.fieldLink RX6 19 "ContentsFinder$Tree" "countersBehind" "[I"]
def wsX7_counter : List Cond := .code yX7_counter cX7_counter 3 (some .int) :: ((wsX7_counter_r1 ++ (wsX7_counter_r2 ++ (wsX7_counter_r3 ++ (wsX7_counter_r4 ++ (wsX7_counter_r5 ++ wsX7_counter_r6))))) ++ wsX70 ++ wsX60 ++ wsX10 ++ wsX40 ++ wsX00)
def wsX7_entry : List Cond := .code yX7_entry cX7_entry 6 (some .int) :: ([.fieldLink RX7 44 "ContentsFinder" "listing" "LContentsFinder$Listing;", .fieldLink RX7 79 "ContentsFinder$Listing" "count" "I", .fieldLink RX7 195 "ContentsFinder$Listing" "level" "[I", .fieldLink RX7 198 "ContentsFinder$Listing" "number" "[I", .fieldLink RX7 201 "ContentsFinder$Listing" "firstWords" "[I", .fieldLink RX7 202 "ContentsFinder$Listing" "lastWords" "[I", .fieldLink RX7 61 "ContentsFinder" "listingIsOld" "Z", .methodLink RX7 67 yX7_isWithin, .static yX7_isWithin, .initialized RX7, .code yX7_isWithin cX7_isWithin 3 (some .boolean), .methodLink RX7 94 yX7_areWords, .static yX7_areWords, .code yX7_areWords cX7_areWords 2 (some .boolean)] ++ wsX70 ++ wsX20)
def wsX7_clear : List Cond := .code yX7_clear cX7_clear 2 (some .int) :: ([.fieldLink RX7 44 "ContentsFinder" "listing" "LContentsFinder$Listing;", .fieldLink RX7 79 "ContentsFinder$Listing" "count" "I", .fieldLink RX7 61 "ContentsFinder" "listingIsOld" "Z"] ++ wsX70 ++ wsX20)
def wsX7_partner_r1 : List Cond := [Cond.fieldLink RX7 44 "ContentsFinder" "listing" "LContentsFinder$Listing;", Cond.fieldLink RX7 79 "ContentsFinder$Listing" "count" "I", Cond.fieldLink RX7 203 "ContentsFinder$Listing" "partnerOfEntry" "[I", Cond.methodLink RX7 67 yX7_isWithin, Cond.static yX7_isWithin, Cond.initialized RX7, Cond.code yX7_isWithin cX7_isWithin 3 (some .boolean), Cond.methodLink RX7 145 yX7_freshListing, Cond.instanceMethod yX7_freshListing, Cond.selects RX7 yX7_freshListing yX7_freshListing, Cond.code yX7_freshListing cX7_freshListing 1 (some (.object "ContentsFinder$Listing")), Cond.fieldLink RX7 61 "ContentsFinder" "listingIsOld" "Z", Cond.methodLink RX7 135 yX7_freshTree, Cond.instanceMethod yX7_freshTree, Cond.selects RX7 yX7_freshTree yX7_freshTree, Cond.code yX7_freshTree cX7_freshTree 1 (some (.object "ContentsFinder$Tree")), Cond.fieldLink RX7 57 "ContentsFinder" "treeIsOld" "Z", Cond.fieldLink RX7 35 "ContentsFinder" "tree" "LContentsFinder$Tree;", Cond.methodLink RX7 217 yX6_search, Cond.instanceMethod yX6_search, Cond.selects RX6 yX6_search yX6_search, Cond.initialized RX6, Cond.code yX6_search cX6_search 2 none, Cond.fieldLink RX6 53 "ContentsFinder$Tree" "lines" "LContentsFinder$Lines;"]
def wsX7_partner_r2 : List Cond := [Cond.fieldLink RX6 76 "ContentsFinder$Lines" "count" "I", Cond.fieldLink RX6 9 "ContentsFinder$Tree" "running" "[Z", Cond.fieldLink RX6 57 "ContentsFinder$Tree" "settings" "LContentsFinder$Settings;", Cond.fieldLink RX6 81 "ContentsFinder$Settings" "many" "I", Cond.fieldLink RX6 47 "ContentsFinder$Tree" "reached" "I", Cond.fieldLink RX6 41 "ContentsFinder$Tree" "states" "[I", Cond.fieldLink RX6 34 "ContentsFinder$Tree" "keys" "[J", Cond.methodLink RX6 86 yX1_isRunning, Cond.instanceMethod yX1_isRunning, Cond.selects RX1 yX1_isRunning yX1_isRunning, Cond.initialized RX1, Cond.code yX1_isRunning cX1_isRunning 6 (some .boolean), Cond.fieldLink RX1 25 "ContentsFinder$Lines" "firstWords" "[I", Cond.fieldLink RX1 28 "ContentsFinder$Lines" "lastWords" "[I", Cond.fieldLink RX1 37 "ContentsFinder$Lines" "count" "I", Cond.fieldLink RX1 9 "ContentsFinder$Lines" "page" "[I", Cond.methodLink RX1 49 yX1_areAlike, Cond.instanceMethod yX1_areAlike, Cond.selects RX1 yX1_areAlike yX1_areAlike, Cond.code yX1_areAlike cX1_areAlike 3 (some .boolean), Cond.fieldLink RX1 15 "ContentsFinder$Lines" "size" "[I", Cond.methodLink RX6 90 yX6_findCapsBehind, Cond.instanceMethod yX6_findCapsBehind, Cond.selects RX6 yX6_findCapsBehind yX6_findCapsBehind]
def wsX7_partner_r3 : List Cond := [Cond.code yX6_findCapsBehind cX6_findCapsBehind 5 none, Cond.methodLink RX6 112 Lib.Math.max.name, Cond.static Lib.Math.max.name, Cond.initialized "java/lang/Math", Cond.code Lib.Math.max.name Lib.Math.max.code 2 (some .int), Cond.fieldLink RX6 29 "ContentsFinder$Tree" "caps" "[I", Cond.methodLink RX6 108 yX1_partAt, Cond.instanceMethod yX1_partAt, Cond.selects RX1 yX1_partAt yX1_partAt, Cond.code yX1_partAt cX1_partAt 3 (some .int), Cond.fieldLink RX1 34 "ContentsFinder$Lines" "part" "[I", Cond.methodLink RX6 94 yX6_passLine, Cond.instanceMethod yX6_passLine, Cond.selects RX6 yX6_passLine yX6_passLine, Cond.code yX6_passLine cX6_passLine 8 none, Cond.fieldLink RX6 50 "ContentsFinder$Tree" "nextReached" "I", Cond.constantLong RX6 68 (1152921504606846976), Cond.fieldLink RX6 64 "ContentsFinder$Tree" "counters" "LContentsFinder$Counters;", Cond.methodLink RX6 117 yX0_unpack, Cond.instanceMethod yX0_unpack, Cond.selects RX0 yX0_unpack yX0_unpack, Cond.initialized RX0, Cond.code yX0_unpack cX0_unpack 2 none, Cond.fieldLink RX0 11 "ContentsFinder$Counters" "at" "[I"]
def wsX7_partner_r4 : List Cond := [Cond.methodLink RX6 120 yX0_allowHead, Cond.instanceMethod yX0_allowHead, Cond.selects RX0 yX0_allowHead yX0_allowHead, Cond.code yX0_allowHead cX0_allowHead 5 (some .boolean), Cond.fieldLink RX0 15 "ContentsFinder$Counters" "lines" "LContentsFinder$Lines;", Cond.fieldLink RX0 19 "ContentsFinder$Lines" "parts" "[I", Cond.methodLink RX0 24 yX1_partAt, Cond.methodLink RX6 123 yX6_offer, Cond.instanceMethod yX6_offer, Cond.selects RX6 yX6_offer yX6_offer, Cond.code yX6_offer cX6_offer 10 none, Cond.fieldLink RX6 38 "ContentsFinder$Tree" "nextKeys" "[J", Cond.fieldLink RX6 44 "ContentsFinder$Tree" "nextStates" "[I", Cond.methodLink RX6 145 Lib.MathLoose.min_long.x, Cond.static Lib.MathLoose.min_long.x, Cond.code Lib.MathLoose.min_long.x Lib.MathLoose.min_long.code 4 (some .long), Cond.methodLink RX6 130 yX6_textCost, Cond.instanceMethod yX6_textCost, Cond.selects RX6 yX6_textCost yX6_textCost, Cond.code yX6_textCost cX6_textCost 2 (some .int), Cond.fieldLink RX6 152 "ContentsFinder$Settings" "prices" "[I", Cond.methodLink RX6 149 yX1_look, Cond.instanceMethod yX1_look, Cond.selects RX1 yX1_look yX1_look]
def wsX7_partner_r5 : List Cond := [Cond.code yX1_look cX1_look 2 (some .int), Cond.fieldLink RX1 18 "ContentsFinder$Lines" "blank" "[I", Cond.fieldLink RX1 21 "ContentsFinder$Lines" "centred" "[Z", Cond.methodLink RX6 134 yX6_headCost, Cond.instanceMethod yX6_headCost, Cond.selects RX6 yX6_headCost yX6_headCost, Cond.code yX6_headCost cX6_headCost 6 (some .int), Cond.fieldLink RX6 155 "ContentsFinder$Settings" "wants" "[I", Cond.methodLink RX6 158 Lib.Math.abs.name, Cond.static Lib.Math.abs.name, Cond.code Lib.Math.abs.name Lib.Math.abs.code 1 (some .int), Cond.fieldLink RX6 161 "ContentsFinder$Lines" "parts" "[I", Cond.fieldLink RX6 164 "ContentsFinder$Counters" "at" "[I", Cond.methodLink RX6 137 yX0_passHead, Cond.instanceMethod yX0_passHead, Cond.selects RX0 yX0_passHead yX0_passHead, Cond.code yX0_passHead cX0_passHead 4 none, Cond.methodLink RX6 141 yX0_pack, Cond.instanceMethod yX0_pack, Cond.selects RX0 yX0_pack yX0_pack, Cond.code yX0_pack cX0_pack 4 (some .int), Cond.methodLink RX6 127 yX6_swapRows, Cond.instanceMethod yX6_swapRows, Cond.selects RX6 yX6_swapRows yX6_swapRows]
def wsX7_partner_r6 : List Cond := [Cond.code yX6_swapRows cX6_swapRows 3 none, Cond.methodLink RX6 97 yX6_takeLeastKey, Cond.instanceMethod yX6_takeLeastKey, Cond.selects RX6 yX6_takeLeastKey yX6_takeLeastKey, Cond.code yX6_takeLeastKey cX6_takeLeastKey 4 (some .long), Cond.methodLink RX6 101 yX6_tellLevels, Cond.instanceMethod yX6_tellLevels, Cond.selects RX6 yX6_tellLevels yX6_tellLevels, Cond.code yX6_tellLevels cX6_tellLevels 4 none, Cond.fieldLink RX6 26 "ContentsFinder$Tree" "cost" "I", Cond.fieldLink RX6 22 "ContentsFinder$Tree" "heads" "I", Cond.fieldLink RX6 15 "ContentsFinder$Tree" "levels" "[I", Cond.constantLong RX6 167 (3), Cond.methodLink RX6 105 yX6_tellCounters, Cond.instanceMethod yX6_tellCounters, Cond.selects RX6 yX6_tellCounters yX6_tellCounters, Cond.code yX6_tellCounters cX6_tellCounters 3 none, Cond.fieldLink RX6 19 "ContentsFinder$Tree" "countersBehind" "[I", Cond.methodLink RX7 220 yX2_hold, Cond.instanceMethod yX2_hold, Cond.selects RX2 yX2_hold yX2_hold, Cond.initialized RX2, Cond.code yX2_hold cX2_hold 3 none, Cond.fieldLink RX2 24 "ContentsFinder$Listing" "count" "I"]
def wsX7_partner_r7 : List Cond := [Cond.fieldLink RX2 40 "ContentsFinder$Listing" "headCount" "I", Cond.fieldLink RX2 43 "ContentsFinder$Listing" "least" "[I", Cond.fieldLink RX2 34 "ContentsFinder$Listing" "cost" "I", Cond.methodLink RX2 62 yX2_gatherHeads, Cond.instanceMethod yX2_gatherHeads, Cond.selects RX2 yX2_gatherHeads yX2_gatherHeads, Cond.code yX2_gatherHeads cX2_gatherHeads 2 none, Cond.fieldLink RX2 46 "ContentsFinder$Listing" "lines" "LContentsFinder$Lines;", Cond.fieldLink RX2 72 "ContentsFinder$Lines" "count" "I", Cond.fieldLink RX2 54 "ContentsFinder$Listing" "tree" "LContentsFinder$Tree;", Cond.fieldLink RX2 75 "ContentsFinder$Tree" "levels" "[I", Cond.fieldLink RX2 37 "ContentsFinder$Listing" "heads" "[I", Cond.methodLink RX2 65 yX2_leastFrom, Cond.instanceMethod yX2_leastFrom, Cond.selects RX2 yX2_leastFrom yX2_leastFrom, Cond.code yX2_leastFrom cX2_leastFrom 6 (some .int), Cond.fieldLink RX2 58 "ContentsFinder$Listing" "settings" "LContentsFinder$Settings;", Cond.fieldLink RX2 80 "ContentsFinder$Settings" "prices" "[I", Cond.methodLink RX2 85 Lib.Math.min.name, Cond.static Lib.Math.min.name, Cond.code Lib.Math.min.name Lib.Math.min.code 2 (some .int), Cond.methodLink RX2 90 yX2_pairCost, Cond.instanceMethod yX2_pairCost, Cond.selects RX2 yX2_pairCost yX2_pairCost]
def wsX7_partner_r8 : List Cond := [Cond.code yX2_pairCost cX2_pairCost 7 (some .int), Cond.fieldLink RX2 18 "ContentsFinder$Listing" "firstWords" "[I", Cond.fieldLink RX2 93 "ContentsFinder$Lines" "firstWords" "[I", Cond.fieldLink RX2 21 "ContentsFinder$Listing" "lastWords" "[I", Cond.fieldLink RX2 97 "ContentsFinder$Lines" "lastWords" "[I", Cond.fieldLink RX2 9 "ContentsFinder$Listing" "level" "[I", Cond.methodLink RX2 98 Lib.Math.abs.name, Cond.fieldLink RX2 50 "ContentsFinder$Listing" "pages" "LContentsFinder$Pages;", Cond.fieldLink RX2 102 "ContentsFinder$Pages" "readNumber" "[I", Cond.fieldLink RX2 107 "ContentsFinder$Lines" "page" "[I", Cond.fieldLink RX2 15 "ContentsFinder$Listing" "number" "[I", Cond.methodLink RX2 94 yX2_unlikePlaces, Cond.static yX2_unlikePlaces, Cond.code yX2_unlikePlaces cX2_unlikePlaces 4 (some .int), Cond.methodLink RX2 69 yX2_tellPartners, Cond.instanceMethod yX2_tellPartners, Cond.selects RX2 yX2_tellPartners yX2_tellPartners, Cond.code yX2_tellPartners cX2_tellPartners 4 none, Cond.fieldLink RX2 28 "ContentsFinder$Listing" "partnerOfEntry" "[I", Cond.fieldLink RX2 31 "ContentsFinder$Listing" "partnerOfLine" "[I", Cond.methodLink RX2 110 yJ7_fill_53178, Cond.static yJ7_fill_53178, Cond.initialized RJ7, Cond.code yJ7_fill_53178 cJ7_fill_53178 4 none]
def wsX7_partner_r9 : List Cond := [Cond.methodLink RX2 116 yX2_firstCheapHead, Cond.instanceMethod yX2_firstCheapHead, Cond.selects RX2 yX2_firstCheapHead yX2_firstCheapHead, Cond.code yX2_firstCheapHead cX2_firstCheapHead 7 (some .int)]
def wsX7_partner : List Cond := .code yX7_partner cX7_partner 2 (some .int) :: ((wsX7_partner_r1 ++ (wsX7_partner_r2 ++ (wsX7_partner_r3 ++ (wsX7_partner_r4 ++ (wsX7_partner_r5 ++ (wsX7_partner_r6 ++ (wsX7_partner_r7 ++ (wsX7_partner_r8 ++ wsX7_partner_r9)))))))) ++ wsX70 ++ wsX20 ++ wsX60 ++ wsX10 ++ wsX40 ++ wsX00 ++ wsX30)
def wsX7_span_r1 : List Cond := [Cond.fieldLink RX7 27 "ContentsFinder" "pages" "LContentsFinder$Pages;", Cond.fieldLink RX7 211 "ContentsFinder$Shifts" "firstOfPage" "[I", Cond.methodLink RX7 83 yX3_has, Cond.instanceMethod yX3_has, Cond.selects RX3 yX3_has yX3_has, Cond.initialized RX3, Cond.code yX3_has cX3_has 2 (some .boolean), Cond.fieldLink RX3 15 "ContentsFinder$Pages" "count" "I", Cond.static yX7_isWithin, Cond.initialized RX7, Cond.code yX7_isWithin cX7_isWithin 3 (some .boolean), Cond.methodLink RX7 150 yX7_freshShifts, Cond.instanceMethod yX7_freshShifts, Cond.selects RX7 yX7_freshShifts yX7_freshShifts, Cond.code yX7_freshShifts cX7_freshShifts 1 (some (.object "ContentsFinder$Shifts")), Cond.fieldLink RX7 64 "ContentsFinder" "shiftsAreOld" "Z", Cond.fieldLink RX7 53 "ContentsFinder" "shifts" "LContentsFinder$Shifts;", Cond.methodLink RX7 223 yX5_explain, Cond.instanceMethod yX5_explain, Cond.selects RX5 yX5_explain yX5_explain, Cond.initialized RX5, Cond.code yX5_explain cX5_explain 2 none, Cond.fieldLink RX5 28 "ContentsFinder$Shifts" "least" "[I", Cond.fieldLink RX5 37 "ContentsFinder$Shifts" "pages" "LContentsFinder$Pages;"]
def wsX7_span_r2 : List Cond := [Cond.fieldLink RX5 45 "ContentsFinder$Pages" "count" "I", Cond.fieldLink RX5 18 "ContentsFinder$Shifts" "cost" "I", Cond.fieldLink RX5 22 "ContentsFinder$Shifts" "spans" "I", Cond.methodLink RX5 50 yX5_findFirstSpan, Cond.instanceMethod yX5_findFirstSpan, Cond.selects RX5 yX5_findFirstSpan yX5_findFirstSpan, Cond.code yX5_findFirstSpan cX5_findFirstSpan 8 none, Cond.fieldLink RX5 41 "ContentsFinder$Shifts" "settings" "LContentsFinder$Settings;", Cond.fieldLink RX5 61 "ContentsFinder$Settings" "prices" "[I", Cond.constant RX5 66 (1073741824), Cond.fieldLink RX5 67 "ContentsFinder$Pages" "readNumber" "[I", Cond.methodLink RX5 74 Lib.Math.max.name, Cond.static Lib.Math.max.name, Cond.initialized "java/lang/Math", Cond.code Lib.Math.max.name Lib.Math.max.code 2 (some .int), Cond.fieldLink RX5 31 "ContentsFinder$Shifts" "behind" "[I", Cond.methodLink RX5 70 yX5_addTime, Cond.instanceMethod yX5_addTime, Cond.selects RX5 yX5_addTime yX5_addTime, Cond.code yX5_addTime cX5_addTime 3 (some .int), Cond.fieldLink RX5 34 "ContentsFinder$Shifts" "timesOfShift" "[I", Cond.methodLink RX5 80 yX5_shiftPlace, Cond.instanceMethod yX5_shiftPlace, Cond.selects RX5 yX5_shiftPlace yX5_shiftPlace]
def wsX7_span_r3 : List Cond := [Cond.code yX5_shiftPlace cX5_shiftPlace 2 (some .int), Cond.methodLink RX5 54 yX5_forgetTimes, Cond.instanceMethod yX5_forgetTimes, Cond.selects RX5 yX5_forgetTimes yX5_forgetTimes, Cond.code yX5_forgetTimes cX5_forgetTimes 4 none, Cond.methodLink RX5 58 yX5_tellSpans, Cond.instanceMethod yX5_tellSpans, Cond.selects RX5 yX5_tellSpans yX5_tellSpans, Cond.code yX5_tellSpans cX5_tellSpans 5 none, Cond.fieldLink RX5 25 "ContentsFinder$Shifts" "wrongs" "I", Cond.fieldLink RX5 15 "ContentsFinder$Shifts" "firstOfPage" "[I", Cond.fieldLink RX5 11 "ContentsFinder$Shifts" "shiftOfPage" "[I", Cond.methodLink RX5 83 yX5_bestShift, Cond.instanceMethod yX5_bestShift, Cond.selects RX5 yX5_bestShift yX5_bestShift, Cond.code yX5_bestShift cX5_bestShift 8 (some .int), Cond.methodLink RX5 86 yX5_isWrong, Cond.instanceMethod yX5_isWrong, Cond.selects RX5 yX5_isWrong yX5_isWrong, Cond.code yX5_isWrong cX5_isWrong 3 (some .boolean)]
def wsX7_span : List Cond := .code yX7_span cX7_span 2 (some .int) :: ((wsX7_span_r1 ++ (wsX7_span_r2 ++ wsX7_span_r3)) ++ wsX70 ++ wsX50 ++ wsX30 ++ wsX40)
def wsX7_wrong_r1 : List Cond := [Cond.fieldLink RX7 27 "ContentsFinder" "pages" "LContentsFinder$Pages;", Cond.methodLink RX7 83 yX3_has, Cond.instanceMethod yX3_has, Cond.selects RX3 yX3_has yX3_has, Cond.initialized RX3, Cond.code yX3_has cX3_has 2 (some .boolean), Cond.fieldLink RX3 15 "ContentsFinder$Pages" "count" "I", Cond.static yX7_isWithin, Cond.initialized RX7, Cond.code yX7_isWithin cX7_isWithin 3 (some .boolean), Cond.methodLink RX7 150 yX7_freshShifts, Cond.instanceMethod yX7_freshShifts, Cond.selects RX7 yX7_freshShifts yX7_freshShifts, Cond.code yX7_freshShifts cX7_freshShifts 1 (some (.object "ContentsFinder$Shifts")), Cond.fieldLink RX7 64 "ContentsFinder" "shiftsAreOld" "Z", Cond.fieldLink RX7 53 "ContentsFinder" "shifts" "LContentsFinder$Shifts;", Cond.methodLink RX7 223 yX5_explain, Cond.instanceMethod yX5_explain, Cond.selects RX5 yX5_explain yX5_explain, Cond.initialized RX5, Cond.code yX5_explain cX5_explain 2 none, Cond.fieldLink RX5 28 "ContentsFinder$Shifts" "least" "[I", Cond.fieldLink RX5 37 "ContentsFinder$Shifts" "pages" "LContentsFinder$Pages;", Cond.fieldLink RX5 45 "ContentsFinder$Pages" "count" "I"]
def wsX7_wrong_r2 : List Cond := [Cond.fieldLink RX5 18 "ContentsFinder$Shifts" "cost" "I", Cond.fieldLink RX5 22 "ContentsFinder$Shifts" "spans" "I", Cond.methodLink RX5 50 yX5_findFirstSpan, Cond.instanceMethod yX5_findFirstSpan, Cond.selects RX5 yX5_findFirstSpan yX5_findFirstSpan, Cond.code yX5_findFirstSpan cX5_findFirstSpan 8 none, Cond.fieldLink RX5 41 "ContentsFinder$Shifts" "settings" "LContentsFinder$Settings;", Cond.fieldLink RX5 61 "ContentsFinder$Settings" "prices" "[I", Cond.constant RX5 66 (1073741824), Cond.fieldLink RX5 67 "ContentsFinder$Pages" "readNumber" "[I", Cond.methodLink RX5 74 Lib.Math.max.name, Cond.static Lib.Math.max.name, Cond.initialized "java/lang/Math", Cond.code Lib.Math.max.name Lib.Math.max.code 2 (some .int), Cond.fieldLink RX5 31 "ContentsFinder$Shifts" "behind" "[I", Cond.methodLink RX5 70 yX5_addTime, Cond.instanceMethod yX5_addTime, Cond.selects RX5 yX5_addTime yX5_addTime, Cond.code yX5_addTime cX5_addTime 3 (some .int), Cond.fieldLink RX5 34 "ContentsFinder$Shifts" "timesOfShift" "[I", Cond.methodLink RX5 80 yX5_shiftPlace, Cond.instanceMethod yX5_shiftPlace, Cond.selects RX5 yX5_shiftPlace yX5_shiftPlace, Cond.code yX5_shiftPlace cX5_shiftPlace 2 (some .int)]
def wsX7_wrong_r3 : List Cond := [Cond.methodLink RX5 54 yX5_forgetTimes, Cond.instanceMethod yX5_forgetTimes, Cond.selects RX5 yX5_forgetTimes yX5_forgetTimes, Cond.code yX5_forgetTimes cX5_forgetTimes 4 none, Cond.methodLink RX5 58 yX5_tellSpans, Cond.instanceMethod yX5_tellSpans, Cond.selects RX5 yX5_tellSpans yX5_tellSpans, Cond.code yX5_tellSpans cX5_tellSpans 5 none, Cond.fieldLink RX5 25 "ContentsFinder$Shifts" "wrongs" "I", Cond.fieldLink RX5 15 "ContentsFinder$Shifts" "firstOfPage" "[I", Cond.fieldLink RX5 11 "ContentsFinder$Shifts" "shiftOfPage" "[I", Cond.methodLink RX5 83 yX5_bestShift, Cond.instanceMethod yX5_bestShift, Cond.selects RX5 yX5_bestShift yX5_bestShift, Cond.code yX5_bestShift cX5_bestShift 8 (some .int), Cond.methodLink RX5 86 yX5_isWrong, Cond.instanceMethod yX5_isWrong, Cond.selects RX5 yX5_isWrong yX5_isWrong, Cond.code yX5_isWrong cX5_isWrong 3 (some .boolean), Cond.methodLink RX7 214 yX5_isWrong]
def wsX7_wrong : List Cond := .code yX7_wrong cX7_wrong 2 (some .int) :: ((wsX7_wrong_r1 ++ (wsX7_wrong_r2 ++ wsX7_wrong_r3)) ++ wsX70 ++ wsX30 ++ wsX50 ++ wsX40)
def wsX8_init_r1 : List Cond := [Cond.methodLink RX8 3 objectInit, Cond.instanceMethod objectInit, Cond.code objectInit ⟨#[0xb1]⟩ 1 none, Cond.fieldLink RX8 9 "ContentsFinderModel" "pages" "I", Cond.arrayClass .int, Cond.fieldLink RX8 13 "ContentsFinderModel" "read" "[I", Cond.fieldLink RX8 17 "ContentsFinderModel" "page" "[I", Cond.fieldLink RX8 20 "ContentsFinderModel" "size" "[I", Cond.fieldLink RX8 23 "ContentsFinderModel" "blank" "[I", Cond.arrayClass .boolean, Cond.fieldLink RX8 26 "ContentsFinderModel" "isCentred" "[Z", Cond.fieldLink RX8 30 "ContentsFinderModel" "words" "[I", Cond.fieldLink RX8 33 "ContentsFinderModel" "parts" "[I", Cond.fieldLink RX8 36 "ContentsFinderModel" "numbers" "[I", Cond.fieldLink RX8 39 "ContentsFinderModel" "prices" "[I", Cond.fieldLink RX8 42 "ContentsFinderModel" "wants" "[I", Cond.fieldLink RX8 45 "ContentsFinderModel" "entryLevel" "[I", Cond.fieldLink RX8 48 "ContentsFinderModel" "entryNumber" "[I", Cond.fieldLink RX8 51 "ContentsFinderModel" "entryWords" "[I", Cond.constant RX8 54 (718740), Cond.fieldLink RX8 55 "ContentsFinderModel" "least" "[I", Cond.fieldLink RX8 58 "ContentsFinderModel" "level" "[I", Cond.fieldLink RX8 61 "ContentsFinderModel" "counters" "[I", Cond.fieldLink RX8 64 "ContentsFinderModel" "heads" "[I"]
def wsX8_init_r2 : List Cond := [Cond.fieldLink RX8 67 "ContentsFinderModel" "held" "[I", Cond.fieldLink RX8 70 "ContentsFinderModel" "partnerOf" "[I", Cond.fieldLink RX8 73 "ContentsFinderModel" "spanCost" "[I", Cond.fieldLink RX8 76 "ContentsFinderModel" "spanMany" "[I", Cond.fieldLink RX8 79 "ContentsFinderModel" "spanEnd" "[I", Cond.fieldLink RX8 82 "ContentsFinderModel" "spanOf" "[I", Cond.fieldLink RX8 85 "ContentsFinderModel" "shiftOf" "[I", Cond.fieldLink RX8 88 "ContentsFinderModel" "isRun" "[Z", Cond.fieldLink RX8 91 "ContentsFinderModel" "asked" "[I"]
def wsX8_init : List Cond := .code yX8_init cX8_init 1 none :: ((wsX8_init_r1 ++ wsX8_init_r2) ++ wsX80)
def wsX8_thrown : List Cond := .code yX8_thrown cX8_thrown 1 (some .int) :: ([.fieldLink RX8 94 "ContentsFinderModel" "thrown" "I"] ++ wsX80)
def wsX8_in : List Cond := .code yX8_in cX8_in 3 (some .boolean) :: ([])
def wsX8_isLine : List Cond := .code yX8_isLine cX8_isLine 2 (some .boolean) :: ([.fieldLink RX8 97 "ContentsFinderModel" "lines" "I", .methodLink RX8 100 yX8_in, .static yX8_in, .initialized RX8, .code yX8_in cX8_in 3 (some .boolean)] ++ wsX80)
def wsX8_book : List Cond := .code yX8_book cX8_book 3 (some .boolean) :: ([.fieldLink RX8 94 "ContentsFinderModel" "thrown" "I", .fieldLink RX8 9 "ContentsFinderModel" "pages" "I", .fieldLink RX8 13 "ContentsFinderModel" "read" "[I", .fieldLink RX8 97 "ContentsFinderModel" "lines" "I", .fieldLink RX8 104 "ContentsFinderModel" "entries" "I", .fieldLink RX8 107 "ContentsFinderModel" "isFound" "Z", .methodLink RX8 100 yX8_in, .static yX8_in, .initialized RX8, .code yX8_in cX8_in 3 (some .boolean)] ++ wsX80)
def wsX8_read : List Cond := .code yX8_read cX8_read 3 (some .boolean) :: ([.fieldLink RX8 94 "ContentsFinderModel" "thrown" "I", .fieldLink RX8 9 "ContentsFinderModel" "pages" "I", .fieldLink RX8 13 "ContentsFinderModel" "read" "[I", .fieldLink RX8 107 "ContentsFinderModel" "isFound" "Z", .methodLink RX8 100 yX8_in, .static yX8_in, .initialized RX8, .code yX8_in cX8_in 3 (some .boolean)] ++ wsX80)
def wsX8_partsOf : List Cond := .code yX8_partsOf cX8_partsOf 8 (some .int) :: ([.constant RX8 111 (121212), .methodLink RX8 100 yX8_in, .static yX8_in, .initialized RX8, .code yX8_in cX8_in 3 (some .boolean)])
def wsX8_areWords : List Cond := .code yX8_areWords cX8_areWords 3 (some .boolean) :: ([])
def wsX8_layWords : List Cond := .code yX8_layWords cX8_layWords 5 none :: ([])
def wsX8_line_r1 : List Cond := [Cond.fieldLink RX8 94 "ContentsFinderModel" "thrown" "I", Cond.fieldLink RX8 9 "ContentsFinderModel" "pages" "I", Cond.fieldLink RX8 97 "ContentsFinderModel" "lines" "I", Cond.fieldLink RX8 17 "ContentsFinderModel" "page" "[I", Cond.fieldLink RX8 20 "ContentsFinderModel" "size" "[I", Cond.fieldLink RX8 23 "ContentsFinderModel" "blank" "[I", Cond.fieldLink RX8 26 "ContentsFinderModel" "isCentred" "[Z", Cond.fieldLink RX8 30 "ContentsFinderModel" "words" "[I", Cond.fieldLink RX8 33 "ContentsFinderModel" "parts" "[I", Cond.fieldLink RX8 36 "ContentsFinderModel" "numbers" "[I", Cond.fieldLink RX8 107 "ContentsFinderModel" "isFound" "Z", Cond.methodLink RX8 100 yX8_in, Cond.static yX8_in, Cond.initialized RX8, Cond.code yX8_in cX8_in 3 (some .boolean), Cond.methodLink RX8 112 yX8_areWords, Cond.static yX8_areWords, Cond.code yX8_areWords cX8_areWords 3 (some .boolean), Cond.methodLink RX8 116 yX8_partsOf, Cond.instanceMethod yX8_partsOf, Cond.selects RX8 yX8_partsOf yX8_partsOf, Cond.code yX8_partsOf cX8_partsOf 8 (some .int), Cond.constant RX8 111 (121212), Cond.methodLink RX8 120 yX8_layWords]
def wsX8_line_r2 : List Cond := [Cond.static yX8_layWords, Cond.code yX8_layWords cX8_layWords 5 none]
def wsX8_line : List Cond := .code yX8_line cX8_line 8 (some .int) :: ((wsX8_line_r1 ++ wsX8_line_r2) ++ wsX80)
def wsX8_right : List Cond := .code yX8_right cX8_right 4 (some .boolean) :: ([.fieldLink RX8 94 "ContentsFinderModel" "thrown" "I", .fieldLink RX8 20 "ContentsFinderModel" "size" "[I", .fieldLink RX8 33 "ContentsFinderModel" "parts" "[I", .fieldLink RX8 36 "ContentsFinderModel" "numbers" "[I", .fieldLink RX8 107 "ContentsFinderModel" "isFound" "Z", .methodLink RX8 124 yX8_isLine, .instanceMethod yX8_isLine, .selects RX8 yX8_isLine yX8_isLine, .initialized RX8, .code yX8_isLine cX8_isLine 2 (some .boolean), .fieldLink RX8 97 "ContentsFinderModel" "lines" "I", .methodLink RX8 100 yX8_in, .static yX8_in, .code yX8_in cX8_in 3 (some .boolean), .methodLink RX8 116 yX8_partsOf, .instanceMethod yX8_partsOf, .selects RX8 yX8_partsOf yX8_partsOf, .code yX8_partsOf cX8_partsOf 8 (some .int), .constant RX8 111 (121212)] ++ wsX80)
def wsX8_drop : List Cond := .code yX8_drop cX8_drop 1 (some .int) :: ([.fieldLink RX8 94 "ContentsFinderModel" "thrown" "I", .fieldLink RX8 97 "ContentsFinderModel" "lines" "I", .fieldLink RX8 107 "ContentsFinderModel" "isFound" "Z"] ++ wsX80)
def wsX8_price : List Cond := .code yX8_price cX8_price 4 (some .int) :: ([.fieldLink RX8 94 "ContentsFinderModel" "thrown" "I", .fieldLink RX8 39 "ContentsFinderModel" "prices" "[I", .fieldLink RX8 107 "ContentsFinderModel" "isFound" "Z", .methodLink RX8 100 yX8_in, .static yX8_in, .initialized RX8, .code yX8_in cX8_in 3 (some .boolean)] ++ wsX80)
def wsX8_want : List Cond := .code yX8_want cX8_want 4 (some .int) :: ([.fieldLink RX8 94 "ContentsFinderModel" "thrown" "I", .fieldLink RX8 42 "ContentsFinderModel" "wants" "[I", .fieldLink RX8 107 "ContentsFinderModel" "isFound" "Z", .methodLink RX8 100 yX8_in, .static yX8_in, .initialized RX8, .code yX8_in cX8_in 3 (some .boolean)] ++ wsX80)
def wsX8_entry : List Cond := .code yX8_entry cX8_entry 5 (some .int) :: ([.fieldLink RX8 94 "ContentsFinderModel" "thrown" "I", .fieldLink RX8 104 "ContentsFinderModel" "entries" "I", .fieldLink RX8 45 "ContentsFinderModel" "entryLevel" "[I", .fieldLink RX8 48 "ContentsFinderModel" "entryNumber" "[I", .fieldLink RX8 51 "ContentsFinderModel" "entryWords" "[I", .fieldLink RX8 107 "ContentsFinderModel" "isFound" "Z", .methodLink RX8 100 yX8_in, .static yX8_in, .initialized RX8, .code yX8_in cX8_in 3 (some .boolean), .methodLink RX8 112 yX8_areWords, .static yX8_areWords, .code yX8_areWords cX8_areWords 3 (some .boolean), .methodLink RX8 120 yX8_layWords, .static yX8_layWords, .code yX8_layWords cX8_layWords 5 none] ++ wsX80)
def wsX8_clear : List Cond := .code yX8_clear cX8_clear 2 (some .int) :: ([.fieldLink RX8 94 "ContentsFinderModel" "thrown" "I", .fieldLink RX8 104 "ContentsFinderModel" "entries" "I", .fieldLink RX8 107 "ContentsFinderModel" "isFound" "Z"] ++ wsX80)
def wsX8_look : List Cond := .code yX8_look cX8_look 2 (some .int) :: ([.fieldLink RX8 20 "ContentsFinderModel" "size" "[I", .fieldLink RX8 23 "ContentsFinderModel" "blank" "[I", .fieldLink RX8 26 "ContentsFinderModel" "isCentred" "[Z"] ++ wsX80)
def wsX8_areLike : List Cond := .code yX8_areLike cX8_areLike 4 (some .boolean) :: ([.fieldLink RX8 20 "ContentsFinderModel" "size" "[I", .fieldLink RX8 30 "ContentsFinderModel" "words" "[I"] ++ wsX80)
def wsX8_isRunning : List Cond := .code yX8_isRunning cX8_isRunning 6 (some .boolean) :: ([.fieldLink RX8 30 "ContentsFinderModel" "words" "[I", .fieldLink RX8 97 "ContentsFinderModel" "lines" "I", .fieldLink RX8 17 "ContentsFinderModel" "page" "[I", .fieldLink RX8 42 "ContentsFinderModel" "wants" "[I", .methodLink RX8 128 yX8_areLike, .instanceMethod yX8_areLike, .selects RX8 yX8_areLike yX8_areLike, .initialized RX8, .code yX8_areLike cX8_areLike 4 (some .boolean), .fieldLink RX8 20 "ContentsFinderModel" "size" "[I"] ++ wsX80)
def wsX8_counterOf : List Cond := .code yX8_counterOf cX8_counterOf 2 (some .int) :: ([])
def wsX8_behind : List Cond := .code yX8_behind cX8_behind 9 (some .int) :: ([.fieldLink RX8 33 "ContentsFinderModel" "parts" "[I", .fieldLink RX8 36 "ContentsFinderModel" "numbers" "[I", .methodLink RX8 131 yX8_counterOf, .static yX8_counterOf, .initialized RX8, .code yX8_counterOf cX8_counterOf 2 (some .int)] ++ wsX80)
def wsX8_costOf : List Cond := .code yX8_costOf cX8_costOf 5 (some .int) :: ([.fieldLink RX8 88 "ContentsFinderModel" "isRun" "[Z", .fieldLink RX8 39 "ContentsFinderModel" "prices" "[I", .fieldLink RX8 42 "ContentsFinderModel" "wants" "[I", .methodLink RX8 139 Lib.Math.abs.name, .static Lib.Math.abs.name, .initialized "java/lang/Math", .code Lib.Math.abs.name Lib.Math.abs.code 1 (some .int), .fieldLink RX8 33 "ContentsFinderModel" "parts" "[I", .fieldLink RX8 36 "ContentsFinderModel" "numbers" "[I", .methodLink RX8 135 yX8_look, .instanceMethod yX8_look, .selects RX8 yX8_look yX8_look, .initialized RX8, .code yX8_look cX8_look 2 (some .int), .fieldLink RX8 20 "ContentsFinderModel" "size" "[I", .fieldLink RX8 23 "ContentsFinderModel" "blank" "[I", .fieldLink RX8 26 "ContentsFinderModel" "isCentred" "[Z", .methodLink RX8 131 yX8_counterOf, .static yX8_counterOf, .code yX8_counterOf cX8_counterOf 2 (some .int)] ++ wsX80)
def wsX8_costWithLevel_r1 : List Cond := [Cond.fieldLink RX8 88 "ContentsFinderModel" "isRun" "[Z", Cond.constant RX8 148 (1000000), Cond.methodLink RX8 144 yX8_behind, Cond.instanceMethod yX8_behind, Cond.selects RX8 yX8_behind yX8_behind, Cond.initialized RX8, Cond.code yX8_behind cX8_behind 9 (some .int), Cond.fieldLink RX8 33 "ContentsFinderModel" "parts" "[I", Cond.fieldLink RX8 36 "ContentsFinderModel" "numbers" "[I", Cond.methodLink RX8 131 yX8_counterOf, Cond.static yX8_counterOf, Cond.code yX8_counterOf cX8_counterOf 2 (some .int), Cond.methodLink RX8 149 yX8_costOf, Cond.instanceMethod yX8_costOf, Cond.selects RX8 yX8_costOf yX8_costOf, Cond.code yX8_costOf cX8_costOf 5 (some .int), Cond.fieldLink RX8 39 "ContentsFinderModel" "prices" "[I", Cond.fieldLink RX8 42 "ContentsFinderModel" "wants" "[I", Cond.methodLink RX8 139 Lib.Math.abs.name, Cond.static Lib.Math.abs.name, Cond.initialized "java/lang/Math", Cond.code Lib.Math.abs.name Lib.Math.abs.code 1 (some .int), Cond.methodLink RX8 135 yX8_look, Cond.instanceMethod yX8_look]
def wsX8_costWithLevel_r2 : List Cond := [Cond.selects RX8 yX8_look yX8_look, Cond.code yX8_look cX8_look 2 (some .int), Cond.fieldLink RX8 20 "ContentsFinderModel" "size" "[I", Cond.fieldLink RX8 23 "ContentsFinderModel" "blank" "[I", Cond.fieldLink RX8 26 "ContentsFinderModel" "isCentred" "[Z", Cond.methodLink RX8 152 yX8_leastFrom, Cond.instanceMethod yX8_leastFrom, Cond.selects RX8 yX8_leastFrom yX8_leastFrom, Cond.code yX8_leastFrom cX8_leastFrom 6 (some .int), Cond.fieldLink RX8 97 "ContentsFinderModel" "lines" "I", Cond.constant RX8 155 (35937), Cond.fieldLink RX8 91 "ContentsFinderModel" "asked" "[I", Cond.fieldLink RX8 156 "ContentsFinderModel" "turn" "I", Cond.fieldLink RX8 55 "ContentsFinderModel" "least" "[I", Cond.methodLink RX8 162 Lib.Math.min.name, Cond.static Lib.Math.min.name, Cond.code Lib.Math.min.name Lib.Math.min.code 2 (some .int), Cond.methodLink RX8 159 yX8_costWithLevel, Cond.instanceMethod yX8_costWithLevel, Cond.selects RX8 yX8_costWithLevel yX8_costWithLevel]
def wsX8_costWithLevel : List Cond := .code yX8_costWithLevel cX8_costWithLevel 5 (some .int) :: ((wsX8_costWithLevel_r1 ++ wsX8_costWithLevel_r2) ++ wsX80)
def wsX8_leastFrom_r1 : List Cond := [Cond.fieldLink RX8 97 "ContentsFinderModel" "lines" "I", Cond.constant RX8 155 (35937), Cond.fieldLink RX8 91 "ContentsFinderModel" "asked" "[I", Cond.fieldLink RX8 156 "ContentsFinderModel" "turn" "I", Cond.fieldLink RX8 55 "ContentsFinderModel" "least" "[I", Cond.constant RX8 148 (1000000), Cond.methodLink RX8 162 Lib.Math.min.name, Cond.static Lib.Math.min.name, Cond.initialized "java/lang/Math", Cond.code Lib.Math.min.name Lib.Math.min.code 2 (some .int), Cond.methodLink RX8 159 yX8_costWithLevel, Cond.instanceMethod yX8_costWithLevel, Cond.selects RX8 yX8_costWithLevel yX8_costWithLevel, Cond.initialized RX8, Cond.code yX8_costWithLevel cX8_costWithLevel 5 (some .int), Cond.fieldLink RX8 88 "ContentsFinderModel" "isRun" "[Z", Cond.methodLink RX8 144 yX8_behind, Cond.instanceMethod yX8_behind, Cond.selects RX8 yX8_behind yX8_behind, Cond.code yX8_behind cX8_behind 9 (some .int), Cond.fieldLink RX8 33 "ContentsFinderModel" "parts" "[I", Cond.fieldLink RX8 36 "ContentsFinderModel" "numbers" "[I", Cond.methodLink RX8 131 yX8_counterOf, Cond.static yX8_counterOf]
def wsX8_leastFrom_r2 : List Cond := [Cond.code yX8_counterOf cX8_counterOf 2 (some .int), Cond.methodLink RX8 149 yX8_costOf, Cond.instanceMethod yX8_costOf, Cond.selects RX8 yX8_costOf yX8_costOf, Cond.code yX8_costOf cX8_costOf 5 (some .int), Cond.fieldLink RX8 39 "ContentsFinderModel" "prices" "[I", Cond.fieldLink RX8 42 "ContentsFinderModel" "wants" "[I", Cond.methodLink RX8 139 Lib.Math.abs.name, Cond.static Lib.Math.abs.name, Cond.code Lib.Math.abs.name Lib.Math.abs.code 1 (some .int), Cond.methodLink RX8 135 yX8_look, Cond.instanceMethod yX8_look, Cond.selects RX8 yX8_look yX8_look, Cond.code yX8_look cX8_look 2 (some .int), Cond.fieldLink RX8 20 "ContentsFinderModel" "size" "[I", Cond.fieldLink RX8 23 "ContentsFinderModel" "blank" "[I", Cond.fieldLink RX8 26 "ContentsFinderModel" "isCentred" "[Z", Cond.methodLink RX8 152 yX8_leastFrom, Cond.instanceMethod yX8_leastFrom, Cond.selects RX8 yX8_leastFrom yX8_leastFrom]
def wsX8_leastFrom : List Cond := .code yX8_leastFrom cX8_leastFrom 6 (some .int) :: ((wsX8_leastFrom_r1 ++ wsX8_leastFrom_r2) ++ wsX80)
def wsX8_findTree_r1 : List Cond := [Cond.fieldLink RX8 97 "ContentsFinderModel" "lines" "I", Cond.fieldLink RX8 88 "ContentsFinderModel" "isRun" "[Z", Cond.fieldLink RX8 156 "ContentsFinderModel" "turn" "I", Cond.fieldLink RX8 168 "ContentsFinderModel" "treeCost" "I", Cond.fieldLink RX8 171 "ContentsFinderModel" "headMany" "I", Cond.fieldLink RX8 58 "ContentsFinderModel" "level" "[I", Cond.fieldLink RX8 61 "ContentsFinderModel" "counters" "[I", Cond.fieldLink RX8 64 "ContentsFinderModel" "heads" "[I", Cond.methodLink RX8 165 yX8_isRunning, Cond.instanceMethod yX8_isRunning, Cond.selects RX8 yX8_isRunning yX8_isRunning, Cond.initialized RX8, Cond.code yX8_isRunning cX8_isRunning 6 (some .boolean), Cond.fieldLink RX8 30 "ContentsFinderModel" "words" "[I", Cond.fieldLink RX8 17 "ContentsFinderModel" "page" "[I", Cond.fieldLink RX8 42 "ContentsFinderModel" "wants" "[I", Cond.methodLink RX8 128 yX8_areLike, Cond.instanceMethod yX8_areLike, Cond.selects RX8 yX8_areLike yX8_areLike, Cond.code yX8_areLike cX8_areLike 4 (some .boolean), Cond.fieldLink RX8 20 "ContentsFinderModel" "size" "[I", Cond.methodLink RX8 152 yX8_leastFrom, Cond.instanceMethod yX8_leastFrom, Cond.selects RX8 yX8_leastFrom yX8_leastFrom]
def wsX8_findTree_r2 : List Cond := [Cond.code yX8_leastFrom cX8_leastFrom 6 (some .int), Cond.constant RX8 155 (35937), Cond.fieldLink RX8 91 "ContentsFinderModel" "asked" "[I", Cond.fieldLink RX8 55 "ContentsFinderModel" "least" "[I", Cond.constant RX8 148 (1000000), Cond.methodLink RX8 162 Lib.Math.min.name, Cond.static Lib.Math.min.name, Cond.initialized "java/lang/Math", Cond.code Lib.Math.min.name Lib.Math.min.code 2 (some .int), Cond.methodLink RX8 159 yX8_costWithLevel, Cond.instanceMethod yX8_costWithLevel, Cond.selects RX8 yX8_costWithLevel yX8_costWithLevel, Cond.code yX8_costWithLevel cX8_costWithLevel 5 (some .int), Cond.methodLink RX8 144 yX8_behind, Cond.instanceMethod yX8_behind, Cond.selects RX8 yX8_behind yX8_behind, Cond.code yX8_behind cX8_behind 9 (some .int), Cond.fieldLink RX8 33 "ContentsFinderModel" "parts" "[I", Cond.fieldLink RX8 36 "ContentsFinderModel" "numbers" "[I", Cond.methodLink RX8 131 yX8_counterOf, Cond.static yX8_counterOf, Cond.code yX8_counterOf cX8_counterOf 2 (some .int), Cond.methodLink RX8 149 yX8_costOf, Cond.instanceMethod yX8_costOf]
def wsX8_findTree_r3 : List Cond := [Cond.selects RX8 yX8_costOf yX8_costOf, Cond.code yX8_costOf cX8_costOf 5 (some .int), Cond.fieldLink RX8 39 "ContentsFinderModel" "prices" "[I", Cond.methodLink RX8 139 Lib.Math.abs.name, Cond.static Lib.Math.abs.name, Cond.code Lib.Math.abs.name Lib.Math.abs.code 1 (some .int), Cond.methodLink RX8 135 yX8_look, Cond.instanceMethod yX8_look, Cond.selects RX8 yX8_look yX8_look, Cond.code yX8_look cX8_look 2 (some .int), Cond.fieldLink RX8 23 "ContentsFinderModel" "blank" "[I", Cond.fieldLink RX8 26 "ContentsFinderModel" "isCentred" "[Z"]
def wsX8_findTree : List Cond := .code yX8_findTree cX8_findTree 5 none :: ((wsX8_findTree_r1 ++ (wsX8_findTree_r2 ++ wsX8_findTree_r3)) ++ wsX80)
def wsX8_partnerCost : List Cond := .code yX8_partnerCost cX8_partnerCost 5 (some .int) :: ([.fieldLink RX8 51 "ContentsFinderModel" "entryWords" "[I", .fieldLink RX8 30 "ContentsFinderModel" "words" "[I", .fieldLink RX8 39 "ContentsFinderModel" "prices" "[I", .fieldLink RX8 45 "ContentsFinderModel" "entryLevel" "[I", .fieldLink RX8 58 "ContentsFinderModel" "level" "[I", .methodLink RX8 139 Lib.Math.abs.name, .static Lib.Math.abs.name, .initialized "java/lang/Math", .code Lib.Math.abs.name Lib.Math.abs.code 1 (some .int), .fieldLink RX8 48 "ContentsFinderModel" "entryNumber" "[I", .fieldLink RX8 13 "ContentsFinderModel" "read" "[I", .fieldLink RX8 17 "ContentsFinderModel" "page" "[I"] ++ wsX80)
def wsX8_costWith : List Cond := .code yX8_costWith cX8_costWith 5 (some .int) :: ([.fieldLink RX8 171 "ContentsFinderModel" "headMany" "I", .fieldLink RX8 39 "ContentsFinderModel" "prices" "[I", .fieldLink RX8 67 "ContentsFinderModel" "held" "[I", .fieldLink RX8 64 "ContentsFinderModel" "heads" "[I", .methodLink RX8 174 yX8_partnerCost, .instanceMethod yX8_partnerCost, .selects RX8 yX8_partnerCost yX8_partnerCost, .initialized RX8, .code yX8_partnerCost cX8_partnerCost 5 (some .int), .fieldLink RX8 51 "ContentsFinderModel" "entryWords" "[I", .fieldLink RX8 30 "ContentsFinderModel" "words" "[I", .fieldLink RX8 45 "ContentsFinderModel" "entryLevel" "[I", .fieldLink RX8 58 "ContentsFinderModel" "level" "[I", .methodLink RX8 139 Lib.Math.abs.name, .static Lib.Math.abs.name, .initialized "java/lang/Math", .code Lib.Math.abs.name Lib.Math.abs.code 1 (some .int), .fieldLink RX8 48 "ContentsFinderModel" "entryNumber" "[I", .fieldLink RX8 13 "ContentsFinderModel" "read" "[I", .fieldLink RX8 17 "ContentsFinderModel" "page" "[I"] ++ wsX80)
def wsX8_hold_r1 : List Cond := [Cond.fieldLink RX8 171 "ContentsFinderModel" "headMany" "I", Cond.fieldLink RX8 67 "ContentsFinderModel" "held" "[I", Cond.fieldLink RX8 104 "ContentsFinderModel" "entries" "I", Cond.fieldLink RX8 39 "ContentsFinderModel" "prices" "[I", Cond.constant RX8 148 (1000000), Cond.methodLink RX8 162 Lib.Math.min.name, Cond.static Lib.Math.min.name, Cond.initialized "java/lang/Math", Cond.code Lib.Math.min.name Lib.Math.min.code 2 (some .int), Cond.fieldLink RX8 70 "ContentsFinderModel" "partnerOf" "[I", Cond.fieldLink RX8 64 "ContentsFinderModel" "heads" "[I", Cond.methodLink RX8 177 yX8_costWith, Cond.instanceMethod yX8_costWith, Cond.selects RX8 yX8_costWith yX8_costWith, Cond.initialized RX8, Cond.code yX8_costWith cX8_costWith 5 (some .int), Cond.methodLink RX8 174 yX8_partnerCost, Cond.instanceMethod yX8_partnerCost, Cond.selects RX8 yX8_partnerCost yX8_partnerCost, Cond.code yX8_partnerCost cX8_partnerCost 5 (some .int), Cond.fieldLink RX8 51 "ContentsFinderModel" "entryWords" "[I", Cond.fieldLink RX8 30 "ContentsFinderModel" "words" "[I", Cond.fieldLink RX8 45 "ContentsFinderModel" "entryLevel" "[I", Cond.fieldLink RX8 58 "ContentsFinderModel" "level" "[I"]
def wsX8_hold_r2 : List Cond := [Cond.methodLink RX8 139 Lib.Math.abs.name, Cond.static Lib.Math.abs.name, Cond.code Lib.Math.abs.name Lib.Math.abs.code 1 (some .int), Cond.fieldLink RX8 48 "ContentsFinderModel" "entryNumber" "[I", Cond.fieldLink RX8 13 "ContentsFinderModel" "read" "[I", Cond.fieldLink RX8 17 "ContentsFinderModel" "page" "[I"]
def wsX8_hold : List Cond := .code yX8_hold cX8_hold 6 none :: ((wsX8_hold_r1 ++ wsX8_hold_r2) ++ wsX80)
def wsX8_wrongIn : List Cond := .code yX8_wrongIn cX8_wrongIn 9 (some .int) :: ([.fieldLink RX8 180 "ContentsFinderModel" "bestShift" "I", .fieldLink RX8 13 "ContentsFinderModel" "read" "[I"] ++ wsX80)
def wsX8_findShifts : List Cond := .code yX8_findShifts cX8_findShifts 5 none :: ([.fieldLink RX8 73 "ContentsFinderModel" "spanCost" "[I", .fieldLink RX8 9 "ContentsFinderModel" "pages" "I", .fieldLink RX8 76 "ContentsFinderModel" "spanMany" "[I", .constant RX8 148 (1000000), .fieldLink RX8 39 "ContentsFinderModel" "prices" "[I", .fieldLink RX8 79 "ContentsFinderModel" "spanEnd" "[I", .fieldLink RX8 82 "ContentsFinderModel" "spanOf" "[I", .fieldLink RX8 85 "ContentsFinderModel" "shiftOf" "[I", .fieldLink RX8 180 "ContentsFinderModel" "bestShift" "I", .methodLink RX8 183 yX8_wrongIn, .instanceMethod yX8_wrongIn, .selects RX8 yX8_wrongIn yX8_wrongIn, .initialized RX8, .code yX8_wrongIn cX8_wrongIn 9 (some .int), .fieldLink RX8 13 "ContentsFinderModel" "read" "[I"] ++ wsX80)
def wsX8_find_r1 : List Cond := [Cond.fieldLink RX8 107 "ContentsFinderModel" "isFound" "Z", Cond.methodLink RX8 186 yX8_findTree, Cond.instanceMethod yX8_findTree, Cond.selects RX8 yX8_findTree yX8_findTree, Cond.initialized RX8, Cond.code yX8_findTree cX8_findTree 5 none, Cond.fieldLink RX8 97 "ContentsFinderModel" "lines" "I", Cond.fieldLink RX8 88 "ContentsFinderModel" "isRun" "[Z", Cond.fieldLink RX8 156 "ContentsFinderModel" "turn" "I", Cond.fieldLink RX8 168 "ContentsFinderModel" "treeCost" "I", Cond.fieldLink RX8 171 "ContentsFinderModel" "headMany" "I", Cond.fieldLink RX8 58 "ContentsFinderModel" "level" "[I", Cond.fieldLink RX8 61 "ContentsFinderModel" "counters" "[I", Cond.fieldLink RX8 64 "ContentsFinderModel" "heads" "[I", Cond.methodLink RX8 165 yX8_isRunning, Cond.instanceMethod yX8_isRunning, Cond.selects RX8 yX8_isRunning yX8_isRunning, Cond.code yX8_isRunning cX8_isRunning 6 (some .boolean), Cond.fieldLink RX8 30 "ContentsFinderModel" "words" "[I", Cond.fieldLink RX8 17 "ContentsFinderModel" "page" "[I", Cond.fieldLink RX8 42 "ContentsFinderModel" "wants" "[I", Cond.methodLink RX8 128 yX8_areLike, Cond.instanceMethod yX8_areLike, Cond.selects RX8 yX8_areLike yX8_areLike]
def wsX8_find_r2 : List Cond := [Cond.code yX8_areLike cX8_areLike 4 (some .boolean), Cond.fieldLink RX8 20 "ContentsFinderModel" "size" "[I", Cond.methodLink RX8 152 yX8_leastFrom, Cond.instanceMethod yX8_leastFrom, Cond.selects RX8 yX8_leastFrom yX8_leastFrom, Cond.code yX8_leastFrom cX8_leastFrom 6 (some .int), Cond.constant RX8 155 (35937), Cond.fieldLink RX8 91 "ContentsFinderModel" "asked" "[I", Cond.fieldLink RX8 55 "ContentsFinderModel" "least" "[I", Cond.constant RX8 148 (1000000), Cond.methodLink RX8 162 Lib.Math.min.name, Cond.static Lib.Math.min.name, Cond.initialized "java/lang/Math", Cond.code Lib.Math.min.name Lib.Math.min.code 2 (some .int), Cond.methodLink RX8 159 yX8_costWithLevel, Cond.instanceMethod yX8_costWithLevel, Cond.selects RX8 yX8_costWithLevel yX8_costWithLevel, Cond.code yX8_costWithLevel cX8_costWithLevel 5 (some .int), Cond.methodLink RX8 144 yX8_behind, Cond.instanceMethod yX8_behind, Cond.selects RX8 yX8_behind yX8_behind, Cond.code yX8_behind cX8_behind 9 (some .int), Cond.fieldLink RX8 33 "ContentsFinderModel" "parts" "[I", Cond.fieldLink RX8 36 "ContentsFinderModel" "numbers" "[I"]
def wsX8_find_r3 : List Cond := [Cond.methodLink RX8 131 yX8_counterOf, Cond.static yX8_counterOf, Cond.code yX8_counterOf cX8_counterOf 2 (some .int), Cond.methodLink RX8 149 yX8_costOf, Cond.instanceMethod yX8_costOf, Cond.selects RX8 yX8_costOf yX8_costOf, Cond.code yX8_costOf cX8_costOf 5 (some .int), Cond.fieldLink RX8 39 "ContentsFinderModel" "prices" "[I", Cond.methodLink RX8 139 Lib.Math.abs.name, Cond.static Lib.Math.abs.name, Cond.code Lib.Math.abs.name Lib.Math.abs.code 1 (some .int), Cond.methodLink RX8 135 yX8_look, Cond.instanceMethod yX8_look, Cond.selects RX8 yX8_look yX8_look, Cond.code yX8_look cX8_look 2 (some .int), Cond.fieldLink RX8 23 "ContentsFinderModel" "blank" "[I", Cond.fieldLink RX8 26 "ContentsFinderModel" "isCentred" "[Z", Cond.methodLink RX8 189 yX8_hold, Cond.instanceMethod yX8_hold, Cond.selects RX8 yX8_hold yX8_hold, Cond.code yX8_hold cX8_hold 6 none, Cond.fieldLink RX8 67 "ContentsFinderModel" "held" "[I", Cond.fieldLink RX8 104 "ContentsFinderModel" "entries" "I", Cond.fieldLink RX8 70 "ContentsFinderModel" "partnerOf" "[I"]
def wsX8_find_r4 : List Cond := [Cond.methodLink RX8 177 yX8_costWith, Cond.instanceMethod yX8_costWith, Cond.selects RX8 yX8_costWith yX8_costWith, Cond.code yX8_costWith cX8_costWith 5 (some .int), Cond.methodLink RX8 174 yX8_partnerCost, Cond.instanceMethod yX8_partnerCost, Cond.selects RX8 yX8_partnerCost yX8_partnerCost, Cond.code yX8_partnerCost cX8_partnerCost 5 (some .int), Cond.fieldLink RX8 51 "ContentsFinderModel" "entryWords" "[I", Cond.fieldLink RX8 45 "ContentsFinderModel" "entryLevel" "[I", Cond.fieldLink RX8 48 "ContentsFinderModel" "entryNumber" "[I", Cond.fieldLink RX8 13 "ContentsFinderModel" "read" "[I", Cond.methodLink RX8 192 yX8_findShifts, Cond.instanceMethod yX8_findShifts, Cond.selects RX8 yX8_findShifts yX8_findShifts, Cond.code yX8_findShifts cX8_findShifts 5 none, Cond.fieldLink RX8 73 "ContentsFinderModel" "spanCost" "[I", Cond.fieldLink RX8 9 "ContentsFinderModel" "pages" "I", Cond.fieldLink RX8 76 "ContentsFinderModel" "spanMany" "[I", Cond.fieldLink RX8 79 "ContentsFinderModel" "spanEnd" "[I", Cond.fieldLink RX8 82 "ContentsFinderModel" "spanOf" "[I", Cond.fieldLink RX8 85 "ContentsFinderModel" "shiftOf" "[I", Cond.fieldLink RX8 180 "ContentsFinderModel" "bestShift" "I", Cond.methodLink RX8 183 yX8_wrongIn]
def wsX8_find_r5 : List Cond := [Cond.instanceMethod yX8_wrongIn, Cond.selects RX8 yX8_wrongIn yX8_wrongIn, Cond.code yX8_wrongIn cX8_wrongIn 9 (some .int)]
def wsX8_find : List Cond := .code yX8_find cX8_find 1 none :: ((wsX8_find_r1 ++ (wsX8_find_r2 ++ (wsX8_find_r3 ++ (wsX8_find_r4 ++ wsX8_find_r5)))) ++ wsX80)
def wsX8_isWrong : List Cond := .code yX8_isWrong cX8_isWrong 2 (some .boolean) :: ([.fieldLink RX8 13 "ContentsFinderModel" "read" "[I", .fieldLink RX8 85 "ContentsFinderModel" "shiftOf" "[I"] ++ wsX80)
def wsX8_count_r1 : List Cond := [Cond.fieldLink RX8 94 "ContentsFinderModel" "thrown" "I", Cond.fieldLink RX8 9 "ContentsFinderModel" "pages" "I", Cond.fieldLink RX8 97 "ContentsFinderModel" "lines" "I", Cond.fieldLink RX8 104 "ContentsFinderModel" "entries" "I", Cond.fieldLink RX8 171 "ContentsFinderModel" "headMany" "I", Cond.fieldLink RX8 168 "ContentsFinderModel" "treeCost" "I", Cond.fieldLink RX8 67 "ContentsFinderModel" "held" "[I", Cond.fieldLink RX8 73 "ContentsFinderModel" "spanCost" "[I", Cond.fieldLink RX8 76 "ContentsFinderModel" "spanMany" "[I", Cond.methodLink RX8 195 yX8_find, Cond.instanceMethod yX8_find, Cond.selects RX8 yX8_find yX8_find, Cond.initialized RX8, Cond.code yX8_find cX8_find 1 none, Cond.fieldLink RX8 107 "ContentsFinderModel" "isFound" "Z", Cond.methodLink RX8 186 yX8_findTree, Cond.instanceMethod yX8_findTree, Cond.selects RX8 yX8_findTree yX8_findTree, Cond.code yX8_findTree cX8_findTree 5 none, Cond.fieldLink RX8 88 "ContentsFinderModel" "isRun" "[Z", Cond.fieldLink RX8 156 "ContentsFinderModel" "turn" "I", Cond.fieldLink RX8 58 "ContentsFinderModel" "level" "[I", Cond.fieldLink RX8 61 "ContentsFinderModel" "counters" "[I", Cond.fieldLink RX8 64 "ContentsFinderModel" "heads" "[I"]
def wsX8_count_r2 : List Cond := [Cond.methodLink RX8 165 yX8_isRunning, Cond.instanceMethod yX8_isRunning, Cond.selects RX8 yX8_isRunning yX8_isRunning, Cond.code yX8_isRunning cX8_isRunning 6 (some .boolean), Cond.fieldLink RX8 30 "ContentsFinderModel" "words" "[I", Cond.fieldLink RX8 17 "ContentsFinderModel" "page" "[I", Cond.fieldLink RX8 42 "ContentsFinderModel" "wants" "[I", Cond.methodLink RX8 128 yX8_areLike, Cond.instanceMethod yX8_areLike, Cond.selects RX8 yX8_areLike yX8_areLike, Cond.code yX8_areLike cX8_areLike 4 (some .boolean), Cond.fieldLink RX8 20 "ContentsFinderModel" "size" "[I", Cond.methodLink RX8 152 yX8_leastFrom, Cond.instanceMethod yX8_leastFrom, Cond.selects RX8 yX8_leastFrom yX8_leastFrom, Cond.code yX8_leastFrom cX8_leastFrom 6 (some .int), Cond.constant RX8 155 (35937), Cond.fieldLink RX8 91 "ContentsFinderModel" "asked" "[I", Cond.fieldLink RX8 55 "ContentsFinderModel" "least" "[I", Cond.constant RX8 148 (1000000), Cond.methodLink RX8 162 Lib.Math.min.name, Cond.static Lib.Math.min.name, Cond.initialized "java/lang/Math", Cond.code Lib.Math.min.name Lib.Math.min.code 2 (some .int)]
def wsX8_count_r3 : List Cond := [Cond.methodLink RX8 159 yX8_costWithLevel, Cond.instanceMethod yX8_costWithLevel, Cond.selects RX8 yX8_costWithLevel yX8_costWithLevel, Cond.code yX8_costWithLevel cX8_costWithLevel 5 (some .int), Cond.methodLink RX8 144 yX8_behind, Cond.instanceMethod yX8_behind, Cond.selects RX8 yX8_behind yX8_behind, Cond.code yX8_behind cX8_behind 9 (some .int), Cond.fieldLink RX8 33 "ContentsFinderModel" "parts" "[I", Cond.fieldLink RX8 36 "ContentsFinderModel" "numbers" "[I", Cond.methodLink RX8 131 yX8_counterOf, Cond.static yX8_counterOf, Cond.code yX8_counterOf cX8_counterOf 2 (some .int), Cond.methodLink RX8 149 yX8_costOf, Cond.instanceMethod yX8_costOf, Cond.selects RX8 yX8_costOf yX8_costOf, Cond.code yX8_costOf cX8_costOf 5 (some .int), Cond.fieldLink RX8 39 "ContentsFinderModel" "prices" "[I", Cond.methodLink RX8 139 Lib.Math.abs.name, Cond.static Lib.Math.abs.name, Cond.code Lib.Math.abs.name Lib.Math.abs.code 1 (some .int), Cond.methodLink RX8 135 yX8_look, Cond.instanceMethod yX8_look, Cond.selects RX8 yX8_look yX8_look]
def wsX8_count_r4 : List Cond := [Cond.code yX8_look cX8_look 2 (some .int), Cond.fieldLink RX8 23 "ContentsFinderModel" "blank" "[I", Cond.fieldLink RX8 26 "ContentsFinderModel" "isCentred" "[Z", Cond.methodLink RX8 189 yX8_hold, Cond.instanceMethod yX8_hold, Cond.selects RX8 yX8_hold yX8_hold, Cond.code yX8_hold cX8_hold 6 none, Cond.fieldLink RX8 70 "ContentsFinderModel" "partnerOf" "[I", Cond.methodLink RX8 177 yX8_costWith, Cond.instanceMethod yX8_costWith, Cond.selects RX8 yX8_costWith yX8_costWith, Cond.code yX8_costWith cX8_costWith 5 (some .int), Cond.methodLink RX8 174 yX8_partnerCost, Cond.instanceMethod yX8_partnerCost, Cond.selects RX8 yX8_partnerCost yX8_partnerCost, Cond.code yX8_partnerCost cX8_partnerCost 5 (some .int), Cond.fieldLink RX8 51 "ContentsFinderModel" "entryWords" "[I", Cond.fieldLink RX8 45 "ContentsFinderModel" "entryLevel" "[I", Cond.fieldLink RX8 48 "ContentsFinderModel" "entryNumber" "[I", Cond.fieldLink RX8 13 "ContentsFinderModel" "read" "[I", Cond.methodLink RX8 192 yX8_findShifts, Cond.instanceMethod yX8_findShifts, Cond.selects RX8 yX8_findShifts yX8_findShifts, Cond.code yX8_findShifts cX8_findShifts 5 none]
def wsX8_count_r5 : List Cond := [Cond.fieldLink RX8 79 "ContentsFinderModel" "spanEnd" "[I", Cond.fieldLink RX8 82 "ContentsFinderModel" "spanOf" "[I", Cond.fieldLink RX8 85 "ContentsFinderModel" "shiftOf" "[I", Cond.fieldLink RX8 180 "ContentsFinderModel" "bestShift" "I", Cond.methodLink RX8 183 yX8_wrongIn, Cond.instanceMethod yX8_wrongIn, Cond.selects RX8 yX8_wrongIn yX8_wrongIn, Cond.code yX8_wrongIn cX8_wrongIn 9 (some .int), Cond.methodLink RX8 198 yX8_isWrong, Cond.instanceMethod yX8_isWrong, Cond.selects RX8 yX8_isWrong yX8_isWrong, Cond.code yX8_isWrong cX8_isWrong 2 (some .boolean)]
def wsX8_count : List Cond := .code yX8_count cX8_count 4 (some .int) :: ((wsX8_count_r1 ++ (wsX8_count_r2 ++ (wsX8_count_r3 ++ (wsX8_count_r4 ++ wsX8_count_r5)))) ++ wsX80)
def wsX8_endOf : List Cond := .code yX8_endOf cX8_endOf 3 (some .int) :: ([.fieldLink RX8 58 "ContentsFinderModel" "level" "[I", .fieldLink RX8 97 "ContentsFinderModel" "lines" "I", .fieldLink RX8 17 "ContentsFinderModel" "page" "[I", .fieldLink RX8 9 "ContentsFinderModel" "pages" "I"] ++ wsX80)
def wsX8_aboveOf : List Cond := .code yX8_aboveOf cX8_aboveOf 3 (some .int) :: ([.fieldLink RX8 58 "ContentsFinderModel" "level" "[I"] ++ wsX80)
def wsX8_partnerOfLine : List Cond := .code yX8_partnerOfLine cX8_partnerOfLine 3 (some .int) :: ([.fieldLink RX8 104 "ContentsFinderModel" "entries" "I", .fieldLink RX8 70 "ContentsFinderModel" "partnerOf" "[I"] ++ wsX80)
def wsX8_of_r1 : List Cond := [Cond.fieldLink RX8 94 "ContentsFinderModel" "thrown" "I", Cond.fieldLink RX8 17 "ContentsFinderModel" "page" "[I", Cond.fieldLink RX8 88 "ContentsFinderModel" "isRun" "[Z", Cond.fieldLink RX8 58 "ContentsFinderModel" "level" "[I", Cond.fieldLink RX8 33 "ContentsFinderModel" "parts" "[I", Cond.methodLink RX8 124 yX8_isLine, Cond.instanceMethod yX8_isLine, Cond.selects RX8 yX8_isLine yX8_isLine, Cond.initialized RX8, Cond.code yX8_isLine cX8_isLine 2 (some .boolean), Cond.fieldLink RX8 97 "ContentsFinderModel" "lines" "I", Cond.methodLink RX8 100 yX8_in, Cond.static yX8_in, Cond.code yX8_in cX8_in 3 (some .boolean), Cond.methodLink RX8 195 yX8_find, Cond.instanceMethod yX8_find, Cond.selects RX8 yX8_find yX8_find, Cond.code yX8_find cX8_find 1 none, Cond.fieldLink RX8 107 "ContentsFinderModel" "isFound" "Z", Cond.methodLink RX8 186 yX8_findTree, Cond.instanceMethod yX8_findTree, Cond.selects RX8 yX8_findTree yX8_findTree, Cond.code yX8_findTree cX8_findTree 5 none, Cond.fieldLink RX8 156 "ContentsFinderModel" "turn" "I"]
def wsX8_of_r2 : List Cond := [Cond.fieldLink RX8 168 "ContentsFinderModel" "treeCost" "I", Cond.fieldLink RX8 171 "ContentsFinderModel" "headMany" "I", Cond.fieldLink RX8 61 "ContentsFinderModel" "counters" "[I", Cond.fieldLink RX8 64 "ContentsFinderModel" "heads" "[I", Cond.methodLink RX8 165 yX8_isRunning, Cond.instanceMethod yX8_isRunning, Cond.selects RX8 yX8_isRunning yX8_isRunning, Cond.code yX8_isRunning cX8_isRunning 6 (some .boolean), Cond.fieldLink RX8 30 "ContentsFinderModel" "words" "[I", Cond.fieldLink RX8 42 "ContentsFinderModel" "wants" "[I", Cond.methodLink RX8 128 yX8_areLike, Cond.instanceMethod yX8_areLike, Cond.selects RX8 yX8_areLike yX8_areLike, Cond.code yX8_areLike cX8_areLike 4 (some .boolean), Cond.fieldLink RX8 20 "ContentsFinderModel" "size" "[I", Cond.methodLink RX8 152 yX8_leastFrom, Cond.instanceMethod yX8_leastFrom, Cond.selects RX8 yX8_leastFrom yX8_leastFrom, Cond.code yX8_leastFrom cX8_leastFrom 6 (some .int), Cond.constant RX8 155 (35937), Cond.fieldLink RX8 91 "ContentsFinderModel" "asked" "[I", Cond.fieldLink RX8 55 "ContentsFinderModel" "least" "[I", Cond.constant RX8 148 (1000000), Cond.methodLink RX8 162 Lib.Math.min.name]
def wsX8_of_r3 : List Cond := [Cond.static Lib.Math.min.name, Cond.initialized "java/lang/Math", Cond.code Lib.Math.min.name Lib.Math.min.code 2 (some .int), Cond.methodLink RX8 159 yX8_costWithLevel, Cond.instanceMethod yX8_costWithLevel, Cond.selects RX8 yX8_costWithLevel yX8_costWithLevel, Cond.code yX8_costWithLevel cX8_costWithLevel 5 (some .int), Cond.methodLink RX8 144 yX8_behind, Cond.instanceMethod yX8_behind, Cond.selects RX8 yX8_behind yX8_behind, Cond.code yX8_behind cX8_behind 9 (some .int), Cond.fieldLink RX8 36 "ContentsFinderModel" "numbers" "[I", Cond.methodLink RX8 131 yX8_counterOf, Cond.static yX8_counterOf, Cond.code yX8_counterOf cX8_counterOf 2 (some .int), Cond.methodLink RX8 149 yX8_costOf, Cond.instanceMethod yX8_costOf, Cond.selects RX8 yX8_costOf yX8_costOf, Cond.code yX8_costOf cX8_costOf 5 (some .int), Cond.fieldLink RX8 39 "ContentsFinderModel" "prices" "[I", Cond.methodLink RX8 139 Lib.Math.abs.name, Cond.static Lib.Math.abs.name, Cond.code Lib.Math.abs.name Lib.Math.abs.code 1 (some .int), Cond.methodLink RX8 135 yX8_look]
def wsX8_of_r4 : List Cond := [Cond.instanceMethod yX8_look, Cond.selects RX8 yX8_look yX8_look, Cond.code yX8_look cX8_look 2 (some .int), Cond.fieldLink RX8 23 "ContentsFinderModel" "blank" "[I", Cond.fieldLink RX8 26 "ContentsFinderModel" "isCentred" "[Z", Cond.methodLink RX8 189 yX8_hold, Cond.instanceMethod yX8_hold, Cond.selects RX8 yX8_hold yX8_hold, Cond.code yX8_hold cX8_hold 6 none, Cond.fieldLink RX8 67 "ContentsFinderModel" "held" "[I", Cond.fieldLink RX8 104 "ContentsFinderModel" "entries" "I", Cond.fieldLink RX8 70 "ContentsFinderModel" "partnerOf" "[I", Cond.methodLink RX8 177 yX8_costWith, Cond.instanceMethod yX8_costWith, Cond.selects RX8 yX8_costWith yX8_costWith, Cond.code yX8_costWith cX8_costWith 5 (some .int), Cond.methodLink RX8 174 yX8_partnerCost, Cond.instanceMethod yX8_partnerCost, Cond.selects RX8 yX8_partnerCost yX8_partnerCost, Cond.code yX8_partnerCost cX8_partnerCost 5 (some .int), Cond.fieldLink RX8 51 "ContentsFinderModel" "entryWords" "[I", Cond.fieldLink RX8 45 "ContentsFinderModel" "entryLevel" "[I", Cond.fieldLink RX8 48 "ContentsFinderModel" "entryNumber" "[I", Cond.fieldLink RX8 13 "ContentsFinderModel" "read" "[I"]
def wsX8_of_r5 : List Cond := [Cond.methodLink RX8 192 yX8_findShifts, Cond.instanceMethod yX8_findShifts, Cond.selects RX8 yX8_findShifts yX8_findShifts, Cond.code yX8_findShifts cX8_findShifts 5 none, Cond.fieldLink RX8 73 "ContentsFinderModel" "spanCost" "[I", Cond.fieldLink RX8 9 "ContentsFinderModel" "pages" "I", Cond.fieldLink RX8 76 "ContentsFinderModel" "spanMany" "[I", Cond.fieldLink RX8 79 "ContentsFinderModel" "spanEnd" "[I", Cond.fieldLink RX8 82 "ContentsFinderModel" "spanOf" "[I", Cond.fieldLink RX8 85 "ContentsFinderModel" "shiftOf" "[I", Cond.fieldLink RX8 180 "ContentsFinderModel" "bestShift" "I", Cond.methodLink RX8 183 yX8_wrongIn, Cond.instanceMethod yX8_wrongIn, Cond.selects RX8 yX8_wrongIn yX8_wrongIn, Cond.code yX8_wrongIn cX8_wrongIn 9 (some .int), Cond.methodLink RX8 201 yX8_endOf, Cond.instanceMethod yX8_endOf, Cond.selects RX8 yX8_endOf yX8_endOf, Cond.code yX8_endOf cX8_endOf 3 (some .int), Cond.methodLink RX8 204 yX8_partnerOfLine, Cond.instanceMethod yX8_partnerOfLine, Cond.selects RX8 yX8_partnerOfLine yX8_partnerOfLine, Cond.code yX8_partnerOfLine cX8_partnerOfLine 3 (some .int), Cond.methodLink RX8 207 yX8_aboveOf]
def wsX8_of_r6 : List Cond := [Cond.instanceMethod yX8_aboveOf, Cond.selects RX8 yX8_aboveOf yX8_aboveOf, Cond.code yX8_aboveOf cX8_aboveOf 3 (some .int)]
def wsX8_of : List Cond := .code yX8_of cX8_of 3 (some .int) :: ((wsX8_of_r1 ++ (wsX8_of_r2 ++ (wsX8_of_r3 ++ (wsX8_of_r4 ++ (wsX8_of_r5 ++ wsX8_of_r6))))) ++ wsX80)
def wsX8_counter_r1 : List Cond := [Cond.fieldLink RX8 94 "ContentsFinderModel" "thrown" "I", Cond.fieldLink RX8 61 "ContentsFinderModel" "counters" "[I", Cond.methodLink RX8 124 yX8_isLine, Cond.instanceMethod yX8_isLine, Cond.selects RX8 yX8_isLine yX8_isLine, Cond.initialized RX8, Cond.code yX8_isLine cX8_isLine 2 (some .boolean), Cond.fieldLink RX8 97 "ContentsFinderModel" "lines" "I", Cond.methodLink RX8 100 yX8_in, Cond.static yX8_in, Cond.code yX8_in cX8_in 3 (some .boolean), Cond.methodLink RX8 195 yX8_find, Cond.instanceMethod yX8_find, Cond.selects RX8 yX8_find yX8_find, Cond.code yX8_find cX8_find 1 none, Cond.fieldLink RX8 107 "ContentsFinderModel" "isFound" "Z", Cond.methodLink RX8 186 yX8_findTree, Cond.instanceMethod yX8_findTree, Cond.selects RX8 yX8_findTree yX8_findTree, Cond.code yX8_findTree cX8_findTree 5 none, Cond.fieldLink RX8 88 "ContentsFinderModel" "isRun" "[Z", Cond.fieldLink RX8 156 "ContentsFinderModel" "turn" "I", Cond.fieldLink RX8 168 "ContentsFinderModel" "treeCost" "I", Cond.fieldLink RX8 171 "ContentsFinderModel" "headMany" "I"]
def wsX8_counter_r2 : List Cond := [Cond.fieldLink RX8 58 "ContentsFinderModel" "level" "[I", Cond.fieldLink RX8 64 "ContentsFinderModel" "heads" "[I", Cond.methodLink RX8 165 yX8_isRunning, Cond.instanceMethod yX8_isRunning, Cond.selects RX8 yX8_isRunning yX8_isRunning, Cond.code yX8_isRunning cX8_isRunning 6 (some .boolean), Cond.fieldLink RX8 30 "ContentsFinderModel" "words" "[I", Cond.fieldLink RX8 17 "ContentsFinderModel" "page" "[I", Cond.fieldLink RX8 42 "ContentsFinderModel" "wants" "[I", Cond.methodLink RX8 128 yX8_areLike, Cond.instanceMethod yX8_areLike, Cond.selects RX8 yX8_areLike yX8_areLike, Cond.code yX8_areLike cX8_areLike 4 (some .boolean), Cond.fieldLink RX8 20 "ContentsFinderModel" "size" "[I", Cond.methodLink RX8 152 yX8_leastFrom, Cond.instanceMethod yX8_leastFrom, Cond.selects RX8 yX8_leastFrom yX8_leastFrom, Cond.code yX8_leastFrom cX8_leastFrom 6 (some .int), Cond.constant RX8 155 (35937), Cond.fieldLink RX8 91 "ContentsFinderModel" "asked" "[I", Cond.fieldLink RX8 55 "ContentsFinderModel" "least" "[I", Cond.constant RX8 148 (1000000), Cond.methodLink RX8 162 Lib.Math.min.name, Cond.static Lib.Math.min.name]
def wsX8_counter_r3 : List Cond := [Cond.initialized "java/lang/Math", Cond.code Lib.Math.min.name Lib.Math.min.code 2 (some .int), Cond.methodLink RX8 159 yX8_costWithLevel, Cond.instanceMethod yX8_costWithLevel, Cond.selects RX8 yX8_costWithLevel yX8_costWithLevel, Cond.code yX8_costWithLevel cX8_costWithLevel 5 (some .int), Cond.methodLink RX8 144 yX8_behind, Cond.instanceMethod yX8_behind, Cond.selects RX8 yX8_behind yX8_behind, Cond.code yX8_behind cX8_behind 9 (some .int), Cond.fieldLink RX8 33 "ContentsFinderModel" "parts" "[I", Cond.fieldLink RX8 36 "ContentsFinderModel" "numbers" "[I", Cond.methodLink RX8 131 yX8_counterOf, Cond.static yX8_counterOf, Cond.code yX8_counterOf cX8_counterOf 2 (some .int), Cond.methodLink RX8 149 yX8_costOf, Cond.instanceMethod yX8_costOf, Cond.selects RX8 yX8_costOf yX8_costOf, Cond.code yX8_costOf cX8_costOf 5 (some .int), Cond.fieldLink RX8 39 "ContentsFinderModel" "prices" "[I", Cond.methodLink RX8 139 Lib.Math.abs.name, Cond.static Lib.Math.abs.name, Cond.code Lib.Math.abs.name Lib.Math.abs.code 1 (some .int), Cond.methodLink RX8 135 yX8_look]
def wsX8_counter_r4 : List Cond := [Cond.instanceMethod yX8_look, Cond.selects RX8 yX8_look yX8_look, Cond.code yX8_look cX8_look 2 (some .int), Cond.fieldLink RX8 23 "ContentsFinderModel" "blank" "[I", Cond.fieldLink RX8 26 "ContentsFinderModel" "isCentred" "[Z", Cond.methodLink RX8 189 yX8_hold, Cond.instanceMethod yX8_hold, Cond.selects RX8 yX8_hold yX8_hold, Cond.code yX8_hold cX8_hold 6 none, Cond.fieldLink RX8 67 "ContentsFinderModel" "held" "[I", Cond.fieldLink RX8 104 "ContentsFinderModel" "entries" "I", Cond.fieldLink RX8 70 "ContentsFinderModel" "partnerOf" "[I", Cond.methodLink RX8 177 yX8_costWith, Cond.instanceMethod yX8_costWith, Cond.selects RX8 yX8_costWith yX8_costWith, Cond.code yX8_costWith cX8_costWith 5 (some .int), Cond.methodLink RX8 174 yX8_partnerCost, Cond.instanceMethod yX8_partnerCost, Cond.selects RX8 yX8_partnerCost yX8_partnerCost, Cond.code yX8_partnerCost cX8_partnerCost 5 (some .int), Cond.fieldLink RX8 51 "ContentsFinderModel" "entryWords" "[I", Cond.fieldLink RX8 45 "ContentsFinderModel" "entryLevel" "[I", Cond.fieldLink RX8 48 "ContentsFinderModel" "entryNumber" "[I", Cond.fieldLink RX8 13 "ContentsFinderModel" "read" "[I"]
def wsX8_counter_r5 : List Cond := [Cond.methodLink RX8 192 yX8_findShifts, Cond.instanceMethod yX8_findShifts, Cond.selects RX8 yX8_findShifts yX8_findShifts, Cond.code yX8_findShifts cX8_findShifts 5 none, Cond.fieldLink RX8 73 "ContentsFinderModel" "spanCost" "[I", Cond.fieldLink RX8 9 "ContentsFinderModel" "pages" "I", Cond.fieldLink RX8 76 "ContentsFinderModel" "spanMany" "[I", Cond.fieldLink RX8 79 "ContentsFinderModel" "spanEnd" "[I", Cond.fieldLink RX8 82 "ContentsFinderModel" "spanOf" "[I", Cond.fieldLink RX8 85 "ContentsFinderModel" "shiftOf" "[I", Cond.fieldLink RX8 180 "ContentsFinderModel" "bestShift" "I", Cond.methodLink RX8 183 yX8_wrongIn, Cond.instanceMethod yX8_wrongIn, Cond.selects RX8 yX8_wrongIn yX8_wrongIn, Cond.code yX8_wrongIn cX8_wrongIn 9 (some .int)]
def wsX8_counter : List Cond := .code yX8_counter cX8_counter 3 (some .int) :: ((wsX8_counter_r1 ++ (wsX8_counter_r2 ++ (wsX8_counter_r3 ++ (wsX8_counter_r4 ++ wsX8_counter_r5)))) ++ wsX80)
def wsX8_partner_r1 : List Cond := [Cond.fieldLink RX8 94 "ContentsFinderModel" "thrown" "I", Cond.fieldLink RX8 104 "ContentsFinderModel" "entries" "I", Cond.fieldLink RX8 70 "ContentsFinderModel" "partnerOf" "[I", Cond.methodLink RX8 100 yX8_in, Cond.static yX8_in, Cond.initialized RX8, Cond.code yX8_in cX8_in 3 (some .boolean), Cond.methodLink RX8 195 yX8_find, Cond.instanceMethod yX8_find, Cond.selects RX8 yX8_find yX8_find, Cond.code yX8_find cX8_find 1 none, Cond.fieldLink RX8 107 "ContentsFinderModel" "isFound" "Z", Cond.methodLink RX8 186 yX8_findTree, Cond.instanceMethod yX8_findTree, Cond.selects RX8 yX8_findTree yX8_findTree, Cond.code yX8_findTree cX8_findTree 5 none, Cond.fieldLink RX8 97 "ContentsFinderModel" "lines" "I", Cond.fieldLink RX8 88 "ContentsFinderModel" "isRun" "[Z", Cond.fieldLink RX8 156 "ContentsFinderModel" "turn" "I", Cond.fieldLink RX8 168 "ContentsFinderModel" "treeCost" "I", Cond.fieldLink RX8 171 "ContentsFinderModel" "headMany" "I", Cond.fieldLink RX8 58 "ContentsFinderModel" "level" "[I", Cond.fieldLink RX8 61 "ContentsFinderModel" "counters" "[I", Cond.fieldLink RX8 64 "ContentsFinderModel" "heads" "[I"]
def wsX8_partner_r2 : List Cond := [Cond.methodLink RX8 165 yX8_isRunning, Cond.instanceMethod yX8_isRunning, Cond.selects RX8 yX8_isRunning yX8_isRunning, Cond.code yX8_isRunning cX8_isRunning 6 (some .boolean), Cond.fieldLink RX8 30 "ContentsFinderModel" "words" "[I", Cond.fieldLink RX8 17 "ContentsFinderModel" "page" "[I", Cond.fieldLink RX8 42 "ContentsFinderModel" "wants" "[I", Cond.methodLink RX8 128 yX8_areLike, Cond.instanceMethod yX8_areLike, Cond.selects RX8 yX8_areLike yX8_areLike, Cond.code yX8_areLike cX8_areLike 4 (some .boolean), Cond.fieldLink RX8 20 "ContentsFinderModel" "size" "[I", Cond.methodLink RX8 152 yX8_leastFrom, Cond.instanceMethod yX8_leastFrom, Cond.selects RX8 yX8_leastFrom yX8_leastFrom, Cond.code yX8_leastFrom cX8_leastFrom 6 (some .int), Cond.constant RX8 155 (35937), Cond.fieldLink RX8 91 "ContentsFinderModel" "asked" "[I", Cond.fieldLink RX8 55 "ContentsFinderModel" "least" "[I", Cond.constant RX8 148 (1000000), Cond.methodLink RX8 162 Lib.Math.min.name, Cond.static Lib.Math.min.name, Cond.initialized "java/lang/Math", Cond.code Lib.Math.min.name Lib.Math.min.code 2 (some .int)]
def wsX8_partner_r3 : List Cond := [Cond.methodLink RX8 159 yX8_costWithLevel, Cond.instanceMethod yX8_costWithLevel, Cond.selects RX8 yX8_costWithLevel yX8_costWithLevel, Cond.code yX8_costWithLevel cX8_costWithLevel 5 (some .int), Cond.methodLink RX8 144 yX8_behind, Cond.instanceMethod yX8_behind, Cond.selects RX8 yX8_behind yX8_behind, Cond.code yX8_behind cX8_behind 9 (some .int), Cond.fieldLink RX8 33 "ContentsFinderModel" "parts" "[I", Cond.fieldLink RX8 36 "ContentsFinderModel" "numbers" "[I", Cond.methodLink RX8 131 yX8_counterOf, Cond.static yX8_counterOf, Cond.code yX8_counterOf cX8_counterOf 2 (some .int), Cond.methodLink RX8 149 yX8_costOf, Cond.instanceMethod yX8_costOf, Cond.selects RX8 yX8_costOf yX8_costOf, Cond.code yX8_costOf cX8_costOf 5 (some .int), Cond.fieldLink RX8 39 "ContentsFinderModel" "prices" "[I", Cond.methodLink RX8 139 Lib.Math.abs.name, Cond.static Lib.Math.abs.name, Cond.code Lib.Math.abs.name Lib.Math.abs.code 1 (some .int), Cond.methodLink RX8 135 yX8_look, Cond.instanceMethod yX8_look, Cond.selects RX8 yX8_look yX8_look]
def wsX8_partner_r4 : List Cond := [Cond.code yX8_look cX8_look 2 (some .int), Cond.fieldLink RX8 23 "ContentsFinderModel" "blank" "[I", Cond.fieldLink RX8 26 "ContentsFinderModel" "isCentred" "[Z", Cond.methodLink RX8 189 yX8_hold, Cond.instanceMethod yX8_hold, Cond.selects RX8 yX8_hold yX8_hold, Cond.code yX8_hold cX8_hold 6 none, Cond.fieldLink RX8 67 "ContentsFinderModel" "held" "[I", Cond.methodLink RX8 177 yX8_costWith, Cond.instanceMethod yX8_costWith, Cond.selects RX8 yX8_costWith yX8_costWith, Cond.code yX8_costWith cX8_costWith 5 (some .int), Cond.methodLink RX8 174 yX8_partnerCost, Cond.instanceMethod yX8_partnerCost, Cond.selects RX8 yX8_partnerCost yX8_partnerCost, Cond.code yX8_partnerCost cX8_partnerCost 5 (some .int), Cond.fieldLink RX8 51 "ContentsFinderModel" "entryWords" "[I", Cond.fieldLink RX8 45 "ContentsFinderModel" "entryLevel" "[I", Cond.fieldLink RX8 48 "ContentsFinderModel" "entryNumber" "[I", Cond.fieldLink RX8 13 "ContentsFinderModel" "read" "[I", Cond.methodLink RX8 192 yX8_findShifts, Cond.instanceMethod yX8_findShifts, Cond.selects RX8 yX8_findShifts yX8_findShifts, Cond.code yX8_findShifts cX8_findShifts 5 none]
def wsX8_partner_r5 : List Cond := [Cond.fieldLink RX8 73 "ContentsFinderModel" "spanCost" "[I", Cond.fieldLink RX8 9 "ContentsFinderModel" "pages" "I", Cond.fieldLink RX8 76 "ContentsFinderModel" "spanMany" "[I", Cond.fieldLink RX8 79 "ContentsFinderModel" "spanEnd" "[I", Cond.fieldLink RX8 82 "ContentsFinderModel" "spanOf" "[I", Cond.fieldLink RX8 85 "ContentsFinderModel" "shiftOf" "[I", Cond.fieldLink RX8 180 "ContentsFinderModel" "bestShift" "I", Cond.methodLink RX8 183 yX8_wrongIn, Cond.instanceMethod yX8_wrongIn, Cond.selects RX8 yX8_wrongIn yX8_wrongIn, Cond.code yX8_wrongIn cX8_wrongIn 9 (some .int)]
def wsX8_partner : List Cond := .code yX8_partner cX8_partner 2 (some .int) :: ((wsX8_partner_r1 ++ (wsX8_partner_r2 ++ (wsX8_partner_r3 ++ (wsX8_partner_r4 ++ wsX8_partner_r5)))) ++ wsX80)
def wsX8_shift_r1 : List Cond := [Cond.fieldLink RX8 94 "ContentsFinderModel" "thrown" "I", Cond.fieldLink RX8 9 "ContentsFinderModel" "pages" "I", Cond.fieldLink RX8 85 "ContentsFinderModel" "shiftOf" "[I", Cond.methodLink RX8 100 yX8_in, Cond.static yX8_in, Cond.initialized RX8, Cond.code yX8_in cX8_in 3 (some .boolean), Cond.methodLink RX8 195 yX8_find, Cond.instanceMethod yX8_find, Cond.selects RX8 yX8_find yX8_find, Cond.code yX8_find cX8_find 1 none, Cond.fieldLink RX8 107 "ContentsFinderModel" "isFound" "Z", Cond.methodLink RX8 186 yX8_findTree, Cond.instanceMethod yX8_findTree, Cond.selects RX8 yX8_findTree yX8_findTree, Cond.code yX8_findTree cX8_findTree 5 none, Cond.fieldLink RX8 97 "ContentsFinderModel" "lines" "I", Cond.fieldLink RX8 88 "ContentsFinderModel" "isRun" "[Z", Cond.fieldLink RX8 156 "ContentsFinderModel" "turn" "I", Cond.fieldLink RX8 168 "ContentsFinderModel" "treeCost" "I", Cond.fieldLink RX8 171 "ContentsFinderModel" "headMany" "I", Cond.fieldLink RX8 58 "ContentsFinderModel" "level" "[I", Cond.fieldLink RX8 61 "ContentsFinderModel" "counters" "[I", Cond.fieldLink RX8 64 "ContentsFinderModel" "heads" "[I"]
def wsX8_shift_r2 : List Cond := [Cond.methodLink RX8 165 yX8_isRunning, Cond.instanceMethod yX8_isRunning, Cond.selects RX8 yX8_isRunning yX8_isRunning, Cond.code yX8_isRunning cX8_isRunning 6 (some .boolean), Cond.fieldLink RX8 30 "ContentsFinderModel" "words" "[I", Cond.fieldLink RX8 17 "ContentsFinderModel" "page" "[I", Cond.fieldLink RX8 42 "ContentsFinderModel" "wants" "[I", Cond.methodLink RX8 128 yX8_areLike, Cond.instanceMethod yX8_areLike, Cond.selects RX8 yX8_areLike yX8_areLike, Cond.code yX8_areLike cX8_areLike 4 (some .boolean), Cond.fieldLink RX8 20 "ContentsFinderModel" "size" "[I", Cond.methodLink RX8 152 yX8_leastFrom, Cond.instanceMethod yX8_leastFrom, Cond.selects RX8 yX8_leastFrom yX8_leastFrom, Cond.code yX8_leastFrom cX8_leastFrom 6 (some .int), Cond.constant RX8 155 (35937), Cond.fieldLink RX8 91 "ContentsFinderModel" "asked" "[I", Cond.fieldLink RX8 55 "ContentsFinderModel" "least" "[I", Cond.constant RX8 148 (1000000), Cond.methodLink RX8 162 Lib.Math.min.name, Cond.static Lib.Math.min.name, Cond.initialized "java/lang/Math", Cond.code Lib.Math.min.name Lib.Math.min.code 2 (some .int)]
def wsX8_shift_r3 : List Cond := [Cond.methodLink RX8 159 yX8_costWithLevel, Cond.instanceMethod yX8_costWithLevel, Cond.selects RX8 yX8_costWithLevel yX8_costWithLevel, Cond.code yX8_costWithLevel cX8_costWithLevel 5 (some .int), Cond.methodLink RX8 144 yX8_behind, Cond.instanceMethod yX8_behind, Cond.selects RX8 yX8_behind yX8_behind, Cond.code yX8_behind cX8_behind 9 (some .int), Cond.fieldLink RX8 33 "ContentsFinderModel" "parts" "[I", Cond.fieldLink RX8 36 "ContentsFinderModel" "numbers" "[I", Cond.methodLink RX8 131 yX8_counterOf, Cond.static yX8_counterOf, Cond.code yX8_counterOf cX8_counterOf 2 (some .int), Cond.methodLink RX8 149 yX8_costOf, Cond.instanceMethod yX8_costOf, Cond.selects RX8 yX8_costOf yX8_costOf, Cond.code yX8_costOf cX8_costOf 5 (some .int), Cond.fieldLink RX8 39 "ContentsFinderModel" "prices" "[I", Cond.methodLink RX8 139 Lib.Math.abs.name, Cond.static Lib.Math.abs.name, Cond.code Lib.Math.abs.name Lib.Math.abs.code 1 (some .int), Cond.methodLink RX8 135 yX8_look, Cond.instanceMethod yX8_look, Cond.selects RX8 yX8_look yX8_look]
def wsX8_shift_r4 : List Cond := [Cond.code yX8_look cX8_look 2 (some .int), Cond.fieldLink RX8 23 "ContentsFinderModel" "blank" "[I", Cond.fieldLink RX8 26 "ContentsFinderModel" "isCentred" "[Z", Cond.methodLink RX8 189 yX8_hold, Cond.instanceMethod yX8_hold, Cond.selects RX8 yX8_hold yX8_hold, Cond.code yX8_hold cX8_hold 6 none, Cond.fieldLink RX8 67 "ContentsFinderModel" "held" "[I", Cond.fieldLink RX8 104 "ContentsFinderModel" "entries" "I", Cond.fieldLink RX8 70 "ContentsFinderModel" "partnerOf" "[I", Cond.methodLink RX8 177 yX8_costWith, Cond.instanceMethod yX8_costWith, Cond.selects RX8 yX8_costWith yX8_costWith, Cond.code yX8_costWith cX8_costWith 5 (some .int), Cond.methodLink RX8 174 yX8_partnerCost, Cond.instanceMethod yX8_partnerCost, Cond.selects RX8 yX8_partnerCost yX8_partnerCost, Cond.code yX8_partnerCost cX8_partnerCost 5 (some .int), Cond.fieldLink RX8 51 "ContentsFinderModel" "entryWords" "[I", Cond.fieldLink RX8 45 "ContentsFinderModel" "entryLevel" "[I", Cond.fieldLink RX8 48 "ContentsFinderModel" "entryNumber" "[I", Cond.fieldLink RX8 13 "ContentsFinderModel" "read" "[I", Cond.methodLink RX8 192 yX8_findShifts, Cond.instanceMethod yX8_findShifts]
def wsX8_shift_r5 : List Cond := [Cond.selects RX8 yX8_findShifts yX8_findShifts, Cond.code yX8_findShifts cX8_findShifts 5 none, Cond.fieldLink RX8 73 "ContentsFinderModel" "spanCost" "[I", Cond.fieldLink RX8 76 "ContentsFinderModel" "spanMany" "[I", Cond.fieldLink RX8 79 "ContentsFinderModel" "spanEnd" "[I", Cond.fieldLink RX8 82 "ContentsFinderModel" "spanOf" "[I", Cond.fieldLink RX8 180 "ContentsFinderModel" "bestShift" "I", Cond.methodLink RX8 183 yX8_wrongIn, Cond.instanceMethod yX8_wrongIn, Cond.selects RX8 yX8_wrongIn yX8_wrongIn, Cond.code yX8_wrongIn cX8_wrongIn 9 (some .int)]
def wsX8_shift : List Cond := .code yX8_shift cX8_shift 2 (some .int) :: ((wsX8_shift_r1 ++ (wsX8_shift_r2 ++ (wsX8_shift_r3 ++ (wsX8_shift_r4 ++ wsX8_shift_r5)))) ++ wsX80)
def wsX8_span_r1 : List Cond := [Cond.fieldLink RX8 94 "ContentsFinderModel" "thrown" "I", Cond.fieldLink RX8 9 "ContentsFinderModel" "pages" "I", Cond.fieldLink RX8 82 "ContentsFinderModel" "spanOf" "[I", Cond.methodLink RX8 100 yX8_in, Cond.static yX8_in, Cond.initialized RX8, Cond.code yX8_in cX8_in 3 (some .boolean), Cond.methodLink RX8 195 yX8_find, Cond.instanceMethod yX8_find, Cond.selects RX8 yX8_find yX8_find, Cond.code yX8_find cX8_find 1 none, Cond.fieldLink RX8 107 "ContentsFinderModel" "isFound" "Z", Cond.methodLink RX8 186 yX8_findTree, Cond.instanceMethod yX8_findTree, Cond.selects RX8 yX8_findTree yX8_findTree, Cond.code yX8_findTree cX8_findTree 5 none, Cond.fieldLink RX8 97 "ContentsFinderModel" "lines" "I", Cond.fieldLink RX8 88 "ContentsFinderModel" "isRun" "[Z", Cond.fieldLink RX8 156 "ContentsFinderModel" "turn" "I", Cond.fieldLink RX8 168 "ContentsFinderModel" "treeCost" "I", Cond.fieldLink RX8 171 "ContentsFinderModel" "headMany" "I", Cond.fieldLink RX8 58 "ContentsFinderModel" "level" "[I", Cond.fieldLink RX8 61 "ContentsFinderModel" "counters" "[I", Cond.fieldLink RX8 64 "ContentsFinderModel" "heads" "[I"]
def wsX8_span_r2 : List Cond := [Cond.methodLink RX8 165 yX8_isRunning, Cond.instanceMethod yX8_isRunning, Cond.selects RX8 yX8_isRunning yX8_isRunning, Cond.code yX8_isRunning cX8_isRunning 6 (some .boolean), Cond.fieldLink RX8 30 "ContentsFinderModel" "words" "[I", Cond.fieldLink RX8 17 "ContentsFinderModel" "page" "[I", Cond.fieldLink RX8 42 "ContentsFinderModel" "wants" "[I", Cond.methodLink RX8 128 yX8_areLike, Cond.instanceMethod yX8_areLike, Cond.selects RX8 yX8_areLike yX8_areLike, Cond.code yX8_areLike cX8_areLike 4 (some .boolean), Cond.fieldLink RX8 20 "ContentsFinderModel" "size" "[I", Cond.methodLink RX8 152 yX8_leastFrom, Cond.instanceMethod yX8_leastFrom, Cond.selects RX8 yX8_leastFrom yX8_leastFrom, Cond.code yX8_leastFrom cX8_leastFrom 6 (some .int), Cond.constant RX8 155 (35937), Cond.fieldLink RX8 91 "ContentsFinderModel" "asked" "[I", Cond.fieldLink RX8 55 "ContentsFinderModel" "least" "[I", Cond.constant RX8 148 (1000000), Cond.methodLink RX8 162 Lib.Math.min.name, Cond.static Lib.Math.min.name, Cond.initialized "java/lang/Math", Cond.code Lib.Math.min.name Lib.Math.min.code 2 (some .int)]
def wsX8_span_r3 : List Cond := [Cond.methodLink RX8 159 yX8_costWithLevel, Cond.instanceMethod yX8_costWithLevel, Cond.selects RX8 yX8_costWithLevel yX8_costWithLevel, Cond.code yX8_costWithLevel cX8_costWithLevel 5 (some .int), Cond.methodLink RX8 144 yX8_behind, Cond.instanceMethod yX8_behind, Cond.selects RX8 yX8_behind yX8_behind, Cond.code yX8_behind cX8_behind 9 (some .int), Cond.fieldLink RX8 33 "ContentsFinderModel" "parts" "[I", Cond.fieldLink RX8 36 "ContentsFinderModel" "numbers" "[I", Cond.methodLink RX8 131 yX8_counterOf, Cond.static yX8_counterOf, Cond.code yX8_counterOf cX8_counterOf 2 (some .int), Cond.methodLink RX8 149 yX8_costOf, Cond.instanceMethod yX8_costOf, Cond.selects RX8 yX8_costOf yX8_costOf, Cond.code yX8_costOf cX8_costOf 5 (some .int), Cond.fieldLink RX8 39 "ContentsFinderModel" "prices" "[I", Cond.methodLink RX8 139 Lib.Math.abs.name, Cond.static Lib.Math.abs.name, Cond.code Lib.Math.abs.name Lib.Math.abs.code 1 (some .int), Cond.methodLink RX8 135 yX8_look, Cond.instanceMethod yX8_look, Cond.selects RX8 yX8_look yX8_look]
def wsX8_span_r4 : List Cond := [Cond.code yX8_look cX8_look 2 (some .int), Cond.fieldLink RX8 23 "ContentsFinderModel" "blank" "[I", Cond.fieldLink RX8 26 "ContentsFinderModel" "isCentred" "[Z", Cond.methodLink RX8 189 yX8_hold, Cond.instanceMethod yX8_hold, Cond.selects RX8 yX8_hold yX8_hold, Cond.code yX8_hold cX8_hold 6 none, Cond.fieldLink RX8 67 "ContentsFinderModel" "held" "[I", Cond.fieldLink RX8 104 "ContentsFinderModel" "entries" "I", Cond.fieldLink RX8 70 "ContentsFinderModel" "partnerOf" "[I", Cond.methodLink RX8 177 yX8_costWith, Cond.instanceMethod yX8_costWith, Cond.selects RX8 yX8_costWith yX8_costWith, Cond.code yX8_costWith cX8_costWith 5 (some .int), Cond.methodLink RX8 174 yX8_partnerCost, Cond.instanceMethod yX8_partnerCost, Cond.selects RX8 yX8_partnerCost yX8_partnerCost, Cond.code yX8_partnerCost cX8_partnerCost 5 (some .int), Cond.fieldLink RX8 51 "ContentsFinderModel" "entryWords" "[I", Cond.fieldLink RX8 45 "ContentsFinderModel" "entryLevel" "[I", Cond.fieldLink RX8 48 "ContentsFinderModel" "entryNumber" "[I", Cond.fieldLink RX8 13 "ContentsFinderModel" "read" "[I", Cond.methodLink RX8 192 yX8_findShifts, Cond.instanceMethod yX8_findShifts]
def wsX8_span_r5 : List Cond := [Cond.selects RX8 yX8_findShifts yX8_findShifts, Cond.code yX8_findShifts cX8_findShifts 5 none, Cond.fieldLink RX8 73 "ContentsFinderModel" "spanCost" "[I", Cond.fieldLink RX8 76 "ContentsFinderModel" "spanMany" "[I", Cond.fieldLink RX8 79 "ContentsFinderModel" "spanEnd" "[I", Cond.fieldLink RX8 85 "ContentsFinderModel" "shiftOf" "[I", Cond.fieldLink RX8 180 "ContentsFinderModel" "bestShift" "I", Cond.methodLink RX8 183 yX8_wrongIn, Cond.instanceMethod yX8_wrongIn, Cond.selects RX8 yX8_wrongIn yX8_wrongIn, Cond.code yX8_wrongIn cX8_wrongIn 9 (some .int)]
def wsX8_span : List Cond := .code yX8_span cX8_span 2 (some .int) :: ((wsX8_span_r1 ++ (wsX8_span_r2 ++ (wsX8_span_r3 ++ (wsX8_span_r4 ++ wsX8_span_r5)))) ++ wsX80)
def wsX8_wrong_r1 : List Cond := [Cond.fieldLink RX8 94 "ContentsFinderModel" "thrown" "I", Cond.fieldLink RX8 9 "ContentsFinderModel" "pages" "I", Cond.methodLink RX8 100 yX8_in, Cond.static yX8_in, Cond.initialized RX8, Cond.code yX8_in cX8_in 3 (some .boolean), Cond.methodLink RX8 195 yX8_find, Cond.instanceMethod yX8_find, Cond.selects RX8 yX8_find yX8_find, Cond.code yX8_find cX8_find 1 none, Cond.fieldLink RX8 107 "ContentsFinderModel" "isFound" "Z", Cond.methodLink RX8 186 yX8_findTree, Cond.instanceMethod yX8_findTree, Cond.selects RX8 yX8_findTree yX8_findTree, Cond.code yX8_findTree cX8_findTree 5 none, Cond.fieldLink RX8 97 "ContentsFinderModel" "lines" "I", Cond.fieldLink RX8 88 "ContentsFinderModel" "isRun" "[Z", Cond.fieldLink RX8 156 "ContentsFinderModel" "turn" "I", Cond.fieldLink RX8 168 "ContentsFinderModel" "treeCost" "I", Cond.fieldLink RX8 171 "ContentsFinderModel" "headMany" "I", Cond.fieldLink RX8 58 "ContentsFinderModel" "level" "[I", Cond.fieldLink RX8 61 "ContentsFinderModel" "counters" "[I", Cond.fieldLink RX8 64 "ContentsFinderModel" "heads" "[I", Cond.methodLink RX8 165 yX8_isRunning]
def wsX8_wrong_r2 : List Cond := [Cond.instanceMethod yX8_isRunning, Cond.selects RX8 yX8_isRunning yX8_isRunning, Cond.code yX8_isRunning cX8_isRunning 6 (some .boolean), Cond.fieldLink RX8 30 "ContentsFinderModel" "words" "[I", Cond.fieldLink RX8 17 "ContentsFinderModel" "page" "[I", Cond.fieldLink RX8 42 "ContentsFinderModel" "wants" "[I", Cond.methodLink RX8 128 yX8_areLike, Cond.instanceMethod yX8_areLike, Cond.selects RX8 yX8_areLike yX8_areLike, Cond.code yX8_areLike cX8_areLike 4 (some .boolean), Cond.fieldLink RX8 20 "ContentsFinderModel" "size" "[I", Cond.methodLink RX8 152 yX8_leastFrom, Cond.instanceMethod yX8_leastFrom, Cond.selects RX8 yX8_leastFrom yX8_leastFrom, Cond.code yX8_leastFrom cX8_leastFrom 6 (some .int), Cond.constant RX8 155 (35937), Cond.fieldLink RX8 91 "ContentsFinderModel" "asked" "[I", Cond.fieldLink RX8 55 "ContentsFinderModel" "least" "[I", Cond.constant RX8 148 (1000000), Cond.methodLink RX8 162 Lib.Math.min.name, Cond.static Lib.Math.min.name, Cond.initialized "java/lang/Math", Cond.code Lib.Math.min.name Lib.Math.min.code 2 (some .int), Cond.methodLink RX8 159 yX8_costWithLevel]
def wsX8_wrong_r3 : List Cond := [Cond.instanceMethod yX8_costWithLevel, Cond.selects RX8 yX8_costWithLevel yX8_costWithLevel, Cond.code yX8_costWithLevel cX8_costWithLevel 5 (some .int), Cond.methodLink RX8 144 yX8_behind, Cond.instanceMethod yX8_behind, Cond.selects RX8 yX8_behind yX8_behind, Cond.code yX8_behind cX8_behind 9 (some .int), Cond.fieldLink RX8 33 "ContentsFinderModel" "parts" "[I", Cond.fieldLink RX8 36 "ContentsFinderModel" "numbers" "[I", Cond.methodLink RX8 131 yX8_counterOf, Cond.static yX8_counterOf, Cond.code yX8_counterOf cX8_counterOf 2 (some .int), Cond.methodLink RX8 149 yX8_costOf, Cond.instanceMethod yX8_costOf, Cond.selects RX8 yX8_costOf yX8_costOf, Cond.code yX8_costOf cX8_costOf 5 (some .int), Cond.fieldLink RX8 39 "ContentsFinderModel" "prices" "[I", Cond.methodLink RX8 139 Lib.Math.abs.name, Cond.static Lib.Math.abs.name, Cond.code Lib.Math.abs.name Lib.Math.abs.code 1 (some .int), Cond.methodLink RX8 135 yX8_look, Cond.instanceMethod yX8_look, Cond.selects RX8 yX8_look yX8_look, Cond.code yX8_look cX8_look 2 (some .int)]
def wsX8_wrong_r4 : List Cond := [Cond.fieldLink RX8 23 "ContentsFinderModel" "blank" "[I", Cond.fieldLink RX8 26 "ContentsFinderModel" "isCentred" "[Z", Cond.methodLink RX8 189 yX8_hold, Cond.instanceMethod yX8_hold, Cond.selects RX8 yX8_hold yX8_hold, Cond.code yX8_hold cX8_hold 6 none, Cond.fieldLink RX8 67 "ContentsFinderModel" "held" "[I", Cond.fieldLink RX8 104 "ContentsFinderModel" "entries" "I", Cond.fieldLink RX8 70 "ContentsFinderModel" "partnerOf" "[I", Cond.methodLink RX8 177 yX8_costWith, Cond.instanceMethod yX8_costWith, Cond.selects RX8 yX8_costWith yX8_costWith, Cond.code yX8_costWith cX8_costWith 5 (some .int), Cond.methodLink RX8 174 yX8_partnerCost, Cond.instanceMethod yX8_partnerCost, Cond.selects RX8 yX8_partnerCost yX8_partnerCost, Cond.code yX8_partnerCost cX8_partnerCost 5 (some .int), Cond.fieldLink RX8 51 "ContentsFinderModel" "entryWords" "[I", Cond.fieldLink RX8 45 "ContentsFinderModel" "entryLevel" "[I", Cond.fieldLink RX8 48 "ContentsFinderModel" "entryNumber" "[I", Cond.fieldLink RX8 13 "ContentsFinderModel" "read" "[I", Cond.methodLink RX8 192 yX8_findShifts, Cond.instanceMethod yX8_findShifts, Cond.selects RX8 yX8_findShifts yX8_findShifts]
def wsX8_wrong_r5 : List Cond := [Cond.code yX8_findShifts cX8_findShifts 5 none, Cond.fieldLink RX8 73 "ContentsFinderModel" "spanCost" "[I", Cond.fieldLink RX8 76 "ContentsFinderModel" "spanMany" "[I", Cond.fieldLink RX8 79 "ContentsFinderModel" "spanEnd" "[I", Cond.fieldLink RX8 82 "ContentsFinderModel" "spanOf" "[I", Cond.fieldLink RX8 85 "ContentsFinderModel" "shiftOf" "[I", Cond.fieldLink RX8 180 "ContentsFinderModel" "bestShift" "I", Cond.methodLink RX8 183 yX8_wrongIn, Cond.instanceMethod yX8_wrongIn, Cond.selects RX8 yX8_wrongIn yX8_wrongIn, Cond.code yX8_wrongIn cX8_wrongIn 9 (some .int), Cond.methodLink RX8 198 yX8_isWrong, Cond.instanceMethod yX8_isWrong, Cond.selects RX8 yX8_isWrong yX8_isWrong, Cond.code yX8_isWrong cX8_isWrong 2 (some .boolean)]
def wsX8_wrong : List Cond := .code yX8_wrong cX8_wrong 2 (some .int) :: ((wsX8_wrong_r1 ++ (wsX8_wrong_r2 ++ (wsX8_wrong_r3 ++ (wsX8_wrong_r4 ++ wsX8_wrong_r5)))) ++ wsX80)
def wsJ9_abs_0f7a4 : List Cond := .code yJ9_abs_0f7a4 cJ9_abs_0f7a4 1 (some .int) :: ([])
def wsJ9_max_7cf53 : List Cond := .code yJ9_max_7cf53 cJ9_max_7cf53 2 (some .int) :: ([])
def wsJ9_min_7cf53 : List Cond := .code yJ9_min_7cf53 cJ9_min_7cf53 2 (some .int) :: ([])
def wsJ9_min_f86c9 : List Cond := .code yJ9_min_f86c9 cJ9_min_f86c9 4 (some .long) :: ([])
abbrev vwCl : List vw_C := [(RX0, TX0, 2), (RX1, TX1, 9), (RX2, TX2, 15), (RX3, TX3, 2), (RX4, TX4, 3), (RX5, TX5, 10), (RX6, TX6, 15), (RX7, TX7, 9), (RX8, TX8, 35)]
end
section
set_option maxRecDepth 40000 in
theorem gw_X1_partAt : wsX1_partAt.all goodWord = true := rfl
set_option maxRecDepth 40000 in
theorem gg_X0_allowHead_X1_partAt : GoodIn wsX0_allowHead wsX1_partAt := goodIn_r _ [8, 9, 12, 13, 14, 15, 16, 17, 18, 19, 20] rfl gw_X1_partAt
set_option maxRecDepth 40000 in
theorem gX0_allowHead_X1_partAt : GoodIn wsX0_allowHead (wsV RX0 24 RX1 yX1_partAt wsX1_partAt) := goodIn_app (goodIn_r _ [4, 5, 6, 7] rfl rfl) gg_X0_allowHead_X1_partAt
set_option maxRecDepth 40000 in
theorem gg_X0_passHead_X1_partAt : GoodIn wsX0_passHead wsX1_partAt := goodIn_r _ [8, 9, 12, 13, 14, 15, 16, 17, 18, 19, 20] rfl gw_X1_partAt
set_option maxRecDepth 40000 in
theorem gX0_passHead_X1_partAt : GoodIn wsX0_passHead (wsV RX0 24 RX1 yX1_partAt wsX1_partAt) := goodIn_app (goodIn_r _ [4, 5, 6, 7] rfl rfl) gg_X0_passHead_X1_partAt
set_option maxRecDepth 40000 in
theorem gw_X7_isWithin : wsX7_isWithin.all goodWord = true := rfl
set_option maxRecDepth 40000 in
theorem gg_X1_has_X7_isWithin : GoodIn wsX1_has wsX7_isWithin := goodIn_r _ [4] rfl gw_X7_isWithin
theorem gX1_has_X7_isWithin_n41 : GoodIn wsX1_has (wsX7_isWithin) := gg_X1_has_X7_isWithin
set_option maxRecDepth 40000 in
theorem gw_X7_countParts : wsX7_countParts.all goodWord = true := rfl
set_option maxRecDepth 40000 in
theorem gg_X1_putSizeAndNumbers_X7_countParts : GoodIn wsX1_putSizeAndNumbers wsX7_countParts := goodIn_r _ [6] rfl gw_X7_countParts
theorem gX1_putSizeAndNumbers_X7_countParts_n45 : GoodIn wsX1_putSizeAndNumbers (wsX7_countParts) := gg_X1_putSizeAndNumbers_X7_countParts
set_option maxRecDepth 40000 in
theorem gw_X1_areAlike : wsX1_areAlike.all goodWord = true := rfl
set_option maxRecDepth 40000 in
theorem gg_X1_isRunning_X1_areAlike : GoodIn wsX1_isRunning wsX1_areAlike := goodIn_r _ [9, 10, 1, 2, 11, 12, 13, 14, 15, 16, 17, 18, 19] rfl gw_X1_areAlike
set_option maxRecDepth 40000 in
theorem gX1_isRunning_X1_areAlike : GoodIn wsX1_isRunning (wsV RX1 49 RX1 yX1_areAlike wsX1_areAlike) := goodIn_app (goodIn_r _ [5, 6, 7, 8] rfl rfl) gg_X1_isRunning_X1_areAlike
set_option maxRecDepth 40000 in
theorem gw_X2_gatherHeads : wsX2_gatherHeads.all goodWord = true := rfl
set_option maxRecDepth 40000 in
theorem gg_X2_hold_X2_gatherHeads : GoodIn wsX2_hold wsX2_gatherHeads := goodIn_r _ [9, 2, 10, 11, 12, 13, 14, 58, 59, 60, 61, 62, 63, 64, 65, 66, 67, 68, 69, 70, 71, 72, 73, 74, 75, 76, 77, 78, 79, 80, 81, 82, 83, 84, 85, 86, 87, 88, 89, 90, 91, 92, 93, 94, 95, 96] rfl gw_X2_gatherHeads
set_option maxRecDepth 40000 in
theorem gX2_hold_X2_gatherHeads : GoodIn wsX2_hold (wsV RX2 62 RX2 yX2_gatherHeads wsX2_gatherHeads) := goodIn_app (goodIn_r _ [5, 6, 7, 8] rfl rfl) gg_X2_hold_X2_gatherHeads
set_option maxRecDepth 40000 in
theorem gw_X2_leastFrom : wsX2_leastFrom.all goodWord = true := rfl
set_option maxRecDepth 40000 in
theorem gg_X2_hold_X2_leastFrom : GoodIn wsX2_hold wsX2_leastFrom := goodIn_r _ [18, 19, 20, 1, 2, 3, 21, 22, 23, 24, 25, 26, 27, 8, 28, 14, 29, 10, 30, 31, 32, 33, 12, 13, 34, 35, 36, 37, 38, 39, 40, 41, 42, 43, 58, 59, 60, 61, 62, 63, 64, 65, 66, 67, 68, 69, 70, 71, 72, 97, 98, 99, 73, 74, 75, 76, 77, 78, 79, 80, 81, 82, 83, 84, 85, 86, 87, 88, 89, 90, 91, 92, 93, 94, 95, 96, 100, 101] rfl gw_X2_leastFrom
set_option maxRecDepth 40000 in
theorem gX2_hold_X2_leastFrom : GoodIn wsX2_hold (wsV RX2 65 RX2 yX2_leastFrom wsX2_leastFrom) := goodIn_app (goodIn_r _ [15, 16, 17, 8] rfl rfl) gg_X2_hold_X2_leastFrom
set_option maxRecDepth 40000 in
theorem gw_X2_tellPartners : wsX2_tellPartners.all goodWord = true := rfl
set_option maxRecDepth 40000 in
theorem gg_X2_hold_X2_tellPartners : GoodIn wsX2_hold wsX2_tellPartners := goodIn_r _ [47, 48, 49, 1, 14, 50, 51, 52, 53, 54, 55, 56, 8, 57, 3, 2, 19, 20, 25, 26, 27, 28, 29, 10, 30, 31, 32, 33, 12, 13, 34, 35, 23, 36, 37, 38, 39, 40, 41, 42, 43, 58, 59, 60, 61, 62, 63, 64, 65, 66, 67, 68, 69, 70, 71, 72, 97, 98, 99, 73, 74, 75, 76, 77, 78, 79, 80, 81, 82, 83, 84, 85, 86, 87, 88, 89, 90, 91, 92, 93, 94, 95, 96, 100, 101] rfl gw_X2_tellPartners
set_option maxRecDepth 40000 in
theorem gX2_hold_X2_tellPartners : GoodIn wsX2_hold (wsV RX2 69 RX2 yX2_tellPartners wsX2_tellPartners) := goodIn_app (goodIn_r _ [44, 45, 46, 8] rfl rfl) gg_X2_hold_X2_tellPartners
set_option maxRecDepth 40000 in
theorem gw_X2_pairCost : wsX2_pairCost.all goodWord = true := rfl
set_option maxRecDepth 40000 in
theorem gg_X2_leastFrom_X2_pairCost : GoodIn wsX2_leastFrom wsX2_pairCost := goodIn_r _ [14, 15, 16, 17, 18, 19, 20, 21, 22, 23, 24, 25, 8, 26, 27, 28, 29, 30, 1, 2, 31, 32, 13, 33, 34, 35, 36, 37, 38, 39, 40, 41, 42, 43, 44, 45, 46, 47, 48, 52, 53, 54, 55, 56, 57, 58, 59, 60, 61, 62, 63, 64, 65, 66, 67, 68, 69, 70, 71, 72, 73, 74, 75, 76, 77, 49, 50, 51] rfl gw_X2_pairCost
set_option maxRecDepth 40000 in
theorem gX2_leastFrom_X2_pairCost : GoodIn wsX2_leastFrom (wsV RX2 90 RX2 yX2_pairCost wsX2_pairCost) := goodIn_app (goodIn_r _ [10, 11, 12, 13] rfl rfl) gg_X2_leastFrom_X2_pairCost
set_option maxRecDepth 40000 in
theorem gw_X2_unlikePlaces : wsX2_unlikePlaces.all goodWord = true := rfl
set_option maxRecDepth 40000 in
theorem gg_X2_pairCost_X2_unlikePlaces : GoodIn wsX2_pairCost wsX2_unlikePlaces := goodIn_r _ [23] rfl gw_X2_unlikePlaces
set_option maxRecDepth 40000 in
theorem gX2_pairCost_X2_unlikePlaces : GoodIn wsX2_pairCost (va_wsS RX2 94 yX2_unlikePlaces wsX2_unlikePlaces) := goodIn_app (goodIn_r _ [20, 21, 22] rfl rfl) gg_X2_pairCost_X2_unlikePlaces
set_option maxRecDepth 40000 in
theorem gw_J7_fill_53178 : wsJ7_fill_53178.all goodWord = true := rfl
set_option maxRecDepth 40000 in
theorem gg_X2_tellPartners_J7_fill_53178 : GoodIn wsX2_tellPartners wsJ7_fill_53178 := goodIn_r _ [8] rfl gw_J7_fill_53178
set_option maxRecDepth 40000 in
theorem gX2_tellPartners_J7_fill_53178 : GoodIn wsX2_tellPartners (va_wsS RX2 110 yJ7_fill_53178 wsJ7_fill_53178) := goodIn_app (goodIn_r _ [5, 6, 7] rfl rfl) gg_X2_tellPartners_J7_fill_53178
set_option maxRecDepth 40000 in
theorem gw_X2_firstCheapHead : wsX2_firstCheapHead.all goodWord = true := rfl
set_option maxRecDepth 40000 in
theorem gg_X2_tellPartners_X2_firstCheapHead : GoodIn wsX2_tellPartners wsX2_firstCheapHead := goodIn_r _ [13, 14, 15, 16, 17, 18, 19, 20, 12, 21, 4, 22, 23, 24, 25, 26, 27, 28, 29, 30, 31, 32, 33, 34, 35, 36, 37, 38, 39, 40, 41, 42, 43, 44, 45, 46, 47, 48, 49, 50, 51, 52, 53, 54, 55, 56, 57, 58, 59, 60, 61, 62, 63, 64, 65, 66, 67, 68, 69, 70, 71, 72, 73, 74, 75, 76, 77, 78, 79, 80, 81, 82, 83, 84] rfl gw_X2_firstCheapHead
set_option maxRecDepth 40000 in
theorem gX2_tellPartners_X2_firstCheapHead : GoodIn wsX2_tellPartners (wsV RX2 116 RX2 yX2_firstCheapHead wsX2_firstCheapHead) := goodIn_app (goodIn_r _ [9, 10, 11, 12] rfl rfl) gg_X2_tellPartners_X2_firstCheapHead
set_option maxRecDepth 40000 in
theorem gg_X2_firstCheapHead_X2_pairCost : GoodIn wsX2_firstCheapHead wsX2_pairCost := goodIn_r _ [9, 10, 11, 12, 13, 14, 15, 16, 17, 18, 19, 20, 21, 22, 23, 24, 25, 26, 3, 4, 27, 28, 8, 29, 30, 31, 32, 33, 34, 35, 36, 37, 38, 39, 40, 41, 42, 43, 44, 48, 49, 50, 51, 52, 53, 54, 55, 56, 57, 58, 59, 60, 61, 62, 63, 64, 65, 66, 67, 68, 69, 70, 71, 72, 73, 45, 46, 47] rfl gw_X2_pairCost
set_option maxRecDepth 40000 in
theorem gX2_firstCheapHead_X2_pairCost : GoodIn wsX2_firstCheapHead (wsV RX2 90 RX2 yX2_pairCost wsX2_pairCost) := goodIn_app (goodIn_r _ [5, 6, 7, 8] rfl rfl) gg_X2_firstCheapHead_X2_pairCost
set_option maxRecDepth 40000 in
theorem gg_X3_begin_J7_fill_53178 : GoodIn wsX3_begin wsJ7_fill_53178 := goodIn_r _ [6] rfl gw_J7_fill_53178
set_option maxRecDepth 40000 in
theorem gX3_begin_J7_fill_53178 : GoodIn wsX3_begin (va_wsS RX3 19 yJ7_fill_53178 wsJ7_fill_53178) := goodIn_app (goodIn_r _ [3, 4, 5] rfl rfl) gg_X3_begin_J7_fill_53178
set_option maxRecDepth 40000 in
theorem gg_X3_has_X7_isWithin : GoodIn wsX3_has wsX7_isWithin := goodIn_r _ [4] rfl gw_X7_isWithin
theorem gX3_has_X7_isWithin_n25 : GoodIn wsX3_has (wsX7_isWithin) := gg_X3_has_X7_isWithin
set_option maxRecDepth 40000 in
theorem gw_X5_findFirstSpan : wsX5_findFirstSpan.all goodWord = true := rfl
set_option maxRecDepth 40000 in
theorem gg_X5_explain_X5_findFirstSpan : GoodIn wsX5_explain wsX5_findFirstSpan := goodIn_r _ [10, 11, 12, 1, 13, 2, 3, 14, 15, 16, 17, 18, 19, 20, 21, 22, 9, 23, 24, 25, 26, 27, 28, 48, 49, 50, 51, 52, 53, 54, 55, 56, 57, 60, 61, 62, 58, 59] rfl gw_X5_findFirstSpan
set_option maxRecDepth 40000 in
theorem gX5_explain_X5_findFirstSpan : GoodIn wsX5_explain (wsV RX5 50 RX5 yX5_findFirstSpan wsX5_findFirstSpan) := goodIn_app (goodIn_r _ [6, 7, 8, 9] rfl rfl) gg_X5_explain_X5_findFirstSpan
set_option maxRecDepth 40000 in
theorem gw_X5_forgetTimes : wsX5_forgetTimes.all goodWord = true := rfl
set_option maxRecDepth 40000 in
theorem gg_X5_explain_X5_forgetTimes : GoodIn wsX5_explain wsX5_forgetTimes := goodIn_r _ [32, 24, 25, 26, 27, 9, 28, 2, 14, 48, 49, 50, 51, 52, 53, 54, 55, 56, 57, 58, 59] rfl gw_X5_forgetTimes
set_option maxRecDepth 40000 in
theorem gX5_explain_X5_forgetTimes : GoodIn wsX5_explain (wsV RX5 54 RX5 yX5_forgetTimes wsX5_forgetTimes) := goodIn_app (goodIn_r _ [29, 30, 31, 9] rfl rfl) gg_X5_explain_X5_forgetTimes
set_option maxRecDepth 40000 in
theorem gw_X5_tellSpans : wsX5_tellSpans.all goodWord = true := rfl
set_option maxRecDepth 40000 in
theorem gg_X5_explain_X5_tellSpans : GoodIn wsX5_explain wsX5_tellSpans := goodIn_r _ [36, 37, 2, 3, 19, 38, 39, 40, 41, 42, 9, 43, 14, 20, 21, 22, 23, 24, 25, 26, 27, 28, 29, 30, 31, 32, 44, 45, 46, 47, 48, 49, 50, 51, 52, 53, 54, 55, 56, 57, 58, 59] rfl gw_X5_tellSpans
set_option maxRecDepth 40000 in
theorem gX5_explain_X5_tellSpans : GoodIn wsX5_explain (wsV RX5 58 RX5 yX5_tellSpans wsX5_tellSpans) := goodIn_app (goodIn_r _ [33, 34, 35, 9] rfl rfl) gg_X5_explain_X5_tellSpans
set_option maxRecDepth 40000 in
theorem gw_X5_addTime : wsX5_addTime.all goodWord = true := rfl
set_option maxRecDepth 40000 in
theorem gg_X5_findFirstSpan_X5_addTime : GoodIn wsX5_findFirstSpan wsX5_addTime := goodIn_r _ [17, 18, 19, 20, 21, 16, 22, 5, 7, 23, 24, 25, 26, 27, 28, 29, 30, 31, 32, 36, 37] rfl gw_X5_addTime
set_option maxRecDepth 40000 in
theorem gX5_findFirstSpan_X5_addTime : GoodIn wsX5_findFirstSpan (wsV RX5 70 RX5 yX5_addTime wsX5_addTime) := goodIn_app (goodIn_r _ [13, 14, 15, 16] rfl rfl) gg_X5_findFirstSpan_X5_addTime
set_option maxRecDepth 40000 in
theorem gw_X5_shiftPlace : wsX5_shiftPlace.all goodWord = true := rfl
set_option maxRecDepth 40000 in
theorem gg_X5_addTime_X5_shiftPlace : GoodIn wsX5_addTime wsX5_shiftPlace := goodIn_r _ [6, 7, 8, 9, 10, 11, 12, 13, 14, 15, 16, 17, 18, 19, 20] rfl gw_X5_shiftPlace
set_option maxRecDepth 40000 in
theorem gX5_addTime_X5_shiftPlace : GoodIn wsX5_addTime (wsV RX5 80 RX5 yX5_shiftPlace wsX5_shiftPlace) := goodIn_app (goodIn_r _ [2, 3, 4, 5] rfl rfl) gg_X5_addTime_X5_shiftPlace
set_option maxRecDepth 40000 in
theorem gg_X5_forgetTimes_X5_shiftPlace : GoodIn wsX5_forgetTimes wsX5_shiftPlace := goodIn_r _ [6, 7, 8, 9, 10, 11, 12, 13, 14, 15, 16, 17, 18, 19, 20] rfl gw_X5_shiftPlace
set_option maxRecDepth 40000 in
theorem gX5_forgetTimes_X5_shiftPlace : GoodIn wsX5_forgetTimes (wsV RX5 80 RX5 yX5_shiftPlace wsX5_shiftPlace) := goodIn_app (goodIn_r _ [2, 3, 4, 5] rfl rfl) gg_X5_forgetTimes_X5_shiftPlace
set_option maxRecDepth 40000 in
theorem gw_X5_bestShift : wsX5_bestShift.all goodWord = true := rfl
set_option maxRecDepth 40000 in
theorem gg_X5_tellSpans_X5_bestShift : GoodIn wsX5_tellSpans wsX5_bestShift := goodIn_r _ [11, 2, 12, 13, 14, 15, 10, 16, 17, 18, 19, 20, 21, 22, 23, 24, 25, 30, 31, 32, 33, 34, 35, 36, 37, 38, 39, 40, 41] rfl gw_X5_bestShift
set_option maxRecDepth 40000 in
theorem gX5_tellSpans_X5_bestShift : GoodIn wsX5_tellSpans (wsV RX5 83 RX5 yX5_bestShift wsX5_bestShift) := goodIn_app (goodIn_r _ [7, 8, 9, 10] rfl rfl) gg_X5_tellSpans_X5_bestShift
set_option maxRecDepth 40000 in
theorem gw_X5_isWrong : wsX5_isWrong.all goodWord = true := rfl
set_option maxRecDepth 40000 in
theorem gg_X5_tellSpans_X5_isWrong : GoodIn wsX5_tellSpans wsX5_isWrong := goodIn_r _ [29, 2, 12, 6, 30, 31, 32, 33, 34, 35, 36, 37, 38, 39, 40, 41] rfl gw_X5_isWrong
set_option maxRecDepth 40000 in
theorem gX5_tellSpans_X5_isWrong : GoodIn wsX5_tellSpans (wsV RX5 86 RX5 yX5_isWrong wsX5_isWrong) := goodIn_app (goodIn_r _ [26, 27, 28, 10] rfl rfl) gg_X5_tellSpans_X5_isWrong
set_option maxRecDepth 40000 in
theorem gg_X5_bestShift_X5_addTime : GoodIn wsX5_bestShift wsX5_addTime := goodIn_r _ [7, 8, 9, 10, 11, 6, 12, 1, 2, 17, 18, 19, 20, 21, 22, 23, 24, 25, 26, 27, 28] rfl gw_X5_addTime
set_option maxRecDepth 40000 in
theorem gX5_bestShift_X5_addTime : GoodIn wsX5_bestShift (wsV RX5 70 RX5 yX5_addTime wsX5_addTime) := goodIn_app (goodIn_r _ [3, 4, 5, 6] rfl rfl) gg_X5_bestShift_X5_addTime
set_option maxRecDepth 40000 in
theorem gg_X5_bestShift_X5_forgetTimes : GoodIn wsX5_bestShift wsX5_forgetTimes := goodIn_r _ [16, 8, 9, 10, 11, 6, 12, 1, 2, 17, 18, 19, 20, 21, 22, 23, 24, 25, 26, 27, 28] rfl gw_X5_forgetTimes
set_option maxRecDepth 40000 in
theorem gX5_bestShift_X5_forgetTimes : GoodIn wsX5_bestShift (wsV RX5 54 RX5 yX5_forgetTimes wsX5_forgetTimes) := goodIn_app (goodIn_r _ [13, 14, 15, 6] rfl rfl) gg_X5_bestShift_X5_forgetTimes
set_option maxRecDepth 40000 in
theorem gw_X0_init : wsX0_init.all goodWord = true := rfl
set_option maxRecDepth 40000 in
theorem gg_X6_init_X0_init : GoodIn wsX6_init wsX0_init := goodIn_r _ [28, 29, 2, 3, 6, 30, 31, 51, 52] rfl gw_X0_init
theorem gX6_init_X0_init : GoodIn wsX6_init (wsX0_init) := gg_X6_init_X0_init
set_option maxRecDepth 40000 in
theorem gw_J7_fill_d0a16 : wsJ7_fill_d0a16.all goodWord = true := rfl
set_option maxRecDepth 40000 in
theorem gg_X6_init_J7_fill_d0a16 : GoodIn wsX6_init wsJ7_fill_d0a16 := goodIn_r _ [35] rfl gw_J7_fill_d0a16
set_option maxRecDepth 40000 in
theorem gX6_init_J7_fill_d0a16 : GoodIn wsX6_init (va_wsS RX6 70 yJ7_fill_d0a16 wsJ7_fill_d0a16) := goodIn_app (goodIn_r _ [32, 33, 34] rfl rfl) gg_X6_init_J7_fill_d0a16
set_option maxRecDepth 40000 in
theorem gw_X1_isRunning : wsX1_isRunning.all goodWord = true := rfl
set_option maxRecDepth 40000 in
theorem gg_X6_search_X1_isRunning : GoodIn wsX6_search wsX1_isRunning := goodIn_r _ [13, 14, 15, 16, 17, 18, 19, 20, 12, 21, 22, 132, 133, 134, 135, 136, 137, 138, 139, 140] rfl gw_X1_isRunning
set_option maxRecDepth 40000 in
theorem gX6_search_X1_isRunning : GoodIn wsX6_search (wsV RX6 86 RX1 yX1_isRunning wsX1_isRunning) := goodIn_app (goodIn_r _ [9, 10, 11, 12] rfl rfl) gg_X6_search_X1_isRunning
set_option maxRecDepth 40000 in
theorem gw_X6_findCapsBehind : wsX6_findCapsBehind.all goodWord = true := rfl
set_option maxRecDepth 40000 in
theorem gg_X6_search_X6_findCapsBehind : GoodIn wsX6_search wsX6_findCapsBehind := goodIn_r _ [27, 1, 2, 28, 29, 30, 31, 32, 33, 34, 35, 12, 36, 37, 117, 118, 119, 120, 121, 122, 123, 124, 125, 126, 127, 128, 129, 130, 131, 132, 133, 134, 135, 136, 137, 138, 139, 140] rfl gw_X6_findCapsBehind
set_option maxRecDepth 40000 in
theorem gX6_search_X6_findCapsBehind : GoodIn wsX6_search (wsV RX6 90 RX6 yX6_findCapsBehind wsX6_findCapsBehind) := goodIn_app (goodIn_r _ [23, 24, 25, 26] rfl rfl) gg_X6_search_X6_findCapsBehind
set_option maxRecDepth 40000 in
theorem gw_X6_passLine : wsX6_passLine.all goodWord = true := rfl
set_option maxRecDepth 40000 in
theorem gg_X6_search_X6_passLine : GoodIn wsX6_search wsX6_passLine := goodIn_r _ [41, 3, 42, 6, 7, 8, 43, 44, 45, 46, 47, 48, 49, 50, 51, 52, 53, 54, 55, 56, 57, 34, 35, 12, 36, 37, 58, 59, 60, 26, 61, 32, 62, 63, 64, 65, 30, 66, 67, 68, 69, 70, 1, 4, 71, 72, 73, 74, 75, 22, 76, 77, 78, 79, 80, 81, 82, 83, 84, 85, 86, 87, 33, 88, 89, 90, 91, 92, 93, 94, 95, 96, 97, 98, 99, 117, 118, 119, 120, 121, 122, 123, 124, 125, 126, 127, 128, 129, 130, 131, 144, 145, 132, 133, 134, 135, 136, 137, 138, 139, 140, 141, 142, 143] rfl gw_X6_passLine
set_option maxRecDepth 40000 in
theorem gX6_search_X6_passLine : GoodIn wsX6_search (wsV RX6 94 RX6 yX6_passLine wsX6_passLine) := goodIn_app (goodIn_r _ [38, 39, 40, 26] rfl rfl) gg_X6_search_X6_passLine
set_option maxRecDepth 40000 in
theorem gw_X6_takeLeastKey : wsX6_takeLeastKey.all goodWord = true := rfl
set_option maxRecDepth 40000 in
theorem gg_X6_search_X6_takeLeastKey : GoodIn wsX6_search wsX6_takeLeastKey := goodIn_r _ [103, 43, 6, 8, 7, 64, 65, 30, 66, 117, 118, 119, 120, 121, 122, 123, 124, 125, 126, 127, 128, 129, 130, 131] rfl gw_X6_takeLeastKey
set_option maxRecDepth 40000 in
theorem gX6_search_X6_takeLeastKey : GoodIn wsX6_search (wsV RX6 97 RX6 yX6_takeLeastKey wsX6_takeLeastKey) := goodIn_app (goodIn_r _ [100, 101, 102, 26] rfl rfl) gg_X6_search_X6_takeLeastKey
set_option maxRecDepth 40000 in
theorem gw_X6_tellLevels : wsX6_tellLevels.all goodWord = true := rfl
set_option maxRecDepth 40000 in
theorem gg_X6_search_X6_tellLevels : GoodIn wsX6_search wsX6_tellLevels := goodIn_r _ [107, 108, 109, 1, 2, 110, 111, 117, 118, 119, 120, 121, 122, 123, 124, 125, 126, 127, 128, 129, 130, 131, 132, 133, 134, 135, 136, 137, 138, 139, 140] rfl gw_X6_tellLevels
set_option maxRecDepth 40000 in
theorem gX6_search_X6_tellLevels : GoodIn wsX6_search (wsV RX6 101 RX6 yX6_tellLevels wsX6_tellLevels) := goodIn_app (goodIn_r _ [104, 105, 106, 26] rfl rfl) gg_X6_search_X6_tellLevels
set_option maxRecDepth 40000 in
theorem gw_X6_tellCounters : wsX6_tellCounters.all goodWord = true := rfl
set_option maxRecDepth 40000 in
theorem gg_X6_search_X6_tellCounters : GoodIn wsX6_search wsX6_tellCounters := goodIn_r _ [115, 44, 1, 2, 110, 116, 87, 45, 46, 47, 48, 49, 50, 88, 89, 90, 91, 55, 56, 57, 34, 35, 12, 36, 37, 117, 118, 119, 120, 121, 122, 123, 124, 125, 126, 127, 128, 129, 130, 131, 132, 133, 134, 135, 136, 137, 138, 139, 140, 144, 145] rfl gw_X6_tellCounters
set_option maxRecDepth 40000 in
theorem gX6_search_X6_tellCounters : GoodIn wsX6_search (wsV RX6 105 RX6 yX6_tellCounters wsX6_tellCounters) := goodIn_app (goodIn_r _ [112, 113, 114, 26] rfl rfl) gg_X6_search_X6_tellCounters
set_option maxRecDepth 40000 in
theorem gg_X6_findCapsBehind_X1_partAt : GoodIn wsX6_findCapsBehind wsX1_partAt := goodIn_r _ [12, 13, 29, 30, 31, 32, 33, 34, 35, 36, 37] rfl gw_X1_partAt
set_option maxRecDepth 40000 in
theorem gX6_findCapsBehind_X1_partAt : GoodIn wsX6_findCapsBehind (wsV RX6 108 RX1 yX1_partAt wsX1_partAt) := goodIn_app (goodIn_r _ [8, 9, 10, 11] rfl rfl) gg_X6_findCapsBehind_X1_partAt
set_option maxRecDepth 40000 in
theorem gw_X0_unpack : wsX0_unpack.all goodWord = true := rfl
set_option maxRecDepth 40000 in
theorem gg_X6_passLine_X0_unpack : GoodIn wsX6_passLine wsX0_unpack := goodIn_r _ [12, 13, 90, 91] rfl gw_X0_unpack
set_option maxRecDepth 40000 in
theorem gX6_passLine_X0_unpack : GoodIn wsX6_passLine (wsV RX6 117 RX0 yX0_unpack wsX0_unpack) := goodIn_app (goodIn_r _ [8, 9, 10, 11] rfl rfl) gg_X6_passLine_X0_unpack
set_option maxRecDepth 40000 in
theorem gw_X0_allowHead : wsX0_allowHead.all goodWord = true := rfl
set_option maxRecDepth 40000 in
theorem gg_X6_passLine_X0_allowHead : GoodIn wsX6_passLine wsX0_allowHead := goodIn_r _ [17, 13, 18, 19, 20, 21, 22, 23, 24, 25, 90, 91, 92, 93, 94, 95, 96, 97, 98, 99, 100] rfl gw_X0_allowHead
set_option maxRecDepth 40000 in
theorem gX6_passLine_X0_allowHead : GoodIn wsX6_passLine (wsV RX6 120 RX0 yX0_allowHead wsX0_allowHead) := goodIn_app (goodIn_r _ [14, 15, 16, 11] rfl rfl) gg_X6_passLine_X0_allowHead
set_option maxRecDepth 40000 in
theorem gw_X6_offer : wsX6_offer.all goodWord = true := rfl
set_option maxRecDepth 40000 in
theorem gg_X6_passLine_X6_offer : GoodIn wsX6_passLine wsX6_offer := goodIn_r _ [30, 7, 31, 32, 6, 33, 2, 34, 35, 36, 37, 38, 39, 40, 29, 41, 1, 42, 43, 44, 45, 46, 47, 23, 48, 49, 50, 51, 52, 53, 54, 55, 56, 57, 58, 59, 60, 61, 62, 21, 22, 24, 25, 63, 64, 65, 11, 66, 13, 18, 19, 20, 67, 68, 69, 70, 75, 76, 77, 78, 79, 80, 81, 82, 83, 84, 85, 86, 87, 88, 89, 101, 102, 103, 92, 93, 94, 95, 96, 97, 98, 99, 100, 90, 91] rfl gw_X6_offer
set_option maxRecDepth 40000 in
theorem gX6_passLine_X6_offer : GoodIn wsX6_passLine (wsV RX6 123 RX6 yX6_offer wsX6_offer) := goodIn_app (goodIn_r _ [26, 27, 28, 29] rfl rfl) gg_X6_passLine_X6_offer
set_option maxRecDepth 40000 in
theorem gw_X6_swapRows : wsX6_swapRows.all goodWord = true := rfl
set_option maxRecDepth 40000 in
theorem gg_X6_passLine_X6_swapRows : GoodIn wsX6_passLine wsX6_swapRows := goodIn_r _ [74, 5, 32, 4, 33, 2, 3, 75, 76, 77, 78, 79, 80, 81, 82, 83, 84, 85, 86, 87, 88, 89] rfl gw_X6_swapRows
set_option maxRecDepth 40000 in
theorem gX6_passLine_X6_swapRows : GoodIn wsX6_passLine (wsV RX6 127 RX6 yX6_swapRows wsX6_swapRows) := goodIn_app (goodIn_r _ [71, 72, 73, 29] rfl rfl) gg_X6_passLine_X6_swapRows
set_option maxRecDepth 40000 in
theorem gw_X6_textCost : wsX6_textCost.all goodWord = true := rfl
set_option maxRecDepth 40000 in
theorem gg_X6_offer_X6_textCost : GoodIn wsX6_offer wsX6_textCost := goodIn_r _ [15, 16, 17, 18, 19, 20, 21, 22, 23, 24, 25, 26, 27, 56, 57, 58, 59, 60, 61, 62, 63, 64, 65, 66, 67, 68, 69, 70, 71, 72, 73, 74, 75, 76, 77, 78, 79, 80, 81, 82] rfl gw_X6_textCost
set_option maxRecDepth 40000 in
theorem gX6_offer_X6_textCost : GoodIn wsX6_offer (wsV RX6 130 RX6 yX6_textCost wsX6_textCost) := goodIn_app (goodIn_r _ [11, 12, 13, 14] rfl rfl) gg_X6_offer_X6_textCost
set_option maxRecDepth 40000 in
theorem gw_X6_headCost : wsX6_headCost.all goodWord = true := rfl
set_option maxRecDepth 40000 in
theorem gg_X6_offer_X6_headCost : GoodIn wsX6_offer wsX6_headCost := goodIn_r _ [31, 17, 18, 32, 33, 34, 9, 35, 19, 36, 1, 37, 20, 21, 22, 23, 24, 25, 26, 27, 38, 39, 40, 41, 42, 56, 57, 58, 59, 60, 61, 62, 63, 64, 65, 66, 67, 68, 69, 70, 71, 72, 73, 74, 75, 76, 77, 78, 79, 80, 81, 82, 83, 84] rfl gw_X6_headCost
set_option maxRecDepth 40000 in
theorem gX6_offer_X6_headCost : GoodIn wsX6_offer (wsV RX6 134 RX6 yX6_headCost wsX6_headCost) := goodIn_app (goodIn_r _ [28, 29, 30, 14] rfl rfl) gg_X6_offer_X6_headCost
set_option maxRecDepth 40000 in
theorem gw_X0_passHead : wsX0_passHead.all goodWord = true := rfl
set_option maxRecDepth 40000 in
theorem gg_X6_offer_X0_passHead : GoodIn wsX6_offer wsX0_passHead := goodIn_r _ [47, 48, 49, 50, 51, 39, 40, 23, 41, 42, 83, 84, 74, 75, 76, 77, 78, 79, 80, 81, 82] rfl gw_X0_passHead
set_option maxRecDepth 40000 in
theorem gX6_offer_X0_passHead : GoodIn wsX6_offer (wsV RX6 137 RX0 yX0_passHead wsX0_passHead) := goodIn_app (goodIn_r _ [43, 44, 45, 46] rfl rfl) gg_X6_offer_X0_passHead
set_option maxRecDepth 40000 in
theorem gw_X0_pack : wsX0_pack.all goodWord = true := rfl
set_option maxRecDepth 40000 in
theorem gg_X6_offer_X0_pack : GoodIn wsX6_offer wsX0_pack := goodIn_r _ [55, 48, 83, 84] rfl gw_X0_pack
set_option maxRecDepth 40000 in
theorem gX6_offer_X0_pack : GoodIn wsX6_offer (wsV RX6 141 RX0 yX0_pack wsX0_pack) := goodIn_app (goodIn_r _ [52, 53, 54, 46] rfl rfl) gg_X6_offer_X0_pack
set_option maxRecDepth 40000 in
theorem gw_X1_look : wsX1_look.all goodWord = true := rfl
set_option maxRecDepth 40000 in
theorem gg_X6_textCost_X1_look : GoodIn wsX6_textCost wsX1_look := goodIn_r _ [9, 10, 11, 12, 31, 32, 33, 34, 35, 36, 37, 38, 39] rfl gw_X1_look
set_option maxRecDepth 40000 in
theorem gX6_textCost_X1_look : GoodIn wsX6_textCost (wsV RX6 149 RX1 yX1_look wsX1_look) := goodIn_app (goodIn_r _ [5, 6, 7, 8] rfl rfl) gg_X6_textCost_X1_look
set_option maxRecDepth 40000 in
theorem gg_X6_headCost_X1_look : GoodIn wsX6_headCost wsX1_look := goodIn_r _ [16, 17, 18, 19, 43, 44, 45, 46, 47, 48, 49, 50, 51] rfl gw_X1_look
set_option maxRecDepth 40000 in
theorem gX6_headCost_X1_look : GoodIn wsX6_headCost (wsV RX6 149 RX1 yX1_look wsX1_look) := goodIn_app (goodIn_r _ [12, 13, 14, 15] rfl rfl) gg_X6_headCost_X1_look
set_option maxRecDepth 40000 in
theorem gg_X6_headCost_X1_partAt : GoodIn wsX6_headCost wsX1_partAt := goodIn_r _ [23, 24, 43, 44, 45, 46, 47, 48, 49, 50, 51] rfl gw_X1_partAt
set_option maxRecDepth 40000 in
theorem gX6_headCost_X1_partAt : GoodIn wsX6_headCost (wsV RX6 108 RX1 yX1_partAt wsX1_partAt) := goodIn_app (goodIn_r _ [20, 21, 22, 15] rfl rfl) gg_X6_headCost_X1_partAt
set_option maxRecDepth 40000 in
theorem gg_X6_tellCounters_X0_unpack : GoodIn wsX6_tellCounters wsX0_unpack := goodIn_r _ [11, 12, 49, 50] rfl gw_X0_unpack
set_option maxRecDepth 40000 in
theorem gX6_tellCounters_X0_unpack : GoodIn wsX6_tellCounters (wsV RX6 117 RX0 yX0_unpack wsX0_unpack) := goodIn_app (goodIn_r _ [7, 8, 9, 10] rfl rfl) gg_X6_tellCounters_X0_unpack
set_option maxRecDepth 40000 in
theorem gg_X6_tellCounters_X0_passHead : GoodIn wsX6_tellCounters wsX0_passHead := goodIn_r _ [16, 12, 17, 18, 19, 20, 21, 22, 23, 24, 49, 50, 40, 41, 42, 43, 44, 45, 46, 47, 48] rfl gw_X0_passHead
set_option maxRecDepth 40000 in
theorem gX6_tellCounters_X0_passHead : GoodIn wsX6_tellCounters (wsV RX6 137 RX0 yX0_passHead wsX0_passHead) := goodIn_app (goodIn_r _ [13, 14, 15, 10] rfl rfl) gg_X6_tellCounters_X0_passHead
set_option maxRecDepth 40000 in
theorem gw_X4_init : wsX4_init.all goodWord = true := rfl
set_option maxRecDepth 40000 in
theorem gg_X7_init_X4_init : GoodIn wsX7_init wsX4_init := goodIn_r _ [32, 33, 2, 3, 34, 35, 36, 37, 123, 124, 125] rfl gw_X4_init
theorem gX7_init_X4_init_n9 : GoodIn wsX7_init (wsX4_init) := gg_X7_init_X4_init
set_option maxRecDepth 40000 in
theorem gw_X3_init : wsX3_init.all goodWord = true := rfl
set_option maxRecDepth 40000 in
theorem gg_X7_init_X3_init : GoodIn wsX7_init wsX3_init := goodIn_r _ [39, 40, 2, 3, 34, 41, 42, 126, 127] rfl gw_X3_init
theorem gX7_init_X3_init_n12 : GoodIn wsX7_init (wsX3_init) := gg_X7_init_X3_init
set_option maxRecDepth 40000 in
theorem gw_X1_init : wsX1_init.all goodWord = true := rfl
set_option maxRecDepth 40000 in
theorem gg_X7_init_X1_init : GoodIn wsX7_init wsX1_init := goodIn_r _ [44, 45, 2, 3, 34, 46, 47, 48, 49, 50, 51, 52, 53, 54, 55, 128, 129, 130, 131, 132, 133, 134, 135, 136] rfl gw_X1_init
theorem gX7_init_X1_init_n15 : GoodIn wsX7_init (wsX1_init) := gg_X7_init_X1_init
set_option maxRecDepth 40000 in
theorem gw_X6_init : wsX6_init.all goodWord = true := rfl
set_option maxRecDepth 40000 in
theorem gg_X7_init_X6_init : GoodIn wsX7_init wsX6_init := goodIn_r _ [58, 59, 2, 3, 49, 60, 34, 61, 62, 63, 64, 65, 66, 67, 68, 69, 70, 71, 72, 73, 74, 75, 76, 77, 78, 79, 80, 81, 82, 83, 84, 85, 86, 87, 88, 89, 137, 138, 139, 140, 141, 142, 143, 144, 145, 146, 147, 148, 149, 150, 151, 186, 187] rfl gw_X6_init
theorem gX7_init_X6_init : GoodIn wsX7_init (wsX6_init) := gg_X7_init_X6_init
set_option maxRecDepth 40000 in
theorem gw_X2_init : wsX2_init.all goodWord = true := rfl
set_option maxRecDepth 40000 in
theorem gg_X7_init_X2_init : GoodIn wsX7_init wsX2_init := goodIn_r _ [92, 93, 2, 3, 34, 94, 95, 96, 97, 98, 99, 100, 101, 102, 103, 104, 105, 106, 107, 108, 161, 162, 163, 164, 165, 166, 167, 168, 169, 170, 171, 172, 173, 174, 175] rfl gw_X2_init
theorem gX7_init_X2_init : GoodIn wsX7_init (wsX2_init) := gg_X7_init_X2_init
set_option maxRecDepth 40000 in
theorem gw_X5_init : wsX5_init.all goodWord = true := rfl
set_option maxRecDepth 40000 in
theorem gg_X7_init_X5_init : GoodIn wsX7_init wsX5_init := goodIn_r _ [111, 112, 2, 3, 34, 113, 114, 115, 116, 117, 118, 119, 120, 121, 122, 176, 177, 178, 179, 180, 181, 182, 183, 184, 185] rfl gw_X5_init
theorem gX7_init_X5_init : GoodIn wsX7_init (wsX5_init) := gg_X7_init_X5_init
set_option maxRecDepth 40000 in
theorem gg_X7_book_X7_isWithin : GoodIn wsX7_book wsX7_isWithin := goodIn_r _ [9] rfl gw_X7_isWithin
set_option maxRecDepth 40000 in
theorem gX7_book_X7_isWithin : GoodIn wsX7_book (va_wsS RX7 67 yX7_isWithin wsX7_isWithin) := goodIn_app (goodIn_r _ [6, 7, 8] rfl rfl) gg_X7_book_X7_isWithin
set_option maxRecDepth 40000 in
theorem gw_X3_begin : wsX3_begin.all goodWord = true := rfl
set_option maxRecDepth 40000 in
theorem gg_X7_book_X3_begin : GoodIn wsX7_book wsX3_begin := goodIn_r _ [14, 15, 16, 17, 18, 19, 20, 61, 62] rfl gw_X3_begin
set_option maxRecDepth 40000 in
theorem gX7_book_X3_begin : GoodIn wsX7_book (wsV RX7 71 RX3 yX3_begin wsX3_begin) := goodIn_app (goodIn_r _ [10, 11, 12, 13] rfl rfl) gg_X7_book_X3_begin
set_option maxRecDepth 40000 in
theorem gw_X7_allIsOld : wsX7_allIsOld.all goodWord = true := rfl
set_option maxRecDepth 40000 in
theorem gg_X7_book_X7_allIsOld : GoodIn wsX7_book wsX7_allIsOld := goodIn_r _ [24, 25, 26, 27, 28, 29, 30, 31, 32, 33, 34, 35, 36] rfl gw_X7_allIsOld
set_option maxRecDepth 40000 in
theorem gX7_book_X7_allIsOld : GoodIn wsX7_book (wsV RX7 80 RX7 yX7_allIsOld wsX7_allIsOld) := goodIn_app (goodIn_r _ [21, 22, 23, 8] rfl rfl) gg_X7_book_X7_allIsOld
set_option maxRecDepth 40000 in
theorem gw_X3_has : wsX3_has.all goodWord = true := rfl
set_option maxRecDepth 40000 in
theorem gg_X7_read_X3_has : GoodIn wsX7_read wsX3_has := goodIn_r _ [9, 10, 11, 12, 13, 24, 25] rfl gw_X3_has
set_option maxRecDepth 40000 in
theorem gX7_read_X3_has : GoodIn wsX7_read (wsV RX7 83 RX3 yX3_has wsX3_has) := goodIn_app (goodIn_r _ [5, 6, 7, 8] rfl rfl) gg_X7_read_X3_has
set_option maxRecDepth 40000 in
theorem gg_X7_read_X7_isWithin : GoodIn wsX7_read wsX7_isWithin := goodIn_r _ [13] rfl gw_X7_isWithin
set_option maxRecDepth 40000 in
theorem gX7_read_X7_isWithin : GoodIn wsX7_read (va_wsS RX7 67 yX7_isWithin wsX7_isWithin) := goodIn_app (goodIn_r _ [14, 11, 12] rfl rfl) gg_X7_read_X7_isWithin
set_option maxRecDepth 40000 in
theorem gg_X7_line_X3_has : GoodIn wsX7_line wsX3_has := goodIn_r _ [14, 15, 16, 17, 18, 62, 63] rfl gw_X3_has
set_option maxRecDepth 40000 in
theorem gX7_line_X3_has : GoodIn wsX7_line (wsV RX7 83 RX3 yX3_has wsX3_has) := goodIn_app (goodIn_r _ [10, 11, 12, 13] rfl rfl) gg_X7_line_X3_has
set_option maxRecDepth 40000 in
theorem gw_X1_canFollow : wsX1_canFollow.all goodWord = true := rfl
set_option maxRecDepth 40000 in
theorem gg_X7_line_X1_canFollow : GoodIn wsX7_line wsX1_canFollow := goodIn_r _ [23, 24, 25, 53, 54, 55, 56, 57, 58, 59, 60, 61] rfl gw_X1_canFollow
set_option maxRecDepth 40000 in
theorem gX7_line_X1_canFollow : GoodIn wsX7_line (wsV RX7 91 RX1 yX1_canFollow wsX1_canFollow) := goodIn_app (goodIn_r _ [19, 20, 21, 22] rfl rfl) gg_X7_line_X1_canFollow
set_option maxRecDepth 40000 in
theorem gg_X7_line_X7_isWithin : GoodIn wsX7_line wsX7_isWithin := goodIn_r _ [18] rfl gw_X7_isWithin
set_option maxRecDepth 40000 in
theorem gX7_line_X7_isWithin : GoodIn wsX7_line (va_wsS RX7 67 yX7_isWithin wsX7_isWithin) := goodIn_app (goodIn_r _ [26, 16, 17] rfl rfl) gg_X7_line_X7_isWithin
set_option maxRecDepth 40000 in
theorem gw_X7_areWords : wsX7_areWords.all goodWord = true := rfl
set_option maxRecDepth 40000 in
theorem gg_X7_line_X7_areWords : GoodIn wsX7_line wsX7_areWords := goodIn_r _ [29] rfl gw_X7_areWords
set_option maxRecDepth 40000 in
theorem gX7_line_X7_areWords : GoodIn wsX7_line (va_wsS RX7 94 yX7_areWords wsX7_areWords) := goodIn_app (goodIn_r _ [27, 28, 17] rfl rfl) gg_X7_line_X7_areWords
set_option maxRecDepth 40000 in
theorem gw_X7_areNumbers : wsX7_areNumbers.all goodWord = true := rfl
set_option maxRecDepth 40000 in
theorem gg_X7_line_X7_areNumbers : GoodIn wsX7_line wsX7_areNumbers := goodIn_r _ [32, 33, 26, 16, 17, 18, 34, 35, 36] rfl gw_X7_areNumbers
set_option maxRecDepth 40000 in
theorem gX7_line_X7_areNumbers : GoodIn wsX7_line (va_wsS RX7 97 yX7_areNumbers wsX7_areNumbers) := goodIn_app (goodIn_r _ [30, 31, 17] rfl rfl) gg_X7_line_X7_areNumbers
set_option maxRecDepth 40000 in
theorem gw_X1_putSizeAndNumbers : wsX1_putSizeAndNumbers.all goodWord = true := rfl
set_option maxRecDepth 40000 in
theorem gg_X7_line_X1_putSizeAndNumbers : GoodIn wsX7_line wsX1_putSizeAndNumbers := goodIn_r _ [40, 41, 42, 43, 35, 17, 36, 53, 54, 55, 56, 57, 58, 59, 60, 61] rfl gw_X1_putSizeAndNumbers
set_option maxRecDepth 40000 in
theorem gX7_line_X1_putSizeAndNumbers : GoodIn wsX7_line (wsV RX7 116 RX1 yX1_putSizeAndNumbers wsX1_putSizeAndNumbers) := goodIn_app (goodIn_r _ [37, 38, 39, 22] rfl rfl) gg_X7_line_X1_putSizeAndNumbers
set_option maxRecDepth 40000 in
theorem gw_X1_has : wsX1_has.all goodWord = true := rfl
set_option maxRecDepth 40000 in
theorem gg_X7_right_X1_has : GoodIn wsX7_right wsX1_has := goodIn_r _ [7, 8, 9, 10, 11, 36, 37, 38, 39, 40, 41, 42, 43, 44] rfl gw_X1_has
set_option maxRecDepth 40000 in
theorem gX7_right_X1_has : GoodIn wsX7_right (wsV RX7 120 RX1 yX1_has wsX1_has) := goodIn_app (goodIn_r _ [3, 4, 5, 6] rfl rfl) gg_X7_right_X1_has
set_option maxRecDepth 40000 in
theorem gg_X7_right_X7_isWithin : GoodIn wsX7_right wsX7_isWithin := goodIn_r _ [11] rfl gw_X7_isWithin
set_option maxRecDepth 40000 in
theorem gX7_right_X7_isWithin : GoodIn wsX7_right (va_wsS RX7 67 yX7_isWithin wsX7_isWithin) := goodIn_app (goodIn_r _ [12, 9, 10] rfl rfl) gg_X7_right_X7_isWithin
set_option maxRecDepth 40000 in
theorem gg_X7_right_X7_areNumbers : GoodIn wsX7_right wsX7_areNumbers := goodIn_r _ [15, 16, 12, 9, 10, 11, 17, 18, 19] rfl gw_X7_areNumbers
set_option maxRecDepth 40000 in
theorem gX7_right_X7_areNumbers : GoodIn wsX7_right (va_wsS RX7 97 yX7_areNumbers wsX7_areNumbers) := goodIn_app (goodIn_r _ [13, 14, 10] rfl rfl) gg_X7_right_X7_areNumbers
set_option maxRecDepth 40000 in
theorem gg_X7_right_X1_putSizeAndNumbers : GoodIn wsX7_right wsX1_putSizeAndNumbers := goodIn_r _ [23, 24, 25, 26, 18, 10, 19, 36, 37, 38, 39, 40, 41, 42, 43, 44] rfl gw_X1_putSizeAndNumbers
set_option maxRecDepth 40000 in
theorem gX7_right_X1_putSizeAndNumbers : GoodIn wsX7_right (wsV RX7 116 RX1 yX1_putSizeAndNumbers wsX1_putSizeAndNumbers) := goodIn_app (goodIn_r _ [20, 21, 22, 6] rfl rfl) gg_X7_right_X1_putSizeAndNumbers
set_option maxRecDepth 40000 in
theorem gg_X7_price_X7_isWithin : GoodIn wsX7_price wsX7_isWithin := goodIn_r _ [6] rfl gw_X7_isWithin
set_option maxRecDepth 40000 in
theorem gX7_price_X7_isWithin : GoodIn wsX7_price (va_wsS RX7 67 yX7_isWithin wsX7_isWithin) := goodIn_app (goodIn_r _ [3, 4, 5] rfl rfl) gg_X7_price_X7_isWithin
set_option maxRecDepth 40000 in
theorem gg_X7_price_X7_allIsOld : GoodIn wsX7_price wsX7_allIsOld := goodIn_r _ [10, 11, 12, 13, 14, 15, 16, 17, 18, 19, 20, 21, 22] rfl gw_X7_allIsOld
set_option maxRecDepth 40000 in
theorem gX7_price_X7_allIsOld : GoodIn wsX7_price (wsV RX7 80 RX7 yX7_allIsOld wsX7_allIsOld) := goodIn_app (goodIn_r _ [7, 8, 9, 5] rfl rfl) gg_X7_price_X7_allIsOld
set_option maxRecDepth 40000 in
theorem gw_X7_putMany : wsX7_putMany.all goodWord = true := rfl
set_option maxRecDepth 40000 in
theorem gg_X7_want_X7_putMany : GoodIn wsX7_want wsX7_putMany := goodIn_r _ [8, 1, 9, 3, 10, 11, 7, 12, 13, 14, 15, 16, 17, 18, 19, 20, 21, 22, 23, 24] rfl gw_X7_putMany
set_option maxRecDepth 40000 in
theorem gX7_want_X7_putMany : GoodIn wsX7_want (wsV RX7 124 RX7 yX7_putMany wsX7_putMany) := goodIn_app (goodIn_r _ [4, 5, 6, 7] rfl rfl) gg_X7_want_X7_putMany
set_option maxRecDepth 40000 in
theorem gg_X7_want_X7_isWithin : GoodIn wsX7_want wsX7_isWithin := goodIn_r _ [12] rfl gw_X7_isWithin
set_option maxRecDepth 40000 in
theorem gX7_want_X7_isWithin : GoodIn wsX7_want (va_wsS RX7 67 yX7_isWithin wsX7_isWithin) := goodIn_app (goodIn_r _ [10, 11, 7] rfl rfl) gg_X7_want_X7_isWithin
set_option maxRecDepth 40000 in
theorem gg_X7_putMany_X7_isWithin : GoodIn wsX7_putMany wsX7_isWithin := goodIn_r _ [7] rfl gw_X7_isWithin
set_option maxRecDepth 40000 in
theorem gX7_putMany_X7_isWithin : GoodIn wsX7_putMany (va_wsS RX7 67 yX7_isWithin wsX7_isWithin) := goodIn_app (goodIn_r _ [4, 5, 6] rfl rfl) gg_X7_putMany_X7_isWithin
set_option maxRecDepth 40000 in
theorem gw_X7_freshTree : wsX7_freshTree.all goodWord = true := rfl
set_option maxRecDepth 40000 in
theorem gg_X7_count_X7_freshTree : GoodIn wsX7_count wsX7_freshTree := goodIn_r _ [17, 18, 19, 20, 21, 22, 23, 24, 25, 26, 27, 28, 29, 30, 31, 32, 33, 34, 35, 36, 37, 38, 39, 40, 41, 42, 43, 44, 45, 46, 47, 48, 49, 50, 51, 52, 53, 54, 55, 56, 57, 58, 59, 60, 61, 62, 63, 64, 65, 66, 67, 68, 69, 70, 71, 72, 73, 74, 75, 76, 77, 78, 79, 80, 81, 82, 83, 84, 85, 86, 87, 88, 89, 90, 91, 92, 93, 94, 95, 96, 97, 98, 99, 100, 101, 102, 103, 104, 105, 106, 107, 108, 109, 110, 111, 112, 113, 114, 115, 116, 117, 118, 119, 120, 121, 122, 123, 124, 125, 126, 127, 128, 129, 130, 131, 132, 133, 134, 135, 136, 137, 138, 139, 140, 257, 258, 259, 260, 261, 262, 263, 264, 265, 292, 293, 294, 295, 296, 297, 298, 299, 300, 301, 302, 303, 304, 305, 306, 268, 269, 270, 271, 272, 273, 274, 275, 276, 317, 318, 319, 320, 321] rfl gw_X7_freshTree
set_option maxRecDepth 40000 in
theorem gX7_count_X7_freshTree : GoodIn wsX7_count (wsV RX7 135 RX7 yX7_freshTree wsX7_freshTree) := goodIn_app (goodIn_r _ [13, 14, 15, 16] rfl rfl) gg_X7_count_X7_freshTree
set_option maxRecDepth 40000 in
theorem gw_X7_freshListing : wsX7_freshListing.all goodWord = true := rfl
set_option maxRecDepth 40000 in
theorem gg_X7_count_X7_freshListing : GoodIn wsX7_count wsX7_freshListing := goodIn_r _ [144, 20, 5, 13, 14, 15, 16, 17, 18, 19, 21, 22, 23, 24, 25, 26, 27, 28, 29, 30, 31, 32, 33, 34, 35, 36, 37, 38, 39, 40, 41, 42, 43, 44, 45, 46, 47, 48, 49, 50, 51, 52, 53, 54, 55, 56, 57, 58, 59, 60, 61, 62, 63, 64, 65, 66, 67, 68, 69, 70, 71, 72, 73, 74, 75, 76, 77, 78, 79, 80, 81, 82, 83, 84, 85, 86, 87, 88, 89, 90, 91, 92, 93, 94, 95, 96, 97, 98, 99, 100, 101, 102, 103, 104, 105, 106, 107, 108, 109, 110, 111, 112, 113, 114, 115, 116, 117, 118, 119, 120, 121, 122, 123, 124, 125, 126, 127, 128, 129, 130, 131, 132, 133, 134, 135, 136, 137, 138, 139, 140, 145, 146, 147, 148, 149, 150, 151, 152, 153, 154, 155, 156, 157, 158, 159, 160, 161, 162, 163, 164, 165, 166, 167, 168, 169, 170, 171, 172, 173, 174, 175, 176, 177, 178, 179, 180, 181, 182, 183, 184, 185, 186, 187, 188, 189, 190, 191, 192, 193, 194, 195, 196, 197, 198, 199, 200, 201, 202, 257, 258, 259, 260, 261, 262, 263, 264, 265, 292, 293, 294, 295, 296, 297, 298, 299, 300, 301, 302, 303, 304, 305, 306, 268, 269, 270, 271, 272, 273, 274, 275, 276, 317, 318, 319, 320, 321, 277, 278, 279, 280, 281, 282, 283, 284, 285, 286, 287, 288, 289, 290, 291, 266, 267] rfl gw_X7_freshListing
set_option maxRecDepth 40000 in
theorem gX7_count_X7_freshListing : GoodIn wsX7_count (wsV RX7 145 RX7 yX7_freshListing wsX7_freshListing) := goodIn_app (goodIn_r _ [141, 142, 143, 16] rfl rfl) gg_X7_count_X7_freshListing
set_option maxRecDepth 40000 in
theorem gw_X7_freshShifts : wsX7_freshShifts.all goodWord = true := rfl
set_option maxRecDepth 40000 in
theorem gg_X7_count_X7_freshShifts : GoodIn wsX7_count wsX7_freshShifts := goodIn_r _ [206, 207, 208, 209, 210, 211, 212, 213, 214, 215, 216, 217, 218, 219, 220, 221, 222, 223, 224, 225, 226, 227, 53, 54, 55, 228, 229, 230, 231, 232, 233, 234, 235, 236, 237, 238, 239, 240, 241, 242, 243, 244, 245, 246, 247, 248, 249, 250, 251, 252, 253, 254, 255, 256, 257, 258, 259, 260, 261, 262, 263, 264, 265, 307, 308, 309, 310, 311, 312, 313, 314, 315, 316, 266, 267, 317, 318, 319] rfl gw_X7_freshShifts
set_option maxRecDepth 40000 in
theorem gX7_count_X7_freshShifts : GoodIn wsX7_count (wsV RX7 150 RX7 yX7_freshShifts wsX7_freshShifts) := goodIn_app (goodIn_r _ [203, 204, 205, 16] rfl rfl) gg_X7_count_X7_freshShifts
set_option maxRecDepth 40000 in
theorem gg_X7_counter_X1_has : GoodIn wsX7_counter wsX1_has := goodIn_r _ [7, 8, 9, 10, 11, 162, 163, 164, 165, 166, 167, 168, 169, 170] rfl gw_X1_has
set_option maxRecDepth 40000 in
theorem gX7_counter_X1_has : GoodIn wsX7_counter (wsV RX7 120 RX1 yX1_has wsX1_has) := goodIn_app (goodIn_r _ [3, 4, 5, 6] rfl rfl) gg_X7_counter_X1_has
set_option maxRecDepth 40000 in
theorem gg_X7_counter_X7_isWithin : GoodIn wsX7_counter wsX7_isWithin := goodIn_r _ [11] rfl gw_X7_isWithin
set_option maxRecDepth 40000 in
theorem gX7_counter_X7_isWithin : GoodIn wsX7_counter (va_wsS RX7 67 yX7_isWithin wsX7_isWithin) := goodIn_app (goodIn_r _ [12, 9, 10] rfl rfl) gg_X7_counter_X7_isWithin
set_option maxRecDepth 40000 in
theorem gg_X7_counter_X7_freshTree : GoodIn wsX7_counter wsX7_freshTree := goodIn_r _ [16, 17, 18, 19, 20, 21, 22, 23, 24, 25, 26, 27, 28, 29, 30, 31, 32, 33, 34, 35, 6, 36, 37, 38, 8, 39, 40, 41, 42, 43, 44, 45, 46, 47, 48, 49, 50, 51, 52, 53, 54, 55, 56, 57, 58, 59, 60, 61, 62, 63, 64, 65, 66, 67, 68, 69, 70, 71, 72, 73, 74, 75, 76, 77, 78, 79, 80, 81, 82, 83, 84, 85, 86, 87, 88, 89, 90, 91, 92, 93, 94, 95, 96, 97, 98, 99, 100, 101, 102, 103, 104, 105, 106, 107, 108, 109, 110, 111, 112, 113, 114, 115, 116, 117, 118, 119, 120, 121, 122, 123, 124, 125, 126, 127, 128, 129, 130, 131, 132, 133, 134, 135, 136, 137, 138, 139, 140, 141, 142, 143, 144, 145, 146, 147, 148, 149, 150, 151, 152, 153, 154, 155, 156, 157, 158, 159, 160, 161, 162, 163, 164, 165, 166, 167, 168, 169, 170, 171, 172, 173, 174, 175] rfl gw_X7_freshTree
set_option maxRecDepth 40000 in
theorem gX7_counter_X7_freshTree : GoodIn wsX7_counter (wsV RX7 135 RX7 yX7_freshTree wsX7_freshTree) := goodIn_app (goodIn_r _ [13, 14, 15, 10] rfl rfl) gg_X7_counter_X7_freshTree
set_option maxRecDepth 40000 in
theorem gg_X7_entry_X7_isWithin : GoodIn wsX7_entry wsX7_isWithin := goodIn_r _ [11] rfl gw_X7_isWithin
set_option maxRecDepth 40000 in
theorem gX7_entry_X7_isWithin : GoodIn wsX7_entry (va_wsS RX7 67 yX7_isWithin wsX7_isWithin) := goodIn_app (goodIn_r _ [8, 9, 10] rfl rfl) gg_X7_entry_X7_isWithin
set_option maxRecDepth 40000 in
theorem gg_X7_entry_X7_areWords : GoodIn wsX7_entry wsX7_areWords := goodIn_r _ [14] rfl gw_X7_areWords
set_option maxRecDepth 40000 in
theorem gX7_entry_X7_areWords : GoodIn wsX7_entry (va_wsS RX7 94 yX7_areWords wsX7_areWords) := goodIn_app (goodIn_r _ [12, 13, 10] rfl rfl) gg_X7_entry_X7_areWords
set_option maxRecDepth 40000 in
theorem gg_X7_partner_X7_isWithin : GoodIn wsX7_partner wsX7_isWithin := goodIn_r _ [7] rfl gw_X7_isWithin
set_option maxRecDepth 40000 in
theorem gX7_partner_X7_isWithin : GoodIn wsX7_partner (va_wsS RX7 67 yX7_isWithin wsX7_isWithin) := goodIn_app (goodIn_r _ [4, 5, 6] rfl rfl) gg_X7_partner_X7_isWithin
set_option maxRecDepth 40000 in
theorem gg_X7_partner_X7_freshListing : GoodIn wsX7_partner wsX7_freshListing := goodIn_r _ [11, 12, 1, 13, 14, 15, 6, 16, 17, 18, 19, 20, 21, 22, 23, 24, 25, 26, 27, 28, 29, 30, 31, 32, 33, 34, 35, 36, 37, 38, 39, 40, 41, 42, 43, 44, 45, 46, 47, 48, 49, 50, 51, 52, 53, 54, 55, 56, 57, 58, 59, 60, 61, 62, 63, 64, 65, 66, 67, 68, 69, 70, 71, 72, 73, 74, 75, 76, 77, 78, 79, 80, 81, 82, 83, 84, 85, 86, 87, 88, 89, 90, 91, 92, 93, 94, 95, 96, 97, 98, 99, 100, 101, 102, 103, 104, 105, 106, 107, 108, 109, 110, 111, 112, 113, 114, 115, 116, 117, 118, 119, 120, 121, 122, 123, 124, 125, 126, 127, 128, 129, 130, 131, 132, 133, 134, 135, 136, 137, 138, 139, 140, 141, 142, 143, 144, 145, 146, 147, 148, 149, 150, 151, 152, 153, 154, 155, 156, 157, 158, 159, 160, 161, 162, 163, 164, 165, 166, 167, 168, 169, 170, 171, 172, 173, 174, 175, 176, 177, 178, 179, 180, 181, 182, 183, 184, 185, 186, 187, 188, 189, 190, 191, 192, 193, 194, 195, 196, 197, 198, 199, 200, 201, 202, 203, 204, 205, 221, 222, 223, 224, 225, 226, 227, 228, 229, 230, 231, 232, 233, 234, 235, 236, 237, 238, 239, 240, 241, 242, 243, 244, 245, 246, 247, 248, 249, 206, 207, 208, 209, 210, 211, 212, 213, 214, 215, 216, 217, 218, 219, 220, 250, 251] rfl gw_X7_freshListing
set_option maxRecDepth 40000 in
theorem gX7_partner_X7_freshListing : GoodIn wsX7_partner (wsV RX7 145 RX7 yX7_freshListing wsX7_freshListing) := goodIn_app (goodIn_r _ [8, 9, 10, 6] rfl rfl) gg_X7_partner_X7_freshListing
set_option maxRecDepth 40000 in
theorem gg_X7_span_X3_has : GoodIn wsX7_span wsX3_has := goodIn_r _ [7, 8, 9, 10, 11, 88, 89] rfl gw_X3_has
set_option maxRecDepth 40000 in
theorem gX7_span_X3_has : GoodIn wsX7_span (wsV RX7 83 RX3 yX3_has wsX3_has) := goodIn_app (goodIn_r _ [3, 4, 5, 6] rfl rfl) gg_X7_span_X3_has
set_option maxRecDepth 40000 in
theorem gg_X7_span_X7_freshShifts : GoodIn wsX7_span wsX7_freshShifts := goodIn_r _ [15, 16, 17, 18, 19, 20, 21, 22, 23, 24, 25, 26, 27, 28, 29, 30, 31, 32, 33, 34, 35, 36, 37, 38, 39, 40, 41, 42, 43, 44, 45, 46, 47, 48, 49, 50, 51, 52, 53, 54, 55, 56, 57, 58, 59, 60, 61, 62, 63, 64, 65, 66, 67, 68, 69, 70, 71, 72, 73, 74, 75, 76, 77, 78, 79, 80, 81, 82, 83, 84, 85, 86, 87, 88, 89, 90, 91, 92] rfl gw_X7_freshShifts
set_option maxRecDepth 40000 in
theorem gX7_span_X7_freshShifts : GoodIn wsX7_span (wsV RX7 150 RX7 yX7_freshShifts wsX7_freshShifts) := goodIn_app (goodIn_r _ [12, 13, 14, 10] rfl rfl) gg_X7_span_X7_freshShifts
set_option maxRecDepth 40000 in
theorem gg_X7_wrong_X3_has : GoodIn wsX7_wrong wsX3_has := goodIn_r _ [6, 7, 8, 9, 10, 78, 79] rfl gw_X3_has
set_option maxRecDepth 40000 in
theorem gX7_wrong_X3_has : GoodIn wsX7_wrong (wsV RX7 83 RX3 yX3_has wsX3_has) := goodIn_app (goodIn_r _ [2, 3, 4, 5] rfl rfl) gg_X7_wrong_X3_has
set_option maxRecDepth 40000 in
theorem gg_X7_wrong_X7_freshShifts : GoodIn wsX7_wrong wsX7_freshShifts := goodIn_r _ [14, 15, 16, 17, 18, 19, 20, 21, 22, 23, 24, 25, 26, 27, 28, 29, 30, 31, 32, 33, 34, 35, 36, 37, 38, 39, 40, 41, 42, 43, 44, 45, 46, 47, 48, 49, 50, 51, 52, 53, 54, 55, 56, 57, 58, 59, 60, 61, 62, 63, 64, 65, 66, 67, 69, 70, 71, 72, 73, 74, 75, 76, 77, 80, 81, 82, 83, 84, 85, 86, 87, 88, 89, 78, 79, 90, 91, 92] rfl gw_X7_freshShifts
set_option maxRecDepth 40000 in
theorem gX7_wrong_X7_freshShifts : GoodIn wsX7_wrong (wsV RX7 150 RX7 yX7_freshShifts wsX7_freshShifts) := goodIn_app (goodIn_r _ [11, 12, 13, 9] rfl rfl) gg_X7_wrong_X7_freshShifts
set_option maxRecDepth 40000 in
theorem gg_X7_wrong_X5_isWrong : GoodIn wsX7_wrong wsX5_isWrong := goodIn_r _ [67, 23, 34, 59, 80, 81, 82, 83, 84, 85, 86, 87, 88, 89, 78, 79] rfl gw_X5_isWrong
set_option maxRecDepth 40000 in
theorem gX7_wrong_X5_isWrong : GoodIn wsX7_wrong (wsV RX7 214 RX5 yX5_isWrong wsX5_isWrong) := goodIn_app (goodIn_r _ [68, 65, 66, 20] rfl rfl) gg_X7_wrong_X5_isWrong
set_option maxRecDepth 40000 in
theorem gw_X6_search : wsX6_search.all goodWord = true := rfl
set_option maxRecDepth 40000 in
theorem gg_X7_freshTree_X6_search : GoodIn wsX7_freshTree wsX6_search := goodIn_r _ [8, 9, 10, 11, 12, 13, 14, 15, 16, 17, 18, 19, 20, 21, 22, 23, 24, 25, 26, 27, 28, 29, 30, 31, 32, 33, 7, 34, 35, 36, 37, 38, 39, 40, 41, 42, 43, 44, 45, 46, 47, 48, 49, 50, 51, 52, 53, 54, 55, 56, 57, 58, 59, 60, 61, 62, 63, 64, 65, 66, 67, 68, 69, 70, 71, 72, 73, 74, 75, 76, 77, 78, 79, 80, 81, 82, 83, 84, 85, 86, 87, 88, 89, 90, 91, 92, 93, 94, 95, 96, 97, 98, 99, 100, 101, 102, 103, 104, 105, 106, 107, 108, 109, 110, 111, 112, 113, 114, 115, 116, 117, 118, 119, 120, 121, 122, 123, 133, 134, 135, 136, 137, 138, 139, 140, 141, 142, 143, 144, 145, 146, 147, 148, 149, 150, 151, 152, 153, 154, 155, 156, 157, 158, 159, 160, 161] rfl gw_X6_search
set_option maxRecDepth 40000 in
theorem gX7_freshTree_X6_search : GoodIn wsX7_freshTree (wsV RX7 217 RX6 yX6_search wsX6_search) := goodIn_app (goodIn_r _ [4, 5, 6, 7] rfl rfl) gg_X7_freshTree_X6_search
set_option maxRecDepth 40000 in
theorem gg_X7_freshListing_X7_freshTree : GoodIn wsX7_freshListing wsX7_freshTree := goodIn_r _ [7, 8, 9, 1, 10, 11, 12, 13, 14, 15, 16, 17, 18, 19, 20, 21, 22, 23, 24, 25, 26, 27, 28, 29, 30, 31, 32, 33, 34, 35, 36, 37, 38, 39, 40, 41, 42, 43, 44, 45, 46, 47, 48, 49, 50, 51, 52, 53, 54, 55, 56, 57, 58, 59, 60, 61, 62, 63, 64, 65, 66, 67, 68, 69, 70, 71, 72, 73, 74, 75, 76, 77, 78, 79, 80, 81, 82, 83, 84, 85, 86, 87, 88, 89, 90, 91, 92, 93, 94, 95, 96, 97, 98, 99, 100, 101, 102, 103, 104, 105, 106, 107, 108, 109, 110, 111, 112, 113, 114, 115, 116, 117, 118, 119, 120, 121, 122, 123, 124, 125, 126, 127, 128, 129, 188, 189, 190, 191, 192, 193, 194, 195, 196, 197, 198, 199, 200, 201, 202, 203, 204, 205, 206, 207, 208, 209, 210, 211, 212, 213, 214, 215, 216, 217, 218, 219, 220, 221, 222, 223, 224, 225] rfl gw_X7_freshTree
set_option maxRecDepth 40000 in
theorem gX7_freshListing_X7_freshTree : GoodIn wsX7_freshListing (wsV RX7 135 RX7 yX7_freshTree wsX7_freshTree) := goodIn_app (goodIn_r _ [3, 4, 5, 6] rfl rfl) gg_X7_freshListing_X7_freshTree
set_option maxRecDepth 40000 in
theorem gw_X2_hold : wsX2_hold.all goodWord = true := rfl
set_option maxRecDepth 40000 in
theorem gg_X7_freshListing_X2_hold : GoodIn wsX7_freshListing wsX2_hold := goodIn_r _ [134, 135, 136, 137, 138, 139, 140, 141, 133, 142, 143, 144, 145, 146, 147, 148, 149, 150, 151, 152, 153, 154, 155, 43, 156, 157, 158, 159, 160, 161, 162, 163, 164, 165, 166, 97, 98, 167, 168, 169, 170, 171, 172, 173, 174, 175, 176, 177, 178, 179, 180, 181, 182, 183, 184, 185, 186, 187, 226, 227, 228, 229, 230, 231, 232, 233, 234, 235, 236, 237, 238, 239, 240, 212, 213, 214, 215, 216, 217, 218, 219, 220, 197, 198, 199, 200, 201, 202, 203, 204, 205, 206, 207, 208, 209, 210, 211, 221, 222, 223, 241, 242] rfl gw_X2_hold
set_option maxRecDepth 40000 in
theorem gX7_freshListing_X2_hold : GoodIn wsX7_freshListing (wsV RX7 220 RX2 yX2_hold wsX2_hold) := goodIn_app (goodIn_r _ [130, 131, 132, 133] rfl rfl) gg_X7_freshListing_X2_hold
set_option maxRecDepth 40000 in
theorem gw_X5_explain : wsX5_explain.all goodWord = true := rfl
set_option maxRecDepth 40000 in
theorem gg_X7_freshShifts_X5_explain : GoodIn wsX7_freshShifts wsX5_explain := goodIn_r _ [7, 8, 9, 10, 11, 12, 13, 14, 15, 6, 16, 17, 18, 19, 20, 21, 22, 23, 24, 25, 26, 27, 28, 29, 30, 31, 32, 33, 34, 35, 36, 37, 38, 39, 40, 41, 42, 43, 44, 45, 46, 47, 48, 49, 50, 51, 52, 53, 63, 64, 65, 66, 67, 68, 69, 70, 71, 72, 73, 74, 75, 76, 77] rfl gw_X5_explain
set_option maxRecDepth 40000 in
theorem gX7_freshShifts_X5_explain : GoodIn wsX7_freshShifts (wsV RX7 223 RX5 yX5_explain wsX5_explain) := goodIn_app (goodIn_r _ [3, 4, 5, 6] rfl rfl) gg_X7_freshShifts_X5_explain
set_option maxRecDepth 40000 in
theorem gg_X7_areNumbers_X7_isWithin : GoodIn wsX7_areNumbers wsX7_isWithin := goodIn_r _ [5] rfl gw_X7_isWithin
set_option maxRecDepth 40000 in
theorem gX7_areNumbers_X7_isWithin : GoodIn wsX7_areNumbers (va_wsS RX7 67 yX7_isWithin wsX7_isWithin) := goodIn_app (goodIn_r _ [2, 3, 4] rfl rfl) gg_X7_areNumbers_X7_isWithin
set_option maxRecDepth 40000 in
theorem gg_X7_areNumbers_X7_countParts : GoodIn wsX7_areNumbers wsX7_countParts := goodIn_r _ [8] rfl gw_X7_countParts
set_option maxRecDepth 40000 in
theorem gX7_areNumbers_X7_countParts : GoodIn wsX7_areNumbers (va_wsS RX7 227 yX7_countParts wsX7_countParts) := goodIn_app (goodIn_r _ [6, 7, 4] rfl rfl) gg_X7_areNumbers_X7_countParts
set_option maxRecDepth 40000 in
theorem gw_X8_in : wsX8_in.all goodWord = true := rfl
set_option maxRecDepth 40000 in
theorem gg_X8_isLine_X8_in : GoodIn wsX8_isLine wsX8_in := goodIn_r _ [5] rfl gw_X8_in
set_option maxRecDepth 40000 in
theorem gX8_isLine_X8_in : GoodIn wsX8_isLine (va_wsS RX8 100 yX8_in wsX8_in) := goodIn_app (goodIn_r _ [2, 3, 4] rfl rfl) gg_X8_isLine_X8_in
set_option maxRecDepth 40000 in
theorem gg_X8_book_X8_in : GoodIn wsX8_book wsX8_in := goodIn_r _ [10] rfl gw_X8_in
set_option maxRecDepth 40000 in
theorem gX8_book_X8_in : GoodIn wsX8_book (va_wsS RX8 100 yX8_in wsX8_in) := goodIn_app (goodIn_r _ [7, 8, 9] rfl rfl) gg_X8_book_X8_in
set_option maxRecDepth 40000 in
theorem gg_X8_read_X8_in : GoodIn wsX8_read wsX8_in := goodIn_r _ [8] rfl gw_X8_in
set_option maxRecDepth 40000 in
theorem gX8_read_X8_in : GoodIn wsX8_read (va_wsS RX8 100 yX8_in wsX8_in) := goodIn_app (goodIn_r _ [5, 6, 7] rfl rfl) gg_X8_read_X8_in
set_option maxRecDepth 40000 in
theorem gg_X8_partsOf_X8_in : GoodIn wsX8_partsOf wsX8_in := goodIn_r _ [5] rfl gw_X8_in
set_option maxRecDepth 40000 in
theorem gX8_partsOf_X8_in : GoodIn wsX8_partsOf (va_wsS RX8 100 yX8_in wsX8_in) := goodIn_app (goodIn_r _ [2, 3, 4] rfl rfl) gg_X8_partsOf_X8_in
set_option maxRecDepth 40000 in
theorem gg_X8_line_X8_in : GoodIn wsX8_line wsX8_in := goodIn_r _ [15] rfl gw_X8_in
set_option maxRecDepth 40000 in
theorem gX8_line_X8_in : GoodIn wsX8_line (va_wsS RX8 100 yX8_in wsX8_in) := goodIn_app (goodIn_r _ [12, 13, 14] rfl rfl) gg_X8_line_X8_in
set_option maxRecDepth 40000 in
theorem gw_X8_areWords : wsX8_areWords.all goodWord = true := rfl
set_option maxRecDepth 40000 in
theorem gg_X8_line_X8_areWords : GoodIn wsX8_line wsX8_areWords := goodIn_r _ [18] rfl gw_X8_areWords
set_option maxRecDepth 40000 in
theorem gX8_line_X8_areWords : GoodIn wsX8_line (va_wsS RX8 112 yX8_areWords wsX8_areWords) := goodIn_app (goodIn_r _ [16, 17, 14] rfl rfl) gg_X8_line_X8_areWords
set_option maxRecDepth 40000 in
theorem gw_X8_partsOf : wsX8_partsOf.all goodWord = true := rfl
set_option maxRecDepth 40000 in
theorem gg_X8_line_X8_partsOf : GoodIn wsX8_line wsX8_partsOf := goodIn_r _ [22, 23, 12, 13, 14, 15] rfl gw_X8_partsOf
set_option maxRecDepth 40000 in
theorem gX8_line_X8_partsOf : GoodIn wsX8_line (wsV RX8 116 RX8 yX8_partsOf wsX8_partsOf) := goodIn_app (goodIn_r _ [19, 20, 21, 14] rfl rfl) gg_X8_line_X8_partsOf
set_option maxRecDepth 40000 in
theorem gw_X8_layWords : wsX8_layWords.all goodWord = true := rfl
set_option maxRecDepth 40000 in
theorem gg_X8_line_X8_layWords : GoodIn wsX8_line wsX8_layWords := goodIn_r _ [26] rfl gw_X8_layWords
set_option maxRecDepth 40000 in
theorem gX8_line_X8_layWords : GoodIn wsX8_line (va_wsS RX8 120 yX8_layWords wsX8_layWords) := goodIn_app (goodIn_r _ [24, 25, 14] rfl rfl) gg_X8_line_X8_layWords
set_option maxRecDepth 40000 in
theorem gw_X8_isLine : wsX8_isLine.all goodWord = true := rfl
set_option maxRecDepth 40000 in
theorem gg_X8_right_X8_isLine : GoodIn wsX8_right wsX8_isLine := goodIn_r _ [10, 11, 12, 13, 9, 14, 20, 21, 22, 23, 24, 25, 26, 27, 28, 29, 30, 31, 32, 33, 34, 35, 36, 37, 38, 39, 40, 41, 42, 43, 44, 45, 46, 47, 48, 49, 50, 51, 52, 53, 54] rfl gw_X8_isLine
set_option maxRecDepth 40000 in
theorem gX8_right_X8_isLine : GoodIn wsX8_right (wsV RX8 124 RX8 yX8_isLine wsX8_isLine) := goodIn_app (goodIn_r _ [6, 7, 8, 9] rfl rfl) gg_X8_right_X8_isLine
set_option maxRecDepth 40000 in
theorem gg_X8_right_X8_in : GoodIn wsX8_right wsX8_in := goodIn_r _ [14] rfl gw_X8_in
set_option maxRecDepth 40000 in
theorem gX8_right_X8_in : GoodIn wsX8_right (va_wsS RX8 100 yX8_in wsX8_in) := goodIn_app (goodIn_r _ [12, 13, 9] rfl rfl) gg_X8_right_X8_in
set_option maxRecDepth 40000 in
theorem gg_X8_right_X8_partsOf : GoodIn wsX8_right wsX8_partsOf := goodIn_r _ [18, 19, 12, 13, 9, 14] rfl gw_X8_partsOf
set_option maxRecDepth 40000 in
theorem gX8_right_X8_partsOf : GoodIn wsX8_right (wsV RX8 116 RX8 yX8_partsOf wsX8_partsOf) := goodIn_app (goodIn_r _ [15, 16, 17, 9] rfl rfl) gg_X8_right_X8_partsOf
set_option maxRecDepth 40000 in
theorem gg_X8_price_X8_in : GoodIn wsX8_price wsX8_in := goodIn_r _ [7] rfl gw_X8_in
set_option maxRecDepth 40000 in
theorem gX8_price_X8_in : GoodIn wsX8_price (va_wsS RX8 100 yX8_in wsX8_in) := goodIn_app (goodIn_r _ [4, 5, 6] rfl rfl) gg_X8_price_X8_in
set_option maxRecDepth 40000 in
theorem gg_X8_want_X8_in : GoodIn wsX8_want wsX8_in := goodIn_r _ [7] rfl gw_X8_in
set_option maxRecDepth 40000 in
theorem gX8_want_X8_in : GoodIn wsX8_want (va_wsS RX8 100 yX8_in wsX8_in) := goodIn_app (goodIn_r _ [4, 5, 6] rfl rfl) gg_X8_want_X8_in
set_option maxRecDepth 40000 in
theorem gg_X8_entry_X8_in : GoodIn wsX8_entry wsX8_in := goodIn_r _ [10] rfl gw_X8_in
set_option maxRecDepth 40000 in
theorem gX8_entry_X8_in : GoodIn wsX8_entry (va_wsS RX8 100 yX8_in wsX8_in) := goodIn_app (goodIn_r _ [7, 8, 9] rfl rfl) gg_X8_entry_X8_in
set_option maxRecDepth 40000 in
theorem gg_X8_entry_X8_areWords : GoodIn wsX8_entry wsX8_areWords := goodIn_r _ [13] rfl gw_X8_areWords
set_option maxRecDepth 40000 in
theorem gX8_entry_X8_areWords : GoodIn wsX8_entry (va_wsS RX8 112 yX8_areWords wsX8_areWords) := goodIn_app (goodIn_r _ [11, 12, 9] rfl rfl) gg_X8_entry_X8_areWords
set_option maxRecDepth 40000 in
theorem gg_X8_entry_X8_layWords : GoodIn wsX8_entry wsX8_layWords := goodIn_r _ [16] rfl gw_X8_layWords
set_option maxRecDepth 40000 in
theorem gX8_entry_X8_layWords : GoodIn wsX8_entry (va_wsS RX8 120 yX8_layWords wsX8_layWords) := goodIn_app (goodIn_r _ [14, 15, 9] rfl rfl) gg_X8_entry_X8_layWords
set_option maxRecDepth 40000 in
theorem gw_X8_areLike : wsX8_areLike.all goodWord = true := rfl
set_option maxRecDepth 40000 in
theorem gg_X8_isRunning_X8_areLike : GoodIn wsX8_isRunning wsX8_areLike := goodIn_r _ [9, 10, 1, 11, 12, 13, 14, 15, 16, 17, 18, 19, 20, 21, 22, 23, 24, 25, 26, 27, 28, 29, 30, 31, 32, 33, 34, 35, 36, 37, 38, 39, 40, 41, 42, 43, 44, 45] rfl gw_X8_areLike
set_option maxRecDepth 40000 in
theorem gX8_isRunning_X8_areLike : GoodIn wsX8_isRunning (wsV RX8 128 RX8 yX8_areLike wsX8_areLike) := goodIn_app (goodIn_r _ [5, 6, 7, 8] rfl rfl) gg_X8_isRunning_X8_areLike
set_option maxRecDepth 40000 in
theorem gw_X8_counterOf : wsX8_counterOf.all goodWord = true := rfl
set_option maxRecDepth 40000 in
theorem gg_X8_behind_X8_counterOf : GoodIn wsX8_behind wsX8_counterOf := goodIn_r _ [6] rfl gw_X8_counterOf
set_option maxRecDepth 40000 in
theorem gX8_behind_X8_counterOf : GoodIn wsX8_behind (va_wsS RX8 131 yX8_counterOf wsX8_counterOf) := goodIn_app (goodIn_r _ [3, 4, 5] rfl rfl) gg_X8_behind_X8_counterOf
set_option maxRecDepth 40000 in
theorem gw_X8_look : wsX8_look.all goodWord = true := rfl
set_option maxRecDepth 40000 in
theorem gg_X8_costOf_X8_look : GoodIn wsX8_costOf wsX8_look := goodIn_r _ [14, 15, 16, 17, 21, 22, 23, 24, 25, 26, 27, 28, 29, 30, 31, 32, 33, 34, 35, 36, 37, 38, 39, 40, 41, 42, 43, 44, 45, 46, 47, 48, 49, 50, 51, 52, 53, 54, 55] rfl gw_X8_look
set_option maxRecDepth 40000 in
theorem gX8_costOf_X8_look : GoodIn wsX8_costOf (wsV RX8 135 RX8 yX8_look wsX8_look) := goodIn_app (goodIn_r _ [10, 11, 12, 13] rfl rfl) gg_X8_costOf_X8_look
set_option maxRecDepth 40000 in
theorem gg_X8_costOf_X8_counterOf : GoodIn wsX8_costOf wsX8_counterOf := goodIn_r _ [20] rfl gw_X8_counterOf
set_option maxRecDepth 40000 in
theorem gX8_costOf_X8_counterOf : GoodIn wsX8_costOf (va_wsS RX8 131 yX8_counterOf wsX8_counterOf) := goodIn_app (goodIn_r _ [18, 19, 13] rfl rfl) gg_X8_costOf_X8_counterOf
set_option maxRecDepth 40000 in
theorem gw_X8_behind : wsX8_behind.all goodWord = true := rfl
set_option maxRecDepth 40000 in
theorem gg_X8_costWithLevel_X8_behind : GoodIn wsX8_costWithLevel wsX8_behind := goodIn_r _ [7, 8, 9, 10, 11, 6, 12, 45, 46, 47, 48, 49, 50, 51, 52, 53, 54, 55, 56, 57, 58, 59, 60, 61, 62, 63, 64, 65, 66, 67, 68, 69, 70, 71, 72, 73, 74, 75, 76, 77, 78, 79] rfl gw_X8_behind
set_option maxRecDepth 40000 in
theorem gX8_costWithLevel_X8_behind : GoodIn wsX8_costWithLevel (wsV RX8 144 RX8 yX8_behind wsX8_behind) := goodIn_app (goodIn_r _ [3, 4, 5, 6] rfl rfl) gg_X8_costWithLevel_X8_behind
set_option maxRecDepth 40000 in
theorem gw_X8_costOf : wsX8_costOf.all goodWord = true := rfl
set_option maxRecDepth 40000 in
theorem gg_X8_costWithLevel_X8_costOf : GoodIn wsX8_costWithLevel wsX8_costOf := goodIn_r _ [16, 1, 17, 18, 19, 20, 21, 22, 8, 9, 23, 24, 25, 6, 26, 27, 28, 29, 10, 11, 12, 45, 46, 47, 48, 49, 50, 51, 52, 53, 54, 55, 56, 57, 58, 59, 60, 61, 62, 63, 64, 65, 66, 67, 68, 69, 70, 71, 72, 73, 74, 75, 76, 77, 78, 79] rfl gw_X8_costOf
set_option maxRecDepth 40000 in
theorem gX8_costWithLevel_X8_costOf : GoodIn wsX8_costWithLevel (wsV RX8 149 RX8 yX8_costOf wsX8_costOf) := goodIn_app (goodIn_r _ [13, 14, 15, 6] rfl rfl) gg_X8_costWithLevel_X8_costOf
set_option maxRecDepth 40000 in
theorem gw_X8_leastFrom : wsX8_leastFrom.all goodWord = true := rfl
set_option maxRecDepth 40000 in
theorem gg_X8_costWithLevel_X8_leastFrom : GoodIn wsX8_costWithLevel wsX8_leastFrom := goodIn_r _ [33, 34, 35, 36, 37, 38, 2, 39, 40, 21, 41, 42, 43, 44, 6, 0, 1, 3, 4, 5, 7, 8, 9, 10, 11, 12, 13, 14, 15, 16, 17, 18, 19, 20, 22, 23, 24, 25, 26, 27, 28, 29, 30, 31, 32, 45, 46, 47, 48, 49, 50, 51, 52, 53, 54, 55, 56, 57, 58, 59, 60, 61, 62, 63, 64, 65, 66, 67, 68, 69, 70, 71, 72, 73, 74, 75, 76, 77, 78, 79] rfl gw_X8_leastFrom
set_option maxRecDepth 40000 in
theorem gX8_costWithLevel_X8_leastFrom : GoodIn wsX8_costWithLevel (wsV RX8 152 RX8 yX8_leastFrom wsX8_leastFrom) := goodIn_app (goodIn_r _ [30, 31, 32, 6] rfl rfl) gg_X8_costWithLevel_X8_leastFrom
set_option maxRecDepth 40000 in
theorem gw_X8_costWithLevel : wsX8_costWithLevel.all goodWord = true := rfl
set_option maxRecDepth 40000 in
theorem gg_X8_leastFrom_X8_costWithLevel : GoodIn wsX8_leastFrom wsX8_costWithLevel := goodIn_r _ [15, 16, 6, 17, 18, 19, 14, 20, 21, 22, 23, 24, 25, 26, 27, 28, 29, 30, 31, 32, 33, 9, 34, 35, 36, 37, 38, 39, 40, 41, 42, 43, 44, 0, 1, 2, 3, 4, 5, 7, 8, 10, 11, 12, 13, 45, 46, 47, 48, 49, 50, 51, 52, 53, 54, 55, 56, 57, 58, 59, 60, 61, 62, 63, 64, 65, 66, 67, 68, 69, 70, 71, 72, 73, 74, 75, 76, 77, 78, 79] rfl gw_X8_costWithLevel
set_option maxRecDepth 40000 in
theorem gX8_leastFrom_X8_costWithLevel : GoodIn wsX8_leastFrom (wsV RX8 159 RX8 yX8_costWithLevel wsX8_costWithLevel) := goodIn_app (goodIn_r _ [11, 12, 13, 14] rfl rfl) gg_X8_leastFrom_X8_costWithLevel
set_option maxRecDepth 40000 in
theorem gw_X8_isRunning : wsX8_isRunning.all goodWord = true := rfl
set_option maxRecDepth 40000 in
theorem gg_X8_findTree_X8_isRunning : GoodIn wsX8_findTree wsX8_isRunning := goodIn_r _ [13, 14, 1, 15, 16, 17, 18, 19, 12, 20, 21, 61, 62, 63, 64, 65, 66, 67, 68, 69, 70, 71, 72, 73, 74, 75, 76, 77, 78, 79, 80, 81, 82, 83, 84, 85, 86, 87, 88, 89, 90, 91, 92, 93, 94, 95] rfl gw_X8_isRunning
set_option maxRecDepth 40000 in
theorem gX8_findTree_X8_isRunning : GoodIn wsX8_findTree (wsV RX8 165 RX8 yX8_isRunning wsX8_isRunning) := goodIn_app (goodIn_r _ [9, 10, 11, 12] rfl rfl) gg_X8_findTree_X8_isRunning
set_option maxRecDepth 40000 in
theorem gg_X8_findTree_X8_leastFrom : GoodIn wsX8_findTree wsX8_leastFrom := goodIn_r _ [25, 1, 26, 27, 3, 28, 29, 30, 31, 32, 33, 34, 35, 36, 12, 37, 2, 38, 39, 40, 41, 42, 43, 44, 45, 46, 47, 48, 49, 50, 51, 16, 52, 53, 54, 55, 56, 57, 58, 21, 59, 60, 22, 23, 24, 61, 62, 63, 64, 65, 66, 67, 68, 69, 70, 71, 72, 73, 74, 75, 76, 77, 78, 79, 80, 81, 82, 83, 84, 85, 86, 87, 88, 89, 90, 91, 92, 93, 94, 95] rfl gw_X8_leastFrom
set_option maxRecDepth 40000 in
theorem gX8_findTree_X8_leastFrom : GoodIn wsX8_findTree (wsV RX8 152 RX8 yX8_leastFrom wsX8_leastFrom) := goodIn_app (goodIn_r _ [22, 23, 24, 12] rfl rfl) gg_X8_findTree_X8_leastFrom
set_option maxRecDepth 40000 in
theorem gg_X8_findTree_X8_costWithLevel : GoodIn wsX8_findTree wsX8_costWithLevel := goodIn_r _ [37, 2, 29, 38, 39, 40, 12, 41, 42, 43, 44, 45, 46, 47, 48, 49, 50, 51, 16, 52, 53, 32, 54, 55, 56, 57, 58, 21, 59, 60, 22, 23, 24, 25, 1, 26, 27, 3, 28, 30, 31, 33, 34, 35, 36, 61, 62, 63, 64, 65, 66, 67, 68, 69, 70, 71, 72, 73, 74, 75, 76, 77, 78, 79, 80, 81, 82, 83, 84, 85, 86, 87, 88, 89, 90, 91, 92, 93, 94, 95] rfl gw_X8_costWithLevel
set_option maxRecDepth 40000 in
theorem gX8_findTree_X8_costWithLevel : GoodIn wsX8_findTree (wsV RX8 159 RX8 yX8_costWithLevel wsX8_costWithLevel) := goodIn_app (goodIn_r _ [34, 35, 36, 12] rfl rfl) gg_X8_findTree_X8_costWithLevel
set_option maxRecDepth 40000 in
theorem gg_X8_findTree_X8_behind : GoodIn wsX8_findTree wsX8_behind := goodIn_r _ [41, 42, 43, 44, 45, 12, 46, 61, 62, 63, 64, 65, 66, 67, 68, 69, 70, 71, 72, 73, 74, 75, 76, 77, 78, 79, 80, 81, 82, 83, 84, 85, 86, 87, 88, 89, 90, 91, 92, 93, 94, 95] rfl gw_X8_behind
set_option maxRecDepth 40000 in
theorem gX8_findTree_X8_behind : GoodIn wsX8_findTree (wsV RX8 144 RX8 yX8_behind wsX8_behind) := goodIn_app (goodIn_r _ [38, 39, 40, 12] rfl rfl) gg_X8_findTree_X8_behind
set_option maxRecDepth 40000 in
theorem gg_X8_findTree_X8_counterOf : GoodIn wsX8_findTree wsX8_counterOf := goodIn_r _ [46] rfl gw_X8_counterOf
set_option maxRecDepth 40000 in
theorem gX8_findTree_X8_counterOf : GoodIn wsX8_findTree (va_wsS RX8 131 yX8_counterOf wsX8_counterOf) := goodIn_app (goodIn_r _ [44, 45, 12] rfl rfl) gg_X8_findTree_X8_counterOf
set_option maxRecDepth 40000 in
theorem gw_X8_partnerCost : wsX8_partnerCost.all goodWord = true := rfl
set_option maxRecDepth 40000 in
theorem gg_X8_costWith_X8_partnerCost : GoodIn wsX8_costWith wsX8_partnerCost := goodIn_r _ [9, 10, 11, 2, 12, 13, 14, 15, 16, 17, 18, 19, 20, 21, 22, 23, 24, 25, 26, 27, 28, 29, 30, 31, 32, 33, 34, 35, 36, 37, 38, 39, 40, 41, 42, 43, 44, 45, 46, 47, 48, 49, 50, 51, 52, 53, 54, 55] rfl gw_X8_partnerCost
set_option maxRecDepth 40000 in
theorem gX8_costWith_X8_partnerCost : GoodIn wsX8_costWith (wsV RX8 174 RX8 yX8_partnerCost wsX8_partnerCost) := goodIn_app (goodIn_r _ [5, 6, 7, 8] rfl rfl) gg_X8_costWith_X8_partnerCost
set_option maxRecDepth 40000 in
theorem gw_X8_costWith : wsX8_costWith.all goodWord = true := rfl
set_option maxRecDepth 40000 in
theorem gg_X8_hold_X8_costWith : GoodIn wsX8_hold wsX8_costWith := goodIn_r _ [16, 1, 4, 2, 11, 17, 18, 19, 15, 20, 21, 22, 23, 24, 25, 26, 8, 27, 28, 29, 30, 31, 32, 33, 34, 35, 36, 37, 38, 39, 40, 41, 42, 43, 44, 45, 46, 47, 48, 49, 50, 51, 52, 53, 54, 55, 56, 57, 58, 59, 60, 61, 62, 63, 64, 65] rfl gw_X8_costWith
set_option maxRecDepth 40000 in
theorem gX8_hold_X8_costWith : GoodIn wsX8_hold (wsV RX8 177 RX8 yX8_costWith wsX8_costWith) := goodIn_app (goodIn_r _ [12, 13, 14, 15] rfl rfl) gg_X8_hold_X8_costWith
set_option maxRecDepth 40000 in
theorem gw_X8_wrongIn : wsX8_wrongIn.all goodWord = true := rfl
set_option maxRecDepth 40000 in
theorem gg_X8_findShifts_X8_wrongIn : GoodIn wsX8_findShifts wsX8_wrongIn := goodIn_r _ [14, 9, 15, 16, 17, 18, 19, 20, 21, 22, 23, 24, 25, 26, 27, 28, 29, 30, 31, 32, 33, 34, 35, 36, 37, 38, 39, 40, 41, 42, 43, 44, 45, 46, 47, 48, 49, 50] rfl gw_X8_wrongIn
set_option maxRecDepth 40000 in
theorem gX8_findShifts_X8_wrongIn : GoodIn wsX8_findShifts (wsV RX8 183 RX8 yX8_wrongIn wsX8_wrongIn) := goodIn_app (goodIn_r _ [10, 11, 12, 13] rfl rfl) gg_X8_findShifts_X8_wrongIn
set_option maxRecDepth 40000 in
theorem gw_X8_findTree : wsX8_findTree.all goodWord = true := rfl
set_option maxRecDepth 40000 in
theorem gg_X8_find_X8_findTree : GoodIn wsX8_find wsX8_findTree := goodIn_r _ [6, 7, 8, 9, 10, 11, 12, 13, 14, 15, 16, 17, 5, 18, 19, 20, 21, 22, 23, 24, 25, 26, 27, 28, 29, 30, 31, 32, 33, 34, 35, 36, 37, 38, 39, 40, 41, 42, 43, 44, 45, 46, 47, 48, 49, 50, 51, 52, 53, 54, 55, 56, 57, 58, 59, 60, 61, 62, 63, 64, 65, 100, 101, 102, 103, 104, 105, 106, 107, 108, 109, 110, 111, 112, 113, 114, 115, 116, 117, 118, 119, 120, 121, 122, 123, 124, 125, 126, 127, 128, 129, 130, 131, 132, 133, 134] rfl gw_X8_findTree
set_option maxRecDepth 40000 in
theorem gX8_find_X8_findTree : GoodIn wsX8_find (wsV RX8 186 RX8 yX8_findTree wsX8_findTree) := goodIn_app (goodIn_r _ [2, 3, 4, 5] rfl rfl) gg_X8_find_X8_findTree
set_option maxRecDepth 40000 in
theorem gw_X8_hold : wsX8_hold.all goodWord = true := rfl
set_option maxRecDepth 40000 in
theorem gg_X8_find_X8_hold : GoodIn wsX8_find wsX8_hold := goodIn_r _ [69, 11, 70, 71, 56, 34, 35, 36, 37, 38, 72, 14, 73, 74, 75, 5, 76, 77, 78, 79, 80, 81, 19, 82, 12, 57, 58, 59, 83, 84, 20, 100, 101, 102, 103, 104, 105, 106, 107, 108, 109, 110, 111, 112, 113, 114, 115, 116, 117, 118, 119, 120, 121, 122, 123, 124, 125, 126, 127, 128, 129, 130, 131, 132, 133, 134] rfl gw_X8_hold
set_option maxRecDepth 40000 in
theorem gX8_find_X8_hold : GoodIn wsX8_find (wsV RX8 189 RX8 yX8_hold wsX8_hold) := goodIn_app (goodIn_r _ [66, 67, 68, 5] rfl rfl) gg_X8_find_X8_hold
set_option maxRecDepth 40000 in
theorem gw_X8_findShifts : wsX8_findShifts.all goodWord = true := rfl
set_option maxRecDepth 40000 in
theorem gg_X8_find_X8_findShifts : GoodIn wsX8_find wsX8_findShifts := goodIn_r _ [88, 89, 90, 91, 34, 56, 92, 93, 94, 95, 96, 97, 98, 5, 99, 84, 100, 101, 102, 103, 104, 105, 106, 107, 108, 109, 110, 111, 112, 113, 114, 115, 116, 117, 118, 119, 120, 121, 122, 123, 124, 125, 126, 127, 128, 129, 130, 131, 132, 133, 134] rfl gw_X8_findShifts
set_option maxRecDepth 40000 in
theorem gX8_find_X8_findShifts : GoodIn wsX8_find (wsV RX8 192 RX8 yX8_findShifts wsX8_findShifts) := goodIn_app (goodIn_r _ [85, 86, 87, 5] rfl rfl) gg_X8_find_X8_findShifts
set_option maxRecDepth 40000 in
theorem gw_X8_find : wsX8_find.all goodWord = true := rfl
set_option maxRecDepth 40000 in
theorem gg_X8_count_X8_find : GoodIn wsX8_count wsX8_find := goodIn_r _ [14, 15, 16, 17, 18, 13, 19, 3, 20, 21, 6, 5, 22, 23, 24, 25, 26, 27, 28, 29, 30, 31, 32, 33, 34, 35, 36, 37, 38, 39, 40, 41, 42, 43, 44, 45, 46, 47, 48, 49, 50, 51, 52, 53, 54, 55, 56, 57, 58, 59, 60, 61, 62, 63, 64, 65, 66, 67, 68, 69, 70, 71, 72, 73, 74, 75, 76, 77, 78, 79, 7, 4, 80, 81, 82, 83, 84, 85, 86, 87, 88, 89, 90, 91, 92, 93, 94, 95, 96, 8, 2, 9, 97, 98, 99, 100, 101, 102, 103, 104, 109, 110, 111, 112, 113, 114, 115, 116, 117, 118, 119, 120, 121, 122, 123, 124, 125, 126, 127, 128, 129, 130, 131, 132, 133, 134, 135, 136, 137, 138, 139, 140, 141, 142, 143] rfl gw_X8_find
set_option maxRecDepth 40000 in
theorem gX8_count_X8_find : GoodIn wsX8_count (wsV RX8 195 RX8 yX8_find wsX8_find) := goodIn_app (goodIn_r _ [10, 11, 12, 13] rfl rfl) gg_X8_count_X8_find
set_option maxRecDepth 40000 in
theorem gw_X8_isWrong : wsX8_isWrong.all goodWord = true := rfl
set_option maxRecDepth 40000 in
theorem gg_X8_count_X8_isWrong : GoodIn wsX8_count wsX8_isWrong := goodIn_r _ [108, 92, 99, 109, 110, 111, 112, 113, 114, 115, 116, 117, 118, 119, 120, 121, 122, 123, 124, 125, 126, 127, 128, 129, 130, 131, 132, 133, 134, 135, 136, 137, 138, 139, 140, 141, 142, 143] rfl gw_X8_isWrong
set_option maxRecDepth 40000 in
theorem gX8_count_X8_isWrong : GoodIn wsX8_count (wsV RX8 198 RX8 yX8_isWrong wsX8_isWrong) := goodIn_app (goodIn_r _ [105, 106, 107, 13] rfl rfl) gg_X8_count_X8_isWrong
set_option maxRecDepth 40000 in
theorem gg_X8_of_X8_isLine : GoodIn wsX8_of wsX8_isLine := goodIn_r _ [10, 11, 12, 13, 9, 14, 124, 125, 126, 127, 128, 129, 130, 131, 132, 133, 134, 135, 136, 137, 138, 139, 140, 141, 142, 143, 144, 145, 146, 147, 148, 149, 150, 151, 152, 153, 154, 155, 156, 157, 158] rfl gw_X8_isLine
set_option maxRecDepth 40000 in
theorem gX8_of_X8_isLine : GoodIn wsX8_of (wsV RX8 124 RX8 yX8_isLine wsX8_isLine) := goodIn_app (goodIn_r _ [6, 7, 8, 9] rfl rfl) gg_X8_of_X8_isLine
set_option maxRecDepth 40000 in
theorem gg_X8_of_X8_in : GoodIn wsX8_of wsX8_in := goodIn_r _ [14] rfl gw_X8_in
set_option maxRecDepth 40000 in
theorem gX8_of_X8_in : GoodIn wsX8_of (va_wsS RX8 100 yX8_in wsX8_in) := goodIn_app (goodIn_r _ [12, 13, 9] rfl rfl) gg_X8_of_X8_in
set_option maxRecDepth 40000 in
theorem gg_X8_of_X8_find : GoodIn wsX8_of wsX8_find := goodIn_r _ [18, 19, 20, 21, 22, 9, 23, 11, 3, 24, 25, 26, 4, 27, 28, 29, 30, 31, 32, 33, 2, 34, 35, 36, 37, 38, 39, 40, 41, 42, 43, 44, 45, 46, 47, 48, 49, 50, 51, 52, 53, 54, 55, 56, 57, 58, 59, 5, 60, 61, 62, 63, 64, 65, 66, 67, 68, 69, 70, 71, 72, 73, 74, 75, 76, 77, 78, 79, 80, 81, 82, 83, 84, 85, 86, 87, 88, 89, 90, 91, 92, 93, 94, 95, 96, 97, 98, 99, 100, 101, 102, 103, 104, 105, 106, 107, 108, 109, 110, 111, 124, 125, 126, 127, 128, 129, 130, 131, 132, 133, 134, 135, 136, 137, 138, 139, 140, 141, 142, 143, 144, 145, 146, 147, 148, 149, 150, 151, 152, 153, 154, 155, 156, 157, 158] rfl gw_X8_find
set_option maxRecDepth 40000 in
theorem gX8_of_X8_find : GoodIn wsX8_of (wsV RX8 195 RX8 yX8_find wsX8_find) := goodIn_app (goodIn_r _ [15, 16, 17, 9] rfl rfl) gg_X8_of_X8_find
set_option maxRecDepth 40000 in
theorem gg_X8_of_X8_look : GoodIn wsX8_of wsX8_look := goodIn_r _ [75, 39, 76, 77, 124, 125, 126, 127, 128, 129, 130, 131, 132, 133, 134, 135, 136, 137, 138, 139, 140, 141, 142, 143, 144, 145, 146, 147, 148, 149, 150, 151, 152, 153, 154, 155, 156, 157, 158] rfl gw_X8_look
set_option maxRecDepth 40000 in
theorem gX8_of_X8_look : GoodIn wsX8_of (wsV RX8 135 RX8 yX8_look wsX8_look) := goodIn_app (goodIn_r _ [72, 73, 74, 9] rfl rfl) gg_X8_of_X8_look
set_option maxRecDepth 40000 in
theorem gw_X8_endOf : wsX8_endOf.all goodWord = true := rfl
set_option maxRecDepth 40000 in
theorem gg_X8_of_X8_endOf : GoodIn wsX8_of wsX8_endOf := goodIn_r _ [115, 4, 11, 2, 102, 124, 125, 126, 127, 128, 129, 130, 131, 132, 133, 134, 135, 136, 137, 138, 139, 140, 141, 142, 143, 144, 145, 146, 147, 148, 149, 150, 151, 152, 153, 154, 155, 156, 157, 158] rfl gw_X8_endOf
set_option maxRecDepth 40000 in
theorem gX8_of_X8_endOf : GoodIn wsX8_of (wsV RX8 201 RX8 yX8_endOf wsX8_endOf) := goodIn_app (goodIn_r _ [112, 113, 114, 9] rfl rfl) gg_X8_of_X8_endOf
set_option maxRecDepth 40000 in
theorem gw_X8_partnerOfLine : wsX8_partnerOfLine.all goodWord = true := rfl
set_option maxRecDepth 40000 in
theorem gg_X8_of_X8_partnerOfLine : GoodIn wsX8_of wsX8_partnerOfLine := goodIn_r _ [119, 83, 84, 124, 125, 126, 127, 128, 129, 130, 131, 132, 133, 134, 135, 136, 137, 138, 139, 140, 141, 142, 143, 144, 145, 146, 147, 148, 149, 150, 151, 152, 153, 154, 155, 156, 157, 158] rfl gw_X8_partnerOfLine
set_option maxRecDepth 40000 in
theorem gX8_of_X8_partnerOfLine : GoodIn wsX8_of (wsV RX8 204 RX8 yX8_partnerOfLine wsX8_partnerOfLine) := goodIn_app (goodIn_r _ [116, 117, 118, 9] rfl rfl) gg_X8_of_X8_partnerOfLine
set_option maxRecDepth 40000 in
theorem gw_X8_aboveOf : wsX8_aboveOf.all goodWord = true := rfl
set_option maxRecDepth 40000 in
theorem gg_X8_of_X8_aboveOf : GoodIn wsX8_of wsX8_aboveOf := goodIn_r _ [123, 4, 124, 125, 126, 127, 128, 129, 130, 131, 132, 133, 134, 135, 136, 137, 138, 139, 140, 141, 142, 143, 144, 145, 146, 147, 148, 149, 150, 151, 152, 153, 154, 155, 156, 157, 158] rfl gw_X8_aboveOf
set_option maxRecDepth 40000 in
theorem gX8_of_X8_aboveOf : GoodIn wsX8_of (wsV RX8 207 RX8 yX8_aboveOf wsX8_aboveOf) := goodIn_app (goodIn_r _ [120, 121, 122, 9] rfl rfl) gg_X8_of_X8_aboveOf
set_option maxRecDepth 40000 in
theorem gg_X8_counter_X8_isLine : GoodIn wsX8_counter wsX8_isLine := goodIn_r _ [7, 8, 9, 10, 6, 11, 112, 113, 114, 115, 116, 117, 118, 119, 120, 121, 122, 123, 124, 125, 126, 127, 128, 129, 130, 131, 132, 133, 134, 135, 136, 137, 138, 139, 140, 141, 142, 143, 144, 145, 146] rfl gw_X8_isLine
set_option maxRecDepth 40000 in
theorem gX8_counter_X8_isLine : GoodIn wsX8_counter (wsV RX8 124 RX8 yX8_isLine wsX8_isLine) := goodIn_app (goodIn_r _ [3, 4, 5, 6] rfl rfl) gg_X8_counter_X8_isLine
set_option maxRecDepth 40000 in
theorem gg_X8_counter_X8_in : GoodIn wsX8_counter wsX8_in := goodIn_r _ [11] rfl gw_X8_in
set_option maxRecDepth 40000 in
theorem gX8_counter_X8_in : GoodIn wsX8_counter (va_wsS RX8 100 yX8_in wsX8_in) := goodIn_app (goodIn_r _ [9, 10, 6] rfl rfl) gg_X8_counter_X8_in
set_option maxRecDepth 40000 in
theorem gg_X8_counter_X8_find : GoodIn wsX8_counter wsX8_find := goodIn_r _ [15, 16, 17, 18, 19, 6, 20, 8, 21, 22, 23, 24, 25, 2, 26, 27, 28, 29, 30, 31, 32, 33, 34, 35, 36, 37, 38, 39, 40, 41, 42, 43, 44, 45, 46, 47, 48, 49, 50, 51, 52, 53, 54, 55, 56, 57, 58, 59, 60, 61, 62, 63, 64, 65, 66, 67, 68, 69, 70, 71, 72, 73, 74, 75, 76, 77, 78, 79, 80, 81, 82, 83, 84, 85, 86, 87, 88, 89, 90, 91, 92, 93, 94, 95, 96, 97, 98, 99, 100, 101, 102, 103, 104, 105, 106, 107, 108, 109, 110, 111, 112, 113, 114, 115, 116, 117, 118, 119, 120, 121, 122, 123, 124, 125, 126, 127, 128, 129, 130, 131, 132, 133, 134, 135, 136, 137, 138, 139, 140, 141, 142, 143, 144, 145, 146] rfl gw_X8_find
set_option maxRecDepth 40000 in
theorem gX8_counter_X8_find : GoodIn wsX8_counter (wsV RX8 195 RX8 yX8_find wsX8_find) := goodIn_app (goodIn_r _ [12, 13, 14, 6] rfl rfl) gg_X8_counter_X8_find
set_option maxRecDepth 40000 in
theorem gg_X8_partner_X8_in : GoodIn wsX8_partner wsX8_in := goodIn_r _ [7] rfl gw_X8_in
set_option maxRecDepth 40000 in
theorem gX8_partner_X8_in : GoodIn wsX8_partner (va_wsS RX8 100 yX8_in wsX8_in) := goodIn_app (goodIn_r _ [4, 5, 6] rfl rfl) gg_X8_partner_X8_in
set_option maxRecDepth 40000 in
theorem gg_X8_partner_X8_find : GoodIn wsX8_partner wsX8_find := goodIn_r _ [11, 12, 13, 14, 15, 6, 16, 17, 18, 19, 20, 21, 22, 23, 24, 25, 26, 27, 28, 29, 30, 31, 32, 33, 34, 35, 36, 37, 38, 39, 40, 41, 42, 43, 44, 45, 46, 47, 48, 49, 50, 51, 52, 53, 54, 55, 56, 57, 58, 59, 60, 61, 62, 63, 64, 65, 66, 67, 68, 69, 70, 71, 72, 73, 74, 75, 76, 77, 78, 79, 80, 2, 3, 81, 82, 83, 84, 85, 86, 87, 88, 89, 90, 91, 92, 93, 94, 95, 96, 97, 98, 99, 100, 101, 102, 103, 104, 105, 106, 107, 108, 109, 110, 111, 112, 113, 114, 115, 116, 117, 118, 119, 120, 121, 122, 123, 124, 125, 126, 127, 128, 129, 130, 131, 132, 133, 134, 135, 136, 137, 138, 139, 140, 141, 142] rfl gw_X8_find
set_option maxRecDepth 40000 in
theorem gX8_partner_X8_find : GoodIn wsX8_partner (wsV RX8 195 RX8 yX8_find wsX8_find) := goodIn_app (goodIn_r _ [8, 9, 10, 6] rfl rfl) gg_X8_partner_X8_find
set_option maxRecDepth 40000 in
theorem gg_X8_shift_X8_in : GoodIn wsX8_shift wsX8_in := goodIn_r _ [7] rfl gw_X8_in
set_option maxRecDepth 40000 in
theorem gX8_shift_X8_in : GoodIn wsX8_shift (va_wsS RX8 100 yX8_in wsX8_in) := goodIn_app (goodIn_r _ [4, 5, 6] rfl rfl) gg_X8_shift_X8_in
set_option maxRecDepth 40000 in
theorem gg_X8_shift_X8_find : GoodIn wsX8_shift wsX8_find := goodIn_r _ [11, 12, 13, 14, 15, 6, 16, 17, 18, 19, 20, 21, 22, 23, 24, 25, 26, 27, 28, 29, 30, 31, 32, 33, 34, 35, 36, 37, 38, 39, 40, 41, 42, 43, 44, 45, 46, 47, 48, 49, 50, 51, 52, 53, 54, 55, 56, 57, 58, 59, 60, 61, 62, 63, 64, 65, 66, 67, 68, 69, 70, 71, 72, 73, 74, 75, 76, 77, 78, 79, 80, 81, 82, 83, 84, 85, 86, 87, 88, 89, 90, 91, 92, 93, 94, 95, 96, 97, 98, 99, 2, 100, 101, 102, 3, 103, 104, 105, 106, 107, 108, 109, 110, 111, 112, 113, 114, 115, 116, 117, 118, 119, 120, 121, 122, 123, 124, 125, 126, 127, 128, 129, 130, 131, 132, 133, 134, 135, 136, 137, 138, 139, 140, 141, 142] rfl gw_X8_find
set_option maxRecDepth 40000 in
theorem gX8_shift_X8_find : GoodIn wsX8_shift (wsV RX8 195 RX8 yX8_find wsX8_find) := goodIn_app (goodIn_r _ [8, 9, 10, 6] rfl rfl) gg_X8_shift_X8_find
set_option maxRecDepth 40000 in
theorem gg_X8_span_X8_in : GoodIn wsX8_span wsX8_in := goodIn_r _ [7] rfl gw_X8_in
set_option maxRecDepth 40000 in
theorem gX8_span_X8_in : GoodIn wsX8_span (va_wsS RX8 100 yX8_in wsX8_in) := goodIn_app (goodIn_r _ [4, 5, 6] rfl rfl) gg_X8_span_X8_in
set_option maxRecDepth 40000 in
theorem gg_X8_span_X8_find : GoodIn wsX8_span wsX8_find := goodIn_r _ [11, 12, 13, 14, 15, 6, 16, 17, 18, 19, 20, 21, 22, 23, 24, 25, 26, 27, 28, 29, 30, 31, 32, 33, 34, 35, 36, 37, 38, 39, 40, 41, 42, 43, 44, 45, 46, 47, 48, 49, 50, 51, 52, 53, 54, 55, 56, 57, 58, 59, 60, 61, 62, 63, 64, 65, 66, 67, 68, 69, 70, 71, 72, 73, 74, 75, 76, 77, 78, 79, 80, 81, 82, 83, 84, 85, 86, 87, 88, 89, 90, 91, 92, 93, 94, 95, 96, 97, 98, 99, 2, 100, 101, 3, 102, 103, 104, 105, 106, 107, 108, 109, 110, 111, 112, 113, 114, 115, 116, 117, 118, 119, 120, 121, 122, 123, 124, 125, 126, 127, 128, 129, 130, 131, 132, 133, 134, 135, 136, 137, 138, 139, 140, 141, 142] rfl gw_X8_find
set_option maxRecDepth 40000 in
theorem gX8_span_X8_find : GoodIn wsX8_span (wsV RX8 195 RX8 yX8_find wsX8_find) := goodIn_app (goodIn_r _ [8, 9, 10, 6] rfl rfl) gg_X8_span_X8_find
set_option maxRecDepth 40000 in
theorem gg_X8_wrong_X8_in : GoodIn wsX8_wrong wsX8_in := goodIn_r _ [6] rfl gw_X8_in
set_option maxRecDepth 40000 in
theorem gX8_wrong_X8_in : GoodIn wsX8_wrong (va_wsS RX8 100 yX8_in wsX8_in) := goodIn_app (goodIn_r _ [3, 4, 5] rfl rfl) gg_X8_wrong_X8_in
set_option maxRecDepth 40000 in
theorem gg_X8_wrong_X8_find : GoodIn wsX8_wrong wsX8_find := goodIn_r _ [10, 11, 12, 13, 14, 5, 15, 16, 17, 18, 19, 20, 21, 22, 23, 24, 25, 26, 27, 28, 29, 30, 31, 32, 33, 34, 35, 36, 37, 38, 39, 40, 41, 42, 43, 44, 45, 46, 47, 48, 49, 50, 51, 52, 53, 54, 55, 56, 57, 58, 59, 60, 61, 62, 63, 64, 65, 66, 67, 68, 69, 70, 71, 72, 73, 74, 75, 76, 77, 78, 79, 80, 81, 82, 83, 84, 85, 86, 87, 88, 89, 90, 91, 92, 93, 94, 95, 96, 97, 98, 2, 99, 100, 101, 102, 103, 104, 105, 106, 107, 112, 113, 114, 115, 116, 117, 118, 119, 120, 121, 122, 123, 124, 125, 126, 127, 128, 129, 130, 131, 132, 133, 134, 135, 136, 137, 138, 139, 140, 141, 142, 143, 144, 145, 146] rfl gw_X8_find
set_option maxRecDepth 40000 in
theorem gX8_wrong_X8_find : GoodIn wsX8_wrong (wsV RX8 195 RX8 yX8_find wsX8_find) := goodIn_app (goodIn_r _ [7, 8, 9, 5] rfl rfl) gg_X8_wrong_X8_find
set_option maxRecDepth 40000 in
theorem gg_X8_wrong_X8_isWrong : GoodIn wsX8_wrong wsX8_isWrong := goodIn_r _ [111, 93, 102, 112, 113, 114, 115, 116, 117, 118, 119, 120, 121, 122, 123, 124, 125, 126, 127, 128, 129, 130, 131, 132, 133, 134, 135, 136, 137, 138, 139, 140, 141, 142, 143, 144, 145, 146] rfl gw_X8_isWrong
set_option maxRecDepth 40000 in
theorem gX8_wrong_X8_isWrong : GoodIn wsX8_wrong (wsV RX8 198 RX8 yX8_isWrong wsX8_isWrong) := goodIn_app (goodIn_r _ [108, 109, 110, 5] rfl rfl) gg_X8_wrong_X8_isWrong
end
section
theorem dX0_init_0 : decode cX0_init 0 = .ok (.aload_n 0, 1) := by decide +kernel
theorem dX0_init_1 : decode cX0_init 1 = .ok (.invokespecial 5, 3) := by decide +kernel
theorem dX0_init_4 : decode cX0_init 4 = .ok (.aload_n 0, 1) := by decide +kernel
theorem dX0_init_5 : decode cX0_init 5 = .ok (.iconst 4, 1) := by decide +kernel
theorem dX0_init_6 : decode cX0_init 6 = .ok (.newarray .int, 2) := by decide +kernel
theorem dX0_init_8 : decode cX0_init 8 = .ok (.dup, 1) := by decide +kernel
theorem dX0_init_9 : decode cX0_init 9 = .ok (.iconst 0, 1) := by decide +kernel
theorem dX0_init_10 : decode cX0_init 10 = .ok (.iconst 1, 1) := by decide +kernel
theorem dX0_init_11 : decode cX0_init 11 = .ok (.iastore, 1) := by decide +kernel
theorem dX0_init_12 : decode cX0_init 12 = .ok (.dup, 1) := by decide +kernel
theorem dX0_init_13 : decode cX0_init 13 = .ok (.iconst 1, 1) := by decide +kernel
theorem dX0_init_14 : decode cX0_init 14 = .ok (.iconst 0, 1) := by decide +kernel
theorem dX0_init_15 : decode cX0_init 15 = .ok (.iastore, 1) := by decide +kernel
theorem dX0_init_16 : decode cX0_init 16 = .ok (.dup, 1) := by decide +kernel
theorem dX0_init_17 : decode cX0_init 17 = .ok (.iconst 2, 1) := by decide +kernel
theorem dX0_init_18 : decode cX0_init 18 = .ok (.iconst 0, 1) := by decide +kernel
theorem dX0_init_19 : decode cX0_init 19 = .ok (.iastore, 1) := by decide +kernel
theorem dX0_init_20 : decode cX0_init 20 = .ok (.dup, 1) := by decide +kernel
theorem dX0_init_21 : decode cX0_init 21 = .ok (.iconst 3, 1) := by decide +kernel
theorem dX0_init_22 : decode cX0_init 22 = .ok (.iconst 0, 1) := by decide +kernel
theorem dX0_init_23 : decode cX0_init 23 = .ok (.iastore, 1) := by decide +kernel
theorem dX0_init_24 : decode cX0_init 24 = .ok (.putfield 11, 3) := by decide +kernel
theorem dX0_init_27 : decode cX0_init 27 = .ok (.aload_n 0, 1) := by decide +kernel
theorem dX0_init_28 : decode cX0_init 28 = .ok (.aload_n 1, 1) := by decide +kernel
theorem dX0_init_29 : decode cX0_init 29 = .ok (.putfield 15, 3) := by decide +kernel
theorem dX0_init_32 : decode cX0_init 32 = .ok (.return_, 1) := by decide +kernel
theorem dX0_unpack_0 : decode cX0_unpack 0 = .ok (.aload_n 0, 1) := by decide +kernel
theorem dX0_unpack_1 : decode cX0_unpack 1 = .ok (.getfield 11, 3) := by decide +kernel
theorem dX0_unpack_4 : decode cX0_unpack 4 = .ok (.iconst 1, 1) := by decide +kernel
theorem dX0_unpack_5 : decode cX0_unpack 5 = .ok (.iload_n 1, 1) := by decide +kernel
theorem dX0_unpack_6 : decode cX0_unpack 6 = .ok (.sipush 196, 3) := by decide +kernel
theorem dX0_unpack_9 : decode cX0_unpack 9 = .ok (.idiv, 1) := by decide +kernel
theorem dX0_unpack_10 : decode cX0_unpack 10 = .ok (.iastore, 1) := by decide +kernel
theorem dX0_unpack_11 : decode cX0_unpack 11 = .ok (.aload_n 0, 1) := by decide +kernel
theorem dX0_unpack_12 : decode cX0_unpack 12 = .ok (.getfield 11, 3) := by decide +kernel
theorem dX0_unpack_15 : decode cX0_unpack 15 = .ok (.iconst 2, 1) := by decide +kernel
theorem dX0_unpack_16 : decode cX0_unpack 16 = .ok (.iload_n 1, 1) := by decide +kernel
theorem dX0_unpack_17 : decode cX0_unpack 17 = .ok (.bipush 14, 2) := by decide +kernel
theorem dX0_unpack_19 : decode cX0_unpack 19 = .ok (.idiv, 1) := by decide +kernel
theorem dX0_unpack_20 : decode cX0_unpack 20 = .ok (.bipush 14, 2) := by decide +kernel
theorem dX0_unpack_22 : decode cX0_unpack 22 = .ok (.irem, 1) := by decide +kernel
theorem dX0_unpack_23 : decode cX0_unpack 23 = .ok (.iastore, 1) := by decide +kernel
theorem dX0_unpack_24 : decode cX0_unpack 24 = .ok (.aload_n 0, 1) := by decide +kernel
theorem dX0_unpack_25 : decode cX0_unpack 25 = .ok (.getfield 11, 3) := by decide +kernel
theorem dX0_unpack_28 : decode cX0_unpack 28 = .ok (.iconst 3, 1) := by decide +kernel
theorem dX0_unpack_29 : decode cX0_unpack 29 = .ok (.iload_n 1, 1) := by decide +kernel
theorem dX0_unpack_30 : decode cX0_unpack 30 = .ok (.bipush 14, 2) := by decide +kernel
theorem dX0_unpack_32 : decode cX0_unpack 32 = .ok (.irem, 1) := by decide +kernel
theorem dX0_unpack_33 : decode cX0_unpack 33 = .ok (.iastore, 1) := by decide +kernel
theorem dX0_unpack_34 : decode cX0_unpack 34 = .ok (.return_, 1) := by decide +kernel
theorem dX0_pack_0 : decode cX0_pack 0 = .ok (.iconst 0, 1) := by decide +kernel
theorem dX0_pack_1 : decode cX0_pack 1 = .ok (.istore_n 2, 1) := by decide +kernel
theorem dX0_pack_2 : decode cX0_pack 2 = .ok (.iconst 1, 1) := by decide +kernel
theorem dX0_pack_3 : decode cX0_pack 3 = .ok (.istore_n 3, 1) := by decide +kernel
theorem dX0_pack_4 : decode cX0_pack 4 = .ok (.iload_n 3, 1) := by decide +kernel
theorem dX0_pack_5 : decode cX0_pack 5 = .ok (.iconst 3, 1) := by decide +kernel
theorem dX0_pack_6 : decode cX0_pack 6 = .ok (.if_icmp .gt 39, 3) := by decide +kernel
theorem dX0_pack_9 : decode cX0_pack 9 = .ok (.iload_n 2, 1) := by decide +kernel
theorem dX0_pack_10 : decode cX0_pack 10 = .ok (.bipush 14, 2) := by decide +kernel
theorem dX0_pack_12 : decode cX0_pack 12 = .ok (.imul, 1) := by decide +kernel
theorem dX0_pack_13 : decode cX0_pack 13 = .ok (.aload_n 0, 1) := by decide +kernel
theorem dX0_pack_14 : decode cX0_pack 14 = .ok (.getfield 11, 3) := by decide +kernel
theorem dX0_pack_17 : decode cX0_pack 17 = .ok (.iload_n 3, 1) := by decide +kernel
theorem dX0_pack_18 : decode cX0_pack 18 = .ok (.iaload, 1) := by decide +kernel
theorem dX0_pack_19 : decode cX0_pack 19 = .ok (.aload_n 1, 1) := by decide +kernel
theorem dX0_pack_20 : decode cX0_pack 20 = .ok (.iload_n 3, 1) := by decide +kernel
theorem dX0_pack_21 : decode cX0_pack 21 = .ok (.iaload, 1) := by decide +kernel
theorem dX0_pack_22 : decode cX0_pack 22 = .ok (.if_icmp .ge 12, 3) := by decide +kernel
theorem dX0_pack_25 : decode cX0_pack 25 = .ok (.aload_n 0, 1) := by decide +kernel
theorem dX0_pack_26 : decode cX0_pack 26 = .ok (.getfield 11, 3) := by decide +kernel
theorem dX0_pack_29 : decode cX0_pack 29 = .ok (.iload_n 3, 1) := by decide +kernel
theorem dX0_pack_30 : decode cX0_pack 30 = .ok (.iaload, 1) := by decide +kernel
theorem dX0_pack_31 : decode cX0_pack 31 = .ok (.goto 6, 3) := by decide +kernel
theorem dX0_pack_34 : decode cX0_pack 34 = .ok (.aload_n 1, 1) := by decide +kernel
theorem dX0_pack_35 : decode cX0_pack 35 = .ok (.iload_n 3, 1) := by decide +kernel
theorem dX0_pack_36 : decode cX0_pack 36 = .ok (.iaload, 1) := by decide +kernel
theorem dX0_pack_37 : decode cX0_pack 37 = .ok (.iadd, 1) := by decide +kernel
theorem dX0_pack_38 : decode cX0_pack 38 = .ok (.istore_n 2, 1) := by decide +kernel
theorem dX0_pack_39 : decode cX0_pack 39 = .ok (.iinc 3 1, 3) := by decide +kernel
theorem dX0_pack_42 : decode cX0_pack 42 = .ok (.goto (-38), 3) := by decide +kernel
theorem dX0_pack_45 : decode cX0_pack 45 = .ok (.iload_n 2, 1) := by decide +kernel
theorem dX0_pack_46 : decode cX0_pack 46 = .ok (.ireturn, 1) := by decide +kernel
theorem dX0_allowHead_0 : decode cX0_allowHead 0 = .ok (.aload_n 0, 1) := by decide +kernel
theorem dX0_allowHead_1 : decode cX0_allowHead 1 = .ok (.getfield 11, 3) := by decide +kernel
theorem dX0_allowHead_4 : decode cX0_allowHead 4 = .ok (.iload_n 2, 1) := by decide +kernel
theorem dX0_allowHead_5 : decode cX0_allowHead 5 = .ok (.iconst 1, 1) := by decide +kernel
theorem dX0_allowHead_6 : decode cX0_allowHead 6 = .ok (.isub, 1) := by decide +kernel
theorem dX0_allowHead_7 : decode cX0_allowHead 7 = .ok (.iaload, 1) := by decide +kernel
theorem dX0_allowHead_8 : decode cX0_allowHead 8 = .ok (.ifCond .ne 5, 3) := by decide +kernel
theorem dX0_allowHead_11 : decode cX0_allowHead 11 = .ok (.iconst 0, 1) := by decide +kernel
theorem dX0_allowHead_12 : decode cX0_allowHead 12 = .ok (.ireturn, 1) := by decide +kernel
theorem dX0_allowHead_13 : decode cX0_allowHead 13 = .ok (.aload_n 0, 1) := by decide +kernel
theorem dX0_allowHead_14 : decode cX0_allowHead 14 = .ok (.getfield 15, 3) := by decide +kernel
theorem dX0_allowHead_17 : decode cX0_allowHead 17 = .ok (.getfield 19, 3) := by decide +kernel
theorem dX0_allowHead_20 : decode cX0_allowHead 20 = .ok (.iload_n 1, 1) := by decide +kernel
theorem dX0_allowHead_21 : decode cX0_allowHead 21 = .ok (.iaload, 1) := by decide +kernel
theorem dX0_allowHead_22 : decode cX0_allowHead 22 = .ok (.istore_n 3, 1) := by decide +kernel
theorem dX0_allowHead_23 : decode cX0_allowHead 23 = .ok (.iload_n 3, 1) := by decide +kernel
theorem dX0_allowHead_24 : decode cX0_allowHead 24 = .ok (.ifCond .ne 5, 3) := by decide +kernel
theorem dX0_allowHead_27 : decode cX0_allowHead 27 = .ok (.iconst 1, 1) := by decide +kernel
theorem dX0_allowHead_28 : decode cX0_allowHead 28 = .ok (.ireturn, 1) := by decide +kernel
theorem dX0_allowHead_29 : decode cX0_allowHead 29 = .ok (.iload_n 3, 1) := by decide +kernel
theorem dX0_allowHead_30 : decode cX0_allowHead 30 = .ok (.iload_n 2, 1) := by decide +kernel
theorem dX0_allowHead_31 : decode cX0_allowHead 31 = .ok (.if_icmp .eq 5, 3) := by decide +kernel
theorem dX0_allowHead_34 : decode cX0_allowHead 34 = .ok (.iconst 0, 1) := by decide +kernel
theorem dX0_allowHead_35 : decode cX0_allowHead 35 = .ok (.ireturn, 1) := by decide +kernel
theorem dX0_allowHead_36 : decode cX0_allowHead 36 = .ok (.iconst 1, 1) := by decide +kernel
theorem dX0_allowHead_37 : decode cX0_allowHead 37 = .ok (.istore 4, 2) := by decide +kernel
theorem dX0_allowHead_39 : decode cX0_allowHead 39 = .ok (.iload 4, 2) := by decide +kernel
theorem dX0_allowHead_41 : decode cX0_allowHead 41 = .ok (.iload_n 2, 1) := by decide +kernel
theorem dX0_allowHead_42 : decode cX0_allowHead 42 = .ok (.if_icmp .ge 31, 3) := by decide +kernel
theorem dX0_allowHead_45 : decode cX0_allowHead 45 = .ok (.aload_n 0, 1) := by decide +kernel
theorem dX0_allowHead_46 : decode cX0_allowHead 46 = .ok (.getfield 15, 3) := by decide +kernel
theorem dX0_allowHead_49 : decode cX0_allowHead 49 = .ok (.iload_n 1, 1) := by decide +kernel
theorem dX0_allowHead_50 : decode cX0_allowHead 50 = .ok (.iload 4, 2) := by decide +kernel
theorem dX0_allowHead_52 : decode cX0_allowHead 52 = .ok (.invokevirtual 24, 3) := by decide +kernel
theorem dX0_allowHead_55 : decode cX0_allowHead 55 = .ok (.aload_n 0, 1) := by decide +kernel
theorem dX0_allowHead_56 : decode cX0_allowHead 56 = .ok (.getfield 11, 3) := by decide +kernel
theorem dX0_allowHead_59 : decode cX0_allowHead 59 = .ok (.iload 4, 2) := by decide +kernel
theorem dX0_allowHead_61 : decode cX0_allowHead 61 = .ok (.iaload, 1) := by decide +kernel
theorem dX0_allowHead_62 : decode cX0_allowHead 62 = .ok (.if_icmp .eq 5, 3) := by decide +kernel
theorem dX0_allowHead_65 : decode cX0_allowHead 65 = .ok (.iconst 0, 1) := by decide +kernel
theorem dX0_allowHead_66 : decode cX0_allowHead 66 = .ok (.ireturn, 1) := by decide +kernel
theorem dX0_allowHead_67 : decode cX0_allowHead 67 = .ok (.iinc 4 1, 3) := by decide +kernel
theorem dX0_allowHead_70 : decode cX0_allowHead 70 = .ok (.goto (-31), 3) := by decide +kernel
theorem dX0_allowHead_73 : decode cX0_allowHead 73 = .ok (.aload_n 0, 1) := by decide +kernel
theorem dX0_allowHead_74 : decode cX0_allowHead 74 = .ok (.getfield 15, 3) := by decide +kernel
theorem dX0_allowHead_77 : decode cX0_allowHead 77 = .ok (.iload_n 1, 1) := by decide +kernel
theorem dX0_allowHead_78 : decode cX0_allowHead 78 = .ok (.iload_n 2, 1) := by decide +kernel
theorem dX0_allowHead_79 : decode cX0_allowHead 79 = .ok (.invokevirtual 24, 3) := by decide +kernel
theorem dX0_allowHead_82 : decode cX0_allowHead 82 = .ok (.aload_n 0, 1) := by decide +kernel
theorem dX0_allowHead_83 : decode cX0_allowHead 83 = .ok (.getfield 11, 3) := by decide +kernel
theorem dX0_allowHead_86 : decode cX0_allowHead 86 = .ok (.iload_n 2, 1) := by decide +kernel
theorem dX0_allowHead_87 : decode cX0_allowHead 87 = .ok (.iaload, 1) := by decide +kernel
theorem dX0_allowHead_88 : decode cX0_allowHead 88 = .ok (.if_icmp .le 7, 3) := by decide +kernel
theorem dX0_allowHead_91 : decode cX0_allowHead 91 = .ok (.iconst 1, 1) := by decide +kernel
theorem dX0_allowHead_92 : decode cX0_allowHead 92 = .ok (.goto 4, 3) := by decide +kernel
theorem dX0_allowHead_95 : decode cX0_allowHead 95 = .ok (.iconst 0, 1) := by decide +kernel
theorem dX0_allowHead_96 : decode cX0_allowHead 96 = .ok (.ireturn, 1) := by decide +kernel
theorem dX0_passHead_0 : decode cX0_passHead 0 = .ok (.aload_n 0, 1) := by decide +kernel
theorem dX0_passHead_1 : decode cX0_passHead 1 = .ok (.getfield 11, 3) := by decide +kernel
theorem dX0_passHead_4 : decode cX0_passHead 4 = .ok (.iload_n 2, 1) := by decide +kernel
theorem dX0_passHead_5 : decode cX0_passHead 5 = .ok (.aload_n 0, 1) := by decide +kernel
theorem dX0_passHead_6 : decode cX0_passHead 6 = .ok (.getfield 15, 3) := by decide +kernel
theorem dX0_passHead_9 : decode cX0_passHead 9 = .ok (.getfield 19, 3) := by decide +kernel
theorem dX0_passHead_12 : decode cX0_passHead 12 = .ok (.iload_n 1, 1) := by decide +kernel
theorem dX0_passHead_13 : decode cX0_passHead 13 = .ok (.iaload, 1) := by decide +kernel
theorem dX0_passHead_14 : decode cX0_passHead 14 = .ok (.ifCond .ne 14, 3) := by decide +kernel
theorem dX0_passHead_17 : decode cX0_passHead 17 = .ok (.aload_n 0, 1) := by decide +kernel
theorem dX0_passHead_18 : decode cX0_passHead 18 = .ok (.getfield 11, 3) := by decide +kernel
theorem dX0_passHead_21 : decode cX0_passHead 21 = .ok (.iload_n 2, 1) := by decide +kernel
theorem dX0_passHead_22 : decode cX0_passHead 22 = .ok (.iaload, 1) := by decide +kernel
theorem dX0_passHead_23 : decode cX0_passHead 23 = .ok (.iconst 1, 1) := by decide +kernel
theorem dX0_passHead_24 : decode cX0_passHead 24 = .ok (.iadd, 1) := by decide +kernel
theorem dX0_passHead_25 : decode cX0_passHead 25 = .ok (.goto 12, 3) := by decide +kernel
theorem dX0_passHead_28 : decode cX0_passHead 28 = .ok (.aload_n 0, 1) := by decide +kernel
theorem dX0_passHead_29 : decode cX0_passHead 29 = .ok (.getfield 15, 3) := by decide +kernel
theorem dX0_passHead_32 : decode cX0_passHead 32 = .ok (.iload_n 1, 1) := by decide +kernel
theorem dX0_passHead_33 : decode cX0_passHead 33 = .ok (.iload_n 2, 1) := by decide +kernel
theorem dX0_passHead_34 : decode cX0_passHead 34 = .ok (.invokevirtual 24, 3) := by decide +kernel
theorem dX0_passHead_37 : decode cX0_passHead 37 = .ok (.iastore, 1) := by decide +kernel
theorem dX0_passHead_38 : decode cX0_passHead 38 = .ok (.iload_n 2, 1) := by decide +kernel
theorem dX0_passHead_39 : decode cX0_passHead 39 = .ok (.iconst 1, 1) := by decide +kernel
theorem dX0_passHead_40 : decode cX0_passHead 40 = .ok (.iadd, 1) := by decide +kernel
theorem dX0_passHead_41 : decode cX0_passHead 41 = .ok (.istore_n 3, 1) := by decide +kernel
theorem dX0_passHead_42 : decode cX0_passHead 42 = .ok (.iload_n 3, 1) := by decide +kernel
theorem dX0_passHead_43 : decode cX0_passHead 43 = .ok (.iconst 3, 1) := by decide +kernel
theorem dX0_passHead_44 : decode cX0_passHead 44 = .ok (.if_icmp .gt 16, 3) := by decide +kernel
theorem dX0_passHead_47 : decode cX0_passHead 47 = .ok (.aload_n 0, 1) := by decide +kernel
theorem dX0_passHead_48 : decode cX0_passHead 48 = .ok (.getfield 11, 3) := by decide +kernel
theorem dX0_passHead_51 : decode cX0_passHead 51 = .ok (.iload_n 3, 1) := by decide +kernel
theorem dX0_passHead_52 : decode cX0_passHead 52 = .ok (.iconst 0, 1) := by decide +kernel
theorem dX0_passHead_53 : decode cX0_passHead 53 = .ok (.iastore, 1) := by decide +kernel
theorem dX0_passHead_54 : decode cX0_passHead 54 = .ok (.iinc 3 1, 3) := by decide +kernel
theorem dX0_passHead_57 : decode cX0_passHead 57 = .ok (.goto (-15), 3) := by decide +kernel
theorem dX0_passHead_60 : decode cX0_passHead 60 = .ok (.return_, 1) := by decide +kernel
theorem dX1_init_0 : decode cX1_init 0 = .ok (.aload_n 0, 1) := by decide +kernel
theorem dX1_init_1 : decode cX1_init 1 = .ok (.invokespecial 3, 3) := by decide +kernel
theorem dX1_init_4 : decode cX1_init 4 = .ok (.aload_n 0, 1) := by decide +kernel
theorem dX1_init_5 : decode cX1_init 5 = .ok (.bipush 20, 2) := by decide +kernel
theorem dX1_init_7 : decode cX1_init 7 = .ok (.newarray .int, 2) := by decide +kernel
theorem dX1_init_9 : decode cX1_init 9 = .ok (.putfield 9, 3) := by decide +kernel
theorem dX1_init_12 : decode cX1_init 12 = .ok (.aload_n 0, 1) := by decide +kernel
theorem dX1_init_13 : decode cX1_init 13 = .ok (.bipush 20, 2) := by decide +kernel
theorem dX1_init_15 : decode cX1_init 15 = .ok (.newarray .int, 2) := by decide +kernel
theorem dX1_init_17 : decode cX1_init 17 = .ok (.putfield 15, 3) := by decide +kernel
theorem dX1_init_20 : decode cX1_init 20 = .ok (.aload_n 0, 1) := by decide +kernel
theorem dX1_init_21 : decode cX1_init 21 = .ok (.bipush 20, 2) := by decide +kernel
theorem dX1_init_23 : decode cX1_init 23 = .ok (.newarray .int, 2) := by decide +kernel
theorem dX1_init_25 : decode cX1_init 25 = .ok (.putfield 18, 3) := by decide +kernel
theorem dX1_init_28 : decode cX1_init 28 = .ok (.aload_n 0, 1) := by decide +kernel
theorem dX1_init_29 : decode cX1_init 29 = .ok (.bipush 20, 2) := by decide +kernel
theorem dX1_init_31 : decode cX1_init 31 = .ok (.newarray .boolean, 2) := by decide +kernel
theorem dX1_init_33 : decode cX1_init 33 = .ok (.putfield 21, 3) := by decide +kernel
theorem dX1_init_36 : decode cX1_init 36 = .ok (.aload_n 0, 1) := by decide +kernel
theorem dX1_init_37 : decode cX1_init 37 = .ok (.bipush 20, 2) := by decide +kernel
theorem dX1_init_39 : decode cX1_init 39 = .ok (.newarray .int, 2) := by decide +kernel
theorem dX1_init_41 : decode cX1_init 41 = .ok (.putfield 25, 3) := by decide +kernel
theorem dX1_init_44 : decode cX1_init 44 = .ok (.aload_n 0, 1) := by decide +kernel
theorem dX1_init_45 : decode cX1_init 45 = .ok (.bipush 20, 2) := by decide +kernel
theorem dX1_init_47 : decode cX1_init 47 = .ok (.newarray .int, 2) := by decide +kernel
theorem dX1_init_49 : decode cX1_init 49 = .ok (.putfield 28, 3) := by decide +kernel
theorem dX1_init_52 : decode cX1_init 52 = .ok (.aload_n 0, 1) := by decide +kernel
theorem dX1_init_53 : decode cX1_init 53 = .ok (.bipush 20, 2) := by decide +kernel
theorem dX1_init_55 : decode cX1_init 55 = .ok (.newarray .int, 2) := by decide +kernel
theorem dX1_init_57 : decode cX1_init 57 = .ok (.putfield 31, 3) := by decide +kernel
theorem dX1_init_60 : decode cX1_init 60 = .ok (.aload_n 0, 1) := by decide +kernel
theorem dX1_init_61 : decode cX1_init 61 = .ok (.bipush 60, 2) := by decide +kernel
theorem dX1_init_63 : decode cX1_init 63 = .ok (.newarray .int, 2) := by decide +kernel
theorem dX1_init_65 : decode cX1_init 65 = .ok (.putfield 34, 3) := by decide +kernel
theorem dX1_init_68 : decode cX1_init 68 = .ok (.aload_n 0, 1) := by decide +kernel
theorem dX1_init_69 : decode cX1_init 69 = .ok (.iconst 0, 1) := by decide +kernel
theorem dX1_init_70 : decode cX1_init 70 = .ok (.putfield 37, 3) := by decide +kernel
theorem dX1_init_73 : decode cX1_init 73 = .ok (.return_, 1) := by decide +kernel
theorem dX1_has_0 : decode cX1_has 0 = .ok (.iload_n 1, 1) := by decide +kernel
theorem dX1_has_1 : decode cX1_has 1 = .ok (.iconst 0, 1) := by decide +kernel
theorem dX1_has_2 : decode cX1_has 2 = .ok (.aload_n 0, 1) := by decide +kernel
theorem dX1_has_3 : decode cX1_has 3 = .ok (.getfield 37, 3) := by decide +kernel
theorem dX1_has_6 : decode cX1_has 6 = .ok (.iconst 1, 1) := by decide +kernel
theorem dX1_has_7 : decode cX1_has 7 = .ok (.isub, 1) := by decide +kernel
theorem dX1_has_8 : decode cX1_has 8 = .ok (.invokestatic 41, 3) := by decide +kernel
theorem dX1_has_11 : decode cX1_has 11 = .ok (.ireturn, 1) := by decide +kernel
theorem dX1_canFollow_0 : decode cX1_canFollow 0 = .ok (.aload_n 0, 1) := by decide +kernel
theorem dX1_canFollow_1 : decode cX1_canFollow 1 = .ok (.getfield 37, 3) := by decide +kernel
theorem dX1_canFollow_4 : decode cX1_canFollow 4 = .ok (.bipush 20, 2) := by decide +kernel
theorem dX1_canFollow_6 : decode cX1_canFollow 6 = .ok (.if_icmp .lt 5, 3) := by decide +kernel
theorem dX1_canFollow_9 : decode cX1_canFollow 9 = .ok (.iconst 0, 1) := by decide +kernel
theorem dX1_canFollow_10 : decode cX1_canFollow 10 = .ok (.ireturn, 1) := by decide +kernel
theorem dX1_canFollow_11 : decode cX1_canFollow 11 = .ok (.aload_n 0, 1) := by decide +kernel
theorem dX1_canFollow_12 : decode cX1_canFollow 12 = .ok (.getfield 37, 3) := by decide +kernel
theorem dX1_canFollow_15 : decode cX1_canFollow 15 = .ok (.ifCond .eq 18, 3) := by decide +kernel
theorem dX1_canFollow_18 : decode cX1_canFollow 18 = .ok (.iload_n 1, 1) := by decide +kernel
theorem dX1_canFollow_19 : decode cX1_canFollow 19 = .ok (.aload_n 0, 1) := by decide +kernel
theorem dX1_canFollow_20 : decode cX1_canFollow 20 = .ok (.getfield 9, 3) := by decide +kernel
theorem dX1_canFollow_23 : decode cX1_canFollow 23 = .ok (.aload_n 0, 1) := by decide +kernel
theorem dX1_canFollow_24 : decode cX1_canFollow 24 = .ok (.getfield 37, 3) := by decide +kernel
theorem dX1_canFollow_27 : decode cX1_canFollow 27 = .ok (.iconst 1, 1) := by decide +kernel
theorem dX1_canFollow_28 : decode cX1_canFollow 28 = .ok (.isub, 1) := by decide +kernel
theorem dX1_canFollow_29 : decode cX1_canFollow 29 = .ok (.iaload, 1) := by decide +kernel
theorem dX1_canFollow_30 : decode cX1_canFollow 30 = .ok (.if_icmp .lt 7, 3) := by decide +kernel
theorem dX1_canFollow_33 : decode cX1_canFollow 33 = .ok (.iconst 1, 1) := by decide +kernel
theorem dX1_canFollow_34 : decode cX1_canFollow 34 = .ok (.goto 4, 3) := by decide +kernel
theorem dX1_canFollow_37 : decode cX1_canFollow 37 = .ok (.iconst 0, 1) := by decide +kernel
theorem dX1_canFollow_38 : decode cX1_canFollow 38 = .ok (.ireturn, 1) := by decide +kernel
theorem dX1_putSizeAndNumbers_0 : decode cX1_putSizeAndNumbers 0 = .ok (.aload_n 0, 1) := by decide +kernel
theorem dX1_putSizeAndNumbers_1 : decode cX1_putSizeAndNumbers 1 = .ok (.getfield 15, 3) := by decide +kernel
theorem dX1_putSizeAndNumbers_4 : decode cX1_putSizeAndNumbers 4 = .ok (.iload_n 1, 1) := by decide +kernel
theorem dX1_putSizeAndNumbers_5 : decode cX1_putSizeAndNumbers 5 = .ok (.iload_n 2, 1) := by decide +kernel
theorem dX1_putSizeAndNumbers_6 : decode cX1_putSizeAndNumbers 6 = .ok (.iastore, 1) := by decide +kernel
theorem dX1_putSizeAndNumbers_7 : decode cX1_putSizeAndNumbers 7 = .ok (.aload_n 0, 1) := by decide +kernel
theorem dX1_putSizeAndNumbers_8 : decode cX1_putSizeAndNumbers 8 = .ok (.getfield 31, 3) := by decide +kernel
theorem dX1_putSizeAndNumbers_11 : decode cX1_putSizeAndNumbers 11 = .ok (.iload_n 1, 1) := by decide +kernel
theorem dX1_putSizeAndNumbers_12 : decode cX1_putSizeAndNumbers 12 = .ok (.iload_n 3, 1) := by decide +kernel
theorem dX1_putSizeAndNumbers_13 : decode cX1_putSizeAndNumbers 13 = .ok (.invokestatic 45, 3) := by decide +kernel
theorem dX1_putSizeAndNumbers_16 : decode cX1_putSizeAndNumbers 16 = .ok (.iastore, 1) := by decide +kernel
theorem dX1_putSizeAndNumbers_17 : decode cX1_putSizeAndNumbers 17 = .ok (.iload_n 3, 1) := by decide +kernel
theorem dX1_putSizeAndNumbers_18 : decode cX1_putSizeAndNumbers 18 = .ok (.istore 4, 2) := by decide +kernel
theorem dX1_putSizeAndNumbers_20 : decode cX1_putSizeAndNumbers 20 = .ok (.iconst 3, 1) := by decide +kernel
theorem dX1_putSizeAndNumbers_21 : decode cX1_putSizeAndNumbers 21 = .ok (.istore 5, 2) := by decide +kernel
theorem dX1_putSizeAndNumbers_23 : decode cX1_putSizeAndNumbers 23 = .ok (.iload 5, 2) := by decide +kernel
theorem dX1_putSizeAndNumbers_25 : decode cX1_putSizeAndNumbers 25 = .ok (.iconst 1, 1) := by decide +kernel
theorem dX1_putSizeAndNumbers_26 : decode cX1_putSizeAndNumbers 26 = .ok (.if_icmp .lt 71, 3) := by decide +kernel
theorem dX1_putSizeAndNumbers_29 : decode cX1_putSizeAndNumbers 29 = .ok (.iload 5, 2) := by decide +kernel
theorem dX1_putSizeAndNumbers_31 : decode cX1_putSizeAndNumbers 31 = .ok (.aload_n 0, 1) := by decide +kernel
theorem dX1_putSizeAndNumbers_32 : decode cX1_putSizeAndNumbers 32 = .ok (.getfield 31, 3) := by decide +kernel
theorem dX1_putSizeAndNumbers_35 : decode cX1_putSizeAndNumbers 35 = .ok (.iload_n 1, 1) := by decide +kernel
theorem dX1_putSizeAndNumbers_36 : decode cX1_putSizeAndNumbers 36 = .ok (.iaload, 1) := by decide +kernel
theorem dX1_putSizeAndNumbers_37 : decode cX1_putSizeAndNumbers 37 = .ok (.if_icmp .gt 7, 3) := by decide +kernel
theorem dX1_putSizeAndNumbers_40 : decode cX1_putSizeAndNumbers 40 = .ok (.iconst 1, 1) := by decide +kernel
theorem dX1_putSizeAndNumbers_41 : decode cX1_putSizeAndNumbers 41 = .ok (.goto 4, 3) := by decide +kernel
theorem dX1_putSizeAndNumbers_44 : decode cX1_putSizeAndNumbers 44 = .ok (.iconst 0, 1) := by decide +kernel
theorem dX1_putSizeAndNumbers_45 : decode cX1_putSizeAndNumbers 45 = .ok (.istore 6, 2) := by decide +kernel
theorem dX1_putSizeAndNumbers_47 : decode cX1_putSizeAndNumbers 47 = .ok (.aload_n 0, 1) := by decide +kernel
theorem dX1_putSizeAndNumbers_48 : decode cX1_putSizeAndNumbers 48 = .ok (.getfield 34, 3) := by decide +kernel
theorem dX1_putSizeAndNumbers_51 : decode cX1_putSizeAndNumbers 51 = .ok (.iload_n 1, 1) := by decide +kernel
theorem dX1_putSizeAndNumbers_52 : decode cX1_putSizeAndNumbers 52 = .ok (.iconst 3, 1) := by decide +kernel
theorem dX1_putSizeAndNumbers_53 : decode cX1_putSizeAndNumbers 53 = .ok (.imul, 1) := by decide +kernel
theorem dX1_putSizeAndNumbers_54 : decode cX1_putSizeAndNumbers 54 = .ok (.iload 5, 2) := by decide +kernel
theorem dX1_putSizeAndNumbers_56 : decode cX1_putSizeAndNumbers 56 = .ok (.iadd, 1) := by decide +kernel
theorem dX1_putSizeAndNumbers_57 : decode cX1_putSizeAndNumbers 57 = .ok (.iconst 1, 1) := by decide +kernel
theorem dX1_putSizeAndNumbers_58 : decode cX1_putSizeAndNumbers 58 = .ok (.isub, 1) := by decide +kernel
theorem dX1_putSizeAndNumbers_59 : decode cX1_putSizeAndNumbers 59 = .ok (.iload 6, 2) := by decide +kernel
theorem dX1_putSizeAndNumbers_61 : decode cX1_putSizeAndNumbers 61 = .ok (.ifCond .eq 11, 3) := by decide +kernel
theorem dX1_putSizeAndNumbers_64 : decode cX1_putSizeAndNumbers 64 = .ok (.iload 4, 2) := by decide +kernel
theorem dX1_putSizeAndNumbers_66 : decode cX1_putSizeAndNumbers 66 = .ok (.bipush 100, 2) := by decide +kernel
theorem dX1_putSizeAndNumbers_68 : decode cX1_putSizeAndNumbers 68 = .ok (.irem, 1) := by decide +kernel
theorem dX1_putSizeAndNumbers_69 : decode cX1_putSizeAndNumbers 69 = .ok (.goto 4, 3) := by decide +kernel
theorem dX1_putSizeAndNumbers_72 : decode cX1_putSizeAndNumbers 72 = .ok (.iconst 0, 1) := by decide +kernel
theorem dX1_putSizeAndNumbers_73 : decode cX1_putSizeAndNumbers 73 = .ok (.iastore, 1) := by decide +kernel
theorem dX1_putSizeAndNumbers_74 : decode cX1_putSizeAndNumbers 74 = .ok (.iload 6, 2) := by decide +kernel
theorem dX1_putSizeAndNumbers_76 : decode cX1_putSizeAndNumbers 76 = .ok (.ifCond .eq 11, 3) := by decide +kernel
theorem dX1_putSizeAndNumbers_79 : decode cX1_putSizeAndNumbers 79 = .ok (.iload 4, 2) := by decide +kernel
theorem dX1_putSizeAndNumbers_81 : decode cX1_putSizeAndNumbers 81 = .ok (.bipush 100, 2) := by decide +kernel
theorem dX1_putSizeAndNumbers_83 : decode cX1_putSizeAndNumbers 83 = .ok (.idiv, 1) := by decide +kernel
theorem dX1_putSizeAndNumbers_84 : decode cX1_putSizeAndNumbers 84 = .ok (.goto 5, 3) := by decide +kernel
theorem dX1_putSizeAndNumbers_87 : decode cX1_putSizeAndNumbers 87 = .ok (.iload 4, 2) := by decide +kernel
theorem dX1_putSizeAndNumbers_89 : decode cX1_putSizeAndNumbers 89 = .ok (.istore 4, 2) := by decide +kernel
theorem dX1_putSizeAndNumbers_91 : decode cX1_putSizeAndNumbers 91 = .ok (.iinc 5 (-1), 3) := by decide +kernel
theorem dX1_putSizeAndNumbers_94 : decode cX1_putSizeAndNumbers 94 = .ok (.goto (-71), 3) := by decide +kernel
theorem dX1_putSizeAndNumbers_97 : decode cX1_putSizeAndNumbers 97 = .ok (.return_, 1) := by decide +kernel
theorem dX1_partAt_0 : decode cX1_partAt 0 = .ok (.aload_n 0, 1) := by decide +kernel
theorem dX1_partAt_1 : decode cX1_partAt 1 = .ok (.getfield 34, 3) := by decide +kernel
theorem dX1_partAt_4 : decode cX1_partAt 4 = .ok (.iload_n 1, 1) := by decide +kernel
theorem dX1_partAt_5 : decode cX1_partAt 5 = .ok (.iconst 3, 1) := by decide +kernel
theorem dX1_partAt_6 : decode cX1_partAt 6 = .ok (.imul, 1) := by decide +kernel
theorem dX1_partAt_7 : decode cX1_partAt 7 = .ok (.iload_n 2, 1) := by decide +kernel
theorem dX1_partAt_8 : decode cX1_partAt 8 = .ok (.iadd, 1) := by decide +kernel
theorem dX1_partAt_9 : decode cX1_partAt 9 = .ok (.iconst 1, 1) := by decide +kernel
theorem dX1_partAt_10 : decode cX1_partAt 10 = .ok (.isub, 1) := by decide +kernel
theorem dX1_partAt_11 : decode cX1_partAt 11 = .ok (.iaload, 1) := by decide +kernel
theorem dX1_partAt_12 : decode cX1_partAt 12 = .ok (.ireturn, 1) := by decide +kernel
theorem dX1_look_0 : decode cX1_look 0 = .ok (.aload_n 0, 1) := by decide +kernel
theorem dX1_look_1 : decode cX1_look 1 = .ok (.getfield 15, 3) := by decide +kernel
theorem dX1_look_4 : decode cX1_look 4 = .ok (.iload_n 1, 1) := by decide +kernel
theorem dX1_look_5 : decode cX1_look 5 = .ok (.iaload, 1) := by decide +kernel
theorem dX1_look_6 : decode cX1_look 6 = .ok (.aload_n 0, 1) := by decide +kernel
theorem dX1_look_7 : decode cX1_look 7 = .ok (.getfield 18, 3) := by decide +kernel
theorem dX1_look_10 : decode cX1_look 10 = .ok (.iload_n 1, 1) := by decide +kernel
theorem dX1_look_11 : decode cX1_look 11 = .ok (.iaload, 1) := by decide +kernel
theorem dX1_look_12 : decode cX1_look 12 = .ok (.iadd, 1) := by decide +kernel
theorem dX1_look_13 : decode cX1_look 13 = .ok (.aload_n 0, 1) := by decide +kernel
theorem dX1_look_14 : decode cX1_look 14 = .ok (.getfield 21, 3) := by decide +kernel
theorem dX1_look_17 : decode cX1_look 17 = .ok (.iload_n 1, 1) := by decide +kernel
theorem dX1_look_18 : decode cX1_look 18 = .ok (.baload, 1) := by decide +kernel
theorem dX1_look_19 : decode cX1_look 19 = .ok (.ifCond .eq 7, 3) := by decide +kernel
theorem dX1_look_22 : decode cX1_look 22 = .ok (.iconst 3, 1) := by decide +kernel
theorem dX1_look_23 : decode cX1_look 23 = .ok (.goto 4, 3) := by decide +kernel
theorem dX1_look_26 : decode cX1_look 26 = .ok (.iconst 0, 1) := by decide +kernel
theorem dX1_look_27 : decode cX1_look 27 = .ok (.iadd, 1) := by decide +kernel
theorem dX1_look_28 : decode cX1_look 28 = .ok (.ireturn, 1) := by decide +kernel
theorem dX1_isRunning_0 : decode cX1_isRunning 0 = .ok (.aload_n 0, 1) := by decide +kernel
theorem dX1_isRunning_1 : decode cX1_isRunning 1 = .ok (.getfield 25, 3) := by decide +kernel
theorem dX1_isRunning_4 : decode cX1_isRunning 4 = .ok (.iload_n 1, 1) := by decide +kernel
theorem dX1_isRunning_5 : decode cX1_isRunning 5 = .ok (.iaload, 1) := by decide +kernel
theorem dX1_isRunning_6 : decode cX1_isRunning 6 = .ok (.ifCond .ne 14, 3) := by decide +kernel
theorem dX1_isRunning_9 : decode cX1_isRunning 9 = .ok (.aload_n 0, 1) := by decide +kernel
theorem dX1_isRunning_10 : decode cX1_isRunning 10 = .ok (.getfield 28, 3) := by decide +kernel
theorem dX1_isRunning_13 : decode cX1_isRunning 13 = .ok (.iload_n 1, 1) := by decide +kernel
theorem dX1_isRunning_14 : decode cX1_isRunning 14 = .ok (.iaload, 1) := by decide +kernel
theorem dX1_isRunning_15 : decode cX1_isRunning 15 = .ok (.ifCond .ne 5, 3) := by decide +kernel
theorem dX1_isRunning_18 : decode cX1_isRunning 18 = .ok (.iconst 0, 1) := by decide +kernel
theorem dX1_isRunning_19 : decode cX1_isRunning 19 = .ok (.ireturn, 1) := by decide +kernel
theorem dX1_isRunning_20 : decode cX1_isRunning 20 = .ok (.iconst 0, 1) := by decide +kernel
theorem dX1_isRunning_21 : decode cX1_isRunning 21 = .ok (.istore_n 3, 1) := by decide +kernel
theorem dX1_isRunning_22 : decode cX1_isRunning 22 = .ok (.iconst (-1), 1) := by decide +kernel
theorem dX1_isRunning_23 : decode cX1_isRunning 23 = .ok (.istore 4, 2) := by decide +kernel
theorem dX1_isRunning_25 : decode cX1_isRunning 25 = .ok (.iconst 0, 1) := by decide +kernel
theorem dX1_isRunning_26 : decode cX1_isRunning 26 = .ok (.istore 5, 2) := by decide +kernel
theorem dX1_isRunning_28 : decode cX1_isRunning 28 = .ok (.iload 5, 2) := by decide +kernel
theorem dX1_isRunning_30 : decode cX1_isRunning 30 = .ok (.aload_n 0, 1) := by decide +kernel
theorem dX1_isRunning_31 : decode cX1_isRunning 31 = .ok (.getfield 37, 3) := by decide +kernel
theorem dX1_isRunning_34 : decode cX1_isRunning 34 = .ok (.if_icmp .ge 43, 3) := by decide +kernel
theorem dX1_isRunning_37 : decode cX1_isRunning 37 = .ok (.aload_n 0, 1) := by decide +kernel
theorem dX1_isRunning_38 : decode cX1_isRunning 38 = .ok (.iload_n 1, 1) := by decide +kernel
theorem dX1_isRunning_39 : decode cX1_isRunning 39 = .ok (.iload 5, 2) := by decide +kernel
theorem dX1_isRunning_41 : decode cX1_isRunning 41 = .ok (.invokevirtual 49, 3) := by decide +kernel
theorem dX1_isRunning_44 : decode cX1_isRunning 44 = .ok (.ifCond .eq 27, 3) := by decide +kernel
theorem dX1_isRunning_47 : decode cX1_isRunning 47 = .ok (.aload_n 0, 1) := by decide +kernel
theorem dX1_isRunning_48 : decode cX1_isRunning 48 = .ok (.getfield 9, 3) := by decide +kernel
theorem dX1_isRunning_51 : decode cX1_isRunning 51 = .ok (.iload 5, 2) := by decide +kernel
theorem dX1_isRunning_53 : decode cX1_isRunning 53 = .ok (.iaload, 1) := by decide +kernel
theorem dX1_isRunning_54 : decode cX1_isRunning 54 = .ok (.iload 4, 2) := by decide +kernel
theorem dX1_isRunning_56 : decode cX1_isRunning 56 = .ok (.if_icmp .eq 15, 3) := by decide +kernel
theorem dX1_isRunning_59 : decode cX1_isRunning 59 = .ok (.aload_n 0, 1) := by decide +kernel
theorem dX1_isRunning_60 : decode cX1_isRunning 60 = .ok (.getfield 9, 3) := by decide +kernel
theorem dX1_isRunning_63 : decode cX1_isRunning 63 = .ok (.iload 5, 2) := by decide +kernel
theorem dX1_isRunning_65 : decode cX1_isRunning 65 = .ok (.iaload, 1) := by decide +kernel
theorem dX1_isRunning_66 : decode cX1_isRunning 66 = .ok (.istore 4, 2) := by decide +kernel
theorem dX1_isRunning_68 : decode cX1_isRunning 68 = .ok (.iinc 3 1, 3) := by decide +kernel
theorem dX1_isRunning_71 : decode cX1_isRunning 71 = .ok (.iinc 5 1, 3) := by decide +kernel
theorem dX1_isRunning_74 : decode cX1_isRunning 74 = .ok (.goto (-46), 3) := by decide +kernel
theorem dX1_isRunning_77 : decode cX1_isRunning 77 = .ok (.iload_n 3, 1) := by decide +kernel
theorem dX1_isRunning_78 : decode cX1_isRunning 78 = .ok (.iload_n 2, 1) := by decide +kernel
theorem dX1_isRunning_79 : decode cX1_isRunning 79 = .ok (.if_icmp .lt 7, 3) := by decide +kernel
theorem dX1_isRunning_82 : decode cX1_isRunning 82 = .ok (.iconst 1, 1) := by decide +kernel
theorem dX1_isRunning_83 : decode cX1_isRunning 83 = .ok (.goto 4, 3) := by decide +kernel
theorem dX1_isRunning_86 : decode cX1_isRunning 86 = .ok (.iconst 0, 1) := by decide +kernel
theorem dX1_isRunning_87 : decode cX1_isRunning 87 = .ok (.ireturn, 1) := by decide +kernel
theorem dX1_areAlike_0 : decode cX1_areAlike 0 = .ok (.aload_n 0, 1) := by decide +kernel
theorem dX1_areAlike_1 : decode cX1_areAlike 1 = .ok (.getfield 15, 3) := by decide +kernel
theorem dX1_areAlike_4 : decode cX1_areAlike 4 = .ok (.iload_n 1, 1) := by decide +kernel
theorem dX1_areAlike_5 : decode cX1_areAlike 5 = .ok (.iaload, 1) := by decide +kernel
theorem dX1_areAlike_6 : decode cX1_areAlike 6 = .ok (.aload_n 0, 1) := by decide +kernel
theorem dX1_areAlike_7 : decode cX1_areAlike 7 = .ok (.getfield 15, 3) := by decide +kernel
theorem dX1_areAlike_10 : decode cX1_areAlike 10 = .ok (.iload_n 2, 1) := by decide +kernel
theorem dX1_areAlike_11 : decode cX1_areAlike 11 = .ok (.iaload, 1) := by decide +kernel
theorem dX1_areAlike_12 : decode cX1_areAlike 12 = .ok (.if_icmp .ne 37, 3) := by decide +kernel
theorem dX1_areAlike_15 : decode cX1_areAlike 15 = .ok (.aload_n 0, 1) := by decide +kernel
theorem dX1_areAlike_16 : decode cX1_areAlike 16 = .ok (.getfield 25, 3) := by decide +kernel
theorem dX1_areAlike_19 : decode cX1_areAlike 19 = .ok (.iload_n 1, 1) := by decide +kernel
theorem dX1_areAlike_20 : decode cX1_areAlike 20 = .ok (.iaload, 1) := by decide +kernel
theorem dX1_areAlike_21 : decode cX1_areAlike 21 = .ok (.aload_n 0, 1) := by decide +kernel
theorem dX1_areAlike_22 : decode cX1_areAlike 22 = .ok (.getfield 25, 3) := by decide +kernel
theorem dX1_areAlike_25 : decode cX1_areAlike 25 = .ok (.iload_n 2, 1) := by decide +kernel
theorem dX1_areAlike_26 : decode cX1_areAlike 26 = .ok (.iaload, 1) := by decide +kernel
theorem dX1_areAlike_27 : decode cX1_areAlike 27 = .ok (.if_icmp .ne 22, 3) := by decide +kernel
theorem dX1_areAlike_30 : decode cX1_areAlike 30 = .ok (.aload_n 0, 1) := by decide +kernel
theorem dX1_areAlike_31 : decode cX1_areAlike 31 = .ok (.getfield 28, 3) := by decide +kernel
theorem dX1_areAlike_34 : decode cX1_areAlike 34 = .ok (.iload_n 1, 1) := by decide +kernel
theorem dX1_areAlike_35 : decode cX1_areAlike 35 = .ok (.iaload, 1) := by decide +kernel
theorem dX1_areAlike_36 : decode cX1_areAlike 36 = .ok (.aload_n 0, 1) := by decide +kernel
theorem dX1_areAlike_37 : decode cX1_areAlike 37 = .ok (.getfield 28, 3) := by decide +kernel
theorem dX1_areAlike_40 : decode cX1_areAlike 40 = .ok (.iload_n 2, 1) := by decide +kernel
theorem dX1_areAlike_41 : decode cX1_areAlike 41 = .ok (.iaload, 1) := by decide +kernel
theorem dX1_areAlike_42 : decode cX1_areAlike 42 = .ok (.if_icmp .ne 7, 3) := by decide +kernel
theorem dX1_areAlike_45 : decode cX1_areAlike 45 = .ok (.iconst 1, 1) := by decide +kernel
theorem dX1_areAlike_46 : decode cX1_areAlike 46 = .ok (.goto 4, 3) := by decide +kernel
theorem dX1_areAlike_49 : decode cX1_areAlike 49 = .ok (.iconst 0, 1) := by decide +kernel
theorem dX1_areAlike_50 : decode cX1_areAlike 50 = .ok (.ireturn, 1) := by decide +kernel
theorem dX2_init_0 : decode cX2_init 0 = .ok (.aload_n 0, 1) := by decide +kernel
theorem dX2_init_1 : decode cX2_init 1 = .ok (.invokespecial 3, 3) := by decide +kernel
theorem dX2_init_4 : decode cX2_init 4 = .ok (.aload_n 0, 1) := by decide +kernel
theorem dX2_init_5 : decode cX2_init 5 = .ok (.bipush 12, 2) := by decide +kernel
theorem dX2_init_7 : decode cX2_init 7 = .ok (.newarray .int, 2) := by decide +kernel
theorem dX2_init_9 : decode cX2_init 9 = .ok (.putfield 9, 3) := by decide +kernel
theorem dX2_init_12 : decode cX2_init 12 = .ok (.aload_n 0, 1) := by decide +kernel
theorem dX2_init_13 : decode cX2_init 13 = .ok (.bipush 12, 2) := by decide +kernel
theorem dX2_init_15 : decode cX2_init 15 = .ok (.newarray .int, 2) := by decide +kernel
theorem dX2_init_17 : decode cX2_init 17 = .ok (.putfield 15, 3) := by decide +kernel
theorem dX2_init_20 : decode cX2_init 20 = .ok (.aload_n 0, 1) := by decide +kernel
theorem dX2_init_21 : decode cX2_init 21 = .ok (.bipush 12, 2) := by decide +kernel
theorem dX2_init_23 : decode cX2_init 23 = .ok (.newarray .int, 2) := by decide +kernel
theorem dX2_init_25 : decode cX2_init 25 = .ok (.putfield 18, 3) := by decide +kernel
theorem dX2_init_28 : decode cX2_init 28 = .ok (.aload_n 0, 1) := by decide +kernel
theorem dX2_init_29 : decode cX2_init 29 = .ok (.bipush 12, 2) := by decide +kernel
theorem dX2_init_31 : decode cX2_init 31 = .ok (.newarray .int, 2) := by decide +kernel
theorem dX2_init_33 : decode cX2_init 33 = .ok (.putfield 21, 3) := by decide +kernel
theorem dX2_init_36 : decode cX2_init 36 = .ok (.aload_n 0, 1) := by decide +kernel
theorem dX2_init_37 : decode cX2_init 37 = .ok (.iconst 0, 1) := by decide +kernel
theorem dX2_init_38 : decode cX2_init 38 = .ok (.putfield 24, 3) := by decide +kernel
theorem dX2_init_41 : decode cX2_init 41 = .ok (.aload_n 0, 1) := by decide +kernel
theorem dX2_init_42 : decode cX2_init 42 = .ok (.bipush 12, 2) := by decide +kernel
theorem dX2_init_44 : decode cX2_init 44 = .ok (.newarray .int, 2) := by decide +kernel
theorem dX2_init_46 : decode cX2_init 46 = .ok (.putfield 28, 3) := by decide +kernel
theorem dX2_init_49 : decode cX2_init 49 = .ok (.aload_n 0, 1) := by decide +kernel
theorem dX2_init_50 : decode cX2_init 50 = .ok (.bipush 20, 2) := by decide +kernel
theorem dX2_init_52 : decode cX2_init 52 = .ok (.newarray .int, 2) := by decide +kernel
theorem dX2_init_54 : decode cX2_init 54 = .ok (.putfield 31, 3) := by decide +kernel
theorem dX2_init_57 : decode cX2_init 57 = .ok (.aload_n 0, 1) := by decide +kernel
theorem dX2_init_58 : decode cX2_init 58 = .ok (.iconst 0, 1) := by decide +kernel
theorem dX2_init_59 : decode cX2_init 59 = .ok (.putfield 34, 3) := by decide +kernel
theorem dX2_init_62 : decode cX2_init 62 = .ok (.aload_n 0, 1) := by decide +kernel
theorem dX2_init_63 : decode cX2_init 63 = .ok (.bipush 20, 2) := by decide +kernel
theorem dX2_init_65 : decode cX2_init 65 = .ok (.newarray .int, 2) := by decide +kernel
theorem dX2_init_67 : decode cX2_init 67 = .ok (.putfield 37, 3) := by decide +kernel
theorem dX2_init_70 : decode cX2_init 70 = .ok (.aload_n 0, 1) := by decide +kernel
theorem dX2_init_71 : decode cX2_init 71 = .ok (.iconst 0, 1) := by decide +kernel
theorem dX2_init_72 : decode cX2_init 72 = .ok (.putfield 40, 3) := by decide +kernel
theorem dX2_init_75 : decode cX2_init 75 = .ok (.aload_n 0, 1) := by decide +kernel
theorem dX2_init_76 : decode cX2_init 76 = .ok (.sipush 273, 3) := by decide +kernel
theorem dX2_init_79 : decode cX2_init 79 = .ok (.newarray .int, 2) := by decide +kernel
theorem dX2_init_81 : decode cX2_init 81 = .ok (.putfield 43, 3) := by decide +kernel
theorem dX2_init_84 : decode cX2_init 84 = .ok (.aload_n 0, 1) := by decide +kernel
theorem dX2_init_85 : decode cX2_init 85 = .ok (.aload_n 1, 1) := by decide +kernel
theorem dX2_init_86 : decode cX2_init 86 = .ok (.putfield 46, 3) := by decide +kernel
theorem dX2_init_89 : decode cX2_init 89 = .ok (.aload_n 0, 1) := by decide +kernel
theorem dX2_init_90 : decode cX2_init 90 = .ok (.aload_n 2, 1) := by decide +kernel
theorem dX2_init_91 : decode cX2_init 91 = .ok (.putfield 50, 3) := by decide +kernel
theorem dX2_init_94 : decode cX2_init 94 = .ok (.aload_n 0, 1) := by decide +kernel
theorem dX2_init_95 : decode cX2_init 95 = .ok (.aload_n 3, 1) := by decide +kernel
theorem dX2_init_96 : decode cX2_init 96 = .ok (.putfield 54, 3) := by decide +kernel
theorem dX2_init_99 : decode cX2_init 99 = .ok (.aload_n 0, 1) := by decide +kernel
theorem dX2_init_100 : decode cX2_init 100 = .ok (.aload 4, 2) := by decide +kernel
theorem dX2_init_102 : decode cX2_init 102 = .ok (.putfield 58, 3) := by decide +kernel
theorem dX2_init_105 : decode cX2_init 105 = .ok (.return_, 1) := by decide +kernel
theorem dX2_hold_0 : decode cX2_hold 0 = .ok (.aload_n 0, 1) := by decide +kernel
theorem dX2_hold_1 : decode cX2_hold 1 = .ok (.invokevirtual 62, 3) := by decide +kernel
theorem dX2_hold_4 : decode cX2_hold 4 = .ok (.aload_n 0, 1) := by decide +kernel
theorem dX2_hold_5 : decode cX2_hold 5 = .ok (.getfield 24, 3) := by decide +kernel
theorem dX2_hold_8 : decode cX2_hold 8 = .ok (.istore_n 1, 1) := by decide +kernel
theorem dX2_hold_9 : decode cX2_hold 9 = .ok (.iload_n 1, 1) := by decide +kernel
theorem dX2_hold_10 : decode cX2_hold 10 = .ok (.ifCond .lt 41, 3) := by decide +kernel
theorem dX2_hold_13 : decode cX2_hold 13 = .ok (.aload_n 0, 1) := by decide +kernel
theorem dX2_hold_14 : decode cX2_hold 14 = .ok (.getfield 40, 3) := by decide +kernel
theorem dX2_hold_17 : decode cX2_hold 17 = .ok (.istore_n 2, 1) := by decide +kernel
theorem dX2_hold_18 : decode cX2_hold 18 = .ok (.iload_n 2, 1) := by decide +kernel
theorem dX2_hold_19 : decode cX2_hold 19 = .ok (.ifCond .lt 26, 3) := by decide +kernel
theorem dX2_hold_22 : decode cX2_hold 22 = .ok (.aload_n 0, 1) := by decide +kernel
theorem dX2_hold_23 : decode cX2_hold 23 = .ok (.getfield 43, 3) := by decide +kernel
theorem dX2_hold_26 : decode cX2_hold 26 = .ok (.iload_n 1, 1) := by decide +kernel
theorem dX2_hold_27 : decode cX2_hold 27 = .ok (.bipush 21, 2) := by decide +kernel
theorem dX2_hold_29 : decode cX2_hold 29 = .ok (.imul, 1) := by decide +kernel
theorem dX2_hold_30 : decode cX2_hold 30 = .ok (.iload_n 2, 1) := by decide +kernel
theorem dX2_hold_31 : decode cX2_hold 31 = .ok (.iadd, 1) := by decide +kernel
theorem dX2_hold_32 : decode cX2_hold 32 = .ok (.aload_n 0, 1) := by decide +kernel
theorem dX2_hold_33 : decode cX2_hold 33 = .ok (.iload_n 1, 1) := by decide +kernel
theorem dX2_hold_34 : decode cX2_hold 34 = .ok (.iload_n 2, 1) := by decide +kernel
theorem dX2_hold_35 : decode cX2_hold 35 = .ok (.invokevirtual 65, 3) := by decide +kernel
theorem dX2_hold_38 : decode cX2_hold 38 = .ok (.iastore, 1) := by decide +kernel
theorem dX2_hold_39 : decode cX2_hold 39 = .ok (.iinc 2 (-1), 3) := by decide +kernel
theorem dX2_hold_42 : decode cX2_hold 42 = .ok (.goto (-24), 3) := by decide +kernel
theorem dX2_hold_45 : decode cX2_hold 45 = .ok (.iinc 1 (-1), 3) := by decide +kernel
theorem dX2_hold_48 : decode cX2_hold 48 = .ok (.goto (-39), 3) := by decide +kernel
theorem dX2_hold_51 : decode cX2_hold 51 = .ok (.aload_n 0, 1) := by decide +kernel
theorem dX2_hold_52 : decode cX2_hold 52 = .ok (.aload_n 0, 1) := by decide +kernel
theorem dX2_hold_53 : decode cX2_hold 53 = .ok (.getfield 43, 3) := by decide +kernel
theorem dX2_hold_56 : decode cX2_hold 56 = .ok (.iconst 0, 1) := by decide +kernel
theorem dX2_hold_57 : decode cX2_hold 57 = .ok (.iaload, 1) := by decide +kernel
theorem dX2_hold_58 : decode cX2_hold 58 = .ok (.putfield 34, 3) := by decide +kernel
theorem dX2_hold_61 : decode cX2_hold 61 = .ok (.aload_n 0, 1) := by decide +kernel
theorem dX2_hold_62 : decode cX2_hold 62 = .ok (.invokevirtual 69, 3) := by decide +kernel
theorem dX2_hold_65 : decode cX2_hold 65 = .ok (.return_, 1) := by decide +kernel
theorem dX2_gatherHeads_0 : decode cX2_gatherHeads 0 = .ok (.aload_n 0, 1) := by decide +kernel
theorem dX2_gatherHeads_1 : decode cX2_gatherHeads 1 = .ok (.iconst 0, 1) := by decide +kernel
theorem dX2_gatherHeads_2 : decode cX2_gatherHeads 2 = .ok (.putfield 40, 3) := by decide +kernel
theorem dX2_gatherHeads_5 : decode cX2_gatherHeads 5 = .ok (.iconst 0, 1) := by decide +kernel
theorem dX2_gatherHeads_6 : decode cX2_gatherHeads 6 = .ok (.istore_n 1, 1) := by decide +kernel
theorem dX2_gatherHeads_7 : decode cX2_gatherHeads 7 = .ok (.iload_n 1, 1) := by decide +kernel
theorem dX2_gatherHeads_8 : decode cX2_gatherHeads 8 = .ok (.aload_n 0, 1) := by decide +kernel
theorem dX2_gatherHeads_9 : decode cX2_gatherHeads 9 = .ok (.getfield 46, 3) := by decide +kernel
theorem dX2_gatherHeads_12 : decode cX2_gatherHeads 12 = .ok (.getfield 72, 3) := by decide +kernel
theorem dX2_gatherHeads_15 : decode cX2_gatherHeads 15 = .ok (.if_icmp .ge 41, 3) := by decide +kernel
theorem dX2_gatherHeads_18 : decode cX2_gatherHeads 18 = .ok (.aload_n 0, 1) := by decide +kernel
theorem dX2_gatherHeads_19 : decode cX2_gatherHeads 19 = .ok (.getfield 54, 3) := by decide +kernel
theorem dX2_gatherHeads_22 : decode cX2_gatherHeads 22 = .ok (.getfield 75, 3) := by decide +kernel
theorem dX2_gatherHeads_25 : decode cX2_gatherHeads 25 = .ok (.iload_n 1, 1) := by decide +kernel
theorem dX2_gatherHeads_26 : decode cX2_gatherHeads 26 = .ok (.iaload, 1) := by decide +kernel
theorem dX2_gatherHeads_27 : decode cX2_gatherHeads 27 = .ok (.ifCond .le 23, 3) := by decide +kernel
theorem dX2_gatherHeads_30 : decode cX2_gatherHeads 30 = .ok (.aload_n 0, 1) := by decide +kernel
theorem dX2_gatherHeads_31 : decode cX2_gatherHeads 31 = .ok (.getfield 37, 3) := by decide +kernel
theorem dX2_gatherHeads_34 : decode cX2_gatherHeads 34 = .ok (.aload_n 0, 1) := by decide +kernel
theorem dX2_gatherHeads_35 : decode cX2_gatherHeads 35 = .ok (.getfield 40, 3) := by decide +kernel
theorem dX2_gatherHeads_38 : decode cX2_gatherHeads 38 = .ok (.iload_n 1, 1) := by decide +kernel
theorem dX2_gatherHeads_39 : decode cX2_gatherHeads 39 = .ok (.iastore, 1) := by decide +kernel
theorem dX2_gatherHeads_40 : decode cX2_gatherHeads 40 = .ok (.aload_n 0, 1) := by decide +kernel
theorem dX2_gatherHeads_41 : decode cX2_gatherHeads 41 = .ok (.dup, 1) := by decide +kernel
theorem dX2_gatherHeads_42 : decode cX2_gatherHeads 42 = .ok (.getfield 40, 3) := by decide +kernel
theorem dX2_gatherHeads_45 : decode cX2_gatherHeads 45 = .ok (.iconst 1, 1) := by decide +kernel
theorem dX2_gatherHeads_46 : decode cX2_gatherHeads 46 = .ok (.iadd, 1) := by decide +kernel
theorem dX2_gatherHeads_47 : decode cX2_gatherHeads 47 = .ok (.putfield 40, 3) := by decide +kernel
theorem dX2_gatherHeads_50 : decode cX2_gatherHeads 50 = .ok (.iinc 1 1, 3) := by decide +kernel
theorem dX2_gatherHeads_53 : decode cX2_gatherHeads 53 = .ok (.goto (-46), 3) := by decide +kernel
theorem dX2_gatherHeads_56 : decode cX2_gatherHeads 56 = .ok (.return_, 1) := by decide +kernel
theorem dX2_leastFrom_0 : decode cX2_leastFrom 0 = .ok (.aload_n 0, 1) := by decide +kernel
theorem dX2_leastFrom_1 : decode cX2_leastFrom 1 = .ok (.getfield 58, 3) := by decide +kernel
theorem dX2_leastFrom_4 : decode cX2_leastFrom 4 = .ok (.getfield 80, 3) := by decide +kernel
theorem dX2_leastFrom_7 : decode cX2_leastFrom 7 = .ok (.bipush 7, 2) := by decide +kernel
theorem dX2_leastFrom_9 : decode cX2_leastFrom 9 = .ok (.iaload, 1) := by decide +kernel
theorem dX2_leastFrom_10 : decode cX2_leastFrom 10 = .ok (.istore_n 3, 1) := by decide +kernel
theorem dX2_leastFrom_11 : decode cX2_leastFrom 11 = .ok (.iload_n 1, 1) := by decide +kernel
theorem dX2_leastFrom_12 : decode cX2_leastFrom 12 = .ok (.aload_n 0, 1) := by decide +kernel
theorem dX2_leastFrom_13 : decode cX2_leastFrom 13 = .ok (.getfield 24, 3) := by decide +kernel
theorem dX2_leastFrom_16 : decode cX2_leastFrom 16 = .ok (.if_icmp .ne 12, 3) := by decide +kernel
theorem dX2_leastFrom_19 : decode cX2_leastFrom 19 = .ok (.iload_n 3, 1) := by decide +kernel
theorem dX2_leastFrom_20 : decode cX2_leastFrom 20 = .ok (.aload_n 0, 1) := by decide +kernel
theorem dX2_leastFrom_21 : decode cX2_leastFrom 21 = .ok (.getfield 40, 3) := by decide +kernel
theorem dX2_leastFrom_24 : decode cX2_leastFrom 24 = .ok (.iload_n 2, 1) := by decide +kernel
theorem dX2_leastFrom_25 : decode cX2_leastFrom 25 = .ok (.isub, 1) := by decide +kernel
theorem dX2_leastFrom_26 : decode cX2_leastFrom 26 = .ok (.imul, 1) := by decide +kernel
theorem dX2_leastFrom_27 : decode cX2_leastFrom 27 = .ok (.ireturn, 1) := by decide +kernel
theorem dX2_leastFrom_28 : decode cX2_leastFrom 28 = .ok (.iload_n 2, 1) := by decide +kernel
theorem dX2_leastFrom_29 : decode cX2_leastFrom 29 = .ok (.aload_n 0, 1) := by decide +kernel
theorem dX2_leastFrom_30 : decode cX2_leastFrom 30 = .ok (.getfield 40, 3) := by decide +kernel
theorem dX2_leastFrom_33 : decode cX2_leastFrom 33 = .ok (.if_icmp .ne 12, 3) := by decide +kernel
theorem dX2_leastFrom_36 : decode cX2_leastFrom 36 = .ok (.iload_n 3, 1) := by decide +kernel
theorem dX2_leastFrom_37 : decode cX2_leastFrom 37 = .ok (.aload_n 0, 1) := by decide +kernel
theorem dX2_leastFrom_38 : decode cX2_leastFrom 38 = .ok (.getfield 24, 3) := by decide +kernel
theorem dX2_leastFrom_41 : decode cX2_leastFrom 41 = .ok (.iload_n 1, 1) := by decide +kernel
theorem dX2_leastFrom_42 : decode cX2_leastFrom 42 = .ok (.isub, 1) := by decide +kernel
theorem dX2_leastFrom_43 : decode cX2_leastFrom 43 = .ok (.imul, 1) := by decide +kernel
theorem dX2_leastFrom_44 : decode cX2_leastFrom 44 = .ok (.ireturn, 1) := by decide +kernel
theorem dX2_leastFrom_45 : decode cX2_leastFrom 45 = .ok (.iload_n 1, 1) := by decide +kernel
theorem dX2_leastFrom_46 : decode cX2_leastFrom 46 = .ok (.bipush 21, 2) := by decide +kernel
theorem dX2_leastFrom_48 : decode cX2_leastFrom 48 = .ok (.imul, 1) := by decide +kernel
theorem dX2_leastFrom_49 : decode cX2_leastFrom 49 = .ok (.iload_n 2, 1) := by decide +kernel
theorem dX2_leastFrom_50 : decode cX2_leastFrom 50 = .ok (.iadd, 1) := by decide +kernel
theorem dX2_leastFrom_51 : decode cX2_leastFrom 51 = .ok (.istore 4, 2) := by decide +kernel
theorem dX2_leastFrom_53 : decode cX2_leastFrom 53 = .ok (.iload_n 3, 1) := by decide +kernel
theorem dX2_leastFrom_54 : decode cX2_leastFrom 54 = .ok (.aload_n 0, 1) := by decide +kernel
theorem dX2_leastFrom_55 : decode cX2_leastFrom 55 = .ok (.getfield 43, 3) := by decide +kernel
theorem dX2_leastFrom_58 : decode cX2_leastFrom 58 = .ok (.iload 4, 2) := by decide +kernel
theorem dX2_leastFrom_60 : decode cX2_leastFrom 60 = .ok (.bipush 21, 2) := by decide +kernel
theorem dX2_leastFrom_62 : decode cX2_leastFrom 62 = .ok (.iadd, 1) := by decide +kernel
theorem dX2_leastFrom_63 : decode cX2_leastFrom 63 = .ok (.iaload, 1) := by decide +kernel
theorem dX2_leastFrom_64 : decode cX2_leastFrom 64 = .ok (.aload_n 0, 1) := by decide +kernel
theorem dX2_leastFrom_65 : decode cX2_leastFrom 65 = .ok (.getfield 43, 3) := by decide +kernel
theorem dX2_leastFrom_68 : decode cX2_leastFrom 68 = .ok (.iload 4, 2) := by decide +kernel
theorem dX2_leastFrom_70 : decode cX2_leastFrom 70 = .ok (.iconst 1, 1) := by decide +kernel
theorem dX2_leastFrom_71 : decode cX2_leastFrom 71 = .ok (.iadd, 1) := by decide +kernel
theorem dX2_leastFrom_72 : decode cX2_leastFrom 72 = .ok (.iaload, 1) := by decide +kernel
theorem dX2_leastFrom_73 : decode cX2_leastFrom 73 = .ok (.invokestatic 85, 3) := by decide +kernel
theorem dX2_leastFrom_76 : decode cX2_leastFrom 76 = .ok (.iadd, 1) := by decide +kernel
theorem dX2_leastFrom_77 : decode cX2_leastFrom 77 = .ok (.istore 5, 2) := by decide +kernel
theorem dX2_leastFrom_79 : decode cX2_leastFrom 79 = .ok (.iload 5, 2) := by decide +kernel
theorem dX2_leastFrom_81 : decode cX2_leastFrom 81 = .ok (.aload_n 0, 1) := by decide +kernel
theorem dX2_leastFrom_82 : decode cX2_leastFrom 82 = .ok (.iload_n 1, 1) := by decide +kernel
theorem dX2_leastFrom_83 : decode cX2_leastFrom 83 = .ok (.iload_n 2, 1) := by decide +kernel
theorem dX2_leastFrom_84 : decode cX2_leastFrom 84 = .ok (.invokevirtual 90, 3) := by decide +kernel
theorem dX2_leastFrom_87 : decode cX2_leastFrom 87 = .ok (.aload_n 0, 1) := by decide +kernel
theorem dX2_leastFrom_88 : decode cX2_leastFrom 88 = .ok (.getfield 43, 3) := by decide +kernel
theorem dX2_leastFrom_91 : decode cX2_leastFrom 91 = .ok (.iload 4, 2) := by decide +kernel
theorem dX2_leastFrom_93 : decode cX2_leastFrom 93 = .ok (.bipush 21, 2) := by decide +kernel
theorem dX2_leastFrom_95 : decode cX2_leastFrom 95 = .ok (.iadd, 1) := by decide +kernel
theorem dX2_leastFrom_96 : decode cX2_leastFrom 96 = .ok (.iconst 1, 1) := by decide +kernel
theorem dX2_leastFrom_97 : decode cX2_leastFrom 97 = .ok (.iadd, 1) := by decide +kernel
theorem dX2_leastFrom_98 : decode cX2_leastFrom 98 = .ok (.iaload, 1) := by decide +kernel
theorem dX2_leastFrom_99 : decode cX2_leastFrom 99 = .ok (.iadd, 1) := by decide +kernel
theorem dX2_leastFrom_100 : decode cX2_leastFrom 100 = .ok (.invokestatic 85, 3) := by decide +kernel
theorem dX2_leastFrom_103 : decode cX2_leastFrom 103 = .ok (.ireturn, 1) := by decide +kernel
theorem dX2_pairCost_0 : decode cX2_pairCost 0 = .ok (.aload_n 0, 1) := by decide +kernel
theorem dX2_pairCost_1 : decode cX2_pairCost 1 = .ok (.getfield 37, 3) := by decide +kernel
theorem dX2_pairCost_4 : decode cX2_pairCost 4 = .ok (.iload_n 2, 1) := by decide +kernel
theorem dX2_pairCost_5 : decode cX2_pairCost 5 = .ok (.iaload, 1) := by decide +kernel
theorem dX2_pairCost_6 : decode cX2_pairCost 6 = .ok (.istore_n 3, 1) := by decide +kernel
theorem dX2_pairCost_7 : decode cX2_pairCost 7 = .ok (.aload_n 0, 1) := by decide +kernel
theorem dX2_pairCost_8 : decode cX2_pairCost 8 = .ok (.getfield 18, 3) := by decide +kernel
theorem dX2_pairCost_11 : decode cX2_pairCost 11 = .ok (.iload_n 1, 1) := by decide +kernel
theorem dX2_pairCost_12 : decode cX2_pairCost 12 = .ok (.iaload, 1) := by decide +kernel
theorem dX2_pairCost_13 : decode cX2_pairCost 13 = .ok (.aload_n 0, 1) := by decide +kernel
theorem dX2_pairCost_14 : decode cX2_pairCost 14 = .ok (.getfield 46, 3) := by decide +kernel
theorem dX2_pairCost_17 : decode cX2_pairCost 17 = .ok (.getfield 93, 3) := by decide +kernel
theorem dX2_pairCost_20 : decode cX2_pairCost 20 = .ok (.iload_n 3, 1) := by decide +kernel
theorem dX2_pairCost_21 : decode cX2_pairCost 21 = .ok (.iaload, 1) := by decide +kernel
theorem dX2_pairCost_22 : decode cX2_pairCost 22 = .ok (.invokestatic 94, 3) := by decide +kernel
theorem dX2_pairCost_25 : decode cX2_pairCost 25 = .ok (.aload_n 0, 1) := by decide +kernel
theorem dX2_pairCost_26 : decode cX2_pairCost 26 = .ok (.getfield 21, 3) := by decide +kernel
theorem dX2_pairCost_29 : decode cX2_pairCost 29 = .ok (.iload_n 1, 1) := by decide +kernel
theorem dX2_pairCost_30 : decode cX2_pairCost 30 = .ok (.iaload, 1) := by decide +kernel
theorem dX2_pairCost_31 : decode cX2_pairCost 31 = .ok (.aload_n 0, 1) := by decide +kernel
theorem dX2_pairCost_32 : decode cX2_pairCost 32 = .ok (.getfield 46, 3) := by decide +kernel
theorem dX2_pairCost_35 : decode cX2_pairCost 35 = .ok (.getfield 97, 3) := by decide +kernel
theorem dX2_pairCost_38 : decode cX2_pairCost 38 = .ok (.iload_n 3, 1) := by decide +kernel
theorem dX2_pairCost_39 : decode cX2_pairCost 39 = .ok (.iaload, 1) := by decide +kernel
theorem dX2_pairCost_40 : decode cX2_pairCost 40 = .ok (.invokestatic 94, 3) := by decide +kernel
theorem dX2_pairCost_43 : decode cX2_pairCost 43 = .ok (.iadd, 1) := by decide +kernel
theorem dX2_pairCost_44 : decode cX2_pairCost 44 = .ok (.istore 4, 2) := by decide +kernel
theorem dX2_pairCost_46 : decode cX2_pairCost 46 = .ok (.aload_n 0, 1) := by decide +kernel
theorem dX2_pairCost_47 : decode cX2_pairCost 47 = .ok (.getfield 9, 3) := by decide +kernel
theorem dX2_pairCost_50 : decode cX2_pairCost 50 = .ok (.iload_n 1, 1) := by decide +kernel
theorem dX2_pairCost_51 : decode cX2_pairCost 51 = .ok (.iaload, 1) := by decide +kernel
theorem dX2_pairCost_52 : decode cX2_pairCost 52 = .ok (.aload_n 0, 1) := by decide +kernel
theorem dX2_pairCost_53 : decode cX2_pairCost 53 = .ok (.getfield 54, 3) := by decide +kernel
theorem dX2_pairCost_56 : decode cX2_pairCost 56 = .ok (.getfield 75, 3) := by decide +kernel
theorem dX2_pairCost_59 : decode cX2_pairCost 59 = .ok (.iload_n 3, 1) := by decide +kernel
theorem dX2_pairCost_60 : decode cX2_pairCost 60 = .ok (.iaload, 1) := by decide +kernel
theorem dX2_pairCost_61 : decode cX2_pairCost 61 = .ok (.isub, 1) := by decide +kernel
theorem dX2_pairCost_62 : decode cX2_pairCost 62 = .ok (.invokestatic 98, 3) := by decide +kernel
theorem dX2_pairCost_65 : decode cX2_pairCost 65 = .ok (.istore 5, 2) := by decide +kernel
theorem dX2_pairCost_67 : decode cX2_pairCost 67 = .ok (.aload_n 0, 1) := by decide +kernel
theorem dX2_pairCost_68 : decode cX2_pairCost 68 = .ok (.getfield 50, 3) := by decide +kernel
theorem dX2_pairCost_71 : decode cX2_pairCost 71 = .ok (.getfield 102, 3) := by decide +kernel
theorem dX2_pairCost_74 : decode cX2_pairCost 74 = .ok (.aload_n 0, 1) := by decide +kernel
theorem dX2_pairCost_75 : decode cX2_pairCost 75 = .ok (.getfield 46, 3) := by decide +kernel
theorem dX2_pairCost_78 : decode cX2_pairCost 78 = .ok (.getfield 107, 3) := by decide +kernel
theorem dX2_pairCost_81 : decode cX2_pairCost 81 = .ok (.iload_n 3, 1) := by decide +kernel
theorem dX2_pairCost_82 : decode cX2_pairCost 82 = .ok (.iaload, 1) := by decide +kernel
theorem dX2_pairCost_83 : decode cX2_pairCost 83 = .ok (.iaload, 1) := by decide +kernel
theorem dX2_pairCost_84 : decode cX2_pairCost 84 = .ok (.aload_n 0, 1) := by decide +kernel
theorem dX2_pairCost_85 : decode cX2_pairCost 85 = .ok (.getfield 15, 3) := by decide +kernel
theorem dX2_pairCost_88 : decode cX2_pairCost 88 = .ok (.iload_n 1, 1) := by decide +kernel
theorem dX2_pairCost_89 : decode cX2_pairCost 89 = .ok (.iaload, 1) := by decide +kernel
theorem dX2_pairCost_90 : decode cX2_pairCost 90 = .ok (.if_icmp .ne 7, 3) := by decide +kernel
theorem dX2_pairCost_93 : decode cX2_pairCost 93 = .ok (.iconst 1, 1) := by decide +kernel
theorem dX2_pairCost_94 : decode cX2_pairCost 94 = .ok (.goto 4, 3) := by decide +kernel
theorem dX2_pairCost_97 : decode cX2_pairCost 97 = .ok (.iconst 0, 1) := by decide +kernel
theorem dX2_pairCost_98 : decode cX2_pairCost 98 = .ok (.istore 6, 2) := by decide +kernel
theorem dX2_pairCost_100 : decode cX2_pairCost 100 = .ok (.aload_n 0, 1) := by decide +kernel
theorem dX2_pairCost_101 : decode cX2_pairCost 101 = .ok (.getfield 58, 3) := by decide +kernel
theorem dX2_pairCost_104 : decode cX2_pairCost 104 = .ok (.getfield 80, 3) := by decide +kernel
theorem dX2_pairCost_107 : decode cX2_pairCost 107 = .ok (.iconst 4, 1) := by decide +kernel
theorem dX2_pairCost_108 : decode cX2_pairCost 108 = .ok (.iaload, 1) := by decide +kernel
theorem dX2_pairCost_109 : decode cX2_pairCost 109 = .ok (.iload 4, 2) := by decide +kernel
theorem dX2_pairCost_111 : decode cX2_pairCost 111 = .ok (.imul, 1) := by decide +kernel
theorem dX2_pairCost_112 : decode cX2_pairCost 112 = .ok (.aload_n 0, 1) := by decide +kernel
theorem dX2_pairCost_113 : decode cX2_pairCost 113 = .ok (.getfield 58, 3) := by decide +kernel
theorem dX2_pairCost_116 : decode cX2_pairCost 116 = .ok (.getfield 80, 3) := by decide +kernel
theorem dX2_pairCost_119 : decode cX2_pairCost 119 = .ok (.iconst 5, 1) := by decide +kernel
theorem dX2_pairCost_120 : decode cX2_pairCost 120 = .ok (.iaload, 1) := by decide +kernel
theorem dX2_pairCost_121 : decode cX2_pairCost 121 = .ok (.iload 5, 2) := by decide +kernel
theorem dX2_pairCost_123 : decode cX2_pairCost 123 = .ok (.imul, 1) := by decide +kernel
theorem dX2_pairCost_124 : decode cX2_pairCost 124 = .ok (.iadd, 1) := by decide +kernel
theorem dX2_pairCost_125 : decode cX2_pairCost 125 = .ok (.iload 6, 2) := by decide +kernel
theorem dX2_pairCost_127 : decode cX2_pairCost 127 = .ok (.ifCond .eq 7, 3) := by decide +kernel
theorem dX2_pairCost_130 : decode cX2_pairCost 130 = .ok (.iconst 0, 1) := by decide +kernel
theorem dX2_pairCost_131 : decode cX2_pairCost 131 = .ok (.goto 13, 3) := by decide +kernel
theorem dX2_pairCost_134 : decode cX2_pairCost 134 = .ok (.aload_n 0, 1) := by decide +kernel
theorem dX2_pairCost_135 : decode cX2_pairCost 135 = .ok (.getfield 58, 3) := by decide +kernel
theorem dX2_pairCost_138 : decode cX2_pairCost 138 = .ok (.getfield 80, 3) := by decide +kernel
theorem dX2_pairCost_141 : decode cX2_pairCost 141 = .ok (.bipush 6, 2) := by decide +kernel
theorem dX2_pairCost_143 : decode cX2_pairCost 143 = .ok (.iaload, 1) := by decide +kernel
theorem dX2_pairCost_144 : decode cX2_pairCost 144 = .ok (.iadd, 1) := by decide +kernel
theorem dX2_pairCost_145 : decode cX2_pairCost 145 = .ok (.ireturn, 1) := by decide +kernel
theorem dX2_unlikePlaces_0 : decode cX2_unlikePlaces 0 = .ok (.iconst 0, 1) := by decide +kernel
theorem dX2_unlikePlaces_1 : decode cX2_unlikePlaces 1 = .ok (.istore_n 2, 1) := by decide +kernel
theorem dX2_unlikePlaces_2 : decode cX2_unlikePlaces 2 = .ok (.iconst 0, 1) := by decide +kernel
theorem dX2_unlikePlaces_3 : decode cX2_unlikePlaces 3 = .ok (.istore_n 3, 1) := by decide +kernel
theorem dX2_unlikePlaces_4 : decode cX2_unlikePlaces 4 = .ok (.iload_n 3, 1) := by decide +kernel
theorem dX2_unlikePlaces_5 : decode cX2_unlikePlaces 5 = .ok (.bipush 32, 2) := by decide +kernel
theorem dX2_unlikePlaces_7 : decode cX2_unlikePlaces 7 = .ok (.if_icmp .ge 24, 3) := by decide +kernel
theorem dX2_unlikePlaces_10 : decode cX2_unlikePlaces 10 = .ok (.iload_n 0, 1) := by decide +kernel
theorem dX2_unlikePlaces_11 : decode cX2_unlikePlaces 11 = .ok (.iload_n 1, 1) := by decide +kernel
theorem dX2_unlikePlaces_12 : decode cX2_unlikePlaces 12 = .ok (.ixor, 1) := by decide +kernel
theorem dX2_unlikePlaces_13 : decode cX2_unlikePlaces 13 = .ok (.iload_n 3, 1) := by decide +kernel
theorem dX2_unlikePlaces_14 : decode cX2_unlikePlaces 14 = .ok (.iushr, 1) := by decide +kernel
theorem dX2_unlikePlaces_15 : decode cX2_unlikePlaces 15 = .ok (.sipush 255, 3) := by decide +kernel
theorem dX2_unlikePlaces_18 : decode cX2_unlikePlaces 18 = .ok (.iand, 1) := by decide +kernel
theorem dX2_unlikePlaces_19 : decode cX2_unlikePlaces 19 = .ok (.ifCond .eq 6, 3) := by decide +kernel
theorem dX2_unlikePlaces_22 : decode cX2_unlikePlaces 22 = .ok (.iinc 2 1, 3) := by decide +kernel
theorem dX2_unlikePlaces_25 : decode cX2_unlikePlaces 25 = .ok (.iinc 3 8, 3) := by decide +kernel
theorem dX2_unlikePlaces_28 : decode cX2_unlikePlaces 28 = .ok (.goto (-24), 3) := by decide +kernel
theorem dX2_unlikePlaces_31 : decode cX2_unlikePlaces 31 = .ok (.iload_n 2, 1) := by decide +kernel
theorem dX2_unlikePlaces_32 : decode cX2_unlikePlaces 32 = .ok (.ireturn, 1) := by decide +kernel
theorem dX2_tellPartners_0 : decode cX2_tellPartners 0 = .ok (.aload_n 0, 1) := by decide +kernel
theorem dX2_tellPartners_1 : decode cX2_tellPartners 1 = .ok (.getfield 28, 3) := by decide +kernel
theorem dX2_tellPartners_4 : decode cX2_tellPartners 4 = .ok (.iconst (-1), 1) := by decide +kernel
theorem dX2_tellPartners_5 : decode cX2_tellPartners 5 = .ok (.invokestatic 110, 3) := by decide +kernel
theorem dX2_tellPartners_8 : decode cX2_tellPartners 8 = .ok (.aload_n 0, 1) := by decide +kernel
theorem dX2_tellPartners_9 : decode cX2_tellPartners 9 = .ok (.getfield 31, 3) := by decide +kernel
theorem dX2_tellPartners_12 : decode cX2_tellPartners 12 = .ok (.iconst (-1), 1) := by decide +kernel
theorem dX2_tellPartners_13 : decode cX2_tellPartners 13 = .ok (.invokestatic 110, 3) := by decide +kernel
theorem dX2_tellPartners_16 : decode cX2_tellPartners 16 = .ok (.iconst 0, 1) := by decide +kernel
theorem dX2_tellPartners_17 : decode cX2_tellPartners 17 = .ok (.istore_n 1, 1) := by decide +kernel
theorem dX2_tellPartners_18 : decode cX2_tellPartners 18 = .ok (.iconst 0, 1) := by decide +kernel
theorem dX2_tellPartners_19 : decode cX2_tellPartners 19 = .ok (.istore_n 2, 1) := by decide +kernel
theorem dX2_tellPartners_20 : decode cX2_tellPartners 20 = .ok (.iload_n 2, 1) := by decide +kernel
theorem dX2_tellPartners_21 : decode cX2_tellPartners 21 = .ok (.aload_n 0, 1) := by decide +kernel
theorem dX2_tellPartners_22 : decode cX2_tellPartners 22 = .ok (.getfield 24, 3) := by decide +kernel
theorem dX2_tellPartners_25 : decode cX2_tellPartners 25 = .ok (.if_icmp .ge 49, 3) := by decide +kernel
theorem dX2_tellPartners_28 : decode cX2_tellPartners 28 = .ok (.aload_n 0, 1) := by decide +kernel
theorem dX2_tellPartners_29 : decode cX2_tellPartners 29 = .ok (.iload_n 2, 1) := by decide +kernel
theorem dX2_tellPartners_30 : decode cX2_tellPartners 30 = .ok (.iload_n 1, 1) := by decide +kernel
theorem dX2_tellPartners_31 : decode cX2_tellPartners 31 = .ok (.invokevirtual 116, 3) := by decide +kernel
theorem dX2_tellPartners_34 : decode cX2_tellPartners 34 = .ok (.istore_n 3, 1) := by decide +kernel
theorem dX2_tellPartners_35 : decode cX2_tellPartners 35 = .ok (.iload_n 3, 1) := by decide +kernel
theorem dX2_tellPartners_36 : decode cX2_tellPartners 36 = .ok (.iconst (-1), 1) := by decide +kernel
theorem dX2_tellPartners_37 : decode cX2_tellPartners 37 = .ok (.if_icmp .eq 31, 3) := by decide +kernel
theorem dX2_tellPartners_40 : decode cX2_tellPartners 40 = .ok (.aload_n 0, 1) := by decide +kernel
theorem dX2_tellPartners_41 : decode cX2_tellPartners 41 = .ok (.getfield 28, 3) := by decide +kernel
theorem dX2_tellPartners_44 : decode cX2_tellPartners 44 = .ok (.iload_n 2, 1) := by decide +kernel
theorem dX2_tellPartners_45 : decode cX2_tellPartners 45 = .ok (.aload_n 0, 1) := by decide +kernel
theorem dX2_tellPartners_46 : decode cX2_tellPartners 46 = .ok (.getfield 37, 3) := by decide +kernel
theorem dX2_tellPartners_49 : decode cX2_tellPartners 49 = .ok (.iload_n 3, 1) := by decide +kernel
theorem dX2_tellPartners_50 : decode cX2_tellPartners 50 = .ok (.iaload, 1) := by decide +kernel
theorem dX2_tellPartners_51 : decode cX2_tellPartners 51 = .ok (.iastore, 1) := by decide +kernel
theorem dX2_tellPartners_52 : decode cX2_tellPartners 52 = .ok (.aload_n 0, 1) := by decide +kernel
theorem dX2_tellPartners_53 : decode cX2_tellPartners 53 = .ok (.getfield 31, 3) := by decide +kernel
theorem dX2_tellPartners_56 : decode cX2_tellPartners 56 = .ok (.aload_n 0, 1) := by decide +kernel
theorem dX2_tellPartners_57 : decode cX2_tellPartners 57 = .ok (.getfield 37, 3) := by decide +kernel
theorem dX2_tellPartners_60 : decode cX2_tellPartners 60 = .ok (.iload_n 3, 1) := by decide +kernel
theorem dX2_tellPartners_61 : decode cX2_tellPartners 61 = .ok (.iaload, 1) := by decide +kernel
theorem dX2_tellPartners_62 : decode cX2_tellPartners 62 = .ok (.iload_n 2, 1) := by decide +kernel
theorem dX2_tellPartners_63 : decode cX2_tellPartners 63 = .ok (.iastore, 1) := by decide +kernel
theorem dX2_tellPartners_64 : decode cX2_tellPartners 64 = .ok (.iload_n 3, 1) := by decide +kernel
theorem dX2_tellPartners_65 : decode cX2_tellPartners 65 = .ok (.iconst 1, 1) := by decide +kernel
theorem dX2_tellPartners_66 : decode cX2_tellPartners 66 = .ok (.iadd, 1) := by decide +kernel
theorem dX2_tellPartners_67 : decode cX2_tellPartners 67 = .ok (.istore_n 1, 1) := by decide +kernel
theorem dX2_tellPartners_68 : decode cX2_tellPartners 68 = .ok (.iinc 2 1, 3) := by decide +kernel
theorem dX2_tellPartners_71 : decode cX2_tellPartners 71 = .ok (.goto (-51), 3) := by decide +kernel
theorem dX2_tellPartners_74 : decode cX2_tellPartners 74 = .ok (.return_, 1) := by decide +kernel
theorem dX2_firstCheapHead_0 : decode cX2_firstCheapHead 0 = .ok (.aload_n 0, 1) := by decide +kernel
theorem dX2_firstCheapHead_1 : decode cX2_firstCheapHead 1 = .ok (.getfield 43, 3) := by decide +kernel
theorem dX2_firstCheapHead_4 : decode cX2_firstCheapHead 4 = .ok (.iload_n 1, 1) := by decide +kernel
theorem dX2_firstCheapHead_5 : decode cX2_firstCheapHead 5 = .ok (.bipush 21, 2) := by decide +kernel
theorem dX2_firstCheapHead_7 : decode cX2_firstCheapHead 7 = .ok (.imul, 1) := by decide +kernel
theorem dX2_firstCheapHead_8 : decode cX2_firstCheapHead 8 = .ok (.iload_n 2, 1) := by decide +kernel
theorem dX2_firstCheapHead_9 : decode cX2_firstCheapHead 9 = .ok (.iadd, 1) := by decide +kernel
theorem dX2_firstCheapHead_10 : decode cX2_firstCheapHead 10 = .ok (.iaload, 1) := by decide +kernel
theorem dX2_firstCheapHead_11 : decode cX2_firstCheapHead 11 = .ok (.istore_n 3, 1) := by decide +kernel
theorem dX2_firstCheapHead_12 : decode cX2_firstCheapHead 12 = .ok (.iconst 0, 1) := by decide +kernel
theorem dX2_firstCheapHead_13 : decode cX2_firstCheapHead 13 = .ok (.istore 4, 2) := by decide +kernel
theorem dX2_firstCheapHead_15 : decode cX2_firstCheapHead 15 = .ok (.iload_n 2, 1) := by decide +kernel
theorem dX2_firstCheapHead_16 : decode cX2_firstCheapHead 16 = .ok (.istore 5, 2) := by decide +kernel
theorem dX2_firstCheapHead_18 : decode cX2_firstCheapHead 18 = .ok (.iload 5, 2) := by decide +kernel
theorem dX2_firstCheapHead_20 : decode cX2_firstCheapHead 20 = .ok (.aload_n 0, 1) := by decide +kernel
theorem dX2_firstCheapHead_21 : decode cX2_firstCheapHead 21 = .ok (.getfield 40, 3) := by decide +kernel
theorem dX2_firstCheapHead_24 : decode cX2_firstCheapHead 24 = .ok (.if_icmp .ge 62, 3) := by decide +kernel
theorem dX2_firstCheapHead_27 : decode cX2_firstCheapHead 27 = .ok (.aload_n 0, 1) := by decide +kernel
theorem dX2_firstCheapHead_28 : decode cX2_firstCheapHead 28 = .ok (.getfield 43, 3) := by decide +kernel
theorem dX2_firstCheapHead_31 : decode cX2_firstCheapHead 31 = .ok (.iload_n 1, 1) := by decide +kernel
theorem dX2_firstCheapHead_32 : decode cX2_firstCheapHead 32 = .ok (.iconst 1, 1) := by decide +kernel
theorem dX2_firstCheapHead_33 : decode cX2_firstCheapHead 33 = .ok (.iadd, 1) := by decide +kernel
theorem dX2_firstCheapHead_34 : decode cX2_firstCheapHead 34 = .ok (.bipush 21, 2) := by decide +kernel
theorem dX2_firstCheapHead_36 : decode cX2_firstCheapHead 36 = .ok (.imul, 1) := by decide +kernel
theorem dX2_firstCheapHead_37 : decode cX2_firstCheapHead 37 = .ok (.iload 5, 2) := by decide +kernel
theorem dX2_firstCheapHead_39 : decode cX2_firstCheapHead 39 = .ok (.iadd, 1) := by decide +kernel
theorem dX2_firstCheapHead_40 : decode cX2_firstCheapHead 40 = .ok (.iconst 1, 1) := by decide +kernel
theorem dX2_firstCheapHead_41 : decode cX2_firstCheapHead 41 = .ok (.iadd, 1) := by decide +kernel
theorem dX2_firstCheapHead_42 : decode cX2_firstCheapHead 42 = .ok (.iaload, 1) := by decide +kernel
theorem dX2_firstCheapHead_43 : decode cX2_firstCheapHead 43 = .ok (.istore 6, 2) := by decide +kernel
theorem dX2_firstCheapHead_45 : decode cX2_firstCheapHead 45 = .ok (.iload 4, 2) := by decide +kernel
theorem dX2_firstCheapHead_47 : decode cX2_firstCheapHead 47 = .ok (.aload_n 0, 1) := by decide +kernel
theorem dX2_firstCheapHead_48 : decode cX2_firstCheapHead 48 = .ok (.iload_n 1, 1) := by decide +kernel
theorem dX2_firstCheapHead_49 : decode cX2_firstCheapHead 49 = .ok (.iload 5, 2) := by decide +kernel
theorem dX2_firstCheapHead_51 : decode cX2_firstCheapHead 51 = .ok (.invokevirtual 90, 3) := by decide +kernel
theorem dX2_firstCheapHead_54 : decode cX2_firstCheapHead 54 = .ok (.iadd, 1) := by decide +kernel
theorem dX2_firstCheapHead_55 : decode cX2_firstCheapHead 55 = .ok (.iload 6, 2) := by decide +kernel
theorem dX2_firstCheapHead_57 : decode cX2_firstCheapHead 57 = .ok (.iadd, 1) := by decide +kernel
theorem dX2_firstCheapHead_58 : decode cX2_firstCheapHead 58 = .ok (.iload_n 3, 1) := by decide +kernel
theorem dX2_firstCheapHead_59 : decode cX2_firstCheapHead 59 = .ok (.if_icmp .ne 6, 3) := by decide +kernel
theorem dX2_firstCheapHead_62 : decode cX2_firstCheapHead 62 = .ok (.iload 5, 2) := by decide +kernel
theorem dX2_firstCheapHead_64 : decode cX2_firstCheapHead 64 = .ok (.ireturn, 1) := by decide +kernel
theorem dX2_firstCheapHead_65 : decode cX2_firstCheapHead 65 = .ok (.iload 4, 2) := by decide +kernel
theorem dX2_firstCheapHead_67 : decode cX2_firstCheapHead 67 = .ok (.aload_n 0, 1) := by decide +kernel
theorem dX2_firstCheapHead_68 : decode cX2_firstCheapHead 68 = .ok (.getfield 58, 3) := by decide +kernel
theorem dX2_firstCheapHead_71 : decode cX2_firstCheapHead 71 = .ok (.getfield 80, 3) := by decide +kernel
theorem dX2_firstCheapHead_74 : decode cX2_firstCheapHead 74 = .ok (.bipush 7, 2) := by decide +kernel
theorem dX2_firstCheapHead_76 : decode cX2_firstCheapHead 76 = .ok (.iaload, 1) := by decide +kernel
theorem dX2_firstCheapHead_77 : decode cX2_firstCheapHead 77 = .ok (.iadd, 1) := by decide +kernel
theorem dX2_firstCheapHead_78 : decode cX2_firstCheapHead 78 = .ok (.istore 4, 2) := by decide +kernel
theorem dX2_firstCheapHead_80 : decode cX2_firstCheapHead 80 = .ok (.iinc 5 1, 3) := by decide +kernel
theorem dX2_firstCheapHead_83 : decode cX2_firstCheapHead 83 = .ok (.goto (-65), 3) := by decide +kernel
theorem dX2_firstCheapHead_86 : decode cX2_firstCheapHead 86 = .ok (.iconst (-1), 1) := by decide +kernel
theorem dX2_firstCheapHead_87 : decode cX2_firstCheapHead 87 = .ok (.ireturn, 1) := by decide +kernel
theorem dX3_init_0 : decode cX3_init 0 = .ok (.aload_n 0, 1) := by decide +kernel
theorem dX3_init_1 : decode cX3_init 1 = .ok (.invokespecial 3, 3) := by decide +kernel
theorem dX3_init_4 : decode cX3_init 4 = .ok (.aload_n 0, 1) := by decide +kernel
theorem dX3_init_5 : decode cX3_init 5 = .ok (.bipush 60, 2) := by decide +kernel
theorem dX3_init_7 : decode cX3_init 7 = .ok (.newarray .int, 2) := by decide +kernel
theorem dX3_init_9 : decode cX3_init 9 = .ok (.putfield 9, 3) := by decide +kernel
theorem dX3_init_12 : decode cX3_init 12 = .ok (.aload_n 0, 1) := by decide +kernel
theorem dX3_init_13 : decode cX3_init 13 = .ok (.iconst 1, 1) := by decide +kernel
theorem dX3_init_14 : decode cX3_init 14 = .ok (.putfield 15, 3) := by decide +kernel
theorem dX3_init_17 : decode cX3_init 17 = .ok (.return_, 1) := by decide +kernel
theorem dX3_begin_0 : decode cX3_begin 0 = .ok (.aload_n 0, 1) := by decide +kernel
theorem dX3_begin_1 : decode cX3_begin 1 = .ok (.iload_n 1, 1) := by decide +kernel
theorem dX3_begin_2 : decode cX3_begin 2 = .ok (.putfield 15, 3) := by decide +kernel
theorem dX3_begin_5 : decode cX3_begin 5 = .ok (.aload_n 0, 1) := by decide +kernel
theorem dX3_begin_6 : decode cX3_begin 6 = .ok (.getfield 9, 3) := by decide +kernel
theorem dX3_begin_9 : decode cX3_begin 9 = .ok (.iconst 0, 1) := by decide +kernel
theorem dX3_begin_10 : decode cX3_begin 10 = .ok (.invokestatic 19, 3) := by decide +kernel
theorem dX3_begin_13 : decode cX3_begin 13 = .ok (.return_, 1) := by decide +kernel
theorem dX3_has_0 : decode cX3_has 0 = .ok (.iload_n 1, 1) := by decide +kernel
theorem dX3_has_1 : decode cX3_has 1 = .ok (.iconst 0, 1) := by decide +kernel
theorem dX3_has_2 : decode cX3_has 2 = .ok (.aload_n 0, 1) := by decide +kernel
theorem dX3_has_3 : decode cX3_has 3 = .ok (.getfield 15, 3) := by decide +kernel
theorem dX3_has_6 : decode cX3_has 6 = .ok (.iconst 1, 1) := by decide +kernel
theorem dX3_has_7 : decode cX3_has 7 = .ok (.isub, 1) := by decide +kernel
theorem dX3_has_8 : decode cX3_has 8 = .ok (.invokestatic 25, 3) := by decide +kernel
theorem dX3_has_11 : decode cX3_has 11 = .ok (.ireturn, 1) := by decide +kernel
theorem dX4_init_0 : decode cX4_init 0 = .ok (.aload_n 0, 1) := by decide +kernel
theorem dX4_init_1 : decode cX4_init 1 = .ok (.invokespecial 1, 3) := by decide +kernel
theorem dX4_init_4 : decode cX4_init 4 = .ok (.aload_n 0, 1) := by decide +kernel
theorem dX4_init_5 : decode cX4_init 5 = .ok (.bipush 10, 2) := by decide +kernel
theorem dX4_init_7 : decode cX4_init 7 = .ok (.newarray .int, 2) := by decide +kernel
theorem dX4_init_9 : decode cX4_init 9 = .ok (.dup, 1) := by decide +kernel
theorem dX4_init_10 : decode cX4_init 10 = .ok (.iconst 0, 1) := by decide +kernel
theorem dX4_init_11 : decode cX4_init 11 = .ok (.iconst 1, 1) := by decide +kernel
theorem dX4_init_12 : decode cX4_init 12 = .ok (.iastore, 1) := by decide +kernel
theorem dX4_init_13 : decode cX4_init 13 = .ok (.dup, 1) := by decide +kernel
theorem dX4_init_14 : decode cX4_init 14 = .ok (.iconst 1, 1) := by decide +kernel
theorem dX4_init_15 : decode cX4_init 15 = .ok (.iconst 2, 1) := by decide +kernel
theorem dX4_init_16 : decode cX4_init 16 = .ok (.iastore, 1) := by decide +kernel
theorem dX4_init_17 : decode cX4_init 17 = .ok (.dup, 1) := by decide +kernel
theorem dX4_init_18 : decode cX4_init 18 = .ok (.iconst 2, 1) := by decide +kernel
theorem dX4_init_19 : decode cX4_init 19 = .ok (.iconst 5, 1) := by decide +kernel
theorem dX4_init_20 : decode cX4_init 20 = .ok (.iastore, 1) := by decide +kernel
theorem dX4_init_21 : decode cX4_init 21 = .ok (.dup, 1) := by decide +kernel
theorem dX4_init_22 : decode cX4_init 22 = .ok (.iconst 3, 1) := by decide +kernel
theorem dX4_init_23 : decode cX4_init 23 = .ok (.iconst 1, 1) := by decide +kernel
theorem dX4_init_24 : decode cX4_init 24 = .ok (.iastore, 1) := by decide +kernel
theorem dX4_init_25 : decode cX4_init 25 = .ok (.dup, 1) := by decide +kernel
theorem dX4_init_26 : decode cX4_init 26 = .ok (.iconst 4, 1) := by decide +kernel
theorem dX4_init_27 : decode cX4_init 27 = .ok (.iconst 2, 1) := by decide +kernel
theorem dX4_init_28 : decode cX4_init 28 = .ok (.iastore, 1) := by decide +kernel
theorem dX4_init_29 : decode cX4_init 29 = .ok (.dup, 1) := by decide +kernel
theorem dX4_init_30 : decode cX4_init 30 = .ok (.iconst 5, 1) := by decide +kernel
theorem dX4_init_31 : decode cX4_init 31 = .ok (.iconst 4, 1) := by decide +kernel
theorem dX4_init_32 : decode cX4_init 32 = .ok (.iastore, 1) := by decide +kernel
theorem dX4_init_33 : decode cX4_init 33 = .ok (.dup, 1) := by decide +kernel
theorem dX4_init_34 : decode cX4_init 34 = .ok (.bipush 6, 2) := by decide +kernel
theorem dX4_init_36 : decode cX4_init 36 = .ok (.iconst 3, 1) := by decide +kernel
theorem dX4_init_37 : decode cX4_init 37 = .ok (.iastore, 1) := by decide +kernel
theorem dX4_init_38 : decode cX4_init 38 = .ok (.dup, 1) := by decide +kernel
theorem dX4_init_39 : decode cX4_init 39 = .ok (.bipush 7, 2) := by decide +kernel
theorem dX4_init_41 : decode cX4_init 41 = .ok (.bipush 12, 2) := by decide +kernel
theorem dX4_init_43 : decode cX4_init 43 = .ok (.iastore, 1) := by decide +kernel
theorem dX4_init_44 : decode cX4_init 44 = .ok (.dup, 1) := by decide +kernel
theorem dX4_init_45 : decode cX4_init 45 = .ok (.bipush 8, 2) := by decide +kernel
theorem dX4_init_47 : decode cX4_init 47 = .ok (.bipush 6, 2) := by decide +kernel
theorem dX4_init_49 : decode cX4_init 49 = .ok (.iastore, 1) := by decide +kernel
theorem dX4_init_50 : decode cX4_init 50 = .ok (.dup, 1) := by decide +kernel
theorem dX4_init_51 : decode cX4_init 51 = .ok (.bipush 9, 2) := by decide +kernel
theorem dX4_init_53 : decode cX4_init 53 = .ok (.iconst 4, 1) := by decide +kernel
theorem dX4_init_54 : decode cX4_init 54 = .ok (.iastore, 1) := by decide +kernel
theorem dX4_init_55 : decode cX4_init 55 = .ok (.putfield 7, 3) := by decide +kernel
theorem dX4_init_58 : decode cX4_init 58 = .ok (.aload_n 0, 1) := by decide +kernel
theorem dX4_init_59 : decode cX4_init 59 = .ok (.iconst 4, 1) := by decide +kernel
theorem dX4_init_60 : decode cX4_init 60 = .ok (.newarray .int, 2) := by decide +kernel
theorem dX4_init_62 : decode cX4_init 62 = .ok (.dup, 1) := by decide +kernel
theorem dX4_init_63 : decode cX4_init 63 = .ok (.iconst 0, 1) := by decide +kernel
theorem dX4_init_64 : decode cX4_init 64 = .ok (.iconst 0, 1) := by decide +kernel
theorem dX4_init_65 : decode cX4_init 65 = .ok (.iastore, 1) := by decide +kernel
theorem dX4_init_66 : decode cX4_init 66 = .ok (.dup, 1) := by decide +kernel
theorem dX4_init_67 : decode cX4_init 67 = .ok (.iconst 1, 1) := by decide +kernel
theorem dX4_init_68 : decode cX4_init 68 = .ok (.bipush 18, 2) := by decide +kernel
theorem dX4_init_70 : decode cX4_init 70 = .ok (.iastore, 1) := by decide +kernel
theorem dX4_init_71 : decode cX4_init 71 = .ok (.dup, 1) := by decide +kernel
theorem dX4_init_72 : decode cX4_init 72 = .ok (.iconst 2, 1) := by decide +kernel
theorem dX4_init_73 : decode cX4_init 73 = .ok (.bipush 13, 2) := by decide +kernel
theorem dX4_init_75 : decode cX4_init 75 = .ok (.iastore, 1) := by decide +kernel
theorem dX4_init_76 : decode cX4_init 76 = .ok (.dup, 1) := by decide +kernel
theorem dX4_init_77 : decode cX4_init 77 = .ok (.iconst 3, 1) := by decide +kernel
theorem dX4_init_78 : decode cX4_init 78 = .ok (.bipush 8, 2) := by decide +kernel
theorem dX4_init_80 : decode cX4_init 80 = .ok (.iastore, 1) := by decide +kernel
theorem dX4_init_81 : decode cX4_init 81 = .ok (.putfield 13, 3) := by decide +kernel
theorem dX4_init_84 : decode cX4_init 84 = .ok (.aload_n 0, 1) := by decide +kernel
theorem dX4_init_85 : decode cX4_init 85 = .ok (.iconst 3, 1) := by decide +kernel
theorem dX4_init_86 : decode cX4_init 86 = .ok (.putfield 16, 3) := by decide +kernel
theorem dX4_init_89 : decode cX4_init 89 = .ok (.return_, 1) := by decide +kernel
theorem dX5_init_0 : decode cX5_init 0 = .ok (.aload_n 0, 1) := by decide +kernel
theorem dX5_init_1 : decode cX5_init 1 = .ok (.invokespecial 5, 3) := by decide +kernel
theorem dX5_init_4 : decode cX5_init 4 = .ok (.aload_n 0, 1) := by decide +kernel
theorem dX5_init_5 : decode cX5_init 5 = .ok (.bipush 60, 2) := by decide +kernel
theorem dX5_init_7 : decode cX5_init 7 = .ok (.newarray .int, 2) := by decide +kernel
theorem dX5_init_9 : decode cX5_init 9 = .ok (.putfield 11, 3) := by decide +kernel
theorem dX5_init_12 : decode cX5_init 12 = .ok (.aload_n 0, 1) := by decide +kernel
theorem dX5_init_13 : decode cX5_init 13 = .ok (.bipush 60, 2) := by decide +kernel
theorem dX5_init_15 : decode cX5_init 15 = .ok (.newarray .int, 2) := by decide +kernel
theorem dX5_init_17 : decode cX5_init 17 = .ok (.putfield 15, 3) := by decide +kernel
theorem dX5_init_20 : decode cX5_init 20 = .ok (.aload_n 0, 1) := by decide +kernel
theorem dX5_init_21 : decode cX5_init 21 = .ok (.iconst 0, 1) := by decide +kernel
theorem dX5_init_22 : decode cX5_init 22 = .ok (.putfield 18, 3) := by decide +kernel
theorem dX5_init_25 : decode cX5_init 25 = .ok (.aload_n 0, 1) := by decide +kernel
theorem dX5_init_26 : decode cX5_init 26 = .ok (.iconst 0, 1) := by decide +kernel
theorem dX5_init_27 : decode cX5_init 27 = .ok (.putfield 22, 3) := by decide +kernel
theorem dX5_init_30 : decode cX5_init 30 = .ok (.aload_n 0, 1) := by decide +kernel
theorem dX5_init_31 : decode cX5_init 31 = .ok (.iconst 0, 1) := by decide +kernel
theorem dX5_init_32 : decode cX5_init 32 = .ok (.putfield 25, 3) := by decide +kernel
theorem dX5_init_35 : decode cX5_init 35 = .ok (.aload_n 0, 1) := by decide +kernel
theorem dX5_init_36 : decode cX5_init 36 = .ok (.bipush 61, 2) := by decide +kernel
theorem dX5_init_38 : decode cX5_init 38 = .ok (.newarray .int, 2) := by decide +kernel
theorem dX5_init_40 : decode cX5_init 40 = .ok (.putfield 28, 3) := by decide +kernel
theorem dX5_init_43 : decode cX5_init 43 = .ok (.aload_n 0, 1) := by decide +kernel
theorem dX5_init_44 : decode cX5_init 44 = .ok (.bipush 60, 2) := by decide +kernel
theorem dX5_init_46 : decode cX5_init 46 = .ok (.newarray .int, 2) := by decide +kernel
theorem dX5_init_48 : decode cX5_init 48 = .ok (.putfield 31, 3) := by decide +kernel
theorem dX5_init_51 : decode cX5_init 51 = .ok (.aload_n 0, 1) := by decide +kernel
theorem dX5_init_52 : decode cX5_init 52 = .ok (.sipush 1059, 3) := by decide +kernel
theorem dX5_init_55 : decode cX5_init 55 = .ok (.newarray .int, 2) := by decide +kernel
theorem dX5_init_57 : decode cX5_init 57 = .ok (.putfield 34, 3) := by decide +kernel
theorem dX5_init_60 : decode cX5_init 60 = .ok (.aload_n 0, 1) := by decide +kernel
theorem dX5_init_61 : decode cX5_init 61 = .ok (.aload_n 1, 1) := by decide +kernel
theorem dX5_init_62 : decode cX5_init 62 = .ok (.putfield 37, 3) := by decide +kernel
theorem dX5_init_65 : decode cX5_init 65 = .ok (.aload_n 0, 1) := by decide +kernel
theorem dX5_init_66 : decode cX5_init 66 = .ok (.aload_n 2, 1) := by decide +kernel
theorem dX5_init_67 : decode cX5_init 67 = .ok (.putfield 41, 3) := by decide +kernel
theorem dX5_init_70 : decode cX5_init 70 = .ok (.return_, 1) := by decide +kernel
theorem dX5_explain_0 : decode cX5_explain 0 = .ok (.aload_n 0, 1) := by decide +kernel
theorem dX5_explain_1 : decode cX5_explain 1 = .ok (.getfield 28, 3) := by decide +kernel
theorem dX5_explain_4 : decode cX5_explain 4 = .ok (.aload_n 0, 1) := by decide +kernel
theorem dX5_explain_5 : decode cX5_explain 5 = .ok (.getfield 37, 3) := by decide +kernel
theorem dX5_explain_8 : decode cX5_explain 8 = .ok (.getfield 45, 3) := by decide +kernel
theorem dX5_explain_11 : decode cX5_explain 11 = .ok (.iconst 0, 1) := by decide +kernel
theorem dX5_explain_12 : decode cX5_explain 12 = .ok (.iastore, 1) := by decide +kernel
theorem dX5_explain_13 : decode cX5_explain 13 = .ok (.aload_n 0, 1) := by decide +kernel
theorem dX5_explain_14 : decode cX5_explain 14 = .ok (.getfield 37, 3) := by decide +kernel
theorem dX5_explain_17 : decode cX5_explain 17 = .ok (.getfield 45, 3) := by decide +kernel
theorem dX5_explain_20 : decode cX5_explain 20 = .ok (.iconst 1, 1) := by decide +kernel
theorem dX5_explain_21 : decode cX5_explain 21 = .ok (.isub, 1) := by decide +kernel
theorem dX5_explain_22 : decode cX5_explain 22 = .ok (.istore_n 1, 1) := by decide +kernel
theorem dX5_explain_23 : decode cX5_explain 23 = .ok (.iload_n 1, 1) := by decide +kernel
theorem dX5_explain_24 : decode cX5_explain 24 = .ok (.ifCond .lt 26, 3) := by decide +kernel
theorem dX5_explain_27 : decode cX5_explain 27 = .ok (.aload_n 0, 1) := by decide +kernel
theorem dX5_explain_28 : decode cX5_explain 28 = .ok (.iload_n 1, 1) := by decide +kernel
theorem dX5_explain_29 : decode cX5_explain 29 = .ok (.invokevirtual 50, 3) := by decide +kernel
theorem dX5_explain_32 : decode cX5_explain 32 = .ok (.aload_n 0, 1) := by decide +kernel
theorem dX5_explain_33 : decode cX5_explain 33 = .ok (.iload_n 1, 1) := by decide +kernel
theorem dX5_explain_34 : decode cX5_explain 34 = .ok (.aload_n 0, 1) := by decide +kernel
theorem dX5_explain_35 : decode cX5_explain 35 = .ok (.getfield 37, 3) := by decide +kernel
theorem dX5_explain_38 : decode cX5_explain 38 = .ok (.getfield 45, 3) := by decide +kernel
theorem dX5_explain_41 : decode cX5_explain 41 = .ok (.invokevirtual 54, 3) := by decide +kernel
theorem dX5_explain_44 : decode cX5_explain 44 = .ok (.iinc 1 (-1), 3) := by decide +kernel
theorem dX5_explain_47 : decode cX5_explain 47 = .ok (.goto (-24), 3) := by decide +kernel
theorem dX5_explain_50 : decode cX5_explain 50 = .ok (.aload_n 0, 1) := by decide +kernel
theorem dX5_explain_51 : decode cX5_explain 51 = .ok (.aload_n 0, 1) := by decide +kernel
theorem dX5_explain_52 : decode cX5_explain 52 = .ok (.getfield 28, 3) := by decide +kernel
theorem dX5_explain_55 : decode cX5_explain 55 = .ok (.iconst 0, 1) := by decide +kernel
theorem dX5_explain_56 : decode cX5_explain 56 = .ok (.iaload, 1) := by decide +kernel
theorem dX5_explain_57 : decode cX5_explain 57 = .ok (.bipush 64, 2) := by decide +kernel
theorem dX5_explain_59 : decode cX5_explain 59 = .ok (.idiv, 1) := by decide +kernel
theorem dX5_explain_60 : decode cX5_explain 60 = .ok (.putfield 18, 3) := by decide +kernel
theorem dX5_explain_63 : decode cX5_explain 63 = .ok (.aload_n 0, 1) := by decide +kernel
theorem dX5_explain_64 : decode cX5_explain 64 = .ok (.aload_n 0, 1) := by decide +kernel
theorem dX5_explain_65 : decode cX5_explain 65 = .ok (.getfield 28, 3) := by decide +kernel
theorem dX5_explain_68 : decode cX5_explain 68 = .ok (.iconst 0, 1) := by decide +kernel
theorem dX5_explain_69 : decode cX5_explain 69 = .ok (.iaload, 1) := by decide +kernel
theorem dX5_explain_70 : decode cX5_explain 70 = .ok (.bipush 64, 2) := by decide +kernel
theorem dX5_explain_72 : decode cX5_explain 72 = .ok (.irem, 1) := by decide +kernel
theorem dX5_explain_73 : decode cX5_explain 73 = .ok (.putfield 22, 3) := by decide +kernel
theorem dX5_explain_76 : decode cX5_explain 76 = .ok (.aload_n 0, 1) := by decide +kernel
theorem dX5_explain_77 : decode cX5_explain 77 = .ok (.invokevirtual 58, 3) := by decide +kernel
theorem dX5_explain_80 : decode cX5_explain 80 = .ok (.return_, 1) := by decide +kernel
theorem dX5_findFirstSpan_0 : decode cX5_findFirstSpan 0 = .ok (.aload_n 0, 1) := by decide +kernel
theorem dX5_findFirstSpan_1 : decode cX5_findFirstSpan 1 = .ok (.getfield 41, 3) := by decide +kernel
theorem dX5_findFirstSpan_4 : decode cX5_findFirstSpan 4 = .ok (.getfield 61, 3) := by decide +kernel
theorem dX5_findFirstSpan_7 : decode cX5_findFirstSpan 7 = .ok (.bipush 8, 2) := by decide +kernel
theorem dX5_findFirstSpan_9 : decode cX5_findFirstSpan 9 = .ok (.iaload, 1) := by decide +kernel
theorem dX5_findFirstSpan_10 : decode cX5_findFirstSpan 10 = .ok (.bipush 64, 2) := by decide +kernel
theorem dX5_findFirstSpan_12 : decode cX5_findFirstSpan 12 = .ok (.imul, 1) := by decide +kernel
theorem dX5_findFirstSpan_13 : decode cX5_findFirstSpan 13 = .ok (.iconst 1, 1) := by decide +kernel
theorem dX5_findFirstSpan_14 : decode cX5_findFirstSpan 14 = .ok (.iadd, 1) := by decide +kernel
theorem dX5_findFirstSpan_15 : decode cX5_findFirstSpan 15 = .ok (.istore_n 2, 1) := by decide +kernel
theorem dX5_findFirstSpan_16 : decode cX5_findFirstSpan 16 = .ok (.aload_n 0, 1) := by decide +kernel
theorem dX5_findFirstSpan_17 : decode cX5_findFirstSpan 17 = .ok (.getfield 41, 3) := by decide +kernel
theorem dX5_findFirstSpan_20 : decode cX5_findFirstSpan 20 = .ok (.getfield 61, 3) := by decide +kernel
theorem dX5_findFirstSpan_23 : decode cX5_findFirstSpan 23 = .ok (.bipush 9, 2) := by decide +kernel
theorem dX5_findFirstSpan_25 : decode cX5_findFirstSpan 25 = .ok (.iaload, 1) := by decide +kernel
theorem dX5_findFirstSpan_26 : decode cX5_findFirstSpan 26 = .ok (.bipush 64, 2) := by decide +kernel
theorem dX5_findFirstSpan_28 : decode cX5_findFirstSpan 28 = .ok (.imul, 1) := by decide +kernel
theorem dX5_findFirstSpan_29 : decode cX5_findFirstSpan 29 = .ok (.istore_n 3, 1) := by decide +kernel
theorem dX5_findFirstSpan_30 : decode cX5_findFirstSpan 30 = .ok (.iconst 0, 1) := by decide +kernel
theorem dX5_findFirstSpan_31 : decode cX5_findFirstSpan 31 = .ok (.istore 4, 2) := by decide +kernel
theorem dX5_findFirstSpan_33 : decode cX5_findFirstSpan 33 = .ok (.iconst 0, 1) := by decide +kernel
theorem dX5_findFirstSpan_34 : decode cX5_findFirstSpan 34 = .ok (.istore 5, 2) := by decide +kernel
theorem dX5_findFirstSpan_36 : decode cX5_findFirstSpan 36 = .ok (.aload_n 0, 1) := by decide +kernel
theorem dX5_findFirstSpan_37 : decode cX5_findFirstSpan 37 = .ok (.getfield 28, 3) := by decide +kernel
theorem dX5_findFirstSpan_40 : decode cX5_findFirstSpan 40 = .ok (.iload_n 1, 1) := by decide +kernel
theorem dX5_findFirstSpan_41 : decode cX5_findFirstSpan 41 = .ok (.ldc 66, 2) := by decide +kernel
theorem dX5_findFirstSpan_43 : decode cX5_findFirstSpan 43 = .ok (.iastore, 1) := by decide +kernel
theorem dX5_findFirstSpan_44 : decode cX5_findFirstSpan 44 = .ok (.iload_n 1, 1) := by decide +kernel
theorem dX5_findFirstSpan_45 : decode cX5_findFirstSpan 45 = .ok (.istore 6, 2) := by decide +kernel
theorem dX5_findFirstSpan_47 : decode cX5_findFirstSpan 47 = .ok (.iload 6, 2) := by decide +kernel
theorem dX5_findFirstSpan_49 : decode cX5_findFirstSpan 49 = .ok (.aload_n 0, 1) := by decide +kernel
theorem dX5_findFirstSpan_50 : decode cX5_findFirstSpan 50 = .ok (.getfield 37, 3) := by decide +kernel
theorem dX5_findFirstSpan_53 : decode cX5_findFirstSpan 53 = .ok (.getfield 45, 3) := by decide +kernel
theorem dX5_findFirstSpan_56 : decode cX5_findFirstSpan 56 = .ok (.if_icmp .ge 88, 3) := by decide +kernel
theorem dX5_findFirstSpan_59 : decode cX5_findFirstSpan 59 = .ok (.aload_n 0, 1) := by decide +kernel
theorem dX5_findFirstSpan_60 : decode cX5_findFirstSpan 60 = .ok (.getfield 37, 3) := by decide +kernel
theorem dX5_findFirstSpan_63 : decode cX5_findFirstSpan 63 = .ok (.getfield 67, 3) := by decide +kernel
theorem dX5_findFirstSpan_66 : decode cX5_findFirstSpan 66 = .ok (.iload 6, 2) := by decide +kernel
theorem dX5_findFirstSpan_68 : decode cX5_findFirstSpan 68 = .ok (.iaload, 1) := by decide +kernel
theorem dX5_findFirstSpan_69 : decode cX5_findFirstSpan 69 = .ok (.ifCond .le 19, 3) := by decide +kernel
theorem dX5_findFirstSpan_72 : decode cX5_findFirstSpan 72 = .ok (.iinc 4 1, 3) := by decide +kernel
theorem dX5_findFirstSpan_75 : decode cX5_findFirstSpan 75 = .ok (.iload 5, 2) := by decide +kernel
theorem dX5_findFirstSpan_77 : decode cX5_findFirstSpan 77 = .ok (.aload_n 0, 1) := by decide +kernel
theorem dX5_findFirstSpan_78 : decode cX5_findFirstSpan 78 = .ok (.iload 6, 2) := by decide +kernel
theorem dX5_findFirstSpan_80 : decode cX5_findFirstSpan 80 = .ok (.invokevirtual 70, 3) := by decide +kernel
theorem dX5_findFirstSpan_83 : decode cX5_findFirstSpan 83 = .ok (.invokestatic 74, 3) := by decide +kernel
theorem dX5_findFirstSpan_86 : decode cX5_findFirstSpan 86 = .ok (.istore 5, 2) := by decide +kernel
theorem dX5_findFirstSpan_88 : decode cX5_findFirstSpan 88 = .ok (.iload_n 2, 1) := by decide +kernel
theorem dX5_findFirstSpan_89 : decode cX5_findFirstSpan 89 = .ok (.iload_n 3, 1) := by decide +kernel
theorem dX5_findFirstSpan_90 : decode cX5_findFirstSpan 90 = .ok (.iload 4, 2) := by decide +kernel
theorem dX5_findFirstSpan_92 : decode cX5_findFirstSpan 92 = .ok (.iload 5, 2) := by decide +kernel
theorem dX5_findFirstSpan_94 : decode cX5_findFirstSpan 94 = .ok (.isub, 1) := by decide +kernel
theorem dX5_findFirstSpan_95 : decode cX5_findFirstSpan 95 = .ok (.imul, 1) := by decide +kernel
theorem dX5_findFirstSpan_96 : decode cX5_findFirstSpan 96 = .ok (.iadd, 1) := by decide +kernel
theorem dX5_findFirstSpan_97 : decode cX5_findFirstSpan 97 = .ok (.aload_n 0, 1) := by decide +kernel
theorem dX5_findFirstSpan_98 : decode cX5_findFirstSpan 98 = .ok (.getfield 28, 3) := by decide +kernel
theorem dX5_findFirstSpan_101 : decode cX5_findFirstSpan 101 = .ok (.iload 6, 2) := by decide +kernel
theorem dX5_findFirstSpan_103 : decode cX5_findFirstSpan 103 = .ok (.iconst 1, 1) := by decide +kernel
theorem dX5_findFirstSpan_104 : decode cX5_findFirstSpan 104 = .ok (.iadd, 1) := by decide +kernel
theorem dX5_findFirstSpan_105 : decode cX5_findFirstSpan 105 = .ok (.iaload, 1) := by decide +kernel
theorem dX5_findFirstSpan_106 : decode cX5_findFirstSpan 106 = .ok (.iadd, 1) := by decide +kernel
theorem dX5_findFirstSpan_107 : decode cX5_findFirstSpan 107 = .ok (.istore 7, 2) := by decide +kernel
theorem dX5_findFirstSpan_109 : decode cX5_findFirstSpan 109 = .ok (.iload 7, 2) := by decide +kernel
theorem dX5_findFirstSpan_111 : decode cX5_findFirstSpan 111 = .ok (.aload_n 0, 1) := by decide +kernel
theorem dX5_findFirstSpan_112 : decode cX5_findFirstSpan 112 = .ok (.getfield 28, 3) := by decide +kernel
theorem dX5_findFirstSpan_115 : decode cX5_findFirstSpan 115 = .ok (.iload_n 1, 1) := by decide +kernel
theorem dX5_findFirstSpan_116 : decode cX5_findFirstSpan 116 = .ok (.iaload, 1) := by decide +kernel
theorem dX5_findFirstSpan_117 : decode cX5_findFirstSpan 117 = .ok (.if_icmp .gt 21, 3) := by decide +kernel
theorem dX5_findFirstSpan_120 : decode cX5_findFirstSpan 120 = .ok (.aload_n 0, 1) := by decide +kernel
theorem dX5_findFirstSpan_121 : decode cX5_findFirstSpan 121 = .ok (.getfield 28, 3) := by decide +kernel
theorem dX5_findFirstSpan_124 : decode cX5_findFirstSpan 124 = .ok (.iload_n 1, 1) := by decide +kernel
theorem dX5_findFirstSpan_125 : decode cX5_findFirstSpan 125 = .ok (.iload 7, 2) := by decide +kernel
theorem dX5_findFirstSpan_127 : decode cX5_findFirstSpan 127 = .ok (.iastore, 1) := by decide +kernel
theorem dX5_findFirstSpan_128 : decode cX5_findFirstSpan 128 = .ok (.aload_n 0, 1) := by decide +kernel
theorem dX5_findFirstSpan_129 : decode cX5_findFirstSpan 129 = .ok (.getfield 31, 3) := by decide +kernel
theorem dX5_findFirstSpan_132 : decode cX5_findFirstSpan 132 = .ok (.iload_n 1, 1) := by decide +kernel
theorem dX5_findFirstSpan_133 : decode cX5_findFirstSpan 133 = .ok (.iload 6, 2) := by decide +kernel
theorem dX5_findFirstSpan_135 : decode cX5_findFirstSpan 135 = .ok (.iconst 1, 1) := by decide +kernel
theorem dX5_findFirstSpan_136 : decode cX5_findFirstSpan 136 = .ok (.iadd, 1) := by decide +kernel
theorem dX5_findFirstSpan_137 : decode cX5_findFirstSpan 137 = .ok (.iastore, 1) := by decide +kernel
theorem dX5_findFirstSpan_138 : decode cX5_findFirstSpan 138 = .ok (.iinc 6 1, 3) := by decide +kernel
theorem dX5_findFirstSpan_141 : decode cX5_findFirstSpan 141 = .ok (.goto (-94), 3) := by decide +kernel
theorem dX5_findFirstSpan_144 : decode cX5_findFirstSpan 144 = .ok (.return_, 1) := by decide +kernel
theorem dX5_shiftPlace_0 : decode cX5_shiftPlace 0 = .ok (.aload_n 0, 1) := by decide +kernel
theorem dX5_shiftPlace_1 : decode cX5_shiftPlace 1 = .ok (.getfield 37, 3) := by decide +kernel
theorem dX5_shiftPlace_4 : decode cX5_shiftPlace 4 = .ok (.getfield 67, 3) := by decide +kernel
theorem dX5_shiftPlace_7 : decode cX5_shiftPlace 7 = .ok (.iload_n 1, 1) := by decide +kernel
theorem dX5_shiftPlace_8 : decode cX5_shiftPlace 8 = .ok (.iaload, 1) := by decide +kernel
theorem dX5_shiftPlace_9 : decode cX5_shiftPlace 9 = .ok (.iload_n 1, 1) := by decide +kernel
theorem dX5_shiftPlace_10 : decode cX5_shiftPlace 10 = .ok (.isub, 1) := by decide +kernel
theorem dX5_shiftPlace_11 : decode cX5_shiftPlace 11 = .ok (.bipush 59, 2) := by decide +kernel
theorem dX5_shiftPlace_13 : decode cX5_shiftPlace 13 = .ok (.iadd, 1) := by decide +kernel
theorem dX5_shiftPlace_14 : decode cX5_shiftPlace 14 = .ok (.ireturn, 1) := by decide +kernel
theorem dX5_addTime_0 : decode cX5_addTime 0 = .ok (.aload_n 0, 1) := by decide +kernel
theorem dX5_addTime_1 : decode cX5_addTime 1 = .ok (.iload_n 1, 1) := by decide +kernel
theorem dX5_addTime_2 : decode cX5_addTime 2 = .ok (.invokevirtual 80, 3) := by decide +kernel
theorem dX5_addTime_5 : decode cX5_addTime 5 = .ok (.istore_n 2, 1) := by decide +kernel
theorem dX5_addTime_6 : decode cX5_addTime 6 = .ok (.aload_n 0, 1) := by decide +kernel
theorem dX5_addTime_7 : decode cX5_addTime 7 = .ok (.getfield 34, 3) := by decide +kernel
theorem dX5_addTime_10 : decode cX5_addTime 10 = .ok (.iload_n 2, 1) := by decide +kernel
theorem dX5_addTime_11 : decode cX5_addTime 11 = .ok (.dup2, 1) := by decide +kernel
theorem dX5_addTime_12 : decode cX5_addTime 12 = .ok (.iaload, 1) := by decide +kernel
theorem dX5_addTime_13 : decode cX5_addTime 13 = .ok (.iconst 1, 1) := by decide +kernel
theorem dX5_addTime_14 : decode cX5_addTime 14 = .ok (.iadd, 1) := by decide +kernel
theorem dX5_addTime_15 : decode cX5_addTime 15 = .ok (.iastore, 1) := by decide +kernel
theorem dX5_addTime_16 : decode cX5_addTime 16 = .ok (.aload_n 0, 1) := by decide +kernel
theorem dX5_addTime_17 : decode cX5_addTime 17 = .ok (.getfield 34, 3) := by decide +kernel
theorem dX5_addTime_20 : decode cX5_addTime 20 = .ok (.iload_n 2, 1) := by decide +kernel
theorem dX5_addTime_21 : decode cX5_addTime 21 = .ok (.iaload, 1) := by decide +kernel
theorem dX5_addTime_22 : decode cX5_addTime 22 = .ok (.ireturn, 1) := by decide +kernel
theorem dX5_forgetTimes_0 : decode cX5_forgetTimes 0 = .ok (.iload_n 1, 1) := by decide +kernel
theorem dX5_forgetTimes_1 : decode cX5_forgetTimes 1 = .ok (.istore_n 3, 1) := by decide +kernel
theorem dX5_forgetTimes_2 : decode cX5_forgetTimes 2 = .ok (.iload_n 3, 1) := by decide +kernel
theorem dX5_forgetTimes_3 : decode cX5_forgetTimes 3 = .ok (.iload_n 2, 1) := by decide +kernel
theorem dX5_forgetTimes_4 : decode cX5_forgetTimes 4 = .ok (.if_icmp .ge 20, 3) := by decide +kernel
theorem dX5_forgetTimes_7 : decode cX5_forgetTimes 7 = .ok (.aload_n 0, 1) := by decide +kernel
theorem dX5_forgetTimes_8 : decode cX5_forgetTimes 8 = .ok (.getfield 34, 3) := by decide +kernel
theorem dX5_forgetTimes_11 : decode cX5_forgetTimes 11 = .ok (.aload_n 0, 1) := by decide +kernel
theorem dX5_forgetTimes_12 : decode cX5_forgetTimes 12 = .ok (.iload_n 3, 1) := by decide +kernel
theorem dX5_forgetTimes_13 : decode cX5_forgetTimes 13 = .ok (.invokevirtual 80, 3) := by decide +kernel
theorem dX5_forgetTimes_16 : decode cX5_forgetTimes 16 = .ok (.iconst 0, 1) := by decide +kernel
theorem dX5_forgetTimes_17 : decode cX5_forgetTimes 17 = .ok (.iastore, 1) := by decide +kernel
theorem dX5_forgetTimes_18 : decode cX5_forgetTimes 18 = .ok (.iinc 3 1, 3) := by decide +kernel
theorem dX5_forgetTimes_21 : decode cX5_forgetTimes 21 = .ok (.goto (-19), 3) := by decide +kernel
theorem dX5_forgetTimes_24 : decode cX5_forgetTimes 24 = .ok (.return_, 1) := by decide +kernel
theorem dX5_tellSpans_0 : decode cX5_tellSpans 0 = .ok (.aload_n 0, 1) := by decide +kernel
theorem dX5_tellSpans_1 : decode cX5_tellSpans 1 = .ok (.iconst 0, 1) := by decide +kernel
theorem dX5_tellSpans_2 : decode cX5_tellSpans 2 = .ok (.putfield 25, 3) := by decide +kernel
theorem dX5_tellSpans_5 : decode cX5_tellSpans 5 = .ok (.iconst 0, 1) := by decide +kernel
theorem dX5_tellSpans_6 : decode cX5_tellSpans 6 = .ok (.istore_n 1, 1) := by decide +kernel
theorem dX5_tellSpans_7 : decode cX5_tellSpans 7 = .ok (.iconst 0, 1) := by decide +kernel
theorem dX5_tellSpans_8 : decode cX5_tellSpans 8 = .ok (.istore_n 2, 1) := by decide +kernel
theorem dX5_tellSpans_9 : decode cX5_tellSpans 9 = .ok (.iconst 0, 1) := by decide +kernel
theorem dX5_tellSpans_10 : decode cX5_tellSpans 10 = .ok (.istore_n 3, 1) := by decide +kernel
theorem dX5_tellSpans_11 : decode cX5_tellSpans 11 = .ok (.iconst 0, 1) := by decide +kernel
theorem dX5_tellSpans_12 : decode cX5_tellSpans 12 = .ok (.istore 4, 2) := by decide +kernel
theorem dX5_tellSpans_14 : decode cX5_tellSpans 14 = .ok (.iload 4, 2) := by decide +kernel
theorem dX5_tellSpans_16 : decode cX5_tellSpans 16 = .ok (.aload_n 0, 1) := by decide +kernel
theorem dX5_tellSpans_17 : decode cX5_tellSpans 17 = .ok (.getfield 37, 3) := by decide +kernel
theorem dX5_tellSpans_20 : decode cX5_tellSpans 20 = .ok (.getfield 45, 3) := by decide +kernel
theorem dX5_tellSpans_23 : decode cX5_tellSpans 23 = .ok (.if_icmp .ge 72, 3) := by decide +kernel
theorem dX5_tellSpans_26 : decode cX5_tellSpans 26 = .ok (.iload 4, 2) := by decide +kernel
theorem dX5_tellSpans_28 : decode cX5_tellSpans 28 = .ok (.iload_n 2, 1) := by decide +kernel
theorem dX5_tellSpans_29 : decode cX5_tellSpans 29 = .ok (.if_icmp .ne 21, 3) := by decide +kernel
theorem dX5_tellSpans_32 : decode cX5_tellSpans 32 = .ok (.iload 4, 2) := by decide +kernel
theorem dX5_tellSpans_34 : decode cX5_tellSpans 34 = .ok (.istore_n 1, 1) := by decide +kernel
theorem dX5_tellSpans_35 : decode cX5_tellSpans 35 = .ok (.aload_n 0, 1) := by decide +kernel
theorem dX5_tellSpans_36 : decode cX5_tellSpans 36 = .ok (.getfield 31, 3) := by decide +kernel
theorem dX5_tellSpans_39 : decode cX5_tellSpans 39 = .ok (.iload 4, 2) := by decide +kernel
theorem dX5_tellSpans_41 : decode cX5_tellSpans 41 = .ok (.iaload, 1) := by decide +kernel
theorem dX5_tellSpans_42 : decode cX5_tellSpans 42 = .ok (.istore_n 2, 1) := by decide +kernel
theorem dX5_tellSpans_43 : decode cX5_tellSpans 43 = .ok (.aload_n 0, 1) := by decide +kernel
theorem dX5_tellSpans_44 : decode cX5_tellSpans 44 = .ok (.iload_n 1, 1) := by decide +kernel
theorem dX5_tellSpans_45 : decode cX5_tellSpans 45 = .ok (.iload_n 2, 1) := by decide +kernel
theorem dX5_tellSpans_46 : decode cX5_tellSpans 46 = .ok (.invokevirtual 83, 3) := by decide +kernel
theorem dX5_tellSpans_49 : decode cX5_tellSpans 49 = .ok (.istore_n 3, 1) := by decide +kernel
theorem dX5_tellSpans_50 : decode cX5_tellSpans 50 = .ok (.aload_n 0, 1) := by decide +kernel
theorem dX5_tellSpans_51 : decode cX5_tellSpans 51 = .ok (.getfield 15, 3) := by decide +kernel
theorem dX5_tellSpans_54 : decode cX5_tellSpans 54 = .ok (.iload 4, 2) := by decide +kernel
theorem dX5_tellSpans_56 : decode cX5_tellSpans 56 = .ok (.iload_n 1, 1) := by decide +kernel
theorem dX5_tellSpans_57 : decode cX5_tellSpans 57 = .ok (.iastore, 1) := by decide +kernel
theorem dX5_tellSpans_58 : decode cX5_tellSpans 58 = .ok (.aload_n 0, 1) := by decide +kernel
theorem dX5_tellSpans_59 : decode cX5_tellSpans 59 = .ok (.getfield 11, 3) := by decide +kernel
theorem dX5_tellSpans_62 : decode cX5_tellSpans 62 = .ok (.iload 4, 2) := by decide +kernel
theorem dX5_tellSpans_64 : decode cX5_tellSpans 64 = .ok (.iload_n 3, 1) := by decide +kernel
theorem dX5_tellSpans_65 : decode cX5_tellSpans 65 = .ok (.iastore, 1) := by decide +kernel
theorem dX5_tellSpans_66 : decode cX5_tellSpans 66 = .ok (.aload_n 0, 1) := by decide +kernel
theorem dX5_tellSpans_67 : decode cX5_tellSpans 67 = .ok (.dup, 1) := by decide +kernel
theorem dX5_tellSpans_68 : decode cX5_tellSpans 68 = .ok (.getfield 25, 3) := by decide +kernel
theorem dX5_tellSpans_71 : decode cX5_tellSpans 71 = .ok (.aload_n 0, 1) := by decide +kernel
theorem dX5_tellSpans_72 : decode cX5_tellSpans 72 = .ok (.iload 4, 2) := by decide +kernel
theorem dX5_tellSpans_74 : decode cX5_tellSpans 74 = .ok (.invokevirtual 86, 3) := by decide +kernel
theorem dX5_tellSpans_77 : decode cX5_tellSpans 77 = .ok (.ifCond .eq 7, 3) := by decide +kernel
theorem dX5_tellSpans_80 : decode cX5_tellSpans 80 = .ok (.iconst 1, 1) := by decide +kernel
theorem dX5_tellSpans_81 : decode cX5_tellSpans 81 = .ok (.goto 4, 3) := by decide +kernel
theorem dX5_tellSpans_84 : decode cX5_tellSpans 84 = .ok (.iconst 0, 1) := by decide +kernel
theorem dX5_tellSpans_85 : decode cX5_tellSpans 85 = .ok (.iadd, 1) := by decide +kernel
theorem dX5_tellSpans_86 : decode cX5_tellSpans 86 = .ok (.putfield 25, 3) := by decide +kernel
theorem dX5_tellSpans_89 : decode cX5_tellSpans 89 = .ok (.iinc 4 1, 3) := by decide +kernel
theorem dX5_tellSpans_92 : decode cX5_tellSpans 92 = .ok (.goto (-78), 3) := by decide +kernel
theorem dX5_tellSpans_95 : decode cX5_tellSpans 95 = .ok (.return_, 1) := by decide +kernel
theorem dX5_bestShift_0 : decode cX5_bestShift 0 = .ok (.iconst 0, 1) := by decide +kernel
theorem dX5_bestShift_1 : decode cX5_bestShift 1 = .ok (.istore_n 3, 1) := by decide +kernel
theorem dX5_bestShift_2 : decode cX5_bestShift 2 = .ok (.iconst 0, 1) := by decide +kernel
theorem dX5_bestShift_3 : decode cX5_bestShift 3 = .ok (.istore 4, 2) := by decide +kernel
theorem dX5_bestShift_5 : decode cX5_bestShift 5 = .ok (.iload_n 1, 1) := by decide +kernel
theorem dX5_bestShift_6 : decode cX5_bestShift 6 = .ok (.istore 5, 2) := by decide +kernel
theorem dX5_bestShift_8 : decode cX5_bestShift 8 = .ok (.iload 5, 2) := by decide +kernel
theorem dX5_bestShift_10 : decode cX5_bestShift 10 = .ok (.iload_n 2, 1) := by decide +kernel
theorem dX5_bestShift_11 : decode cX5_bestShift 11 = .ok (.if_icmp .ge 72, 3) := by decide +kernel
theorem dX5_bestShift_14 : decode cX5_bestShift 14 = .ok (.aload_n 0, 1) := by decide +kernel
theorem dX5_bestShift_15 : decode cX5_bestShift 15 = .ok (.getfield 37, 3) := by decide +kernel
theorem dX5_bestShift_18 : decode cX5_bestShift 18 = .ok (.getfield 67, 3) := by decide +kernel
theorem dX5_bestShift_21 : decode cX5_bestShift 21 = .ok (.iload 5, 2) := by decide +kernel
theorem dX5_bestShift_23 : decode cX5_bestShift 23 = .ok (.iaload, 1) := by decide +kernel
theorem dX5_bestShift_24 : decode cX5_bestShift 24 = .ok (.ifCond .le 53, 3) := by decide +kernel
theorem dX5_bestShift_27 : decode cX5_bestShift 27 = .ok (.aload_n 0, 1) := by decide +kernel
theorem dX5_bestShift_28 : decode cX5_bestShift 28 = .ok (.iload 5, 2) := by decide +kernel
theorem dX5_bestShift_30 : decode cX5_bestShift 30 = .ok (.invokevirtual 70, 3) := by decide +kernel
theorem dX5_bestShift_33 : decode cX5_bestShift 33 = .ok (.istore 6, 2) := by decide +kernel
theorem dX5_bestShift_35 : decode cX5_bestShift 35 = .ok (.aload_n 0, 1) := by decide +kernel
theorem dX5_bestShift_36 : decode cX5_bestShift 36 = .ok (.getfield 37, 3) := by decide +kernel
theorem dX5_bestShift_39 : decode cX5_bestShift 39 = .ok (.getfield 67, 3) := by decide +kernel
theorem dX5_bestShift_42 : decode cX5_bestShift 42 = .ok (.iload 5, 2) := by decide +kernel
theorem dX5_bestShift_44 : decode cX5_bestShift 44 = .ok (.iaload, 1) := by decide +kernel
theorem dX5_bestShift_45 : decode cX5_bestShift 45 = .ok (.iload 5, 2) := by decide +kernel
theorem dX5_bestShift_47 : decode cX5_bestShift 47 = .ok (.isub, 1) := by decide +kernel
theorem dX5_bestShift_48 : decode cX5_bestShift 48 = .ok (.istore 7, 2) := by decide +kernel
theorem dX5_bestShift_50 : decode cX5_bestShift 50 = .ok (.iload 6, 2) := by decide +kernel
theorem dX5_bestShift_52 : decode cX5_bestShift 52 = .ok (.iload 4, 2) := by decide +kernel
theorem dX5_bestShift_54 : decode cX5_bestShift 54 = .ok (.if_icmp .gt 16, 3) := by decide +kernel
theorem dX5_bestShift_57 : decode cX5_bestShift 57 = .ok (.iload 6, 2) := by decide +kernel
theorem dX5_bestShift_59 : decode cX5_bestShift 59 = .ok (.iload 4, 2) := by decide +kernel
theorem dX5_bestShift_61 : decode cX5_bestShift 61 = .ok (.if_icmp .ne 16, 3) := by decide +kernel
theorem dX5_bestShift_64 : decode cX5_bestShift 64 = .ok (.iload 7, 2) := by decide +kernel
theorem dX5_bestShift_66 : decode cX5_bestShift 66 = .ok (.iload_n 3, 1) := by decide +kernel
theorem dX5_bestShift_67 : decode cX5_bestShift 67 = .ok (.if_icmp .ge 10, 3) := by decide +kernel
theorem dX5_bestShift_70 : decode cX5_bestShift 70 = .ok (.iload 6, 2) := by decide +kernel
end
section
theorem dX5_bestShift_72 : decode cX5_bestShift 72 = .ok (.istore 4, 2) := by decide +kernel
theorem dX5_bestShift_74 : decode cX5_bestShift 74 = .ok (.iload 7, 2) := by decide +kernel
theorem dX5_bestShift_76 : decode cX5_bestShift 76 = .ok (.istore_n 3, 1) := by decide +kernel
theorem dX5_bestShift_77 : decode cX5_bestShift 77 = .ok (.iinc 5 1, 3) := by decide +kernel
theorem dX5_bestShift_80 : decode cX5_bestShift 80 = .ok (.goto (-72), 3) := by decide +kernel
theorem dX5_bestShift_83 : decode cX5_bestShift 83 = .ok (.aload_n 0, 1) := by decide +kernel
theorem dX5_bestShift_84 : decode cX5_bestShift 84 = .ok (.iload_n 1, 1) := by decide +kernel
theorem dX5_bestShift_85 : decode cX5_bestShift 85 = .ok (.iload_n 2, 1) := by decide +kernel
theorem dX5_bestShift_86 : decode cX5_bestShift 86 = .ok (.invokevirtual 54, 3) := by decide +kernel
theorem dX5_bestShift_89 : decode cX5_bestShift 89 = .ok (.iload_n 3, 1) := by decide +kernel
theorem dX5_bestShift_90 : decode cX5_bestShift 90 = .ok (.ireturn, 1) := by decide +kernel
theorem dX5_isWrong_0 : decode cX5_isWrong 0 = .ok (.aload_n 0, 1) := by decide +kernel
theorem dX5_isWrong_1 : decode cX5_isWrong 1 = .ok (.getfield 37, 3) := by decide +kernel
theorem dX5_isWrong_4 : decode cX5_isWrong 4 = .ok (.getfield 67, 3) := by decide +kernel
theorem dX5_isWrong_7 : decode cX5_isWrong 7 = .ok (.iload_n 1, 1) := by decide +kernel
theorem dX5_isWrong_8 : decode cX5_isWrong 8 = .ok (.iaload, 1) := by decide +kernel
theorem dX5_isWrong_9 : decode cX5_isWrong 9 = .ok (.istore_n 2, 1) := by decide +kernel
theorem dX5_isWrong_10 : decode cX5_isWrong 10 = .ok (.iload_n 2, 1) := by decide +kernel
theorem dX5_isWrong_11 : decode cX5_isWrong 11 = .ok (.ifCond .le 19, 3) := by decide +kernel
theorem dX5_isWrong_14 : decode cX5_isWrong 14 = .ok (.iload_n 2, 1) := by decide +kernel
theorem dX5_isWrong_15 : decode cX5_isWrong 15 = .ok (.iload_n 1, 1) := by decide +kernel
theorem dX5_isWrong_16 : decode cX5_isWrong 16 = .ok (.aload_n 0, 1) := by decide +kernel
theorem dX5_isWrong_17 : decode cX5_isWrong 17 = .ok (.getfield 11, 3) := by decide +kernel
theorem dX5_isWrong_20 : decode cX5_isWrong 20 = .ok (.iload_n 1, 1) := by decide +kernel
theorem dX5_isWrong_21 : decode cX5_isWrong 21 = .ok (.iaload, 1) := by decide +kernel
theorem dX5_isWrong_22 : decode cX5_isWrong 22 = .ok (.iadd, 1) := by decide +kernel
theorem dX5_isWrong_23 : decode cX5_isWrong 23 = .ok (.if_icmp .eq 7, 3) := by decide +kernel
theorem dX5_isWrong_26 : decode cX5_isWrong 26 = .ok (.iconst 1, 1) := by decide +kernel
theorem dX5_isWrong_27 : decode cX5_isWrong 27 = .ok (.goto 4, 3) := by decide +kernel
theorem dX5_isWrong_30 : decode cX5_isWrong 30 = .ok (.iconst 0, 1) := by decide +kernel
theorem dX5_isWrong_31 : decode cX5_isWrong 31 = .ok (.ireturn, 1) := by decide +kernel
theorem dX6_init_0 : decode cX6_init 0 = .ok (.aload_n 0, 1) := by decide +kernel
theorem dX6_init_1 : decode cX6_init 1 = .ok (.invokespecial 3, 3) := by decide +kernel
theorem dX6_init_4 : decode cX6_init 4 = .ok (.aload_n 0, 1) := by decide +kernel
theorem dX6_init_5 : decode cX6_init 5 = .ok (.bipush 20, 2) := by decide +kernel
theorem dX6_init_7 : decode cX6_init 7 = .ok (.newarray .boolean, 2) := by decide +kernel
theorem dX6_init_9 : decode cX6_init 9 = .ok (.putfield 9, 3) := by decide +kernel
theorem dX6_init_12 : decode cX6_init 12 = .ok (.aload_n 0, 1) := by decide +kernel
theorem dX6_init_13 : decode cX6_init 13 = .ok (.bipush 20, 2) := by decide +kernel
theorem dX6_init_15 : decode cX6_init 15 = .ok (.newarray .int, 2) := by decide +kernel
theorem dX6_init_17 : decode cX6_init 17 = .ok (.putfield 15, 3) := by decide +kernel
theorem dX6_init_20 : decode cX6_init 20 = .ok (.aload_n 0, 1) := by decide +kernel
theorem dX6_init_21 : decode cX6_init 21 = .ok (.bipush 60, 2) := by decide +kernel
theorem dX6_init_23 : decode cX6_init 23 = .ok (.newarray .int, 2) := by decide +kernel
theorem dX6_init_25 : decode cX6_init 25 = .ok (.putfield 19, 3) := by decide +kernel
theorem dX6_init_28 : decode cX6_init 28 = .ok (.aload_n 0, 1) := by decide +kernel
theorem dX6_init_29 : decode cX6_init 29 = .ok (.iconst 0, 1) := by decide +kernel
theorem dX6_init_30 : decode cX6_init 30 = .ok (.putfield 22, 3) := by decide +kernel
theorem dX6_init_33 : decode cX6_init 33 = .ok (.aload_n 0, 1) := by decide +kernel
theorem dX6_init_34 : decode cX6_init 34 = .ok (.iconst 0, 1) := by decide +kernel
theorem dX6_init_35 : decode cX6_init 35 = .ok (.putfield 26, 3) := by decide +kernel
theorem dX6_init_38 : decode cX6_init 38 = .ok (.aload_n 0, 1) := by decide +kernel
theorem dX6_init_39 : decode cX6_init 39 = .ok (.iconst 4, 1) := by decide +kernel
theorem dX6_init_40 : decode cX6_init 40 = .ok (.newarray .int, 2) := by decide +kernel
theorem dX6_init_42 : decode cX6_init 42 = .ok (.putfield 29, 3) := by decide +kernel
theorem dX6_init_45 : decode cX6_init 45 = .ok (.aload_n 0, 1) := by decide +kernel
theorem dX6_init_46 : decode cX6_init 46 = .ok (.sipush 2744, 3) := by decide +kernel
theorem dX6_init_49 : decode cX6_init 49 = .ok (.newarray .long, 2) := by decide +kernel
theorem dX6_init_51 : decode cX6_init 51 = .ok (.putfield 34, 3) := by decide +kernel
theorem dX6_init_54 : decode cX6_init 54 = .ok (.aload_n 0, 1) := by decide +kernel
theorem dX6_init_55 : decode cX6_init 55 = .ok (.sipush 2744, 3) := by decide +kernel
theorem dX6_init_58 : decode cX6_init 58 = .ok (.newarray .long, 2) := by decide +kernel
theorem dX6_init_60 : decode cX6_init 60 = .ok (.putfield 38, 3) := by decide +kernel
theorem dX6_init_63 : decode cX6_init 63 = .ok (.aload_n 0, 1) := by decide +kernel
theorem dX6_init_64 : decode cX6_init 64 = .ok (.sipush 2744, 3) := by decide +kernel
theorem dX6_init_67 : decode cX6_init 67 = .ok (.newarray .int, 2) := by decide +kernel
theorem dX6_init_69 : decode cX6_init 69 = .ok (.putfield 41, 3) := by decide +kernel
theorem dX6_init_72 : decode cX6_init 72 = .ok (.aload_n 0, 1) := by decide +kernel
theorem dX6_init_73 : decode cX6_init 73 = .ok (.sipush 2744, 3) := by decide +kernel
theorem dX6_init_76 : decode cX6_init 76 = .ok (.newarray .int, 2) := by decide +kernel
theorem dX6_init_78 : decode cX6_init 78 = .ok (.putfield 44, 3) := by decide +kernel
theorem dX6_init_81 : decode cX6_init 81 = .ok (.aload_n 0, 1) := by decide +kernel
theorem dX6_init_82 : decode cX6_init 82 = .ok (.iconst 0, 1) := by decide +kernel
theorem dX6_init_83 : decode cX6_init 83 = .ok (.putfield 47, 3) := by decide +kernel
theorem dX6_init_86 : decode cX6_init 86 = .ok (.aload_n 0, 1) := by decide +kernel
theorem dX6_init_87 : decode cX6_init 87 = .ok (.iconst 0, 1) := by decide +kernel
theorem dX6_init_88 : decode cX6_init 88 = .ok (.putfield 50, 3) := by decide +kernel
theorem dX6_init_91 : decode cX6_init 91 = .ok (.aload_n 0, 1) := by decide +kernel
theorem dX6_init_92 : decode cX6_init 92 = .ok (.aload_n 1, 1) := by decide +kernel
theorem dX6_init_93 : decode cX6_init 93 = .ok (.putfield 53, 3) := by decide +kernel
theorem dX6_init_96 : decode cX6_init 96 = .ok (.aload_n 0, 1) := by decide +kernel
theorem dX6_init_97 : decode cX6_init 97 = .ok (.aload_n 2, 1) := by decide +kernel
theorem dX6_init_98 : decode cX6_init 98 = .ok (.putfield 57, 3) := by decide +kernel
theorem dX6_init_101 : decode cX6_init 101 = .ok (.aload_n 0, 1) := by decide +kernel
theorem dX6_init_102 : decode cX6_init 102 = .ok (.new 32, 3) := by decide +kernel
theorem dX6_init_105 : decode cX6_init 105 = .ok (.dup, 1) := by decide +kernel
theorem dX6_init_106 : decode cX6_init 106 = .ok (.aload_n 1, 1) := by decide +kernel
theorem dX6_init_107 : decode cX6_init 107 = .ok (.invokespecial 61, 3) := by decide +kernel
theorem dX6_init_110 : decode cX6_init 110 = .ok (.putfield 64, 3) := by decide +kernel
theorem dX6_init_113 : decode cX6_init 113 = .ok (.aload_n 0, 1) := by decide +kernel
theorem dX6_init_114 : decode cX6_init 114 = .ok (.getfield 34, 3) := by decide +kernel
theorem dX6_init_117 : decode cX6_init 117 = .ok (.ldc2_w 68, 3) := by decide +kernel
theorem dX6_init_120 : decode cX6_init 120 = .ok (.invokestatic 70, 3) := by decide +kernel
theorem dX6_init_123 : decode cX6_init 123 = .ok (.aload_n 0, 1) := by decide +kernel
theorem dX6_init_124 : decode cX6_init 124 = .ok (.getfield 38, 3) := by decide +kernel
theorem dX6_init_127 : decode cX6_init 127 = .ok (.ldc2_w 68, 3) := by decide +kernel
theorem dX6_init_130 : decode cX6_init 130 = .ok (.invokestatic 70, 3) := by decide +kernel
theorem dX6_init_133 : decode cX6_init 133 = .ok (.return_, 1) := by decide +kernel
theorem dX6_search_0 : decode cX6_search 0 = .ok (.iconst 0, 1) := by decide +kernel
theorem dX6_search_1 : decode cX6_search 1 = .ok (.istore_n 1, 1) := by decide +kernel
theorem dX6_search_2 : decode cX6_search 2 = .ok (.iload_n 1, 1) := by decide +kernel
theorem dX6_search_3 : decode cX6_search 3 = .ok (.aload_n 0, 1) := by decide +kernel
theorem dX6_search_4 : decode cX6_search 4 = .ok (.getfield 53, 3) := by decide +kernel
theorem dX6_search_7 : decode cX6_search 7 = .ok (.getfield 76, 3) := by decide +kernel
theorem dX6_search_10 : decode cX6_search 10 = .ok (.if_icmp .ge 30, 3) := by decide +kernel
theorem dX6_search_13 : decode cX6_search 13 = .ok (.aload_n 0, 1) := by decide +kernel
theorem dX6_search_14 : decode cX6_search 14 = .ok (.getfield 9, 3) := by decide +kernel
theorem dX6_search_17 : decode cX6_search 17 = .ok (.iload_n 1, 1) := by decide +kernel
theorem dX6_search_18 : decode cX6_search 18 = .ok (.aload_n 0, 1) := by decide +kernel
theorem dX6_search_19 : decode cX6_search 19 = .ok (.getfield 53, 3) := by decide +kernel
theorem dX6_search_22 : decode cX6_search 22 = .ok (.iload_n 1, 1) := by decide +kernel
theorem dX6_search_23 : decode cX6_search 23 = .ok (.aload_n 0, 1) := by decide +kernel
theorem dX6_search_24 : decode cX6_search 24 = .ok (.getfield 57, 3) := by decide +kernel
theorem dX6_search_27 : decode cX6_search 27 = .ok (.getfield 81, 3) := by decide +kernel
theorem dX6_search_30 : decode cX6_search 30 = .ok (.invokevirtual 86, 3) := by decide +kernel
theorem dX6_search_33 : decode cX6_search 33 = .ok (.bastore, 1) := by decide +kernel
theorem dX6_search_34 : decode cX6_search 34 = .ok (.iinc 1 1, 3) := by decide +kernel
theorem dX6_search_37 : decode cX6_search 37 = .ok (.goto (-35), 3) := by decide +kernel
theorem dX6_search_40 : decode cX6_search 40 = .ok (.aload_n 0, 1) := by decide +kernel
theorem dX6_search_41 : decode cX6_search 41 = .ok (.iconst 1, 1) := by decide +kernel
theorem dX6_search_42 : decode cX6_search 42 = .ok (.putfield 47, 3) := by decide +kernel
theorem dX6_search_45 : decode cX6_search 45 = .ok (.aload_n 0, 1) := by decide +kernel
theorem dX6_search_46 : decode cX6_search 46 = .ok (.getfield 41, 3) := by decide +kernel
theorem dX6_search_49 : decode cX6_search 49 = .ok (.iconst 0, 1) := by decide +kernel
theorem dX6_search_50 : decode cX6_search 50 = .ok (.iconst 0, 1) := by decide +kernel
theorem dX6_search_51 : decode cX6_search 51 = .ok (.iastore, 1) := by decide +kernel
theorem dX6_search_52 : decode cX6_search 52 = .ok (.aload_n 0, 1) := by decide +kernel
theorem dX6_search_53 : decode cX6_search 53 = .ok (.getfield 34, 3) := by decide +kernel
theorem dX6_search_56 : decode cX6_search 56 = .ok (.iconst 0, 1) := by decide +kernel
theorem dX6_search_57 : decode cX6_search 57 = .ok (.lconst 0, 1) := by decide +kernel
theorem dX6_search_58 : decode cX6_search 58 = .ok (.lastore, 1) := by decide +kernel
theorem dX6_search_59 : decode cX6_search 59 = .ok (.iconst 0, 1) := by decide +kernel
theorem dX6_search_60 : decode cX6_search 60 = .ok (.istore_n 1, 1) := by decide +kernel
theorem dX6_search_61 : decode cX6_search 61 = .ok (.iload_n 1, 1) := by decide +kernel
theorem dX6_search_62 : decode cX6_search 62 = .ok (.aload_n 0, 1) := by decide +kernel
theorem dX6_search_63 : decode cX6_search 63 = .ok (.getfield 53, 3) := by decide +kernel
theorem dX6_search_66 : decode cX6_search 66 = .ok (.getfield 76, 3) := by decide +kernel
theorem dX6_search_69 : decode cX6_search 69 = .ok (.if_icmp .ge 19, 3) := by decide +kernel
theorem dX6_search_72 : decode cX6_search 72 = .ok (.aload_n 0, 1) := by decide +kernel
theorem dX6_search_73 : decode cX6_search 73 = .ok (.iload_n 1, 1) := by decide +kernel
theorem dX6_search_74 : decode cX6_search 74 = .ok (.invokevirtual 90, 3) := by decide +kernel
theorem dX6_search_77 : decode cX6_search 77 = .ok (.aload_n 0, 1) := by decide +kernel
theorem dX6_search_78 : decode cX6_search 78 = .ok (.iload_n 1, 1) := by decide +kernel
theorem dX6_search_79 : decode cX6_search 79 = .ok (.invokevirtual 94, 3) := by decide +kernel
theorem dX6_search_82 : decode cX6_search 82 = .ok (.iinc 1 1, 3) := by decide +kernel
theorem dX6_search_85 : decode cX6_search 85 = .ok (.goto (-24), 3) := by decide +kernel
theorem dX6_search_88 : decode cX6_search 88 = .ok (.aload_n 0, 1) := by decide +kernel
theorem dX6_search_89 : decode cX6_search 89 = .ok (.aload_n 0, 1) := by decide +kernel
theorem dX6_search_90 : decode cX6_search 90 = .ok (.invokevirtual 97, 3) := by decide +kernel
theorem dX6_search_93 : decode cX6_search 93 = .ok (.invokevirtual 101, 3) := by decide +kernel
theorem dX6_search_96 : decode cX6_search 96 = .ok (.aload_n 0, 1) := by decide +kernel
theorem dX6_search_97 : decode cX6_search 97 = .ok (.invokevirtual 105, 3) := by decide +kernel
theorem dX6_search_100 : decode cX6_search 100 = .ok (.return_, 1) := by decide +kernel
theorem dX6_findCapsBehind_0 : decode cX6_findCapsBehind 0 = .ok (.iconst 1, 1) := by decide +kernel
theorem dX6_findCapsBehind_1 : decode cX6_findCapsBehind 1 = .ok (.istore_n 2, 1) := by decide +kernel
theorem dX6_findCapsBehind_2 : decode cX6_findCapsBehind 2 = .ok (.iload_n 2, 1) := by decide +kernel
theorem dX6_findCapsBehind_3 : decode cX6_findCapsBehind 3 = .ok (.iconst 3, 1) := by decide +kernel
theorem dX6_findCapsBehind_4 : decode cX6_findCapsBehind 4 = .ok (.if_icmp .gt 58, 3) := by decide +kernel
theorem dX6_findCapsBehind_7 : decode cX6_findCapsBehind 7 = .ok (.iconst 0, 1) := by decide +kernel
theorem dX6_findCapsBehind_8 : decode cX6_findCapsBehind 8 = .ok (.istore_n 3, 1) := by decide +kernel
theorem dX6_findCapsBehind_9 : decode cX6_findCapsBehind 9 = .ok (.iload_n 1, 1) := by decide +kernel
theorem dX6_findCapsBehind_10 : decode cX6_findCapsBehind 10 = .ok (.iconst 1, 1) := by decide +kernel
theorem dX6_findCapsBehind_11 : decode cX6_findCapsBehind 11 = .ok (.iadd, 1) := by decide +kernel
theorem dX6_findCapsBehind_12 : decode cX6_findCapsBehind 12 = .ok (.istore 4, 2) := by decide +kernel
theorem dX6_findCapsBehind_14 : decode cX6_findCapsBehind 14 = .ok (.iload 4, 2) := by decide +kernel
theorem dX6_findCapsBehind_16 : decode cX6_findCapsBehind 16 = .ok (.aload_n 0, 1) := by decide +kernel
theorem dX6_findCapsBehind_17 : decode cX6_findCapsBehind 17 = .ok (.getfield 53, 3) := by decide +kernel
theorem dX6_findCapsBehind_20 : decode cX6_findCapsBehind 20 = .ok (.getfield 76, 3) := by decide +kernel
theorem dX6_findCapsBehind_23 : decode cX6_findCapsBehind 23 = .ok (.if_icmp .ge 24, 3) := by decide +kernel
theorem dX6_findCapsBehind_26 : decode cX6_findCapsBehind 26 = .ok (.iload_n 3, 1) := by decide +kernel
theorem dX6_findCapsBehind_27 : decode cX6_findCapsBehind 27 = .ok (.aload_n 0, 1) := by decide +kernel
theorem dX6_findCapsBehind_28 : decode cX6_findCapsBehind 28 = .ok (.getfield 53, 3) := by decide +kernel
theorem dX6_findCapsBehind_31 : decode cX6_findCapsBehind 31 = .ok (.iload 4, 2) := by decide +kernel
theorem dX6_findCapsBehind_33 : decode cX6_findCapsBehind 33 = .ok (.iload_n 2, 1) := by decide +kernel
theorem dX6_findCapsBehind_34 : decode cX6_findCapsBehind 34 = .ok (.invokevirtual 108, 3) := by decide +kernel
theorem dX6_findCapsBehind_37 : decode cX6_findCapsBehind 37 = .ok (.invokestatic 112, 3) := by decide +kernel
theorem dX6_findCapsBehind_40 : decode cX6_findCapsBehind 40 = .ok (.istore_n 3, 1) := by decide +kernel
theorem dX6_findCapsBehind_41 : decode cX6_findCapsBehind 41 = .ok (.iinc 4 1, 3) := by decide +kernel
theorem dX6_findCapsBehind_44 : decode cX6_findCapsBehind 44 = .ok (.goto (-30), 3) := by decide +kernel
theorem dX6_findCapsBehind_47 : decode cX6_findCapsBehind 47 = .ok (.aload_n 0, 1) := by decide +kernel
theorem dX6_findCapsBehind_48 : decode cX6_findCapsBehind 48 = .ok (.getfield 29, 3) := by decide +kernel
theorem dX6_findCapsBehind_51 : decode cX6_findCapsBehind 51 = .ok (.iload_n 2, 1) := by decide +kernel
theorem dX6_findCapsBehind_52 : decode cX6_findCapsBehind 52 = .ok (.iload_n 3, 1) := by decide +kernel
theorem dX6_findCapsBehind_53 : decode cX6_findCapsBehind 53 = .ok (.iconst 1, 1) := by decide +kernel
theorem dX6_findCapsBehind_54 : decode cX6_findCapsBehind 54 = .ok (.iadd, 1) := by decide +kernel
theorem dX6_findCapsBehind_55 : decode cX6_findCapsBehind 55 = .ok (.iastore, 1) := by decide +kernel
theorem dX6_findCapsBehind_56 : decode cX6_findCapsBehind 56 = .ok (.iinc 2 1, 3) := by decide +kernel
theorem dX6_findCapsBehind_59 : decode cX6_findCapsBehind 59 = .ok (.goto (-57), 3) := by decide +kernel
theorem dX6_findCapsBehind_62 : decode cX6_findCapsBehind 62 = .ok (.return_, 1) := by decide +kernel
theorem dX6_passLine_0 : decode cX6_passLine 0 = .ok (.aload_n 0, 1) := by decide +kernel
theorem dX6_passLine_1 : decode cX6_passLine 1 = .ok (.getfield 9, 3) := by decide +kernel
theorem dX6_passLine_4 : decode cX6_passLine 4 = .ok (.iload_n 1, 1) := by decide +kernel
theorem dX6_passLine_5 : decode cX6_passLine 5 = .ok (.baload, 1) := by decide +kernel
theorem dX6_passLine_6 : decode cX6_passLine 6 = .ok (.ifCond .eq 7, 3) := by decide +kernel
theorem dX6_passLine_9 : decode cX6_passLine 9 = .ok (.iconst 0, 1) := by decide +kernel
theorem dX6_passLine_10 : decode cX6_passLine 10 = .ok (.goto 4, 3) := by decide +kernel
theorem dX6_passLine_13 : decode cX6_passLine 13 = .ok (.iconst 3, 1) := by decide +kernel
theorem dX6_passLine_14 : decode cX6_passLine 14 = .ok (.istore_n 2, 1) := by decide +kernel
theorem dX6_passLine_15 : decode cX6_passLine 15 = .ok (.aload_n 0, 1) := by decide +kernel
theorem dX6_passLine_16 : decode cX6_passLine 16 = .ok (.iconst 0, 1) := by decide +kernel
theorem dX6_passLine_17 : decode cX6_passLine 17 = .ok (.putfield 50, 3) := by decide +kernel
theorem dX6_passLine_20 : decode cX6_passLine 20 = .ok (.iconst 0, 1) := by decide +kernel
theorem dX6_passLine_21 : decode cX6_passLine 21 = .ok (.istore_n 3, 1) := by decide +kernel
theorem dX6_passLine_22 : decode cX6_passLine 22 = .ok (.iload_n 3, 1) := by decide +kernel
theorem dX6_passLine_23 : decode cX6_passLine 23 = .ok (.aload_n 0, 1) := by decide +kernel
theorem dX6_passLine_24 : decode cX6_passLine 24 = .ok (.getfield 47, 3) := by decide +kernel
theorem dX6_passLine_27 : decode cX6_passLine 27 = .ok (.if_icmp .ge 87, 3) := by decide +kernel
theorem dX6_passLine_30 : decode cX6_passLine 30 = .ok (.aload_n 0, 1) := by decide +kernel
theorem dX6_passLine_31 : decode cX6_passLine 31 = .ok (.getfield 41, 3) := by decide +kernel
theorem dX6_passLine_34 : decode cX6_passLine 34 = .ok (.iload_n 3, 1) := by decide +kernel
theorem dX6_passLine_35 : decode cX6_passLine 35 = .ok (.iaload, 1) := by decide +kernel
theorem dX6_passLine_36 : decode cX6_passLine 36 = .ok (.istore 4, 2) := by decide +kernel
theorem dX6_passLine_38 : decode cX6_passLine 38 = .ok (.aload_n 0, 1) := by decide +kernel
theorem dX6_passLine_39 : decode cX6_passLine 39 = .ok (.getfield 34, 3) := by decide +kernel
theorem dX6_passLine_42 : decode cX6_passLine 42 = .ok (.iload 4, 2) := by decide +kernel
theorem dX6_passLine_44 : decode cX6_passLine 44 = .ok (.laload, 1) := by decide +kernel
theorem dX6_passLine_45 : decode cX6_passLine 45 = .ok (.lstore 5, 2) := by decide +kernel
theorem dX6_passLine_47 : decode cX6_passLine 47 = .ok (.aload_n 0, 1) := by decide +kernel
theorem dX6_passLine_48 : decode cX6_passLine 48 = .ok (.getfield 34, 3) := by decide +kernel
theorem dX6_passLine_51 : decode cX6_passLine 51 = .ok (.iload 4, 2) := by decide +kernel
theorem dX6_passLine_53 : decode cX6_passLine 53 = .ok (.ldc2_w 68, 3) := by decide +kernel
theorem dX6_passLine_56 : decode cX6_passLine 56 = .ok (.lastore, 1) := by decide +kernel
theorem dX6_passLine_57 : decode cX6_passLine 57 = .ok (.iconst 0, 1) := by decide +kernel
theorem dX6_passLine_58 : decode cX6_passLine 58 = .ok (.istore 7, 2) := by decide +kernel
theorem dX6_passLine_60 : decode cX6_passLine 60 = .ok (.iload 7, 2) := by decide +kernel
theorem dX6_passLine_62 : decode cX6_passLine 62 = .ok (.iload_n 2, 1) := by decide +kernel
theorem dX6_passLine_63 : decode cX6_passLine 63 = .ok (.if_icmp .gt 45, 3) := by decide +kernel
theorem dX6_passLine_66 : decode cX6_passLine 66 = .ok (.aload_n 0, 1) := by decide +kernel
theorem dX6_passLine_67 : decode cX6_passLine 67 = .ok (.getfield 64, 3) := by decide +kernel
theorem dX6_passLine_70 : decode cX6_passLine 70 = .ok (.iload 4, 2) := by decide +kernel
theorem dX6_passLine_72 : decode cX6_passLine 72 = .ok (.invokevirtual 117, 3) := by decide +kernel
theorem dX6_passLine_75 : decode cX6_passLine 75 = .ok (.iload 7, 2) := by decide +kernel
theorem dX6_passLine_77 : decode cX6_passLine 77 = .ok (.ifCond .eq 16, 3) := by decide +kernel
theorem dX6_passLine_80 : decode cX6_passLine 80 = .ok (.aload_n 0, 1) := by decide +kernel
theorem dX6_passLine_81 : decode cX6_passLine 81 = .ok (.getfield 64, 3) := by decide +kernel
theorem dX6_passLine_84 : decode cX6_passLine 84 = .ok (.iload_n 1, 1) := by decide +kernel
theorem dX6_passLine_85 : decode cX6_passLine 85 = .ok (.iload 7, 2) := by decide +kernel
theorem dX6_passLine_87 : decode cX6_passLine 87 = .ok (.invokevirtual 120, 3) := by decide +kernel
theorem dX6_passLine_90 : decode cX6_passLine 90 = .ok (.ifCond .eq 12, 3) := by decide +kernel
theorem dX6_passLine_93 : decode cX6_passLine 93 = .ok (.aload_n 0, 1) := by decide +kernel
theorem dX6_passLine_94 : decode cX6_passLine 94 = .ok (.iload_n 1, 1) := by decide +kernel
theorem dX6_passLine_95 : decode cX6_passLine 95 = .ok (.iload 7, 2) := by decide +kernel
theorem dX6_passLine_97 : decode cX6_passLine 97 = .ok (.lload 5, 2) := by decide +kernel
theorem dX6_passLine_99 : decode cX6_passLine 99 = .ok (.invokevirtual 123, 3) := by decide +kernel
theorem dX6_passLine_102 : decode cX6_passLine 102 = .ok (.iinc 7 1, 3) := by decide +kernel
theorem dX6_passLine_105 : decode cX6_passLine 105 = .ok (.goto (-45), 3) := by decide +kernel
theorem dX6_passLine_108 : decode cX6_passLine 108 = .ok (.iinc 3 1, 3) := by decide +kernel
theorem dX6_passLine_111 : decode cX6_passLine 111 = .ok (.goto (-89), 3) := by decide +kernel
theorem dX6_passLine_114 : decode cX6_passLine 114 = .ok (.aload_n 0, 1) := by decide +kernel
theorem dX6_passLine_115 : decode cX6_passLine 115 = .ok (.invokevirtual 127, 3) := by decide +kernel
theorem dX6_passLine_118 : decode cX6_passLine 118 = .ok (.return_, 1) := by decide +kernel
theorem dX6_offer_0 : decode cX6_offer 0 = .ok (.iload_n 2, 1) := by decide +kernel
theorem dX6_offer_1 : decode cX6_offer 1 = .ok (.ifCond .ne 12, 3) := by decide +kernel
theorem dX6_offer_4 : decode cX6_offer 4 = .ok (.aload_n 0, 1) := by decide +kernel
theorem dX6_offer_5 : decode cX6_offer 5 = .ok (.iload_n 1, 1) := by decide +kernel
theorem dX6_offer_6 : decode cX6_offer 6 = .ok (.invokevirtual 130, 3) := by decide +kernel
theorem dX6_offer_9 : decode cX6_offer 9 = .ok (.i2l, 1) := by decide +kernel
theorem dX6_offer_10 : decode cX6_offer 10 = .ok (.goto 10, 3) := by decide +kernel
theorem dX6_offer_13 : decode cX6_offer 13 = .ok (.aload_n 0, 1) := by decide +kernel
theorem dX6_offer_14 : decode cX6_offer 14 = .ok (.iload_n 1, 1) := by decide +kernel
theorem dX6_offer_15 : decode cX6_offer 15 = .ok (.iload_n 2, 1) := by decide +kernel
theorem dX6_offer_16 : decode cX6_offer 16 = .ok (.invokevirtual 134, 3) := by decide +kernel
theorem dX6_offer_19 : decode cX6_offer 19 = .ok (.i2l, 1) := by decide +kernel
theorem dX6_offer_20 : decode cX6_offer 20 = .ok (.lstore 5, 2) := by decide +kernel
theorem dX6_offer_22 : decode cX6_offer 22 = .ok (.iload_n 2, 1) := by decide +kernel
theorem dX6_offer_23 : decode cX6_offer 23 = .ok (.i2l, 1) := by decide +kernel
theorem dX6_offer_24 : decode cX6_offer 24 = .ok (.iconst 2, 1) := by decide +kernel
theorem dX6_offer_25 : decode cX6_offer 25 = .ok (.bipush 19, 2) := by decide +kernel
theorem dX6_offer_27 : decode cX6_offer 27 = .ok (.iload_n 1, 1) := by decide +kernel
theorem dX6_offer_28 : decode cX6_offer 28 = .ok (.isub, 1) := by decide +kernel
theorem dX6_offer_29 : decode cX6_offer 29 = .ok (.imul, 1) := by decide +kernel
theorem dX6_offer_30 : decode cX6_offer 30 = .ok (.lshl, 1) := by decide +kernel
theorem dX6_offer_31 : decode cX6_offer 31 = .ok (.lstore 7, 2) := by decide +kernel
theorem dX6_offer_33 : decode cX6_offer 33 = .ok (.iload_n 2, 1) := by decide +kernel
theorem dX6_offer_34 : decode cX6_offer 34 = .ok (.ifCond .le 12, 3) := by decide +kernel
theorem dX6_offer_37 : decode cX6_offer 37 = .ok (.aload_n 0, 1) := by decide +kernel
theorem dX6_offer_38 : decode cX6_offer 38 = .ok (.getfield 64, 3) := by decide +kernel
theorem dX6_offer_41 : decode cX6_offer 41 = .ok (.iload_n 1, 1) := by decide +kernel
theorem dX6_offer_42 : decode cX6_offer 42 = .ok (.iload_n 2, 1) := by decide +kernel
theorem dX6_offer_43 : decode cX6_offer 43 = .ok (.invokevirtual 137, 3) := by decide +kernel
theorem dX6_offer_46 : decode cX6_offer 46 = .ok (.aload_n 0, 1) := by decide +kernel
theorem dX6_offer_47 : decode cX6_offer 47 = .ok (.getfield 64, 3) := by decide +kernel
theorem dX6_offer_50 : decode cX6_offer 50 = .ok (.aload_n 0, 1) := by decide +kernel
theorem dX6_offer_51 : decode cX6_offer 51 = .ok (.getfield 29, 3) := by decide +kernel
theorem dX6_offer_54 : decode cX6_offer 54 = .ok (.invokevirtual 141, 3) := by decide +kernel
theorem dX6_offer_57 : decode cX6_offer 57 = .ok (.istore 9, 2) := by decide +kernel
theorem dX6_offer_59 : decode cX6_offer 59 = .ok (.aload_n 0, 1) := by decide +kernel
theorem dX6_offer_60 : decode cX6_offer 60 = .ok (.getfield 38, 3) := by decide +kernel
theorem dX6_offer_63 : decode cX6_offer 63 = .ok (.iload 9, 2) := by decide +kernel
theorem dX6_offer_65 : decode cX6_offer 65 = .ok (.laload, 1) := by decide +kernel
theorem dX6_offer_66 : decode cX6_offer 66 = .ok (.ldc2_w 68, 3) := by decide +kernel
theorem dX6_offer_69 : decode cX6_offer 69 = .ok (.lcmp, 1) := by decide +kernel
theorem dX6_offer_70 : decode cX6_offer 70 = .ok (.ifCond .ne 24, 3) := by decide +kernel
theorem dX6_offer_73 : decode cX6_offer 73 = .ok (.aload_n 0, 1) := by decide +kernel
theorem dX6_offer_74 : decode cX6_offer 74 = .ok (.getfield 44, 3) := by decide +kernel
theorem dX6_offer_77 : decode cX6_offer 77 = .ok (.aload_n 0, 1) := by decide +kernel
theorem dX6_offer_78 : decode cX6_offer 78 = .ok (.getfield 50, 3) := by decide +kernel
theorem dX6_offer_81 : decode cX6_offer 81 = .ok (.iload 9, 2) := by decide +kernel
theorem dX6_offer_83 : decode cX6_offer 83 = .ok (.iastore, 1) := by decide +kernel
theorem dX6_offer_84 : decode cX6_offer 84 = .ok (.aload_n 0, 1) := by decide +kernel
theorem dX6_offer_85 : decode cX6_offer 85 = .ok (.dup, 1) := by decide +kernel
theorem dX6_offer_86 : decode cX6_offer 86 = .ok (.getfield 50, 3) := by decide +kernel
theorem dX6_offer_89 : decode cX6_offer 89 = .ok (.iconst 1, 1) := by decide +kernel
theorem dX6_offer_90 : decode cX6_offer 90 = .ok (.iadd, 1) := by decide +kernel
theorem dX6_offer_91 : decode cX6_offer 91 = .ok (.putfield 50, 3) := by decide +kernel
theorem dX6_offer_94 : decode cX6_offer 94 = .ok (.aload_n 0, 1) := by decide +kernel
theorem dX6_offer_95 : decode cX6_offer 95 = .ok (.getfield 38, 3) := by decide +kernel
theorem dX6_offer_98 : decode cX6_offer 98 = .ok (.iload 9, 2) := by decide +kernel
theorem dX6_offer_100 : decode cX6_offer 100 = .ok (.aload_n 0, 1) := by decide +kernel
theorem dX6_offer_101 : decode cX6_offer 101 = .ok (.getfield 38, 3) := by decide +kernel
theorem dX6_offer_104 : decode cX6_offer 104 = .ok (.iload 9, 2) := by decide +kernel
theorem dX6_offer_106 : decode cX6_offer 106 = .ok (.laload, 1) := by decide +kernel
theorem dX6_offer_107 : decode cX6_offer 107 = .ok (.lload_n 3, 1) := by decide +kernel
theorem dX6_offer_108 : decode cX6_offer 108 = .ok (.lload 5, 2) := by decide +kernel
theorem dX6_offer_110 : decode cX6_offer 110 = .ok (.bipush 40, 2) := by decide +kernel
theorem dX6_offer_112 : decode cX6_offer 112 = .ok (.lshl, 1) := by decide +kernel
theorem dX6_offer_113 : decode cX6_offer 113 = .ok (.ladd, 1) := by decide +kernel
theorem dX6_offer_114 : decode cX6_offer 114 = .ok (.lload 7, 2) := by decide +kernel
theorem dX6_offer_116 : decode cX6_offer 116 = .ok (.ladd, 1) := by decide +kernel
theorem dX6_offer_117 : decode cX6_offer 117 = .ok (.invokestatic 145, 3) := by decide +kernel
theorem dX6_offer_120 : decode cX6_offer 120 = .ok (.lastore, 1) := by decide +kernel
theorem dX6_offer_121 : decode cX6_offer 121 = .ok (.return_, 1) := by decide +kernel
theorem dX6_textCost_0 : decode cX6_textCost 0 = .ok (.aload_n 0, 1) := by decide +kernel
theorem dX6_textCost_1 : decode cX6_textCost 1 = .ok (.getfield 9, 3) := by decide +kernel
theorem dX6_textCost_4 : decode cX6_textCost 4 = .ok (.iload_n 1, 1) := by decide +kernel
theorem dX6_textCost_5 : decode cX6_textCost 5 = .ok (.baload, 1) := by decide +kernel
theorem dX6_textCost_6 : decode cX6_textCost 6 = .ok (.ifCond .eq 7, 3) := by decide +kernel
theorem dX6_textCost_9 : decode cX6_textCost 9 = .ok (.iconst 0, 1) := by decide +kernel
theorem dX6_textCost_10 : decode cX6_textCost 10 = .ok (.goto 21, 3) := by decide +kernel
theorem dX6_textCost_13 : decode cX6_textCost 13 = .ok (.aload_n 0, 1) := by decide +kernel
theorem dX6_textCost_14 : decode cX6_textCost 14 = .ok (.getfield 53, 3) := by decide +kernel
theorem dX6_textCost_17 : decode cX6_textCost 17 = .ok (.iload_n 1, 1) := by decide +kernel
theorem dX6_textCost_18 : decode cX6_textCost 18 = .ok (.invokevirtual 149, 3) := by decide +kernel
theorem dX6_textCost_21 : decode cX6_textCost 21 = .ok (.aload_n 0, 1) := by decide +kernel
theorem dX6_textCost_22 : decode cX6_textCost 22 = .ok (.getfield 57, 3) := by decide +kernel
theorem dX6_textCost_25 : decode cX6_textCost 25 = .ok (.getfield 152, 3) := by decide +kernel
theorem dX6_textCost_28 : decode cX6_textCost 28 = .ok (.iconst 0, 1) := by decide +kernel
theorem dX6_textCost_29 : decode cX6_textCost 29 = .ok (.iaload, 1) := by decide +kernel
theorem dX6_textCost_30 : decode cX6_textCost 30 = .ok (.imul, 1) := by decide +kernel
theorem dX6_textCost_31 : decode cX6_textCost 31 = .ok (.ireturn, 1) := by decide +kernel
theorem dX6_headCost_0 : decode cX6_headCost 0 = .ok (.aload_n 0, 1) := by decide +kernel
theorem dX6_headCost_1 : decode cX6_headCost 1 = .ok (.getfield 53, 3) := by decide +kernel
theorem dX6_headCost_4 : decode cX6_headCost 4 = .ok (.iload_n 1, 1) := by decide +kernel
theorem dX6_headCost_5 : decode cX6_headCost 5 = .ok (.invokevirtual 149, 3) := by decide +kernel
theorem dX6_headCost_8 : decode cX6_headCost 8 = .ok (.aload_n 0, 1) := by decide +kernel
theorem dX6_headCost_9 : decode cX6_headCost 9 = .ok (.getfield 57, 3) := by decide +kernel
theorem dX6_headCost_12 : decode cX6_headCost 12 = .ok (.getfield 155, 3) := by decide +kernel
theorem dX6_headCost_15 : decode cX6_headCost 15 = .ok (.iload_n 2, 1) := by decide +kernel
theorem dX6_headCost_16 : decode cX6_headCost 16 = .ok (.iaload, 1) := by decide +kernel
theorem dX6_headCost_17 : decode cX6_headCost 17 = .ok (.isub, 1) := by decide +kernel
theorem dX6_headCost_18 : decode cX6_headCost 18 = .ok (.invokestatic 158, 3) := by decide +kernel
theorem dX6_headCost_21 : decode cX6_headCost 21 = .ok (.istore_n 3, 1) := by decide +kernel
theorem dX6_headCost_22 : decode cX6_headCost 22 = .ok (.aload_n 0, 1) := by decide +kernel
theorem dX6_headCost_23 : decode cX6_headCost 23 = .ok (.getfield 57, 3) := by decide +kernel
theorem dX6_headCost_26 : decode cX6_headCost 26 = .ok (.getfield 152, 3) := by decide +kernel
theorem dX6_headCost_29 : decode cX6_headCost 29 = .ok (.iconst 1, 1) := by decide +kernel
theorem dX6_headCost_30 : decode cX6_headCost 30 = .ok (.iaload, 1) := by decide +kernel
theorem dX6_headCost_31 : decode cX6_headCost 31 = .ok (.iload_n 3, 1) := by decide +kernel
theorem dX6_headCost_32 : decode cX6_headCost 32 = .ok (.imul, 1) := by decide +kernel
theorem dX6_headCost_33 : decode cX6_headCost 33 = .ok (.istore 4, 2) := by decide +kernel
theorem dX6_headCost_35 : decode cX6_headCost 35 = .ok (.aload_n 0, 1) := by decide +kernel
theorem dX6_headCost_36 : decode cX6_headCost 36 = .ok (.getfield 53, 3) := by decide +kernel
theorem dX6_headCost_39 : decode cX6_headCost 39 = .ok (.getfield 161, 3) := by decide +kernel
theorem dX6_headCost_42 : decode cX6_headCost 42 = .ok (.iload_n 1, 1) := by decide +kernel
theorem dX6_headCost_43 : decode cX6_headCost 43 = .ok (.iaload, 1) := by decide +kernel
theorem dX6_headCost_44 : decode cX6_headCost 44 = .ok (.ifCond .ne 16, 3) := by decide +kernel
theorem dX6_headCost_47 : decode cX6_headCost 47 = .ok (.iload 4, 2) := by decide +kernel
theorem dX6_headCost_49 : decode cX6_headCost 49 = .ok (.aload_n 0, 1) := by decide +kernel
theorem dX6_headCost_50 : decode cX6_headCost 50 = .ok (.getfield 57, 3) := by decide +kernel
theorem dX6_headCost_53 : decode cX6_headCost 53 = .ok (.getfield 152, 3) := by decide +kernel
theorem dX6_headCost_56 : decode cX6_headCost 56 = .ok (.iconst 3, 1) := by decide +kernel
theorem dX6_headCost_57 : decode cX6_headCost 57 = .ok (.iaload, 1) := by decide +kernel
theorem dX6_headCost_58 : decode cX6_headCost 58 = .ok (.iadd, 1) := by decide +kernel
theorem dX6_headCost_59 : decode cX6_headCost 59 = .ok (.ireturn, 1) := by decide +kernel
theorem dX6_headCost_60 : decode cX6_headCost 60 = .ok (.aload_n 0, 1) := by decide +kernel
theorem dX6_headCost_61 : decode cX6_headCost 61 = .ok (.getfield 53, 3) := by decide +kernel
theorem dX6_headCost_64 : decode cX6_headCost 64 = .ok (.iload_n 1, 1) := by decide +kernel
theorem dX6_headCost_65 : decode cX6_headCost 65 = .ok (.iload_n 2, 1) := by decide +kernel
theorem dX6_headCost_66 : decode cX6_headCost 66 = .ok (.invokevirtual 108, 3) := by decide +kernel
theorem dX6_headCost_69 : decode cX6_headCost 69 = .ok (.aload_n 0, 1) := by decide +kernel
theorem dX6_headCost_70 : decode cX6_headCost 70 = .ok (.getfield 64, 3) := by decide +kernel
theorem dX6_headCost_73 : decode cX6_headCost 73 = .ok (.getfield 164, 3) := by decide +kernel
theorem dX6_headCost_76 : decode cX6_headCost 76 = .ok (.iload_n 2, 1) := by decide +kernel
theorem dX6_headCost_77 : decode cX6_headCost 77 = .ok (.iaload, 1) := by decide +kernel
theorem dX6_headCost_78 : decode cX6_headCost 78 = .ok (.iconst 1, 1) := by decide +kernel
theorem dX6_headCost_79 : decode cX6_headCost 79 = .ok (.iadd, 1) := by decide +kernel
theorem dX6_headCost_80 : decode cX6_headCost 80 = .ok (.if_icmp .ne 7, 3) := by decide +kernel
theorem dX6_headCost_83 : decode cX6_headCost 83 = .ok (.iconst 1, 1) := by decide +kernel
theorem dX6_headCost_84 : decode cX6_headCost 84 = .ok (.goto 4, 3) := by decide +kernel
theorem dX6_headCost_87 : decode cX6_headCost 87 = .ok (.iconst 0, 1) := by decide +kernel
theorem dX6_headCost_88 : decode cX6_headCost 88 = .ok (.istore 5, 2) := by decide +kernel
theorem dX6_headCost_90 : decode cX6_headCost 90 = .ok (.iload 5, 2) := by decide +kernel
theorem dX6_headCost_92 : decode cX6_headCost 92 = .ok (.ifCond .eq 8, 3) := by decide +kernel
theorem dX6_headCost_95 : decode cX6_headCost 95 = .ok (.iload 4, 2) := by decide +kernel
theorem dX6_headCost_97 : decode cX6_headCost 97 = .ok (.goto 15, 3) := by decide +kernel
theorem dX6_headCost_100 : decode cX6_headCost 100 = .ok (.iload 4, 2) := by decide +kernel
theorem dX6_headCost_102 : decode cX6_headCost 102 = .ok (.aload_n 0, 1) := by decide +kernel
theorem dX6_headCost_103 : decode cX6_headCost 103 = .ok (.getfield 57, 3) := by decide +kernel
theorem dX6_headCost_106 : decode cX6_headCost 106 = .ok (.getfield 152, 3) := by decide +kernel
theorem dX6_headCost_109 : decode cX6_headCost 109 = .ok (.iconst 2, 1) := by decide +kernel
theorem dX6_headCost_110 : decode cX6_headCost 110 = .ok (.iaload, 1) := by decide +kernel
theorem dX6_headCost_111 : decode cX6_headCost 111 = .ok (.iadd, 1) := by decide +kernel
theorem dX6_headCost_112 : decode cX6_headCost 112 = .ok (.ireturn, 1) := by decide +kernel
theorem dX6_swapRows_0 : decode cX6_swapRows 0 = .ok (.aload_n 0, 1) := by decide +kernel
theorem dX6_swapRows_1 : decode cX6_swapRows 1 = .ok (.getfield 34, 3) := by decide +kernel
theorem dX6_swapRows_4 : decode cX6_swapRows 4 = .ok (.astore_n 1, 1) := by decide +kernel
theorem dX6_swapRows_5 : decode cX6_swapRows 5 = .ok (.aload_n 0, 1) := by decide +kernel
theorem dX6_swapRows_6 : decode cX6_swapRows 6 = .ok (.aload_n 0, 1) := by decide +kernel
theorem dX6_swapRows_7 : decode cX6_swapRows 7 = .ok (.getfield 38, 3) := by decide +kernel
theorem dX6_swapRows_10 : decode cX6_swapRows 10 = .ok (.putfield 34, 3) := by decide +kernel
theorem dX6_swapRows_13 : decode cX6_swapRows 13 = .ok (.aload_n 0, 1) := by decide +kernel
theorem dX6_swapRows_14 : decode cX6_swapRows 14 = .ok (.aload_n 1, 1) := by decide +kernel
theorem dX6_swapRows_15 : decode cX6_swapRows 15 = .ok (.putfield 38, 3) := by decide +kernel
theorem dX6_swapRows_18 : decode cX6_swapRows 18 = .ok (.aload_n 0, 1) := by decide +kernel
theorem dX6_swapRows_19 : decode cX6_swapRows 19 = .ok (.getfield 41, 3) := by decide +kernel
theorem dX6_swapRows_22 : decode cX6_swapRows 22 = .ok (.astore_n 2, 1) := by decide +kernel
theorem dX6_swapRows_23 : decode cX6_swapRows 23 = .ok (.aload_n 0, 1) := by decide +kernel
theorem dX6_swapRows_24 : decode cX6_swapRows 24 = .ok (.aload_n 0, 1) := by decide +kernel
theorem dX6_swapRows_25 : decode cX6_swapRows 25 = .ok (.getfield 44, 3) := by decide +kernel
theorem dX6_swapRows_28 : decode cX6_swapRows 28 = .ok (.putfield 41, 3) := by decide +kernel
theorem dX6_swapRows_31 : decode cX6_swapRows 31 = .ok (.aload_n 0, 1) := by decide +kernel
theorem dX6_swapRows_32 : decode cX6_swapRows 32 = .ok (.aload_n 2, 1) := by decide +kernel
theorem dX6_swapRows_33 : decode cX6_swapRows 33 = .ok (.putfield 44, 3) := by decide +kernel
theorem dX6_swapRows_36 : decode cX6_swapRows 36 = .ok (.aload_n 0, 1) := by decide +kernel
theorem dX6_swapRows_37 : decode cX6_swapRows 37 = .ok (.aload_n 0, 1) := by decide +kernel
theorem dX6_swapRows_38 : decode cX6_swapRows 38 = .ok (.getfield 50, 3) := by decide +kernel
theorem dX6_swapRows_41 : decode cX6_swapRows 41 = .ok (.putfield 47, 3) := by decide +kernel
theorem dX6_swapRows_44 : decode cX6_swapRows 44 = .ok (.return_, 1) := by decide +kernel
theorem dX6_takeLeastKey_0 : decode cX6_takeLeastKey 0 = .ok (.ldc2_w 68, 3) := by decide +kernel
theorem dX6_takeLeastKey_3 : decode cX6_takeLeastKey 3 = .ok (.lstore_n 1, 1) := by decide +kernel
theorem dX6_takeLeastKey_4 : decode cX6_takeLeastKey 4 = .ok (.iconst 0, 1) := by decide +kernel
theorem dX6_takeLeastKey_5 : decode cX6_takeLeastKey 5 = .ok (.istore_n 3, 1) := by decide +kernel
theorem dX6_takeLeastKey_6 : decode cX6_takeLeastKey 6 = .ok (.iload_n 3, 1) := by decide +kernel
theorem dX6_takeLeastKey_7 : decode cX6_takeLeastKey 7 = .ok (.aload_n 0, 1) := by decide +kernel
theorem dX6_takeLeastKey_8 : decode cX6_takeLeastKey 8 = .ok (.getfield 47, 3) := by decide +kernel
theorem dX6_takeLeastKey_11 : decode cX6_takeLeastKey 11 = .ok (.if_icmp .ge 39, 3) := by decide +kernel
theorem dX6_takeLeastKey_14 : decode cX6_takeLeastKey 14 = .ok (.lload_n 1, 1) := by decide +kernel
theorem dX6_takeLeastKey_15 : decode cX6_takeLeastKey 15 = .ok (.aload_n 0, 1) := by decide +kernel
theorem dX6_takeLeastKey_16 : decode cX6_takeLeastKey 16 = .ok (.getfield 34, 3) := by decide +kernel
theorem dX6_takeLeastKey_19 : decode cX6_takeLeastKey 19 = .ok (.aload_n 0, 1) := by decide +kernel
theorem dX6_takeLeastKey_20 : decode cX6_takeLeastKey 20 = .ok (.getfield 41, 3) := by decide +kernel
theorem dX6_takeLeastKey_23 : decode cX6_takeLeastKey 23 = .ok (.iload_n 3, 1) := by decide +kernel
theorem dX6_takeLeastKey_24 : decode cX6_takeLeastKey 24 = .ok (.iaload, 1) := by decide +kernel
theorem dX6_takeLeastKey_25 : decode cX6_takeLeastKey 25 = .ok (.laload, 1) := by decide +kernel
theorem dX6_takeLeastKey_26 : decode cX6_takeLeastKey 26 = .ok (.invokestatic 145, 3) := by decide +kernel
theorem dX6_takeLeastKey_29 : decode cX6_takeLeastKey 29 = .ok (.lstore_n 1, 1) := by decide +kernel
theorem dX6_takeLeastKey_30 : decode cX6_takeLeastKey 30 = .ok (.aload_n 0, 1) := by decide +kernel
theorem dX6_takeLeastKey_31 : decode cX6_takeLeastKey 31 = .ok (.getfield 34, 3) := by decide +kernel
theorem dX6_takeLeastKey_34 : decode cX6_takeLeastKey 34 = .ok (.aload_n 0, 1) := by decide +kernel
theorem dX6_takeLeastKey_35 : decode cX6_takeLeastKey 35 = .ok (.getfield 41, 3) := by decide +kernel
theorem dX6_takeLeastKey_38 : decode cX6_takeLeastKey 38 = .ok (.iload_n 3, 1) := by decide +kernel
theorem dX6_takeLeastKey_39 : decode cX6_takeLeastKey 39 = .ok (.iaload, 1) := by decide +kernel
theorem dX6_takeLeastKey_40 : decode cX6_takeLeastKey 40 = .ok (.ldc2_w 68, 3) := by decide +kernel
theorem dX6_takeLeastKey_43 : decode cX6_takeLeastKey 43 = .ok (.lastore, 1) := by decide +kernel
theorem dX6_takeLeastKey_44 : decode cX6_takeLeastKey 44 = .ok (.iinc 3 1, 3) := by decide +kernel
theorem dX6_takeLeastKey_47 : decode cX6_takeLeastKey 47 = .ok (.goto (-41), 3) := by decide +kernel
theorem dX6_takeLeastKey_50 : decode cX6_takeLeastKey 50 = .ok (.lload_n 1, 1) := by decide +kernel
theorem dX6_takeLeastKey_51 : decode cX6_takeLeastKey 51 = .ok (.lreturn, 1) := by decide +kernel
theorem dX6_tellLevels_0 : decode cX6_tellLevels 0 = .ok (.aload_n 0, 1) := by decide +kernel
theorem dX6_tellLevels_1 : decode cX6_tellLevels 1 = .ok (.lload_n 1, 1) := by decide +kernel
theorem dX6_tellLevels_2 : decode cX6_tellLevels 2 = .ok (.bipush 40, 2) := by decide +kernel
theorem dX6_tellLevels_4 : decode cX6_tellLevels 4 = .ok (.lshr, 1) := by decide +kernel
theorem dX6_tellLevels_5 : decode cX6_tellLevels 5 = .ok (.l2i, 1) := by decide +kernel
theorem dX6_tellLevels_6 : decode cX6_tellLevels 6 = .ok (.putfield 26, 3) := by decide +kernel
theorem dX6_tellLevels_9 : decode cX6_tellLevels 9 = .ok (.aload_n 0, 1) := by decide +kernel
theorem dX6_tellLevels_10 : decode cX6_tellLevels 10 = .ok (.iconst 0, 1) := by decide +kernel
theorem dX6_tellLevels_11 : decode cX6_tellLevels 11 = .ok (.putfield 22, 3) := by decide +kernel
theorem dX6_tellLevels_14 : decode cX6_tellLevels 14 = .ok (.iconst 0, 1) := by decide +kernel
theorem dX6_tellLevels_15 : decode cX6_tellLevels 15 = .ok (.istore_n 3, 1) := by decide +kernel
theorem dX6_tellLevels_16 : decode cX6_tellLevels 16 = .ok (.iload_n 3, 1) := by decide +kernel
theorem dX6_tellLevels_17 : decode cX6_tellLevels 17 = .ok (.aload_n 0, 1) := by decide +kernel
theorem dX6_tellLevels_18 : decode cX6_tellLevels 18 = .ok (.getfield 53, 3) := by decide +kernel
theorem dX6_tellLevels_21 : decode cX6_tellLevels 21 = .ok (.getfield 76, 3) := by decide +kernel
theorem dX6_tellLevels_24 : decode cX6_tellLevels 24 = .ok (.if_icmp .ge 51, 3) := by decide +kernel
theorem dX6_tellLevels_27 : decode cX6_tellLevels 27 = .ok (.aload_n 0, 1) := by decide +kernel
theorem dX6_tellLevels_28 : decode cX6_tellLevels 28 = .ok (.getfield 15, 3) := by decide +kernel
theorem dX6_tellLevels_31 : decode cX6_tellLevels 31 = .ok (.iload_n 3, 1) := by decide +kernel
theorem dX6_tellLevels_32 : decode cX6_tellLevels 32 = .ok (.lload_n 1, 1) := by decide +kernel
theorem dX6_tellLevels_33 : decode cX6_tellLevels 33 = .ok (.iconst 2, 1) := by decide +kernel
theorem dX6_tellLevels_34 : decode cX6_tellLevels 34 = .ok (.bipush 19, 2) := by decide +kernel
theorem dX6_tellLevels_36 : decode cX6_tellLevels 36 = .ok (.iload_n 3, 1) := by decide +kernel
theorem dX6_tellLevels_37 : decode cX6_tellLevels 37 = .ok (.isub, 1) := by decide +kernel
theorem dX6_tellLevels_38 : decode cX6_tellLevels 38 = .ok (.imul, 1) := by decide +kernel
theorem dX6_tellLevels_39 : decode cX6_tellLevels 39 = .ok (.lshr, 1) := by decide +kernel
theorem dX6_tellLevels_40 : decode cX6_tellLevels 40 = .ok (.ldc2_w 167, 3) := by decide +kernel
theorem dX6_tellLevels_43 : decode cX6_tellLevels 43 = .ok (.land, 1) := by decide +kernel
theorem dX6_tellLevels_44 : decode cX6_tellLevels 44 = .ok (.l2i, 1) := by decide +kernel
theorem dX6_tellLevels_45 : decode cX6_tellLevels 45 = .ok (.iastore, 1) := by decide +kernel
theorem dX6_tellLevels_46 : decode cX6_tellLevels 46 = .ok (.aload_n 0, 1) := by decide +kernel
theorem dX6_tellLevels_47 : decode cX6_tellLevels 47 = .ok (.dup, 1) := by decide +kernel
theorem dX6_tellLevels_48 : decode cX6_tellLevels 48 = .ok (.getfield 22, 3) := by decide +kernel
theorem dX6_tellLevels_51 : decode cX6_tellLevels 51 = .ok (.aload_n 0, 1) := by decide +kernel
theorem dX6_tellLevels_52 : decode cX6_tellLevels 52 = .ok (.getfield 15, 3) := by decide +kernel
theorem dX6_tellLevels_55 : decode cX6_tellLevels 55 = .ok (.iload_n 3, 1) := by decide +kernel
theorem dX6_tellLevels_56 : decode cX6_tellLevels 56 = .ok (.iaload, 1) := by decide +kernel
theorem dX6_tellLevels_57 : decode cX6_tellLevels 57 = .ok (.ifCond .le 7, 3) := by decide +kernel
theorem dX6_tellLevels_60 : decode cX6_tellLevels 60 = .ok (.iconst 1, 1) := by decide +kernel
theorem dX6_tellLevels_61 : decode cX6_tellLevels 61 = .ok (.goto 4, 3) := by decide +kernel
theorem dX6_tellLevels_64 : decode cX6_tellLevels 64 = .ok (.iconst 0, 1) := by decide +kernel
theorem dX6_tellLevels_65 : decode cX6_tellLevels 65 = .ok (.iadd, 1) := by decide +kernel
theorem dX6_tellLevels_66 : decode cX6_tellLevels 66 = .ok (.putfield 22, 3) := by decide +kernel
theorem dX6_tellLevels_69 : decode cX6_tellLevels 69 = .ok (.iinc 3 1, 3) := by decide +kernel
theorem dX6_tellLevels_72 : decode cX6_tellLevels 72 = .ok (.goto (-56), 3) := by decide +kernel
theorem dX6_tellLevels_75 : decode cX6_tellLevels 75 = .ok (.return_, 1) := by decide +kernel
theorem dX6_tellCounters_0 : decode cX6_tellCounters 0 = .ok (.aload_n 0, 1) := by decide +kernel
theorem dX6_tellCounters_1 : decode cX6_tellCounters 1 = .ok (.getfield 64, 3) := by decide +kernel
theorem dX6_tellCounters_4 : decode cX6_tellCounters 4 = .ok (.iconst 0, 1) := by decide +kernel
theorem dX6_tellCounters_5 : decode cX6_tellCounters 5 = .ok (.invokevirtual 117, 3) := by decide +kernel
theorem dX6_tellCounters_8 : decode cX6_tellCounters 8 = .ok (.iconst 0, 1) := by decide +kernel
theorem dX6_tellCounters_9 : decode cX6_tellCounters 9 = .ok (.istore_n 1, 1) := by decide +kernel
theorem dX6_tellCounters_10 : decode cX6_tellCounters 10 = .ok (.iload_n 1, 1) := by decide +kernel
theorem dX6_tellCounters_11 : decode cX6_tellCounters 11 = .ok (.aload_n 0, 1) := by decide +kernel
theorem dX6_tellCounters_12 : decode cX6_tellCounters 12 = .ok (.getfield 53, 3) := by decide +kernel
theorem dX6_tellCounters_15 : decode cX6_tellCounters 15 = .ok (.getfield 76, 3) := by decide +kernel
theorem dX6_tellCounters_18 : decode cX6_tellCounters 18 = .ok (.if_icmp .ge 66, 3) := by decide +kernel
theorem dX6_tellCounters_21 : decode cX6_tellCounters 21 = .ok (.aload_n 0, 1) := by decide +kernel
theorem dX6_tellCounters_22 : decode cX6_tellCounters 22 = .ok (.getfield 15, 3) := by decide +kernel
theorem dX6_tellCounters_25 : decode cX6_tellCounters 25 = .ok (.iload_n 1, 1) := by decide +kernel
theorem dX6_tellCounters_26 : decode cX6_tellCounters 26 = .ok (.iaload, 1) := by decide +kernel
theorem dX6_tellCounters_27 : decode cX6_tellCounters 27 = .ok (.ifCond .le 17, 3) := by decide +kernel
theorem dX6_tellCounters_30 : decode cX6_tellCounters 30 = .ok (.aload_n 0, 1) := by decide +kernel
theorem dX6_tellCounters_31 : decode cX6_tellCounters 31 = .ok (.getfield 64, 3) := by decide +kernel
theorem dX6_tellCounters_34 : decode cX6_tellCounters 34 = .ok (.iload_n 1, 1) := by decide +kernel
theorem dX6_tellCounters_35 : decode cX6_tellCounters 35 = .ok (.aload_n 0, 1) := by decide +kernel
theorem dX6_tellCounters_36 : decode cX6_tellCounters 36 = .ok (.getfield 15, 3) := by decide +kernel
theorem dX6_tellCounters_39 : decode cX6_tellCounters 39 = .ok (.iload_n 1, 1) := by decide +kernel
theorem dX6_tellCounters_40 : decode cX6_tellCounters 40 = .ok (.iaload, 1) := by decide +kernel
theorem dX6_tellCounters_41 : decode cX6_tellCounters 41 = .ok (.invokevirtual 137, 3) := by decide +kernel
theorem dX6_tellCounters_44 : decode cX6_tellCounters 44 = .ok (.iconst 1, 1) := by decide +kernel
theorem dX6_tellCounters_45 : decode cX6_tellCounters 45 = .ok (.istore_n 2, 1) := by decide +kernel
theorem dX6_tellCounters_46 : decode cX6_tellCounters 46 = .ok (.iload_n 2, 1) := by decide +kernel
theorem dX6_tellCounters_47 : decode cX6_tellCounters 47 = .ok (.iconst 3, 1) := by decide +kernel
theorem dX6_tellCounters_48 : decode cX6_tellCounters 48 = .ok (.if_icmp .gt 30, 3) := by decide +kernel
theorem dX6_tellCounters_51 : decode cX6_tellCounters 51 = .ok (.aload_n 0, 1) := by decide +kernel
theorem dX6_tellCounters_52 : decode cX6_tellCounters 52 = .ok (.getfield 19, 3) := by decide +kernel
theorem dX6_tellCounters_55 : decode cX6_tellCounters 55 = .ok (.iload_n 1, 1) := by decide +kernel
theorem dX6_tellCounters_56 : decode cX6_tellCounters 56 = .ok (.iconst 3, 1) := by decide +kernel
theorem dX6_tellCounters_57 : decode cX6_tellCounters 57 = .ok (.imul, 1) := by decide +kernel
theorem dX6_tellCounters_58 : decode cX6_tellCounters 58 = .ok (.iload_n 2, 1) := by decide +kernel
theorem dX6_tellCounters_59 : decode cX6_tellCounters 59 = .ok (.iadd, 1) := by decide +kernel
theorem dX6_tellCounters_60 : decode cX6_tellCounters 60 = .ok (.iconst 1, 1) := by decide +kernel
theorem dX6_tellCounters_61 : decode cX6_tellCounters 61 = .ok (.isub, 1) := by decide +kernel
theorem dX6_tellCounters_62 : decode cX6_tellCounters 62 = .ok (.aload_n 0, 1) := by decide +kernel
theorem dX6_tellCounters_63 : decode cX6_tellCounters 63 = .ok (.getfield 64, 3) := by decide +kernel
theorem dX6_tellCounters_66 : decode cX6_tellCounters 66 = .ok (.getfield 164, 3) := by decide +kernel
theorem dX6_tellCounters_69 : decode cX6_tellCounters 69 = .ok (.iload_n 2, 1) := by decide +kernel
theorem dX6_tellCounters_70 : decode cX6_tellCounters 70 = .ok (.iaload, 1) := by decide +kernel
theorem dX6_tellCounters_71 : decode cX6_tellCounters 71 = .ok (.iastore, 1) := by decide +kernel
theorem dX6_tellCounters_72 : decode cX6_tellCounters 72 = .ok (.iinc 2 1, 3) := by decide +kernel
theorem dX6_tellCounters_75 : decode cX6_tellCounters 75 = .ok (.goto (-29), 3) := by decide +kernel
theorem dX6_tellCounters_78 : decode cX6_tellCounters 78 = .ok (.iinc 1 1, 3) := by decide +kernel
theorem dX6_tellCounters_81 : decode cX6_tellCounters 81 = .ok (.goto (-71), 3) := by decide +kernel
theorem dX6_tellCounters_84 : decode cX6_tellCounters 84 = .ok (.return_, 1) := by decide +kernel
theorem dX6_lastPage_0 : decode cX6_lastPage 0 = .ok (.aload_n 0, 1) := by decide +kernel
theorem dX6_lastPage_1 : decode cX6_lastPage 1 = .ok (.getfield 15, 3) := by decide +kernel
theorem dX6_lastPage_4 : decode cX6_lastPage 4 = .ok (.iload_n 1, 1) := by decide +kernel
theorem dX6_lastPage_5 : decode cX6_lastPage 5 = .ok (.iaload, 1) := by decide +kernel
theorem dX6_lastPage_6 : decode cX6_lastPage 6 = .ok (.ifCond .ne 5, 3) := by decide +kernel
theorem dX6_lastPage_9 : decode cX6_lastPage 9 = .ok (.iconst (-1), 1) := by decide +kernel
theorem dX6_lastPage_10 : decode cX6_lastPage 10 = .ok (.ireturn, 1) := by decide +kernel
theorem dX6_lastPage_11 : decode cX6_lastPage 11 = .ok (.iload_n 1, 1) := by decide +kernel
theorem dX6_lastPage_12 : decode cX6_lastPage 12 = .ok (.iconst 1, 1) := by decide +kernel
theorem dX6_lastPage_13 : decode cX6_lastPage 13 = .ok (.iadd, 1) := by decide +kernel
theorem dX6_lastPage_14 : decode cX6_lastPage 14 = .ok (.istore_n 3, 1) := by decide +kernel
theorem dX6_lastPage_15 : decode cX6_lastPage 15 = .ok (.iload_n 3, 1) := by decide +kernel
theorem dX6_lastPage_16 : decode cX6_lastPage 16 = .ok (.aload_n 0, 1) := by decide +kernel
theorem dX6_lastPage_17 : decode cX6_lastPage 17 = .ok (.getfield 53, 3) := by decide +kernel
theorem dX6_lastPage_20 : decode cX6_lastPage 20 = .ok (.getfield 76, 3) := by decide +kernel
theorem dX6_lastPage_23 : decode cX6_lastPage 23 = .ok (.if_icmp .ge 43, 3) := by decide +kernel
theorem dX6_lastPage_26 : decode cX6_lastPage 26 = .ok (.aload_n 0, 1) := by decide +kernel
theorem dX6_lastPage_27 : decode cX6_lastPage 27 = .ok (.getfield 15, 3) := by decide +kernel
theorem dX6_lastPage_30 : decode cX6_lastPage 30 = .ok (.iload_n 3, 1) := by decide +kernel
theorem dX6_lastPage_31 : decode cX6_lastPage 31 = .ok (.iaload, 1) := by decide +kernel
theorem dX6_lastPage_32 : decode cX6_lastPage 32 = .ok (.ifCond .le 28, 3) := by decide +kernel
theorem dX6_lastPage_35 : decode cX6_lastPage 35 = .ok (.aload_n 0, 1) := by decide +kernel
theorem dX6_lastPage_36 : decode cX6_lastPage 36 = .ok (.getfield 15, 3) := by decide +kernel
theorem dX6_lastPage_39 : decode cX6_lastPage 39 = .ok (.iload_n 3, 1) := by decide +kernel
theorem dX6_lastPage_40 : decode cX6_lastPage 40 = .ok (.iaload, 1) := by decide +kernel
theorem dX6_lastPage_41 : decode cX6_lastPage 41 = .ok (.aload_n 0, 1) := by decide +kernel
theorem dX6_lastPage_42 : decode cX6_lastPage 42 = .ok (.getfield 15, 3) := by decide +kernel
theorem dX6_lastPage_45 : decode cX6_lastPage 45 = .ok (.iload_n 1, 1) := by decide +kernel
theorem dX6_lastPage_46 : decode cX6_lastPage 46 = .ok (.iaload, 1) := by decide +kernel
theorem dX6_lastPage_47 : decode cX6_lastPage 47 = .ok (.if_icmp .gt 13, 3) := by decide +kernel
theorem dX6_lastPage_50 : decode cX6_lastPage 50 = .ok (.aload_n 0, 1) := by decide +kernel
theorem dX6_lastPage_51 : decode cX6_lastPage 51 = .ok (.getfield 53, 3) := by decide +kernel
theorem dX6_lastPage_54 : decode cX6_lastPage 54 = .ok (.getfield 169, 3) := by decide +kernel
theorem dX6_lastPage_57 : decode cX6_lastPage 57 = .ok (.iload_n 3, 1) := by decide +kernel
theorem dX6_lastPage_58 : decode cX6_lastPage 58 = .ok (.iaload, 1) := by decide +kernel
theorem dX6_lastPage_59 : decode cX6_lastPage 59 = .ok (.ireturn, 1) := by decide +kernel
theorem dX6_lastPage_60 : decode cX6_lastPage 60 = .ok (.iinc 3 1, 3) := by decide +kernel
theorem dX6_lastPage_63 : decode cX6_lastPage 63 = .ok (.goto (-48), 3) := by decide +kernel
theorem dX6_lastPage_66 : decode cX6_lastPage 66 = .ok (.iload_n 2, 1) := by decide +kernel
theorem dX6_lastPage_67 : decode cX6_lastPage 67 = .ok (.ireturn, 1) := by decide +kernel
theorem dX6_headAbove_0 : decode cX6_headAbove 0 = .ok (.iload_n 1, 1) := by decide +kernel
theorem dX6_headAbove_1 : decode cX6_headAbove 1 = .ok (.iconst 1, 1) := by decide +kernel
theorem dX6_headAbove_2 : decode cX6_headAbove 2 = .ok (.isub, 1) := by decide +kernel
theorem dX6_headAbove_3 : decode cX6_headAbove 3 = .ok (.istore_n 2, 1) := by decide +kernel
theorem dX6_headAbove_4 : decode cX6_headAbove 4 = .ok (.iload_n 2, 1) := by decide +kernel
theorem dX6_headAbove_5 : decode cX6_headAbove 5 = .ok (.ifCond .lt 35, 3) := by decide +kernel
theorem dX6_headAbove_8 : decode cX6_headAbove 8 = .ok (.aload_n 0, 1) := by decide +kernel
theorem dX6_headAbove_9 : decode cX6_headAbove 9 = .ok (.getfield 15, 3) := by decide +kernel
theorem dX6_headAbove_12 : decode cX6_headAbove 12 = .ok (.iload_n 2, 1) := by decide +kernel
theorem dX6_headAbove_13 : decode cX6_headAbove 13 = .ok (.iaload, 1) := by decide +kernel
theorem dX6_headAbove_14 : decode cX6_headAbove 14 = .ok (.ifCond .le 20, 3) := by decide +kernel
theorem dX6_headAbove_17 : decode cX6_headAbove 17 = .ok (.aload_n 0, 1) := by decide +kernel
theorem dX6_headAbove_18 : decode cX6_headAbove 18 = .ok (.getfield 15, 3) := by decide +kernel
theorem dX6_headAbove_21 : decode cX6_headAbove 21 = .ok (.iload_n 2, 1) := by decide +kernel
theorem dX6_headAbove_22 : decode cX6_headAbove 22 = .ok (.iaload, 1) := by decide +kernel
theorem dX6_headAbove_23 : decode cX6_headAbove 23 = .ok (.aload_n 0, 1) := by decide +kernel
theorem dX6_headAbove_24 : decode cX6_headAbove 24 = .ok (.getfield 15, 3) := by decide +kernel
theorem dX6_headAbove_27 : decode cX6_headAbove 27 = .ok (.iload_n 1, 1) := by decide +kernel
theorem dX6_headAbove_28 : decode cX6_headAbove 28 = .ok (.iaload, 1) := by decide +kernel
theorem dX6_headAbove_29 : decode cX6_headAbove 29 = .ok (.if_icmp .ge 5, 3) := by decide +kernel
theorem dX6_headAbove_32 : decode cX6_headAbove 32 = .ok (.iload_n 2, 1) := by decide +kernel
theorem dX6_headAbove_33 : decode cX6_headAbove 33 = .ok (.ireturn, 1) := by decide +kernel
theorem dX6_headAbove_34 : decode cX6_headAbove 34 = .ok (.iinc 2 (-1), 3) := by decide +kernel
theorem dX6_headAbove_37 : decode cX6_headAbove 37 = .ok (.goto (-33), 3) := by decide +kernel
theorem dX6_headAbove_40 : decode cX6_headAbove 40 = .ok (.iconst (-1), 1) := by decide +kernel
theorem dX6_headAbove_41 : decode cX6_headAbove 41 = .ok (.ireturn, 1) := by decide +kernel
theorem dX7_init_0 : decode cX7_init 0 = .ok (.aload_n 0, 1) := by decide +kernel
theorem dX7_init_1 : decode cX7_init 1 = .ok (.invokespecial 1, 3) := by decide +kernel
theorem dX7_init_4 : decode cX7_init 4 = .ok (.new 7, 3) := by decide +kernel
theorem dX7_init_7 : decode cX7_init 7 = .ok (.dup, 1) := by decide +kernel
theorem dX7_init_8 : decode cX7_init 8 = .ok (.invokespecial 9, 3) := by decide +kernel
theorem dX7_init_11 : decode cX7_init 11 = .ok (.astore_n 1, 1) := by decide +kernel
theorem dX7_init_12 : decode cX7_init 12 = .ok (.new 10, 3) := by decide +kernel
theorem dX7_init_15 : decode cX7_init 15 = .ok (.dup, 1) := by decide +kernel
theorem dX7_init_16 : decode cX7_init 16 = .ok (.invokespecial 12, 3) := by decide +kernel
theorem dX7_init_19 : decode cX7_init 19 = .ok (.astore_n 2, 1) := by decide +kernel
theorem dX7_init_20 : decode cX7_init 20 = .ok (.new 13, 3) := by decide +kernel
theorem dX7_init_23 : decode cX7_init 23 = .ok (.dup, 1) := by decide +kernel
theorem dX7_init_24 : decode cX7_init 24 = .ok (.invokespecial 15, 3) := by decide +kernel
theorem dX7_init_27 : decode cX7_init 27 = .ok (.astore_n 3, 1) := by decide +kernel
theorem dX7_init_28 : decode cX7_init 28 = .ok (.new 16, 3) := by decide +kernel
theorem dX7_init_31 : decode cX7_init 31 = .ok (.dup, 1) := by decide +kernel
theorem dX7_init_32 : decode cX7_init 32 = .ok (.aload_n 3, 1) := by decide +kernel
theorem dX7_init_33 : decode cX7_init 33 = .ok (.aload_n 1, 1) := by decide +kernel
theorem dX7_init_34 : decode cX7_init 34 = .ok (.invokespecial 18, 3) := by decide +kernel
theorem dX7_init_37 : decode cX7_init 37 = .ok (.astore 4, 2) := by decide +kernel
theorem dX7_init_39 : decode cX7_init 39 = .ok (.aload_n 0, 1) := by decide +kernel
theorem dX7_init_40 : decode cX7_init 40 = .ok (.aload_n 1, 1) := by decide +kernel
theorem dX7_init_41 : decode cX7_init 41 = .ok (.putfield 21, 3) := by decide +kernel
theorem dX7_init_44 : decode cX7_init 44 = .ok (.aload_n 0, 1) := by decide +kernel
theorem dX7_init_45 : decode cX7_init 45 = .ok (.aload_n 2, 1) := by decide +kernel
theorem dX7_init_46 : decode cX7_init 46 = .ok (.putfield 27, 3) := by decide +kernel
theorem dX7_init_49 : decode cX7_init 49 = .ok (.aload_n 0, 1) := by decide +kernel
theorem dX7_init_50 : decode cX7_init 50 = .ok (.aload_n 3, 1) := by decide +kernel
theorem dX7_init_51 : decode cX7_init 51 = .ok (.putfield 31, 3) := by decide +kernel
theorem dX7_init_54 : decode cX7_init 54 = .ok (.aload_n 0, 1) := by decide +kernel
theorem dX7_init_55 : decode cX7_init 55 = .ok (.aload 4, 2) := by decide +kernel
theorem dX7_init_57 : decode cX7_init 57 = .ok (.putfield 35, 3) := by decide +kernel
theorem dX7_init_60 : decode cX7_init 60 = .ok (.aload_n 0, 1) := by decide +kernel
theorem dX7_init_61 : decode cX7_init 61 = .ok (.new 39, 3) := by decide +kernel
theorem dX7_init_64 : decode cX7_init 64 = .ok (.dup, 1) := by decide +kernel
theorem dX7_init_65 : decode cX7_init 65 = .ok (.aload_n 3, 1) := by decide +kernel
theorem dX7_init_66 : decode cX7_init 66 = .ok (.aload_n 2, 1) := by decide +kernel
theorem dX7_init_67 : decode cX7_init 67 = .ok (.aload 4, 2) := by decide +kernel
theorem dX7_init_69 : decode cX7_init 69 = .ok (.aload_n 1, 1) := by decide +kernel
theorem dX7_init_70 : decode cX7_init 70 = .ok (.invokespecial 41, 3) := by decide +kernel
theorem dX7_init_73 : decode cX7_init 73 = .ok (.putfield 44, 3) := by decide +kernel
theorem dX7_init_76 : decode cX7_init 76 = .ok (.aload_n 0, 1) := by decide +kernel
theorem dX7_init_77 : decode cX7_init 77 = .ok (.new 48, 3) := by decide +kernel
theorem dX7_init_80 : decode cX7_init 80 = .ok (.dup, 1) := by decide +kernel
theorem dX7_init_81 : decode cX7_init 81 = .ok (.aload_n 2, 1) := by decide +kernel
theorem dX7_init_82 : decode cX7_init 82 = .ok (.aload_n 1, 1) := by decide +kernel
theorem dX7_init_83 : decode cX7_init 83 = .ok (.invokespecial 50, 3) := by decide +kernel
theorem dX7_init_86 : decode cX7_init 86 = .ok (.putfield 53, 3) := by decide +kernel
theorem dX7_init_89 : decode cX7_init 89 = .ok (.aload_n 0, 1) := by decide +kernel
theorem dX7_init_90 : decode cX7_init 90 = .ok (.iconst 1, 1) := by decide +kernel
theorem dX7_init_91 : decode cX7_init 91 = .ok (.putfield 57, 3) := by decide +kernel
theorem dX7_init_94 : decode cX7_init 94 = .ok (.aload_n 0, 1) := by decide +kernel
theorem dX7_init_95 : decode cX7_init 95 = .ok (.iconst 1, 1) := by decide +kernel
theorem dX7_init_96 : decode cX7_init 96 = .ok (.putfield 61, 3) := by decide +kernel
theorem dX7_init_99 : decode cX7_init 99 = .ok (.aload_n 0, 1) := by decide +kernel
theorem dX7_init_100 : decode cX7_init 100 = .ok (.iconst 1, 1) := by decide +kernel
theorem dX7_init_101 : decode cX7_init 101 = .ok (.putfield 64, 3) := by decide +kernel
theorem dX7_init_104 : decode cX7_init 104 = .ok (.return_, 1) := by decide +kernel
theorem dX7_book_0 : decode cX7_book 0 = .ok (.iload_n 1, 1) := by decide +kernel
theorem dX7_book_1 : decode cX7_book 1 = .ok (.iconst 1, 1) := by decide +kernel
theorem dX7_book_2 : decode cX7_book 2 = .ok (.bipush 60, 2) := by decide +kernel
theorem dX7_book_4 : decode cX7_book 4 = .ok (.invokestatic 67, 3) := by decide +kernel
theorem dX7_book_7 : decode cX7_book 7 = .ok (.ifCond .ne 5, 3) := by decide +kernel
theorem dX7_book_10 : decode cX7_book 10 = .ok (.iconst 0, 1) := by decide +kernel
theorem dX7_book_11 : decode cX7_book 11 = .ok (.ireturn, 1) := by decide +kernel
theorem dX7_book_12 : decode cX7_book 12 = .ok (.aload_n 0, 1) := by decide +kernel
theorem dX7_book_13 : decode cX7_book 13 = .ok (.getfield 27, 3) := by decide +kernel
theorem dX7_book_16 : decode cX7_book 16 = .ok (.iload_n 1, 1) := by decide +kernel
theorem dX7_book_17 : decode cX7_book 17 = .ok (.invokevirtual 71, 3) := by decide +kernel
theorem dX7_book_20 : decode cX7_book 20 = .ok (.aload_n 0, 1) := by decide +kernel
theorem dX7_book_21 : decode cX7_book 21 = .ok (.getfield 31, 3) := by decide +kernel
theorem dX7_book_24 : decode cX7_book 24 = .ok (.iconst 0, 1) := by decide +kernel
theorem dX7_book_25 : decode cX7_book 25 = .ok (.putfield 75, 3) := by decide +kernel
theorem dX7_book_28 : decode cX7_book 28 = .ok (.aload_n 0, 1) := by decide +kernel
theorem dX7_book_29 : decode cX7_book 29 = .ok (.getfield 44, 3) := by decide +kernel
theorem dX7_book_32 : decode cX7_book 32 = .ok (.iconst 0, 1) := by decide +kernel
theorem dX7_book_33 : decode cX7_book 33 = .ok (.putfield 79, 3) := by decide +kernel
theorem dX7_book_36 : decode cX7_book 36 = .ok (.aload_n 0, 1) := by decide +kernel
theorem dX7_book_37 : decode cX7_book 37 = .ok (.invokevirtual 80, 3) := by decide +kernel
theorem dX7_book_40 : decode cX7_book 40 = .ok (.iconst 1, 1) := by decide +kernel
theorem dX7_book_41 : decode cX7_book 41 = .ok (.ireturn, 1) := by decide +kernel
theorem dX7_read_0 : decode cX7_read 0 = .ok (.aload_n 0, 1) := by decide +kernel
theorem dX7_read_1 : decode cX7_read 1 = .ok (.getfield 27, 3) := by decide +kernel
theorem dX7_read_4 : decode cX7_read 4 = .ok (.iload_n 1, 1) := by decide +kernel
theorem dX7_read_5 : decode cX7_read 5 = .ok (.invokevirtual 83, 3) := by decide +kernel
theorem dX7_read_8 : decode cX7_read 8 = .ok (.ifCond .eq 14, 3) := by decide +kernel
theorem dX7_read_11 : decode cX7_read 11 = .ok (.iload_n 2, 1) := by decide +kernel
theorem dX7_read_12 : decode cX7_read 12 = .ok (.iconst 0, 1) := by decide +kernel
theorem dX7_read_13 : decode cX7_read 13 = .ok (.sipush 999, 3) := by decide +kernel
theorem dX7_read_16 : decode cX7_read 16 = .ok (.invokestatic 67, 3) := by decide +kernel
theorem dX7_read_19 : decode cX7_read 19 = .ok (.ifCond .ne 5, 3) := by decide +kernel
theorem dX7_read_22 : decode cX7_read 22 = .ok (.iconst 0, 1) := by decide +kernel
theorem dX7_read_23 : decode cX7_read 23 = .ok (.ireturn, 1) := by decide +kernel
theorem dX7_read_24 : decode cX7_read 24 = .ok (.aload_n 0, 1) := by decide +kernel
theorem dX7_read_25 : decode cX7_read 25 = .ok (.getfield 27, 3) := by decide +kernel
theorem dX7_read_28 : decode cX7_read 28 = .ok (.getfield 87, 3) := by decide +kernel
theorem dX7_read_31 : decode cX7_read 31 = .ok (.iload_n 1, 1) := by decide +kernel
theorem dX7_read_32 : decode cX7_read 32 = .ok (.iload_n 2, 1) := by decide +kernel
theorem dX7_read_33 : decode cX7_read 33 = .ok (.iastore, 1) := by decide +kernel
theorem dX7_read_34 : decode cX7_read 34 = .ok (.aload_n 0, 1) := by decide +kernel
theorem dX7_read_35 : decode cX7_read 35 = .ok (.iconst 1, 1) := by decide +kernel
theorem dX7_read_36 : decode cX7_read 36 = .ok (.putfield 61, 3) := by decide +kernel
theorem dX7_read_39 : decode cX7_read 39 = .ok (.aload_n 0, 1) := by decide +kernel
theorem dX7_read_40 : decode cX7_read 40 = .ok (.iconst 1, 1) := by decide +kernel
theorem dX7_read_41 : decode cX7_read 41 = .ok (.putfield 64, 3) := by decide +kernel
theorem dX7_read_44 : decode cX7_read 44 = .ok (.iconst 1, 1) := by decide +kernel
theorem dX7_read_45 : decode cX7_read 45 = .ok (.ireturn, 1) := by decide +kernel
theorem dX7_line_0 : decode cX7_line 0 = .ok (.aload_n 0, 1) := by decide +kernel
theorem dX7_line_1 : decode cX7_line 1 = .ok (.getfield 27, 3) := by decide +kernel
theorem dX7_line_4 : decode cX7_line 4 = .ok (.iload_n 1, 1) := by decide +kernel
theorem dX7_line_5 : decode cX7_line 5 = .ok (.invokevirtual 83, 3) := by decide +kernel
theorem dX7_line_8 : decode cX7_line 8 = .ok (.ifCond .eq 14, 3) := by decide +kernel
theorem dX7_line_11 : decode cX7_line 11 = .ok (.aload_n 0, 1) := by decide +kernel
theorem dX7_line_12 : decode cX7_line 12 = .ok (.getfield 31, 3) := by decide +kernel
theorem dX7_line_15 : decode cX7_line 15 = .ok (.iload_n 1, 1) := by decide +kernel
theorem dX7_line_16 : decode cX7_line 16 = .ok (.invokevirtual 91, 3) := by decide +kernel
theorem dX7_line_19 : decode cX7_line 19 = .ok (.ifCond .ne 5, 3) := by decide +kernel
theorem dX7_line_22 : decode cX7_line 22 = .ok (.iconst (-1), 1) := by decide +kernel
theorem dX7_line_23 : decode cX7_line 23 = .ok (.ireturn, 1) := by decide +kernel
theorem dX7_line_24 : decode cX7_line 24 = .ok (.iload_n 2, 1) := by decide +kernel
theorem dX7_line_25 : decode cX7_line 25 = .ok (.iconst 0, 1) := by decide +kernel
theorem dX7_line_26 : decode cX7_line 26 = .ok (.bipush 9, 2) := by decide +kernel
theorem dX7_line_28 : decode cX7_line 28 = .ok (.invokestatic 67, 3) := by decide +kernel
theorem dX7_line_31 : decode cX7_line 31 = .ok (.ifCond .eq 13, 3) := by decide +kernel
theorem dX7_line_34 : decode cX7_line 34 = .ok (.iload_n 3, 1) := by decide +kernel
theorem dX7_line_35 : decode cX7_line 35 = .ok (.iconst 0, 1) := by decide +kernel
theorem dX7_line_36 : decode cX7_line 36 = .ok (.bipush 9, 2) := by decide +kernel
theorem dX7_line_38 : decode cX7_line 38 = .ok (.invokestatic 67, 3) := by decide +kernel
theorem dX7_line_41 : decode cX7_line 41 = .ok (.ifCond .ne 5, 3) := by decide +kernel
theorem dX7_line_44 : decode cX7_line 44 = .ok (.iconst (-1), 1) := by decide +kernel
theorem dX7_line_45 : decode cX7_line 45 = .ok (.ireturn, 1) := by decide +kernel
theorem dX7_line_46 : decode cX7_line 46 = .ok (.iload 5, 2) := by decide +kernel
theorem dX7_line_48 : decode cX7_line 48 = .ok (.invokestatic 94, 3) := by decide +kernel
theorem dX7_line_51 : decode cX7_line 51 = .ok (.ifCond .eq 19, 3) := by decide +kernel
theorem dX7_line_54 : decode cX7_line 54 = .ok (.iload 6, 2) := by decide +kernel
theorem dX7_line_56 : decode cX7_line 56 = .ok (.invokestatic 94, 3) := by decide +kernel
theorem dX7_line_59 : decode cX7_line 59 = .ok (.ifCond .eq 11, 3) := by decide +kernel
theorem dX7_line_62 : decode cX7_line 62 = .ok (.iload 7, 2) := by decide +kernel
theorem dX7_line_64 : decode cX7_line 64 = .ok (.invokestatic 97, 3) := by decide +kernel
theorem dX7_line_67 : decode cX7_line 67 = .ok (.ifCond .ne 5, 3) := by decide +kernel
theorem dX7_line_70 : decode cX7_line 70 = .ok (.iconst (-1), 1) := by decide +kernel
theorem dX7_line_71 : decode cX7_line 71 = .ok (.ireturn, 1) := by decide +kernel
theorem dX7_line_72 : decode cX7_line 72 = .ok (.aload_n 0, 1) := by decide +kernel
theorem dX7_line_73 : decode cX7_line 73 = .ok (.getfield 31, 3) := by decide +kernel
theorem dX7_line_76 : decode cX7_line 76 = .ok (.getfield 75, 3) := by decide +kernel
theorem dX7_line_79 : decode cX7_line 79 = .ok (.istore 8, 2) := by decide +kernel
theorem dX7_line_81 : decode cX7_line 81 = .ok (.aload_n 0, 1) := by decide +kernel
theorem dX7_line_82 : decode cX7_line 82 = .ok (.getfield 31, 3) := by decide +kernel
theorem dX7_line_85 : decode cX7_line 85 = .ok (.getfield 100, 3) := by decide +kernel
theorem dX7_line_88 : decode cX7_line 88 = .ok (.iload 8, 2) := by decide +kernel
theorem dX7_line_90 : decode cX7_line 90 = .ok (.iload_n 1, 1) := by decide +kernel
theorem dX7_line_91 : decode cX7_line 91 = .ok (.iastore, 1) := by decide +kernel
theorem dX7_line_92 : decode cX7_line 92 = .ok (.aload_n 0, 1) := by decide +kernel
theorem dX7_line_93 : decode cX7_line 93 = .ok (.getfield 31, 3) := by decide +kernel
theorem dX7_line_96 : decode cX7_line 96 = .ok (.getfield 103, 3) := by decide +kernel
theorem dX7_line_99 : decode cX7_line 99 = .ok (.iload 8, 2) := by decide +kernel
theorem dX7_line_101 : decode cX7_line 101 = .ok (.iload_n 3, 1) := by decide +kernel
theorem dX7_line_102 : decode cX7_line 102 = .ok (.iastore, 1) := by decide +kernel
theorem dX7_line_103 : decode cX7_line 103 = .ok (.aload_n 0, 1) := by decide +kernel
theorem dX7_line_104 : decode cX7_line 104 = .ok (.getfield 31, 3) := by decide +kernel
theorem dX7_line_107 : decode cX7_line 107 = .ok (.getfield 106, 3) := by decide +kernel
theorem dX7_line_110 : decode cX7_line 110 = .ok (.iload 8, 2) := by decide +kernel
theorem dX7_line_112 : decode cX7_line 112 = .ok (.iload 4, 2) := by decide +kernel
theorem dX7_line_114 : decode cX7_line 114 = .ok (.bastore, 1) := by decide +kernel
theorem dX7_line_115 : decode cX7_line 115 = .ok (.aload_n 0, 1) := by decide +kernel
theorem dX7_line_116 : decode cX7_line 116 = .ok (.getfield 31, 3) := by decide +kernel
theorem dX7_line_119 : decode cX7_line 119 = .ok (.getfield 110, 3) := by decide +kernel
theorem dX7_line_122 : decode cX7_line 122 = .ok (.iload 8, 2) := by decide +kernel
theorem dX7_line_124 : decode cX7_line 124 = .ok (.iload 5, 2) := by decide +kernel
theorem dX7_line_126 : decode cX7_line 126 = .ok (.iastore, 1) := by decide +kernel
theorem dX7_line_127 : decode cX7_line 127 = .ok (.aload_n 0, 1) := by decide +kernel
theorem dX7_line_128 : decode cX7_line 128 = .ok (.getfield 31, 3) := by decide +kernel
theorem dX7_line_131 : decode cX7_line 131 = .ok (.getfield 113, 3) := by decide +kernel
theorem dX7_line_134 : decode cX7_line 134 = .ok (.iload 8, 2) := by decide +kernel
theorem dX7_line_136 : decode cX7_line 136 = .ok (.iload 6, 2) := by decide +kernel
theorem dX7_line_138 : decode cX7_line 138 = .ok (.iastore, 1) := by decide +kernel
theorem dX7_line_139 : decode cX7_line 139 = .ok (.aload_n 0, 1) := by decide +kernel
theorem dX7_line_140 : decode cX7_line 140 = .ok (.getfield 31, 3) := by decide +kernel
theorem dX7_line_143 : decode cX7_line 143 = .ok (.iload 8, 2) := by decide +kernel
theorem dX7_line_145 : decode cX7_line 145 = .ok (.iload_n 2, 1) := by decide +kernel
theorem dX7_line_146 : decode cX7_line 146 = .ok (.iload 7, 2) := by decide +kernel
theorem dX7_line_148 : decode cX7_line 148 = .ok (.invokevirtual 116, 3) := by decide +kernel
theorem dX7_line_151 : decode cX7_line 151 = .ok (.aload_n 0, 1) := by decide +kernel
theorem dX7_line_152 : decode cX7_line 152 = .ok (.getfield 31, 3) := by decide +kernel
theorem dX7_line_155 : decode cX7_line 155 = .ok (.iload 8, 2) := by decide +kernel
theorem dX7_line_157 : decode cX7_line 157 = .ok (.iconst 1, 1) := by decide +kernel
theorem dX7_line_158 : decode cX7_line 158 = .ok (.iadd, 1) := by decide +kernel
theorem dX7_line_159 : decode cX7_line 159 = .ok (.putfield 75, 3) := by decide +kernel
theorem dX7_line_162 : decode cX7_line 162 = .ok (.aload_n 0, 1) := by decide +kernel
theorem dX7_line_163 : decode cX7_line 163 = .ok (.iconst 1, 1) := by decide +kernel
theorem dX7_line_164 : decode cX7_line 164 = .ok (.putfield 57, 3) := by decide +kernel
theorem dX7_line_167 : decode cX7_line 167 = .ok (.iload 8, 2) := by decide +kernel
theorem dX7_line_169 : decode cX7_line 169 = .ok (.ireturn, 1) := by decide +kernel
theorem dX7_right_0 : decode cX7_right 0 = .ok (.aload_n 0, 1) := by decide +kernel
theorem dX7_right_1 : decode cX7_right 1 = .ok (.getfield 31, 3) := by decide +kernel
theorem dX7_right_4 : decode cX7_right 4 = .ok (.iload_n 1, 1) := by decide +kernel
theorem dX7_right_5 : decode cX7_right 5 = .ok (.invokevirtual 120, 3) := by decide +kernel
theorem dX7_right_8 : decode cX7_right 8 = .ok (.ifCond .eq 20, 3) := by decide +kernel
theorem dX7_right_11 : decode cX7_right 11 = .ok (.iload_n 2, 1) := by decide +kernel
theorem dX7_right_12 : decode cX7_right 12 = .ok (.iconst 0, 1) := by decide +kernel
theorem dX7_right_13 : decode cX7_right 13 = .ok (.bipush 9, 2) := by decide +kernel
theorem dX7_right_15 : decode cX7_right 15 = .ok (.invokestatic 67, 3) := by decide +kernel
theorem dX7_right_18 : decode cX7_right 18 = .ok (.ifCond .eq 10, 3) := by decide +kernel
theorem dX7_right_21 : decode cX7_right 21 = .ok (.iload_n 3, 1) := by decide +kernel
theorem dX7_right_22 : decode cX7_right 22 = .ok (.invokestatic 97, 3) := by decide +kernel
theorem dX7_right_25 : decode cX7_right 25 = .ok (.ifCond .ne 5, 3) := by decide +kernel
theorem dX7_right_28 : decode cX7_right 28 = .ok (.iconst 0, 1) := by decide +kernel
theorem dX7_right_29 : decode cX7_right 29 = .ok (.ireturn, 1) := by decide +kernel
theorem dX7_right_30 : decode cX7_right 30 = .ok (.aload_n 0, 1) := by decide +kernel
theorem dX7_right_31 : decode cX7_right 31 = .ok (.getfield 31, 3) := by decide +kernel
theorem dX7_right_34 : decode cX7_right 34 = .ok (.iload_n 1, 1) := by decide +kernel
theorem dX7_right_35 : decode cX7_right 35 = .ok (.iload_n 2, 1) := by decide +kernel
theorem dX7_right_36 : decode cX7_right 36 = .ok (.iload_n 3, 1) := by decide +kernel
theorem dX7_right_37 : decode cX7_right 37 = .ok (.invokevirtual 116, 3) := by decide +kernel
theorem dX7_right_40 : decode cX7_right 40 = .ok (.aload_n 0, 1) := by decide +kernel
theorem dX7_right_41 : decode cX7_right 41 = .ok (.iconst 1, 1) := by decide +kernel
theorem dX7_right_42 : decode cX7_right 42 = .ok (.putfield 57, 3) := by decide +kernel
theorem dX7_right_45 : decode cX7_right 45 = .ok (.iconst 1, 1) := by decide +kernel
theorem dX7_right_46 : decode cX7_right 46 = .ok (.ireturn, 1) := by decide +kernel
theorem dX7_drop_0 : decode cX7_drop 0 = .ok (.aload_n 0, 1) := by decide +kernel
theorem dX7_drop_1 : decode cX7_drop 1 = .ok (.getfield 31, 3) := by decide +kernel
theorem dX7_drop_4 : decode cX7_drop 4 = .ok (.getfield 75, 3) := by decide +kernel
theorem dX7_drop_7 : decode cX7_drop 7 = .ok (.ifCond .ne 5, 3) := by decide +kernel
theorem dX7_drop_10 : decode cX7_drop 10 = .ok (.iconst (-1), 1) := by decide +kernel
theorem dX7_drop_11 : decode cX7_drop 11 = .ok (.ireturn, 1) := by decide +kernel
theorem dX7_drop_12 : decode cX7_drop 12 = .ok (.aload_n 0, 1) := by decide +kernel
theorem dX7_drop_13 : decode cX7_drop 13 = .ok (.getfield 31, 3) := by decide +kernel
theorem dX7_drop_16 : decode cX7_drop 16 = .ok (.dup, 1) := by decide +kernel
theorem dX7_drop_17 : decode cX7_drop 17 = .ok (.getfield 75, 3) := by decide +kernel
theorem dX7_drop_20 : decode cX7_drop 20 = .ok (.iconst 1, 1) := by decide +kernel
theorem dX7_drop_21 : decode cX7_drop 21 = .ok (.isub, 1) := by decide +kernel
theorem dX7_drop_22 : decode cX7_drop 22 = .ok (.putfield 75, 3) := by decide +kernel
theorem dX7_drop_25 : decode cX7_drop 25 = .ok (.aload_n 0, 1) := by decide +kernel
theorem dX7_drop_26 : decode cX7_drop 26 = .ok (.iconst 1, 1) := by decide +kernel
theorem dX7_drop_27 : decode cX7_drop 27 = .ok (.putfield 57, 3) := by decide +kernel
theorem dX7_drop_30 : decode cX7_drop 30 = .ok (.aload_n 0, 1) := by decide +kernel
theorem dX7_drop_31 : decode cX7_drop 31 = .ok (.getfield 31, 3) := by decide +kernel
theorem dX7_drop_34 : decode cX7_drop 34 = .ok (.getfield 75, 3) := by decide +kernel
theorem dX7_drop_37 : decode cX7_drop 37 = .ok (.ireturn, 1) := by decide +kernel
theorem dX7_price_0 : decode cX7_price 0 = .ok (.iload_n 1, 1) := by decide +kernel
theorem dX7_price_1 : decode cX7_price 1 = .ok (.iconst 0, 1) := by decide +kernel
theorem dX7_price_2 : decode cX7_price 2 = .ok (.bipush 9, 2) := by decide +kernel
theorem dX7_price_4 : decode cX7_price 4 = .ok (.invokestatic 67, 3) := by decide +kernel
theorem dX7_price_7 : decode cX7_price 7 = .ok (.ifCond .eq 13, 3) := by decide +kernel
theorem dX7_price_10 : decode cX7_price 10 = .ok (.iload_n 2, 1) := by decide +kernel
theorem dX7_price_11 : decode cX7_price 11 = .ok (.iconst 0, 1) := by decide +kernel
theorem dX7_price_12 : decode cX7_price 12 = .ok (.bipush 50, 2) := by decide +kernel
theorem dX7_price_14 : decode cX7_price 14 = .ok (.invokestatic 67, 3) := by decide +kernel
theorem dX7_price_17 : decode cX7_price 17 = .ok (.ifCond .ne 5, 3) := by decide +kernel
theorem dX7_price_20 : decode cX7_price 20 = .ok (.iconst (-1), 1) := by decide +kernel
theorem dX7_price_21 : decode cX7_price 21 = .ok (.ireturn, 1) := by decide +kernel
theorem dX7_price_22 : decode cX7_price 22 = .ok (.aload_n 0, 1) := by decide +kernel
theorem dX7_price_23 : decode cX7_price 23 = .ok (.getfield 21, 3) := by decide +kernel
theorem dX7_price_26 : decode cX7_price 26 = .ok (.getfield 121, 3) := by decide +kernel
theorem dX7_price_29 : decode cX7_price 29 = .ok (.iload_n 1, 1) := by decide +kernel
theorem dX7_price_30 : decode cX7_price 30 = .ok (.iaload, 1) := by decide +kernel
theorem dX7_price_31 : decode cX7_price 31 = .ok (.istore_n 3, 1) := by decide +kernel
theorem dX7_price_32 : decode cX7_price 32 = .ok (.aload_n 0, 1) := by decide +kernel
theorem dX7_price_33 : decode cX7_price 33 = .ok (.getfield 21, 3) := by decide +kernel
theorem dX7_price_36 : decode cX7_price 36 = .ok (.getfield 121, 3) := by decide +kernel
theorem dX7_price_39 : decode cX7_price 39 = .ok (.iload_n 1, 1) := by decide +kernel
theorem dX7_price_40 : decode cX7_price 40 = .ok (.iload_n 2, 1) := by decide +kernel
theorem dX7_price_41 : decode cX7_price 41 = .ok (.iastore, 1) := by decide +kernel
theorem dX7_price_42 : decode cX7_price 42 = .ok (.aload_n 0, 1) := by decide +kernel
theorem dX7_price_43 : decode cX7_price 43 = .ok (.invokevirtual 80, 3) := by decide +kernel
theorem dX7_price_46 : decode cX7_price 46 = .ok (.iload_n 3, 1) := by decide +kernel
theorem dX7_price_47 : decode cX7_price 47 = .ok (.ireturn, 1) := by decide +kernel
theorem dX7_want_0 : decode cX7_want 0 = .ok (.iload_n 1, 1) := by decide +kernel
theorem dX7_want_1 : decode cX7_want 1 = .ok (.ifCond .ne 9, 3) := by decide +kernel
theorem dX7_want_4 : decode cX7_want 4 = .ok (.aload_n 0, 1) := by decide +kernel
theorem dX7_want_5 : decode cX7_want 5 = .ok (.iload_n 2, 1) := by decide +kernel
theorem dX7_want_6 : decode cX7_want 6 = .ok (.invokevirtual 124, 3) := by decide +kernel
theorem dX7_want_9 : decode cX7_want 9 = .ok (.ireturn, 1) := by decide +kernel
theorem dX7_want_10 : decode cX7_want 10 = .ok (.iload_n 1, 1) := by decide +kernel
theorem dX7_want_11 : decode cX7_want 11 = .ok (.iconst 1, 1) := by decide +kernel
theorem dX7_want_12 : decode cX7_want 12 = .ok (.iconst 3, 1) := by decide +kernel
theorem dX7_want_13 : decode cX7_want 13 = .ok (.invokestatic 67, 3) := by decide +kernel
theorem dX7_want_16 : decode cX7_want 16 = .ok (.ifCond .eq 13, 3) := by decide +kernel
theorem dX7_want_19 : decode cX7_want 19 = .ok (.iload_n 2, 1) := by decide +kernel
theorem dX7_want_20 : decode cX7_want 20 = .ok (.iconst 0, 1) := by decide +kernel
theorem dX7_want_21 : decode cX7_want 21 = .ok (.bipush 21, 2) := by decide +kernel
theorem dX7_want_23 : decode cX7_want 23 = .ok (.invokestatic 67, 3) := by decide +kernel
theorem dX7_want_26 : decode cX7_want 26 = .ok (.ifCond .ne 5, 3) := by decide +kernel
theorem dX7_want_29 : decode cX7_want 29 = .ok (.iconst (-1), 1) := by decide +kernel
theorem dX7_want_30 : decode cX7_want 30 = .ok (.ireturn, 1) := by decide +kernel
theorem dX7_want_31 : decode cX7_want 31 = .ok (.aload_n 0, 1) := by decide +kernel
theorem dX7_want_32 : decode cX7_want 32 = .ok (.getfield 21, 3) := by decide +kernel
theorem dX7_want_35 : decode cX7_want 35 = .ok (.getfield 128, 3) := by decide +kernel
theorem dX7_want_38 : decode cX7_want 38 = .ok (.iload_n 1, 1) := by decide +kernel
theorem dX7_want_39 : decode cX7_want 39 = .ok (.iaload, 1) := by decide +kernel
theorem dX7_want_40 : decode cX7_want 40 = .ok (.istore_n 3, 1) := by decide +kernel
theorem dX7_want_41 : decode cX7_want 41 = .ok (.aload_n 0, 1) := by decide +kernel
theorem dX7_want_42 : decode cX7_want 42 = .ok (.getfield 21, 3) := by decide +kernel
theorem dX7_want_45 : decode cX7_want 45 = .ok (.getfield 128, 3) := by decide +kernel
theorem dX7_want_48 : decode cX7_want 48 = .ok (.iload_n 1, 1) := by decide +kernel
theorem dX7_want_49 : decode cX7_want 49 = .ok (.iload_n 2, 1) := by decide +kernel
theorem dX7_want_50 : decode cX7_want 50 = .ok (.iastore, 1) := by decide +kernel
theorem dX7_want_51 : decode cX7_want 51 = .ok (.aload_n 0, 1) := by decide +kernel
theorem dX7_want_52 : decode cX7_want 52 = .ok (.iconst 1, 1) := by decide +kernel
theorem dX7_want_53 : decode cX7_want 53 = .ok (.putfield 57, 3) := by decide +kernel
theorem dX7_want_56 : decode cX7_want 56 = .ok (.iload_n 3, 1) := by decide +kernel
theorem dX7_want_57 : decode cX7_want 57 = .ok (.ireturn, 1) := by decide +kernel
theorem dX7_putMany_0 : decode cX7_putMany 0 = .ok (.iload_n 1, 1) := by decide +kernel
theorem dX7_putMany_1 : decode cX7_putMany 1 = .ok (.iconst 2, 1) := by decide +kernel
theorem dX7_putMany_2 : decode cX7_putMany 2 = .ok (.bipush 60, 2) := by decide +kernel
theorem dX7_putMany_4 : decode cX7_putMany 4 = .ok (.invokestatic 67, 3) := by decide +kernel
theorem dX7_putMany_7 : decode cX7_putMany 7 = .ok (.ifCond .ne 5, 3) := by decide +kernel
theorem dX7_putMany_10 : decode cX7_putMany 10 = .ok (.iconst (-1), 1) := by decide +kernel
theorem dX7_putMany_11 : decode cX7_putMany 11 = .ok (.ireturn, 1) := by decide +kernel
theorem dX7_putMany_12 : decode cX7_putMany 12 = .ok (.aload_n 0, 1) := by decide +kernel
theorem dX7_putMany_13 : decode cX7_putMany 13 = .ok (.getfield 21, 3) := by decide +kernel
theorem dX7_putMany_16 : decode cX7_putMany 16 = .ok (.getfield 131, 3) := by decide +kernel
theorem dX7_putMany_19 : decode cX7_putMany 19 = .ok (.istore_n 2, 1) := by decide +kernel
theorem dX7_putMany_20 : decode cX7_putMany 20 = .ok (.aload_n 0, 1) := by decide +kernel
theorem dX7_putMany_21 : decode cX7_putMany 21 = .ok (.getfield 21, 3) := by decide +kernel
theorem dX7_putMany_24 : decode cX7_putMany 24 = .ok (.iload_n 1, 1) := by decide +kernel
theorem dX7_putMany_25 : decode cX7_putMany 25 = .ok (.putfield 131, 3) := by decide +kernel
theorem dX7_putMany_28 : decode cX7_putMany 28 = .ok (.aload_n 0, 1) := by decide +kernel
theorem dX7_putMany_29 : decode cX7_putMany 29 = .ok (.iconst 1, 1) := by decide +kernel
theorem dX7_putMany_30 : decode cX7_putMany 30 = .ok (.putfield 57, 3) := by decide +kernel
theorem dX7_putMany_33 : decode cX7_putMany 33 = .ok (.iload_n 2, 1) := by decide +kernel
theorem dX7_putMany_34 : decode cX7_putMany 34 = .ok (.ireturn, 1) := by decide +kernel
theorem dX7_count_0 : decode cX7_count 0 = .ok (.iload_n 1, 1) := by decide +kernel
theorem dX7_count_1 : decode cX7_count 1 = .ok (.tableswitch 123 0 8 #[51, 59, 67, 75, 83, 91, 99, 107, 115], 51) := by decide +kernel
theorem dX7_count_52 : decode cX7_count 52 = .ok (.aload_n 0, 1) := by decide +kernel
theorem dX7_count_53 : decode cX7_count 53 = .ok (.getfield 27, 3) := by decide +kernel
theorem dX7_count_56 : decode cX7_count 56 = .ok (.getfield 134, 3) := by decide +kernel
theorem dX7_count_59 : decode cX7_count 59 = .ok (.ireturn, 1) := by decide +kernel
theorem dX7_count_60 : decode cX7_count 60 = .ok (.aload_n 0, 1) := by decide +kernel
theorem dX7_count_61 : decode cX7_count 61 = .ok (.getfield 31, 3) := by decide +kernel
theorem dX7_count_64 : decode cX7_count 64 = .ok (.getfield 75, 3) := by decide +kernel
theorem dX7_count_67 : decode cX7_count 67 = .ok (.ireturn, 1) := by decide +kernel
theorem dX7_count_68 : decode cX7_count 68 = .ok (.aload_n 0, 1) := by decide +kernel
theorem dX7_count_69 : decode cX7_count 69 = .ok (.getfield 44, 3) := by decide +kernel
theorem dX7_count_72 : decode cX7_count 72 = .ok (.getfield 79, 3) := by decide +kernel
theorem dX7_count_75 : decode cX7_count 75 = .ok (.ireturn, 1) := by decide +kernel
theorem dX7_count_76 : decode cX7_count 76 = .ok (.aload_n 0, 1) := by decide +kernel
theorem dX7_count_77 : decode cX7_count 77 = .ok (.invokevirtual 135, 3) := by decide +kernel
theorem dX7_count_80 : decode cX7_count 80 = .ok (.getfield 139, 3) := by decide +kernel
theorem dX7_count_83 : decode cX7_count 83 = .ok (.ireturn, 1) := by decide +kernel
theorem dX7_count_84 : decode cX7_count 84 = .ok (.aload_n 0, 1) := by decide +kernel
theorem dX7_count_85 : decode cX7_count 85 = .ok (.invokevirtual 135, 3) := by decide +kernel
theorem dX7_count_88 : decode cX7_count 88 = .ok (.getfield 142, 3) := by decide +kernel
theorem dX7_count_91 : decode cX7_count 91 = .ok (.ireturn, 1) := by decide +kernel
theorem dX7_count_92 : decode cX7_count 92 = .ok (.aload_n 0, 1) := by decide +kernel
theorem dX7_count_93 : decode cX7_count 93 = .ok (.invokevirtual 145, 3) := by decide +kernel
theorem dX7_count_96 : decode cX7_count 96 = .ok (.getfield 149, 3) := by decide +kernel
theorem dX7_count_99 : decode cX7_count 99 = .ok (.ireturn, 1) := by decide +kernel
theorem dX7_count_100 : decode cX7_count 100 = .ok (.aload_n 0, 1) := by decide +kernel
theorem dX7_count_101 : decode cX7_count 101 = .ok (.invokevirtual 150, 3) := by decide +kernel
theorem dX7_count_104 : decode cX7_count 104 = .ok (.getfield 154, 3) := by decide +kernel
theorem dX7_count_107 : decode cX7_count 107 = .ok (.ireturn, 1) := by decide +kernel
theorem dX7_count_108 : decode cX7_count 108 = .ok (.aload_n 0, 1) := by decide +kernel
theorem dX7_count_109 : decode cX7_count 109 = .ok (.invokevirtual 150, 3) := by decide +kernel
theorem dX7_count_112 : decode cX7_count 112 = .ok (.getfield 155, 3) := by decide +kernel
theorem dX7_count_115 : decode cX7_count 115 = .ok (.ireturn, 1) := by decide +kernel
theorem dX7_count_116 : decode cX7_count 116 = .ok (.aload_n 0, 1) := by decide +kernel
theorem dX7_count_117 : decode cX7_count 117 = .ok (.invokevirtual 150, 3) := by decide +kernel
theorem dX7_count_120 : decode cX7_count 120 = .ok (.getfield 158, 3) := by decide +kernel
theorem dX7_count_123 : decode cX7_count 123 = .ok (.ireturn, 1) := by decide +kernel
theorem dX7_count_124 : decode cX7_count 124 = .ok (.iconst (-1), 1) := by decide +kernel
theorem dX7_count_125 : decode cX7_count 125 = .ok (.ireturn, 1) := by decide +kernel
theorem dX7_counter_0 : decode cX7_counter 0 = .ok (.aload_n 0, 1) := by decide +kernel
theorem dX7_counter_1 : decode cX7_counter 1 = .ok (.getfield 31, 3) := by decide +kernel
theorem dX7_counter_4 : decode cX7_counter 4 = .ok (.iload_n 1, 1) := by decide +kernel
theorem dX7_counter_5 : decode cX7_counter 5 = .ok (.invokevirtual 120, 3) := by decide +kernel
theorem dX7_counter_8 : decode cX7_counter 8 = .ok (.ifCond .eq 12, 3) := by decide +kernel
theorem dX7_counter_11 : decode cX7_counter 11 = .ok (.iload_n 2, 1) := by decide +kernel
theorem dX7_counter_12 : decode cX7_counter 12 = .ok (.iconst 1, 1) := by decide +kernel
theorem dX7_counter_13 : decode cX7_counter 13 = .ok (.iconst 3, 1) := by decide +kernel
theorem dX7_counter_14 : decode cX7_counter 14 = .ok (.invokestatic 67, 3) := by decide +kernel
theorem dX7_counter_17 : decode cX7_counter 17 = .ok (.ifCond .ne 5, 3) := by decide +kernel
theorem dX7_counter_20 : decode cX7_counter 20 = .ok (.iconst (-1), 1) := by decide +kernel
theorem dX7_counter_21 : decode cX7_counter 21 = .ok (.ireturn, 1) := by decide +kernel
theorem dX7_counter_22 : decode cX7_counter 22 = .ok (.aload_n 0, 1) := by decide +kernel
theorem dX7_counter_23 : decode cX7_counter 23 = .ok (.invokevirtual 135, 3) := by decide +kernel
theorem dX7_counter_26 : decode cX7_counter 26 = .ok (.getfield 192, 3) := by decide +kernel
theorem dX7_counter_29 : decode cX7_counter 29 = .ok (.iload_n 1, 1) := by decide +kernel
theorem dX7_counter_30 : decode cX7_counter 30 = .ok (.iconst 3, 1) := by decide +kernel
theorem dX7_counter_31 : decode cX7_counter 31 = .ok (.imul, 1) := by decide +kernel
theorem dX7_counter_32 : decode cX7_counter 32 = .ok (.iload_n 2, 1) := by decide +kernel
theorem dX7_counter_33 : decode cX7_counter 33 = .ok (.iadd, 1) := by decide +kernel
theorem dX7_counter_34 : decode cX7_counter 34 = .ok (.iconst 1, 1) := by decide +kernel
theorem dX7_counter_35 : decode cX7_counter 35 = .ok (.isub, 1) := by decide +kernel
theorem dX7_counter_36 : decode cX7_counter 36 = .ok (.iaload, 1) := by decide +kernel
theorem dX7_counter_37 : decode cX7_counter 37 = .ok (.ireturn, 1) := by decide +kernel
theorem dX7_entry_0 : decode cX7_entry 0 = .ok (.aload_n 0, 1) := by decide +kernel
theorem dX7_entry_1 : decode cX7_entry 1 = .ok (.getfield 44, 3) := by decide +kernel
theorem dX7_entry_4 : decode cX7_entry 4 = .ok (.getfield 79, 3) := by decide +kernel
theorem dX7_entry_7 : decode cX7_entry 7 = .ok (.bipush 12, 2) := by decide +kernel
theorem dX7_entry_9 : decode cX7_entry 9 = .ok (.if_icmp .ge 12, 3) := by decide +kernel
theorem dX7_entry_12 : decode cX7_entry 12 = .ok (.iload_n 1, 1) := by decide +kernel
theorem dX7_entry_13 : decode cX7_entry 13 = .ok (.iconst 1, 1) := by decide +kernel
theorem dX7_entry_14 : decode cX7_entry 14 = .ok (.iconst 3, 1) := by decide +kernel
theorem dX7_entry_15 : decode cX7_entry 15 = .ok (.invokestatic 67, 3) := by decide +kernel
theorem dX7_entry_18 : decode cX7_entry 18 = .ok (.ifCond .ne 5, 3) := by decide +kernel
theorem dX7_entry_21 : decode cX7_entry 21 = .ok (.iconst (-1), 1) := by decide +kernel
theorem dX7_entry_22 : decode cX7_entry 22 = .ok (.ireturn, 1) := by decide +kernel
theorem dX7_entry_23 : decode cX7_entry 23 = .ok (.iload_n 2, 1) := by decide +kernel
theorem dX7_entry_24 : decode cX7_entry 24 = .ok (.iconst 0, 1) := by decide +kernel
theorem dX7_entry_25 : decode cX7_entry 25 = .ok (.sipush 999, 3) := by decide +kernel
theorem dX7_entry_28 : decode cX7_entry 28 = .ok (.invokestatic 67, 3) := by decide +kernel
theorem dX7_entry_31 : decode cX7_entry 31 = .ok (.ifCond .eq 18, 3) := by decide +kernel
theorem dX7_entry_34 : decode cX7_entry 34 = .ok (.iload_n 3, 1) := by decide +kernel
theorem dX7_entry_35 : decode cX7_entry 35 = .ok (.invokestatic 94, 3) := by decide +kernel
theorem dX7_entry_38 : decode cX7_entry 38 = .ok (.ifCond .eq 11, 3) := by decide +kernel
theorem dX7_entry_41 : decode cX7_entry 41 = .ok (.iload 4, 2) := by decide +kernel
theorem dX7_entry_43 : decode cX7_entry 43 = .ok (.invokestatic 94, 3) := by decide +kernel
theorem dX7_entry_46 : decode cX7_entry 46 = .ok (.ifCond .ne 5, 3) := by decide +kernel
theorem dX7_entry_49 : decode cX7_entry 49 = .ok (.iconst (-1), 1) := by decide +kernel
theorem dX7_entry_50 : decode cX7_entry 50 = .ok (.ireturn, 1) := by decide +kernel
theorem dX7_entry_51 : decode cX7_entry 51 = .ok (.aload_n 0, 1) := by decide +kernel
theorem dX7_entry_52 : decode cX7_entry 52 = .ok (.getfield 44, 3) := by decide +kernel
theorem dX7_entry_55 : decode cX7_entry 55 = .ok (.getfield 79, 3) := by decide +kernel
theorem dX7_entry_58 : decode cX7_entry 58 = .ok (.istore 5, 2) := by decide +kernel
theorem dX7_entry_60 : decode cX7_entry 60 = .ok (.aload_n 0, 1) := by decide +kernel
theorem dX7_entry_61 : decode cX7_entry 61 = .ok (.getfield 44, 3) := by decide +kernel
theorem dX7_entry_64 : decode cX7_entry 64 = .ok (.getfield 195, 3) := by decide +kernel
theorem dX7_entry_67 : decode cX7_entry 67 = .ok (.iload 5, 2) := by decide +kernel
theorem dX7_entry_69 : decode cX7_entry 69 = .ok (.iload_n 1, 1) := by decide +kernel
theorem dX7_entry_70 : decode cX7_entry 70 = .ok (.iastore, 1) := by decide +kernel
theorem dX7_entry_71 : decode cX7_entry 71 = .ok (.aload_n 0, 1) := by decide +kernel
theorem dX7_entry_72 : decode cX7_entry 72 = .ok (.getfield 44, 3) := by decide +kernel
theorem dX7_entry_75 : decode cX7_entry 75 = .ok (.getfield 198, 3) := by decide +kernel
theorem dX7_entry_78 : decode cX7_entry 78 = .ok (.iload 5, 2) := by decide +kernel
theorem dX7_entry_80 : decode cX7_entry 80 = .ok (.iload_n 2, 1) := by decide +kernel
theorem dX7_entry_81 : decode cX7_entry 81 = .ok (.iastore, 1) := by decide +kernel
theorem dX7_entry_82 : decode cX7_entry 82 = .ok (.aload_n 0, 1) := by decide +kernel
theorem dX7_entry_83 : decode cX7_entry 83 = .ok (.getfield 44, 3) := by decide +kernel
theorem dX7_entry_86 : decode cX7_entry 86 = .ok (.getfield 201, 3) := by decide +kernel
theorem dX7_entry_89 : decode cX7_entry 89 = .ok (.iload 5, 2) := by decide +kernel
theorem dX7_entry_91 : decode cX7_entry 91 = .ok (.iload_n 3, 1) := by decide +kernel
theorem dX7_entry_92 : decode cX7_entry 92 = .ok (.iastore, 1) := by decide +kernel
theorem dX7_entry_93 : decode cX7_entry 93 = .ok (.aload_n 0, 1) := by decide +kernel
theorem dX7_entry_94 : decode cX7_entry 94 = .ok (.getfield 44, 3) := by decide +kernel
theorem dX7_entry_97 : decode cX7_entry 97 = .ok (.getfield 202, 3) := by decide +kernel
theorem dX7_entry_100 : decode cX7_entry 100 = .ok (.iload 5, 2) := by decide +kernel
theorem dX7_entry_102 : decode cX7_entry 102 = .ok (.iload 4, 2) := by decide +kernel
theorem dX7_entry_104 : decode cX7_entry 104 = .ok (.iastore, 1) := by decide +kernel
theorem dX7_entry_105 : decode cX7_entry 105 = .ok (.aload_n 0, 1) := by decide +kernel
theorem dX7_entry_106 : decode cX7_entry 106 = .ok (.getfield 44, 3) := by decide +kernel
theorem dX7_entry_109 : decode cX7_entry 109 = .ok (.iload 5, 2) := by decide +kernel
theorem dX7_entry_111 : decode cX7_entry 111 = .ok (.iconst 1, 1) := by decide +kernel
theorem dX7_entry_112 : decode cX7_entry 112 = .ok (.iadd, 1) := by decide +kernel
theorem dX7_entry_113 : decode cX7_entry 113 = .ok (.putfield 79, 3) := by decide +kernel
theorem dX7_entry_116 : decode cX7_entry 116 = .ok (.aload_n 0, 1) := by decide +kernel
theorem dX7_entry_117 : decode cX7_entry 117 = .ok (.iconst 1, 1) := by decide +kernel
theorem dX7_entry_118 : decode cX7_entry 118 = .ok (.putfield 61, 3) := by decide +kernel
theorem dX7_entry_121 : decode cX7_entry 121 = .ok (.iload 5, 2) := by decide +kernel
theorem dX7_entry_123 : decode cX7_entry 123 = .ok (.ireturn, 1) := by decide +kernel
theorem dX7_clear_0 : decode cX7_clear 0 = .ok (.aload_n 0, 1) := by decide +kernel
theorem dX7_clear_1 : decode cX7_clear 1 = .ok (.getfield 44, 3) := by decide +kernel
theorem dX7_clear_4 : decode cX7_clear 4 = .ok (.getfield 79, 3) := by decide +kernel
theorem dX7_clear_7 : decode cX7_clear 7 = .ok (.istore_n 1, 1) := by decide +kernel
theorem dX7_clear_8 : decode cX7_clear 8 = .ok (.aload_n 0, 1) := by decide +kernel
theorem dX7_clear_9 : decode cX7_clear 9 = .ok (.getfield 44, 3) := by decide +kernel
theorem dX7_clear_12 : decode cX7_clear 12 = .ok (.iconst 0, 1) := by decide +kernel
theorem dX7_clear_13 : decode cX7_clear 13 = .ok (.putfield 79, 3) := by decide +kernel
theorem dX7_clear_16 : decode cX7_clear 16 = .ok (.aload_n 0, 1) := by decide +kernel
theorem dX7_clear_17 : decode cX7_clear 17 = .ok (.iconst 1, 1) := by decide +kernel
theorem dX7_clear_18 : decode cX7_clear 18 = .ok (.putfield 61, 3) := by decide +kernel
theorem dX7_clear_21 : decode cX7_clear 21 = .ok (.iload_n 1, 1) := by decide +kernel
theorem dX7_clear_22 : decode cX7_clear 22 = .ok (.ireturn, 1) := by decide +kernel
theorem dX7_partner_0 : decode cX7_partner 0 = .ok (.iload_n 1, 1) := by decide +kernel
theorem dX7_partner_1 : decode cX7_partner 1 = .ok (.iconst 0, 1) := by decide +kernel
theorem dX7_partner_2 : decode cX7_partner 2 = .ok (.aload_n 0, 1) := by decide +kernel
theorem dX7_partner_3 : decode cX7_partner 3 = .ok (.getfield 44, 3) := by decide +kernel
theorem dX7_partner_6 : decode cX7_partner 6 = .ok (.getfield 79, 3) := by decide +kernel
theorem dX7_partner_9 : decode cX7_partner 9 = .ok (.iconst 1, 1) := by decide +kernel
theorem dX7_partner_10 : decode cX7_partner 10 = .ok (.isub, 1) := by decide +kernel
theorem dX7_partner_11 : decode cX7_partner 11 = .ok (.invokestatic 67, 3) := by decide +kernel
theorem dX7_partner_14 : decode cX7_partner 14 = .ok (.ifCond .ne 5, 3) := by decide +kernel
theorem dX7_partner_17 : decode cX7_partner 17 = .ok (.iconst (-1), 1) := by decide +kernel
theorem dX7_partner_18 : decode cX7_partner 18 = .ok (.ireturn, 1) := by decide +kernel
theorem dX7_partner_19 : decode cX7_partner 19 = .ok (.aload_n 0, 1) := by decide +kernel
theorem dX7_partner_20 : decode cX7_partner 20 = .ok (.invokevirtual 145, 3) := by decide +kernel
theorem dX7_partner_23 : decode cX7_partner 23 = .ok (.getfield 203, 3) := by decide +kernel
theorem dX7_partner_26 : decode cX7_partner 26 = .ok (.iload_n 1, 1) := by decide +kernel
theorem dX7_partner_27 : decode cX7_partner 27 = .ok (.iaload, 1) := by decide +kernel
theorem dX7_partner_28 : decode cX7_partner 28 = .ok (.ireturn, 1) := by decide +kernel
theorem dX7_span_0 : decode cX7_span 0 = .ok (.aload_n 0, 1) := by decide +kernel
theorem dX7_span_1 : decode cX7_span 1 = .ok (.getfield 27, 3) := by decide +kernel
theorem dX7_span_4 : decode cX7_span 4 = .ok (.iload_n 1, 1) := by decide +kernel
theorem dX7_span_5 : decode cX7_span 5 = .ok (.invokevirtual 83, 3) := by decide +kernel
theorem dX7_span_8 : decode cX7_span 8 = .ok (.ifCond .ne 5, 3) := by decide +kernel
theorem dX7_span_11 : decode cX7_span 11 = .ok (.iconst (-1), 1) := by decide +kernel
theorem dX7_span_12 : decode cX7_span 12 = .ok (.ireturn, 1) := by decide +kernel
theorem dX7_span_13 : decode cX7_span 13 = .ok (.aload_n 0, 1) := by decide +kernel
theorem dX7_span_14 : decode cX7_span 14 = .ok (.invokevirtual 150, 3) := by decide +kernel
theorem dX7_span_17 : decode cX7_span 17 = .ok (.getfield 211, 3) := by decide +kernel
theorem dX7_span_20 : decode cX7_span 20 = .ok (.iload_n 1, 1) := by decide +kernel
theorem dX7_span_21 : decode cX7_span 21 = .ok (.iaload, 1) := by decide +kernel
theorem dX7_span_22 : decode cX7_span 22 = .ok (.ireturn, 1) := by decide +kernel
theorem dX7_wrong_0 : decode cX7_wrong 0 = .ok (.aload_n 0, 1) := by decide +kernel
theorem dX7_wrong_1 : decode cX7_wrong 1 = .ok (.getfield 27, 3) := by decide +kernel
theorem dX7_wrong_4 : decode cX7_wrong 4 = .ok (.iload_n 1, 1) := by decide +kernel
theorem dX7_wrong_5 : decode cX7_wrong 5 = .ok (.invokevirtual 83, 3) := by decide +kernel
theorem dX7_wrong_8 : decode cX7_wrong 8 = .ok (.ifCond .ne 5, 3) := by decide +kernel
theorem dX7_wrong_11 : decode cX7_wrong 11 = .ok (.iconst (-1), 1) := by decide +kernel
theorem dX7_wrong_12 : decode cX7_wrong 12 = .ok (.ireturn, 1) := by decide +kernel
theorem dX7_wrong_13 : decode cX7_wrong 13 = .ok (.aload_n 0, 1) := by decide +kernel
theorem dX7_wrong_14 : decode cX7_wrong 14 = .ok (.invokevirtual 150, 3) := by decide +kernel
theorem dX7_wrong_17 : decode cX7_wrong 17 = .ok (.iload_n 1, 1) := by decide +kernel
theorem dX7_wrong_18 : decode cX7_wrong 18 = .ok (.invokevirtual 214, 3) := by decide +kernel
theorem dX7_wrong_21 : decode cX7_wrong 21 = .ok (.ifCond .eq 7, 3) := by decide +kernel
theorem dX7_wrong_24 : decode cX7_wrong 24 = .ok (.iconst 1, 1) := by decide +kernel
theorem dX7_wrong_25 : decode cX7_wrong 25 = .ok (.goto 4, 3) := by decide +kernel
theorem dX7_wrong_28 : decode cX7_wrong 28 = .ok (.iconst 0, 1) := by decide +kernel
theorem dX7_wrong_29 : decode cX7_wrong 29 = .ok (.ireturn, 1) := by decide +kernel
theorem dX7_allIsOld_0 : decode cX7_allIsOld 0 = .ok (.aload_n 0, 1) := by decide +kernel
theorem dX7_allIsOld_1 : decode cX7_allIsOld 1 = .ok (.iconst 1, 1) := by decide +kernel
theorem dX7_allIsOld_2 : decode cX7_allIsOld 2 = .ok (.putfield 57, 3) := by decide +kernel
theorem dX7_allIsOld_5 : decode cX7_allIsOld 5 = .ok (.aload_n 0, 1) := by decide +kernel
theorem dX7_allIsOld_6 : decode cX7_allIsOld 6 = .ok (.iconst 1, 1) := by decide +kernel
theorem dX7_allIsOld_7 : decode cX7_allIsOld 7 = .ok (.putfield 61, 3) := by decide +kernel
theorem dX7_allIsOld_10 : decode cX7_allIsOld 10 = .ok (.aload_n 0, 1) := by decide +kernel
theorem dX7_allIsOld_11 : decode cX7_allIsOld 11 = .ok (.iconst 1, 1) := by decide +kernel
theorem dX7_allIsOld_12 : decode cX7_allIsOld 12 = .ok (.putfield 64, 3) := by decide +kernel
theorem dX7_allIsOld_15 : decode cX7_allIsOld 15 = .ok (.return_, 1) := by decide +kernel
theorem dX7_freshTree_0 : decode cX7_freshTree 0 = .ok (.aload_n 0, 1) := by decide +kernel
theorem dX7_freshTree_1 : decode cX7_freshTree 1 = .ok (.getfield 57, 3) := by decide +kernel
theorem dX7_freshTree_4 : decode cX7_freshTree 4 = .ok (.ifCond .eq 20, 3) := by decide +kernel
theorem dX7_freshTree_7 : decode cX7_freshTree 7 = .ok (.aload_n 0, 1) := by decide +kernel
theorem dX7_freshTree_8 : decode cX7_freshTree 8 = .ok (.getfield 35, 3) := by decide +kernel
theorem dX7_freshTree_11 : decode cX7_freshTree 11 = .ok (.invokevirtual 217, 3) := by decide +kernel
theorem dX7_freshTree_14 : decode cX7_freshTree 14 = .ok (.aload_n 0, 1) := by decide +kernel
theorem dX7_freshTree_15 : decode cX7_freshTree 15 = .ok (.iconst 0, 1) := by decide +kernel
theorem dX7_freshTree_16 : decode cX7_freshTree 16 = .ok (.putfield 57, 3) := by decide +kernel
theorem dX7_freshTree_19 : decode cX7_freshTree 19 = .ok (.aload_n 0, 1) := by decide +kernel
theorem dX7_freshTree_20 : decode cX7_freshTree 20 = .ok (.iconst 1, 1) := by decide +kernel
theorem dX7_freshTree_21 : decode cX7_freshTree 21 = .ok (.putfield 61, 3) := by decide +kernel
theorem dX7_freshTree_24 : decode cX7_freshTree 24 = .ok (.aload_n 0, 1) := by decide +kernel
theorem dX7_freshTree_25 : decode cX7_freshTree 25 = .ok (.getfield 35, 3) := by decide +kernel
theorem dX7_freshTree_28 : decode cX7_freshTree 28 = .ok (.areturn, 1) := by decide +kernel
theorem dX7_freshListing_0 : decode cX7_freshListing 0 = .ok (.aload_n 0, 1) := by decide +kernel
theorem dX7_freshListing_1 : decode cX7_freshListing 1 = .ok (.invokevirtual 135, 3) := by decide +kernel
theorem dX7_freshListing_4 : decode cX7_freshListing 4 = .ok (.pop, 1) := by decide +kernel
theorem dX7_freshListing_5 : decode cX7_freshListing 5 = .ok (.aload_n 0, 1) := by decide +kernel
theorem dX7_freshListing_6 : decode cX7_freshListing 6 = .ok (.getfield 61, 3) := by decide +kernel
theorem dX7_freshListing_9 : decode cX7_freshListing 9 = .ok (.ifCond .eq 15, 3) := by decide +kernel
theorem dX7_freshListing_12 : decode cX7_freshListing 12 = .ok (.aload_n 0, 1) := by decide +kernel
theorem dX7_freshListing_13 : decode cX7_freshListing 13 = .ok (.getfield 44, 3) := by decide +kernel
theorem dX7_freshListing_16 : decode cX7_freshListing 16 = .ok (.invokevirtual 220, 3) := by decide +kernel
theorem dX7_freshListing_19 : decode cX7_freshListing 19 = .ok (.aload_n 0, 1) := by decide +kernel
theorem dX7_freshListing_20 : decode cX7_freshListing 20 = .ok (.iconst 0, 1) := by decide +kernel
theorem dX7_freshListing_21 : decode cX7_freshListing 21 = .ok (.putfield 61, 3) := by decide +kernel
theorem dX7_freshListing_24 : decode cX7_freshListing 24 = .ok (.aload_n 0, 1) := by decide +kernel
theorem dX7_freshListing_25 : decode cX7_freshListing 25 = .ok (.getfield 44, 3) := by decide +kernel
theorem dX7_freshListing_28 : decode cX7_freshListing 28 = .ok (.areturn, 1) := by decide +kernel
theorem dX7_freshShifts_0 : decode cX7_freshShifts 0 = .ok (.aload_n 0, 1) := by decide +kernel
theorem dX7_freshShifts_1 : decode cX7_freshShifts 1 = .ok (.getfield 64, 3) := by decide +kernel
theorem dX7_freshShifts_4 : decode cX7_freshShifts 4 = .ok (.ifCond .eq 15, 3) := by decide +kernel
theorem dX7_freshShifts_7 : decode cX7_freshShifts 7 = .ok (.aload_n 0, 1) := by decide +kernel
theorem dX7_freshShifts_8 : decode cX7_freshShifts 8 = .ok (.getfield 53, 3) := by decide +kernel
theorem dX7_freshShifts_11 : decode cX7_freshShifts 11 = .ok (.invokevirtual 223, 3) := by decide +kernel
theorem dX7_freshShifts_14 : decode cX7_freshShifts 14 = .ok (.aload_n 0, 1) := by decide +kernel
theorem dX7_freshShifts_15 : decode cX7_freshShifts 15 = .ok (.iconst 0, 1) := by decide +kernel
theorem dX7_freshShifts_16 : decode cX7_freshShifts 16 = .ok (.putfield 64, 3) := by decide +kernel
theorem dX7_freshShifts_19 : decode cX7_freshShifts 19 = .ok (.aload_n 0, 1) := by decide +kernel
theorem dX7_freshShifts_20 : decode cX7_freshShifts 20 = .ok (.getfield 53, 3) := by decide +kernel
theorem dX7_freshShifts_23 : decode cX7_freshShifts 23 = .ok (.areturn, 1) := by decide +kernel
theorem dX7_isWithin_0 : decode cX7_isWithin 0 = .ok (.iload_n 0, 1) := by decide +kernel
theorem dX7_isWithin_1 : decode cX7_isWithin 1 = .ok (.iload_n 1, 1) := by decide +kernel
theorem dX7_isWithin_2 : decode cX7_isWithin 2 = .ok (.if_icmp .lt 12, 3) := by decide +kernel
theorem dX7_isWithin_5 : decode cX7_isWithin 5 = .ok (.iload_n 0, 1) := by decide +kernel
theorem dX7_isWithin_6 : decode cX7_isWithin 6 = .ok (.iload_n 2, 1) := by decide +kernel
theorem dX7_isWithin_7 : decode cX7_isWithin 7 = .ok (.if_icmp .gt 7, 3) := by decide +kernel
theorem dX7_isWithin_10 : decode cX7_isWithin 10 = .ok (.iconst 1, 1) := by decide +kernel
theorem dX7_isWithin_11 : decode cX7_isWithin 11 = .ok (.goto 4, 3) := by decide +kernel
theorem dX7_isWithin_14 : decode cX7_isWithin 14 = .ok (.iconst 0, 1) := by decide +kernel
theorem dX7_isWithin_15 : decode cX7_isWithin 15 = .ok (.ireturn, 1) := by decide +kernel
theorem dX7_areWords_0 : decode cX7_areWords 0 = .ok (.iconst 0, 1) := by decide +kernel
theorem dX7_areWords_1 : decode cX7_areWords 1 = .ok (.istore_n 1, 1) := by decide +kernel
theorem dX7_areWords_2 : decode cX7_areWords 2 = .ok (.iload_n 1, 1) := by decide +kernel
theorem dX7_areWords_3 : decode cX7_areWords 3 = .ok (.bipush 32, 2) := by decide +kernel
theorem dX7_areWords_5 : decode cX7_areWords 5 = .ok (.if_icmp .ge 23, 3) := by decide +kernel
theorem dX7_areWords_8 : decode cX7_areWords 8 = .ok (.iload_n 0, 1) := by decide +kernel
theorem dX7_areWords_9 : decode cX7_areWords 9 = .ok (.iload_n 1, 1) := by decide +kernel
theorem dX7_areWords_10 : decode cX7_areWords 10 = .ok (.iushr, 1) := by decide +kernel
theorem dX7_areWords_11 : decode cX7_areWords 11 = .ok (.sipush 255, 3) := by decide +kernel
theorem dX7_areWords_14 : decode cX7_areWords 14 = .ok (.iand, 1) := by decide +kernel
end
section
theorem dX7_areWords_15 : decode cX7_areWords 15 = .ok (.bipush 26, 2) := by decide +kernel
theorem dX7_areWords_17 : decode cX7_areWords 17 = .ok (.if_icmp .le 5, 3) := by decide +kernel
theorem dX7_areWords_20 : decode cX7_areWords 20 = .ok (.iconst 0, 1) := by decide +kernel
theorem dX7_areWords_21 : decode cX7_areWords 21 = .ok (.ireturn, 1) := by decide +kernel
theorem dX7_areWords_22 : decode cX7_areWords 22 = .ok (.iinc 1 8, 3) := by decide +kernel
theorem dX7_areWords_25 : decode cX7_areWords 25 = .ok (.goto (-23), 3) := by decide +kernel
theorem dX7_areWords_28 : decode cX7_areWords 28 = .ok (.iconst 1, 1) := by decide +kernel
theorem dX7_areWords_29 : decode cX7_areWords 29 = .ok (.ireturn, 1) := by decide +kernel
theorem dX7_areNumbers_0 : decode cX7_areNumbers 0 = .ok (.iload_n 0, 1) := by decide +kernel
theorem dX7_areNumbers_1 : decode cX7_areNumbers 1 = .ok (.iconst 0, 1) := by decide +kernel
theorem dX7_areNumbers_2 : decode cX7_areNumbers 2 = .ok (.ldc 226, 2) := by decide +kernel
theorem dX7_areNumbers_4 : decode cX7_areNumbers 4 = .ok (.invokestatic 67, 3) := by decide +kernel
theorem dX7_areNumbers_7 : decode cX7_areNumbers 7 = .ok (.ifCond .ne 5, 3) := by decide +kernel
theorem dX7_areNumbers_10 : decode cX7_areNumbers 10 = .ok (.iconst 0, 1) := by decide +kernel
theorem dX7_areNumbers_11 : decode cX7_areNumbers 11 = .ok (.ireturn, 1) := by decide +kernel
theorem dX7_areNumbers_12 : decode cX7_areNumbers 12 = .ok (.iload_n 0, 1) := by decide +kernel
theorem dX7_areNumbers_13 : decode cX7_areNumbers 13 = .ok (.istore_n 1, 1) := by decide +kernel
theorem dX7_areNumbers_14 : decode cX7_areNumbers 14 = .ok (.iload_n 0, 1) := by decide +kernel
theorem dX7_areNumbers_15 : decode cX7_areNumbers 15 = .ok (.invokestatic 227, 3) := by decide +kernel
theorem dX7_areNumbers_18 : decode cX7_areNumbers 18 = .ok (.istore_n 2, 1) := by decide +kernel
theorem dX7_areNumbers_19 : decode cX7_areNumbers 19 = .ok (.iload_n 2, 1) := by decide +kernel
theorem dX7_areNumbers_20 : decode cX7_areNumbers 20 = .ok (.ifCond .le 29, 3) := by decide +kernel
theorem dX7_areNumbers_23 : decode cX7_areNumbers 23 = .ok (.iload_n 1, 1) := by decide +kernel
theorem dX7_areNumbers_24 : decode cX7_areNumbers 24 = .ok (.bipush 100, 2) := by decide +kernel
theorem dX7_areNumbers_26 : decode cX7_areNumbers 26 = .ok (.irem, 1) := by decide +kernel
theorem dX7_areNumbers_27 : decode cX7_areNumbers 27 = .ok (.iconst 1, 1) := by decide +kernel
theorem dX7_areNumbers_28 : decode cX7_areNumbers 28 = .ok (.bipush 12, 2) := by decide +kernel
theorem dX7_areNumbers_30 : decode cX7_areNumbers 30 = .ok (.invokestatic 67, 3) := by decide +kernel
theorem dX7_areNumbers_33 : decode cX7_areNumbers 33 = .ok (.ifCond .ne 5, 3) := by decide +kernel
theorem dX7_areNumbers_36 : decode cX7_areNumbers 36 = .ok (.iconst 0, 1) := by decide +kernel
theorem dX7_areNumbers_37 : decode cX7_areNumbers 37 = .ok (.ireturn, 1) := by decide +kernel
theorem dX7_areNumbers_38 : decode cX7_areNumbers 38 = .ok (.iload_n 1, 1) := by decide +kernel
theorem dX7_areNumbers_39 : decode cX7_areNumbers 39 = .ok (.bipush 100, 2) := by decide +kernel
theorem dX7_areNumbers_41 : decode cX7_areNumbers 41 = .ok (.idiv, 1) := by decide +kernel
theorem dX7_areNumbers_42 : decode cX7_areNumbers 42 = .ok (.istore_n 1, 1) := by decide +kernel
theorem dX7_areNumbers_43 : decode cX7_areNumbers 43 = .ok (.iinc 2 (-1), 3) := by decide +kernel
theorem dX7_areNumbers_46 : decode cX7_areNumbers 46 = .ok (.goto (-27), 3) := by decide +kernel
theorem dX7_areNumbers_49 : decode cX7_areNumbers 49 = .ok (.iconst 1, 1) := by decide +kernel
theorem dX7_areNumbers_50 : decode cX7_areNumbers 50 = .ok (.ireturn, 1) := by decide +kernel
theorem dX7_countParts_0 : decode cX7_countParts 0 = .ok (.iload_n 0, 1) := by decide +kernel
theorem dX7_countParts_1 : decode cX7_countParts 1 = .ok (.ifCond .ne 5, 3) := by decide +kernel
theorem dX7_countParts_4 : decode cX7_countParts 4 = .ok (.iconst 0, 1) := by decide +kernel
theorem dX7_countParts_5 : decode cX7_countParts 5 = .ok (.ireturn, 1) := by decide +kernel
theorem dX7_countParts_6 : decode cX7_countParts 6 = .ok (.iload_n 0, 1) := by decide +kernel
theorem dX7_countParts_7 : decode cX7_countParts 7 = .ok (.bipush 100, 2) := by decide +kernel
theorem dX7_countParts_9 : decode cX7_countParts 9 = .ok (.if_icmp .ge 5, 3) := by decide +kernel
theorem dX7_countParts_12 : decode cX7_countParts 12 = .ok (.iconst 1, 1) := by decide +kernel
theorem dX7_countParts_13 : decode cX7_countParts 13 = .ok (.ireturn, 1) := by decide +kernel
theorem dX7_countParts_14 : decode cX7_countParts 14 = .ok (.iload_n 0, 1) := by decide +kernel
theorem dX7_countParts_15 : decode cX7_countParts 15 = .ok (.sipush 10000, 3) := by decide +kernel
theorem dX7_countParts_18 : decode cX7_countParts 18 = .ok (.if_icmp .ge 7, 3) := by decide +kernel
theorem dX7_countParts_21 : decode cX7_countParts 21 = .ok (.iconst 2, 1) := by decide +kernel
theorem dX7_countParts_22 : decode cX7_countParts 22 = .ok (.goto 4, 3) := by decide +kernel
theorem dX7_countParts_25 : decode cX7_countParts 25 = .ok (.iconst 3, 1) := by decide +kernel
theorem dX7_countParts_26 : decode cX7_countParts 26 = .ok (.ireturn, 1) := by decide +kernel
theorem dX8_init_0 : decode cX8_init 0 = .ok (.aload_n 0, 1) := by decide +kernel
theorem dX8_init_1 : decode cX8_init 1 = .ok (.invokespecial 3, 3) := by decide +kernel
theorem dX8_init_4 : decode cX8_init 4 = .ok (.aload_n 0, 1) := by decide +kernel
theorem dX8_init_5 : decode cX8_init 5 = .ok (.iconst 1, 1) := by decide +kernel
theorem dX8_init_6 : decode cX8_init 6 = .ok (.putfield 9, 3) := by decide +kernel
theorem dX8_init_9 : decode cX8_init 9 = .ok (.aload_n 0, 1) := by decide +kernel
theorem dX8_init_10 : decode cX8_init 10 = .ok (.bipush 60, 2) := by decide +kernel
theorem dX8_init_12 : decode cX8_init 12 = .ok (.newarray .int, 2) := by decide +kernel
theorem dX8_init_14 : decode cX8_init 14 = .ok (.putfield 13, 3) := by decide +kernel
theorem dX8_init_17 : decode cX8_init 17 = .ok (.aload_n 0, 1) := by decide +kernel
theorem dX8_init_18 : decode cX8_init 18 = .ok (.bipush 20, 2) := by decide +kernel
theorem dX8_init_20 : decode cX8_init 20 = .ok (.newarray .int, 2) := by decide +kernel
theorem dX8_init_22 : decode cX8_init 22 = .ok (.putfield 17, 3) := by decide +kernel
theorem dX8_init_25 : decode cX8_init 25 = .ok (.aload_n 0, 1) := by decide +kernel
theorem dX8_init_26 : decode cX8_init 26 = .ok (.bipush 20, 2) := by decide +kernel
theorem dX8_init_28 : decode cX8_init 28 = .ok (.newarray .int, 2) := by decide +kernel
theorem dX8_init_30 : decode cX8_init 30 = .ok (.putfield 20, 3) := by decide +kernel
theorem dX8_init_33 : decode cX8_init 33 = .ok (.aload_n 0, 1) := by decide +kernel
theorem dX8_init_34 : decode cX8_init 34 = .ok (.bipush 20, 2) := by decide +kernel
theorem dX8_init_36 : decode cX8_init 36 = .ok (.newarray .int, 2) := by decide +kernel
theorem dX8_init_38 : decode cX8_init 38 = .ok (.putfield 23, 3) := by decide +kernel
theorem dX8_init_41 : decode cX8_init 41 = .ok (.aload_n 0, 1) := by decide +kernel
theorem dX8_init_42 : decode cX8_init 42 = .ok (.bipush 20, 2) := by decide +kernel
theorem dX8_init_44 : decode cX8_init 44 = .ok (.newarray .boolean, 2) := by decide +kernel
theorem dX8_init_46 : decode cX8_init 46 = .ok (.putfield 26, 3) := by decide +kernel
theorem dX8_init_49 : decode cX8_init 49 = .ok (.aload_n 0, 1) := by decide +kernel
theorem dX8_init_50 : decode cX8_init 50 = .ok (.sipush 160, 3) := by decide +kernel
theorem dX8_init_53 : decode cX8_init 53 = .ok (.newarray .int, 2) := by decide +kernel
theorem dX8_init_55 : decode cX8_init 55 = .ok (.putfield 30, 3) := by decide +kernel
theorem dX8_init_58 : decode cX8_init 58 = .ok (.aload_n 0, 1) := by decide +kernel
theorem dX8_init_59 : decode cX8_init 59 = .ok (.bipush 20, 2) := by decide +kernel
theorem dX8_init_61 : decode cX8_init 61 = .ok (.newarray .int, 2) := by decide +kernel
theorem dX8_init_63 : decode cX8_init 63 = .ok (.putfield 33, 3) := by decide +kernel
theorem dX8_init_66 : decode cX8_init 66 = .ok (.aload_n 0, 1) := by decide +kernel
theorem dX8_init_67 : decode cX8_init 67 = .ok (.bipush 60, 2) := by decide +kernel
theorem dX8_init_69 : decode cX8_init 69 = .ok (.newarray .int, 2) := by decide +kernel
theorem dX8_init_71 : decode cX8_init 71 = .ok (.putfield 36, 3) := by decide +kernel
theorem dX8_init_74 : decode cX8_init 74 = .ok (.aload_n 0, 1) := by decide +kernel
theorem dX8_init_75 : decode cX8_init 75 = .ok (.bipush 10, 2) := by decide +kernel
theorem dX8_init_77 : decode cX8_init 77 = .ok (.newarray .int, 2) := by decide +kernel
theorem dX8_init_79 : decode cX8_init 79 = .ok (.dup, 1) := by decide +kernel
theorem dX8_init_80 : decode cX8_init 80 = .ok (.iconst 0, 1) := by decide +kernel
theorem dX8_init_81 : decode cX8_init 81 = .ok (.iconst 1, 1) := by decide +kernel
theorem dX8_init_82 : decode cX8_init 82 = .ok (.iastore, 1) := by decide +kernel
theorem dX8_init_83 : decode cX8_init 83 = .ok (.dup, 1) := by decide +kernel
theorem dX8_init_84 : decode cX8_init 84 = .ok (.iconst 1, 1) := by decide +kernel
theorem dX8_init_85 : decode cX8_init 85 = .ok (.iconst 2, 1) := by decide +kernel
theorem dX8_init_86 : decode cX8_init 86 = .ok (.iastore, 1) := by decide +kernel
theorem dX8_init_87 : decode cX8_init 87 = .ok (.dup, 1) := by decide +kernel
theorem dX8_init_88 : decode cX8_init 88 = .ok (.iconst 2, 1) := by decide +kernel
theorem dX8_init_89 : decode cX8_init 89 = .ok (.iconst 5, 1) := by decide +kernel
theorem dX8_init_90 : decode cX8_init 90 = .ok (.iastore, 1) := by decide +kernel
theorem dX8_init_91 : decode cX8_init 91 = .ok (.dup, 1) := by decide +kernel
theorem dX8_init_92 : decode cX8_init 92 = .ok (.iconst 3, 1) := by decide +kernel
theorem dX8_init_93 : decode cX8_init 93 = .ok (.iconst 1, 1) := by decide +kernel
theorem dX8_init_94 : decode cX8_init 94 = .ok (.iastore, 1) := by decide +kernel
theorem dX8_init_95 : decode cX8_init 95 = .ok (.dup, 1) := by decide +kernel
theorem dX8_init_96 : decode cX8_init 96 = .ok (.iconst 4, 1) := by decide +kernel
theorem dX8_init_97 : decode cX8_init 97 = .ok (.iconst 2, 1) := by decide +kernel
theorem dX8_init_98 : decode cX8_init 98 = .ok (.iastore, 1) := by decide +kernel
theorem dX8_init_99 : decode cX8_init 99 = .ok (.dup, 1) := by decide +kernel
theorem dX8_init_100 : decode cX8_init 100 = .ok (.iconst 5, 1) := by decide +kernel
theorem dX8_init_101 : decode cX8_init 101 = .ok (.iconst 4, 1) := by decide +kernel
theorem dX8_init_102 : decode cX8_init 102 = .ok (.iastore, 1) := by decide +kernel
theorem dX8_init_103 : decode cX8_init 103 = .ok (.dup, 1) := by decide +kernel
theorem dX8_init_104 : decode cX8_init 104 = .ok (.bipush 6, 2) := by decide +kernel
theorem dX8_init_106 : decode cX8_init 106 = .ok (.iconst 3, 1) := by decide +kernel
theorem dX8_init_107 : decode cX8_init 107 = .ok (.iastore, 1) := by decide +kernel
theorem dX8_init_108 : decode cX8_init 108 = .ok (.dup, 1) := by decide +kernel
theorem dX8_init_109 : decode cX8_init 109 = .ok (.bipush 7, 2) := by decide +kernel
theorem dX8_init_111 : decode cX8_init 111 = .ok (.bipush 12, 2) := by decide +kernel
theorem dX8_init_113 : decode cX8_init 113 = .ok (.iastore, 1) := by decide +kernel
theorem dX8_init_114 : decode cX8_init 114 = .ok (.dup, 1) := by decide +kernel
theorem dX8_init_115 : decode cX8_init 115 = .ok (.bipush 8, 2) := by decide +kernel
theorem dX8_init_117 : decode cX8_init 117 = .ok (.bipush 6, 2) := by decide +kernel
theorem dX8_init_119 : decode cX8_init 119 = .ok (.iastore, 1) := by decide +kernel
theorem dX8_init_120 : decode cX8_init 120 = .ok (.dup, 1) := by decide +kernel
theorem dX8_init_121 : decode cX8_init 121 = .ok (.bipush 9, 2) := by decide +kernel
theorem dX8_init_123 : decode cX8_init 123 = .ok (.iconst 4, 1) := by decide +kernel
theorem dX8_init_124 : decode cX8_init 124 = .ok (.iastore, 1) := by decide +kernel
theorem dX8_init_125 : decode cX8_init 125 = .ok (.putfield 39, 3) := by decide +kernel
theorem dX8_init_128 : decode cX8_init 128 = .ok (.aload_n 0, 1) := by decide +kernel
theorem dX8_init_129 : decode cX8_init 129 = .ok (.iconst 4, 1) := by decide +kernel
theorem dX8_init_130 : decode cX8_init 130 = .ok (.newarray .int, 2) := by decide +kernel
theorem dX8_init_132 : decode cX8_init 132 = .ok (.dup, 1) := by decide +kernel
theorem dX8_init_133 : decode cX8_init 133 = .ok (.iconst 0, 1) := by decide +kernel
theorem dX8_init_134 : decode cX8_init 134 = .ok (.iconst 3, 1) := by decide +kernel
theorem dX8_init_135 : decode cX8_init 135 = .ok (.iastore, 1) := by decide +kernel
theorem dX8_init_136 : decode cX8_init 136 = .ok (.dup, 1) := by decide +kernel
theorem dX8_init_137 : decode cX8_init 137 = .ok (.iconst 1, 1) := by decide +kernel
theorem dX8_init_138 : decode cX8_init 138 = .ok (.bipush 18, 2) := by decide +kernel
theorem dX8_init_140 : decode cX8_init 140 = .ok (.iastore, 1) := by decide +kernel
theorem dX8_init_141 : decode cX8_init 141 = .ok (.dup, 1) := by decide +kernel
theorem dX8_init_142 : decode cX8_init 142 = .ok (.iconst 2, 1) := by decide +kernel
theorem dX8_init_143 : decode cX8_init 143 = .ok (.bipush 13, 2) := by decide +kernel
theorem dX8_init_145 : decode cX8_init 145 = .ok (.iastore, 1) := by decide +kernel
theorem dX8_init_146 : decode cX8_init 146 = .ok (.dup, 1) := by decide +kernel
theorem dX8_init_147 : decode cX8_init 147 = .ok (.iconst 3, 1) := by decide +kernel
theorem dX8_init_148 : decode cX8_init 148 = .ok (.bipush 8, 2) := by decide +kernel
theorem dX8_init_150 : decode cX8_init 150 = .ok (.iastore, 1) := by decide +kernel
theorem dX8_init_151 : decode cX8_init 151 = .ok (.putfield 42, 3) := by decide +kernel
theorem dX8_init_154 : decode cX8_init 154 = .ok (.aload_n 0, 1) := by decide +kernel
theorem dX8_init_155 : decode cX8_init 155 = .ok (.bipush 12, 2) := by decide +kernel
theorem dX8_init_157 : decode cX8_init 157 = .ok (.newarray .int, 2) := by decide +kernel
theorem dX8_init_159 : decode cX8_init 159 = .ok (.putfield 45, 3) := by decide +kernel
theorem dX8_init_162 : decode cX8_init 162 = .ok (.aload_n 0, 1) := by decide +kernel
theorem dX8_init_163 : decode cX8_init 163 = .ok (.bipush 12, 2) := by decide +kernel
theorem dX8_init_165 : decode cX8_init 165 = .ok (.newarray .int, 2) := by decide +kernel
theorem dX8_init_167 : decode cX8_init 167 = .ok (.putfield 48, 3) := by decide +kernel
theorem dX8_init_170 : decode cX8_init 170 = .ok (.aload_n 0, 1) := by decide +kernel
theorem dX8_init_171 : decode cX8_init 171 = .ok (.bipush 96, 2) := by decide +kernel
theorem dX8_init_173 : decode cX8_init 173 = .ok (.newarray .int, 2) := by decide +kernel
theorem dX8_init_175 : decode cX8_init 175 = .ok (.putfield 51, 3) := by decide +kernel
theorem dX8_init_178 : decode cX8_init 178 = .ok (.aload_n 0, 1) := by decide +kernel
theorem dX8_init_179 : decode cX8_init 179 = .ok (.ldc 54, 2) := by decide +kernel
theorem dX8_init_181 : decode cX8_init 181 = .ok (.newarray .int, 2) := by decide +kernel
theorem dX8_init_183 : decode cX8_init 183 = .ok (.putfield 55, 3) := by decide +kernel
theorem dX8_init_186 : decode cX8_init 186 = .ok (.aload_n 0, 1) := by decide +kernel
theorem dX8_init_187 : decode cX8_init 187 = .ok (.bipush 20, 2) := by decide +kernel
theorem dX8_init_189 : decode cX8_init 189 = .ok (.newarray .int, 2) := by decide +kernel
theorem dX8_init_191 : decode cX8_init 191 = .ok (.putfield 58, 3) := by decide +kernel
theorem dX8_init_194 : decode cX8_init 194 = .ok (.aload_n 0, 1) := by decide +kernel
theorem dX8_init_195 : decode cX8_init 195 = .ok (.bipush 60, 2) := by decide +kernel
theorem dX8_init_197 : decode cX8_init 197 = .ok (.newarray .int, 2) := by decide +kernel
theorem dX8_init_199 : decode cX8_init 199 = .ok (.putfield 61, 3) := by decide +kernel
theorem dX8_init_202 : decode cX8_init 202 = .ok (.aload_n 0, 1) := by decide +kernel
theorem dX8_init_203 : decode cX8_init 203 = .ok (.bipush 20, 2) := by decide +kernel
theorem dX8_init_205 : decode cX8_init 205 = .ok (.newarray .int, 2) := by decide +kernel
theorem dX8_init_207 : decode cX8_init 207 = .ok (.putfield 64, 3) := by decide +kernel
theorem dX8_init_210 : decode cX8_init 210 = .ok (.aload_n 0, 1) := by decide +kernel
theorem dX8_init_211 : decode cX8_init 211 = .ok (.sipush 273, 3) := by decide +kernel
theorem dX8_init_214 : decode cX8_init 214 = .ok (.newarray .int, 2) := by decide +kernel
theorem dX8_init_216 : decode cX8_init 216 = .ok (.putfield 67, 3) := by decide +kernel
theorem dX8_init_219 : decode cX8_init 219 = .ok (.aload_n 0, 1) := by decide +kernel
theorem dX8_init_220 : decode cX8_init 220 = .ok (.bipush 12, 2) := by decide +kernel
theorem dX8_init_222 : decode cX8_init 222 = .ok (.newarray .int, 2) := by decide +kernel
theorem dX8_init_224 : decode cX8_init 224 = .ok (.putfield 70, 3) := by decide +kernel
theorem dX8_init_227 : decode cX8_init 227 = .ok (.aload_n 0, 1) := by decide +kernel
theorem dX8_init_228 : decode cX8_init 228 = .ok (.bipush 61, 2) := by decide +kernel
theorem dX8_init_230 : decode cX8_init 230 = .ok (.newarray .int, 2) := by decide +kernel
theorem dX8_init_232 : decode cX8_init 232 = .ok (.putfield 73, 3) := by decide +kernel
theorem dX8_init_235 : decode cX8_init 235 = .ok (.aload_n 0, 1) := by decide +kernel
theorem dX8_init_236 : decode cX8_init 236 = .ok (.bipush 61, 2) := by decide +kernel
theorem dX8_init_238 : decode cX8_init 238 = .ok (.newarray .int, 2) := by decide +kernel
theorem dX8_init_240 : decode cX8_init 240 = .ok (.putfield 76, 3) := by decide +kernel
theorem dX8_init_243 : decode cX8_init 243 = .ok (.aload_n 0, 1) := by decide +kernel
theorem dX8_init_244 : decode cX8_init 244 = .ok (.bipush 61, 2) := by decide +kernel
theorem dX8_init_246 : decode cX8_init 246 = .ok (.newarray .int, 2) := by decide +kernel
theorem dX8_init_248 : decode cX8_init 248 = .ok (.putfield 79, 3) := by decide +kernel
theorem dX8_init_251 : decode cX8_init 251 = .ok (.aload_n 0, 1) := by decide +kernel
theorem dX8_init_252 : decode cX8_init 252 = .ok (.bipush 60, 2) := by decide +kernel
theorem dX8_init_254 : decode cX8_init 254 = .ok (.newarray .int, 2) := by decide +kernel
theorem dX8_init_256 : decode cX8_init 256 = .ok (.putfield 82, 3) := by decide +kernel
theorem dX8_init_259 : decode cX8_init 259 = .ok (.aload_n 0, 1) := by decide +kernel
theorem dX8_init_260 : decode cX8_init 260 = .ok (.bipush 60, 2) := by decide +kernel
theorem dX8_init_262 : decode cX8_init 262 = .ok (.newarray .int, 2) := by decide +kernel
theorem dX8_init_264 : decode cX8_init 264 = .ok (.putfield 85, 3) := by decide +kernel
theorem dX8_init_267 : decode cX8_init 267 = .ok (.aload_n 0, 1) := by decide +kernel
theorem dX8_init_268 : decode cX8_init 268 = .ok (.bipush 20, 2) := by decide +kernel
theorem dX8_init_270 : decode cX8_init 270 = .ok (.newarray .boolean, 2) := by decide +kernel
theorem dX8_init_272 : decode cX8_init 272 = .ok (.putfield 88, 3) := by decide +kernel
theorem dX8_init_275 : decode cX8_init 275 = .ok (.aload_n 0, 1) := by decide +kernel
theorem dX8_init_276 : decode cX8_init 276 = .ok (.ldc 54, 2) := by decide +kernel
theorem dX8_init_278 : decode cX8_init 278 = .ok (.newarray .int, 2) := by decide +kernel
theorem dX8_init_280 : decode cX8_init 280 = .ok (.putfield 91, 3) := by decide +kernel
theorem dX8_init_283 : decode cX8_init 283 = .ok (.return_, 1) := by decide +kernel
theorem dX8_thrown_0 : decode cX8_thrown 0 = .ok (.aload_n 0, 1) := by decide +kernel
theorem dX8_thrown_1 : decode cX8_thrown 1 = .ok (.getfield 94, 3) := by decide +kernel
theorem dX8_thrown_4 : decode cX8_thrown 4 = .ok (.ireturn, 1) := by decide +kernel
theorem dX8_in_0 : decode cX8_in 0 = .ok (.iload_n 0, 1) := by decide +kernel
theorem dX8_in_1 : decode cX8_in 1 = .ok (.iload_n 1, 1) := by decide +kernel
theorem dX8_in_2 : decode cX8_in 2 = .ok (.if_icmp .lt 12, 3) := by decide +kernel
theorem dX8_in_5 : decode cX8_in 5 = .ok (.iload_n 0, 1) := by decide +kernel
theorem dX8_in_6 : decode cX8_in 6 = .ok (.iload_n 2, 1) := by decide +kernel
theorem dX8_in_7 : decode cX8_in 7 = .ok (.if_icmp .gt 7, 3) := by decide +kernel
theorem dX8_in_10 : decode cX8_in 10 = .ok (.iconst 1, 1) := by decide +kernel
theorem dX8_in_11 : decode cX8_in 11 = .ok (.goto 4, 3) := by decide +kernel
theorem dX8_in_14 : decode cX8_in 14 = .ok (.iconst 0, 1) := by decide +kernel
theorem dX8_in_15 : decode cX8_in 15 = .ok (.ireturn, 1) := by decide +kernel
theorem dX8_isLine_0 : decode cX8_isLine 0 = .ok (.iload_n 1, 1) := by decide +kernel
theorem dX8_isLine_1 : decode cX8_isLine 1 = .ok (.iconst 0, 1) := by decide +kernel
theorem dX8_isLine_2 : decode cX8_isLine 2 = .ok (.aload_n 0, 1) := by decide +kernel
theorem dX8_isLine_3 : decode cX8_isLine 3 = .ok (.getfield 97, 3) := by decide +kernel
theorem dX8_isLine_6 : decode cX8_isLine 6 = .ok (.iconst 1, 1) := by decide +kernel
theorem dX8_isLine_7 : decode cX8_isLine 7 = .ok (.isub, 1) := by decide +kernel
theorem dX8_isLine_8 : decode cX8_isLine 8 = .ok (.invokestatic 100, 3) := by decide +kernel
theorem dX8_isLine_11 : decode cX8_isLine 11 = .ok (.ireturn, 1) := by decide +kernel
theorem dX8_book_0 : decode cX8_book 0 = .ok (.aload_n 0, 1) := by decide +kernel
theorem dX8_book_1 : decode cX8_book 1 = .ok (.iconst 0, 1) := by decide +kernel
theorem dX8_book_2 : decode cX8_book 2 = .ok (.putfield 94, 3) := by decide +kernel
theorem dX8_book_5 : decode cX8_book 5 = .ok (.iload_n 1, 1) := by decide +kernel
theorem dX8_book_6 : decode cX8_book 6 = .ok (.iconst 1, 1) := by decide +kernel
theorem dX8_book_7 : decode cX8_book 7 = .ok (.bipush 60, 2) := by decide +kernel
theorem dX8_book_9 : decode cX8_book 9 = .ok (.invokestatic 100, 3) := by decide +kernel
theorem dX8_book_12 : decode cX8_book 12 = .ok (.ifCond .ne 5, 3) := by decide +kernel
theorem dX8_book_15 : decode cX8_book 15 = .ok (.iconst 0, 1) := by decide +kernel
theorem dX8_book_16 : decode cX8_book 16 = .ok (.ireturn, 1) := by decide +kernel
theorem dX8_book_17 : decode cX8_book 17 = .ok (.aload_n 0, 1) := by decide +kernel
theorem dX8_book_18 : decode cX8_book 18 = .ok (.iload_n 1, 1) := by decide +kernel
theorem dX8_book_19 : decode cX8_book 19 = .ok (.putfield 9, 3) := by decide +kernel
theorem dX8_book_22 : decode cX8_book 22 = .ok (.iconst 0, 1) := by decide +kernel
theorem dX8_book_23 : decode cX8_book 23 = .ok (.istore_n 2, 1) := by decide +kernel
theorem dX8_book_24 : decode cX8_book 24 = .ok (.iload_n 2, 1) := by decide +kernel
theorem dX8_book_25 : decode cX8_book 25 = .ok (.bipush 60, 2) := by decide +kernel
theorem dX8_book_27 : decode cX8_book 27 = .ok (.if_icmp .ge 16, 3) := by decide +kernel
theorem dX8_book_30 : decode cX8_book 30 = .ok (.aload_n 0, 1) := by decide +kernel
theorem dX8_book_31 : decode cX8_book 31 = .ok (.getfield 13, 3) := by decide +kernel
theorem dX8_book_34 : decode cX8_book 34 = .ok (.iload_n 2, 1) := by decide +kernel
theorem dX8_book_35 : decode cX8_book 35 = .ok (.iconst 0, 1) := by decide +kernel
theorem dX8_book_36 : decode cX8_book 36 = .ok (.iastore, 1) := by decide +kernel
theorem dX8_book_37 : decode cX8_book 37 = .ok (.iinc 2 1, 3) := by decide +kernel
theorem dX8_book_40 : decode cX8_book 40 = .ok (.goto (-16), 3) := by decide +kernel
theorem dX8_book_43 : decode cX8_book 43 = .ok (.aload_n 0, 1) := by decide +kernel
theorem dX8_book_44 : decode cX8_book 44 = .ok (.iconst 0, 1) := by decide +kernel
theorem dX8_book_45 : decode cX8_book 45 = .ok (.putfield 97, 3) := by decide +kernel
theorem dX8_book_48 : decode cX8_book 48 = .ok (.aload_n 0, 1) := by decide +kernel
theorem dX8_book_49 : decode cX8_book 49 = .ok (.iconst 0, 1) := by decide +kernel
theorem dX8_book_50 : decode cX8_book 50 = .ok (.putfield 104, 3) := by decide +kernel
theorem dX8_book_53 : decode cX8_book 53 = .ok (.aload_n 0, 1) := by decide +kernel
theorem dX8_book_54 : decode cX8_book 54 = .ok (.iconst 0, 1) := by decide +kernel
theorem dX8_book_55 : decode cX8_book 55 = .ok (.putfield 107, 3) := by decide +kernel
theorem dX8_book_58 : decode cX8_book 58 = .ok (.iconst 1, 1) := by decide +kernel
theorem dX8_book_59 : decode cX8_book 59 = .ok (.ireturn, 1) := by decide +kernel
theorem dX8_read_0 : decode cX8_read 0 = .ok (.aload_n 0, 1) := by decide +kernel
theorem dX8_read_1 : decode cX8_read 1 = .ok (.iconst 0, 1) := by decide +kernel
theorem dX8_read_2 : decode cX8_read 2 = .ok (.putfield 94, 3) := by decide +kernel
theorem dX8_read_5 : decode cX8_read 5 = .ok (.iload_n 1, 1) := by decide +kernel
theorem dX8_read_6 : decode cX8_read 6 = .ok (.iconst 0, 1) := by decide +kernel
theorem dX8_read_7 : decode cX8_read 7 = .ok (.aload_n 0, 1) := by decide +kernel
theorem dX8_read_8 : decode cX8_read 8 = .ok (.getfield 9, 3) := by decide +kernel
theorem dX8_read_11 : decode cX8_read 11 = .ok (.iconst 1, 1) := by decide +kernel
theorem dX8_read_12 : decode cX8_read 12 = .ok (.isub, 1) := by decide +kernel
theorem dX8_read_13 : decode cX8_read 13 = .ok (.invokestatic 100, 3) := by decide +kernel
theorem dX8_read_16 : decode cX8_read 16 = .ok (.ifCond .eq 14, 3) := by decide +kernel
theorem dX8_read_19 : decode cX8_read 19 = .ok (.iload_n 2, 1) := by decide +kernel
theorem dX8_read_20 : decode cX8_read 20 = .ok (.iconst 0, 1) := by decide +kernel
theorem dX8_read_21 : decode cX8_read 21 = .ok (.sipush 999, 3) := by decide +kernel
theorem dX8_read_24 : decode cX8_read 24 = .ok (.invokestatic 100, 3) := by decide +kernel
theorem dX8_read_27 : decode cX8_read 27 = .ok (.ifCond .ne 5, 3) := by decide +kernel
theorem dX8_read_30 : decode cX8_read 30 = .ok (.iconst 0, 1) := by decide +kernel
theorem dX8_read_31 : decode cX8_read 31 = .ok (.ireturn, 1) := by decide +kernel
theorem dX8_read_32 : decode cX8_read 32 = .ok (.aload_n 0, 1) := by decide +kernel
theorem dX8_read_33 : decode cX8_read 33 = .ok (.getfield 13, 3) := by decide +kernel
theorem dX8_read_36 : decode cX8_read 36 = .ok (.iload_n 1, 1) := by decide +kernel
theorem dX8_read_37 : decode cX8_read 37 = .ok (.iload_n 2, 1) := by decide +kernel
theorem dX8_read_38 : decode cX8_read 38 = .ok (.iastore, 1) := by decide +kernel
theorem dX8_read_39 : decode cX8_read 39 = .ok (.aload_n 0, 1) := by decide +kernel
theorem dX8_read_40 : decode cX8_read 40 = .ok (.iconst 0, 1) := by decide +kernel
theorem dX8_read_41 : decode cX8_read 41 = .ok (.putfield 107, 3) := by decide +kernel
theorem dX8_read_44 : decode cX8_read 44 = .ok (.iconst 1, 1) := by decide +kernel
theorem dX8_read_45 : decode cX8_read 45 = .ok (.ireturn, 1) := by decide +kernel
theorem dX8_partsOf_0 : decode cX8_partsOf 0 = .ok (.iload_n 1, 1) := by decide +kernel
theorem dX8_partsOf_1 : decode cX8_partsOf 1 = .ok (.ifCond .lt 9, 3) := by decide +kernel
theorem dX8_partsOf_4 : decode cX8_partsOf 4 = .ok (.iload_n 1, 1) := by decide +kernel
theorem dX8_partsOf_5 : decode cX8_partsOf 5 = .ok (.ldc 111, 2) := by decide +kernel
theorem dX8_partsOf_7 : decode cX8_partsOf 7 = .ok (.if_icmp .le 5, 3) := by decide +kernel
theorem dX8_partsOf_10 : decode cX8_partsOf 10 = .ok (.iconst (-1), 1) := by decide +kernel
theorem dX8_partsOf_11 : decode cX8_partsOf 11 = .ok (.ireturn, 1) := by decide +kernel
theorem dX8_partsOf_12 : decode cX8_partsOf 12 = .ok (.iload_n 1, 1) := by decide +kernel
theorem dX8_partsOf_13 : decode cX8_partsOf 13 = .ok (.ifCond .ne 7, 3) := by decide +kernel
theorem dX8_partsOf_16 : decode cX8_partsOf 16 = .ok (.iconst 0, 1) := by decide +kernel
theorem dX8_partsOf_17 : decode cX8_partsOf 17 = .ok (.goto 25, 3) := by decide +kernel
theorem dX8_partsOf_20 : decode cX8_partsOf 20 = .ok (.iload_n 1, 1) := by decide +kernel
theorem dX8_partsOf_21 : decode cX8_partsOf 21 = .ok (.bipush 100, 2) := by decide +kernel
theorem dX8_partsOf_23 : decode cX8_partsOf 23 = .ok (.if_icmp .ge 7, 3) := by decide +kernel
theorem dX8_partsOf_26 : decode cX8_partsOf 26 = .ok (.iconst 1, 1) := by decide +kernel
theorem dX8_partsOf_27 : decode cX8_partsOf 27 = .ok (.goto 15, 3) := by decide +kernel
theorem dX8_partsOf_30 : decode cX8_partsOf 30 = .ok (.iload_n 1, 1) := by decide +kernel
theorem dX8_partsOf_31 : decode cX8_partsOf 31 = .ok (.sipush 10000, 3) := by decide +kernel
theorem dX8_partsOf_34 : decode cX8_partsOf 34 = .ok (.if_icmp .ge 7, 3) := by decide +kernel
theorem dX8_partsOf_37 : decode cX8_partsOf 37 = .ok (.iconst 2, 1) := by decide +kernel
theorem dX8_partsOf_38 : decode cX8_partsOf 38 = .ok (.goto 4, 3) := by decide +kernel
theorem dX8_partsOf_41 : decode cX8_partsOf 41 = .ok (.iconst 3, 1) := by decide +kernel
theorem dX8_partsOf_42 : decode cX8_partsOf 42 = .ok (.istore 4, 2) := by decide +kernel
theorem dX8_partsOf_44 : decode cX8_partsOf 44 = .ok (.iload_n 1, 1) := by decide +kernel
theorem dX8_partsOf_45 : decode cX8_partsOf 45 = .ok (.istore 5, 2) := by decide +kernel
theorem dX8_partsOf_47 : decode cX8_partsOf 47 = .ok (.iload 4, 2) := by decide +kernel
theorem dX8_partsOf_49 : decode cX8_partsOf 49 = .ok (.iconst 1, 1) := by decide +kernel
theorem dX8_partsOf_50 : decode cX8_partsOf 50 = .ok (.isub, 1) := by decide +kernel
theorem dX8_partsOf_51 : decode cX8_partsOf 51 = .ok (.istore 6, 2) := by decide +kernel
theorem dX8_partsOf_53 : decode cX8_partsOf 53 = .ok (.iload 6, 2) := by decide +kernel
theorem dX8_partsOf_55 : decode cX8_partsOf 55 = .ok (.ifCond .lt 48, 3) := by decide +kernel
theorem dX8_partsOf_58 : decode cX8_partsOf 58 = .ok (.iload 5, 2) := by decide +kernel
theorem dX8_partsOf_60 : decode cX8_partsOf 60 = .ok (.bipush 100, 2) := by decide +kernel
theorem dX8_partsOf_62 : decode cX8_partsOf 62 = .ok (.irem, 1) := by decide +kernel
theorem dX8_partsOf_63 : decode cX8_partsOf 63 = .ok (.istore 7, 2) := by decide +kernel
theorem dX8_partsOf_65 : decode cX8_partsOf 65 = .ok (.iload 7, 2) := by decide +kernel
theorem dX8_partsOf_67 : decode cX8_partsOf 67 = .ok (.iconst 1, 1) := by decide +kernel
theorem dX8_partsOf_68 : decode cX8_partsOf 68 = .ok (.bipush 12, 2) := by decide +kernel
theorem dX8_partsOf_70 : decode cX8_partsOf 70 = .ok (.invokestatic 100, 3) := by decide +kernel
theorem dX8_partsOf_73 : decode cX8_partsOf 73 = .ok (.ifCond .ne 5, 3) := by decide +kernel
theorem dX8_partsOf_76 : decode cX8_partsOf 76 = .ok (.iconst (-1), 1) := by decide +kernel
theorem dX8_partsOf_77 : decode cX8_partsOf 77 = .ok (.ireturn, 1) := by decide +kernel
theorem dX8_partsOf_78 : decode cX8_partsOf 78 = .ok (.aload_n 2, 1) := by decide +kernel
theorem dX8_partsOf_79 : decode cX8_partsOf 79 = .ok (.ifnull 11, 3) := by decide +kernel
theorem dX8_partsOf_82 : decode cX8_partsOf 82 = .ok (.aload_n 2, 1) := by decide +kernel
theorem dX8_partsOf_83 : decode cX8_partsOf 83 = .ok (.iload_n 3, 1) := by decide +kernel
theorem dX8_partsOf_84 : decode cX8_partsOf 84 = .ok (.iload 6, 2) := by decide +kernel
theorem dX8_partsOf_86 : decode cX8_partsOf 86 = .ok (.iadd, 1) := by decide +kernel
theorem dX8_partsOf_87 : decode cX8_partsOf 87 = .ok (.iload 7, 2) := by decide +kernel
theorem dX8_partsOf_89 : decode cX8_partsOf 89 = .ok (.iastore, 1) := by decide +kernel
theorem dX8_partsOf_90 : decode cX8_partsOf 90 = .ok (.iload 5, 2) := by decide +kernel
theorem dX8_partsOf_92 : decode cX8_partsOf 92 = .ok (.bipush 100, 2) := by decide +kernel
theorem dX8_partsOf_94 : decode cX8_partsOf 94 = .ok (.idiv, 1) := by decide +kernel
theorem dX8_partsOf_95 : decode cX8_partsOf 95 = .ok (.istore 5, 2) := by decide +kernel
theorem dX8_partsOf_97 : decode cX8_partsOf 97 = .ok (.iinc 6 (-1), 3) := by decide +kernel
theorem dX8_partsOf_100 : decode cX8_partsOf 100 = .ok (.goto (-47), 3) := by decide +kernel
theorem dX8_partsOf_103 : decode cX8_partsOf 103 = .ok (.iload 4, 2) := by decide +kernel
theorem dX8_partsOf_105 : decode cX8_partsOf 105 = .ok (.ireturn, 1) := by decide +kernel
theorem dX8_areWords_0 : decode cX8_areWords 0 = .ok (.iconst 0, 1) := by decide +kernel
theorem dX8_areWords_1 : decode cX8_areWords 1 = .ok (.istore_n 2, 1) := by decide +kernel
theorem dX8_areWords_2 : decode cX8_areWords 2 = .ok (.iload_n 2, 1) := by decide +kernel
theorem dX8_areWords_3 : decode cX8_areWords 3 = .ok (.iconst 4, 1) := by decide +kernel
theorem dX8_areWords_4 : decode cX8_areWords 4 = .ok (.if_icmp .ge 47, 3) := by decide +kernel
theorem dX8_areWords_7 : decode cX8_areWords 7 = .ok (.iload_n 0, 1) := by decide +kernel
theorem dX8_areWords_8 : decode cX8_areWords 8 = .ok (.bipush 24, 2) := by decide +kernel
theorem dX8_areWords_10 : decode cX8_areWords 10 = .ok (.bipush 8, 2) := by decide +kernel
theorem dX8_areWords_12 : decode cX8_areWords 12 = .ok (.iload_n 2, 1) := by decide +kernel
theorem dX8_areWords_13 : decode cX8_areWords 13 = .ok (.imul, 1) := by decide +kernel
theorem dX8_areWords_14 : decode cX8_areWords 14 = .ok (.isub, 1) := by decide +kernel
theorem dX8_areWords_15 : decode cX8_areWords 15 = .ok (.iushr, 1) := by decide +kernel
theorem dX8_areWords_16 : decode cX8_areWords 16 = .ok (.sipush 255, 3) := by decide +kernel
theorem dX8_areWords_19 : decode cX8_areWords 19 = .ok (.iand, 1) := by decide +kernel
theorem dX8_areWords_20 : decode cX8_areWords 20 = .ok (.bipush 26, 2) := by decide +kernel
theorem dX8_areWords_22 : decode cX8_areWords 22 = .ok (.if_icmp .gt 21, 3) := by decide +kernel
theorem dX8_areWords_25 : decode cX8_areWords 25 = .ok (.iload_n 1, 1) := by decide +kernel
theorem dX8_areWords_26 : decode cX8_areWords 26 = .ok (.bipush 24, 2) := by decide +kernel
theorem dX8_areWords_28 : decode cX8_areWords 28 = .ok (.bipush 8, 2) := by decide +kernel
theorem dX8_areWords_30 : decode cX8_areWords 30 = .ok (.iload_n 2, 1) := by decide +kernel
theorem dX8_areWords_31 : decode cX8_areWords 31 = .ok (.imul, 1) := by decide +kernel
theorem dX8_areWords_32 : decode cX8_areWords 32 = .ok (.isub, 1) := by decide +kernel
theorem dX8_areWords_33 : decode cX8_areWords 33 = .ok (.iushr, 1) := by decide +kernel
theorem dX8_areWords_34 : decode cX8_areWords 34 = .ok (.sipush 255, 3) := by decide +kernel
theorem dX8_areWords_37 : decode cX8_areWords 37 = .ok (.iand, 1) := by decide +kernel
theorem dX8_areWords_38 : decode cX8_areWords 38 = .ok (.bipush 26, 2) := by decide +kernel
theorem dX8_areWords_40 : decode cX8_areWords 40 = .ok (.if_icmp .le 5, 3) := by decide +kernel
theorem dX8_areWords_43 : decode cX8_areWords 43 = .ok (.iconst 0, 1) := by decide +kernel
theorem dX8_areWords_44 : decode cX8_areWords 44 = .ok (.ireturn, 1) := by decide +kernel
theorem dX8_areWords_45 : decode cX8_areWords 45 = .ok (.iinc 2 1, 3) := by decide +kernel
theorem dX8_areWords_48 : decode cX8_areWords 48 = .ok (.goto (-46), 3) := by decide +kernel
theorem dX8_areWords_51 : decode cX8_areWords 51 = .ok (.iconst 1, 1) := by decide +kernel
theorem dX8_areWords_52 : decode cX8_areWords 52 = .ok (.ireturn, 1) := by decide +kernel
theorem dX8_layWords_0 : decode cX8_layWords 0 = .ok (.iconst 0, 1) := by decide +kernel
theorem dX8_layWords_1 : decode cX8_layWords 1 = .ok (.istore 4, 2) := by decide +kernel
theorem dX8_layWords_3 : decode cX8_layWords 3 = .ok (.iload 4, 2) := by decide +kernel
theorem dX8_layWords_5 : decode cX8_layWords 5 = .ok (.iconst 4, 1) := by decide +kernel
theorem dX8_layWords_6 : decode cX8_layWords 6 = .ok (.if_icmp .ge 51, 3) := by decide +kernel
theorem dX8_layWords_9 : decode cX8_layWords 9 = .ok (.aload_n 2, 1) := by decide +kernel
theorem dX8_layWords_10 : decode cX8_layWords 10 = .ok (.iload_n 3, 1) := by decide +kernel
theorem dX8_layWords_11 : decode cX8_layWords 11 = .ok (.iload 4, 2) := by decide +kernel
theorem dX8_layWords_13 : decode cX8_layWords 13 = .ok (.iadd, 1) := by decide +kernel
theorem dX8_layWords_14 : decode cX8_layWords 14 = .ok (.iload_n 0, 1) := by decide +kernel
theorem dX8_layWords_15 : decode cX8_layWords 15 = .ok (.bipush 24, 2) := by decide +kernel
theorem dX8_layWords_17 : decode cX8_layWords 17 = .ok (.bipush 8, 2) := by decide +kernel
theorem dX8_layWords_19 : decode cX8_layWords 19 = .ok (.iload 4, 2) := by decide +kernel
theorem dX8_layWords_21 : decode cX8_layWords 21 = .ok (.imul, 1) := by decide +kernel
theorem dX8_layWords_22 : decode cX8_layWords 22 = .ok (.isub, 1) := by decide +kernel
theorem dX8_layWords_23 : decode cX8_layWords 23 = .ok (.iushr, 1) := by decide +kernel
theorem dX8_layWords_24 : decode cX8_layWords 24 = .ok (.sipush 255, 3) := by decide +kernel
theorem dX8_layWords_27 : decode cX8_layWords 27 = .ok (.iand, 1) := by decide +kernel
theorem dX8_layWords_28 : decode cX8_layWords 28 = .ok (.iastore, 1) := by decide +kernel
theorem dX8_layWords_29 : decode cX8_layWords 29 = .ok (.aload_n 2, 1) := by decide +kernel
theorem dX8_layWords_30 : decode cX8_layWords 30 = .ok (.iload_n 3, 1) := by decide +kernel
theorem dX8_layWords_31 : decode cX8_layWords 31 = .ok (.iconst 4, 1) := by decide +kernel
theorem dX8_layWords_32 : decode cX8_layWords 32 = .ok (.iadd, 1) := by decide +kernel
theorem dX8_layWords_33 : decode cX8_layWords 33 = .ok (.iload 4, 2) := by decide +kernel
theorem dX8_layWords_35 : decode cX8_layWords 35 = .ok (.iadd, 1) := by decide +kernel
theorem dX8_layWords_36 : decode cX8_layWords 36 = .ok (.iload_n 1, 1) := by decide +kernel
theorem dX8_layWords_37 : decode cX8_layWords 37 = .ok (.bipush 24, 2) := by decide +kernel
theorem dX8_layWords_39 : decode cX8_layWords 39 = .ok (.bipush 8, 2) := by decide +kernel
theorem dX8_layWords_41 : decode cX8_layWords 41 = .ok (.iload 4, 2) := by decide +kernel
theorem dX8_layWords_43 : decode cX8_layWords 43 = .ok (.imul, 1) := by decide +kernel
theorem dX8_layWords_44 : decode cX8_layWords 44 = .ok (.isub, 1) := by decide +kernel
theorem dX8_layWords_45 : decode cX8_layWords 45 = .ok (.iushr, 1) := by decide +kernel
theorem dX8_layWords_46 : decode cX8_layWords 46 = .ok (.sipush 255, 3) := by decide +kernel
theorem dX8_layWords_49 : decode cX8_layWords 49 = .ok (.iand, 1) := by decide +kernel
theorem dX8_layWords_50 : decode cX8_layWords 50 = .ok (.iastore, 1) := by decide +kernel
theorem dX8_layWords_51 : decode cX8_layWords 51 = .ok (.iinc 4 1, 3) := by decide +kernel
theorem dX8_layWords_54 : decode cX8_layWords 54 = .ok (.goto (-51), 3) := by decide +kernel
theorem dX8_layWords_57 : decode cX8_layWords 57 = .ok (.return_, 1) := by decide +kernel
theorem dX8_line_0 : decode cX8_line 0 = .ok (.aload_n 0, 1) := by decide +kernel
theorem dX8_line_1 : decode cX8_line 1 = .ok (.iconst 0, 1) := by decide +kernel
theorem dX8_line_2 : decode cX8_line 2 = .ok (.putfield 94, 3) := by decide +kernel
theorem dX8_line_5 : decode cX8_line 5 = .ok (.iload_n 1, 1) := by decide +kernel
theorem dX8_line_6 : decode cX8_line 6 = .ok (.iconst 0, 1) := by decide +kernel
theorem dX8_line_7 : decode cX8_line 7 = .ok (.aload_n 0, 1) := by decide +kernel
theorem dX8_line_8 : decode cX8_line 8 = .ok (.getfield 9, 3) := by decide +kernel
theorem dX8_line_11 : decode cX8_line 11 = .ok (.iconst 1, 1) := by decide +kernel
theorem dX8_line_12 : decode cX8_line 12 = .ok (.isub, 1) := by decide +kernel
theorem dX8_line_13 : decode cX8_line 13 = .ok (.invokestatic 100, 3) := by decide +kernel
theorem dX8_line_16 : decode cX8_line 16 = .ok (.ifCond .eq 76, 3) := by decide +kernel
theorem dX8_line_19 : decode cX8_line 19 = .ok (.iload_n 2, 1) := by decide +kernel
theorem dX8_line_20 : decode cX8_line 20 = .ok (.iconst 0, 1) := by decide +kernel
theorem dX8_line_21 : decode cX8_line 21 = .ok (.bipush 9, 2) := by decide +kernel
theorem dX8_line_23 : decode cX8_line 23 = .ok (.invokestatic 100, 3) := by decide +kernel
theorem dX8_line_26 : decode cX8_line 26 = .ok (.ifCond .eq 66, 3) := by decide +kernel
theorem dX8_line_29 : decode cX8_line 29 = .ok (.iload_n 3, 1) := by decide +kernel
theorem dX8_line_30 : decode cX8_line 30 = .ok (.iconst 0, 1) := by decide +kernel
theorem dX8_line_31 : decode cX8_line 31 = .ok (.bipush 9, 2) := by decide +kernel
theorem dX8_line_33 : decode cX8_line 33 = .ok (.invokestatic 100, 3) := by decide +kernel
theorem dX8_line_36 : decode cX8_line 36 = .ok (.ifCond .eq 56, 3) := by decide +kernel
theorem dX8_line_39 : decode cX8_line 39 = .ok (.iload 5, 2) := by decide +kernel
theorem dX8_line_41 : decode cX8_line 41 = .ok (.iload 6, 2) := by decide +kernel
theorem dX8_line_43 : decode cX8_line 43 = .ok (.invokestatic 112, 3) := by decide +kernel
theorem dX8_line_46 : decode cX8_line 46 = .ok (.ifCond .eq 46, 3) := by decide +kernel
theorem dX8_line_49 : decode cX8_line 49 = .ok (.aload_n 0, 1) := by decide +kernel
theorem dX8_line_50 : decode cX8_line 50 = .ok (.iload 7, 2) := by decide +kernel
theorem dX8_line_52 : decode cX8_line 52 = .ok (.aconst_null, 1) := by decide +kernel
theorem dX8_line_53 : decode cX8_line 53 = .ok (.iconst 0, 1) := by decide +kernel
theorem dX8_line_54 : decode cX8_line 54 = .ok (.invokevirtual 116, 3) := by decide +kernel
theorem dX8_line_57 : decode cX8_line 57 = .ok (.iconst (-1), 1) := by decide +kernel
theorem dX8_line_58 : decode cX8_line 58 = .ok (.if_icmp .eq 34, 3) := by decide +kernel
theorem dX8_line_61 : decode cX8_line 61 = .ok (.aload_n 0, 1) := by decide +kernel
theorem dX8_line_62 : decode cX8_line 62 = .ok (.getfield 97, 3) := by decide +kernel
theorem dX8_line_65 : decode cX8_line 65 = .ok (.bipush 20, 2) := by decide +kernel
theorem dX8_line_67 : decode cX8_line 67 = .ok (.if_icmp .eq 25, 3) := by decide +kernel
theorem dX8_line_70 : decode cX8_line 70 = .ok (.aload_n 0, 1) := by decide +kernel
theorem dX8_line_71 : decode cX8_line 71 = .ok (.getfield 97, 3) := by decide +kernel
theorem dX8_line_74 : decode cX8_line 74 = .ok (.ifCond .le 20, 3) := by decide +kernel
theorem dX8_line_77 : decode cX8_line 77 = .ok (.iload_n 1, 1) := by decide +kernel
theorem dX8_line_78 : decode cX8_line 78 = .ok (.aload_n 0, 1) := by decide +kernel
theorem dX8_line_79 : decode cX8_line 79 = .ok (.getfield 17, 3) := by decide +kernel
theorem dX8_line_82 : decode cX8_line 82 = .ok (.aload_n 0, 1) := by decide +kernel
theorem dX8_line_83 : decode cX8_line 83 = .ok (.getfield 97, 3) := by decide +kernel
theorem dX8_line_86 : decode cX8_line 86 = .ok (.iconst 1, 1) := by decide +kernel
theorem dX8_line_87 : decode cX8_line 87 = .ok (.isub, 1) := by decide +kernel
theorem dX8_line_88 : decode cX8_line 88 = .ok (.iaload, 1) := by decide +kernel
theorem dX8_line_89 : decode cX8_line 89 = .ok (.if_icmp .ge 5, 3) := by decide +kernel
theorem dX8_line_92 : decode cX8_line 92 = .ok (.iconst (-1), 1) := by decide +kernel
theorem dX8_line_93 : decode cX8_line 93 = .ok (.ireturn, 1) := by decide +kernel
theorem dX8_line_94 : decode cX8_line 94 = .ok (.aload_n 0, 1) := by decide +kernel
theorem dX8_line_95 : decode cX8_line 95 = .ok (.getfield 17, 3) := by decide +kernel
theorem dX8_line_98 : decode cX8_line 98 = .ok (.aload_n 0, 1) := by decide +kernel
theorem dX8_line_99 : decode cX8_line 99 = .ok (.getfield 97, 3) := by decide +kernel
theorem dX8_line_102 : decode cX8_line 102 = .ok (.iload_n 1, 1) := by decide +kernel
theorem dX8_line_103 : decode cX8_line 103 = .ok (.iastore, 1) := by decide +kernel
theorem dX8_line_104 : decode cX8_line 104 = .ok (.aload_n 0, 1) := by decide +kernel
theorem dX8_line_105 : decode cX8_line 105 = .ok (.getfield 20, 3) := by decide +kernel
theorem dX8_line_108 : decode cX8_line 108 = .ok (.aload_n 0, 1) := by decide +kernel
theorem dX8_line_109 : decode cX8_line 109 = .ok (.getfield 97, 3) := by decide +kernel
theorem dX8_line_112 : decode cX8_line 112 = .ok (.iload_n 2, 1) := by decide +kernel
theorem dX8_line_113 : decode cX8_line 113 = .ok (.iastore, 1) := by decide +kernel
theorem dX8_line_114 : decode cX8_line 114 = .ok (.aload_n 0, 1) := by decide +kernel
theorem dX8_line_115 : decode cX8_line 115 = .ok (.getfield 23, 3) := by decide +kernel
theorem dX8_line_118 : decode cX8_line 118 = .ok (.aload_n 0, 1) := by decide +kernel
theorem dX8_line_119 : decode cX8_line 119 = .ok (.getfield 97, 3) := by decide +kernel
theorem dX8_line_122 : decode cX8_line 122 = .ok (.iload_n 3, 1) := by decide +kernel
theorem dX8_line_123 : decode cX8_line 123 = .ok (.iastore, 1) := by decide +kernel
theorem dX8_line_124 : decode cX8_line 124 = .ok (.aload_n 0, 1) := by decide +kernel
theorem dX8_line_125 : decode cX8_line 125 = .ok (.getfield 26, 3) := by decide +kernel
theorem dX8_line_128 : decode cX8_line 128 = .ok (.aload_n 0, 1) := by decide +kernel
theorem dX8_line_129 : decode cX8_line 129 = .ok (.getfield 97, 3) := by decide +kernel
theorem dX8_line_132 : decode cX8_line 132 = .ok (.iload 4, 2) := by decide +kernel
theorem dX8_line_134 : decode cX8_line 134 = .ok (.bastore, 1) := by decide +kernel
theorem dX8_line_135 : decode cX8_line 135 = .ok (.iload 5, 2) := by decide +kernel
theorem dX8_line_137 : decode cX8_line 137 = .ok (.iload 6, 2) := by decide +kernel
theorem dX8_line_139 : decode cX8_line 139 = .ok (.aload_n 0, 1) := by decide +kernel
theorem dX8_line_140 : decode cX8_line 140 = .ok (.getfield 30, 3) := by decide +kernel
theorem dX8_line_143 : decode cX8_line 143 = .ok (.bipush 8, 2) := by decide +kernel
theorem dX8_line_145 : decode cX8_line 145 = .ok (.aload_n 0, 1) := by decide +kernel
theorem dX8_line_146 : decode cX8_line 146 = .ok (.getfield 97, 3) := by decide +kernel
theorem dX8_line_149 : decode cX8_line 149 = .ok (.imul, 1) := by decide +kernel
theorem dX8_line_150 : decode cX8_line 150 = .ok (.invokestatic 120, 3) := by decide +kernel
theorem dX8_line_153 : decode cX8_line 153 = .ok (.aload_n 0, 1) := by decide +kernel
theorem dX8_line_154 : decode cX8_line 154 = .ok (.getfield 33, 3) := by decide +kernel
theorem dX8_line_157 : decode cX8_line 157 = .ok (.aload_n 0, 1) := by decide +kernel
theorem dX8_line_158 : decode cX8_line 158 = .ok (.getfield 97, 3) := by decide +kernel
theorem dX8_line_161 : decode cX8_line 161 = .ok (.aload_n 0, 1) := by decide +kernel
theorem dX8_line_162 : decode cX8_line 162 = .ok (.iload 7, 2) := by decide +kernel
theorem dX8_line_164 : decode cX8_line 164 = .ok (.aload_n 0, 1) := by decide +kernel
theorem dX8_line_165 : decode cX8_line 165 = .ok (.getfield 36, 3) := by decide +kernel
theorem dX8_line_168 : decode cX8_line 168 = .ok (.iconst 3, 1) := by decide +kernel
theorem dX8_line_169 : decode cX8_line 169 = .ok (.aload_n 0, 1) := by decide +kernel
theorem dX8_line_170 : decode cX8_line 170 = .ok (.getfield 97, 3) := by decide +kernel
theorem dX8_line_173 : decode cX8_line 173 = .ok (.imul, 1) := by decide +kernel
theorem dX8_line_174 : decode cX8_line 174 = .ok (.invokevirtual 116, 3) := by decide +kernel
theorem dX8_line_177 : decode cX8_line 177 = .ok (.iastore, 1) := by decide +kernel
theorem dX8_line_178 : decode cX8_line 178 = .ok (.aload_n 0, 1) := by decide +kernel
theorem dX8_line_179 : decode cX8_line 179 = .ok (.dup, 1) := by decide +kernel
theorem dX8_line_180 : decode cX8_line 180 = .ok (.getfield 97, 3) := by decide +kernel
theorem dX8_line_183 : decode cX8_line 183 = .ok (.iconst 1, 1) := by decide +kernel
theorem dX8_line_184 : decode cX8_line 184 = .ok (.iadd, 1) := by decide +kernel
theorem dX8_line_185 : decode cX8_line 185 = .ok (.putfield 97, 3) := by decide +kernel
theorem dX8_line_188 : decode cX8_line 188 = .ok (.aload_n 0, 1) := by decide +kernel
theorem dX8_line_189 : decode cX8_line 189 = .ok (.iconst 0, 1) := by decide +kernel
theorem dX8_line_190 : decode cX8_line 190 = .ok (.putfield 107, 3) := by decide +kernel
theorem dX8_line_193 : decode cX8_line 193 = .ok (.aload_n 0, 1) := by decide +kernel
theorem dX8_line_194 : decode cX8_line 194 = .ok (.getfield 97, 3) := by decide +kernel
theorem dX8_line_197 : decode cX8_line 197 = .ok (.iconst 1, 1) := by decide +kernel
theorem dX8_line_198 : decode cX8_line 198 = .ok (.isub, 1) := by decide +kernel
theorem dX8_line_199 : decode cX8_line 199 = .ok (.ireturn, 1) := by decide +kernel
theorem dX8_right_0 : decode cX8_right 0 = .ok (.aload_n 0, 1) := by decide +kernel
theorem dX8_right_1 : decode cX8_right 1 = .ok (.iconst 0, 1) := by decide +kernel
theorem dX8_right_2 : decode cX8_right 2 = .ok (.putfield 94, 3) := by decide +kernel
theorem dX8_right_5 : decode cX8_right 5 = .ok (.aload_n 0, 1) := by decide +kernel
theorem dX8_right_6 : decode cX8_right 6 = .ok (.iload_n 1, 1) := by decide +kernel
theorem dX8_right_7 : decode cX8_right 7 = .ok (.invokevirtual 124, 3) := by decide +kernel
theorem dX8_right_10 : decode cX8_right 10 = .ok (.ifCond .eq 24, 3) := by decide +kernel
theorem dX8_right_13 : decode cX8_right 13 = .ok (.iload_n 2, 1) := by decide +kernel
theorem dX8_right_14 : decode cX8_right 14 = .ok (.iconst 0, 1) := by decide +kernel
theorem dX8_right_15 : decode cX8_right 15 = .ok (.bipush 9, 2) := by decide +kernel
theorem dX8_right_17 : decode cX8_right 17 = .ok (.invokestatic 100, 3) := by decide +kernel
theorem dX8_right_20 : decode cX8_right 20 = .ok (.ifCond .eq 14, 3) := by decide +kernel
theorem dX8_right_23 : decode cX8_right 23 = .ok (.aload_n 0, 1) := by decide +kernel
theorem dX8_right_24 : decode cX8_right 24 = .ok (.iload_n 3, 1) := by decide +kernel
theorem dX8_right_25 : decode cX8_right 25 = .ok (.aconst_null, 1) := by decide +kernel
theorem dX8_right_26 : decode cX8_right 26 = .ok (.iconst 0, 1) := by decide +kernel
theorem dX8_right_27 : decode cX8_right 27 = .ok (.invokevirtual 116, 3) := by decide +kernel
theorem dX8_right_30 : decode cX8_right 30 = .ok (.iconst (-1), 1) := by decide +kernel
theorem dX8_right_31 : decode cX8_right 31 = .ok (.if_icmp .ne 5, 3) := by decide +kernel
theorem dX8_right_34 : decode cX8_right 34 = .ok (.iconst 0, 1) := by decide +kernel
theorem dX8_right_35 : decode cX8_right 35 = .ok (.ireturn, 1) := by decide +kernel
theorem dX8_right_36 : decode cX8_right 36 = .ok (.aload_n 0, 1) := by decide +kernel
theorem dX8_right_37 : decode cX8_right 37 = .ok (.getfield 20, 3) := by decide +kernel
theorem dX8_right_40 : decode cX8_right 40 = .ok (.iload_n 1, 1) := by decide +kernel
theorem dX8_right_41 : decode cX8_right 41 = .ok (.iload_n 2, 1) := by decide +kernel
theorem dX8_right_42 : decode cX8_right 42 = .ok (.iastore, 1) := by decide +kernel
theorem dX8_right_43 : decode cX8_right 43 = .ok (.aload_n 0, 1) := by decide +kernel
theorem dX8_right_44 : decode cX8_right 44 = .ok (.getfield 33, 3) := by decide +kernel
theorem dX8_right_47 : decode cX8_right 47 = .ok (.iload_n 1, 1) := by decide +kernel
theorem dX8_right_48 : decode cX8_right 48 = .ok (.aload_n 0, 1) := by decide +kernel
theorem dX8_right_49 : decode cX8_right 49 = .ok (.iload_n 3, 1) := by decide +kernel
theorem dX8_right_50 : decode cX8_right 50 = .ok (.aload_n 0, 1) := by decide +kernel
theorem dX8_right_51 : decode cX8_right 51 = .ok (.getfield 36, 3) := by decide +kernel
theorem dX8_right_54 : decode cX8_right 54 = .ok (.iconst 3, 1) := by decide +kernel
theorem dX8_right_55 : decode cX8_right 55 = .ok (.iload_n 1, 1) := by decide +kernel
theorem dX8_right_56 : decode cX8_right 56 = .ok (.imul, 1) := by decide +kernel
theorem dX8_right_57 : decode cX8_right 57 = .ok (.invokevirtual 116, 3) := by decide +kernel
theorem dX8_right_60 : decode cX8_right 60 = .ok (.iastore, 1) := by decide +kernel
theorem dX8_right_61 : decode cX8_right 61 = .ok (.aload_n 0, 1) := by decide +kernel
theorem dX8_right_62 : decode cX8_right 62 = .ok (.iconst 0, 1) := by decide +kernel
theorem dX8_right_63 : decode cX8_right 63 = .ok (.putfield 107, 3) := by decide +kernel
theorem dX8_right_66 : decode cX8_right 66 = .ok (.iconst 1, 1) := by decide +kernel
theorem dX8_right_67 : decode cX8_right 67 = .ok (.ireturn, 1) := by decide +kernel
theorem dX8_drop_0 : decode cX8_drop 0 = .ok (.aload_n 0, 1) := by decide +kernel
theorem dX8_drop_1 : decode cX8_drop 1 = .ok (.iconst 0, 1) := by decide +kernel
theorem dX8_drop_2 : decode cX8_drop 2 = .ok (.putfield 94, 3) := by decide +kernel
theorem dX8_drop_5 : decode cX8_drop 5 = .ok (.aload_n 0, 1) := by decide +kernel
theorem dX8_drop_6 : decode cX8_drop 6 = .ok (.getfield 97, 3) := by decide +kernel
theorem dX8_drop_9 : decode cX8_drop 9 = .ok (.ifCond .ne 5, 3) := by decide +kernel
theorem dX8_drop_12 : decode cX8_drop 12 = .ok (.iconst (-1), 1) := by decide +kernel
theorem dX8_drop_13 : decode cX8_drop 13 = .ok (.ireturn, 1) := by decide +kernel
theorem dX8_drop_14 : decode cX8_drop 14 = .ok (.aload_n 0, 1) := by decide +kernel
theorem dX8_drop_15 : decode cX8_drop 15 = .ok (.dup, 1) := by decide +kernel
theorem dX8_drop_16 : decode cX8_drop 16 = .ok (.getfield 97, 3) := by decide +kernel
theorem dX8_drop_19 : decode cX8_drop 19 = .ok (.iconst 1, 1) := by decide +kernel
theorem dX8_drop_20 : decode cX8_drop 20 = .ok (.isub, 1) := by decide +kernel
theorem dX8_drop_21 : decode cX8_drop 21 = .ok (.putfield 97, 3) := by decide +kernel
theorem dX8_drop_24 : decode cX8_drop 24 = .ok (.aload_n 0, 1) := by decide +kernel
theorem dX8_drop_25 : decode cX8_drop 25 = .ok (.iconst 0, 1) := by decide +kernel
theorem dX8_drop_26 : decode cX8_drop 26 = .ok (.putfield 107, 3) := by decide +kernel
theorem dX8_drop_29 : decode cX8_drop 29 = .ok (.aload_n 0, 1) := by decide +kernel
theorem dX8_drop_30 : decode cX8_drop 30 = .ok (.getfield 97, 3) := by decide +kernel
theorem dX8_drop_33 : decode cX8_drop 33 = .ok (.ireturn, 1) := by decide +kernel
theorem dX8_price_0 : decode cX8_price 0 = .ok (.aload_n 0, 1) := by decide +kernel
theorem dX8_price_1 : decode cX8_price 1 = .ok (.iconst 0, 1) := by decide +kernel
theorem dX8_price_2 : decode cX8_price 2 = .ok (.putfield 94, 3) := by decide +kernel
theorem dX8_price_5 : decode cX8_price 5 = .ok (.iload_n 1, 1) := by decide +kernel
theorem dX8_price_6 : decode cX8_price 6 = .ok (.iconst 0, 1) := by decide +kernel
theorem dX8_price_7 : decode cX8_price 7 = .ok (.bipush 9, 2) := by decide +kernel
theorem dX8_price_9 : decode cX8_price 9 = .ok (.invokestatic 100, 3) := by decide +kernel
theorem dX8_price_12 : decode cX8_price 12 = .ok (.ifCond .eq 13, 3) := by decide +kernel
theorem dX8_price_15 : decode cX8_price 15 = .ok (.iload_n 2, 1) := by decide +kernel
theorem dX8_price_16 : decode cX8_price 16 = .ok (.iconst 0, 1) := by decide +kernel
theorem dX8_price_17 : decode cX8_price 17 = .ok (.bipush 50, 2) := by decide +kernel
theorem dX8_price_19 : decode cX8_price 19 = .ok (.invokestatic 100, 3) := by decide +kernel
theorem dX8_price_22 : decode cX8_price 22 = .ok (.ifCond .ne 5, 3) := by decide +kernel
theorem dX8_price_25 : decode cX8_price 25 = .ok (.iconst (-1), 1) := by decide +kernel
theorem dX8_price_26 : decode cX8_price 26 = .ok (.ireturn, 1) := by decide +kernel
theorem dX8_price_27 : decode cX8_price 27 = .ok (.aload_n 0, 1) := by decide +kernel
theorem dX8_price_28 : decode cX8_price 28 = .ok (.getfield 39, 3) := by decide +kernel
theorem dX8_price_31 : decode cX8_price 31 = .ok (.iload_n 1, 1) := by decide +kernel
theorem dX8_price_32 : decode cX8_price 32 = .ok (.iaload, 1) := by decide +kernel
theorem dX8_price_33 : decode cX8_price 33 = .ok (.istore_n 3, 1) := by decide +kernel
theorem dX8_price_34 : decode cX8_price 34 = .ok (.aload_n 0, 1) := by decide +kernel
theorem dX8_price_35 : decode cX8_price 35 = .ok (.getfield 39, 3) := by decide +kernel
theorem dX8_price_38 : decode cX8_price 38 = .ok (.iload_n 1, 1) := by decide +kernel
theorem dX8_price_39 : decode cX8_price 39 = .ok (.iload_n 2, 1) := by decide +kernel
theorem dX8_price_40 : decode cX8_price 40 = .ok (.iastore, 1) := by decide +kernel
theorem dX8_price_41 : decode cX8_price 41 = .ok (.aload_n 0, 1) := by decide +kernel
theorem dX8_price_42 : decode cX8_price 42 = .ok (.iconst 0, 1) := by decide +kernel
theorem dX8_price_43 : decode cX8_price 43 = .ok (.putfield 107, 3) := by decide +kernel
theorem dX8_price_46 : decode cX8_price 46 = .ok (.iload_n 3, 1) := by decide +kernel
theorem dX8_price_47 : decode cX8_price 47 = .ok (.ireturn, 1) := by decide +kernel
theorem dX8_want_0 : decode cX8_want 0 = .ok (.aload_n 0, 1) := by decide +kernel
theorem dX8_want_1 : decode cX8_want 1 = .ok (.iconst 0, 1) := by decide +kernel
theorem dX8_want_2 : decode cX8_want 2 = .ok (.putfield 94, 3) := by decide +kernel
theorem dX8_want_5 : decode cX8_want 5 = .ok (.iload_n 1, 1) := by decide +kernel
theorem dX8_want_6 : decode cX8_want 6 = .ok (.iconst 0, 1) := by decide +kernel
theorem dX8_want_7 : decode cX8_want 7 = .ok (.iconst 3, 1) := by decide +kernel
theorem dX8_want_8 : decode cX8_want 8 = .ok (.invokestatic 100, 3) := by decide +kernel
theorem dX8_want_11 : decode cX8_want 11 = .ok (.ifCond .eq 30, 3) := by decide +kernel
theorem dX8_want_14 : decode cX8_want 14 = .ok (.iload_n 1, 1) := by decide +kernel
theorem dX8_want_15 : decode cX8_want 15 = .ok (.ifCond .ne 16, 3) := by decide +kernel
theorem dX8_want_18 : decode cX8_want 18 = .ok (.iload_n 2, 1) := by decide +kernel
theorem dX8_want_19 : decode cX8_want 19 = .ok (.iconst 2, 1) := by decide +kernel
theorem dX8_want_20 : decode cX8_want 20 = .ok (.bipush 60, 2) := by decide +kernel
theorem dX8_want_22 : decode cX8_want 22 = .ok (.invokestatic 100, 3) := by decide +kernel
theorem dX8_want_25 : decode cX8_want 25 = .ok (.ifCond .ne 18, 3) := by decide +kernel
theorem dX8_want_28 : decode cX8_want 28 = .ok (.goto 13, 3) := by decide +kernel
theorem dX8_want_31 : decode cX8_want 31 = .ok (.iload_n 2, 1) := by decide +kernel
theorem dX8_want_32 : decode cX8_want 32 = .ok (.iconst 0, 1) := by decide +kernel
theorem dX8_want_33 : decode cX8_want 33 = .ok (.bipush 21, 2) := by decide +kernel
theorem dX8_want_35 : decode cX8_want 35 = .ok (.invokestatic 100, 3) := by decide +kernel
theorem dX8_want_38 : decode cX8_want 38 = .ok (.ifCond .ne 5, 3) := by decide +kernel
theorem dX8_want_41 : decode cX8_want 41 = .ok (.iconst (-1), 1) := by decide +kernel
theorem dX8_want_42 : decode cX8_want 42 = .ok (.ireturn, 1) := by decide +kernel
theorem dX8_want_43 : decode cX8_want 43 = .ok (.aload_n 0, 1) := by decide +kernel
theorem dX8_want_44 : decode cX8_want 44 = .ok (.getfield 42, 3) := by decide +kernel
theorem dX8_want_47 : decode cX8_want 47 = .ok (.iload_n 1, 1) := by decide +kernel
theorem dX8_want_48 : decode cX8_want 48 = .ok (.iaload, 1) := by decide +kernel
theorem dX8_want_49 : decode cX8_want 49 = .ok (.istore_n 3, 1) := by decide +kernel
theorem dX8_want_50 : decode cX8_want 50 = .ok (.aload_n 0, 1) := by decide +kernel
theorem dX8_want_51 : decode cX8_want 51 = .ok (.getfield 42, 3) := by decide +kernel
theorem dX8_want_54 : decode cX8_want 54 = .ok (.iload_n 1, 1) := by decide +kernel
theorem dX8_want_55 : decode cX8_want 55 = .ok (.iload_n 2, 1) := by decide +kernel
theorem dX8_want_56 : decode cX8_want 56 = .ok (.iastore, 1) := by decide +kernel
theorem dX8_want_57 : decode cX8_want 57 = .ok (.aload_n 0, 1) := by decide +kernel
theorem dX8_want_58 : decode cX8_want 58 = .ok (.iconst 0, 1) := by decide +kernel
theorem dX8_want_59 : decode cX8_want 59 = .ok (.putfield 107, 3) := by decide +kernel
theorem dX8_want_62 : decode cX8_want 62 = .ok (.iload_n 3, 1) := by decide +kernel
theorem dX8_want_63 : decode cX8_want 63 = .ok (.ireturn, 1) := by decide +kernel
theorem dX8_entry_0 : decode cX8_entry 0 = .ok (.aload_n 0, 1) := by decide +kernel
theorem dX8_entry_1 : decode cX8_entry 1 = .ok (.iconst 0, 1) := by decide +kernel
theorem dX8_entry_2 : decode cX8_entry 2 = .ok (.putfield 94, 3) := by decide +kernel
theorem dX8_entry_5 : decode cX8_entry 5 = .ok (.iload_n 1, 1) := by decide +kernel
theorem dX8_entry_6 : decode cX8_entry 6 = .ok (.iconst 1, 1) := by decide +kernel
theorem dX8_entry_7 : decode cX8_entry 7 = .ok (.iconst 3, 1) := by decide +kernel
theorem dX8_entry_8 : decode cX8_entry 8 = .ok (.invokestatic 100, 3) := by decide +kernel
theorem dX8_entry_11 : decode cX8_entry 11 = .ok (.ifCond .eq 32, 3) := by decide +kernel
theorem dX8_entry_14 : decode cX8_entry 14 = .ok (.iload_n 2, 1) := by decide +kernel
theorem dX8_entry_15 : decode cX8_entry 15 = .ok (.iconst 0, 1) := by decide +kernel
theorem dX8_entry_16 : decode cX8_entry 16 = .ok (.sipush 999, 3) := by decide +kernel
theorem dX8_entry_19 : decode cX8_entry 19 = .ok (.invokestatic 100, 3) := by decide +kernel
theorem dX8_entry_22 : decode cX8_entry 22 = .ok (.ifCond .eq 21, 3) := by decide +kernel
theorem dX8_entry_25 : decode cX8_entry 25 = .ok (.iload_n 3, 1) := by decide +kernel
theorem dX8_entry_26 : decode cX8_entry 26 = .ok (.iload 4, 2) := by decide +kernel
theorem dX8_entry_28 : decode cX8_entry 28 = .ok (.invokestatic 112, 3) := by decide +kernel
theorem dX8_entry_31 : decode cX8_entry 31 = .ok (.ifCond .eq 12, 3) := by decide +kernel
theorem dX8_entry_34 : decode cX8_entry 34 = .ok (.aload_n 0, 1) := by decide +kernel
theorem dX8_entry_35 : decode cX8_entry 35 = .ok (.getfield 104, 3) := by decide +kernel
theorem dX8_entry_38 : decode cX8_entry 38 = .ok (.bipush 12, 2) := by decide +kernel
theorem dX8_entry_40 : decode cX8_entry 40 = .ok (.if_icmp .ne 5, 3) := by decide +kernel
theorem dX8_entry_43 : decode cX8_entry 43 = .ok (.iconst (-1), 1) := by decide +kernel
theorem dX8_entry_44 : decode cX8_entry 44 = .ok (.ireturn, 1) := by decide +kernel
theorem dX8_entry_45 : decode cX8_entry 45 = .ok (.aload_n 0, 1) := by decide +kernel
theorem dX8_entry_46 : decode cX8_entry 46 = .ok (.getfield 45, 3) := by decide +kernel
theorem dX8_entry_49 : decode cX8_entry 49 = .ok (.aload_n 0, 1) := by decide +kernel
theorem dX8_entry_50 : decode cX8_entry 50 = .ok (.getfield 104, 3) := by decide +kernel
theorem dX8_entry_53 : decode cX8_entry 53 = .ok (.iload_n 1, 1) := by decide +kernel
theorem dX8_entry_54 : decode cX8_entry 54 = .ok (.iastore, 1) := by decide +kernel
theorem dX8_entry_55 : decode cX8_entry 55 = .ok (.aload_n 0, 1) := by decide +kernel
theorem dX8_entry_56 : decode cX8_entry 56 = .ok (.getfield 48, 3) := by decide +kernel
theorem dX8_entry_59 : decode cX8_entry 59 = .ok (.aload_n 0, 1) := by decide +kernel
theorem dX8_entry_60 : decode cX8_entry 60 = .ok (.getfield 104, 3) := by decide +kernel
theorem dX8_entry_63 : decode cX8_entry 63 = .ok (.iload_n 2, 1) := by decide +kernel
theorem dX8_entry_64 : decode cX8_entry 64 = .ok (.iastore, 1) := by decide +kernel
theorem dX8_entry_65 : decode cX8_entry 65 = .ok (.iload_n 3, 1) := by decide +kernel
theorem dX8_entry_66 : decode cX8_entry 66 = .ok (.iload 4, 2) := by decide +kernel
theorem dX8_entry_68 : decode cX8_entry 68 = .ok (.aload_n 0, 1) := by decide +kernel
theorem dX8_entry_69 : decode cX8_entry 69 = .ok (.getfield 51, 3) := by decide +kernel
theorem dX8_entry_72 : decode cX8_entry 72 = .ok (.bipush 8, 2) := by decide +kernel
theorem dX8_entry_74 : decode cX8_entry 74 = .ok (.aload_n 0, 1) := by decide +kernel
theorem dX8_entry_75 : decode cX8_entry 75 = .ok (.getfield 104, 3) := by decide +kernel
theorem dX8_entry_78 : decode cX8_entry 78 = .ok (.imul, 1) := by decide +kernel
theorem dX8_entry_79 : decode cX8_entry 79 = .ok (.invokestatic 120, 3) := by decide +kernel
theorem dX8_entry_82 : decode cX8_entry 82 = .ok (.aload_n 0, 1) := by decide +kernel
theorem dX8_entry_83 : decode cX8_entry 83 = .ok (.dup, 1) := by decide +kernel
theorem dX8_entry_84 : decode cX8_entry 84 = .ok (.getfield 104, 3) := by decide +kernel
theorem dX8_entry_87 : decode cX8_entry 87 = .ok (.iconst 1, 1) := by decide +kernel
theorem dX8_entry_88 : decode cX8_entry 88 = .ok (.iadd, 1) := by decide +kernel
theorem dX8_entry_89 : decode cX8_entry 89 = .ok (.putfield 104, 3) := by decide +kernel
theorem dX8_entry_92 : decode cX8_entry 92 = .ok (.aload_n 0, 1) := by decide +kernel
theorem dX8_entry_93 : decode cX8_entry 93 = .ok (.iconst 0, 1) := by decide +kernel
theorem dX8_entry_94 : decode cX8_entry 94 = .ok (.putfield 107, 3) := by decide +kernel
theorem dX8_entry_97 : decode cX8_entry 97 = .ok (.aload_n 0, 1) := by decide +kernel
theorem dX8_entry_98 : decode cX8_entry 98 = .ok (.getfield 104, 3) := by decide +kernel
theorem dX8_entry_101 : decode cX8_entry 101 = .ok (.iconst 1, 1) := by decide +kernel
theorem dX8_entry_102 : decode cX8_entry 102 = .ok (.isub, 1) := by decide +kernel
theorem dX8_entry_103 : decode cX8_entry 103 = .ok (.ireturn, 1) := by decide +kernel
theorem dX8_clear_0 : decode cX8_clear 0 = .ok (.aload_n 0, 1) := by decide +kernel
theorem dX8_clear_1 : decode cX8_clear 1 = .ok (.iconst 0, 1) := by decide +kernel
theorem dX8_clear_2 : decode cX8_clear 2 = .ok (.putfield 94, 3) := by decide +kernel
theorem dX8_clear_5 : decode cX8_clear 5 = .ok (.aload_n 0, 1) := by decide +kernel
theorem dX8_clear_6 : decode cX8_clear 6 = .ok (.getfield 104, 3) := by decide +kernel
theorem dX8_clear_9 : decode cX8_clear 9 = .ok (.istore_n 1, 1) := by decide +kernel
theorem dX8_clear_10 : decode cX8_clear 10 = .ok (.aload_n 0, 1) := by decide +kernel
theorem dX8_clear_11 : decode cX8_clear 11 = .ok (.iconst 0, 1) := by decide +kernel
theorem dX8_clear_12 : decode cX8_clear 12 = .ok (.putfield 104, 3) := by decide +kernel
theorem dX8_clear_15 : decode cX8_clear 15 = .ok (.aload_n 0, 1) := by decide +kernel
theorem dX8_clear_16 : decode cX8_clear 16 = .ok (.iconst 0, 1) := by decide +kernel
theorem dX8_clear_17 : decode cX8_clear 17 = .ok (.putfield 107, 3) := by decide +kernel
theorem dX8_clear_20 : decode cX8_clear 20 = .ok (.iload_n 1, 1) := by decide +kernel
theorem dX8_clear_21 : decode cX8_clear 21 = .ok (.ireturn, 1) := by decide +kernel
theorem dX8_look_0 : decode cX8_look 0 = .ok (.aload_n 0, 1) := by decide +kernel
theorem dX8_look_1 : decode cX8_look 1 = .ok (.getfield 20, 3) := by decide +kernel
theorem dX8_look_4 : decode cX8_look 4 = .ok (.iload_n 1, 1) := by decide +kernel
theorem dX8_look_5 : decode cX8_look 5 = .ok (.iaload, 1) := by decide +kernel
theorem dX8_look_6 : decode cX8_look 6 = .ok (.aload_n 0, 1) := by decide +kernel
theorem dX8_look_7 : decode cX8_look 7 = .ok (.getfield 23, 3) := by decide +kernel
theorem dX8_look_10 : decode cX8_look 10 = .ok (.iload_n 1, 1) := by decide +kernel
theorem dX8_look_11 : decode cX8_look 11 = .ok (.iaload, 1) := by decide +kernel
theorem dX8_look_12 : decode cX8_look 12 = .ok (.iadd, 1) := by decide +kernel
theorem dX8_look_13 : decode cX8_look 13 = .ok (.aload_n 0, 1) := by decide +kernel
theorem dX8_look_14 : decode cX8_look 14 = .ok (.getfield 26, 3) := by decide +kernel
theorem dX8_look_17 : decode cX8_look 17 = .ok (.iload_n 1, 1) := by decide +kernel
theorem dX8_look_18 : decode cX8_look 18 = .ok (.baload, 1) := by decide +kernel
theorem dX8_look_19 : decode cX8_look 19 = .ok (.ifCond .eq 7, 3) := by decide +kernel
theorem dX8_look_22 : decode cX8_look 22 = .ok (.iconst 3, 1) := by decide +kernel
theorem dX8_look_23 : decode cX8_look 23 = .ok (.goto 4, 3) := by decide +kernel
theorem dX8_look_26 : decode cX8_look 26 = .ok (.iconst 0, 1) := by decide +kernel
theorem dX8_look_27 : decode cX8_look 27 = .ok (.iadd, 1) := by decide +kernel
theorem dX8_look_28 : decode cX8_look 28 = .ok (.ireturn, 1) := by decide +kernel
theorem dX8_areLike_0 : decode cX8_areLike 0 = .ok (.aload_n 0, 1) := by decide +kernel
theorem dX8_areLike_1 : decode cX8_areLike 1 = .ok (.getfield 20, 3) := by decide +kernel
theorem dX8_areLike_4 : decode cX8_areLike 4 = .ok (.iload_n 1, 1) := by decide +kernel
theorem dX8_areLike_5 : decode cX8_areLike 5 = .ok (.iaload, 1) := by decide +kernel
theorem dX8_areLike_6 : decode cX8_areLike 6 = .ok (.aload_n 0, 1) := by decide +kernel
theorem dX8_areLike_7 : decode cX8_areLike 7 = .ok (.getfield 20, 3) := by decide +kernel
theorem dX8_areLike_10 : decode cX8_areLike 10 = .ok (.iload_n 2, 1) := by decide +kernel
theorem dX8_areLike_11 : decode cX8_areLike 11 = .ok (.iaload, 1) := by decide +kernel
theorem dX8_areLike_12 : decode cX8_areLike 12 = .ok (.if_icmp .eq 5, 3) := by decide +kernel
theorem dX8_areLike_15 : decode cX8_areLike 15 = .ok (.iconst 0, 1) := by decide +kernel
theorem dX8_areLike_16 : decode cX8_areLike 16 = .ok (.ireturn, 1) := by decide +kernel
theorem dX8_areLike_17 : decode cX8_areLike 17 = .ok (.iconst 0, 1) := by decide +kernel
theorem dX8_areLike_18 : decode cX8_areLike 18 = .ok (.istore_n 3, 1) := by decide +kernel
theorem dX8_areLike_19 : decode cX8_areLike 19 = .ok (.iload_n 3, 1) := by decide +kernel
theorem dX8_areLike_20 : decode cX8_areLike 20 = .ok (.bipush 8, 2) := by decide +kernel
theorem dX8_areLike_22 : decode cX8_areLike 22 = .ok (.if_icmp .ge 36, 3) := by decide +kernel
theorem dX8_areLike_25 : decode cX8_areLike 25 = .ok (.aload_n 0, 1) := by decide +kernel
theorem dX8_areLike_26 : decode cX8_areLike 26 = .ok (.getfield 30, 3) := by decide +kernel
theorem dX8_areLike_29 : decode cX8_areLike 29 = .ok (.bipush 8, 2) := by decide +kernel
theorem dX8_areLike_31 : decode cX8_areLike 31 = .ok (.iload_n 1, 1) := by decide +kernel
theorem dX8_areLike_32 : decode cX8_areLike 32 = .ok (.imul, 1) := by decide +kernel
theorem dX8_areLike_33 : decode cX8_areLike 33 = .ok (.iload_n 3, 1) := by decide +kernel
theorem dX8_areLike_34 : decode cX8_areLike 34 = .ok (.iadd, 1) := by decide +kernel
theorem dX8_areLike_35 : decode cX8_areLike 35 = .ok (.iaload, 1) := by decide +kernel
theorem dX8_areLike_36 : decode cX8_areLike 36 = .ok (.aload_n 0, 1) := by decide +kernel
theorem dX8_areLike_37 : decode cX8_areLike 37 = .ok (.getfield 30, 3) := by decide +kernel
theorem dX8_areLike_40 : decode cX8_areLike 40 = .ok (.bipush 8, 2) := by decide +kernel
theorem dX8_areLike_42 : decode cX8_areLike 42 = .ok (.iload_n 2, 1) := by decide +kernel
theorem dX8_areLike_43 : decode cX8_areLike 43 = .ok (.imul, 1) := by decide +kernel
theorem dX8_areLike_44 : decode cX8_areLike 44 = .ok (.iload_n 3, 1) := by decide +kernel
theorem dX8_areLike_45 : decode cX8_areLike 45 = .ok (.iadd, 1) := by decide +kernel
theorem dX8_areLike_46 : decode cX8_areLike 46 = .ok (.iaload, 1) := by decide +kernel
theorem dX8_areLike_47 : decode cX8_areLike 47 = .ok (.if_icmp .eq 5, 3) := by decide +kernel
theorem dX8_areLike_50 : decode cX8_areLike 50 = .ok (.iconst 0, 1) := by decide +kernel
theorem dX8_areLike_51 : decode cX8_areLike 51 = .ok (.ireturn, 1) := by decide +kernel
theorem dX8_areLike_52 : decode cX8_areLike 52 = .ok (.iinc 3 1, 3) := by decide +kernel
theorem dX8_areLike_55 : decode cX8_areLike 55 = .ok (.goto (-36), 3) := by decide +kernel
theorem dX8_areLike_58 : decode cX8_areLike 58 = .ok (.iconst 1, 1) := by decide +kernel
theorem dX8_areLike_59 : decode cX8_areLike 59 = .ok (.ireturn, 1) := by decide +kernel
theorem dX8_isRunning_0 : decode cX8_isRunning 0 = .ok (.iconst 0, 1) := by decide +kernel
theorem dX8_isRunning_1 : decode cX8_isRunning 1 = .ok (.istore_n 2, 1) := by decide +kernel
theorem dX8_isRunning_2 : decode cX8_isRunning 2 = .ok (.iconst 0, 1) := by decide +kernel
theorem dX8_isRunning_3 : decode cX8_isRunning 3 = .ok (.istore_n 3, 1) := by decide +kernel
theorem dX8_isRunning_4 : decode cX8_isRunning 4 = .ok (.iload_n 3, 1) := by decide +kernel
theorem dX8_isRunning_5 : decode cX8_isRunning 5 = .ok (.bipush 8, 2) := by decide +kernel
theorem dX8_isRunning_7 : decode cX8_isRunning 7 = .ok (.if_icmp .ge 23, 3) := by decide +kernel
theorem dX8_isRunning_10 : decode cX8_isRunning 10 = .ok (.iload_n 2, 1) := by decide +kernel
theorem dX8_isRunning_11 : decode cX8_isRunning 11 = .ok (.aload_n 0, 1) := by decide +kernel
theorem dX8_isRunning_12 : decode cX8_isRunning 12 = .ok (.getfield 30, 3) := by decide +kernel
theorem dX8_isRunning_15 : decode cX8_isRunning 15 = .ok (.bipush 8, 2) := by decide +kernel
theorem dX8_isRunning_17 : decode cX8_isRunning 17 = .ok (.iload_n 1, 1) := by decide +kernel
theorem dX8_isRunning_18 : decode cX8_isRunning 18 = .ok (.imul, 1) := by decide +kernel
theorem dX8_isRunning_19 : decode cX8_isRunning 19 = .ok (.iload_n 3, 1) := by decide +kernel
theorem dX8_isRunning_20 : decode cX8_isRunning 20 = .ok (.iadd, 1) := by decide +kernel
theorem dX8_isRunning_21 : decode cX8_isRunning 21 = .ok (.iaload, 1) := by decide +kernel
theorem dX8_isRunning_22 : decode cX8_isRunning 22 = .ok (.ior, 1) := by decide +kernel
theorem dX8_isRunning_23 : decode cX8_isRunning 23 = .ok (.istore_n 2, 1) := by decide +kernel
theorem dX8_isRunning_24 : decode cX8_isRunning 24 = .ok (.iinc 3 1, 3) := by decide +kernel
theorem dX8_isRunning_27 : decode cX8_isRunning 27 = .ok (.goto (-23), 3) := by decide +kernel
theorem dX8_isRunning_30 : decode cX8_isRunning 30 = .ok (.iload_n 2, 1) := by decide +kernel
theorem dX8_isRunning_31 : decode cX8_isRunning 31 = .ok (.ifCond .ne 5, 3) := by decide +kernel
theorem dX8_isRunning_34 : decode cX8_isRunning 34 = .ok (.iconst 0, 1) := by decide +kernel
theorem dX8_isRunning_35 : decode cX8_isRunning 35 = .ok (.ireturn, 1) := by decide +kernel
theorem dX8_isRunning_36 : decode cX8_isRunning 36 = .ok (.iconst 0, 1) := by decide +kernel
theorem dX8_isRunning_37 : decode cX8_isRunning 37 = .ok (.istore_n 3, 1) := by decide +kernel
theorem dX8_isRunning_38 : decode cX8_isRunning 38 = .ok (.iconst (-1), 1) := by decide +kernel
theorem dX8_isRunning_39 : decode cX8_isRunning 39 = .ok (.istore 4, 2) := by decide +kernel
theorem dX8_isRunning_41 : decode cX8_isRunning 41 = .ok (.iconst 0, 1) := by decide +kernel
theorem dX8_isRunning_42 : decode cX8_isRunning 42 = .ok (.istore 5, 2) := by decide +kernel
theorem dX8_isRunning_44 : decode cX8_isRunning 44 = .ok (.iload 5, 2) := by decide +kernel
theorem dX8_isRunning_46 : decode cX8_isRunning 46 = .ok (.aload_n 0, 1) := by decide +kernel
theorem dX8_isRunning_47 : decode cX8_isRunning 47 = .ok (.getfield 97, 3) := by decide +kernel
theorem dX8_isRunning_50 : decode cX8_isRunning 50 = .ok (.if_icmp .ge 46, 3) := by decide +kernel
theorem dX8_isRunning_53 : decode cX8_isRunning 53 = .ok (.aload_n 0, 1) := by decide +kernel
theorem dX8_isRunning_54 : decode cX8_isRunning 54 = .ok (.iload 5, 2) := by decide +kernel
theorem dX8_isRunning_56 : decode cX8_isRunning 56 = .ok (.iload_n 1, 1) := by decide +kernel
theorem dX8_isRunning_57 : decode cX8_isRunning 57 = .ok (.invokevirtual 128, 3) := by decide +kernel
theorem dX8_isRunning_60 : decode cX8_isRunning 60 = .ok (.ifCond .eq 30, 3) := by decide +kernel
theorem dX8_isRunning_63 : decode cX8_isRunning 63 = .ok (.aload_n 0, 1) := by decide +kernel
theorem dX8_isRunning_64 : decode cX8_isRunning 64 = .ok (.getfield 17, 3) := by decide +kernel
theorem dX8_isRunning_67 : decode cX8_isRunning 67 = .ok (.iload 5, 2) := by decide +kernel
theorem dX8_isRunning_69 : decode cX8_isRunning 69 = .ok (.iaload, 1) := by decide +kernel
theorem dX8_isRunning_70 : decode cX8_isRunning 70 = .ok (.iload 4, 2) := by decide +kernel
theorem dX8_isRunning_72 : decode cX8_isRunning 72 = .ok (.if_icmp .ne 6, 3) := by decide +kernel
theorem dX8_isRunning_75 : decode cX8_isRunning 75 = .ok (.goto 15, 3) := by decide +kernel
theorem dX8_isRunning_78 : decode cX8_isRunning 78 = .ok (.aload_n 0, 1) := by decide +kernel
theorem dX8_isRunning_79 : decode cX8_isRunning 79 = .ok (.getfield 17, 3) := by decide +kernel
theorem dX8_isRunning_82 : decode cX8_isRunning 82 = .ok (.iload 5, 2) := by decide +kernel
theorem dX8_isRunning_84 : decode cX8_isRunning 84 = .ok (.iaload, 1) := by decide +kernel
theorem dX8_isRunning_85 : decode cX8_isRunning 85 = .ok (.istore 4, 2) := by decide +kernel
theorem dX8_isRunning_87 : decode cX8_isRunning 87 = .ok (.iinc 3 1, 3) := by decide +kernel
theorem dX8_isRunning_90 : decode cX8_isRunning 90 = .ok (.iinc 5 1, 3) := by decide +kernel
theorem dX8_isRunning_93 : decode cX8_isRunning 93 = .ok (.goto (-49), 3) := by decide +kernel
theorem dX8_isRunning_96 : decode cX8_isRunning 96 = .ok (.iload_n 3, 1) := by decide +kernel
theorem dX8_isRunning_97 : decode cX8_isRunning 97 = .ok (.aload_n 0, 1) := by decide +kernel
theorem dX8_isRunning_98 : decode cX8_isRunning 98 = .ok (.getfield 42, 3) := by decide +kernel
theorem dX8_isRunning_101 : decode cX8_isRunning 101 = .ok (.iconst 0, 1) := by decide +kernel
theorem dX8_isRunning_102 : decode cX8_isRunning 102 = .ok (.iaload, 1) := by decide +kernel
theorem dX8_isRunning_103 : decode cX8_isRunning 103 = .ok (.if_icmp .lt 7, 3) := by decide +kernel
theorem dX8_isRunning_106 : decode cX8_isRunning 106 = .ok (.iconst 1, 1) := by decide +kernel
theorem dX8_isRunning_107 : decode cX8_isRunning 107 = .ok (.goto 4, 3) := by decide +kernel
theorem dX8_isRunning_110 : decode cX8_isRunning 110 = .ok (.iconst 0, 1) := by decide +kernel
theorem dX8_isRunning_111 : decode cX8_isRunning 111 = .ok (.ireturn, 1) := by decide +kernel
theorem dX8_counterOf_0 : decode cX8_counterOf 0 = .ok (.iload_n 1, 1) := by decide +kernel
theorem dX8_counterOf_1 : decode cX8_counterOf 1 = .ok (.iconst 1, 1) := by decide +kernel
theorem dX8_counterOf_2 : decode cX8_counterOf 2 = .ok (.if_icmp .ne 11, 3) := by decide +kernel
theorem dX8_counterOf_5 : decode cX8_counterOf 5 = .ok (.iload_n 0, 1) := by decide +kernel
theorem dX8_counterOf_6 : decode cX8_counterOf 6 = .ok (.sipush 1089, 3) := by decide +kernel
theorem dX8_counterOf_9 : decode cX8_counterOf 9 = .ok (.idiv, 1) := by decide +kernel
theorem dX8_counterOf_10 : decode cX8_counterOf 10 = .ok (.goto 22, 3) := by decide +kernel
theorem dX8_counterOf_13 : decode cX8_counterOf 13 = .ok (.iload_n 1, 1) := by decide +kernel
theorem dX8_counterOf_14 : decode cX8_counterOf 14 = .ok (.iconst 2, 1) := by decide +kernel
theorem dX8_counterOf_15 : decode cX8_counterOf 15 = .ok (.if_icmp .ne 13, 3) := by decide +kernel
theorem dX8_counterOf_18 : decode cX8_counterOf 18 = .ok (.iload_n 0, 1) := by decide +kernel
theorem dX8_counterOf_19 : decode cX8_counterOf 19 = .ok (.bipush 33, 2) := by decide +kernel
theorem dX8_counterOf_21 : decode cX8_counterOf 21 = .ok (.idiv, 1) := by decide +kernel
theorem dX8_counterOf_22 : decode cX8_counterOf 22 = .ok (.bipush 33, 2) := by decide +kernel
theorem dX8_counterOf_24 : decode cX8_counterOf 24 = .ok (.irem, 1) := by decide +kernel
theorem dX8_counterOf_25 : decode cX8_counterOf 25 = .ok (.goto 7, 3) := by decide +kernel
theorem dX8_counterOf_28 : decode cX8_counterOf 28 = .ok (.iload_n 0, 1) := by decide +kernel
theorem dX8_counterOf_29 : decode cX8_counterOf 29 = .ok (.bipush 33, 2) := by decide +kernel
theorem dX8_counterOf_31 : decode cX8_counterOf 31 = .ok (.irem, 1) := by decide +kernel
theorem dX8_counterOf_32 : decode cX8_counterOf 32 = .ok (.ireturn, 1) := by decide +kernel
theorem dX8_behind_0 : decode cX8_behind 0 = .ok (.iload_n 3, 1) := by decide +kernel
theorem dX8_behind_1 : decode cX8_behind 1 = .ok (.iconst 1, 1) := by decide +kernel
theorem dX8_behind_2 : decode cX8_behind 2 = .ok (.if_icmp .le 15, 3) := by decide +kernel
theorem dX8_behind_5 : decode cX8_behind 5 = .ok (.iload_n 1, 1) := by decide +kernel
theorem dX8_behind_6 : decode cX8_behind 6 = .ok (.iload_n 3, 1) := by decide +kernel
theorem dX8_behind_7 : decode cX8_behind 7 = .ok (.iconst 1, 1) := by decide +kernel
theorem dX8_behind_8 : decode cX8_behind 8 = .ok (.isub, 1) := by decide +kernel
theorem dX8_behind_9 : decode cX8_behind 9 = .ok (.invokestatic 131, 3) := by decide +kernel
theorem dX8_behind_12 : decode cX8_behind 12 = .ok (.ifCond .ne 5, 3) := by decide +kernel
theorem dX8_behind_15 : decode cX8_behind 15 = .ok (.iconst (-1), 1) := by decide +kernel
theorem dX8_behind_16 : decode cX8_behind 16 = .ok (.ireturn, 1) := by decide +kernel
theorem dX8_behind_17 : decode cX8_behind 17 = .ok (.iload_n 1, 1) := by decide +kernel
theorem dX8_behind_18 : decode cX8_behind 18 = .ok (.iload_n 3, 1) := by decide +kernel
theorem dX8_behind_19 : decode cX8_behind 19 = .ok (.invokestatic 131, 3) := by decide +kernel
theorem dX8_behind_22 : decode cX8_behind 22 = .ok (.istore 4, 2) := by decide +kernel
theorem dX8_behind_24 : decode cX8_behind 24 = .ok (.iload 4, 2) := by decide +kernel
theorem dX8_behind_26 : decode cX8_behind 26 = .ok (.iconst 1, 1) := by decide +kernel
theorem dX8_behind_27 : decode cX8_behind 27 = .ok (.iadd, 1) := by decide +kernel
theorem dX8_behind_28 : decode cX8_behind 28 = .ok (.istore 5, 2) := by decide +kernel
theorem dX8_behind_30 : decode cX8_behind 30 = .ok (.aload_n 0, 1) := by decide +kernel
theorem dX8_behind_31 : decode cX8_behind 31 = .ok (.getfield 33, 3) := by decide +kernel
theorem dX8_behind_34 : decode cX8_behind 34 = .ok (.iload_n 2, 1) := by decide +kernel
theorem dX8_behind_35 : decode cX8_behind 35 = .ok (.iaload, 1) := by decide +kernel
theorem dX8_behind_36 : decode cX8_behind 36 = .ok (.ifCond .le 77, 3) := by decide +kernel
theorem dX8_behind_39 : decode cX8_behind 39 = .ok (.aload_n 0, 1) := by decide +kernel
theorem dX8_behind_40 : decode cX8_behind 40 = .ok (.getfield 33, 3) := by decide +kernel
theorem dX8_behind_43 : decode cX8_behind 43 = .ok (.iload_n 2, 1) := by decide +kernel
theorem dX8_behind_44 : decode cX8_behind 44 = .ok (.iaload, 1) := by decide +kernel
theorem dX8_behind_45 : decode cX8_behind 45 = .ok (.iload_n 3, 1) := by decide +kernel
theorem dX8_behind_46 : decode cX8_behind 46 = .ok (.if_icmp .eq 5, 3) := by decide +kernel
theorem dX8_behind_49 : decode cX8_behind 49 = .ok (.iconst (-1), 1) := by decide +kernel
theorem dX8_behind_50 : decode cX8_behind 50 = .ok (.ireturn, 1) := by decide +kernel
theorem dX8_behind_51 : decode cX8_behind 51 = .ok (.iconst 1, 1) := by decide +kernel
theorem dX8_behind_52 : decode cX8_behind 52 = .ok (.istore 6, 2) := by decide +kernel
theorem dX8_behind_54 : decode cX8_behind 54 = .ok (.iload 6, 2) := by decide +kernel
theorem dX8_behind_56 : decode cX8_behind 56 = .ok (.iload_n 3, 1) := by decide +kernel
theorem dX8_behind_57 : decode cX8_behind 57 = .ok (.if_icmp .ge 33, 3) := by decide +kernel
theorem dX8_behind_60 : decode cX8_behind 60 = .ok (.aload_n 0, 1) := by decide +kernel
theorem dX8_behind_61 : decode cX8_behind 61 = .ok (.getfield 36, 3) := by decide +kernel
theorem dX8_behind_64 : decode cX8_behind 64 = .ok (.iconst 3, 1) := by decide +kernel
theorem dX8_behind_65 : decode cX8_behind 65 = .ok (.iload_n 2, 1) := by decide +kernel
theorem dX8_behind_66 : decode cX8_behind 66 = .ok (.imul, 1) := by decide +kernel
theorem dX8_behind_67 : decode cX8_behind 67 = .ok (.iload 6, 2) := by decide +kernel
theorem dX8_behind_69 : decode cX8_behind 69 = .ok (.iadd, 1) := by decide +kernel
theorem dX8_behind_70 : decode cX8_behind 70 = .ok (.iconst 1, 1) := by decide +kernel
theorem dX8_behind_71 : decode cX8_behind 71 = .ok (.isub, 1) := by decide +kernel
theorem dX8_behind_72 : decode cX8_behind 72 = .ok (.iaload, 1) := by decide +kernel
theorem dX8_behind_73 : decode cX8_behind 73 = .ok (.iload_n 1, 1) := by decide +kernel
theorem dX8_behind_74 : decode cX8_behind 74 = .ok (.iload 6, 2) := by decide +kernel
theorem dX8_behind_76 : decode cX8_behind 76 = .ok (.invokestatic 131, 3) := by decide +kernel
theorem dX8_behind_79 : decode cX8_behind 79 = .ok (.if_icmp .eq 5, 3) := by decide +kernel
theorem dX8_behind_82 : decode cX8_behind 82 = .ok (.iconst (-1), 1) := by decide +kernel
theorem dX8_behind_83 : decode cX8_behind 83 = .ok (.ireturn, 1) := by decide +kernel
theorem dX8_behind_84 : decode cX8_behind 84 = .ok (.iinc 6 1, 3) := by decide +kernel
theorem dX8_behind_87 : decode cX8_behind 87 = .ok (.goto (-33), 3) := by decide +kernel
theorem dX8_behind_90 : decode cX8_behind 90 = .ok (.aload_n 0, 1) := by decide +kernel
theorem dX8_behind_91 : decode cX8_behind 91 = .ok (.getfield 36, 3) := by decide +kernel
theorem dX8_behind_94 : decode cX8_behind 94 = .ok (.iconst 3, 1) := by decide +kernel
theorem dX8_behind_95 : decode cX8_behind 95 = .ok (.iload_n 2, 1) := by decide +kernel
theorem dX8_behind_96 : decode cX8_behind 96 = .ok (.imul, 1) := by decide +kernel
theorem dX8_behind_97 : decode cX8_behind 97 = .ok (.iload_n 3, 1) := by decide +kernel
theorem dX8_behind_98 : decode cX8_behind 98 = .ok (.iadd, 1) := by decide +kernel
theorem dX8_behind_99 : decode cX8_behind 99 = .ok (.iconst 1, 1) := by decide +kernel
theorem dX8_behind_100 : decode cX8_behind 100 = .ok (.isub, 1) := by decide +kernel
theorem dX8_behind_101 : decode cX8_behind 101 = .ok (.iaload, 1) := by decide +kernel
theorem dX8_behind_102 : decode cX8_behind 102 = .ok (.istore 5, 2) := by decide +kernel
theorem dX8_behind_104 : decode cX8_behind 104 = .ok (.iload 5, 2) := by decide +kernel
theorem dX8_behind_106 : decode cX8_behind 106 = .ok (.iload 4, 2) := by decide +kernel
theorem dX8_behind_108 : decode cX8_behind 108 = .ok (.if_icmp .gt 5, 3) := by decide +kernel
theorem dX8_behind_111 : decode cX8_behind 111 = .ok (.iconst (-1), 1) := by decide +kernel
theorem dX8_behind_112 : decode cX8_behind 112 = .ok (.ireturn, 1) := by decide +kernel
theorem dX8_behind_113 : decode cX8_behind 113 = .ok (.iload 5, 2) := by decide +kernel
theorem dX8_behind_115 : decode cX8_behind 115 = .ok (.bipush 33, 2) := by decide +kernel
theorem dX8_behind_117 : decode cX8_behind 117 = .ok (.if_icmp .lt 5, 3) := by decide +kernel
theorem dX8_behind_120 : decode cX8_behind 120 = .ok (.iconst (-1), 1) := by decide +kernel
theorem dX8_behind_121 : decode cX8_behind 121 = .ok (.ireturn, 1) := by decide +kernel
theorem dX8_behind_122 : decode cX8_behind 122 = .ok (.iload_n 3, 1) := by decide +kernel
theorem dX8_behind_123 : decode cX8_behind 123 = .ok (.iconst 1, 1) := by decide +kernel
theorem dX8_behind_124 : decode cX8_behind 124 = .ok (.if_icmp .ne 8, 3) := by decide +kernel
theorem dX8_behind_127 : decode cX8_behind 127 = .ok (.iload 5, 2) := by decide +kernel
theorem dX8_behind_129 : decode cX8_behind 129 = .ok (.goto 8, 3) := by decide +kernel
theorem dX8_behind_132 : decode cX8_behind 132 = .ok (.iload_n 1, 1) := by decide +kernel
theorem dX8_behind_133 : decode cX8_behind 133 = .ok (.iconst 1, 1) := by decide +kernel
theorem dX8_behind_134 : decode cX8_behind 134 = .ok (.invokestatic 131, 3) := by decide +kernel
theorem dX8_behind_137 : decode cX8_behind 137 = .ok (.istore 6, 2) := by decide +kernel
theorem dX8_behind_139 : decode cX8_behind 139 = .ok (.iload_n 3, 1) := by decide +kernel
theorem dX8_behind_140 : decode cX8_behind 140 = .ok (.iconst 2, 1) := by decide +kernel
theorem dX8_behind_141 : decode cX8_behind 141 = .ok (.if_icmp .ne 8, 3) := by decide +kernel
theorem dX8_behind_144 : decode cX8_behind 144 = .ok (.iload 5, 2) := by decide +kernel
theorem dX8_behind_146 : decode cX8_behind 146 = .ok (.goto 17, 3) := by decide +kernel
theorem dX8_behind_149 : decode cX8_behind 149 = .ok (.iload_n 3, 1) := by decide +kernel
theorem dX8_behind_150 : decode cX8_behind 150 = .ok (.iconst 2, 1) := by decide +kernel
theorem dX8_behind_151 : decode cX8_behind 151 = .ok (.if_icmp .ge 7, 3) := by decide +kernel
theorem dX8_behind_154 : decode cX8_behind 154 = .ok (.iconst 0, 1) := by decide +kernel
theorem dX8_behind_155 : decode cX8_behind 155 = .ok (.goto 8, 3) := by decide +kernel
theorem dX8_behind_158 : decode cX8_behind 158 = .ok (.iload_n 1, 1) := by decide +kernel
theorem dX8_behind_159 : decode cX8_behind 159 = .ok (.iconst 2, 1) := by decide +kernel
theorem dX8_behind_160 : decode cX8_behind 160 = .ok (.invokestatic 131, 3) := by decide +kernel
theorem dX8_behind_163 : decode cX8_behind 163 = .ok (.istore 7, 2) := by decide +kernel
theorem dX8_behind_165 : decode cX8_behind 165 = .ok (.iload_n 3, 1) := by decide +kernel
theorem dX8_behind_166 : decode cX8_behind 166 = .ok (.iconst 3, 1) := by decide +kernel
theorem dX8_behind_167 : decode cX8_behind 167 = .ok (.if_icmp .ne 8, 3) := by decide +kernel
theorem dX8_behind_170 : decode cX8_behind 170 = .ok (.iload 5, 2) := by decide +kernel
theorem dX8_behind_172 : decode cX8_behind 172 = .ok (.goto 4, 3) := by decide +kernel
theorem dX8_behind_175 : decode cX8_behind 175 = .ok (.iconst 0, 1) := by decide +kernel
theorem dX8_behind_176 : decode cX8_behind 176 = .ok (.istore 8, 2) := by decide +kernel
theorem dX8_behind_178 : decode cX8_behind 178 = .ok (.bipush 33, 2) := by decide +kernel
theorem dX8_behind_180 : decode cX8_behind 180 = .ok (.iload 6, 2) := by decide +kernel
theorem dX8_behind_182 : decode cX8_behind 182 = .ok (.imul, 1) := by decide +kernel
theorem dX8_behind_183 : decode cX8_behind 183 = .ok (.iload 7, 2) := by decide +kernel
theorem dX8_behind_185 : decode cX8_behind 185 = .ok (.iadd, 1) := by decide +kernel
theorem dX8_behind_186 : decode cX8_behind 186 = .ok (.bipush 33, 2) := by decide +kernel
theorem dX8_behind_188 : decode cX8_behind 188 = .ok (.imul, 1) := by decide +kernel
theorem dX8_behind_189 : decode cX8_behind 189 = .ok (.iload 8, 2) := by decide +kernel
theorem dX8_behind_191 : decode cX8_behind 191 = .ok (.iadd, 1) := by decide +kernel
theorem dX8_behind_192 : decode cX8_behind 192 = .ok (.ireturn, 1) := by decide +kernel
theorem dX8_costOf_0 : decode cX8_costOf 0 = .ok (.iload_n 3, 1) := by decide +kernel
theorem dX8_costOf_1 : decode cX8_costOf 1 = .ok (.ifCond .ne 29, 3) := by decide +kernel
theorem dX8_costOf_4 : decode cX8_costOf 4 = .ok (.aload_n 0, 1) := by decide +kernel
theorem dX8_costOf_5 : decode cX8_costOf 5 = .ok (.getfield 88, 3) := by decide +kernel
theorem dX8_costOf_8 : decode cX8_costOf 8 = .ok (.iload_n 2, 1) := by decide +kernel
theorem dX8_costOf_9 : decode cX8_costOf 9 = .ok (.baload, 1) := by decide +kernel
theorem dX8_costOf_10 : decode cX8_costOf 10 = .ok (.ifCond .eq 7, 3) := by decide +kernel
theorem dX8_costOf_13 : decode cX8_costOf 13 = .ok (.iconst 0, 1) := by decide +kernel
theorem dX8_costOf_14 : decode cX8_costOf 14 = .ok (.goto 15, 3) := by decide +kernel
theorem dX8_costOf_17 : decode cX8_costOf 17 = .ok (.aload_n 0, 1) := by decide +kernel
theorem dX8_costOf_18 : decode cX8_costOf 18 = .ok (.iload_n 2, 1) := by decide +kernel
theorem dX8_costOf_19 : decode cX8_costOf 19 = .ok (.invokevirtual 135, 3) := by decide +kernel
theorem dX8_costOf_22 : decode cX8_costOf 22 = .ok (.aload_n 0, 1) := by decide +kernel
theorem dX8_costOf_23 : decode cX8_costOf 23 = .ok (.getfield 39, 3) := by decide +kernel
theorem dX8_costOf_26 : decode cX8_costOf 26 = .ok (.iconst 0, 1) := by decide +kernel
theorem dX8_costOf_27 : decode cX8_costOf 27 = .ok (.iaload, 1) := by decide +kernel
theorem dX8_costOf_28 : decode cX8_costOf 28 = .ok (.imul, 1) := by decide +kernel
theorem dX8_costOf_29 : decode cX8_costOf 29 = .ok (.ireturn, 1) := by decide +kernel
theorem dX8_costOf_30 : decode cX8_costOf 30 = .ok (.aload_n 0, 1) := by decide +kernel
theorem dX8_costOf_31 : decode cX8_costOf 31 = .ok (.getfield 39, 3) := by decide +kernel
theorem dX8_costOf_34 : decode cX8_costOf 34 = .ok (.iconst 1, 1) := by decide +kernel
theorem dX8_costOf_35 : decode cX8_costOf 35 = .ok (.iaload, 1) := by decide +kernel
theorem dX8_costOf_36 : decode cX8_costOf 36 = .ok (.aload_n 0, 1) := by decide +kernel
theorem dX8_costOf_37 : decode cX8_costOf 37 = .ok (.iload_n 2, 1) := by decide +kernel
theorem dX8_costOf_38 : decode cX8_costOf 38 = .ok (.invokevirtual 135, 3) := by decide +kernel
theorem dX8_costOf_41 : decode cX8_costOf 41 = .ok (.aload_n 0, 1) := by decide +kernel
theorem dX8_costOf_42 : decode cX8_costOf 42 = .ok (.getfield 42, 3) := by decide +kernel
theorem dX8_costOf_45 : decode cX8_costOf 45 = .ok (.iload_n 3, 1) := by decide +kernel
theorem dX8_costOf_46 : decode cX8_costOf 46 = .ok (.iaload, 1) := by decide +kernel
theorem dX8_costOf_47 : decode cX8_costOf 47 = .ok (.isub, 1) := by decide +kernel
theorem dX8_costOf_48 : decode cX8_costOf 48 = .ok (.invokestatic 139, 3) := by decide +kernel
theorem dX8_costOf_51 : decode cX8_costOf 51 = .ok (.imul, 1) := by decide +kernel
theorem dX8_costOf_52 : decode cX8_costOf 52 = .ok (.istore 4, 2) := by decide +kernel
theorem dX8_costOf_54 : decode cX8_costOf 54 = .ok (.aload_n 0, 1) := by decide +kernel
theorem dX8_costOf_55 : decode cX8_costOf 55 = .ok (.getfield 33, 3) := by decide +kernel
theorem dX8_costOf_58 : decode cX8_costOf 58 = .ok (.iload_n 2, 1) := by decide +kernel
theorem dX8_costOf_59 : decode cX8_costOf 59 = .ok (.iaload, 1) := by decide +kernel
theorem dX8_costOf_60 : decode cX8_costOf 60 = .ok (.ifCond .ne 13, 3) := by decide +kernel
theorem dX8_costOf_63 : decode cX8_costOf 63 = .ok (.iload 4, 2) := by decide +kernel
theorem dX8_costOf_65 : decode cX8_costOf 65 = .ok (.aload_n 0, 1) := by decide +kernel
theorem dX8_costOf_66 : decode cX8_costOf 66 = .ok (.getfield 39, 3) := by decide +kernel
theorem dX8_costOf_69 : decode cX8_costOf 69 = .ok (.iconst 3, 1) := by decide +kernel
theorem dX8_costOf_70 : decode cX8_costOf 70 = .ok (.iaload, 1) := by decide +kernel
theorem dX8_costOf_71 : decode cX8_costOf 71 = .ok (.iadd, 1) := by decide +kernel
theorem dX8_costOf_72 : decode cX8_costOf 72 = .ok (.ireturn, 1) := by decide +kernel
theorem dX8_costOf_73 : decode cX8_costOf 73 = .ok (.aload_n 0, 1) := by decide +kernel
theorem dX8_costOf_74 : decode cX8_costOf 74 = .ok (.getfield 36, 3) := by decide +kernel
theorem dX8_costOf_77 : decode cX8_costOf 77 = .ok (.iconst 3, 1) := by decide +kernel
theorem dX8_costOf_78 : decode cX8_costOf 78 = .ok (.iload_n 2, 1) := by decide +kernel
theorem dX8_costOf_79 : decode cX8_costOf 79 = .ok (.imul, 1) := by decide +kernel
theorem dX8_costOf_80 : decode cX8_costOf 80 = .ok (.iload_n 3, 1) := by decide +kernel
theorem dX8_costOf_81 : decode cX8_costOf 81 = .ok (.iadd, 1) := by decide +kernel
theorem dX8_costOf_82 : decode cX8_costOf 82 = .ok (.iconst 1, 1) := by decide +kernel
theorem dX8_costOf_83 : decode cX8_costOf 83 = .ok (.isub, 1) := by decide +kernel
theorem dX8_costOf_84 : decode cX8_costOf 84 = .ok (.iaload, 1) := by decide +kernel
theorem dX8_costOf_85 : decode cX8_costOf 85 = .ok (.iload_n 1, 1) := by decide +kernel
theorem dX8_costOf_86 : decode cX8_costOf 86 = .ok (.iload_n 3, 1) := by decide +kernel
theorem dX8_costOf_87 : decode cX8_costOf 87 = .ok (.invokestatic 131, 3) := by decide +kernel
theorem dX8_costOf_90 : decode cX8_costOf 90 = .ok (.iconst 1, 1) := by decide +kernel
theorem dX8_costOf_91 : decode cX8_costOf 91 = .ok (.iadd, 1) := by decide +kernel
theorem dX8_costOf_92 : decode cX8_costOf 92 = .ok (.if_icmp .ne 8, 3) := by decide +kernel
theorem dX8_costOf_95 : decode cX8_costOf 95 = .ok (.iload 4, 2) := by decide +kernel
theorem dX8_costOf_97 : decode cX8_costOf 97 = .ok (.goto 12, 3) := by decide +kernel
theorem dX8_costOf_100 : decode cX8_costOf 100 = .ok (.iload 4, 2) := by decide +kernel
theorem dX8_costOf_102 : decode cX8_costOf 102 = .ok (.aload_n 0, 1) := by decide +kernel
theorem dX8_costOf_103 : decode cX8_costOf 103 = .ok (.getfield 39, 3) := by decide +kernel
theorem dX8_costOf_106 : decode cX8_costOf 106 = .ok (.iconst 2, 1) := by decide +kernel
theorem dX8_costOf_107 : decode cX8_costOf 107 = .ok (.iaload, 1) := by decide +kernel
theorem dX8_costOf_108 : decode cX8_costOf 108 = .ok (.iadd, 1) := by decide +kernel
theorem dX8_costOf_109 : decode cX8_costOf 109 = .ok (.ireturn, 1) := by decide +kernel
theorem dX8_costWithLevel_0 : decode cX8_costWithLevel 0 = .ok (.iload_n 3, 1) := by decide +kernel
theorem dX8_costWithLevel_1 : decode cX8_costWithLevel 1 = .ok (.ifCond .ne 7, 3) := by decide +kernel
theorem dX8_costWithLevel_4 : decode cX8_costWithLevel 4 = .ok (.iload_n 2, 1) := by decide +kernel
theorem dX8_costWithLevel_5 : decode cX8_costWithLevel 5 = .ok (.goto 23, 3) := by decide +kernel
theorem dX8_costWithLevel_8 : decode cX8_costWithLevel 8 = .ok (.aload_n 0, 1) := by decide +kernel
theorem dX8_costWithLevel_9 : decode cX8_costWithLevel 9 = .ok (.getfield 88, 3) := by decide +kernel
theorem dX8_costWithLevel_12 : decode cX8_costWithLevel 12 = .ok (.iload_n 1, 1) := by decide +kernel
theorem dX8_costWithLevel_13 : decode cX8_costWithLevel 13 = .ok (.baload, 1) := by decide +kernel
theorem dX8_costWithLevel_14 : decode cX8_costWithLevel 14 = .ok (.ifCond .eq 7, 3) := by decide +kernel
theorem dX8_costWithLevel_17 : decode cX8_costWithLevel 17 = .ok (.iconst (-1), 1) := by decide +kernel
theorem dX8_costWithLevel_18 : decode cX8_costWithLevel 18 = .ok (.goto 10, 3) := by decide +kernel
theorem dX8_costWithLevel_21 : decode cX8_costWithLevel 21 = .ok (.aload_n 0, 1) := by decide +kernel
theorem dX8_costWithLevel_22 : decode cX8_costWithLevel 22 = .ok (.iload_n 2, 1) := by decide +kernel
theorem dX8_costWithLevel_23 : decode cX8_costWithLevel 23 = .ok (.iload_n 1, 1) := by decide +kernel
theorem dX8_costWithLevel_24 : decode cX8_costWithLevel 24 = .ok (.iload_n 3, 1) := by decide +kernel
theorem dX8_costWithLevel_25 : decode cX8_costWithLevel 25 = .ok (.invokevirtual 144, 3) := by decide +kernel
theorem dX8_costWithLevel_28 : decode cX8_costWithLevel 28 = .ok (.istore 4, 2) := by decide +kernel
theorem dX8_costWithLevel_30 : decode cX8_costWithLevel 30 = .ok (.iload 4, 2) := by decide +kernel
theorem dX8_costWithLevel_32 : decode cX8_costWithLevel 32 = .ok (.iconst (-1), 1) := by decide +kernel
theorem dX8_costWithLevel_33 : decode cX8_costWithLevel 33 = .ok (.if_icmp .ne 8, 3) := by decide +kernel
theorem dX8_costWithLevel_36 : decode cX8_costWithLevel 36 = .ok (.ldc 148, 2) := by decide +kernel
theorem dX8_costWithLevel_38 : decode cX8_costWithLevel 38 = .ok (.goto 20, 3) := by decide +kernel
theorem dX8_costWithLevel_41 : decode cX8_costWithLevel 41 = .ok (.aload_n 0, 1) := by decide +kernel
theorem dX8_costWithLevel_42 : decode cX8_costWithLevel 42 = .ok (.iload_n 2, 1) := by decide +kernel
theorem dX8_costWithLevel_43 : decode cX8_costWithLevel 43 = .ok (.iload_n 1, 1) := by decide +kernel
theorem dX8_costWithLevel_44 : decode cX8_costWithLevel 44 = .ok (.iload_n 3, 1) := by decide +kernel
theorem dX8_costWithLevel_45 : decode cX8_costWithLevel 45 = .ok (.invokevirtual 149, 3) := by decide +kernel
theorem dX8_costWithLevel_48 : decode cX8_costWithLevel 48 = .ok (.aload_n 0, 1) := by decide +kernel
theorem dX8_costWithLevel_49 : decode cX8_costWithLevel 49 = .ok (.iload_n 1, 1) := by decide +kernel
theorem dX8_costWithLevel_50 : decode cX8_costWithLevel 50 = .ok (.iconst 1, 1) := by decide +kernel
theorem dX8_costWithLevel_51 : decode cX8_costWithLevel 51 = .ok (.iadd, 1) := by decide +kernel
theorem dX8_costWithLevel_52 : decode cX8_costWithLevel 52 = .ok (.iload 4, 2) := by decide +kernel
theorem dX8_costWithLevel_54 : decode cX8_costWithLevel 54 = .ok (.invokevirtual 152, 3) := by decide +kernel
theorem dX8_costWithLevel_57 : decode cX8_costWithLevel 57 = .ok (.iadd, 1) := by decide +kernel
theorem dX8_costWithLevel_58 : decode cX8_costWithLevel 58 = .ok (.ireturn, 1) := by decide +kernel
theorem dX8_leastFrom_0 : decode cX8_leastFrom 0 = .ok (.iload_n 1, 1) := by decide +kernel
theorem dX8_leastFrom_1 : decode cX8_leastFrom 1 = .ok (.aload_n 0, 1) := by decide +kernel
theorem dX8_leastFrom_2 : decode cX8_leastFrom 2 = .ok (.getfield 97, 3) := by decide +kernel
theorem dX8_leastFrom_5 : decode cX8_leastFrom 5 = .ok (.if_icmp .ne 5, 3) := by decide +kernel
theorem dX8_leastFrom_8 : decode cX8_leastFrom 8 = .ok (.iconst 0, 1) := by decide +kernel
theorem dX8_leastFrom_9 : decode cX8_leastFrom 9 = .ok (.ireturn, 1) := by decide +kernel
theorem dX8_leastFrom_10 : decode cX8_leastFrom 10 = .ok (.ldc 155, 2) := by decide +kernel
theorem dX8_leastFrom_12 : decode cX8_leastFrom 12 = .ok (.iload_n 1, 1) := by decide +kernel
theorem dX8_leastFrom_13 : decode cX8_leastFrom 13 = .ok (.imul, 1) := by decide +kernel
theorem dX8_leastFrom_14 : decode cX8_leastFrom 14 = .ok (.iload_n 2, 1) := by decide +kernel
theorem dX8_leastFrom_15 : decode cX8_leastFrom 15 = .ok (.iadd, 1) := by decide +kernel
theorem dX8_leastFrom_16 : decode cX8_leastFrom 16 = .ok (.istore_n 3, 1) := by decide +kernel
theorem dX8_leastFrom_17 : decode cX8_leastFrom 17 = .ok (.aload_n 0, 1) := by decide +kernel
theorem dX8_leastFrom_18 : decode cX8_leastFrom 18 = .ok (.getfield 91, 3) := by decide +kernel
theorem dX8_leastFrom_21 : decode cX8_leastFrom 21 = .ok (.iload_n 3, 1) := by decide +kernel
theorem dX8_leastFrom_22 : decode cX8_leastFrom 22 = .ok (.iaload, 1) := by decide +kernel
theorem dX8_leastFrom_23 : decode cX8_leastFrom 23 = .ok (.aload_n 0, 1) := by decide +kernel
theorem dX8_leastFrom_24 : decode cX8_leastFrom 24 = .ok (.getfield 156, 3) := by decide +kernel
theorem dX8_leastFrom_27 : decode cX8_leastFrom 27 = .ok (.if_icmp .ne 10, 3) := by decide +kernel
theorem dX8_leastFrom_30 : decode cX8_leastFrom 30 = .ok (.aload_n 0, 1) := by decide +kernel
theorem dX8_leastFrom_31 : decode cX8_leastFrom 31 = .ok (.getfield 55, 3) := by decide +kernel
theorem dX8_leastFrom_34 : decode cX8_leastFrom 34 = .ok (.iload_n 3, 1) := by decide +kernel
theorem dX8_leastFrom_35 : decode cX8_leastFrom 35 = .ok (.iaload, 1) := by decide +kernel
theorem dX8_leastFrom_36 : decode cX8_leastFrom 36 = .ok (.ireturn, 1) := by decide +kernel
theorem dX8_leastFrom_37 : decode cX8_leastFrom 37 = .ok (.ldc 148, 2) := by decide +kernel
theorem dX8_leastFrom_39 : decode cX8_leastFrom 39 = .ok (.istore 4, 2) := by decide +kernel
theorem dX8_leastFrom_41 : decode cX8_leastFrom 41 = .ok (.iconst 0, 1) := by decide +kernel
theorem dX8_leastFrom_42 : decode cX8_leastFrom 42 = .ok (.istore 5, 2) := by decide +kernel
theorem dX8_leastFrom_44 : decode cX8_leastFrom 44 = .ok (.iload 5, 2) := by decide +kernel
theorem dX8_leastFrom_46 : decode cX8_leastFrom 46 = .ok (.iconst 4, 1) := by decide +kernel
theorem dX8_leastFrom_47 : decode cX8_leastFrom 47 = .ok (.if_icmp .ge 24, 3) := by decide +kernel
theorem dX8_leastFrom_50 : decode cX8_leastFrom 50 = .ok (.iload 4, 2) := by decide +kernel
theorem dX8_leastFrom_52 : decode cX8_leastFrom 52 = .ok (.aload_n 0, 1) := by decide +kernel
theorem dX8_leastFrom_53 : decode cX8_leastFrom 53 = .ok (.iload_n 1, 1) := by decide +kernel
theorem dX8_leastFrom_54 : decode cX8_leastFrom 54 = .ok (.iload_n 2, 1) := by decide +kernel
theorem dX8_leastFrom_55 : decode cX8_leastFrom 55 = .ok (.iload 5, 2) := by decide +kernel
theorem dX8_leastFrom_57 : decode cX8_leastFrom 57 = .ok (.invokevirtual 159, 3) := by decide +kernel
theorem dX8_leastFrom_60 : decode cX8_leastFrom 60 = .ok (.invokestatic 162, 3) := by decide +kernel
theorem dX8_leastFrom_63 : decode cX8_leastFrom 63 = .ok (.istore 4, 2) := by decide +kernel
theorem dX8_leastFrom_65 : decode cX8_leastFrom 65 = .ok (.iinc 5 1, 3) := by decide +kernel
theorem dX8_leastFrom_68 : decode cX8_leastFrom 68 = .ok (.goto (-24), 3) := by decide +kernel
theorem dX8_leastFrom_71 : decode cX8_leastFrom 71 = .ok (.aload_n 0, 1) := by decide +kernel
theorem dX8_leastFrom_72 : decode cX8_leastFrom 72 = .ok (.getfield 91, 3) := by decide +kernel
theorem dX8_leastFrom_75 : decode cX8_leastFrom 75 = .ok (.iload_n 3, 1) := by decide +kernel
theorem dX8_leastFrom_76 : decode cX8_leastFrom 76 = .ok (.aload_n 0, 1) := by decide +kernel
theorem dX8_leastFrom_77 : decode cX8_leastFrom 77 = .ok (.getfield 156, 3) := by decide +kernel
theorem dX8_leastFrom_80 : decode cX8_leastFrom 80 = .ok (.iastore, 1) := by decide +kernel
theorem dX8_leastFrom_81 : decode cX8_leastFrom 81 = .ok (.aload_n 0, 1) := by decide +kernel
theorem dX8_leastFrom_82 : decode cX8_leastFrom 82 = .ok (.getfield 55, 3) := by decide +kernel
theorem dX8_leastFrom_85 : decode cX8_leastFrom 85 = .ok (.iload_n 3, 1) := by decide +kernel
theorem dX8_leastFrom_86 : decode cX8_leastFrom 86 = .ok (.iload 4, 2) := by decide +kernel
theorem dX8_leastFrom_88 : decode cX8_leastFrom 88 = .ok (.iastore, 1) := by decide +kernel
theorem dX8_leastFrom_89 : decode cX8_leastFrom 89 = .ok (.iload 4, 2) := by decide +kernel
theorem dX8_leastFrom_91 : decode cX8_leastFrom 91 = .ok (.ireturn, 1) := by decide +kernel
theorem dX8_findTree_0 : decode cX8_findTree 0 = .ok (.iconst 0, 1) := by decide +kernel
theorem dX8_findTree_1 : decode cX8_findTree 1 = .ok (.istore_n 1, 1) := by decide +kernel
theorem dX8_findTree_2 : decode cX8_findTree 2 = .ok (.iload_n 1, 1) := by decide +kernel
theorem dX8_findTree_3 : decode cX8_findTree 3 = .ok (.aload_n 0, 1) := by decide +kernel
theorem dX8_findTree_4 : decode cX8_findTree 4 = .ok (.getfield 97, 3) := by decide +kernel
theorem dX8_findTree_7 : decode cX8_findTree 7 = .ok (.if_icmp .ge 20, 3) := by decide +kernel
theorem dX8_findTree_10 : decode cX8_findTree 10 = .ok (.aload_n 0, 1) := by decide +kernel
theorem dX8_findTree_11 : decode cX8_findTree 11 = .ok (.getfield 88, 3) := by decide +kernel
theorem dX8_findTree_14 : decode cX8_findTree 14 = .ok (.iload_n 1, 1) := by decide +kernel
theorem dX8_findTree_15 : decode cX8_findTree 15 = .ok (.aload_n 0, 1) := by decide +kernel
theorem dX8_findTree_16 : decode cX8_findTree 16 = .ok (.iload_n 1, 1) := by decide +kernel
theorem dX8_findTree_17 : decode cX8_findTree 17 = .ok (.invokevirtual 165, 3) := by decide +kernel
theorem dX8_findTree_20 : decode cX8_findTree 20 = .ok (.bastore, 1) := by decide +kernel
theorem dX8_findTree_21 : decode cX8_findTree 21 = .ok (.iinc 1 1, 3) := by decide +kernel
theorem dX8_findTree_24 : decode cX8_findTree 24 = .ok (.goto (-22), 3) := by decide +kernel
theorem dX8_findTree_27 : decode cX8_findTree 27 = .ok (.aload_n 0, 1) := by decide +kernel
theorem dX8_findTree_28 : decode cX8_findTree 28 = .ok (.dup, 1) := by decide +kernel
theorem dX8_findTree_29 : decode cX8_findTree 29 = .ok (.getfield 156, 3) := by decide +kernel
theorem dX8_findTree_32 : decode cX8_findTree 32 = .ok (.iconst 1, 1) := by decide +kernel
theorem dX8_findTree_33 : decode cX8_findTree 33 = .ok (.iadd, 1) := by decide +kernel
theorem dX8_findTree_34 : decode cX8_findTree 34 = .ok (.putfield 156, 3) := by decide +kernel
theorem dX8_findTree_37 : decode cX8_findTree 37 = .ok (.aload_n 0, 1) := by decide +kernel
theorem dX8_findTree_38 : decode cX8_findTree 38 = .ok (.aload_n 0, 1) := by decide +kernel
theorem dX8_findTree_39 : decode cX8_findTree 39 = .ok (.iconst 0, 1) := by decide +kernel
theorem dX8_findTree_40 : decode cX8_findTree 40 = .ok (.iconst 0, 1) := by decide +kernel
theorem dX8_findTree_41 : decode cX8_findTree 41 = .ok (.invokevirtual 152, 3) := by decide +kernel
theorem dX8_findTree_44 : decode cX8_findTree 44 = .ok (.putfield 168, 3) := by decide +kernel
theorem dX8_findTree_47 : decode cX8_findTree 47 = .ok (.aload_n 0, 1) := by decide +kernel
theorem dX8_findTree_48 : decode cX8_findTree 48 = .ok (.iconst 0, 1) := by decide +kernel
theorem dX8_findTree_49 : decode cX8_findTree 49 = .ok (.putfield 171, 3) := by decide +kernel
theorem dX8_findTree_52 : decode cX8_findTree 52 = .ok (.iconst 0, 1) := by decide +kernel
theorem dX8_findTree_53 : decode cX8_findTree 53 = .ok (.istore_n 1, 1) := by decide +kernel
theorem dX8_findTree_54 : decode cX8_findTree 54 = .ok (.iconst 0, 1) := by decide +kernel
theorem dX8_findTree_55 : decode cX8_findTree 55 = .ok (.istore_n 2, 1) := by decide +kernel
end
section
theorem dX8_findTree_56 : decode cX8_findTree 56 = .ok (.iload_n 2, 1) := by decide +kernel
theorem dX8_findTree_57 : decode cX8_findTree 57 = .ok (.aload_n 0, 1) := by decide +kernel
theorem dX8_findTree_58 : decode cX8_findTree 58 = .ok (.getfield 97, 3) := by decide +kernel
theorem dX8_findTree_61 : decode cX8_findTree 61 = .ok (.if_icmp .ge 117, 3) := by decide +kernel
theorem dX8_findTree_64 : decode cX8_findTree 64 = .ok (.iconst 0, 1) := by decide +kernel
theorem dX8_findTree_65 : decode cX8_findTree 65 = .ok (.istore_n 3, 1) := by decide +kernel
theorem dX8_findTree_66 : decode cX8_findTree 66 = .ok (.aload_n 0, 1) := by decide +kernel
theorem dX8_findTree_67 : decode cX8_findTree 67 = .ok (.iload_n 2, 1) := by decide +kernel
theorem dX8_findTree_68 : decode cX8_findTree 68 = .ok (.iload_n 1, 1) := by decide +kernel
theorem dX8_findTree_69 : decode cX8_findTree 69 = .ok (.iload_n 3, 1) := by decide +kernel
theorem dX8_findTree_70 : decode cX8_findTree 70 = .ok (.invokevirtual 159, 3) := by decide +kernel
theorem dX8_findTree_73 : decode cX8_findTree 73 = .ok (.aload_n 0, 1) := by decide +kernel
theorem dX8_findTree_74 : decode cX8_findTree 74 = .ok (.iload_n 2, 1) := by decide +kernel
theorem dX8_findTree_75 : decode cX8_findTree 75 = .ok (.iload_n 1, 1) := by decide +kernel
theorem dX8_findTree_76 : decode cX8_findTree 76 = .ok (.invokevirtual 152, 3) := by decide +kernel
theorem dX8_findTree_79 : decode cX8_findTree 79 = .ok (.if_icmp .eq 9, 3) := by decide +kernel
theorem dX8_findTree_82 : decode cX8_findTree 82 = .ok (.iinc 3 1, 3) := by decide +kernel
theorem dX8_findTree_85 : decode cX8_findTree 85 = .ok (.goto (-19), 3) := by decide +kernel
theorem dX8_findTree_88 : decode cX8_findTree 88 = .ok (.aload_n 0, 1) := by decide +kernel
theorem dX8_findTree_89 : decode cX8_findTree 89 = .ok (.getfield 58, 3) := by decide +kernel
theorem dX8_findTree_92 : decode cX8_findTree 92 = .ok (.iload_n 2, 1) := by decide +kernel
theorem dX8_findTree_93 : decode cX8_findTree 93 = .ok (.iload_n 3, 1) := by decide +kernel
theorem dX8_findTree_94 : decode cX8_findTree 94 = .ok (.iastore, 1) := by decide +kernel
theorem dX8_findTree_95 : decode cX8_findTree 95 = .ok (.iload_n 3, 1) := by decide +kernel
theorem dX8_findTree_96 : decode cX8_findTree 96 = .ok (.ifCond .ne 7, 3) := by decide +kernel
theorem dX8_findTree_99 : decode cX8_findTree 99 = .ok (.iload_n 1, 1) := by decide +kernel
theorem dX8_findTree_100 : decode cX8_findTree 100 = .ok (.goto 10, 3) := by decide +kernel
theorem dX8_findTree_103 : decode cX8_findTree 103 = .ok (.aload_n 0, 1) := by decide +kernel
theorem dX8_findTree_104 : decode cX8_findTree 104 = .ok (.iload_n 1, 1) := by decide +kernel
theorem dX8_findTree_105 : decode cX8_findTree 105 = .ok (.iload_n 2, 1) := by decide +kernel
theorem dX8_findTree_106 : decode cX8_findTree 106 = .ok (.iload_n 3, 1) := by decide +kernel
theorem dX8_findTree_107 : decode cX8_findTree 107 = .ok (.invokevirtual 144, 3) := by decide +kernel
theorem dX8_findTree_110 : decode cX8_findTree 110 = .ok (.istore_n 1, 1) := by decide +kernel
theorem dX8_findTree_111 : decode cX8_findTree 111 = .ok (.iconst 0, 1) := by decide +kernel
theorem dX8_findTree_112 : decode cX8_findTree 112 = .ok (.istore 4, 2) := by decide +kernel
theorem dX8_findTree_114 : decode cX8_findTree 114 = .ok (.iload 4, 2) := by decide +kernel
theorem dX8_findTree_116 : decode cX8_findTree 116 = .ok (.iconst 3, 1) := by decide +kernel
theorem dX8_findTree_117 : decode cX8_findTree 117 = .ok (.if_icmp .ge 28, 3) := by decide +kernel
theorem dX8_findTree_120 : decode cX8_findTree 120 = .ok (.aload_n 0, 1) := by decide +kernel
theorem dX8_findTree_121 : decode cX8_findTree 121 = .ok (.getfield 61, 3) := by decide +kernel
theorem dX8_findTree_124 : decode cX8_findTree 124 = .ok (.iconst 3, 1) := by decide +kernel
theorem dX8_findTree_125 : decode cX8_findTree 125 = .ok (.iload_n 2, 1) := by decide +kernel
theorem dX8_findTree_126 : decode cX8_findTree 126 = .ok (.imul, 1) := by decide +kernel
theorem dX8_findTree_127 : decode cX8_findTree 127 = .ok (.iload 4, 2) := by decide +kernel
theorem dX8_findTree_129 : decode cX8_findTree 129 = .ok (.iadd, 1) := by decide +kernel
theorem dX8_findTree_130 : decode cX8_findTree 130 = .ok (.iload_n 1, 1) := by decide +kernel
theorem dX8_findTree_131 : decode cX8_findTree 131 = .ok (.iload 4, 2) := by decide +kernel
theorem dX8_findTree_133 : decode cX8_findTree 133 = .ok (.iconst 1, 1) := by decide +kernel
theorem dX8_findTree_134 : decode cX8_findTree 134 = .ok (.iadd, 1) := by decide +kernel
theorem dX8_findTree_135 : decode cX8_findTree 135 = .ok (.invokestatic 131, 3) := by decide +kernel
theorem dX8_findTree_138 : decode cX8_findTree 138 = .ok (.iastore, 1) := by decide +kernel
theorem dX8_findTree_139 : decode cX8_findTree 139 = .ok (.iinc 4 1, 3) := by decide +kernel
theorem dX8_findTree_142 : decode cX8_findTree 142 = .ok (.goto (-28), 3) := by decide +kernel
theorem dX8_findTree_145 : decode cX8_findTree 145 = .ok (.iload_n 3, 1) := by decide +kernel
theorem dX8_findTree_146 : decode cX8_findTree 146 = .ok (.ifCond .ne 6, 3) := by decide +kernel
theorem dX8_findTree_149 : decode cX8_findTree 149 = .ok (.goto 23, 3) := by decide +kernel
theorem dX8_findTree_152 : decode cX8_findTree 152 = .ok (.aload_n 0, 1) := by decide +kernel
theorem dX8_findTree_153 : decode cX8_findTree 153 = .ok (.getfield 64, 3) := by decide +kernel
theorem dX8_findTree_156 : decode cX8_findTree 156 = .ok (.aload_n 0, 1) := by decide +kernel
theorem dX8_findTree_157 : decode cX8_findTree 157 = .ok (.getfield 171, 3) := by decide +kernel
theorem dX8_findTree_160 : decode cX8_findTree 160 = .ok (.iload_n 2, 1) := by decide +kernel
theorem dX8_findTree_161 : decode cX8_findTree 161 = .ok (.iastore, 1) := by decide +kernel
theorem dX8_findTree_162 : decode cX8_findTree 162 = .ok (.aload_n 0, 1) := by decide +kernel
theorem dX8_findTree_163 : decode cX8_findTree 163 = .ok (.dup, 1) := by decide +kernel
theorem dX8_findTree_164 : decode cX8_findTree 164 = .ok (.getfield 171, 3) := by decide +kernel
theorem dX8_findTree_167 : decode cX8_findTree 167 = .ok (.iconst 1, 1) := by decide +kernel
theorem dX8_findTree_168 : decode cX8_findTree 168 = .ok (.iadd, 1) := by decide +kernel
theorem dX8_findTree_169 : decode cX8_findTree 169 = .ok (.putfield 171, 3) := by decide +kernel
theorem dX8_findTree_172 : decode cX8_findTree 172 = .ok (.iinc 2 1, 3) := by decide +kernel
theorem dX8_findTree_175 : decode cX8_findTree 175 = .ok (.goto (-119), 3) := by decide +kernel
theorem dX8_findTree_178 : decode cX8_findTree 178 = .ok (.return_, 1) := by decide +kernel
theorem dX8_partnerCost_0 : decode cX8_partnerCost 0 = .ok (.iconst 0, 1) := by decide +kernel
theorem dX8_partnerCost_1 : decode cX8_partnerCost 1 = .ok (.istore_n 3, 1) := by decide +kernel
theorem dX8_partnerCost_2 : decode cX8_partnerCost 2 = .ok (.iconst 0, 1) := by decide +kernel
theorem dX8_partnerCost_3 : decode cX8_partnerCost 3 = .ok (.istore 4, 2) := by decide +kernel
theorem dX8_partnerCost_5 : decode cX8_partnerCost 5 = .ok (.iload 4, 2) := by decide +kernel
theorem dX8_partnerCost_7 : decode cX8_partnerCost 7 = .ok (.bipush 8, 2) := by decide +kernel
theorem dX8_partnerCost_9 : decode cX8_partnerCost 9 = .ok (.if_icmp .ge 45, 3) := by decide +kernel
theorem dX8_partnerCost_12 : decode cX8_partnerCost 12 = .ok (.aload_n 0, 1) := by decide +kernel
theorem dX8_partnerCost_13 : decode cX8_partnerCost 13 = .ok (.getfield 51, 3) := by decide +kernel
theorem dX8_partnerCost_16 : decode cX8_partnerCost 16 = .ok (.bipush 8, 2) := by decide +kernel
theorem dX8_partnerCost_18 : decode cX8_partnerCost 18 = .ok (.iload_n 1, 1) := by decide +kernel
theorem dX8_partnerCost_19 : decode cX8_partnerCost 19 = .ok (.imul, 1) := by decide +kernel
theorem dX8_partnerCost_20 : decode cX8_partnerCost 20 = .ok (.iload 4, 2) := by decide +kernel
theorem dX8_partnerCost_22 : decode cX8_partnerCost 22 = .ok (.iadd, 1) := by decide +kernel
theorem dX8_partnerCost_23 : decode cX8_partnerCost 23 = .ok (.iaload, 1) := by decide +kernel
theorem dX8_partnerCost_24 : decode cX8_partnerCost 24 = .ok (.aload_n 0, 1) := by decide +kernel
theorem dX8_partnerCost_25 : decode cX8_partnerCost 25 = .ok (.getfield 30, 3) := by decide +kernel
theorem dX8_partnerCost_28 : decode cX8_partnerCost 28 = .ok (.bipush 8, 2) := by decide +kernel
theorem dX8_partnerCost_30 : decode cX8_partnerCost 30 = .ok (.iload_n 2, 1) := by decide +kernel
theorem dX8_partnerCost_31 : decode cX8_partnerCost 31 = .ok (.imul, 1) := by decide +kernel
theorem dX8_partnerCost_32 : decode cX8_partnerCost 32 = .ok (.iload 4, 2) := by decide +kernel
theorem dX8_partnerCost_34 : decode cX8_partnerCost 34 = .ok (.iadd, 1) := by decide +kernel
theorem dX8_partnerCost_35 : decode cX8_partnerCost 35 = .ok (.iaload, 1) := by decide +kernel
theorem dX8_partnerCost_36 : decode cX8_partnerCost 36 = .ok (.if_icmp .eq 12, 3) := by decide +kernel
theorem dX8_partnerCost_39 : decode cX8_partnerCost 39 = .ok (.iload_n 3, 1) := by decide +kernel
theorem dX8_partnerCost_40 : decode cX8_partnerCost 40 = .ok (.aload_n 0, 1) := by decide +kernel
theorem dX8_partnerCost_41 : decode cX8_partnerCost 41 = .ok (.getfield 39, 3) := by decide +kernel
theorem dX8_partnerCost_44 : decode cX8_partnerCost 44 = .ok (.iconst 4, 1) := by decide +kernel
theorem dX8_partnerCost_45 : decode cX8_partnerCost 45 = .ok (.iaload, 1) := by decide +kernel
theorem dX8_partnerCost_46 : decode cX8_partnerCost 46 = .ok (.iadd, 1) := by decide +kernel
theorem dX8_partnerCost_47 : decode cX8_partnerCost 47 = .ok (.istore_n 3, 1) := by decide +kernel
theorem dX8_partnerCost_48 : decode cX8_partnerCost 48 = .ok (.iinc 4 1, 3) := by decide +kernel
theorem dX8_partnerCost_51 : decode cX8_partnerCost 51 = .ok (.goto (-46), 3) := by decide +kernel
theorem dX8_partnerCost_54 : decode cX8_partnerCost 54 = .ok (.iload_n 3, 1) := by decide +kernel
theorem dX8_partnerCost_55 : decode cX8_partnerCost 55 = .ok (.aload_n 0, 1) := by decide +kernel
theorem dX8_partnerCost_56 : decode cX8_partnerCost 56 = .ok (.getfield 39, 3) := by decide +kernel
theorem dX8_partnerCost_59 : decode cX8_partnerCost 59 = .ok (.iconst 5, 1) := by decide +kernel
theorem dX8_partnerCost_60 : decode cX8_partnerCost 60 = .ok (.iaload, 1) := by decide +kernel
theorem dX8_partnerCost_61 : decode cX8_partnerCost 61 = .ok (.aload_n 0, 1) := by decide +kernel
theorem dX8_partnerCost_62 : decode cX8_partnerCost 62 = .ok (.getfield 45, 3) := by decide +kernel
theorem dX8_partnerCost_65 : decode cX8_partnerCost 65 = .ok (.iload_n 1, 1) := by decide +kernel
theorem dX8_partnerCost_66 : decode cX8_partnerCost 66 = .ok (.iaload, 1) := by decide +kernel
theorem dX8_partnerCost_67 : decode cX8_partnerCost 67 = .ok (.aload_n 0, 1) := by decide +kernel
theorem dX8_partnerCost_68 : decode cX8_partnerCost 68 = .ok (.getfield 58, 3) := by decide +kernel
theorem dX8_partnerCost_71 : decode cX8_partnerCost 71 = .ok (.iload_n 2, 1) := by decide +kernel
theorem dX8_partnerCost_72 : decode cX8_partnerCost 72 = .ok (.iaload, 1) := by decide +kernel
theorem dX8_partnerCost_73 : decode cX8_partnerCost 73 = .ok (.isub, 1) := by decide +kernel
theorem dX8_partnerCost_74 : decode cX8_partnerCost 74 = .ok (.invokestatic 139, 3) := by decide +kernel
theorem dX8_partnerCost_77 : decode cX8_partnerCost 77 = .ok (.imul, 1) := by decide +kernel
theorem dX8_partnerCost_78 : decode cX8_partnerCost 78 = .ok (.iadd, 1) := by decide +kernel
theorem dX8_partnerCost_79 : decode cX8_partnerCost 79 = .ok (.istore_n 3, 1) := by decide +kernel
theorem dX8_partnerCost_80 : decode cX8_partnerCost 80 = .ok (.aload_n 0, 1) := by decide +kernel
theorem dX8_partnerCost_81 : decode cX8_partnerCost 81 = .ok (.getfield 48, 3) := by decide +kernel
theorem dX8_partnerCost_84 : decode cX8_partnerCost 84 = .ok (.iload_n 1, 1) := by decide +kernel
theorem dX8_partnerCost_85 : decode cX8_partnerCost 85 = .ok (.iaload, 1) := by decide +kernel
theorem dX8_partnerCost_86 : decode cX8_partnerCost 86 = .ok (.aload_n 0, 1) := by decide +kernel
theorem dX8_partnerCost_87 : decode cX8_partnerCost 87 = .ok (.getfield 13, 3) := by decide +kernel
theorem dX8_partnerCost_90 : decode cX8_partnerCost 90 = .ok (.aload_n 0, 1) := by decide +kernel
theorem dX8_partnerCost_91 : decode cX8_partnerCost 91 = .ok (.getfield 17, 3) := by decide +kernel
theorem dX8_partnerCost_94 : decode cX8_partnerCost 94 = .ok (.iload_n 2, 1) := by decide +kernel
theorem dX8_partnerCost_95 : decode cX8_partnerCost 95 = .ok (.iaload, 1) := by decide +kernel
theorem dX8_partnerCost_96 : decode cX8_partnerCost 96 = .ok (.iaload, 1) := by decide +kernel
theorem dX8_partnerCost_97 : decode cX8_partnerCost 97 = .ok (.if_icmp .ne 7, 3) := by decide +kernel
theorem dX8_partnerCost_100 : decode cX8_partnerCost 100 = .ok (.iload_n 3, 1) := by decide +kernel
theorem dX8_partnerCost_101 : decode cX8_partnerCost 101 = .ok (.goto 12, 3) := by decide +kernel
theorem dX8_partnerCost_104 : decode cX8_partnerCost 104 = .ok (.iload_n 3, 1) := by decide +kernel
theorem dX8_partnerCost_105 : decode cX8_partnerCost 105 = .ok (.aload_n 0, 1) := by decide +kernel
theorem dX8_partnerCost_106 : decode cX8_partnerCost 106 = .ok (.getfield 39, 3) := by decide +kernel
theorem dX8_partnerCost_109 : decode cX8_partnerCost 109 = .ok (.bipush 6, 2) := by decide +kernel
theorem dX8_partnerCost_111 : decode cX8_partnerCost 111 = .ok (.iaload, 1) := by decide +kernel
theorem dX8_partnerCost_112 : decode cX8_partnerCost 112 = .ok (.iadd, 1) := by decide +kernel
theorem dX8_partnerCost_113 : decode cX8_partnerCost 113 = .ok (.ireturn, 1) := by decide +kernel
theorem dX8_costWith_0 : decode cX8_costWith 0 = .ok (.bipush 21, 2) := by decide +kernel
theorem dX8_costWith_2 : decode cX8_costWith 2 = .ok (.istore 4, 2) := by decide +kernel
theorem dX8_costWith_4 : decode cX8_costWith 4 = .ok (.iload_n 3, 1) := by decide +kernel
theorem dX8_costWith_5 : decode cX8_costWith 5 = .ok (.aload_n 0, 1) := by decide +kernel
theorem dX8_costWith_6 : decode cX8_costWith 6 = .ok (.getfield 171, 3) := by decide +kernel
theorem dX8_costWith_9 : decode cX8_costWith 9 = .ok (.if_icmp .ne 25, 3) := by decide +kernel
theorem dX8_costWith_12 : decode cX8_costWith 12 = .ok (.aload_n 0, 1) := by decide +kernel
theorem dX8_costWith_13 : decode cX8_costWith 13 = .ok (.getfield 39, 3) := by decide +kernel
theorem dX8_costWith_16 : decode cX8_costWith 16 = .ok (.bipush 7, 2) := by decide +kernel
theorem dX8_costWith_18 : decode cX8_costWith 18 = .ok (.iaload, 1) := by decide +kernel
theorem dX8_costWith_19 : decode cX8_costWith 19 = .ok (.aload_n 0, 1) := by decide +kernel
theorem dX8_costWith_20 : decode cX8_costWith 20 = .ok (.getfield 67, 3) := by decide +kernel
theorem dX8_costWith_23 : decode cX8_costWith 23 = .ok (.iload 4, 2) := by decide +kernel
theorem dX8_costWith_25 : decode cX8_costWith 25 = .ok (.iload_n 1, 1) := by decide +kernel
theorem dX8_costWith_26 : decode cX8_costWith 26 = .ok (.iconst 1, 1) := by decide +kernel
theorem dX8_costWith_27 : decode cX8_costWith 27 = .ok (.iadd, 1) := by decide +kernel
theorem dX8_costWith_28 : decode cX8_costWith 28 = .ok (.imul, 1) := by decide +kernel
theorem dX8_costWith_29 : decode cX8_costWith 29 = .ok (.iload_n 2, 1) := by decide +kernel
theorem dX8_costWith_30 : decode cX8_costWith 30 = .ok (.iadd, 1) := by decide +kernel
theorem dX8_costWith_31 : decode cX8_costWith 31 = .ok (.iaload, 1) := by decide +kernel
theorem dX8_costWith_32 : decode cX8_costWith 32 = .ok (.iadd, 1) := by decide +kernel
theorem dX8_costWith_33 : decode cX8_costWith 33 = .ok (.ireturn, 1) := by decide +kernel
theorem dX8_costWith_34 : decode cX8_costWith 34 = .ok (.aload_n 0, 1) := by decide +kernel
theorem dX8_costWith_35 : decode cX8_costWith 35 = .ok (.getfield 39, 3) := by decide +kernel
theorem dX8_costWith_38 : decode cX8_costWith 38 = .ok (.bipush 7, 2) := by decide +kernel
theorem dX8_costWith_40 : decode cX8_costWith 40 = .ok (.iaload, 1) := by decide +kernel
theorem dX8_costWith_41 : decode cX8_costWith 41 = .ok (.iload_n 3, 1) := by decide +kernel
theorem dX8_costWith_42 : decode cX8_costWith 42 = .ok (.iload_n 2, 1) := by decide +kernel
theorem dX8_costWith_43 : decode cX8_costWith 43 = .ok (.isub, 1) := by decide +kernel
theorem dX8_costWith_44 : decode cX8_costWith 44 = .ok (.imul, 1) := by decide +kernel
theorem dX8_costWith_45 : decode cX8_costWith 45 = .ok (.aload_n 0, 1) := by decide +kernel
theorem dX8_costWith_46 : decode cX8_costWith 46 = .ok (.iload_n 1, 1) := by decide +kernel
theorem dX8_costWith_47 : decode cX8_costWith 47 = .ok (.aload_n 0, 1) := by decide +kernel
theorem dX8_costWith_48 : decode cX8_costWith 48 = .ok (.getfield 64, 3) := by decide +kernel
theorem dX8_costWith_51 : decode cX8_costWith 51 = .ok (.iload_n 3, 1) := by decide +kernel
theorem dX8_costWith_52 : decode cX8_costWith 52 = .ok (.iaload, 1) := by decide +kernel
theorem dX8_costWith_53 : decode cX8_costWith 53 = .ok (.invokevirtual 174, 3) := by decide +kernel
theorem dX8_costWith_56 : decode cX8_costWith 56 = .ok (.iadd, 1) := by decide +kernel
theorem dX8_costWith_57 : decode cX8_costWith 57 = .ok (.aload_n 0, 1) := by decide +kernel
theorem dX8_costWith_58 : decode cX8_costWith 58 = .ok (.getfield 67, 3) := by decide +kernel
theorem dX8_costWith_61 : decode cX8_costWith 61 = .ok (.iload 4, 2) := by decide +kernel
theorem dX8_costWith_63 : decode cX8_costWith 63 = .ok (.iload_n 1, 1) := by decide +kernel
theorem dX8_costWith_64 : decode cX8_costWith 64 = .ok (.iconst 1, 1) := by decide +kernel
theorem dX8_costWith_65 : decode cX8_costWith 65 = .ok (.iadd, 1) := by decide +kernel
theorem dX8_costWith_66 : decode cX8_costWith 66 = .ok (.imul, 1) := by decide +kernel
theorem dX8_costWith_67 : decode cX8_costWith 67 = .ok (.iload_n 3, 1) := by decide +kernel
theorem dX8_costWith_68 : decode cX8_costWith 68 = .ok (.iadd, 1) := by decide +kernel
theorem dX8_costWith_69 : decode cX8_costWith 69 = .ok (.iconst 1, 1) := by decide +kernel
theorem dX8_costWith_70 : decode cX8_costWith 70 = .ok (.iadd, 1) := by decide +kernel
theorem dX8_costWith_71 : decode cX8_costWith 71 = .ok (.iaload, 1) := by decide +kernel
theorem dX8_costWith_72 : decode cX8_costWith 72 = .ok (.iadd, 1) := by decide +kernel
theorem dX8_costWith_73 : decode cX8_costWith 73 = .ok (.ireturn, 1) := by decide +kernel
theorem dX8_hold_0 : decode cX8_hold 0 = .ok (.bipush 21, 2) := by decide +kernel
theorem dX8_hold_2 : decode cX8_hold 2 = .ok (.istore_n 1, 1) := by decide +kernel
theorem dX8_hold_3 : decode cX8_hold 3 = .ok (.iconst 0, 1) := by decide +kernel
theorem dX8_hold_4 : decode cX8_hold 4 = .ok (.istore_n 2, 1) := by decide +kernel
theorem dX8_hold_5 : decode cX8_hold 5 = .ok (.iload_n 2, 1) := by decide +kernel
theorem dX8_hold_6 : decode cX8_hold 6 = .ok (.aload_n 0, 1) := by decide +kernel
theorem dX8_hold_7 : decode cX8_hold 7 = .ok (.getfield 171, 3) := by decide +kernel
theorem dX8_hold_10 : decode cX8_hold 10 = .ok (.if_icmp .gt 36, 3) := by decide +kernel
theorem dX8_hold_13 : decode cX8_hold 13 = .ok (.aload_n 0, 1) := by decide +kernel
theorem dX8_hold_14 : decode cX8_hold 14 = .ok (.getfield 67, 3) := by decide +kernel
theorem dX8_hold_17 : decode cX8_hold 17 = .ok (.iload_n 1, 1) := by decide +kernel
theorem dX8_hold_18 : decode cX8_hold 18 = .ok (.aload_n 0, 1) := by decide +kernel
theorem dX8_hold_19 : decode cX8_hold 19 = .ok (.getfield 104, 3) := by decide +kernel
theorem dX8_hold_22 : decode cX8_hold 22 = .ok (.imul, 1) := by decide +kernel
theorem dX8_hold_23 : decode cX8_hold 23 = .ok (.iload_n 2, 1) := by decide +kernel
theorem dX8_hold_24 : decode cX8_hold 24 = .ok (.iadd, 1) := by decide +kernel
theorem dX8_hold_25 : decode cX8_hold 25 = .ok (.aload_n 0, 1) := by decide +kernel
theorem dX8_hold_26 : decode cX8_hold 26 = .ok (.getfield 39, 3) := by decide +kernel
theorem dX8_hold_29 : decode cX8_hold 29 = .ok (.bipush 7, 2) := by decide +kernel
theorem dX8_hold_31 : decode cX8_hold 31 = .ok (.iaload, 1) := by decide +kernel
theorem dX8_hold_32 : decode cX8_hold 32 = .ok (.aload_n 0, 1) := by decide +kernel
theorem dX8_hold_33 : decode cX8_hold 33 = .ok (.getfield 171, 3) := by decide +kernel
theorem dX8_hold_36 : decode cX8_hold 36 = .ok (.iload_n 2, 1) := by decide +kernel
theorem dX8_hold_37 : decode cX8_hold 37 = .ok (.isub, 1) := by decide +kernel
theorem dX8_hold_38 : decode cX8_hold 38 = .ok (.imul, 1) := by decide +kernel
theorem dX8_hold_39 : decode cX8_hold 39 = .ok (.iastore, 1) := by decide +kernel
theorem dX8_hold_40 : decode cX8_hold 40 = .ok (.iinc 2 1, 3) := by decide +kernel
theorem dX8_hold_43 : decode cX8_hold 43 = .ok (.goto (-38), 3) := by decide +kernel
theorem dX8_hold_46 : decode cX8_hold 46 = .ok (.aload_n 0, 1) := by decide +kernel
theorem dX8_hold_47 : decode cX8_hold 47 = .ok (.getfield 104, 3) := by decide +kernel
theorem dX8_hold_50 : decode cX8_hold 50 = .ok (.iconst 1, 1) := by decide +kernel
theorem dX8_hold_51 : decode cX8_hold 51 = .ok (.isub, 1) := by decide +kernel
theorem dX8_hold_52 : decode cX8_hold 52 = .ok (.istore_n 2, 1) := by decide +kernel
theorem dX8_hold_53 : decode cX8_hold 53 = .ok (.iload_n 2, 1) := by decide +kernel
theorem dX8_hold_54 : decode cX8_hold 54 = .ok (.ifCond .lt 74, 3) := by decide +kernel
theorem dX8_hold_57 : decode cX8_hold 57 = .ok (.iconst 0, 1) := by decide +kernel
theorem dX8_hold_58 : decode cX8_hold 58 = .ok (.istore_n 3, 1) := by decide +kernel
theorem dX8_hold_59 : decode cX8_hold 59 = .ok (.iload_n 3, 1) := by decide +kernel
theorem dX8_hold_60 : decode cX8_hold 60 = .ok (.aload_n 0, 1) := by decide +kernel
theorem dX8_hold_61 : decode cX8_hold 61 = .ok (.getfield 171, 3) := by decide +kernel
theorem dX8_hold_64 : decode cX8_hold 64 = .ok (.if_icmp .gt 58, 3) := by decide +kernel
theorem dX8_hold_67 : decode cX8_hold 67 = .ok (.ldc 148, 2) := by decide +kernel
theorem dX8_hold_69 : decode cX8_hold 69 = .ok (.istore 4, 2) := by decide +kernel
theorem dX8_hold_71 : decode cX8_hold 71 = .ok (.iload_n 3, 1) := by decide +kernel
theorem dX8_hold_72 : decode cX8_hold 72 = .ok (.istore 5, 2) := by decide +kernel
theorem dX8_hold_74 : decode cX8_hold 74 = .ok (.iload 5, 2) := by decide +kernel
theorem dX8_hold_76 : decode cX8_hold 76 = .ok (.aload_n 0, 1) := by decide +kernel
theorem dX8_hold_77 : decode cX8_hold 77 = .ok (.getfield 171, 3) := by decide +kernel
theorem dX8_hold_80 : decode cX8_hold 80 = .ok (.if_icmp .gt 24, 3) := by decide +kernel
theorem dX8_hold_83 : decode cX8_hold 83 = .ok (.iload 4, 2) := by decide +kernel
theorem dX8_hold_85 : decode cX8_hold 85 = .ok (.aload_n 0, 1) := by decide +kernel
theorem dX8_hold_86 : decode cX8_hold 86 = .ok (.iload_n 2, 1) := by decide +kernel
theorem dX8_hold_87 : decode cX8_hold 87 = .ok (.iload_n 3, 1) := by decide +kernel
theorem dX8_hold_88 : decode cX8_hold 88 = .ok (.iload 5, 2) := by decide +kernel
theorem dX8_hold_90 : decode cX8_hold 90 = .ok (.invokevirtual 177, 3) := by decide +kernel
theorem dX8_hold_93 : decode cX8_hold 93 = .ok (.invokestatic 162, 3) := by decide +kernel
theorem dX8_hold_96 : decode cX8_hold 96 = .ok (.istore 4, 2) := by decide +kernel
theorem dX8_hold_98 : decode cX8_hold 98 = .ok (.iinc 5 1, 3) := by decide +kernel
theorem dX8_hold_101 : decode cX8_hold 101 = .ok (.goto (-27), 3) := by decide +kernel
theorem dX8_hold_104 : decode cX8_hold 104 = .ok (.aload_n 0, 1) := by decide +kernel
theorem dX8_hold_105 : decode cX8_hold 105 = .ok (.getfield 67, 3) := by decide +kernel
theorem dX8_hold_108 : decode cX8_hold 108 = .ok (.iload_n 1, 1) := by decide +kernel
theorem dX8_hold_109 : decode cX8_hold 109 = .ok (.iload_n 2, 1) := by decide +kernel
theorem dX8_hold_110 : decode cX8_hold 110 = .ok (.imul, 1) := by decide +kernel
theorem dX8_hold_111 : decode cX8_hold 111 = .ok (.iload_n 3, 1) := by decide +kernel
theorem dX8_hold_112 : decode cX8_hold 112 = .ok (.iadd, 1) := by decide +kernel
theorem dX8_hold_113 : decode cX8_hold 113 = .ok (.iload 4, 2) := by decide +kernel
theorem dX8_hold_115 : decode cX8_hold 115 = .ok (.iastore, 1) := by decide +kernel
theorem dX8_hold_116 : decode cX8_hold 116 = .ok (.iinc 3 1, 3) := by decide +kernel
theorem dX8_hold_119 : decode cX8_hold 119 = .ok (.goto (-60), 3) := by decide +kernel
theorem dX8_hold_122 : decode cX8_hold 122 = .ok (.iinc 2 (-1), 3) := by decide +kernel
theorem dX8_hold_125 : decode cX8_hold 125 = .ok (.goto (-72), 3) := by decide +kernel
theorem dX8_hold_128 : decode cX8_hold 128 = .ok (.iconst 0, 1) := by decide +kernel
theorem dX8_hold_129 : decode cX8_hold 129 = .ok (.istore_n 2, 1) := by decide +kernel
theorem dX8_hold_130 : decode cX8_hold 130 = .ok (.iconst 0, 1) := by decide +kernel
theorem dX8_hold_131 : decode cX8_hold 131 = .ok (.istore_n 3, 1) := by decide +kernel
theorem dX8_hold_132 : decode cX8_hold 132 = .ok (.iload_n 3, 1) := by decide +kernel
theorem dX8_hold_133 : decode cX8_hold 133 = .ok (.aload_n 0, 1) := by decide +kernel
theorem dX8_hold_134 : decode cX8_hold 134 = .ok (.getfield 104, 3) := by decide +kernel
theorem dX8_hold_137 : decode cX8_hold 137 = .ok (.if_icmp .ge 79, 3) := by decide +kernel
theorem dX8_hold_140 : decode cX8_hold 140 = .ok (.iload_n 2, 1) := by decide +kernel
theorem dX8_hold_141 : decode cX8_hold 141 = .ok (.istore 4, 2) := by decide +kernel
theorem dX8_hold_143 : decode cX8_hold 143 = .ok (.aload_n 0, 1) := by decide +kernel
theorem dX8_hold_144 : decode cX8_hold 144 = .ok (.iload_n 3, 1) := by decide +kernel
theorem dX8_hold_145 : decode cX8_hold 145 = .ok (.iload_n 2, 1) := by decide +kernel
theorem dX8_hold_146 : decode cX8_hold 146 = .ok (.iload 4, 2) := by decide +kernel
theorem dX8_hold_148 : decode cX8_hold 148 = .ok (.invokevirtual 177, 3) := by decide +kernel
theorem dX8_hold_151 : decode cX8_hold 151 = .ok (.aload_n 0, 1) := by decide +kernel
theorem dX8_hold_152 : decode cX8_hold 152 = .ok (.getfield 67, 3) := by decide +kernel
theorem dX8_hold_155 : decode cX8_hold 155 = .ok (.iload_n 1, 1) := by decide +kernel
theorem dX8_hold_156 : decode cX8_hold 156 = .ok (.iload_n 3, 1) := by decide +kernel
theorem dX8_hold_157 : decode cX8_hold 157 = .ok (.imul, 1) := by decide +kernel
theorem dX8_hold_158 : decode cX8_hold 158 = .ok (.iload_n 2, 1) := by decide +kernel
theorem dX8_hold_159 : decode cX8_hold 159 = .ok (.iadd, 1) := by decide +kernel
theorem dX8_hold_160 : decode cX8_hold 160 = .ok (.iaload, 1) := by decide +kernel
theorem dX8_hold_161 : decode cX8_hold 161 = .ok (.if_icmp .eq 9, 3) := by decide +kernel
theorem dX8_hold_164 : decode cX8_hold 164 = .ok (.iinc 4 1, 3) := by decide +kernel
theorem dX8_hold_167 : decode cX8_hold 167 = .ok (.goto (-24), 3) := by decide +kernel
theorem dX8_hold_170 : decode cX8_hold 170 = .ok (.aload_n 0, 1) := by decide +kernel
theorem dX8_hold_171 : decode cX8_hold 171 = .ok (.getfield 70, 3) := by decide +kernel
theorem dX8_hold_174 : decode cX8_hold 174 = .ok (.iload_n 3, 1) := by decide +kernel
theorem dX8_hold_175 : decode cX8_hold 175 = .ok (.iload 4, 2) := by decide +kernel
theorem dX8_hold_177 : decode cX8_hold 177 = .ok (.aload_n 0, 1) := by decide +kernel
theorem dX8_hold_178 : decode cX8_hold 178 = .ok (.getfield 171, 3) := by decide +kernel
theorem dX8_hold_181 : decode cX8_hold 181 = .ok (.if_icmp .ne 7, 3) := by decide +kernel
theorem dX8_hold_184 : decode cX8_hold 184 = .ok (.iconst (-1), 1) := by decide +kernel
theorem dX8_hold_185 : decode cX8_hold 185 = .ok (.goto 10, 3) := by decide +kernel
theorem dX8_hold_188 : decode cX8_hold 188 = .ok (.aload_n 0, 1) := by decide +kernel
theorem dX8_hold_189 : decode cX8_hold 189 = .ok (.getfield 64, 3) := by decide +kernel
theorem dX8_hold_192 : decode cX8_hold 192 = .ok (.iload 4, 2) := by decide +kernel
theorem dX8_hold_194 : decode cX8_hold 194 = .ok (.iaload, 1) := by decide +kernel
theorem dX8_hold_195 : decode cX8_hold 195 = .ok (.iastore, 1) := by decide +kernel
theorem dX8_hold_196 : decode cX8_hold 196 = .ok (.iload 4, 2) := by decide +kernel
theorem dX8_hold_198 : decode cX8_hold 198 = .ok (.aload_n 0, 1) := by decide +kernel
theorem dX8_hold_199 : decode cX8_hold 199 = .ok (.getfield 171, 3) := by decide +kernel
theorem dX8_hold_202 : decode cX8_hold 202 = .ok (.if_icmp .ge 8, 3) := by decide +kernel
theorem dX8_hold_205 : decode cX8_hold 205 = .ok (.iload 4, 2) := by decide +kernel
theorem dX8_hold_207 : decode cX8_hold 207 = .ok (.iconst 1, 1) := by decide +kernel
theorem dX8_hold_208 : decode cX8_hold 208 = .ok (.iadd, 1) := by decide +kernel
theorem dX8_hold_209 : decode cX8_hold 209 = .ok (.istore_n 2, 1) := by decide +kernel
theorem dX8_hold_210 : decode cX8_hold 210 = .ok (.iinc 3 1, 3) := by decide +kernel
theorem dX8_hold_213 : decode cX8_hold 213 = .ok (.goto (-81), 3) := by decide +kernel
theorem dX8_hold_216 : decode cX8_hold 216 = .ok (.return_, 1) := by decide +kernel
theorem dX8_wrongIn_0 : decode cX8_wrongIn 0 = .ok (.iconst 0, 1) := by decide +kernel
theorem dX8_wrongIn_1 : decode cX8_wrongIn 1 = .ok (.istore_n 3, 1) := by decide +kernel
theorem dX8_wrongIn_2 : decode cX8_wrongIn 2 = .ok (.iconst 0, 1) := by decide +kernel
theorem dX8_wrongIn_3 : decode cX8_wrongIn 3 = .ok (.istore 4, 2) := by decide +kernel
theorem dX8_wrongIn_5 : decode cX8_wrongIn 5 = .ok (.aload_n 0, 1) := by decide +kernel
theorem dX8_wrongIn_6 : decode cX8_wrongIn 6 = .ok (.iconst 0, 1) := by decide +kernel
theorem dX8_wrongIn_7 : decode cX8_wrongIn 7 = .ok (.putfield 180, 3) := by decide +kernel
theorem dX8_wrongIn_10 : decode cX8_wrongIn 10 = .ok (.iload_n 1, 1) := by decide +kernel
theorem dX8_wrongIn_11 : decode cX8_wrongIn 11 = .ok (.istore 5, 2) := by decide +kernel
theorem dX8_wrongIn_13 : decode cX8_wrongIn 13 = .ok (.iload 5, 2) := by decide +kernel
theorem dX8_wrongIn_15 : decode cX8_wrongIn 15 = .ok (.iload_n 2, 1) := by decide +kernel
theorem dX8_wrongIn_16 : decode cX8_wrongIn 16 = .ok (.if_icmp .ge 116, 3) := by decide +kernel
theorem dX8_wrongIn_19 : decode cX8_wrongIn 19 = .ok (.aload_n 0, 1) := by decide +kernel
theorem dX8_wrongIn_20 : decode cX8_wrongIn 20 = .ok (.getfield 13, 3) := by decide +kernel
theorem dX8_wrongIn_23 : decode cX8_wrongIn 23 = .ok (.iload 5, 2) := by decide +kernel
theorem dX8_wrongIn_25 : decode cX8_wrongIn 25 = .ok (.iaload, 1) := by decide +kernel
theorem dX8_wrongIn_26 : decode cX8_wrongIn 26 = .ok (.ifCond .ne 6, 3) := by decide +kernel
theorem dX8_wrongIn_29 : decode cX8_wrongIn 29 = .ok (.goto 97, 3) := by decide +kernel
theorem dX8_wrongIn_32 : decode cX8_wrongIn 32 = .ok (.iinc 3 1, 3) := by decide +kernel
theorem dX8_wrongIn_35 : decode cX8_wrongIn 35 = .ok (.aload_n 0, 1) := by decide +kernel
theorem dX8_wrongIn_36 : decode cX8_wrongIn 36 = .ok (.getfield 13, 3) := by decide +kernel
theorem dX8_wrongIn_39 : decode cX8_wrongIn 39 = .ok (.iload 5, 2) := by decide +kernel
theorem dX8_wrongIn_41 : decode cX8_wrongIn 41 = .ok (.iaload, 1) := by decide +kernel
theorem dX8_wrongIn_42 : decode cX8_wrongIn 42 = .ok (.iload 5, 2) := by decide +kernel
theorem dX8_wrongIn_44 : decode cX8_wrongIn 44 = .ok (.isub, 1) := by decide +kernel
theorem dX8_wrongIn_45 : decode cX8_wrongIn 45 = .ok (.istore 6, 2) := by decide +kernel
theorem dX8_wrongIn_47 : decode cX8_wrongIn 47 = .ok (.iconst 0, 1) := by decide +kernel
theorem dX8_wrongIn_48 : decode cX8_wrongIn 48 = .ok (.istore 7, 2) := by decide +kernel
theorem dX8_wrongIn_50 : decode cX8_wrongIn 50 = .ok (.iload_n 1, 1) := by decide +kernel
theorem dX8_wrongIn_51 : decode cX8_wrongIn 51 = .ok (.istore 8, 2) := by decide +kernel
theorem dX8_wrongIn_53 : decode cX8_wrongIn 53 = .ok (.iload 8, 2) := by decide +kernel
theorem dX8_wrongIn_55 : decode cX8_wrongIn 55 = .ok (.iload_n 2, 1) := by decide +kernel
theorem dX8_wrongIn_56 : decode cX8_wrongIn 56 = .ok (.if_icmp .ge 37, 3) := by decide +kernel
theorem dX8_wrongIn_59 : decode cX8_wrongIn 59 = .ok (.aload_n 0, 1) := by decide +kernel
theorem dX8_wrongIn_60 : decode cX8_wrongIn 60 = .ok (.getfield 13, 3) := by decide +kernel
theorem dX8_wrongIn_63 : decode cX8_wrongIn 63 = .ok (.iload 8, 2) := by decide +kernel
theorem dX8_wrongIn_65 : decode cX8_wrongIn 65 = .ok (.iaload, 1) := by decide +kernel
theorem dX8_wrongIn_66 : decode cX8_wrongIn 66 = .ok (.ifCond .le 21, 3) := by decide +kernel
theorem dX8_wrongIn_69 : decode cX8_wrongIn 69 = .ok (.aload_n 0, 1) := by decide +kernel
theorem dX8_wrongIn_70 : decode cX8_wrongIn 70 = .ok (.getfield 13, 3) := by decide +kernel
theorem dX8_wrongIn_73 : decode cX8_wrongIn 73 = .ok (.iload 8, 2) := by decide +kernel
theorem dX8_wrongIn_75 : decode cX8_wrongIn 75 = .ok (.iaload, 1) := by decide +kernel
theorem dX8_wrongIn_76 : decode cX8_wrongIn 76 = .ok (.iload 8, 2) := by decide +kernel
theorem dX8_wrongIn_78 : decode cX8_wrongIn 78 = .ok (.isub, 1) := by decide +kernel
theorem dX8_wrongIn_79 : decode cX8_wrongIn 79 = .ok (.iload 6, 2) := by decide +kernel
theorem dX8_wrongIn_81 : decode cX8_wrongIn 81 = .ok (.if_icmp .ne 6, 3) := by decide +kernel
theorem dX8_wrongIn_84 : decode cX8_wrongIn 84 = .ok (.iinc 7 1, 3) := by decide +kernel
theorem dX8_wrongIn_87 : decode cX8_wrongIn 87 = .ok (.iinc 8 1, 3) := by decide +kernel
theorem dX8_wrongIn_90 : decode cX8_wrongIn 90 = .ok (.goto (-37), 3) := by decide +kernel
theorem dX8_wrongIn_93 : decode cX8_wrongIn 93 = .ok (.iload 7, 2) := by decide +kernel
theorem dX8_wrongIn_95 : decode cX8_wrongIn 95 = .ok (.iload 4, 2) := by decide +kernel
theorem dX8_wrongIn_97 : decode cX8_wrongIn 97 = .ok (.if_icmp .gt 19, 3) := by decide +kernel
theorem dX8_wrongIn_100 : decode cX8_wrongIn 100 = .ok (.iload 7, 2) := by decide +kernel
theorem dX8_wrongIn_102 : decode cX8_wrongIn 102 = .ok (.iload 4, 2) := by decide +kernel
theorem dX8_wrongIn_104 : decode cX8_wrongIn 104 = .ok (.if_icmp .ne 22, 3) := by decide +kernel
theorem dX8_wrongIn_107 : decode cX8_wrongIn 107 = .ok (.iload 6, 2) := by decide +kernel
theorem dX8_wrongIn_109 : decode cX8_wrongIn 109 = .ok (.aload_n 0, 1) := by decide +kernel
theorem dX8_wrongIn_110 : decode cX8_wrongIn 110 = .ok (.getfield 180, 3) := by decide +kernel
theorem dX8_wrongIn_113 : decode cX8_wrongIn 113 = .ok (.if_icmp .ge 13, 3) := by decide +kernel
theorem dX8_wrongIn_116 : decode cX8_wrongIn 116 = .ok (.iload 7, 2) := by decide +kernel
theorem dX8_wrongIn_118 : decode cX8_wrongIn 118 = .ok (.istore 4, 2) := by decide +kernel
theorem dX8_wrongIn_120 : decode cX8_wrongIn 120 = .ok (.aload_n 0, 1) := by decide +kernel
theorem dX8_wrongIn_121 : decode cX8_wrongIn 121 = .ok (.iload 6, 2) := by decide +kernel
theorem dX8_wrongIn_123 : decode cX8_wrongIn 123 = .ok (.putfield 180, 3) := by decide +kernel
theorem dX8_wrongIn_126 : decode cX8_wrongIn 126 = .ok (.iinc 5 1, 3) := by decide +kernel
theorem dX8_wrongIn_129 : decode cX8_wrongIn 129 = .ok (.goto (-116), 3) := by decide +kernel
theorem dX8_wrongIn_132 : decode cX8_wrongIn 132 = .ok (.iload_n 3, 1) := by decide +kernel
theorem dX8_wrongIn_133 : decode cX8_wrongIn 133 = .ok (.iload 4, 2) := by decide +kernel
theorem dX8_wrongIn_135 : decode cX8_wrongIn 135 = .ok (.isub, 1) := by decide +kernel
theorem dX8_wrongIn_136 : decode cX8_wrongIn 136 = .ok (.ireturn, 1) := by decide +kernel
theorem dX8_findShifts_0 : decode cX8_findShifts 0 = .ok (.aload_n 0, 1) := by decide +kernel
theorem dX8_findShifts_1 : decode cX8_findShifts 1 = .ok (.getfield 73, 3) := by decide +kernel
theorem dX8_findShifts_4 : decode cX8_findShifts 4 = .ok (.aload_n 0, 1) := by decide +kernel
theorem dX8_findShifts_5 : decode cX8_findShifts 5 = .ok (.getfield 9, 3) := by decide +kernel
theorem dX8_findShifts_8 : decode cX8_findShifts 8 = .ok (.iconst 0, 1) := by decide +kernel
theorem dX8_findShifts_9 : decode cX8_findShifts 9 = .ok (.iastore, 1) := by decide +kernel
theorem dX8_findShifts_10 : decode cX8_findShifts 10 = .ok (.aload_n 0, 1) := by decide +kernel
theorem dX8_findShifts_11 : decode cX8_findShifts 11 = .ok (.getfield 76, 3) := by decide +kernel
theorem dX8_findShifts_14 : decode cX8_findShifts 14 = .ok (.aload_n 0, 1) := by decide +kernel
theorem dX8_findShifts_15 : decode cX8_findShifts 15 = .ok (.getfield 9, 3) := by decide +kernel
theorem dX8_findShifts_18 : decode cX8_findShifts 18 = .ok (.iconst 0, 1) := by decide +kernel
theorem dX8_findShifts_19 : decode cX8_findShifts 19 = .ok (.iastore, 1) := by decide +kernel
theorem dX8_findShifts_20 : decode cX8_findShifts 20 = .ok (.aload_n 0, 1) := by decide +kernel
theorem dX8_findShifts_21 : decode cX8_findShifts 21 = .ok (.getfield 9, 3) := by decide +kernel
theorem dX8_findShifts_24 : decode cX8_findShifts 24 = .ok (.iconst 1, 1) := by decide +kernel
theorem dX8_findShifts_25 : decode cX8_findShifts 25 = .ok (.isub, 1) := by decide +kernel
theorem dX8_findShifts_26 : decode cX8_findShifts 26 = .ok (.istore_n 1, 1) := by decide +kernel
theorem dX8_findShifts_27 : decode cX8_findShifts 27 = .ok (.iload_n 1, 1) := by decide +kernel
theorem dX8_findShifts_28 : decode cX8_findShifts 28 = .ok (.ifCond .lt 129, 3) := by decide +kernel
theorem dX8_findShifts_31 : decode cX8_findShifts 31 = .ok (.aload_n 0, 1) := by decide +kernel
theorem dX8_findShifts_32 : decode cX8_findShifts 32 = .ok (.getfield 73, 3) := by decide +kernel
theorem dX8_findShifts_35 : decode cX8_findShifts 35 = .ok (.iload_n 1, 1) := by decide +kernel
theorem dX8_findShifts_36 : decode cX8_findShifts 36 = .ok (.ldc 148, 2) := by decide +kernel
theorem dX8_findShifts_38 : decode cX8_findShifts 38 = .ok (.iastore, 1) := by decide +kernel
theorem dX8_findShifts_39 : decode cX8_findShifts 39 = .ok (.aload_n 0, 1) := by decide +kernel
theorem dX8_findShifts_40 : decode cX8_findShifts 40 = .ok (.getfield 9, 3) := by decide +kernel
theorem dX8_findShifts_43 : decode cX8_findShifts 43 = .ok (.istore_n 2, 1) := by decide +kernel
theorem dX8_findShifts_44 : decode cX8_findShifts 44 = .ok (.iload_n 2, 1) := by decide +kernel
theorem dX8_findShifts_45 : decode cX8_findShifts 45 = .ok (.iload_n 1, 1) := by decide +kernel
theorem dX8_findShifts_46 : decode cX8_findShifts 46 = .ok (.if_icmp .le 105, 3) := by decide +kernel
theorem dX8_findShifts_49 : decode cX8_findShifts 49 = .ok (.aload_n 0, 1) := by decide +kernel
theorem dX8_findShifts_50 : decode cX8_findShifts 50 = .ok (.getfield 39, 3) := by decide +kernel
theorem dX8_findShifts_53 : decode cX8_findShifts 53 = .ok (.bipush 8, 2) := by decide +kernel
theorem dX8_findShifts_55 : decode cX8_findShifts 55 = .ok (.iaload, 1) := by decide +kernel
theorem dX8_findShifts_56 : decode cX8_findShifts 56 = .ok (.aload_n 0, 1) := by decide +kernel
theorem dX8_findShifts_57 : decode cX8_findShifts 57 = .ok (.getfield 39, 3) := by decide +kernel
theorem dX8_findShifts_60 : decode cX8_findShifts 60 = .ok (.bipush 9, 2) := by decide +kernel
theorem dX8_findShifts_62 : decode cX8_findShifts 62 = .ok (.iaload, 1) := by decide +kernel
theorem dX8_findShifts_63 : decode cX8_findShifts 63 = .ok (.aload_n 0, 1) := by decide +kernel
theorem dX8_findShifts_64 : decode cX8_findShifts 64 = .ok (.iload_n 1, 1) := by decide +kernel
theorem dX8_findShifts_65 : decode cX8_findShifts 65 = .ok (.iload_n 2, 1) := by decide +kernel
theorem dX8_findShifts_66 : decode cX8_findShifts 66 = .ok (.invokevirtual 183, 3) := by decide +kernel
theorem dX8_findShifts_69 : decode cX8_findShifts 69 = .ok (.imul, 1) := by decide +kernel
theorem dX8_findShifts_70 : decode cX8_findShifts 70 = .ok (.iadd, 1) := by decide +kernel
theorem dX8_findShifts_71 : decode cX8_findShifts 71 = .ok (.aload_n 0, 1) := by decide +kernel
theorem dX8_findShifts_72 : decode cX8_findShifts 72 = .ok (.getfield 73, 3) := by decide +kernel
theorem dX8_findShifts_75 : decode cX8_findShifts 75 = .ok (.iload_n 2, 1) := by decide +kernel
theorem dX8_findShifts_76 : decode cX8_findShifts 76 = .ok (.iaload, 1) := by decide +kernel
theorem dX8_findShifts_77 : decode cX8_findShifts 77 = .ok (.iadd, 1) := by decide +kernel
theorem dX8_findShifts_78 : decode cX8_findShifts 78 = .ok (.istore_n 3, 1) := by decide +kernel
theorem dX8_findShifts_79 : decode cX8_findShifts 79 = .ok (.iconst 1, 1) := by decide +kernel
theorem dX8_findShifts_80 : decode cX8_findShifts 80 = .ok (.aload_n 0, 1) := by decide +kernel
theorem dX8_findShifts_81 : decode cX8_findShifts 81 = .ok (.getfield 76, 3) := by decide +kernel
theorem dX8_findShifts_84 : decode cX8_findShifts 84 = .ok (.iload_n 2, 1) := by decide +kernel
theorem dX8_findShifts_85 : decode cX8_findShifts 85 = .ok (.iaload, 1) := by decide +kernel
theorem dX8_findShifts_86 : decode cX8_findShifts 86 = .ok (.iadd, 1) := by decide +kernel
theorem dX8_findShifts_87 : decode cX8_findShifts 87 = .ok (.istore 4, 2) := by decide +kernel
theorem dX8_findShifts_89 : decode cX8_findShifts 89 = .ok (.iload_n 3, 1) := by decide +kernel
theorem dX8_findShifts_90 : decode cX8_findShifts 90 = .ok (.aload_n 0, 1) := by decide +kernel
theorem dX8_findShifts_91 : decode cX8_findShifts 91 = .ok (.getfield 73, 3) := by decide +kernel
theorem dX8_findShifts_94 : decode cX8_findShifts 94 = .ok (.iload_n 1, 1) := by decide +kernel
theorem dX8_findShifts_95 : decode cX8_findShifts 95 = .ok (.iaload, 1) := by decide +kernel
theorem dX8_findShifts_96 : decode cX8_findShifts 96 = .ok (.if_icmp .gt 49, 3) := by decide +kernel
theorem dX8_findShifts_99 : decode cX8_findShifts 99 = .ok (.iload_n 3, 1) := by decide +kernel
theorem dX8_findShifts_100 : decode cX8_findShifts 100 = .ok (.aload_n 0, 1) := by decide +kernel
theorem dX8_findShifts_101 : decode cX8_findShifts 101 = .ok (.getfield 73, 3) := by decide +kernel
theorem dX8_findShifts_104 : decode cX8_findShifts 104 = .ok (.iload_n 1, 1) := by decide +kernel
theorem dX8_findShifts_105 : decode cX8_findShifts 105 = .ok (.iaload, 1) := by decide +kernel
theorem dX8_findShifts_106 : decode cX8_findShifts 106 = .ok (.if_icmp .ne 17, 3) := by decide +kernel
theorem dX8_findShifts_109 : decode cX8_findShifts 109 = .ok (.iload 4, 2) := by decide +kernel
theorem dX8_findShifts_111 : decode cX8_findShifts 111 = .ok (.aload_n 0, 1) := by decide +kernel
theorem dX8_findShifts_112 : decode cX8_findShifts 112 = .ok (.getfield 76, 3) := by decide +kernel
theorem dX8_findShifts_115 : decode cX8_findShifts 115 = .ok (.iload_n 1, 1) := by decide +kernel
theorem dX8_findShifts_116 : decode cX8_findShifts 116 = .ok (.iaload, 1) := by decide +kernel
theorem dX8_findShifts_117 : decode cX8_findShifts 117 = .ok (.if_icmp .lt 6, 3) := by decide +kernel
theorem dX8_findShifts_120 : decode cX8_findShifts 120 = .ok (.goto 25, 3) := by decide +kernel
theorem dX8_findShifts_123 : decode cX8_findShifts 123 = .ok (.aload_n 0, 1) := by decide +kernel
theorem dX8_findShifts_124 : decode cX8_findShifts 124 = .ok (.getfield 73, 3) := by decide +kernel
theorem dX8_findShifts_127 : decode cX8_findShifts 127 = .ok (.iload_n 1, 1) := by decide +kernel
theorem dX8_findShifts_128 : decode cX8_findShifts 128 = .ok (.iload_n 3, 1) := by decide +kernel
theorem dX8_findShifts_129 : decode cX8_findShifts 129 = .ok (.iastore, 1) := by decide +kernel
theorem dX8_findShifts_130 : decode cX8_findShifts 130 = .ok (.aload_n 0, 1) := by decide +kernel
theorem dX8_findShifts_131 : decode cX8_findShifts 131 = .ok (.getfield 76, 3) := by decide +kernel
theorem dX8_findShifts_134 : decode cX8_findShifts 134 = .ok (.iload_n 1, 1) := by decide +kernel
theorem dX8_findShifts_135 : decode cX8_findShifts 135 = .ok (.iload 4, 2) := by decide +kernel
theorem dX8_findShifts_137 : decode cX8_findShifts 137 = .ok (.iastore, 1) := by decide +kernel
theorem dX8_findShifts_138 : decode cX8_findShifts 138 = .ok (.aload_n 0, 1) := by decide +kernel
theorem dX8_findShifts_139 : decode cX8_findShifts 139 = .ok (.getfield 79, 3) := by decide +kernel
theorem dX8_findShifts_142 : decode cX8_findShifts 142 = .ok (.iload_n 1, 1) := by decide +kernel
theorem dX8_findShifts_143 : decode cX8_findShifts 143 = .ok (.iload_n 2, 1) := by decide +kernel
theorem dX8_findShifts_144 : decode cX8_findShifts 144 = .ok (.iastore, 1) := by decide +kernel
theorem dX8_findShifts_145 : decode cX8_findShifts 145 = .ok (.iinc 2 (-1), 3) := by decide +kernel
theorem dX8_findShifts_148 : decode cX8_findShifts 148 = .ok (.goto (-104), 3) := by decide +kernel
theorem dX8_findShifts_151 : decode cX8_findShifts 151 = .ok (.iinc 1 (-1), 3) := by decide +kernel
theorem dX8_findShifts_154 : decode cX8_findShifts 154 = .ok (.goto (-127), 3) := by decide +kernel
theorem dX8_findShifts_157 : decode cX8_findShifts 157 = .ok (.iconst 0, 1) := by decide +kernel
theorem dX8_findShifts_158 : decode cX8_findShifts 158 = .ok (.istore_n 1, 1) := by decide +kernel
theorem dX8_findShifts_159 : decode cX8_findShifts 159 = .ok (.iload_n 1, 1) := by decide +kernel
theorem dX8_findShifts_160 : decode cX8_findShifts 160 = .ok (.aload_n 0, 1) := by decide +kernel
theorem dX8_findShifts_161 : decode cX8_findShifts 161 = .ok (.getfield 9, 3) := by decide +kernel
theorem dX8_findShifts_164 : decode cX8_findShifts 164 = .ok (.if_icmp .ge 60, 3) := by decide +kernel
theorem dX8_findShifts_167 : decode cX8_findShifts 167 = .ok (.aload_n 0, 1) := by decide +kernel
theorem dX8_findShifts_168 : decode cX8_findShifts 168 = .ok (.iload_n 1, 1) := by decide +kernel
theorem dX8_findShifts_169 : decode cX8_findShifts 169 = .ok (.aload_n 0, 1) := by decide +kernel
theorem dX8_findShifts_170 : decode cX8_findShifts 170 = .ok (.getfield 79, 3) := by decide +kernel
theorem dX8_findShifts_173 : decode cX8_findShifts 173 = .ok (.iload_n 1, 1) := by decide +kernel
theorem dX8_findShifts_174 : decode cX8_findShifts 174 = .ok (.iaload, 1) := by decide +kernel
theorem dX8_findShifts_175 : decode cX8_findShifts 175 = .ok (.invokevirtual 183, 3) := by decide +kernel
theorem dX8_findShifts_178 : decode cX8_findShifts 178 = .ok (.pop, 1) := by decide +kernel
theorem dX8_findShifts_179 : decode cX8_findShifts 179 = .ok (.iload_n 1, 1) := by decide +kernel
theorem dX8_findShifts_180 : decode cX8_findShifts 180 = .ok (.istore_n 2, 1) := by decide +kernel
theorem dX8_findShifts_181 : decode cX8_findShifts 181 = .ok (.iload_n 2, 1) := by decide +kernel
theorem dX8_findShifts_182 : decode cX8_findShifts 182 = .ok (.aload_n 0, 1) := by decide +kernel
theorem dX8_findShifts_183 : decode cX8_findShifts 183 = .ok (.getfield 79, 3) := by decide +kernel
theorem dX8_findShifts_186 : decode cX8_findShifts 186 = .ok (.iload_n 1, 1) := by decide +kernel
theorem dX8_findShifts_187 : decode cX8_findShifts 187 = .ok (.iaload, 1) := by decide +kernel
theorem dX8_findShifts_188 : decode cX8_findShifts 188 = .ok (.if_icmp .ge 26, 3) := by decide +kernel
theorem dX8_findShifts_191 : decode cX8_findShifts 191 = .ok (.aload_n 0, 1) := by decide +kernel
theorem dX8_findShifts_192 : decode cX8_findShifts 192 = .ok (.getfield 82, 3) := by decide +kernel
theorem dX8_findShifts_195 : decode cX8_findShifts 195 = .ok (.iload_n 2, 1) := by decide +kernel
theorem dX8_findShifts_196 : decode cX8_findShifts 196 = .ok (.iload_n 1, 1) := by decide +kernel
theorem dX8_findShifts_197 : decode cX8_findShifts 197 = .ok (.iastore, 1) := by decide +kernel
theorem dX8_findShifts_198 : decode cX8_findShifts 198 = .ok (.aload_n 0, 1) := by decide +kernel
theorem dX8_findShifts_199 : decode cX8_findShifts 199 = .ok (.getfield 85, 3) := by decide +kernel
theorem dX8_findShifts_202 : decode cX8_findShifts 202 = .ok (.iload_n 2, 1) := by decide +kernel
theorem dX8_findShifts_203 : decode cX8_findShifts 203 = .ok (.aload_n 0, 1) := by decide +kernel
theorem dX8_findShifts_204 : decode cX8_findShifts 204 = .ok (.getfield 180, 3) := by decide +kernel
theorem dX8_findShifts_207 : decode cX8_findShifts 207 = .ok (.iastore, 1) := by decide +kernel
theorem dX8_findShifts_208 : decode cX8_findShifts 208 = .ok (.iinc 2 1, 3) := by decide +kernel
theorem dX8_findShifts_211 : decode cX8_findShifts 211 = .ok (.goto (-30), 3) := by decide +kernel
theorem dX8_findShifts_214 : decode cX8_findShifts 214 = .ok (.aload_n 0, 1) := by decide +kernel
theorem dX8_findShifts_215 : decode cX8_findShifts 215 = .ok (.getfield 79, 3) := by decide +kernel
theorem dX8_findShifts_218 : decode cX8_findShifts 218 = .ok (.iload_n 1, 1) := by decide +kernel
theorem dX8_findShifts_219 : decode cX8_findShifts 219 = .ok (.iaload, 1) := by decide +kernel
theorem dX8_findShifts_220 : decode cX8_findShifts 220 = .ok (.istore_n 1, 1) := by decide +kernel
theorem dX8_findShifts_221 : decode cX8_findShifts 221 = .ok (.goto (-62), 3) := by decide +kernel
theorem dX8_findShifts_224 : decode cX8_findShifts 224 = .ok (.return_, 1) := by decide +kernel
theorem dX8_find_0 : decode cX8_find 0 = .ok (.aload_n 0, 1) := by decide +kernel
theorem dX8_find_1 : decode cX8_find 1 = .ok (.getfield 107, 3) := by decide +kernel
theorem dX8_find_4 : decode cX8_find 4 = .ok (.ifCond .eq 4, 3) := by decide +kernel
theorem dX8_find_7 : decode cX8_find 7 = .ok (.return_, 1) := by decide +kernel
theorem dX8_find_8 : decode cX8_find 8 = .ok (.aload_n 0, 1) := by decide +kernel
theorem dX8_find_9 : decode cX8_find 9 = .ok (.iconst 1, 1) := by decide +kernel
theorem dX8_find_10 : decode cX8_find 10 = .ok (.putfield 107, 3) := by decide +kernel
theorem dX8_find_13 : decode cX8_find 13 = .ok (.aload_n 0, 1) := by decide +kernel
theorem dX8_find_14 : decode cX8_find 14 = .ok (.invokevirtual 186, 3) := by decide +kernel
theorem dX8_find_17 : decode cX8_find 17 = .ok (.aload_n 0, 1) := by decide +kernel
theorem dX8_find_18 : decode cX8_find 18 = .ok (.invokevirtual 189, 3) := by decide +kernel
theorem dX8_find_21 : decode cX8_find 21 = .ok (.aload_n 0, 1) := by decide +kernel
theorem dX8_find_22 : decode cX8_find 22 = .ok (.invokevirtual 192, 3) := by decide +kernel
theorem dX8_find_25 : decode cX8_find 25 = .ok (.return_, 1) := by decide +kernel
theorem dX8_isWrong_0 : decode cX8_isWrong 0 = .ok (.aload_n 0, 1) := by decide +kernel
theorem dX8_isWrong_1 : decode cX8_isWrong 1 = .ok (.getfield 13, 3) := by decide +kernel
theorem dX8_isWrong_4 : decode cX8_isWrong 4 = .ok (.iload_n 1, 1) := by decide +kernel
theorem dX8_isWrong_5 : decode cX8_isWrong 5 = .ok (.iaload, 1) := by decide +kernel
theorem dX8_isWrong_6 : decode cX8_isWrong 6 = .ok (.ifCond .le 24, 3) := by decide +kernel
theorem dX8_isWrong_9 : decode cX8_isWrong 9 = .ok (.aload_n 0, 1) := by decide +kernel
theorem dX8_isWrong_10 : decode cX8_isWrong 10 = .ok (.getfield 13, 3) := by decide +kernel
theorem dX8_isWrong_13 : decode cX8_isWrong 13 = .ok (.iload_n 1, 1) := by decide +kernel
theorem dX8_isWrong_14 : decode cX8_isWrong 14 = .ok (.iaload, 1) := by decide +kernel
theorem dX8_isWrong_15 : decode cX8_isWrong 15 = .ok (.iload_n 1, 1) := by decide +kernel
theorem dX8_isWrong_16 : decode cX8_isWrong 16 = .ok (.aload_n 0, 1) := by decide +kernel
theorem dX8_isWrong_17 : decode cX8_isWrong 17 = .ok (.getfield 85, 3) := by decide +kernel
theorem dX8_isWrong_20 : decode cX8_isWrong 20 = .ok (.iload_n 1, 1) := by decide +kernel
theorem dX8_isWrong_21 : decode cX8_isWrong 21 = .ok (.iaload, 1) := by decide +kernel
theorem dX8_isWrong_22 : decode cX8_isWrong 22 = .ok (.iadd, 1) := by decide +kernel
theorem dX8_isWrong_23 : decode cX8_isWrong 23 = .ok (.if_icmp .eq 7, 3) := by decide +kernel
theorem dX8_isWrong_26 : decode cX8_isWrong 26 = .ok (.iconst 1, 1) := by decide +kernel
theorem dX8_isWrong_27 : decode cX8_isWrong 27 = .ok (.goto 4, 3) := by decide +kernel
theorem dX8_isWrong_30 : decode cX8_isWrong 30 = .ok (.iconst 0, 1) := by decide +kernel
theorem dX8_isWrong_31 : decode cX8_isWrong 31 = .ok (.ireturn, 1) := by decide +kernel
theorem dX8_count_0 : decode cX8_count 0 = .ok (.aload_n 0, 1) := by decide +kernel
theorem dX8_count_1 : decode cX8_count 1 = .ok (.iconst 0, 1) := by decide +kernel
theorem dX8_count_2 : decode cX8_count 2 = .ok (.putfield 94, 3) := by decide +kernel
theorem dX8_count_5 : decode cX8_count 5 = .ok (.aload_n 0, 1) := by decide +kernel
theorem dX8_count_6 : decode cX8_count 6 = .ok (.invokevirtual 195, 3) := by decide +kernel
theorem dX8_count_9 : decode cX8_count 9 = .ok (.iconst 0, 1) := by decide +kernel
theorem dX8_count_10 : decode cX8_count 10 = .ok (.istore_n 2, 1) := by decide +kernel
theorem dX8_count_11 : decode cX8_count 11 = .ok (.iload_n 1, 1) := by decide +kernel
theorem dX8_count_12 : decode cX8_count 12 = .ok (.tableswitch 127 0 8 #[52, 57, 62, 67, 72, 77, 84, 91, 98], 52) := by decide +kernel
theorem dX8_count_64 : decode cX8_count 64 = .ok (.aload_n 0, 1) := by decide +kernel
theorem dX8_count_65 : decode cX8_count 65 = .ok (.getfield 9, 3) := by decide +kernel
theorem dX8_count_68 : decode cX8_count 68 = .ok (.ireturn, 1) := by decide +kernel
theorem dX8_count_69 : decode cX8_count 69 = .ok (.aload_n 0, 1) := by decide +kernel
theorem dX8_count_70 : decode cX8_count 70 = .ok (.getfield 97, 3) := by decide +kernel
theorem dX8_count_73 : decode cX8_count 73 = .ok (.ireturn, 1) := by decide +kernel
theorem dX8_count_74 : decode cX8_count 74 = .ok (.aload_n 0, 1) := by decide +kernel
theorem dX8_count_75 : decode cX8_count 75 = .ok (.getfield 104, 3) := by decide +kernel
theorem dX8_count_78 : decode cX8_count 78 = .ok (.ireturn, 1) := by decide +kernel
theorem dX8_count_79 : decode cX8_count 79 = .ok (.aload_n 0, 1) := by decide +kernel
theorem dX8_count_80 : decode cX8_count 80 = .ok (.getfield 171, 3) := by decide +kernel
theorem dX8_count_83 : decode cX8_count 83 = .ok (.ireturn, 1) := by decide +kernel
theorem dX8_count_84 : decode cX8_count 84 = .ok (.aload_n 0, 1) := by decide +kernel
theorem dX8_count_85 : decode cX8_count 85 = .ok (.getfield 168, 3) := by decide +kernel
theorem dX8_count_88 : decode cX8_count 88 = .ok (.ireturn, 1) := by decide +kernel
theorem dX8_count_89 : decode cX8_count 89 = .ok (.aload_n 0, 1) := by decide +kernel
theorem dX8_count_90 : decode cX8_count 90 = .ok (.getfield 67, 3) := by decide +kernel
theorem dX8_count_93 : decode cX8_count 93 = .ok (.iconst 0, 1) := by decide +kernel
theorem dX8_count_94 : decode cX8_count 94 = .ok (.iaload, 1) := by decide +kernel
theorem dX8_count_95 : decode cX8_count 95 = .ok (.ireturn, 1) := by decide +kernel
theorem dX8_count_96 : decode cX8_count 96 = .ok (.aload_n 0, 1) := by decide +kernel
theorem dX8_count_97 : decode cX8_count 97 = .ok (.getfield 73, 3) := by decide +kernel
theorem dX8_count_100 : decode cX8_count 100 = .ok (.iconst 0, 1) := by decide +kernel
theorem dX8_count_101 : decode cX8_count 101 = .ok (.iaload, 1) := by decide +kernel
theorem dX8_count_102 : decode cX8_count 102 = .ok (.ireturn, 1) := by decide +kernel
theorem dX8_count_103 : decode cX8_count 103 = .ok (.aload_n 0, 1) := by decide +kernel
theorem dX8_count_104 : decode cX8_count 104 = .ok (.getfield 76, 3) := by decide +kernel
theorem dX8_count_107 : decode cX8_count 107 = .ok (.iconst 0, 1) := by decide +kernel
theorem dX8_count_108 : decode cX8_count 108 = .ok (.iaload, 1) := by decide +kernel
theorem dX8_count_109 : decode cX8_count 109 = .ok (.ireturn, 1) := by decide +kernel
theorem dX8_count_110 : decode cX8_count 110 = .ok (.iconst 0, 1) := by decide +kernel
theorem dX8_count_111 : decode cX8_count 111 = .ok (.istore_n 3, 1) := by decide +kernel
theorem dX8_count_112 : decode cX8_count 112 = .ok (.iload_n 3, 1) := by decide +kernel
theorem dX8_count_113 : decode cX8_count 113 = .ok (.aload_n 0, 1) := by decide +kernel
theorem dX8_count_114 : decode cX8_count 114 = .ok (.getfield 9, 3) := by decide +kernel
theorem dX8_count_117 : decode cX8_count 117 = .ok (.if_icmp .ge 20, 3) := by decide +kernel
theorem dX8_count_120 : decode cX8_count 120 = .ok (.aload_n 0, 1) := by decide +kernel
theorem dX8_count_121 : decode cX8_count 121 = .ok (.iload_n 3, 1) := by decide +kernel
theorem dX8_count_122 : decode cX8_count 122 = .ok (.invokevirtual 198, 3) := by decide +kernel
theorem dX8_count_125 : decode cX8_count 125 = .ok (.ifCond .eq 6, 3) := by decide +kernel
theorem dX8_count_128 : decode cX8_count 128 = .ok (.iinc 2 1, 3) := by decide +kernel
theorem dX8_count_131 : decode cX8_count 131 = .ok (.iinc 3 1, 3) := by decide +kernel
theorem dX8_count_134 : decode cX8_count 134 = .ok (.goto (-22), 3) := by decide +kernel
theorem dX8_count_137 : decode cX8_count 137 = .ok (.iload_n 2, 1) := by decide +kernel
theorem dX8_count_138 : decode cX8_count 138 = .ok (.ireturn, 1) := by decide +kernel
theorem dX8_count_139 : decode cX8_count 139 = .ok (.iconst (-1), 1) := by decide +kernel
theorem dX8_count_140 : decode cX8_count 140 = .ok (.ireturn, 1) := by decide +kernel
theorem dX8_endOf_0 : decode cX8_endOf 0 = .ok (.aload_n 0, 1) := by decide +kernel
theorem dX8_endOf_1 : decode cX8_endOf 1 = .ok (.getfield 58, 3) := by decide +kernel
theorem dX8_endOf_4 : decode cX8_endOf 4 = .ok (.iload_n 1, 1) := by decide +kernel
theorem dX8_endOf_5 : decode cX8_endOf 5 = .ok (.iaload, 1) := by decide +kernel
theorem dX8_endOf_6 : decode cX8_endOf 6 = .ok (.ifCond .ne 5, 3) := by decide +kernel
theorem dX8_endOf_9 : decode cX8_endOf 9 = .ok (.iconst (-1), 1) := by decide +kernel
theorem dX8_endOf_10 : decode cX8_endOf 10 = .ok (.ireturn, 1) := by decide +kernel
theorem dX8_endOf_11 : decode cX8_endOf 11 = .ok (.iload_n 1, 1) := by decide +kernel
theorem dX8_endOf_12 : decode cX8_endOf 12 = .ok (.iconst 1, 1) := by decide +kernel
theorem dX8_endOf_13 : decode cX8_endOf 13 = .ok (.iadd, 1) := by decide +kernel
theorem dX8_endOf_14 : decode cX8_endOf 14 = .ok (.istore_n 2, 1) := by decide +kernel
theorem dX8_endOf_15 : decode cX8_endOf 15 = .ok (.iload_n 2, 1) := by decide +kernel
theorem dX8_endOf_16 : decode cX8_endOf 16 = .ok (.aload_n 0, 1) := by decide +kernel
theorem dX8_endOf_17 : decode cX8_endOf 17 = .ok (.getfield 97, 3) := by decide +kernel
theorem dX8_endOf_20 : decode cX8_endOf 20 = .ok (.if_icmp .ge 40, 3) := by decide +kernel
theorem dX8_endOf_23 : decode cX8_endOf 23 = .ok (.aload_n 0, 1) := by decide +kernel
theorem dX8_endOf_24 : decode cX8_endOf 24 = .ok (.getfield 58, 3) := by decide +kernel
theorem dX8_endOf_27 : decode cX8_endOf 27 = .ok (.iload_n 2, 1) := by decide +kernel
theorem dX8_endOf_28 : decode cX8_endOf 28 = .ok (.iaload, 1) := by decide +kernel
theorem dX8_endOf_29 : decode cX8_endOf 29 = .ok (.ifCond .le 25, 3) := by decide +kernel
theorem dX8_endOf_32 : decode cX8_endOf 32 = .ok (.aload_n 0, 1) := by decide +kernel
theorem dX8_endOf_33 : decode cX8_endOf 33 = .ok (.getfield 58, 3) := by decide +kernel
theorem dX8_endOf_36 : decode cX8_endOf 36 = .ok (.iload_n 2, 1) := by decide +kernel
theorem dX8_endOf_37 : decode cX8_endOf 37 = .ok (.iaload, 1) := by decide +kernel
theorem dX8_endOf_38 : decode cX8_endOf 38 = .ok (.aload_n 0, 1) := by decide +kernel
theorem dX8_endOf_39 : decode cX8_endOf 39 = .ok (.getfield 58, 3) := by decide +kernel
theorem dX8_endOf_42 : decode cX8_endOf 42 = .ok (.iload_n 1, 1) := by decide +kernel
theorem dX8_endOf_43 : decode cX8_endOf 43 = .ok (.iaload, 1) := by decide +kernel
theorem dX8_endOf_44 : decode cX8_endOf 44 = .ok (.if_icmp .gt 10, 3) := by decide +kernel
theorem dX8_endOf_47 : decode cX8_endOf 47 = .ok (.aload_n 0, 1) := by decide +kernel
theorem dX8_endOf_48 : decode cX8_endOf 48 = .ok (.getfield 17, 3) := by decide +kernel
theorem dX8_endOf_51 : decode cX8_endOf 51 = .ok (.iload_n 2, 1) := by decide +kernel
theorem dX8_endOf_52 : decode cX8_endOf 52 = .ok (.iaload, 1) := by decide +kernel
theorem dX8_endOf_53 : decode cX8_endOf 53 = .ok (.ireturn, 1) := by decide +kernel
theorem dX8_endOf_54 : decode cX8_endOf 54 = .ok (.iinc 2 1, 3) := by decide +kernel
theorem dX8_endOf_57 : decode cX8_endOf 57 = .ok (.goto (-42), 3) := by decide +kernel
theorem dX8_endOf_60 : decode cX8_endOf 60 = .ok (.aload_n 0, 1) := by decide +kernel
theorem dX8_endOf_61 : decode cX8_endOf 61 = .ok (.getfield 9, 3) := by decide +kernel
theorem dX8_endOf_64 : decode cX8_endOf 64 = .ok (.iconst 1, 1) := by decide +kernel
theorem dX8_endOf_65 : decode cX8_endOf 65 = .ok (.isub, 1) := by decide +kernel
theorem dX8_endOf_66 : decode cX8_endOf 66 = .ok (.ireturn, 1) := by decide +kernel
theorem dX8_aboveOf_0 : decode cX8_aboveOf 0 = .ok (.aload_n 0, 1) := by decide +kernel
theorem dX8_aboveOf_1 : decode cX8_aboveOf 1 = .ok (.getfield 58, 3) := by decide +kernel
theorem dX8_aboveOf_4 : decode cX8_aboveOf 4 = .ok (.iload_n 1, 1) := by decide +kernel
theorem dX8_aboveOf_5 : decode cX8_aboveOf 5 = .ok (.iaload, 1) := by decide +kernel
theorem dX8_aboveOf_6 : decode cX8_aboveOf 6 = .ok (.ifCond .ne 5, 3) := by decide +kernel
theorem dX8_aboveOf_9 : decode cX8_aboveOf 9 = .ok (.iconst (-1), 1) := by decide +kernel
theorem dX8_aboveOf_10 : decode cX8_aboveOf 10 = .ok (.ireturn, 1) := by decide +kernel
theorem dX8_aboveOf_11 : decode cX8_aboveOf 11 = .ok (.iload_n 1, 1) := by decide +kernel
theorem dX8_aboveOf_12 : decode cX8_aboveOf 12 = .ok (.iconst 1, 1) := by decide +kernel
theorem dX8_aboveOf_13 : decode cX8_aboveOf 13 = .ok (.isub, 1) := by decide +kernel
theorem dX8_aboveOf_14 : decode cX8_aboveOf 14 = .ok (.istore_n 2, 1) := by decide +kernel
theorem dX8_aboveOf_15 : decode cX8_aboveOf 15 = .ok (.iload_n 2, 1) := by decide +kernel
theorem dX8_aboveOf_16 : decode cX8_aboveOf 16 = .ok (.ifCond .lt 35, 3) := by decide +kernel
theorem dX8_aboveOf_19 : decode cX8_aboveOf 19 = .ok (.aload_n 0, 1) := by decide +kernel
theorem dX8_aboveOf_20 : decode cX8_aboveOf 20 = .ok (.getfield 58, 3) := by decide +kernel
theorem dX8_aboveOf_23 : decode cX8_aboveOf 23 = .ok (.iload_n 2, 1) := by decide +kernel
theorem dX8_aboveOf_24 : decode cX8_aboveOf 24 = .ok (.iaload, 1) := by decide +kernel
theorem dX8_aboveOf_25 : decode cX8_aboveOf 25 = .ok (.ifCond .le 20, 3) := by decide +kernel
theorem dX8_aboveOf_28 : decode cX8_aboveOf 28 = .ok (.aload_n 0, 1) := by decide +kernel
theorem dX8_aboveOf_29 : decode cX8_aboveOf 29 = .ok (.getfield 58, 3) := by decide +kernel
theorem dX8_aboveOf_32 : decode cX8_aboveOf 32 = .ok (.iload_n 2, 1) := by decide +kernel
theorem dX8_aboveOf_33 : decode cX8_aboveOf 33 = .ok (.iaload, 1) := by decide +kernel
theorem dX8_aboveOf_34 : decode cX8_aboveOf 34 = .ok (.aload_n 0, 1) := by decide +kernel
theorem dX8_aboveOf_35 : decode cX8_aboveOf 35 = .ok (.getfield 58, 3) := by decide +kernel
theorem dX8_aboveOf_38 : decode cX8_aboveOf 38 = .ok (.iload_n 1, 1) := by decide +kernel
theorem dX8_aboveOf_39 : decode cX8_aboveOf 39 = .ok (.iaload, 1) := by decide +kernel
theorem dX8_aboveOf_40 : decode cX8_aboveOf 40 = .ok (.if_icmp .ge 5, 3) := by decide +kernel
theorem dX8_aboveOf_43 : decode cX8_aboveOf 43 = .ok (.iload_n 2, 1) := by decide +kernel
theorem dX8_aboveOf_44 : decode cX8_aboveOf 44 = .ok (.ireturn, 1) := by decide +kernel
theorem dX8_aboveOf_45 : decode cX8_aboveOf 45 = .ok (.iinc 2 (-1), 3) := by decide +kernel
theorem dX8_aboveOf_48 : decode cX8_aboveOf 48 = .ok (.goto (-33), 3) := by decide +kernel
theorem dX8_aboveOf_51 : decode cX8_aboveOf 51 = .ok (.iconst (-1), 1) := by decide +kernel
theorem dX8_aboveOf_52 : decode cX8_aboveOf 52 = .ok (.ireturn, 1) := by decide +kernel
theorem dX8_partnerOfLine_0 : decode cX8_partnerOfLine 0 = .ok (.iconst 0, 1) := by decide +kernel
theorem dX8_partnerOfLine_1 : decode cX8_partnerOfLine 1 = .ok (.istore_n 2, 1) := by decide +kernel
theorem dX8_partnerOfLine_2 : decode cX8_partnerOfLine 2 = .ok (.iload_n 2, 1) := by decide +kernel
theorem dX8_partnerOfLine_3 : decode cX8_partnerOfLine 3 = .ok (.aload_n 0, 1) := by decide +kernel
theorem dX8_partnerOfLine_4 : decode cX8_partnerOfLine 4 = .ok (.getfield 104, 3) := by decide +kernel
theorem dX8_partnerOfLine_7 : decode cX8_partnerOfLine 7 = .ok (.if_icmp .ge 21, 3) := by decide +kernel
theorem dX8_partnerOfLine_10 : decode cX8_partnerOfLine 10 = .ok (.aload_n 0, 1) := by decide +kernel
theorem dX8_partnerOfLine_11 : decode cX8_partnerOfLine 11 = .ok (.getfield 70, 3) := by decide +kernel
theorem dX8_partnerOfLine_14 : decode cX8_partnerOfLine 14 = .ok (.iload_n 2, 1) := by decide +kernel
theorem dX8_partnerOfLine_15 : decode cX8_partnerOfLine 15 = .ok (.iaload, 1) := by decide +kernel
theorem dX8_partnerOfLine_16 : decode cX8_partnerOfLine 16 = .ok (.iload_n 1, 1) := by decide +kernel
theorem dX8_partnerOfLine_17 : decode cX8_partnerOfLine 17 = .ok (.if_icmp .ne 5, 3) := by decide +kernel
theorem dX8_partnerOfLine_20 : decode cX8_partnerOfLine 20 = .ok (.iload_n 2, 1) := by decide +kernel
theorem dX8_partnerOfLine_21 : decode cX8_partnerOfLine 21 = .ok (.ireturn, 1) := by decide +kernel
theorem dX8_partnerOfLine_22 : decode cX8_partnerOfLine 22 = .ok (.iinc 2 1, 3) := by decide +kernel
theorem dX8_partnerOfLine_25 : decode cX8_partnerOfLine 25 = .ok (.goto (-23), 3) := by decide +kernel
theorem dX8_partnerOfLine_28 : decode cX8_partnerOfLine 28 = .ok (.iconst (-1), 1) := by decide +kernel
theorem dX8_partnerOfLine_29 : decode cX8_partnerOfLine 29 = .ok (.ireturn, 1) := by decide +kernel
theorem dX8_of_0 : decode cX8_of 0 = .ok (.aload_n 0, 1) := by decide +kernel
theorem dX8_of_1 : decode cX8_of 1 = .ok (.iconst 0, 1) := by decide +kernel
theorem dX8_of_2 : decode cX8_of 2 = .ok (.putfield 94, 3) := by decide +kernel
theorem dX8_of_5 : decode cX8_of 5 = .ok (.aload_n 0, 1) := by decide +kernel
theorem dX8_of_6 : decode cX8_of 6 = .ok (.iload_n 1, 1) := by decide +kernel
theorem dX8_of_7 : decode cX8_of 7 = .ok (.invokevirtual 124, 3) := by decide +kernel
theorem dX8_of_10 : decode cX8_of 10 = .ok (.ifCond .eq 13, 3) := by decide +kernel
theorem dX8_of_13 : decode cX8_of 13 = .ok (.iload_n 2, 1) := by decide +kernel
theorem dX8_of_14 : decode cX8_of 14 = .ok (.iconst 0, 1) := by decide +kernel
theorem dX8_of_15 : decode cX8_of 15 = .ok (.bipush 7, 2) := by decide +kernel
theorem dX8_of_17 : decode cX8_of 17 = .ok (.invokestatic 100, 3) := by decide +kernel
theorem dX8_of_20 : decode cX8_of 20 = .ok (.ifCond .ne 10, 3) := by decide +kernel
theorem dX8_of_23 : decode cX8_of 23 = .ok (.aload_n 0, 1) := by decide +kernel
theorem dX8_of_24 : decode cX8_of 24 = .ok (.iconst 1, 1) := by decide +kernel
theorem dX8_of_25 : decode cX8_of 25 = .ok (.putfield 94, 3) := by decide +kernel
theorem dX8_of_28 : decode cX8_of 28 = .ok (.iconst 0, 1) := by decide +kernel
theorem dX8_of_29 : decode cX8_of 29 = .ok (.ireturn, 1) := by decide +kernel
theorem dX8_of_30 : decode cX8_of 30 = .ok (.aload_n 0, 1) := by decide +kernel
theorem dX8_of_31 : decode cX8_of 31 = .ok (.invokevirtual 195, 3) := by decide +kernel
theorem dX8_of_34 : decode cX8_of 34 = .ok (.iload_n 2, 1) := by decide +kernel
theorem dX8_of_35 : decode cX8_of 35 = .ok (.tableswitch 95 0 6 #[41, 48, 54, 69, 76, 83, 89], 41) := by decide +kernel
theorem dX8_of_76 : decode cX8_of 76 = .ok (.aload_n 0, 1) := by decide +kernel
theorem dX8_of_77 : decode cX8_of 77 = .ok (.getfield 17, 3) := by decide +kernel
theorem dX8_of_80 : decode cX8_of 80 = .ok (.iload_n 1, 1) := by decide +kernel
theorem dX8_of_81 : decode cX8_of 81 = .ok (.iaload, 1) := by decide +kernel
theorem dX8_of_82 : decode cX8_of 82 = .ok (.ireturn, 1) := by decide +kernel
theorem dX8_of_83 : decode cX8_of 83 = .ok (.aload_n 0, 1) := by decide +kernel
theorem dX8_of_84 : decode cX8_of 84 = .ok (.iload_n 1, 1) := by decide +kernel
theorem dX8_of_85 : decode cX8_of 85 = .ok (.invokevirtual 135, 3) := by decide +kernel
theorem dX8_of_88 : decode cX8_of 88 = .ok (.ireturn, 1) := by decide +kernel
theorem dX8_of_89 : decode cX8_of 89 = .ok (.aload_n 0, 1) := by decide +kernel
theorem dX8_of_90 : decode cX8_of 90 = .ok (.getfield 88, 3) := by decide +kernel
theorem dX8_of_93 : decode cX8_of 93 = .ok (.iload_n 1, 1) := by decide +kernel
theorem dX8_of_94 : decode cX8_of 94 = .ok (.baload, 1) := by decide +kernel
theorem dX8_of_95 : decode cX8_of 95 = .ok (.ifCond .eq 7, 3) := by decide +kernel
theorem dX8_of_98 : decode cX8_of 98 = .ok (.iconst 1, 1) := by decide +kernel
theorem dX8_of_99 : decode cX8_of 99 = .ok (.goto 4, 3) := by decide +kernel
theorem dX8_of_102 : decode cX8_of 102 = .ok (.iconst 0, 1) := by decide +kernel
theorem dX8_of_103 : decode cX8_of 103 = .ok (.ireturn, 1) := by decide +kernel
theorem dX8_of_104 : decode cX8_of 104 = .ok (.aload_n 0, 1) := by decide +kernel
theorem dX8_of_105 : decode cX8_of 105 = .ok (.getfield 58, 3) := by decide +kernel
theorem dX8_of_108 : decode cX8_of 108 = .ok (.iload_n 1, 1) := by decide +kernel
theorem dX8_of_109 : decode cX8_of 109 = .ok (.iaload, 1) := by decide +kernel
theorem dX8_of_110 : decode cX8_of 110 = .ok (.ireturn, 1) := by decide +kernel
theorem dX8_of_111 : decode cX8_of 111 = .ok (.aload_n 0, 1) := by decide +kernel
theorem dX8_of_112 : decode cX8_of 112 = .ok (.getfield 33, 3) := by decide +kernel
theorem dX8_of_115 : decode cX8_of 115 = .ok (.iload_n 1, 1) := by decide +kernel
theorem dX8_of_116 : decode cX8_of 116 = .ok (.iaload, 1) := by decide +kernel
theorem dX8_of_117 : decode cX8_of 117 = .ok (.ireturn, 1) := by decide +kernel
theorem dX8_of_118 : decode cX8_of 118 = .ok (.aload_n 0, 1) := by decide +kernel
theorem dX8_of_119 : decode cX8_of 119 = .ok (.iload_n 1, 1) := by decide +kernel
theorem dX8_of_120 : decode cX8_of 120 = .ok (.invokevirtual 201, 3) := by decide +kernel
theorem dX8_of_123 : decode cX8_of 123 = .ok (.ireturn, 1) := by decide +kernel
theorem dX8_of_124 : decode cX8_of 124 = .ok (.aload_n 0, 1) := by decide +kernel
theorem dX8_of_125 : decode cX8_of 125 = .ok (.iload_n 1, 1) := by decide +kernel
theorem dX8_of_126 : decode cX8_of 126 = .ok (.invokevirtual 204, 3) := by decide +kernel
theorem dX8_of_129 : decode cX8_of 129 = .ok (.ireturn, 1) := by decide +kernel
theorem dX8_of_130 : decode cX8_of 130 = .ok (.aload_n 0, 1) := by decide +kernel
theorem dX8_of_131 : decode cX8_of 131 = .ok (.iload_n 1, 1) := by decide +kernel
theorem dX8_of_132 : decode cX8_of 132 = .ok (.invokevirtual 207, 3) := by decide +kernel
theorem dX8_of_135 : decode cX8_of 135 = .ok (.ireturn, 1) := by decide +kernel
theorem dX8_counter_0 : decode cX8_counter 0 = .ok (.aload_n 0, 1) := by decide +kernel
theorem dX8_counter_1 : decode cX8_counter 1 = .ok (.iconst 0, 1) := by decide +kernel
theorem dX8_counter_2 : decode cX8_counter 2 = .ok (.putfield 94, 3) := by decide +kernel
theorem dX8_counter_5 : decode cX8_counter 5 = .ok (.aload_n 0, 1) := by decide +kernel
theorem dX8_counter_6 : decode cX8_counter 6 = .ok (.iload_n 1, 1) := by decide +kernel
theorem dX8_counter_7 : decode cX8_counter 7 = .ok (.invokevirtual 124, 3) := by decide +kernel
theorem dX8_counter_10 : decode cX8_counter 10 = .ok (.ifCond .eq 12, 3) := by decide +kernel
theorem dX8_counter_13 : decode cX8_counter 13 = .ok (.iload_n 2, 1) := by decide +kernel
theorem dX8_counter_14 : decode cX8_counter 14 = .ok (.iconst 1, 1) := by decide +kernel
theorem dX8_counter_15 : decode cX8_counter 15 = .ok (.iconst 3, 1) := by decide +kernel
theorem dX8_counter_16 : decode cX8_counter 16 = .ok (.invokestatic 100, 3) := by decide +kernel
theorem dX8_counter_19 : decode cX8_counter 19 = .ok (.ifCond .ne 5, 3) := by decide +kernel
theorem dX8_counter_22 : decode cX8_counter 22 = .ok (.iconst (-1), 1) := by decide +kernel
theorem dX8_counter_23 : decode cX8_counter 23 = .ok (.ireturn, 1) := by decide +kernel
theorem dX8_counter_24 : decode cX8_counter 24 = .ok (.aload_n 0, 1) := by decide +kernel
theorem dX8_counter_25 : decode cX8_counter 25 = .ok (.invokevirtual 195, 3) := by decide +kernel
theorem dX8_counter_28 : decode cX8_counter 28 = .ok (.aload_n 0, 1) := by decide +kernel
theorem dX8_counter_29 : decode cX8_counter 29 = .ok (.getfield 61, 3) := by decide +kernel
theorem dX8_counter_32 : decode cX8_counter 32 = .ok (.iconst 3, 1) := by decide +kernel
theorem dX8_counter_33 : decode cX8_counter 33 = .ok (.iload_n 1, 1) := by decide +kernel
theorem dX8_counter_34 : decode cX8_counter 34 = .ok (.imul, 1) := by decide +kernel
theorem dX8_counter_35 : decode cX8_counter 35 = .ok (.iload_n 2, 1) := by decide +kernel
theorem dX8_counter_36 : decode cX8_counter 36 = .ok (.iadd, 1) := by decide +kernel
theorem dX8_counter_37 : decode cX8_counter 37 = .ok (.iconst 1, 1) := by decide +kernel
theorem dX8_counter_38 : decode cX8_counter 38 = .ok (.isub, 1) := by decide +kernel
theorem dX8_counter_39 : decode cX8_counter 39 = .ok (.iaload, 1) := by decide +kernel
theorem dX8_counter_40 : decode cX8_counter 40 = .ok (.ireturn, 1) := by decide +kernel
theorem dX8_partner_0 : decode cX8_partner 0 = .ok (.aload_n 0, 1) := by decide +kernel
theorem dX8_partner_1 : decode cX8_partner 1 = .ok (.iconst 0, 1) := by decide +kernel
theorem dX8_partner_2 : decode cX8_partner 2 = .ok (.putfield 94, 3) := by decide +kernel
theorem dX8_partner_5 : decode cX8_partner 5 = .ok (.iload_n 1, 1) := by decide +kernel
theorem dX8_partner_6 : decode cX8_partner 6 = .ok (.iconst 0, 1) := by decide +kernel
theorem dX8_partner_7 : decode cX8_partner 7 = .ok (.aload_n 0, 1) := by decide +kernel
theorem dX8_partner_8 : decode cX8_partner 8 = .ok (.getfield 104, 3) := by decide +kernel
theorem dX8_partner_11 : decode cX8_partner 11 = .ok (.iconst 1, 1) := by decide +kernel
theorem dX8_partner_12 : decode cX8_partner 12 = .ok (.isub, 1) := by decide +kernel
theorem dX8_partner_13 : decode cX8_partner 13 = .ok (.invokestatic 100, 3) := by decide +kernel
theorem dX8_partner_16 : decode cX8_partner 16 = .ok (.ifCond .ne 5, 3) := by decide +kernel
theorem dX8_partner_19 : decode cX8_partner 19 = .ok (.iconst (-1), 1) := by decide +kernel
theorem dX8_partner_20 : decode cX8_partner 20 = .ok (.ireturn, 1) := by decide +kernel
theorem dX8_partner_21 : decode cX8_partner 21 = .ok (.aload_n 0, 1) := by decide +kernel
theorem dX8_partner_22 : decode cX8_partner 22 = .ok (.invokevirtual 195, 3) := by decide +kernel
theorem dX8_partner_25 : decode cX8_partner 25 = .ok (.aload_n 0, 1) := by decide +kernel
theorem dX8_partner_26 : decode cX8_partner 26 = .ok (.getfield 70, 3) := by decide +kernel
theorem dX8_partner_29 : decode cX8_partner 29 = .ok (.iload_n 1, 1) := by decide +kernel
theorem dX8_partner_30 : decode cX8_partner 30 = .ok (.iaload, 1) := by decide +kernel
theorem dX8_partner_31 : decode cX8_partner 31 = .ok (.ireturn, 1) := by decide +kernel
theorem dX8_shift_0 : decode cX8_shift 0 = .ok (.aload_n 0, 1) := by decide +kernel
theorem dX8_shift_1 : decode cX8_shift 1 = .ok (.iconst 0, 1) := by decide +kernel
theorem dX8_shift_2 : decode cX8_shift 2 = .ok (.putfield 94, 3) := by decide +kernel
theorem dX8_shift_5 : decode cX8_shift 5 = .ok (.iload_n 1, 1) := by decide +kernel
theorem dX8_shift_6 : decode cX8_shift 6 = .ok (.iconst 0, 1) := by decide +kernel
theorem dX8_shift_7 : decode cX8_shift 7 = .ok (.aload_n 0, 1) := by decide +kernel
theorem dX8_shift_8 : decode cX8_shift 8 = .ok (.getfield 9, 3) := by decide +kernel
theorem dX8_shift_11 : decode cX8_shift 11 = .ok (.iconst 1, 1) := by decide +kernel
theorem dX8_shift_12 : decode cX8_shift 12 = .ok (.isub, 1) := by decide +kernel
theorem dX8_shift_13 : decode cX8_shift 13 = .ok (.invokestatic 100, 3) := by decide +kernel
theorem dX8_shift_16 : decode cX8_shift 16 = .ok (.ifCond .ne 10, 3) := by decide +kernel
theorem dX8_shift_19 : decode cX8_shift 19 = .ok (.aload_n 0, 1) := by decide +kernel
theorem dX8_shift_20 : decode cX8_shift 20 = .ok (.iconst 1, 1) := by decide +kernel
theorem dX8_shift_21 : decode cX8_shift 21 = .ok (.putfield 94, 3) := by decide +kernel
theorem dX8_shift_24 : decode cX8_shift 24 = .ok (.iconst 0, 1) := by decide +kernel
theorem dX8_shift_25 : decode cX8_shift 25 = .ok (.ireturn, 1) := by decide +kernel
theorem dX8_shift_26 : decode cX8_shift 26 = .ok (.aload_n 0, 1) := by decide +kernel
theorem dX8_shift_27 : decode cX8_shift 27 = .ok (.invokevirtual 195, 3) := by decide +kernel
theorem dX8_shift_30 : decode cX8_shift 30 = .ok (.aload_n 0, 1) := by decide +kernel
theorem dX8_shift_31 : decode cX8_shift 31 = .ok (.getfield 85, 3) := by decide +kernel
theorem dX8_shift_34 : decode cX8_shift 34 = .ok (.iload_n 1, 1) := by decide +kernel
theorem dX8_shift_35 : decode cX8_shift 35 = .ok (.iaload, 1) := by decide +kernel
theorem dX8_shift_36 : decode cX8_shift 36 = .ok (.ireturn, 1) := by decide +kernel
theorem dX8_span_0 : decode cX8_span 0 = .ok (.aload_n 0, 1) := by decide +kernel
theorem dX8_span_1 : decode cX8_span 1 = .ok (.iconst 0, 1) := by decide +kernel
theorem dX8_span_2 : decode cX8_span 2 = .ok (.putfield 94, 3) := by decide +kernel
theorem dX8_span_5 : decode cX8_span 5 = .ok (.iload_n 1, 1) := by decide +kernel
theorem dX8_span_6 : decode cX8_span 6 = .ok (.iconst 0, 1) := by decide +kernel
theorem dX8_span_7 : decode cX8_span 7 = .ok (.aload_n 0, 1) := by decide +kernel
theorem dX8_span_8 : decode cX8_span 8 = .ok (.getfield 9, 3) := by decide +kernel
theorem dX8_span_11 : decode cX8_span 11 = .ok (.iconst 1, 1) := by decide +kernel
theorem dX8_span_12 : decode cX8_span 12 = .ok (.isub, 1) := by decide +kernel
theorem dX8_span_13 : decode cX8_span 13 = .ok (.invokestatic 100, 3) := by decide +kernel
theorem dX8_span_16 : decode cX8_span 16 = .ok (.ifCond .ne 5, 3) := by decide +kernel
theorem dX8_span_19 : decode cX8_span 19 = .ok (.iconst (-1), 1) := by decide +kernel
theorem dX8_span_20 : decode cX8_span 20 = .ok (.ireturn, 1) := by decide +kernel
theorem dX8_span_21 : decode cX8_span 21 = .ok (.aload_n 0, 1) := by decide +kernel
theorem dX8_span_22 : decode cX8_span 22 = .ok (.invokevirtual 195, 3) := by decide +kernel
theorem dX8_span_25 : decode cX8_span 25 = .ok (.aload_n 0, 1) := by decide +kernel
theorem dX8_span_26 : decode cX8_span 26 = .ok (.getfield 82, 3) := by decide +kernel
theorem dX8_span_29 : decode cX8_span 29 = .ok (.iload_n 1, 1) := by decide +kernel
theorem dX8_span_30 : decode cX8_span 30 = .ok (.iaload, 1) := by decide +kernel
theorem dX8_span_31 : decode cX8_span 31 = .ok (.ireturn, 1) := by decide +kernel
theorem dX8_wrong_0 : decode cX8_wrong 0 = .ok (.aload_n 0, 1) := by decide +kernel
theorem dX8_wrong_1 : decode cX8_wrong 1 = .ok (.iconst 0, 1) := by decide +kernel
theorem dX8_wrong_2 : decode cX8_wrong 2 = .ok (.putfield 94, 3) := by decide +kernel
theorem dX8_wrong_5 : decode cX8_wrong 5 = .ok (.iload_n 1, 1) := by decide +kernel
theorem dX8_wrong_6 : decode cX8_wrong 6 = .ok (.iconst 0, 1) := by decide +kernel
theorem dX8_wrong_7 : decode cX8_wrong 7 = .ok (.aload_n 0, 1) := by decide +kernel
theorem dX8_wrong_8 : decode cX8_wrong 8 = .ok (.getfield 9, 3) := by decide +kernel
theorem dX8_wrong_11 : decode cX8_wrong 11 = .ok (.iconst 1, 1) := by decide +kernel
theorem dX8_wrong_12 : decode cX8_wrong 12 = .ok (.isub, 1) := by decide +kernel
theorem dX8_wrong_13 : decode cX8_wrong 13 = .ok (.invokestatic 100, 3) := by decide +kernel
theorem dX8_wrong_16 : decode cX8_wrong 16 = .ok (.ifCond .ne 5, 3) := by decide +kernel
theorem dX8_wrong_19 : decode cX8_wrong 19 = .ok (.iconst (-1), 1) := by decide +kernel
theorem dX8_wrong_20 : decode cX8_wrong 20 = .ok (.ireturn, 1) := by decide +kernel
theorem dX8_wrong_21 : decode cX8_wrong 21 = .ok (.aload_n 0, 1) := by decide +kernel
theorem dX8_wrong_22 : decode cX8_wrong 22 = .ok (.invokevirtual 195, 3) := by decide +kernel
theorem dX8_wrong_25 : decode cX8_wrong 25 = .ok (.aload_n 0, 1) := by decide +kernel
theorem dX8_wrong_26 : decode cX8_wrong 26 = .ok (.iload_n 1, 1) := by decide +kernel
theorem dX8_wrong_27 : decode cX8_wrong 27 = .ok (.invokevirtual 198, 3) := by decide +kernel
theorem dX8_wrong_30 : decode cX8_wrong 30 = .ok (.ifCond .eq 7, 3) := by decide +kernel
theorem dX8_wrong_33 : decode cX8_wrong 33 = .ok (.iconst 1, 1) := by decide +kernel
theorem dX8_wrong_34 : decode cX8_wrong 34 = .ok (.goto 4, 3) := by decide +kernel
theorem dX8_wrong_37 : decode cX8_wrong 37 = .ok (.iconst 0, 1) := by decide +kernel
theorem dX8_wrong_38 : decode cX8_wrong 38 = .ok (.ireturn, 1) := by decide +kernel
theorem dJ9_abs_0f7a4_0 : decode cJ9_abs_0f7a4 0 = .ok (.iload_n 0, 1) := by decide +kernel
theorem dJ9_abs_0f7a4_1 : decode cJ9_abs_0f7a4 1 = .ok (.ifCond .ge 8, 3) := by decide +kernel
theorem dJ9_abs_0f7a4_4 : decode cJ9_abs_0f7a4 4 = .ok (.iload_n 0, 1) := by decide +kernel
theorem dJ9_abs_0f7a4_5 : decode cJ9_abs_0f7a4 5 = .ok (.ineg, 1) := by decide +kernel
theorem dJ9_abs_0f7a4_6 : decode cJ9_abs_0f7a4 6 = .ok (.goto 4, 3) := by decide +kernel
theorem dJ9_abs_0f7a4_9 : decode cJ9_abs_0f7a4 9 = .ok (.iload_n 0, 1) := by decide +kernel
theorem dJ9_abs_0f7a4_10 : decode cJ9_abs_0f7a4 10 = .ok (.ireturn, 1) := by decide +kernel
theorem dJ9_max_7cf53_0 : decode cJ9_max_7cf53 0 = .ok (.iload_n 0, 1) := by decide +kernel
theorem dJ9_max_7cf53_1 : decode cJ9_max_7cf53 1 = .ok (.iload_n 1, 1) := by decide +kernel
theorem dJ9_max_7cf53_2 : decode cJ9_max_7cf53 2 = .ok (.if_icmp .lt 7, 3) := by decide +kernel
theorem dJ9_max_7cf53_5 : decode cJ9_max_7cf53 5 = .ok (.iload_n 0, 1) := by decide +kernel
theorem dJ9_max_7cf53_6 : decode cJ9_max_7cf53 6 = .ok (.goto 4, 3) := by decide +kernel
theorem dJ9_max_7cf53_9 : decode cJ9_max_7cf53 9 = .ok (.iload_n 1, 1) := by decide +kernel
theorem dJ9_max_7cf53_10 : decode cJ9_max_7cf53 10 = .ok (.ireturn, 1) := by decide +kernel
theorem dJ9_min_7cf53_0 : decode cJ9_min_7cf53 0 = .ok (.iload_n 0, 1) := by decide +kernel
theorem dJ9_min_7cf53_1 : decode cJ9_min_7cf53 1 = .ok (.iload_n 1, 1) := by decide +kernel
theorem dJ9_min_7cf53_2 : decode cJ9_min_7cf53 2 = .ok (.if_icmp .gt 7, 3) := by decide +kernel
theorem dJ9_min_7cf53_5 : decode cJ9_min_7cf53 5 = .ok (.iload_n 0, 1) := by decide +kernel
theorem dJ9_min_7cf53_6 : decode cJ9_min_7cf53 6 = .ok (.goto 4, 3) := by decide +kernel
theorem dJ9_min_7cf53_9 : decode cJ9_min_7cf53 9 = .ok (.iload_n 1, 1) := by decide +kernel
theorem dJ9_min_7cf53_10 : decode cJ9_min_7cf53 10 = .ok (.ireturn, 1) := by decide +kernel
theorem dJ9_min_f86c9_0 : decode cJ9_min_f86c9 0 = .ok (.lload_n 0, 1) := by decide +kernel
theorem dJ9_min_f86c9_1 : decode cJ9_min_f86c9 1 = .ok (.lload_n 2, 1) := by decide +kernel
theorem dJ9_min_f86c9_2 : decode cJ9_min_f86c9 2 = .ok (.lcmp, 1) := by decide +kernel
theorem dJ9_min_f86c9_3 : decode cJ9_min_f86c9 3 = .ok (.ifCond .gt 7, 3) := by decide +kernel
theorem dJ9_min_f86c9_6 : decode cJ9_min_f86c9 6 = .ok (.lload_n 0, 1) := by decide +kernel
theorem dJ9_min_f86c9_7 : decode cJ9_min_f86c9 7 = .ok (.goto 4, 3) := by decide +kernel
theorem dJ9_min_f86c9_10 : decode cJ9_min_f86c9 10 = .ok (.lload_n 2, 1) := by decide +kernel
theorem dJ9_min_f86c9_11 : decode cJ9_min_f86c9 11 = .ok (.lreturn, 1) := by decide +kernel
theorem dJ7_fill_d0a16_0 : decode cJ7_fill_d0a16 0 = .ok (.iconst 0, 1) := by decide +kernel
theorem dJ7_fill_d0a16_1 : decode cJ7_fill_d0a16 1 = .ok (.istore_n 3, 1) := by decide +kernel
theorem dJ7_fill_d0a16_2 : decode cJ7_fill_d0a16 2 = .ok (.aload_n 0, 1) := by decide +kernel
theorem dJ7_fill_d0a16_3 : decode cJ7_fill_d0a16 3 = .ok (.arraylength, 1) := by decide +kernel
theorem dJ7_fill_d0a16_4 : decode cJ7_fill_d0a16 4 = .ok (.istore 4, 2) := by decide +kernel
theorem dJ7_fill_d0a16_6 : decode cJ7_fill_d0a16 6 = .ok (.iload_n 3, 1) := by decide +kernel
theorem dJ7_fill_d0a16_7 : decode cJ7_fill_d0a16 7 = .ok (.iload 4, 2) := by decide +kernel
theorem dJ7_fill_d0a16_9 : decode cJ7_fill_d0a16 9 = .ok (.if_icmp .ge 13, 3) := by decide +kernel
theorem dJ7_fill_d0a16_12 : decode cJ7_fill_d0a16 12 = .ok (.aload_n 0, 1) := by decide +kernel
theorem dJ7_fill_d0a16_13 : decode cJ7_fill_d0a16 13 = .ok (.iload_n 3, 1) := by decide +kernel
theorem dJ7_fill_d0a16_14 : decode cJ7_fill_d0a16 14 = .ok (.lload_n 1, 1) := by decide +kernel
theorem dJ7_fill_d0a16_15 : decode cJ7_fill_d0a16 15 = .ok (.lastore, 1) := by decide +kernel
theorem dJ7_fill_d0a16_16 : decode cJ7_fill_d0a16 16 = .ok (.iinc 3 1, 3) := by decide +kernel
theorem dJ7_fill_d0a16_19 : decode cJ7_fill_d0a16 19 = .ok (.goto (-13), 3) := by decide +kernel
theorem dJ7_fill_d0a16_22 : decode cJ7_fill_d0a16 22 = .ok (.return_, 1) := by decide +kernel
theorem dJ7_fill_53178_0 : decode cJ7_fill_53178 0 = .ok (.iconst 0, 1) := by decide +kernel
theorem dJ7_fill_53178_1 : decode cJ7_fill_53178 1 = .ok (.istore_n 2, 1) := by decide +kernel
theorem dJ7_fill_53178_2 : decode cJ7_fill_53178 2 = .ok (.aload_n 0, 1) := by decide +kernel
theorem dJ7_fill_53178_3 : decode cJ7_fill_53178 3 = .ok (.arraylength, 1) := by decide +kernel
theorem dJ7_fill_53178_4 : decode cJ7_fill_53178 4 = .ok (.istore_n 3, 1) := by decide +kernel
theorem dJ7_fill_53178_5 : decode cJ7_fill_53178 5 = .ok (.iload_n 2, 1) := by decide +kernel
theorem dJ7_fill_53178_6 : decode cJ7_fill_53178 6 = .ok (.iload_n 3, 1) := by decide +kernel
theorem dJ7_fill_53178_7 : decode cJ7_fill_53178 7 = .ok (.if_icmp .ge 13, 3) := by decide +kernel
theorem dJ7_fill_53178_10 : decode cJ7_fill_53178 10 = .ok (.aload_n 0, 1) := by decide +kernel
theorem dJ7_fill_53178_11 : decode cJ7_fill_53178 11 = .ok (.iload_n 2, 1) := by decide +kernel
theorem dJ7_fill_53178_12 : decode cJ7_fill_53178 12 = .ok (.iload_n 1, 1) := by decide +kernel
theorem dJ7_fill_53178_13 : decode cJ7_fill_53178 13 = .ok (.iastore, 1) := by decide +kernel
theorem dJ7_fill_53178_14 : decode cJ7_fill_53178 14 = .ok (.iinc 2 1, 3) := by decide +kernel
theorem dJ7_fill_53178_17 : decode cJ7_fill_53178 17 = .ok (.goto (-12), 3) := by decide +kernel
theorem dJ7_fill_53178_20 : decode cJ7_fill_53178 20 = .ok (.return_, 1) := by decide +kernel
end
section
/-! base: contracts over a world, calls of them -/
/-- the links into the nest -/
def nws (U : State) : Prop := va_Nw (.methodLinkNest RX3 25 yX7_isWithin RX7) U ∧ va_Nw (.methodLinkNest RX1 45 yX7_countParts RX7) U ∧ va_Nw (.methodLinkNest RX1 41 yX7_isWithin RX7) U ∧ va_Nw (.methodLinkNest RX7 9 yX4_init RX7) U ∧ va_Nw (.methodLinkNest RX7 12 yX3_init RX7) U ∧ va_Nw (.methodLinkNest RX7 15 yX1_init RX7) U
def kx (D : va_G) (cy : Nat → ClassId) (U : State) : Prop := va_K D vwCl [(cy 0, .int), (cy 1, .long), (cy 2, .boolean)] U ∧ nws U
theorem kx.warm {D : va_G} {cy : Nat → ClassId} {s U : State} (hW : s.WarmedH U.vm) (h : kx D cy s) : kx D cy U :=
  ⟨va_K.moved hW.alike h.1, va_Nw.warmM hW h.2.1, va_Nw.warmM hW h.2.2.1, va_Nw.warmM hW h.2.2.2.1, va_Nw.warmM hW h.2.2.2.2.1, va_Nw.warmM hW h.2.2.2.2.2.1, va_Nw.warmM hW h.2.2.2.2.2.2⟩
theorem kx.same {D : va_G} {cy : Nat → ClassId} {s U : State} (hv : s.vm = U.vm) (h : kx D cy s) : kx D cy U :=
  ⟨va_K.moved (by rw [hv]; exact Vm.Alike.refl U.vm) h.1, va_Nw.same rfl hv h.2.1, va_Nw.same rfl hv h.2.2.1, va_Nw.same rfl hv h.2.2.2.1, va_Nw.same rfl hv h.2.2.2.2.1, va_Nw.same rfl hv h.2.2.2.2.2.1, va_Nw.same rfl hv h.2.2.2.2.2.2⟩
/-- the world at a method's start -/
def Pw (D : va_G) (cy : Nat → ClassId) (w0 : va_W) (sz : Nat) (U : State) : Prop := U.heap.size = sz ∧ va_P D vwCl w0 U.heap ∧ kx D cy U ∧ va_D (fun _ => True) w0
/-- the world at its end -/
def Bw {S : Type} (D : va_G) (A : Nat → Prop) (w1 : S → va_W) (u : S) (t : State) : Prop := va_P D vwCl (w1 u) t.heap ∧ va_D A (w1 u)
def Ct (l : Launch) (y : MethodName) (wy : List Cond) (rm : Room) (D : va_G) (cy : Nat → ClassId) (args : List Value) (w0 : va_W) (mc ms : Nat) (Qf : (Nat → Prop) → Array Value → State → Outcome → State → Prop) : Prop :=
  ∀ sz : Nat, Met l y wy rm (va_Pc args (Pw D cy w0 sz)) (Qf (va_A w0 sz)) mc ms (va_A w0 sz)
abbrev Ri {S : Type} (D : va_G) (w1 : S → va_W) (post : Int32 → S → Prop) : (Nat → Prop) → Array Value → State → Outcome → State → Prop := fun A => va_Qi post (Bw D A w1) A
abbrev Rl {S : Type} (D : va_G) (w1 : S → va_W) (post : Int64 → S → Prop) : (Nat → Prop) → Array Value → State → Outcome → State → Prop := fun A => va_Ql post (Bw D A w1) A
abbrev Rv {S : Type} (D : va_G) (w1 : S → va_W) (post : S → Prop) : (Nat → Prop) → Array Value → State → Outcome → State → Prop := fun A => va_Qv post (Bw D A w1) A
abbrev Rr {S : Type} (D : va_G) (ra : Nat) (w1 : S → va_W) (post : S → Prop) : (Nat → Prop) → Array Value → State → Outcome → State → Prop := fun A => va_Qr post (fun u a t => a = ra ∧ Bw D A w1 u t) A
/-- a heap that holds a world, inside a method -/
def Hw (D : va_G) (A : Nat → Prop) (ws : va_W) (s : State) (H : Heap) (locs : List Loc) : Prop := va_P D vwCl ws H ∧ va_D A ws ∧ va_S A s.heap H locs
/-- what a method's body knows -/
def Mc (p : Program) (m : MethodId) (c : Code) (meth : Method) (cc : ByteArray) (nL : Nat) (s : State) (args : Array Value) (Ts : List Cond) (own : String) (ret : Option FieldType) (D : va_G) (cy : Nat → ClassId) (A : Nat → Prop) : Prop :=
  CallFix p m c cc nL s args Ts own ∧ meth.sig.returnType = ret ∧ meth.locks = false ∧ kx D cy s ∧ ∀ q, s.heap.size ≤ q → A q
/-- at a place of a body, over a world -/
def Gw (p : Program) (l : Launch) (e : Env) (R : Room) (s : State) (m : MethodId) (args : Array Value) (below : List Frame) (meth : Method) (c : Code) (D : va_G) (A : Nat → Prop) (Q : State → Prop) (ws : va_W) (nL : Nat) (lv : List (Nat × Value)) (pc : Nat) (st : List Value) : Prop :=
  ∀ (H : Heap) (locs : List Loc) (ls : Array Slot), Hw D A ws s H locs → lv_has ls nL lv → W p l e R s m args below meth c H locs 0 0 Q (F0 m pc ls st)
theorem pw_blind (args : List Value) (D : va_G) (cy : Nat → ClassId) (w0 : va_W) (sz : Nat) : FrameBlind (va_Pc args (Pw D cy w0 sz)) := fun a U g mk q => by
  obtain ⟨q0, q1, q2, q3, q4⟩ := q
  exact ⟨q0, q1, q2, kx.same (s := U) (U := U.calling g mk a) rfl q3, q4⟩
theorem Ct.of {l : Launch} {y : MethodName} {wy ws' : List Cond} {rm : Room} {D : va_G} {cy : Nat → ClassId} {argsL : List Value} {w0 : va_W} {mc ms : Nat} {Qf : (Nat → Prop) → Array Value → State → Outcome → State → Prop} {cc : ByteArray} {maxL : Nat} {rt : Option FieldType} (hy : plainName y.cls = true) (hw : wy = Cond.code y cc maxL rt :: ws') (hn : (lg_sl argsL).length ≤ maxL)
    (h : ∀ (p : Program) (e : Env) (s : State) (m : MethodId) (below : List Frame) (meth : Method) (c : Code) (A : Nat → Prop), Mc p m c meth cc maxL s argsL.toArray wy y.cls rt D cy A → va_D A w0 → Gw p l e rm s m argsL.toArray below meth c D A (MQ below (Qf A) argsL.toArray s mc ms A) w0 maxL (lv_args 0 argsL) 0 []) : Ct l y wy rm D cy argsL w0 mc ms Qf := by
  intro sz
  refine Met.ofW (cc := cc) (maxL := maxL) (ret := rt) hy hw ?_
  intro p e s m args below meth c s₁ B hml hv
  obtain ⟨rfl, hsz, hP, hK, hD0⟩ := hv
  subst hsz
  have hts := atoms_spec (ws := wy) B.pre
  have hown : s.vm.findClass y.cls = some m.cls := findClass_of_methodNamed B.named
  have hl := lv_entry argsL hn
  rw [lg_entry_eq]
  exact h p e s m below meth c _ ⟨⟨B.exec, B.bytes, hml, hown, hts⟩, B.returns, B.notSynchronized, hK, fun q h => Or.inr h⟩ hD0.self s.heap [] _ ⟨hP, hD0.self, va_S.rf⟩ hl
section BaseCalls
variable {p : Program} {l : Launch} {e : Env} {R : Room} {s : State} {m : MethodId} {args : Array Value} {below : List Frame} {meth : Method} {c : Code} {H : Heap} {locs : List Loc} {cells slots : Nat} {Q : State → Prop}
variable {cc bytes : ByteArray} {pc nL maxL n idx N : Nat} {ls : Array Slot} {rest st0 As : List Value} {D : va_G} {cy : Nat → ClassId} {A : Nat → Prop} {ws : va_W} {Ts wy : List Cond} {own C host : String} {T : u_T} {y : MethodName} {rm : Room} {b : Nat} {fs : List Value} {ret : Option FieldType} {S : Type} {w1 : S → va_W}
theorem hw_free (hw : Hw D A ws s H locs) (hA : ∀ q, s.heap.size ≤ q → A q) : ∀ q, va_A ws H.size q → A q := fun q h => h.elim (fun ⟨k, e, hk⟩ => hw.2.1.2 k _ hk) (fun h => hA q (Nat.le_trans hw.2.2.1 h))
theorem hw_pre (hkx : kx D cy s) (hw : Hw D A ws s H locs) (as : List Value) : ∀ U : State, U.heap = H → s.WarmedH U.vm → va_Pc as (Pw D cy ws H.size) as.toArray U := fun U hU hW => ⟨rfl, by rw [hU], by rw [hU]; exact hw.1, hkx.warm hW, hw.2.1.weaken (fun _ _ _ _ => trivial)⟩
theorem hw_back {u : S} {t : State} {H1 : Heap} {locs1 : List Loc} (hw : Hw D A ws s H locs) (hA : ∀ q, s.heap.size ≤ q → A q) (ht : t.heap = H1) (hB : Bw D (va_A ws H.size) w1 u t) (hS : va_S A s.heap H1 locs1) : Hw D A (w1 u) s H1 locs1 := ⟨by rw [← ht]; exact hB.1, hB.2.weaken (fun _ q _ h => hw_free hw hA _ h), hS⟩
theorem call_Vi {post : Int32 → S → Prop} (F : CallFix p m c cc nL s args Ts own) (hkx : kx D cy s) (hw : Hw D A ws s H locs) (hA : ∀ q, s.heap.size ≤ q → A q) (hM : Ct l y wy rm D cy (.ref b :: As) ws 0 0 (Ri D w1 post)) (cw : CallW R s args own C idx y bytes maxL ret wy rm 0 0 n) (q0 ci : Nat) (hc : vwCl[ci]? = some (C, T, N)) (he : ws[q0]? = some (b, .inr (ci, fs))) (hn : As.length = n) (hsz : ls.size = nL) (hst : st0 = As.reverse ++ .ref b :: rest) (hrm : (rest.map fun v => v.category).sum ≤ 8) (hdg : decode cc pc = .ok (.invokevirtual idx, 3)) (hcs : cells ≤ R.cells ∧ slots ≤ R.slots)
    (kk : ∀ (r : Int32) (u : S) (H1 : Heap) (locs1 : List Loc), post r u → Hw D A (w1 u) s H1 locs1 → W p l e R s m args below meth c H1 locs1 cells slots Q (F0 m (pc + 3) ls (.int r :: rest))) : W p l e R s m args below meth c H locs cells slots Q (F0 m pc ls st0) := by
  subst hst
  exact va_calli (va_runV F (hM H.size) cw ⟨pw_blind _ D cy ws H.size, va_recv hkx.1 hw.1 hc he, hw_pre hkx hw _⟩ rfl hn hsz rfl (lv_room hrm) hdg hcs) hw.2.2 (fun q _ h => hw_free hw hA q h) (hw_free hw hA) (fun r u t H1 locs1 ht _ hp hB _ _ hS => kk r u H1 locs1 hp (hw_back hw hA ht hB hS))
theorem call_Vl {post : Int64 → S → Prop} (F : CallFix p m c cc nL s args Ts own) (hkx : kx D cy s) (hw : Hw D A ws s H locs) (hA : ∀ q, s.heap.size ≤ q → A q) (hM : Ct l y wy rm D cy (.ref b :: As) ws 0 0 (Rl D w1 post)) (cw : CallW R s args own C idx y bytes maxL ret wy rm 0 0 n) (q0 ci : Nat) (hc : vwCl[ci]? = some (C, T, N)) (he : ws[q0]? = some (b, .inr (ci, fs))) (hn : As.length = n) (hsz : ls.size = nL) (hst : st0 = As.reverse ++ .ref b :: rest) (hrm : (rest.map fun v => v.category).sum ≤ 8) (hdg : decode cc pc = .ok (.invokevirtual idx, 3)) (hcs : cells ≤ R.cells ∧ slots ≤ R.slots)
    (kk : ∀ (r : Int64) (u : S) (H1 : Heap) (locs1 : List Loc), post r u → Hw D A (w1 u) s H1 locs1 → W p l e R s m args below meth c H1 locs1 cells slots Q (F0 m (pc + 3) ls (.long r :: rest))) : W p l e R s m args below meth c H locs cells slots Q (F0 m pc ls st0) := by
  subst hst
  exact va_calll (va_runV F (hM H.size) cw ⟨pw_blind _ D cy ws H.size, va_recv hkx.1 hw.1 hc he, hw_pre hkx hw _⟩ rfl hn hsz rfl (lv_room hrm) hdg hcs) hw.2.2 (fun q _ h => hw_free hw hA q h) (hw_free hw hA) (fun r u t H1 locs1 ht _ hp hB _ _ hS => kk r u H1 locs1 hp (hw_back hw hA ht hB hS))
theorem call_Vv {post : S → Prop} (F : CallFix p m c cc nL s args Ts own) (hkx : kx D cy s) (hw : Hw D A ws s H locs) (hA : ∀ q, s.heap.size ≤ q → A q) (hM : Ct l y wy rm D cy (.ref b :: As) ws 0 0 (Rv D w1 post)) (cw : CallW R s args own C idx y bytes maxL ret wy rm 0 0 n) (q0 ci : Nat) (hc : vwCl[ci]? = some (C, T, N)) (he : ws[q0]? = some (b, .inr (ci, fs))) (hn : As.length = n) (hsz : ls.size = nL) (hst : st0 = As.reverse ++ .ref b :: rest) (hrm : (rest.map fun v => v.category).sum ≤ 8) (hdg : decode cc pc = .ok (.invokevirtual idx, 3)) (hcs : cells ≤ R.cells ∧ slots ≤ R.slots)
    (kk : ∀ (u : S) (H1 : Heap) (locs1 : List Loc), post u → Hw D A (w1 u) s H1 locs1 → W p l e R s m args below meth c H1 locs1 cells slots Q (F0 m (pc + 3) ls rest)) : W p l e R s m args below meth c H locs cells slots Q (F0 m pc ls st0) := by
  subst hst
  exact va_callv (va_runV F (hM H.size) cw ⟨pw_blind _ D cy ws H.size, va_recv hkx.1 hw.1 hc he, hw_pre hkx hw _⟩ rfl hn hsz rfl (lv_room hrm) hdg hcs) hw.2.2 (fun q _ h => hw_free hw hA q h) (hw_free hw hA) (fun u t H1 locs1 ht _ hp hB _ _ hS => kk u H1 locs1 hp (hw_back hw hA ht hB hS))
theorem call_Vr {post : S → Prop} {ra : Nat} (F : CallFix p m c cc nL s args Ts own) (hkx : kx D cy s) (hw : Hw D A ws s H locs) (hA : ∀ q, s.heap.size ≤ q → A q) (hM : Ct l y wy rm D cy (.ref b :: As) ws 0 0 (Rr D ra w1 post)) (cw : CallW R s args own C idx y bytes maxL ret wy rm 0 0 n) (q0 ci : Nat) (hc : vwCl[ci]? = some (C, T, N)) (he : ws[q0]? = some (b, .inr (ci, fs))) (hn : As.length = n) (hsz : ls.size = nL) (hst : st0 = As.reverse ++ .ref b :: rest) (hrm : (rest.map fun v => v.category).sum ≤ 8) (hdg : decode cc pc = .ok (.invokevirtual idx, 3)) (hcs : cells ≤ R.cells ∧ slots ≤ R.slots)
    (kk : ∀ (u : S) (H1 : Heap) (locs1 : List Loc), post u → Hw D A (w1 u) s H1 locs1 → W p l e R s m args below meth c H1 locs1 cells slots Q (F0 m (pc + 3) ls (.ref ra :: rest))) : W p l e R s m args below meth c H locs cells slots Q (F0 m pc ls st0) := by
  subst hst
  refine va_callr (va_runV F (hM H.size) cw ⟨pw_blind _ D cy ws H.size, va_recv hkx.1 hw.1 hc he, hw_pre hkx hw _⟩ rfl hn hsz rfl (lv_room hrm) hdg hcs) hw.2.2 (fun q _ h => hw_free hw hA q h) (hw_free hw hA) (fun u a t H1 locs1 ht _ hp hB _ _ hS => ?_)
  obtain ⟨rfl, hB⟩ := hB
  exact kk u H1 locs1 hp (hw_back hw hA ht hB hS)
theorem call_Sv {post : S → Prop} (F : CallFix p m c cc nL s args Ts own) (hkx : kx D cy s) (hw : Hw D A ws s H locs) (hA : ∀ q, s.heap.size ≤ q → A q) (hM : Ct l y wy rm D cy As ws 0 0 (Rv D w1 post)) (cw : CallB R s args own idx y bytes maxL ret wy rm 0 0 n ∧ (Cond.static y).before args s = true) (hn : As.length = n) (hsz : ls.size = nL) (hst : st0 = As.reverse ++ rest) (hrm : (rest.map fun v => v.category).sum ≤ 8) (hdg : decode cc pc = .ok (.invokestatic idx, 3)) (hcs : cells ≤ R.cells ∧ slots ≤ R.slots)
    (kk : ∀ (u : S) (H1 : Heap) (locs1 : List Loc), post u → Hw D A (w1 u) s H1 locs1 → W p l e R s m args below meth c H1 locs1 cells slots Q (F0 m (pc + 3) ls rest)) : W p l e R s m args below meth c H locs cells slots Q (F0 m pc ls st0) := by
  subst hst
  exact va_callv (va_runS F (hM H.size) cw ⟨pw_blind _ D cy ws H.size, hw_pre hkx hw _⟩ rfl hn hsz rfl (lv_room hrm) hdg hcs) hw.2.2 (fun q _ h => hw_free hw hA q h) (hw_free hw hA) (fun u t H1 locs1 ht _ hp hB _ _ hS => kk u H1 locs1 hp (hw_back hw hA ht hB hS))
/-! methods over no world -/
abbrev w_0 : Unit → va_W := fun _ => []
theorem hw_pre0 (hkx : kx D cy s) (as : List Value) : ∀ U : State, U.heap = H → s.WarmedH U.vm → va_Pc as (Pw D cy [] H.size) as.toArray U := fun U hU hW => ⟨rfl, by rw [hU], fun k q h => by simp at h, hkx.warm hW, ⟨fun i j p q h => by simp at h, fun k q h => by simp at h⟩⟩
theorem hw_A0 {q : Nat} (h : va_A [] H.size q) : H.size ≤ q := h.elim (fun ⟨k, e, hk⟩ => by simp at hk) id
theorem hw_back0 {H1 : Heap} {locs1 : List Loc} (hw : Hw D A ws s H locs) (hk : ∀ q : Nat, q < H.size → ¬ va_A [] H.size q → H1[q]? = H[q]?) (hS : va_S A s.heap H1 locs1) : Hw D A ws s H1 locs1 := ⟨hw.1.kept (fun k q hq => hk q.1 (hw.1 k q hq).lt (fun h => Nat.not_le.mpr (hw.1 k q hq).lt (hw_A0 h))), hw.2.1, hS⟩
theorem call_S0i {post : Int32 → Prop} (F : CallFix p m c cc nL s args Ts own) (hkx : kx D cy s) (hw : Hw D A ws s H locs) (hA : ∀ q, s.heap.size ≤ q → A q) (hM : Ct l y wy rm D cy As [] 0 0 (Ri D w_0 (fun r _ => post r))) (cw : CallB R s args own idx y bytes maxL ret wy rm 0 0 n ∧ (Cond.static y).before args s = true) (hn : As.length = n) (hsz : ls.size = nL) (hst : st0 = As.reverse ++ rest) (hrm : (rest.map fun v => v.category).sum ≤ 8) (hdg : decode cc pc = .ok (.invokestatic idx, 3)) (hcs : cells ≤ R.cells ∧ slots ≤ R.slots)
    (kk : ∀ (r : Int32) (H1 : Heap) (locs1 : List Loc), post r → Hw D A ws s H1 locs1 → W p l e R s m args below meth c H1 locs1 cells slots Q (F0 m (pc + 3) ls (.int r :: rest))) : W p l e R s m args below meth c H locs cells slots Q (F0 m pc ls st0) := by
  subst hst
  exact va_calli (va_runS F (hM H.size) cw ⟨pw_blind _ D cy [] H.size, hw_pre0 hkx _⟩ rfl hn hsz rfl (lv_room hrm) hdg hcs) hw.2.2 (fun q _ h => hA q (Nat.le_trans hw.2.2.1 (hw_A0 h))) (fun q h => hA q (Nat.le_trans hw.2.2.1 (hw_A0 h))) (fun r u t H1 locs1 ht _ hp hB _ hk hS => kk r H1 locs1 hp (hw_back0 hw hk hS))
theorem call_N0i {post : Int32 → Prop} (F : CallFix p m c cc nL s args Ts own) (hkx : kx D cy s) (hw : Hw D A ws s H locs) (hA : ∀ q, s.heap.size ≤ q → A q) (hM : Ct l y wy rm D cy As [] 0 0 (Ri D w_0 (fun r _ => post r))) (cw : va_CN R s args own idx y host bytes maxL ret wy rm 0 0 n ∧ (Cond.static y).before args s = true ∧ True) (hn : As.length = n) (hsz : ls.size = nL) (hst : st0 = As.reverse ++ rest) (hrm : (rest.map fun v => v.category).sum ≤ 8) (hdg : decode cc pc = .ok (.invokestatic idx, 3)) (hcs : cells ≤ R.cells ∧ slots ≤ R.slots)
    (kk : ∀ (r : Int32) (H1 : Heap) (locs1 : List Loc), post r → Hw D A ws s H1 locs1 → W p l e R s m args below meth c H1 locs1 cells slots Q (F0 m (pc + 3) ls (.int r :: rest))) : W p l e R s m args below meth c H locs cells slots Q (F0 m pc ls st0) := by
  subst hst
  exact va_calli (va_runSN F (hM H.size) cw ⟨pw_blind _ D cy [] H.size, hw_pre0 hkx _⟩ rfl hn hsz rfl (lv_room hrm) hdg hcs) hw.2.2 (fun q _ h => hA q (Nat.le_trans hw.2.2.1 (hw_A0 h))) (fun q h => hA q (Nat.le_trans hw.2.2.1 (hw_A0 h))) (fun r u t H1 locs1 ht _ hp hB _ hk hS => kk r H1 locs1 hp (hw_back0 hw hk hS))
/-! ends -/
def bz (r : Int32) : Prop := r = 0 ∨ r = 1
theorem bz.nar {r : Int32} (h : bz r) : narrow .boolean (.int r) = .int r := by rcases h with rfl | rfl <;> rfl
theorem bz.fit {r : Int32} (h : bz r) : fits .boolean (.int r) = true := by rcases h with rfl | rfl <;> rfl
theorem bz.vp {r : Int32} (h : bz r) : vp_nar .boolean r = r := by rcases h with rfl | rfl <;> rfl
theorem end_i {post : Int32 → S → Prop} {Ts : List Cond} (C0 : Mc p m c meth cc nL s args Ts own (some .int) D cy A) {u : S} (hw : Hw D A (w1 u) s H locs) {r : Int32} (hp : post r u) (hdg : decode cc pc = .ok (.ireturn, 1)) : W p l e R s m args below meth c H locs cells slots (MQ below (Ri D w1 post A) args s cells slots A) (F0 m pc ls [.int r]) :=
  W.iret C0.1.1 C0.1.2.1 C0.2.1 (fun t ht _ => ⟨⟨r, u, rfl, hp, by rw [← ht] at hw; exact hw.1, hw.2.1⟩, hw.2.2.F ht⟩) hw.2.2.2.2 hdg C0.2.2.1
theorem end_z {post : Int32 → S → Prop} {Ts : List Cond} (C0 : Mc p m c meth cc nL s args Ts own (some .boolean) D cy A) {u : S} (hw : Hw D A (w1 u) s H locs) {r : Int32} (hz : bz r) (hp : post r u) (hdg : decode cc pc = .ok (.ireturn, 1)) : W p l e R s m args below meth c H locs cells slots (MQ below (Ri D w1 post A) args s cells slots A) (F0 m pc ls [.int r]) :=
  W.zret C0.1.1 C0.1.2.1 C0.2.1 hz.nar (fun t ht _ => ⟨⟨r, u, rfl, hp, by rw [← ht] at hw; exact hw.1, hw.2.1⟩, hw.2.2.F ht⟩) hw.2.2.2.2 hdg C0.2.2.1
theorem end_l {post : Int64 → S → Prop} {Ts : List Cond} (C0 : Mc p m c meth cc nL s args Ts own (some .long) D cy A) {u : S} (hw : Hw D A (w1 u) s H locs) {r : Int64} (hp : post r u) (hdg : decode cc pc = .ok (.lreturn, 1)) : W p l e R s m args below meth c H locs cells slots (MQ below (Rl D w1 post A) args s cells slots A) (F0 m pc ls [.long r]) :=
  W.lret C0.1.1 C0.1.2.1 C0.2.1 (fun t ht _ => ⟨⟨r, u, rfl, hp, by rw [← ht] at hw; exact hw.1, hw.2.1⟩, hw.2.2.F ht⟩) hw.2.2.2.2 hdg C0.2.2.1
theorem end_v {post : S → Prop} {Ts : List Cond} (C0 : Mc p m c meth cc nL s args Ts own none D cy A) {u : S} (hw : Hw D A (w1 u) s H locs) (hp : post u) (hdg : decode cc pc = .ok (.return_, 1)) : W p l e R s m args below meth c H locs cells slots (MQ below (Rv D w1 post A) args s cells slots A) (F0 m pc ls []) :=
  W.vret C0.1.1 C0.1.2.1 C0.2.1 (fun t ht _ => ⟨⟨u, rfl, hp, by rw [← ht] at hw; exact hw.1, hw.2.1⟩, hw.2.2.F ht⟩) hw.2.2.2.2 hdg C0.2.2.1
theorem end_r {post : S → Prop} {ra : Nat} {cn : String} {Ts : List Cond} (C0 : Mc p m c meth cc nL s args Ts own (some (.object cn)) D cy A) {u : S} (hw : Hw D A (w1 u) s H locs) (hp : post u) (hdg : decode cc pc = .ok (.areturn, 1)) : W p l e R s m args below meth c H locs cells slots (MQ below (Rr D ra w1 post A) args s cells slots A) (F0 m pc ls [.ref ra]) :=
  W.aret C0.1.1 C0.1.2.1 C0.2.1 (Or.inl ⟨_, rfl⟩) (Or.inr ⟨_, rfl⟩) (fun t ht _ => ⟨⟨u, ra, rfl, hp, rfl, by rw [← ht] at hw; exact hw.1, hw.2.1⟩, hw.2.2.F ht⟩) hw.2.2.2.2 hdg C0.2.2.1
end BaseCalls
end
