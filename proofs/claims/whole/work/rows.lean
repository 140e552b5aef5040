section
-- ===== PART A: goes FIRST, ahead of the names: the tables' words, and 'selects' of the private methods out of them =====
/-- a private method of a class that the tables say can be made, by its rows of tables_1 -/
def lw_okq (q : MethodName × Nat) : Prop := (q.1.cls ≠ "java/lang/invoke/MethodHandle" ∧ q.1.cls ≠ "java/lang/invoke/VarHandle") ∧ Cond.instantiable q.1.cls q.2 ∈ tables_1 ∧ Cond.privateMethod q.1 ∈ tables_1 ∧ Cond.instanceMethod q.1 ∈ tables_1
theorem lw_p0 : lw_okq (⟨"TestFinder$Words", "add", "(II)V"⟩, 4) := ⟨⟨by decide +kernel, by decide +kernel⟩, List.mem_of_getElem? (i := 206) (by decide +kernel), List.mem_of_getElem? (i := 362) (by decide +kernel), List.mem_of_getElem? (i := 363) (by decide +kernel)⟩
theorem lw_p1 : lw_okq (⟨"TestFinder$ScriptReader", "accept", "(I)Z"⟩, 4) := ⟨⟨by decide +kernel, by decide +kernel⟩, List.mem_of_getElem? (i := 198) (by decide +kernel), List.mem_of_getElem? (i := 366) (by decide +kernel), List.mem_of_getElem? (i := 367) (by decide +kernel)⟩
theorem lw_p2 : lw_okq (⟨"TestFinder$ScriptReader", "openSuite", "()Z"⟩, 4) := ⟨⟨by decide +kernel, by decide +kernel⟩, List.mem_of_getElem? (i := 198) (by decide +kernel), List.mem_of_getElem? (i := 427) (by decide +kernel), List.mem_of_getElem? (i := 428) (by decide +kernel)⟩
theorem lw_p3 : lw_okq (⟨"TestFinder$ScriptReader", "openCase", "(I)Z"⟩, 4) := ⟨⟨by decide +kernel, by decide +kernel⟩, List.mem_of_getElem? (i := 198) (by decide +kernel), List.mem_of_getElem? (i := 455) (by decide +kernel), List.mem_of_getElem? (i := 456) (by decide +kernel)⟩
theorem lw_p4 : lw_okq (⟨"TestFinder$ScriptReader", "isTaken", "(JI)Z"⟩, 4) := ⟨⟨by decide +kernel, by decide +kernel⟩, List.mem_of_getElem? (i := 198) (by decide +kernel), List.mem_of_getElem? (i := 459) (by decide +kernel), List.mem_of_getElem? (i := 460) (by decide +kernel)⟩
theorem lw_p5 : lw_okq (⟨"TestFinder$ScriptReader", "addTags", "()Z"⟩, 4) := ⟨⟨by decide +kernel, by decide +kernel⟩, List.mem_of_getElem? (i := 198) (by decide +kernel), List.mem_of_getElem? (i := 477) (by decide +kernel), List.mem_of_getElem? (i := 478) (by decide +kernel)⟩
theorem lw_p6 : lw_okq (⟨"TestFinder$ScriptReader", "addParameter", "(LTestFinder$Case;)Z"⟩, 4) := ⟨⟨by decide +kernel, by decide +kernel⟩, List.mem_of_getElem? (i := 198) (by decide +kernel), List.mem_of_getElem? (i := 482) (by decide +kernel), List.mem_of_getElem? (i := 483) (by decide +kernel)⟩
theorem lw_p7 : lw_okq (⟨"TestFinder$ScriptReader", "setSize", "(LTestFinder$Case;)Z"⟩, 4) := ⟨⟨by decide +kernel, by decide +kernel⟩, List.mem_of_getElem? (i := 198) (by decide +kernel), List.mem_of_getElem? (i := 488) (by decide +kernel), List.mem_of_getElem? (i := 489) (by decide +kernel)⟩
theorem lw_p8 : lw_okq (⟨"TestFinder$ScriptReader", "skip", "(LTestFinder$Case;)Z"⟩, 4) := ⟨⟨by decide +kernel, by decide +kernel⟩, List.mem_of_getElem? (i := 198) (by decide +kernel), List.mem_of_getElem? (i := 497) (by decide +kernel), List.mem_of_getElem? (i := 498) (by decide +kernel)⟩
theorem lw_p9 : lw_okq (⟨"TestFinder$ScriptReader", "expectFailure", "(LTestFinder$Case;)Z"⟩, 4) := ⟨⟨by decide +kernel, by decide +kernel⟩, List.mem_of_getElem? (i := 198) (by decide +kernel), List.mem_of_getElem? (i := 502) (by decide +kernel), List.mem_of_getElem? (i := 503) (by decide +kernel)⟩
theorem lw_p10 : lw_okq (⟨"TestFinder$TestName", "addName", "(J)V"⟩, 2) := ⟨⟨by decide +kernel, by decide +kernel⟩, List.mem_of_getElem? (i := 288) (by decide +kernel), List.mem_of_getElem? (i := 533) (by decide +kernel), List.mem_of_getElem? (i := 534) (by decide +kernel)⟩
theorem lw_p11 : lw_okq (⟨"TestFinder$TestName", "addMark", "(C)V"⟩, 2) := ⟨⟨by decide +kernel, by decide +kernel⟩, List.mem_of_getElem? (i := 288) (by decide +kernel), List.mem_of_getElem? (i := 545) (by decide +kernel), List.mem_of_getElem? (i := 546) (by decide +kernel)⟩
theorem lw_p12 : lw_okq (⟨"TestFinder$FilterReader", "either", "(I)Z"⟩, 5) := ⟨⟨by decide +kernel, by decide +kernel⟩, List.mem_of_getElem? (i := 241) (by decide +kernel), List.mem_of_getElem? (i := 579) (by decide +kernel), List.mem_of_getElem? (i := 580) (by decide +kernel)⟩
theorem lw_p13 : lw_okq (⟨"TestFinder$FilterReader", "also", "(I)Z"⟩, 5) := ⟨⟨by decide +kernel, by decide +kernel⟩, List.mem_of_getElem? (i := 241) (by decide +kernel), List.mem_of_getElem? (i := 583) (by decide +kernel), List.mem_of_getElem? (i := 584) (by decide +kernel)⟩
theorem lw_p14 : lw_okq (⟨"TestFinder$FilterReader", "not", "(I)Z"⟩, 5) := ⟨⟨by decide +kernel, by decide +kernel⟩, List.mem_of_getElem? (i := 241) (by decide +kernel), List.mem_of_getElem? (i := 587) (by decide +kernel), List.mem_of_getElem? (i := 588) (by decide +kernel)⟩
theorem lw_p15 : lw_okq (⟨"TestFinder$FilterReader", "next", "()C"⟩, 5) := ⟨⟨by decide +kernel, by decide +kernel⟩, List.mem_of_getElem? (i := 241) (by decide +kernel), List.mem_of_getElem? (i := 591) (by decide +kernel), List.mem_of_getElem? (i := 592) (by decide +kernel)⟩
def lw_privs_1 : List (MethodName × Nat) := [(⟨"TestFinder$Words", "add", "(II)V"⟩, 4), (⟨"TestFinder$ScriptReader", "accept", "(I)Z"⟩, 4), (⟨"TestFinder$ScriptReader", "openSuite", "()Z"⟩, 4), (⟨"TestFinder$ScriptReader", "openCase", "(I)Z"⟩, 4), (⟨"TestFinder$ScriptReader", "isTaken", "(JI)Z"⟩, 4), (⟨"TestFinder$ScriptReader", "addTags", "()Z"⟩, 4), (⟨"TestFinder$ScriptReader", "addParameter", "(LTestFinder$Case;)Z"⟩, 4), (⟨"TestFinder$ScriptReader", "setSize", "(LTestFinder$Case;)Z"⟩, 4), (⟨"TestFinder$ScriptReader", "skip", "(LTestFinder$Case;)Z"⟩, 4), (⟨"TestFinder$ScriptReader", "expectFailure", "(LTestFinder$Case;)Z"⟩, 4), (⟨"TestFinder$TestName", "addName", "(J)V"⟩, 2), (⟨"TestFinder$TestName", "addMark", "(C)V"⟩, 2), (⟨"TestFinder$FilterReader", "either", "(I)Z"⟩, 5), (⟨"TestFinder$FilterReader", "also", "(I)Z"⟩, 5), (⟨"TestFinder$FilterReader", "not", "(I)Z"⟩, 5), (⟨"TestFinder$FilterReader", "next", "()C"⟩, 5)]
theorem lw_r1 : ∀ q ∈ lw_privs_1, lw_okq q := List.forall_mem_cons.mpr ⟨lw_p0, List.forall_mem_cons.mpr ⟨lw_p1, List.forall_mem_cons.mpr ⟨lw_p2, List.forall_mem_cons.mpr ⟨lw_p3, List.forall_mem_cons.mpr ⟨lw_p4, List.forall_mem_cons.mpr ⟨lw_p5, List.forall_mem_cons.mpr ⟨lw_p6, List.forall_mem_cons.mpr ⟨lw_p7, List.forall_mem_cons.mpr ⟨lw_p8, List.forall_mem_cons.mpr ⟨lw_p9, List.forall_mem_cons.mpr ⟨lw_p10, List.forall_mem_cons.mpr ⟨lw_p11, List.forall_mem_cons.mpr ⟨lw_p12, List.forall_mem_cons.mpr ⟨lw_p13, List.forall_mem_cons.mpr ⟨lw_p14, List.forall_mem_cons.mpr ⟨lw_p15, fun _ h => absurd h List.not_mem_nil⟩⟩⟩⟩⟩⟩⟩⟩⟩⟩⟩⟩⟩⟩⟩⟩
theorem lw_p16 : lw_okq (⟨"TestFinder$FilterReader", "negated", "(I)Z"⟩, 5) := ⟨⟨by decide +kernel, by decide +kernel⟩, List.mem_of_getElem? (i := 241) (by decide +kernel), List.mem_of_getElem? (i := 595) (by decide +kernel), List.mem_of_getElem? (i := 596) (by decide +kernel)⟩
theorem lw_p17 : lw_okq (⟨"TestFinder$FilterReader", "enclosed", "(I)Z"⟩, 5) := ⟨⟨by decide +kernel, by decide +kernel⟩, List.mem_of_getElem? (i := 241) (by decide +kernel), List.mem_of_getElem? (i := 603) (by decide +kernel), List.mem_of_getElem? (i := 604) (by decide +kernel)⟩
theorem lw_p18 : lw_okq (⟨"TestFinder$FilterReader", "plain", "(C)Z"⟩, 5) := ⟨⟨by decide +kernel, by decide +kernel⟩, List.mem_of_getElem? (i := 241) (by decide +kernel), List.mem_of_getElem? (i := 607) (by decide +kernel), List.mem_of_getElem? (i := 608) (by decide +kernel)⟩
theorem lw_p19 : lw_okq (⟨"TestFinder$FilterReader", "less", "()Z"⟩, 5) := ⟨⟨by decide +kernel, by decide +kernel⟩, List.mem_of_getElem? (i := 241) (by decide +kernel), List.mem_of_getElem? (i := 611) (by decide +kernel), List.mem_of_getElem? (i := 612) (by decide +kernel)⟩
theorem lw_p20 : lw_okq (⟨"TestFinder$FilterReader", "named", "(C)Z"⟩, 5) := ⟨⟨by decide +kernel, by decide +kernel⟩, List.mem_of_getElem? (i := 241) (by decide +kernel), List.mem_of_getElem? (i := 615) (by decide +kernel), List.mem_of_getElem? (i := 616) (by decide +kernel)⟩
theorem lw_p21 : lw_okq (⟨"TestFinder$FilterReader", "word", "(Z)J"⟩, 5) := ⟨⟨by decide +kernel, by decide +kernel⟩, List.mem_of_getElem? (i := 241) (by decide +kernel), List.mem_of_getElem? (i := 619) (by decide +kernel), List.mem_of_getElem? (i := 620) (by decide +kernel)⟩
theorem lw_p22 : lw_okq (⟨"TestFinder$FilterReader", "tagOrValue", "()Z"⟩, 5) := ⟨⟨by decide +kernel, by decide +kernel⟩, List.mem_of_getElem? (i := 241) (by decide +kernel), List.mem_of_getElem? (i := 629) (by decide +kernel), List.mem_of_getElem? (i := 630) (by decide +kernel)⟩
theorem lw_p23 : lw_okq (⟨"TestFinder$Filter", "negate", "(I)V"⟩, 5) := ⟨⟨by decide +kernel, by decide +kernel⟩, List.mem_of_getElem? (i := 247) (by decide +kernel), List.mem_of_getElem? (i := 645) (by decide +kernel), List.mem_of_getElem? (i := 646) (by decide +kernel)⟩
theorem lw_p24 : lw_okq (⟨"TestFinder$Filter", "join", "(CI)V"⟩, 5) := ⟨⟨by decide +kernel, by decide +kernel⟩, List.mem_of_getElem? (i := 247) (by decide +kernel), List.mem_of_getElem? (i := 649) (by decide +kernel), List.mem_of_getElem? (i := 650) (by decide +kernel)⟩
theorem lw_p25 : lw_okq (⟨"TestFinder$Filter", "atomHolds", "(ILTestFinder$Case;I)Z"⟩, 5) := ⟨⟨by decide +kernel, by decide +kernel⟩, List.mem_of_getElem? (i := 247) (by decide +kernel), List.mem_of_getElem? (i := 653) (by decide +kernel), List.mem_of_getElem? (i := 654) (by decide +kernel)⟩
theorem lw_p26 : lw_okq (⟨"TestFinder$Filter", "hasValue", "(ILTestFinder$Case;I)Z"⟩, 5) := ⟨⟨by decide +kernel, by decide +kernel⟩, List.mem_of_getElem? (i := 247) (by decide +kernel), List.mem_of_getElem? (i := 658) (by decide +kernel), List.mem_of_getElem? (i := 659) (by decide +kernel)⟩
theorem lw_p27 : lw_okq (⟨"TestFinderModel", "nothing", "()V"⟩, 60) := ⟨⟨by decide +kernel, by decide +kernel⟩, List.mem_of_getElem? (i := 671) (by decide +kernel), List.mem_of_getElem? (i := 867) (by decide +kernel), List.mem_of_getElem? (i := 868) (by decide +kernel)⟩
theorem lw_p28 : lw_okq (⟨"TestFinderModel", "cut", "(II)V"⟩, 60) := ⟨⟨by decide +kernel, by decide +kernel⟩, List.mem_of_getElem? (i := 671) (by decide +kernel), List.mem_of_getElem? (i := 871) (by decide +kernel), List.mem_of_getElem? (i := 872) (by decide +kernel)⟩
theorem lw_p29 : lw_okq (⟨"TestFinderModel", "lineIs", "(I)Z"⟩, 60) := ⟨⟨by decide +kernel, by decide +kernel⟩, List.mem_of_getElem? (i := 671) (by decide +kernel), List.mem_of_getElem? (i := 875) (by decide +kernel), List.mem_of_getElem? (i := 876) (by decide +kernel)⟩
theorem lw_p30 : lw_okq (⟨"TestFinderModel", "begins", "(J)Z"⟩, 60) := ⟨⟨by decide +kernel, by decide +kernel⟩, List.mem_of_getElem? (i := 671) (by decide +kernel), List.mem_of_getElem? (i := 880) (by decide +kernel), List.mem_of_getElem? (i := 881) (by decide +kernel)⟩
theorem lw_p31 : lw_okq (⟨"TestFinderModel", "suiteLine", "()Z"⟩, 60) := ⟨⟨by decide +kernel, by decide +kernel⟩, List.mem_of_getElem? (i := 671) (by decide +kernel), List.mem_of_getElem? (i := 884) (by decide +kernel), List.mem_of_getElem? (i := 885) (by decide +kernel)⟩
def lw_privs_2 : List (MethodName × Nat) := [(⟨"TestFinder$FilterReader", "negated", "(I)Z"⟩, 5), (⟨"TestFinder$FilterReader", "enclosed", "(I)Z"⟩, 5), (⟨"TestFinder$FilterReader", "plain", "(C)Z"⟩, 5), (⟨"TestFinder$FilterReader", "less", "()Z"⟩, 5), (⟨"TestFinder$FilterReader", "named", "(C)Z"⟩, 5), (⟨"TestFinder$FilterReader", "word", "(Z)J"⟩, 5), (⟨"TestFinder$FilterReader", "tagOrValue", "()Z"⟩, 5), (⟨"TestFinder$Filter", "negate", "(I)V"⟩, 5), (⟨"TestFinder$Filter", "join", "(CI)V"⟩, 5), (⟨"TestFinder$Filter", "atomHolds", "(ILTestFinder$Case;I)Z"⟩, 5), (⟨"TestFinder$Filter", "hasValue", "(ILTestFinder$Case;I)Z"⟩, 5), (⟨"TestFinderModel", "nothing", "()V"⟩, 60), (⟨"TestFinderModel", "cut", "(II)V"⟩, 60), (⟨"TestFinderModel", "lineIs", "(I)Z"⟩, 60), (⟨"TestFinderModel", "begins", "(J)Z"⟩, 60), (⟨"TestFinderModel", "suiteLine", "()Z"⟩, 60)]
theorem lw_r2 : ∀ q ∈ lw_privs_2, lw_okq q := List.forall_mem_cons.mpr ⟨lw_p16, List.forall_mem_cons.mpr ⟨lw_p17, List.forall_mem_cons.mpr ⟨lw_p18, List.forall_mem_cons.mpr ⟨lw_p19, List.forall_mem_cons.mpr ⟨lw_p20, List.forall_mem_cons.mpr ⟨lw_p21, List.forall_mem_cons.mpr ⟨lw_p22, List.forall_mem_cons.mpr ⟨lw_p23, List.forall_mem_cons.mpr ⟨lw_p24, List.forall_mem_cons.mpr ⟨lw_p25, List.forall_mem_cons.mpr ⟨lw_p26, List.forall_mem_cons.mpr ⟨lw_p27, List.forall_mem_cons.mpr ⟨lw_p28, List.forall_mem_cons.mpr ⟨lw_p29, List.forall_mem_cons.mpr ⟨lw_p30, List.forall_mem_cons.mpr ⟨lw_p31, fun _ h => absurd h List.not_mem_nil⟩⟩⟩⟩⟩⟩⟩⟩⟩⟩⟩⟩⟩⟩⟩⟩
theorem lw_p32 : lw_okq (⟨"TestFinderModel", "isRight", "(IZ)Z"⟩, 60) := ⟨⟨by decide +kernel, by decide +kernel⟩, List.mem_of_getElem? (i := 671) (by decide +kernel), List.mem_of_getElem? (i := 888) (by decide +kernel), List.mem_of_getElem? (i := 889) (by decide +kernel)⟩
theorem lw_p33 : lw_okq (⟨"TestFinderModel", "isSame", "(III)Z"⟩, 60) := ⟨⟨by decide +kernel, by decide +kernel⟩, List.mem_of_getElem? (i := 671) (by decide +kernel), List.mem_of_getElem? (i := 898) (by decide +kernel), List.mem_of_getElem? (i := 899) (by decide +kernel)⟩
theorem lw_p34 : lw_okq (⟨"TestFinderModel", "caseLine", "(I)Z"⟩, 60) := ⟨⟨by decide +kernel, by decide +kernel⟩, List.mem_of_getElem? (i := 671) (by decide +kernel), List.mem_of_getElem? (i := 903) (by decide +kernel), List.mem_of_getElem? (i := 904) (by decide +kernel)⟩
theorem lw_p35 : lw_okq (⟨"TestFinderModel", "testMany", "()I"⟩, 60) := ⟨⟨by decide +kernel, by decide +kernel⟩, List.mem_of_getElem? (i := 671) (by decide +kernel), List.mem_of_getElem? (i := 907) (by decide +kernel), List.mem_of_getElem? (i := 908) (by decide +kernel)⟩
theorem lw_p36 : lw_okq (⟨"TestFinderModel", "waysOf", "(I)I"⟩, 60) := ⟨⟨by decide +kernel, by decide +kernel⟩, List.mem_of_getElem? (i := 671) (by decide +kernel), List.mem_of_getElem? (i := 911) (by decide +kernel), List.mem_of_getElem? (i := 912) (by decide +kernel)⟩
theorem lw_p37 : lw_okq (⟨"TestFinderModel", "tagLine", "()Z"⟩, 60) := ⟨⟨by decide +kernel, by decide +kernel⟩, List.mem_of_getElem? (i := 671) (by decide +kernel), List.mem_of_getElem? (i := 916) (by decide +kernel), List.mem_of_getElem? (i := 917) (by decide +kernel)⟩
theorem lw_p38 : lw_okq (⟨"TestFinderModel", "tagWord", "(I)Z"⟩, 60) := ⟨⟨by decide +kernel, by decide +kernel⟩, List.mem_of_getElem? (i := 671) (by decide +kernel), List.mem_of_getElem? (i := 920) (by decide +kernel), List.mem_of_getElem? (i := 921) (by decide +kernel)⟩
theorem lw_p39 : lw_okq (⟨"TestFinderModel", "suiteHas", "(II)Z"⟩, 60) := ⟨⟨by decide +kernel, by decide +kernel⟩, List.mem_of_getElem? (i := 671) (by decide +kernel), List.mem_of_getElem? (i := 924) (by decide +kernel), List.mem_of_getElem? (i := 925) (by decide +kernel)⟩
theorem lw_p40 : lw_okq (⟨"TestFinderModel", "caseHas", "(II)Z"⟩, 60) := ⟨⟨by decide +kernel, by decide +kernel⟩, List.mem_of_getElem? (i := 671) (by decide +kernel), List.mem_of_getElem? (i := 928) (by decide +kernel), List.mem_of_getElem? (i := 929) (by decide +kernel)⟩
theorem lw_p41 : lw_okq (⟨"TestFinderModel", "tagsOf", "(I)I"⟩, 60) := ⟨⟨by decide +kernel, by decide +kernel⟩, List.mem_of_getElem? (i := 671) (by decide +kernel), List.mem_of_getElem? (i := 932) (by decide +kernel), List.mem_of_getElem? (i := 933) (by decide +kernel)⟩
theorem lw_p42 : lw_okq (⟨"TestFinderModel", "withLine", "()Z"⟩, 60) := ⟨⟨by decide +kernel, by decide +kernel⟩, List.mem_of_getElem? (i := 671) (by decide +kernel), List.mem_of_getElem? (i := 937) (by decide +kernel), List.mem_of_getElem? (i := 938) (by decide +kernel)⟩
theorem lw_p43 : lw_okq (⟨"TestFinderModel", "sizeLine", "()Z"⟩, 60) := ⟨⟨by decide +kernel, by decide +kernel⟩, List.mem_of_getElem? (i := 671) (by decide +kernel), List.mem_of_getElem? (i := 942) (by decide +kernel), List.mem_of_getElem? (i := 943) (by decide +kernel)⟩
theorem lw_p44 : lw_okq (⟨"TestFinderModel", "skipLine", "()Z"⟩, 60) := ⟨⟨by decide +kernel, by decide +kernel⟩, List.mem_of_getElem? (i := 671) (by decide +kernel), List.mem_of_getElem? (i := 947) (by decide +kernel), List.mem_of_getElem? (i := 948) (by decide +kernel)⟩
theorem lw_p45 : lw_okq (⟨"TestFinderModel", "failsLine", "()Z"⟩, 60) := ⟨⟨by decide +kernel, by decide +kernel⟩, List.mem_of_getElem? (i := 671) (by decide +kernel), List.mem_of_getElem? (i := 952) (by decide +kernel), List.mem_of_getElem? (i := 953) (by decide +kernel)⟩
theorem lw_p46 : lw_okq (⟨"TestFinderModel", "isTest", "(I)Z"⟩, 60) := ⟨⟨by decide +kernel, by decide +kernel⟩, List.mem_of_getElem? (i := 671) (by decide +kernel), List.mem_of_getElem? (i := 964) (by decide +kernel), List.mem_of_getElem? (i := 965) (by decide +kernel)⟩
theorem lw_p47 : lw_okq (⟨"TestFinderModel", "sizeOf", "(I)I"⟩, 60) := ⟨⟨by decide +kernel, by decide +kernel⟩, List.mem_of_getElem? (i := 671) (by decide +kernel), List.mem_of_getElem? (i := 968) (by decide +kernel), List.mem_of_getElem? (i := 969) (by decide +kernel)⟩
def lw_privs_3 : List (MethodName × Nat) := [(⟨"TestFinderModel", "isRight", "(IZ)Z"⟩, 60), (⟨"TestFinderModel", "isSame", "(III)Z"⟩, 60), (⟨"TestFinderModel", "caseLine", "(I)Z"⟩, 60), (⟨"TestFinderModel", "testMany", "()I"⟩, 60), (⟨"TestFinderModel", "waysOf", "(I)I"⟩, 60), (⟨"TestFinderModel", "tagLine", "()Z"⟩, 60), (⟨"TestFinderModel", "tagWord", "(I)Z"⟩, 60), (⟨"TestFinderModel", "suiteHas", "(II)Z"⟩, 60), (⟨"TestFinderModel", "caseHas", "(II)Z"⟩, 60), (⟨"TestFinderModel", "tagsOf", "(I)I"⟩, 60), (⟨"TestFinderModel", "withLine", "()Z"⟩, 60), (⟨"TestFinderModel", "sizeLine", "()Z"⟩, 60), (⟨"TestFinderModel", "skipLine", "()Z"⟩, 60), (⟨"TestFinderModel", "failsLine", "()Z"⟩, 60), (⟨"TestFinderModel", "isTest", "(I)Z"⟩, 60), (⟨"TestFinderModel", "sizeOf", "(I)I"⟩, 60)]
theorem lw_r3 : ∀ q ∈ lw_privs_3, lw_okq q := List.forall_mem_cons.mpr ⟨lw_p32, List.forall_mem_cons.mpr ⟨lw_p33, List.forall_mem_cons.mpr ⟨lw_p34, List.forall_mem_cons.mpr ⟨lw_p35, List.forall_mem_cons.mpr ⟨lw_p36, List.forall_mem_cons.mpr ⟨lw_p37, List.forall_mem_cons.mpr ⟨lw_p38, List.forall_mem_cons.mpr ⟨lw_p39, List.forall_mem_cons.mpr ⟨lw_p40, List.forall_mem_cons.mpr ⟨lw_p41, List.forall_mem_cons.mpr ⟨lw_p42, List.forall_mem_cons.mpr ⟨lw_p43, List.forall_mem_cons.mpr ⟨lw_p44, List.forall_mem_cons.mpr ⟨lw_p45, List.forall_mem_cons.mpr ⟨lw_p46, List.forall_mem_cons.mpr ⟨lw_p47, fun _ h => absurd h List.not_mem_nil⟩⟩⟩⟩⟩⟩⟩⟩⟩⟩⟩⟩⟩⟩⟩⟩
theorem lw_p48 : lw_okq (⟨"TestFinderModel", "isSkipped", "(I)Z"⟩, 60) := ⟨⟨by decide +kernel, by decide +kernel⟩, List.mem_of_getElem? (i := 671) (by decide +kernel), List.mem_of_getElem? (i := 972) (by decide +kernel), List.mem_of_getElem? (i := 973) (by decide +kernel)⟩
theorem lw_p49 : lw_okq (⟨"TestFinderModel", "writeName", "(I)V"⟩, 60) := ⟨⟨by decide +kernel, by decide +kernel⟩, List.mem_of_getElem? (i := 671) (by decide +kernel), List.mem_of_getElem? (i := 976) (by decide +kernel), List.mem_of_getElem? (i := 977) (by decide +kernel)⟩
theorem lw_p50 : lw_okq (⟨"TestFinderModel", "putAll", "(II)V"⟩, 60) := ⟨⟨by decide +kernel, by decide +kernel⟩, List.mem_of_getElem? (i := 671) (by decide +kernel), List.mem_of_getElem? (i := 980) (by decide +kernel), List.mem_of_getElem? (i := 981) (by decide +kernel)⟩
theorem lw_p51 : lw_okq (⟨"TestFinderModel", "put", "(I)V"⟩, 60) := ⟨⟨by decide +kernel, by decide +kernel⟩, List.mem_of_getElem? (i := 671) (by decide +kernel), List.mem_of_getElem? (i := 984) (by decide +kernel), List.mem_of_getElem? (i := 985) (by decide +kernel)⟩
theorem lw_p52 : lw_okq (⟨"TestFinderModel", "valueOf", "(II)I"⟩, 60) := ⟨⟨by decide +kernel, by decide +kernel⟩, List.mem_of_getElem? (i := 671) (by decide +kernel), List.mem_of_getElem? (i := 988) (by decide +kernel), List.mem_of_getElem? (i := 989) (by decide +kernel)⟩
theorem lw_p53 : lw_okq (⟨"TestFinderModel", "readFilter", "()V"⟩, 60) := ⟨⟨by decide +kernel, by decide +kernel⟩, List.mem_of_getElem? (i := 671) (by decide +kernel), List.mem_of_getElem? (i := 1008) (by decide +kernel), List.mem_of_getElem? (i := 1009) (by decide +kernel)⟩
theorem lw_p54 : lw_okq (⟨"TestFinderModel", "term", "()Z"⟩, 60) := ⟨⟨by decide +kernel, by decide +kernel⟩, List.mem_of_getElem? (i := 671) (by decide +kernel), List.mem_of_getElem? (i := 1012) (by decide +kernel), List.mem_of_getElem? (i := 1013) (by decide +kernel)⟩
theorem lw_p55 : lw_okq (⟨"TestFinderModel", "blanks", "()V"⟩, 60) := ⟨⟨by decide +kernel, by decide +kernel⟩, List.mem_of_getElem? (i := 671) (by decide +kernel), List.mem_of_getElem? (i := 1016) (by decide +kernel), List.mem_of_getElem? (i := 1017) (by decide +kernel)⟩
theorem lw_p56 : lw_okq (⟨"TestFinderModel", "look", "()I"⟩, 60) := ⟨⟨by decide +kernel, by decide +kernel⟩, List.mem_of_getElem? (i := 671) (by decide +kernel), List.mem_of_getElem? (i := 1020) (by decide +kernel), List.mem_of_getElem? (i := 1021) (by decide +kernel)⟩
theorem lw_p57 : lw_okq (⟨"TestFinderModel", "opens", "(I)V"⟩, 60) := ⟨⟨by decide +kernel, by decide +kernel⟩, List.mem_of_getElem? (i := 671) (by decide +kernel), List.mem_of_getElem? (i := 1024) (by decide +kernel), List.mem_of_getElem? (i := 1025) (by decide +kernel)⟩
theorem lw_p58 : lw_okq (⟨"TestFinderModel", "fail", "()V"⟩, 60) := ⟨⟨by decide +kernel, by decide +kernel⟩, List.mem_of_getElem? (i := 671) (by decide +kernel), List.mem_of_getElem? (i := 1028) (by decide +kernel), List.mem_of_getElem? (i := 1029) (by decide +kernel)⟩
theorem lw_p59 : lw_okq (⟨"TestFinderModel", "tagOrValue", "()V"⟩, 60) := ⟨⟨by decide +kernel, by decide +kernel⟩, List.mem_of_getElem? (i := 671) (by decide +kernel), List.mem_of_getElem? (i := 1032) (by decide +kernel), List.mem_of_getElem? (i := 1033) (by decide +kernel)⟩
theorem lw_p60 : lw_okq (⟨"TestFinderModel", "word", "(Z)I"⟩, 60) := ⟨⟨by decide +kernel, by decide +kernel⟩, List.mem_of_getElem? (i := 671) (by decide +kernel), List.mem_of_getElem? (i := 1036) (by decide +kernel), List.mem_of_getElem? (i := 1037) (by decide +kernel)⟩
theorem lw_p61 : lw_okq (⟨"TestFinderModel", "emit", "(I)V"⟩, 60) := ⟨⟨by decide +kernel, by decide +kernel⟩, List.mem_of_getElem? (i := 671) (by decide +kernel), List.mem_of_getElem? (i := 1040) (by decide +kernel), List.mem_of_getElem? (i := 1041) (by decide +kernel)⟩
theorem lw_p62 : lw_okq (⟨"TestFinderModel", "nameBehind", "(I)V"⟩, 60) := ⟨⟨by decide +kernel, by decide +kernel⟩, List.mem_of_getElem? (i := 671) (by decide +kernel), List.mem_of_getElem? (i := 1044) (by decide +kernel), List.mem_of_getElem? (i := 1045) (by decide +kernel)⟩
theorem lw_p63 : lw_okq (⟨"TestFinderModel", "less", "()V"⟩, 60) := ⟨⟨by decide +kernel, by decide +kernel⟩, List.mem_of_getElem? (i := 671) (by decide +kernel), List.mem_of_getElem? (i := 1048) (by decide +kernel), List.mem_of_getElem? (i := 1049) (by decide +kernel)⟩
def lw_privs_4 : List (MethodName × Nat) := [(⟨"TestFinderModel", "isSkipped", "(I)Z"⟩, 60), (⟨"TestFinderModel", "writeName", "(I)V"⟩, 60), (⟨"TestFinderModel", "putAll", "(II)V"⟩, 60), (⟨"TestFinderModel", "put", "(I)V"⟩, 60), (⟨"TestFinderModel", "valueOf", "(II)I"⟩, 60), (⟨"TestFinderModel", "readFilter", "()V"⟩, 60), (⟨"TestFinderModel", "term", "()Z"⟩, 60), (⟨"TestFinderModel", "blanks", "()V"⟩, 60), (⟨"TestFinderModel", "look", "()I"⟩, 60), (⟨"TestFinderModel", "opens", "(I)V"⟩, 60), (⟨"TestFinderModel", "fail", "()V"⟩, 60), (⟨"TestFinderModel", "tagOrValue", "()V"⟩, 60), (⟨"TestFinderModel", "word", "(Z)I"⟩, 60), (⟨"TestFinderModel", "emit", "(I)V"⟩, 60), (⟨"TestFinderModel", "nameBehind", "(I)V"⟩, 60), (⟨"TestFinderModel", "less", "()V"⟩, 60)]
theorem lw_r4 : ∀ q ∈ lw_privs_4, lw_okq q := List.forall_mem_cons.mpr ⟨lw_p48, List.forall_mem_cons.mpr ⟨lw_p49, List.forall_mem_cons.mpr ⟨lw_p50, List.forall_mem_cons.mpr ⟨lw_p51, List.forall_mem_cons.mpr ⟨lw_p52, List.forall_mem_cons.mpr ⟨lw_p53, List.forall_mem_cons.mpr ⟨lw_p54, List.forall_mem_cons.mpr ⟨lw_p55, List.forall_mem_cons.mpr ⟨lw_p56, List.forall_mem_cons.mpr ⟨lw_p57, List.forall_mem_cons.mpr ⟨lw_p58, List.forall_mem_cons.mpr ⟨lw_p59, List.forall_mem_cons.mpr ⟨lw_p60, List.forall_mem_cons.mpr ⟨lw_p61, List.forall_mem_cons.mpr ⟨lw_p62, List.forall_mem_cons.mpr ⟨lw_p63, fun _ h => absurd h List.not_mem_nil⟩⟩⟩⟩⟩⟩⟩⟩⟩⟩⟩⟩⟩⟩⟩⟩
theorem lw_p64 : lw_okq (⟨"TestFinderModel", "turnRound", "()V"⟩, 60) := ⟨⟨by decide +kernel, by decide +kernel⟩, List.mem_of_getElem? (i := 671) (by decide +kernel), List.mem_of_getElem? (i := 1052) (by decide +kernel), List.mem_of_getElem? (i := 1053) (by decide +kernel)⟩
theorem lw_p65 : lw_okq (⟨"TestFinderModel", "top", "()I"⟩, 60) := ⟨⟨by decide +kernel, by decide +kernel⟩, List.mem_of_getElem? (i := 671) (by decide +kernel), List.mem_of_getElem? (i := 1056) (by decide +kernel), List.mem_of_getElem? (i := 1057) (by decide +kernel)⟩
theorem lw_p66 : lw_okq (⟨"TestFinderModel", "drop", "()V"⟩, 60) := ⟨⟨by decide +kernel, by decide +kernel⟩, List.mem_of_getElem? (i := 671) (by decide +kernel), List.mem_of_getElem? (i := 1060) (by decide +kernel), List.mem_of_getElem? (i := 1061) (by decide +kernel)⟩
theorem lw_p67 : lw_okq (⟨"TestFinderModel", "sign", "()I"⟩, 60) := ⟨⟨by decide +kernel, by decide +kernel⟩, List.mem_of_getElem? (i := 671) (by decide +kernel), List.mem_of_getElem? (i := 1064) (by decide +kernel), List.mem_of_getElem? (i := 1065) (by decide +kernel)⟩
theorem lw_p68 : lw_okq (⟨"TestFinderModel", "isThrough", "(I)Z"⟩, 60) := ⟨⟨by decide +kernel, by decide +kernel⟩, List.mem_of_getElem? (i := 671) (by decide +kernel), List.mem_of_getElem? (i := 1072) (by decide +kernel), List.mem_of_getElem? (i := 1073) (by decide +kernel)⟩
theorem lw_p69 : lw_okq (⟨"TestFinderModel", "holds", "(II)Z"⟩, 60) := ⟨⟨by decide +kernel, by decide +kernel⟩, List.mem_of_getElem? (i := 671) (by decide +kernel), List.mem_of_getElem? (i := 1076) (by decide +kernel), List.mem_of_getElem? (i := 1077) (by decide +kernel)⟩
theorem lw_p70 : lw_okq (⟨"TestFinderModel", "hasTag", "(II)Z"⟩, 60) := ⟨⟨by decide +kernel, by decide +kernel⟩, List.mem_of_getElem? (i := 671) (by decide +kernel), List.mem_of_getElem? (i := 1080) (by decide +kernel), List.mem_of_getElem? (i := 1081) (by decide +kernel)⟩
theorem lw_p71 : lw_okq (⟨"TestFinderModel", "isWord", "(IIII)Z"⟩, 60) := ⟨⟨by decide +kernel, by decide +kernel⟩, List.mem_of_getElem? (i := 671) (by decide +kernel), List.mem_of_getElem? (i := 1084) (by decide +kernel), List.mem_of_getElem? (i := 1085) (by decide +kernel)⟩
theorem lw_p72 : lw_okq (⟨"TestFinderModel", "hasValue", "(II)Z"⟩, 60) := ⟨⟨by decide +kernel, by decide +kernel⟩, List.mem_of_getElem? (i := 671) (by decide +kernel), List.mem_of_getElem? (i := 1088) (by decide +kernel), List.mem_of_getElem? (i := 1089) (by decide +kernel)⟩
def lw_privs_5 : List (MethodName × Nat) := [(⟨"TestFinderModel", "turnRound", "()V"⟩, 60), (⟨"TestFinderModel", "top", "()I"⟩, 60), (⟨"TestFinderModel", "drop", "()V"⟩, 60), (⟨"TestFinderModel", "sign", "()I"⟩, 60), (⟨"TestFinderModel", "isThrough", "(I)Z"⟩, 60), (⟨"TestFinderModel", "holds", "(II)Z"⟩, 60), (⟨"TestFinderModel", "hasTag", "(II)Z"⟩, 60), (⟨"TestFinderModel", "isWord", "(IIII)Z"⟩, 60), (⟨"TestFinderModel", "hasValue", "(II)Z"⟩, 60)]
theorem lw_r5 : ∀ q ∈ lw_privs_5, lw_okq q := List.forall_mem_cons.mpr ⟨lw_p64, List.forall_mem_cons.mpr ⟨lw_p65, List.forall_mem_cons.mpr ⟨lw_p66, List.forall_mem_cons.mpr ⟨lw_p67, List.forall_mem_cons.mpr ⟨lw_p68, List.forall_mem_cons.mpr ⟨lw_p69, List.forall_mem_cons.mpr ⟨lw_p70, List.forall_mem_cons.mpr ⟨lw_p71, List.forall_mem_cons.mpr ⟨lw_p72, fun _ h => absurd h List.not_mem_nil⟩⟩⟩⟩⟩⟩⟩⟩⟩
def lw_privs : List (MethodName × Nat) := lw_privs_1 ++ (lw_privs_2 ++ (lw_privs_3 ++ (lw_privs_4 ++ (lw_privs_5))))
def lw_tbl : List Cond := k2_sels lw_privs ++ tables_1
theorem lw_privs_ok : ∀ q ∈ lw_privs, lw_okq q := by
  show ∀ q ∈ lw_privs_1 ++ (lw_privs_2 ++ (lw_privs_3 ++ (lw_privs_4 ++ (lw_privs_5)))), lw_okq q
  exact List.forall_mem_append.mpr ⟨lw_r1, List.forall_mem_append.mpr ⟨lw_r2, List.forall_mem_append.mpr ⟨lw_r3, List.forall_mem_append.mpr ⟨lw_r4, lw_r5⟩⟩⟩⟩
end
section
/-! TABLES of the classes and methods, by program (wip/whole/gen/gen01.py) out of the claim's listing and words -/
abbrev am_C : Type := List (Nat × Instr × Nat × Nat)
/-- a method: its name, code, locals, answer, how many values it takes (its object among them), its class's number, its instructions with what their links name -/
abbrev am_M : Type := MethodName × ByteArray × Nat × Option FieldType × Nat × Nat × am_C
def am_ws : List Cond := lw_tbl.filter goodWord
def cl_T0 : u_T := fun k => match k with
  | 0 => ("TestFinder", "tape", "LTestFinder$Tape;", true)
  | 1 => ("TestFinder", "tests", "LTestFinder$Script;", true)
  | 2 => ("TestFinder", "scriptReader", "LTestFinder$ScriptReader;", true)
  | 3 => ("TestFinder", "filterReader", "LTestFinder$FilterReader;", true)
  | 4 => ("TestFinder", "testName", "LTestFinder$TestName;", true)
  | _ => ("TestFinder", "inForce", "LTestFinder$Filter;", false)
def cl_t0 : Nat → FieldType := fun k => match k with
  | 0 => .object "TestFinder$Tape"
  | 1 => .object "TestFinder$Script"
  | 2 => .object "TestFinder$ScriptReader"
  | 3 => .object "TestFinder$FilterReader"
  | 4 => .object "TestFinder$TestName"
  | _ => .object "TestFinder$Filter"
def cl_T1 : u_T := fun k => match k with
  | 0 => ("TestFinder$Tape", "cells", "[C", true)
  | _ => ("TestFinder$Tape", "size", "I", false)
def cl_t1 : Nat → FieldType := fun k => match k with
  | 0 => .array (.char)
  | _ => .int
def cl_T2 : u_T := fun k => match k with
  | 0 => ("TestFinder$Script", "text", "[C", true)
  | 1 => ("TestFinder$Script", "length", "I", false)
  | 2 => ("TestFinder$Script", "suites", "LTestFinder$NameRow;", true)
  | 3 => ("TestFinder$Script", "cases", "[LTestFinder$Case;", true)
  | 4 => ("TestFinder$Script", "caseCount", "I", false)
  | 5 => ("TestFinder$Script", "caseNumbers", "[I", true)
  | _ => ("TestFinder$Script", "testCount", "I", false)
def cl_t2 : Nat → FieldType := fun k => match k with
  | 0 => .array (.char)
  | 1 => .int
  | 2 => .object "TestFinder$NameRow"
  | 3 => .array (.object "TestFinder$Case")
  | 4 => .int
  | 5 => .array (.int)
  | _ => .int
def cl_T3 : u_T := fun k => match k with
  | 0 => ("TestFinder$NameRow", "codes", "[J", true)
  | _ => ("TestFinder$NameRow", "size", "I", false)
def cl_t3 : Nat → FieldType := fun k => match k with
  | 0 => .array (.long)
  | _ => .int
def cl_T4 : u_T := fun k => match k with
  | 0 => ("TestFinder$Case", "name", "J", false)
  | 1 => ("TestFinder$Case", "suiteName", "J", false)
  | 2 => ("TestFinder$Case", "suite", "I", false)
  | 3 => ("TestFinder$Case", "line", "I", false)
  | 4 => ("TestFinder$Case", "size", "I", false)
  | 5 => ("TestFinder$Case", "skipped", "Z", false)
  | 6 => ("TestFinder$Case", "fails", "Z", false)
  | 7 => ("TestFinder$Case", "reasonStart", "I", false)
  | 8 => ("TestFinder$Case", "reasonEnd", "I", false)
  | 9 => ("TestFinder$Case", "firstTest", "I", false)
  | 10 => ("TestFinder$Case", "testCount", "I", false)
  | 11 => ("TestFinder$Case", "sized", "Z", false)
  | 12 => ("TestFinder$Case", "tags", "LTestFinder$NameRow;", true)
  | 13 => ("TestFinder$Case", "parameters", "LTestFinder$NameRow;", true)
  | _ => ("TestFinder$Case", "values", "[LTestFinder$NameRow;", true)
def cl_t4 : Nat → FieldType := fun k => match k with
  | 0 => .long
  | 1 => .long
  | 2 => .int
  | 3 => .int
  | 4 => .int
  | 5 => .boolean
  | 6 => .boolean
  | 7 => .int
  | 8 => .int
  | 9 => .int
  | 10 => .int
  | 11 => .boolean
  | 12 => .object "TestFinder$NameRow"
  | 13 => .object "TestFinder$NameRow"
  | _ => .array (.object "TestFinder$NameRow")
def cl_T5 : u_T := fun k => match k with
  | 0 => ("TestFinder$ScriptReader", "script", "LTestFinder$Script;", true)
  | 1 => ("TestFinder$ScriptReader", "words", "LTestFinder$Words;", true)
  | 2 => ("TestFinder$ScriptReader", "suiteTags", "LTestFinder$NameRow;", true)
  | _ => ("TestFinder$ScriptReader", "caseOpen", "Z", false)
def cl_t5 : Nat → FieldType := fun k => match k with
  | 0 => .object "TestFinder$Script"
  | 1 => .object "TestFinder$Words"
  | 2 => .object "TestFinder$NameRow"
  | _ => .boolean
def cl_T6 : u_T := fun k => match k with
  | 0 => ("TestFinder$Words", "starts", "[I", true)
  | 1 => ("TestFinder$Words", "ends", "[I", true)
  | 2 => ("TestFinder$Words", "count", "I", false)
  | _ => ("TestFinder$Words", "text", "[C", true)
def cl_t6 : Nat → FieldType := fun k => match k with
  | 0 => .array (.int)
  | 1 => .array (.int)
  | 2 => .int
  | _ => .array (.char)
def cl_T7 : u_T := fun k => match k with
  | 0 => ("TestFinder$FilterReader", "tape", "LTestFinder$Tape;", true)
  | 1 => ("TestFinder$FilterReader", "text", "[C", true)
  | 2 => ("TestFinder$FilterReader", "length", "I", false)
  | 3 => ("TestFinder$FilterReader", "place", "I", false)
  | _ => ("TestFinder$FilterReader", "steps", "LTestFinder$Filter;", false)
def cl_t7 : Nat → FieldType := fun k => match k with
  | 0 => .object "TestFinder$Tape"
  | 1 => .array (.char)
  | 2 => .int
  | 3 => .int
  | _ => .object "TestFinder$Filter"
def cl_T8 : u_T := fun k => match k with
  | 0 => ("TestFinder$Filter", "kinds", "[C", true)
  | 1 => ("TestFinder$Filter", "names", "[J", true)
  | 2 => ("TestFinder$Filter", "values", "[J", true)
  | 3 => ("TestFinder$Filter", "answers", "[Z", true)
  | _ => ("TestFinder$Filter", "size", "I", false)
def cl_t8 : Nat → FieldType := fun k => match k with
  | 0 => .array (.char)
  | 1 => .array (.long)
  | 2 => .array (.long)
  | 3 => .array (.boolean)
  | _ => .int
def cl_T9 : u_T := fun k => match k with
  | 0 => ("TestFinder$TestName", "cells", "[C", true)
  | _ => ("TestFinder$TestName", "size", "I", false)
def cl_t9 : Nat → FieldType := fun k => match k with
  | 0 => .array (.char)
  | _ => .int
def cl_T10 : u_T := fun k => match k with
  | 0 => ("TestFinderModel", "thrown", "I", false)
  | 1 => ("TestFinderModel", "taped", "I", false)
  | 2 => ("TestFinderModel", "tape", "[I", true)
  | 3 => ("TestFinderModel", "size", "I", false)
  | 4 => ("TestFinderModel", "script0", "[I", true)
  | 5 => ("TestFinderModel", "words", "I", false)
  | 6 => ("TestFinderModel", "wordAt", "[I", true)
  | 7 => ("TestFinderModel", "wordEnd", "[I", true)
  | 8 => ("TestFinderModel", "suites", "I", false)
  | 9 => ("TestFinderModel", "suiteAt", "[I", true)
  | 10 => ("TestFinderModel", "suiteEnd", "[I", true)
  | 11 => ("TestFinderModel", "suiteTags", "[I", true)
  | 12 => ("TestFinderModel", "suiteTagAt", "[I", true)
  | 13 => ("TestFinderModel", "suiteTagEnd", "[I", true)
  | 14 => ("TestFinderModel", "cases", "I", false)
  | 15 => ("TestFinderModel", "caseSuite", "[I", true)
  | 16 => ("TestFinderModel", "caseAt", "[I", true)
  | 17 => ("TestFinderModel", "caseEnd", "[I", true)
  | 18 => ("TestFinderModel", "caseLine", "[I", true)
  | 19 => ("TestFinderModel", "caseSize", "[I", true)
  | 20 => ("TestFinderModel", "reasonAt", "[I", true)
  | 21 => ("TestFinderModel", "reasonEnd", "[I", true)
  | 22 => ("TestFinderModel", "fails", "[Z", true)
  | 23 => ("TestFinderModel", "caseTags", "[I", true)
  | 24 => ("TestFinderModel", "caseTagAt", "[I", true)
  | 25 => ("TestFinderModel", "caseTagEnd", "[I", true)
  | 26 => ("TestFinderModel", "caseParameters", "[I", true)
  | 27 => ("TestFinderModel", "parameterAt", "[I", true)
  | 28 => ("TestFinderModel", "parameterEnd", "[I", true)
  | 29 => ("TestFinderModel", "values", "[I", true)
  | 30 => ("TestFinderModel", "valueAt", "[I", true)
  | 31 => ("TestFinderModel", "valueEnd", "[I", true)
  | 32 => ("TestFinderModel", "inCase", "Z", false)
  | 33 => ("TestFinderModel", "tests", "I", false)
  | 34 => ("TestFinderModel", "testCase", "[I", true)
  | 35 => ("TestFinderModel", "testWay", "[I", true)
  | 36 => ("TestFinderModel", "named", "I", false)
  | 37 => ("TestFinderModel", "name", "[I", true)
  | 38 => ("TestFinderModel", "hasFilter", "Z", false)
  | 39 => ("TestFinderModel", "sieve", "[I", true)
  | 40 => ("TestFinderModel", "codes", "I", false)
  | 41 => ("TestFinderModel", "code", "[I", true)
  | 42 => ("TestFinderModel", "nameFrom", "[I", true)
  | 43 => ("TestFinderModel", "nameTo", "[I", true)
  | 44 => ("TestFinderModel", "valueFrom", "[I", true)
  | 45 => ("TestFinderModel", "valueTo", "[I", true)
  | 46 => ("TestFinderModel", "length", "I", false)
  | 47 => ("TestFinderModel", "made", "I", false)
  | 48 => ("TestFinderModel", "read", "[I", true)
  | 49 => ("TestFinderModel", "madeCode", "[I", true)
  | 50 => ("TestFinderModel", "madeNameFrom", "[I", true)
  | 51 => ("TestFinderModel", "madeNameTo", "[I", true)
  | 52 => ("TestFinderModel", "madeValueFrom", "[I", true)
  | 53 => ("TestFinderModel", "madeValueTo", "[I", true)
  | 54 => ("TestFinderModel", "at", "I", false)
  | 55 => ("TestFinderModel", "ill", "I", false)
  | 56 => ("TestFinderModel", "open", "I", false)
  | 57 => ("TestFinderModel", "piled", "I", false)
  | 58 => ("TestFinderModel", "pile", "[I", true)
  | _ => ("TestFinderModel", "stack", "[Z", true)
def cl_t10 : Nat → FieldType := fun k => match k with
  | 0 => .int
  | 1 => .int
  | 2 => .array (.int)
  | 3 => .int
  | 4 => .array (.int)
  | 5 => .int
  | 6 => .array (.int)
  | 7 => .array (.int)
  | 8 => .int
  | 9 => .array (.int)
  | 10 => .array (.int)
  | 11 => .array (.int)
  | 12 => .array (.int)
  | 13 => .array (.int)
  | 14 => .int
  | 15 => .array (.int)
  | 16 => .array (.int)
  | 17 => .array (.int)
  | 18 => .array (.int)
  | 19 => .array (.int)
  | 20 => .array (.int)
  | 21 => .array (.int)
  | 22 => .array (.boolean)
  | 23 => .array (.int)
  | 24 => .array (.int)
  | 25 => .array (.int)
  | 26 => .array (.int)
  | 27 => .array (.int)
  | 28 => .array (.int)
  | 29 => .array (.int)
  | 30 => .array (.int)
  | 31 => .array (.int)
  | 32 => .boolean
  | 33 => .int
  | 34 => .array (.int)
  | 35 => .array (.int)
  | 36 => .int
  | 37 => .array (.int)
  | 38 => .boolean
  | 39 => .array (.int)
  | 40 => .int
  | 41 => .array (.int)
  | 42 => .array (.int)
  | 43 => .array (.int)
  | 44 => .array (.int)
  | 45 => .array (.int)
  | 46 => .int
  | 47 => .int
  | 48 => .array (.int)
  | 49 => .array (.int)
  | 50 => .array (.int)
  | 51 => .array (.int)
  | 52 => .array (.int)
  | 53 => .array (.int)
  | 54 => .int
  | 55 => .int
  | 56 => .int
  | 57 => .int
  | 58 => .array (.int)
  | _ => .array (.boolean)
def vwCl : List vw_C := [("TestFinder", cl_T0, 6), ("TestFinder$Tape", cl_T1, 2), ("TestFinder$Script", cl_T2, 7), ("TestFinder$NameRow", cl_T3, 2), ("TestFinder$Case", cl_T4, 15), ("TestFinder$ScriptReader", cl_T5, 4), ("TestFinder$Words", cl_T6, 4), ("TestFinder$FilterReader", cl_T7, 5), ("TestFinder$Filter", cl_T8, 5), ("TestFinder$TestName", cl_T9, 2), ("TestFinderModel", cl_T10, 60)]
def cl_tS : Nat → FieldType := fun k => match k with
  | 0 => .array .byte
  | _ => .byte
def at_ty (ci : Nat) : Nat → FieldType := match ci with
  | 0 => cl_t0
  | 1 => cl_t1
  | 2 => cl_t2
  | 3 => cl_t3
  | 4 => cl_t4
  | 5 => cl_t5
  | 6 => cl_t6
  | 7 => cl_t7
  | 8 => cl_t8
  | 9 => cl_t9
  | 10 => cl_t10
  | _ => cl_tS
/-- the string constants: class, entry, text, the cell that stands for it (its bytes: seven cells on) -/
def at_str : List (String × Nat × String × Nat) := [("TestFinder$ScriptReader", 76, "suite", 1), ("TestFinder$ScriptReader", 85, "case", 2), ("TestFinder$ScriptReader", 90, "tag", 3), ("TestFinder$ScriptReader", 102, "with", 4), ("TestFinder$ScriptReader", 108, "size", 5), ("TestFinder$ScriptReader", 113, "skip", 6), ("TestFinder$ScriptReader", 117, "fails", 7)]
def cd_0 : am_C := [(0, .new 7, 0, 6), (3, .dup, 0, 0), (4, .invokespecial 9, 1, 0), (7, .astore_n 1, 0, 0), (8, .new 10, 10, 60), (11, .dup, 0, 0), (12, .invokespecial 12, 13, 0), (15, .astore_n 2, 0, 0), (16, .iconst 0, 0, 0), (17, .istore_n 3, 0, 0), (18, .iload_n 3, 0, 0), (19, .aload_n 0, 0, 0), (20, .arraylength, 0, 0), (21, .iconst 3, 0, 0), (22, .isub, 0, 0), (23, .if_icmp .gt (374), 0, 0), (26, .aload_n 0, 0, 0), (27, .iload_n 3, 0, 0), (28, .iaload, 0, 0), (29, .bipush (15), 0, 0), (31, .iand, 0, 0), (32, .tableswitch (359) (0) (10) #[60, 113, 126, 149, 182, 215, 248, 261, 274, 297, 310], 60, 0), (92, .aload_n 1, 0, 0), (93, .aload_n 0, 0, 0), (94, .iload_n 3, 0, 0), (95, .iconst 1, 0, 0), (96, .iadd, 0, 0), (97, .iaload, 0, 0), (98, .i2l, 0, 0), (99, .bipush (32), 0, 0), (101, .lshl, 0, 0), (102, .aload_n 0, 0, 0), (103, .iload_n 3, 0, 0), (104, .iconst 2, 0, 0), (105, .iadd, 0, 0), (106, .iaload, 0, 0), (107, .i2l, 0, 0), (108, .ldc2_w 13, 4294967295, 0), (111, .land, 0, 0), (112, .lor, 0, 0), (113, .invokevirtual 15, 2, 0), (116, .aload_n 2, 0, 0), (117, .aload_n 0, 0, 0), (118, .iload_n 3, 0, 0), (119, .iconst 1, 0, 0), (120, .iadd, 0, 0), (121, .iaload, 0, 0), (122, .i2l, 0, 0), (123, .bipush (32), 0, 0), (125, .lshl, 0, 0), (126, .aload_n 0, 0, 0), (127, .iload_n 3, 0, 0), (128, .iconst 2, 0, 0), (129, .iadd, 0, 0), (130, .iaload, 0, 0), (131, .i2l, 0, 0), (132, .ldc2_w 13, 4294967295, 0), (135, .land, 0, 0), (136, .lor, 0, 0), (137, .invokevirtual 19, 14, 0), (140, .if_icmp .eq (251), 0, 0), (143, .iconst 0, 0, 0), (144, .ireturn, 0, 0), (145, .aload_n 1, 0, 0), (146, .invokevirtual 20, 3, 0), (149, .aload_n 2, 0, 0), (150, .invokevirtual 24, 36, 0), (153, .if_icmp .eq (238), 0, 0), (156, .iconst 0, 0, 0), (157, .ireturn, 0, 0), (158, .aload_n 1, 0, 0), (159, .aload_n 0, 0, 0), (160, .iload_n 3, 0, 0), (161, .iconst 1, 0, 0), (162, .iadd, 0, 0), (163, .iaload, 0, 0), (164, .invokevirtual 25, 4, 0), (167, .aload_n 2, 0, 0), (168, .aload_n 0, 0, 0), (169, .iload_n 3, 0, 0), (170, .iconst 1, 0, 0), (171, .iadd, 0, 0), (172, .iaload, 0, 0), (173, .invokevirtual 29, 42, 0), (176, .if_icmp .eq (215), 0, 0), (179, .iconst 0, 0, 0), (180, .ireturn, 0, 0), (181, .aload_n 1, 0, 0), (182, .aload_n 0, 0, 0), (183, .iload_n 3, 0, 0), (184, .iconst 1, 0, 0), (185, .iadd, 0, 0), (186, .iaload, 0, 0), (187, .aload_n 0, 0, 0), (188, .iload_n 3, 0, 0), (189, .iconst 2, 0, 0), (190, .iadd, 0, 0), (191, .iaload, 0, 0), (192, .invokevirtual 30, 5, 0), (195, .aload_n 2, 0, 0), (196, .aload_n 0, 0, 0), (197, .iload_n 3, 0, 0), (198, .iconst 1, 0, 0), (199, .iadd, 0, 0), (200, .iaload, 0, 0), (201, .aload_n 0, 0, 0), (202, .iload_n 3, 0, 0), (203, .iconst 2, 0, 0), (204, .iadd, 0, 0), (205, .iaload, 0, 0), (206, .invokevirtual 34, 45, 0), (209, .if_icmp .eq (182), 0, 0), (212, .iconst 0, 0, 0), (213, .ireturn, 0, 0), (214, .aload_n 1, 0, 0), (215, .aload_n 0, 0, 0), (216, .iload_n 3, 0, 0), (217, .iconst 1, 0, 0), (218, .iadd, 0, 0), (219, .iaload, 0, 0), (220, .aload_n 0, 0, 0), (221, .iload_n 3, 0, 0), (222, .iconst 2, 0, 0), (223, .iadd, 0, 0), (224, .iaload, 0, 0), (225, .invokevirtual 35, 6, 0), (228, .aload_n 2, 0, 0), (229, .aload_n 0, 0, 0), (230, .iload_n 3, 0, 0), (231, .iconst 1, 0, 0), (232, .iadd, 0, 0), (233, .iaload, 0, 0), (234, .aload_n 0, 0, 0), (235, .iload_n 3, 0, 0), (236, .iconst 2, 0, 0), (237, .iadd, 0, 0), (238, .iaload, 0, 0), (239, .invokevirtual 38, 46, 0), (242, .if_icmp .eq (149), 0, 0), (245, .iconst 0, 0, 0), (246, .ireturn, 0, 0), (247, .aload_n 1, 0, 0), (248, .aload_n 0, 0, 0), (249, .iload_n 3, 0, 0), (250, .iconst 1, 0, 0), (251, .iadd, 0, 0), (252, .iaload, 0, 0), (253, .aload_n 0, 0, 0), (254, .iload_n 3, 0, 0), (255, .iconst 2, 0, 0), (256, .iadd, 0, 0), (257, .iaload, 0, 0), (258, .invokevirtual 39, 7, 0), (261, .aload_n 2, 0, 0), (262, .aload_n 0, 0, 0), (263, .iload_n 3, 0, 0), (264, .iconst 1, 0, 0), (265, .iadd, 0, 0), (266, .iaload, 0, 0), (267, .aload_n 0, 0, 0), (268, .iload_n 3, 0, 0), (269, .iconst 2, 0, 0), (270, .iadd, 0, 0), (271, .iaload, 0, 0), (272, .invokevirtual 42, 47, 0), (275, .if_icmp .eq (116), 0, 0), (278, .iconst 0, 0, 0), (279, .ireturn, 0, 0), (280, .aload_n 1, 0, 0), (281, .invokevirtual 43, 8, 0), (284, .aload_n 2, 0, 0), (285, .invokevirtual 46, 48, 0), (288, .if_icmp .eq (103), 0, 0), (291, .iconst 0, 0, 0), (292, .ireturn, 0, 0), (293, .aload_n 1, 0, 0), (294, .invokevirtual 47, 9, 0), (297, .aload_n 2, 0, 0), (298, .invokevirtual 50, 64, 0), (301, .if_icmp .eq (90), 0, 0), (304, .iconst 0, 0, 0), (305, .ireturn, 0, 0), (306, .aload_n 1, 0, 0), (307, .aload_n 0, 0, 0), (308, .iload_n 3, 0, 0), (309, .iconst 1, 0, 0), (310, .iadd, 0, 0), (311, .iaload, 0, 0), (312, .invokevirtual 51, 10, 0), (315, .aload_n 2, 0, 0), (316, .aload_n 0, 0, 0), (317, .iload_n 3, 0, 0), (318, .iconst 1, 0, 0), (319, .iadd, 0, 0), (320, .iaload, 0, 0), (321, .invokevirtual 55, 70, 0), (324, .if_icmp .eq (67), 0, 0), (327, .iconst 0, 0, 0), (328, .ireturn, 0, 0), (329, .aload_n 1, 0, 0), (330, .invokevirtual 56, 11, 0), (333, .aload_n 2, 0, 0), (334, .invokevirtual 59, 71, 0), (337, .if_icmp .eq (54), 0, 0), (340, .iconst 0, 0, 0), (341, .ireturn, 0, 0), (342, .aload_n 1, 0, 0), (343, .aload_n 0, 0, 0), (344, .iload_n 3, 0, 0), (345, .iconst 1, 0, 0), (346, .iadd, 0, 0), (347, .iaload, 0, 0), (348, .aload_n 0, 0, 0), (349, .iload_n 3, 0, 0), (350, .iconst 2, 0, 0), (351, .iadd, 0, 0), (352, .iaload, 0, 0), (353, .ifCond .eq (7), 0, 0), (356, .iconst 1, 0, 0), (357, .goto (4), 0, 0), (360, .iconst 0, 0, 0), (361, .invokevirtual 60, 12, 0), (364, .aload_n 2, 0, 0), (365, .aload_n 0, 0, 0), (366, .iload_n 3, 0, 0), (367, .iconst 1, 0, 0), (368, .iadd, 0, 0), (369, .iaload, 0, 0), (370, .aload_n 0, 0, 0), (371, .iload_n 3, 0, 0), (372, .iconst 2, 0, 0), (373, .iadd, 0, 0), (374, .iaload, 0, 0), (375, .ifCond .eq (7), 0, 0), (378, .iconst 1, 0, 0), (379, .goto (4), 0, 0), (382, .iconst 0, 0, 0), (383, .invokevirtual 64, 72, 0), (386, .if_icmp .eq (5), 0, 0), (389, .iconst 0, 0, 0), (390, .ireturn, 0, 0), (391, .iinc 3 (3), 0, 0), (394, .goto (-376), 0, 0), (397, .iconst 1, 0, 0), (398, .ireturn, 0, 0)]
def mt_0 : am_M := (⟨"TestFinderLaw", "law", "([I)Z"⟩, code, 4, (some .boolean), 1, 999, cd_0)
def cd_1 : am_C := [(0, .aload_n 0, 0, 0), (1, .invokespecial 1, 1000, 0), (4, .aload_n 0, 0, 0), (5, .new 7, 1, 2), (8, .dup, 0, 0), (9, .invokespecial 9, 124, 0), (12, .putfield 10, 0, 0), (15, .aload_n 0, 0, 0), (16, .new 16, 2, 7), (19, .dup, 0, 0), (20, .invokespecial 18, 106, 0), (23, .putfield 19, 0, 1), (26, .aload_n 0, 0, 0), (27, .new 23, 5, 4), (30, .dup, 0, 0), (31, .aload_n 0, 0, 0), (32, .getfield 19, 0, 1), (35, .invokespecial 25, 113, 0), (38, .putfield 28, 0, 2), (41, .aload_n 0, 0, 0), (42, .new 32, 7, 5), (45, .dup, 0, 0), (46, .aload_n 0, 0, 0), (47, .getfield 10, 0, 0), (50, .invokespecial 34, 83, 0), (53, .putfield 37, 0, 3), (56, .aload_n 0, 0, 0), (57, .new 41, 9, 2), (60, .dup, 0, 0), (61, .invokespecial 43, 127, 0), (64, .putfield 44, 0, 4), (67, .aload_n 0, 0, 0), (68, .new 48, 8, 5), (71, .dup, 0, 0), (72, .invokespecial 50, 76, 0), (75, .putfield 51, 0, 5), (78, .return_, 0, 0)]
def mt_1 : am_M := (⟨"TestFinder", "<init>", "()V"⟩, prog_1_method_1_code, 1, none, 1, 0, cd_1)
def cd_2 : am_C := [(0, .aload_n 0, 0, 0), (1, .getfield 10, 0, 0), (4, .lload_n 1, 0, 0), (5, .invokevirtual 55, 125, 0), (8, .ireturn, 0, 0)]
def mt_2 : am_M := (⟨"TestFinder", "text", "(J)Z"⟩, prog_1_method_2_code, 3, (some .boolean), 2, 0, cd_2)
def cd_3 : am_C := [(0, .aload_n 0, 0, 0), (1, .getfield 28, 0, 2), (4, .aload_n 0, 0, 0), (5, .getfield 10, 0, 0), (8, .invokevirtual 59, 114, 0), (11, .istore_n 1, 0, 0), (12, .aload_n 0, 0, 0), (13, .getfield 10, 0, 0), (16, .iconst 0, 0, 0), (17, .putfield 63, 1, 1), (20, .aload_n 0, 0, 0), (21, .getfield 51, 0, 5), (24, .iconst 0, 0, 0), (25, .putfield 67, 8, 4), (28, .iload_n 1, 0, 0), (29, .ireturn, 0, 0)]
def mt_3 : am_M := (⟨"TestFinder", "script", "()I"⟩, prog_1_method_3_code, 2, (some .int), 1, 0, cd_3)
def cd_4 : am_C := [(0, .iload_n 1, 0, 0), (1, .tableswitch (54) (0) (2) #[27, 38, 46], 27, 0), (28, .aload_n 0, 0, 0), (29, .getfield 19, 0, 1), (32, .getfield 68, 2, 2), (35, .getfield 72, 3, 1), (38, .ireturn, 0, 0), (39, .aload_n 0, 0, 0), (40, .getfield 19, 0, 1), (43, .getfield 75, 2, 4), (46, .ireturn, 0, 0), (47, .aload_n 0, 0, 0), (48, .getfield 19, 0, 1), (51, .getfield 78, 2, 6), (54, .ireturn, 0, 0), (55, .iconst (-1), 0, 0), (56, .ireturn, 0, 0)]
def mt_4 : am_M := (⟨"TestFinder", "count", "(I)I"⟩, prog_1_method_4_code, 2, (some .int), 2, 0, cd_4)
def cd_5 : am_C := [(0, .aload_n 0, 0, 0), (1, .getfield 19, 0, 1), (4, .iload_n 1, 0, 0), (5, .invokevirtual 81, 111, 0), (8, .ifCond .ne (5), 0, 0), (11, .iconst (-1), 0, 0), (12, .ireturn, 0, 0), (13, .aload_n 0, 0, 0), (14, .getfield 19, 0, 1), (17, .iload_n 1, 0, 0), (18, .invokevirtual 85, 112, 0), (21, .astore_n 3, 0, 0), (22, .iload_n 2, 0, 0), (23, .tableswitch (133) (0) (8) #[49, 59, 64, 69, 82, 95, 103, 111, 128], 49, 0), (72, .aload_n 0, 0, 0), (73, .getfield 19, 0, 1), (76, .getfield 89, 2, 5), (79, .iload_n 1, 0, 0), (80, .iaload, 0, 0), (81, .ireturn, 0, 0), (82, .aload_n 3, 0, 0), (83, .getfield 93, 4, 2), (86, .ireturn, 0, 0), (87, .aload_n 3, 0, 0), (88, .getfield 98, 4, 4), (91, .ireturn, 0, 0), (92, .aload_n 3, 0, 0), (93, .getfield 99, 4, 5), (96, .ifCond .eq (7), 0, 0), (99, .iconst 1, 0, 0), (100, .goto (4), 0, 0), (103, .iconst 0, 0, 0), (104, .ireturn, 0, 0), (105, .aload_n 3, 0, 0), (106, .getfield 103, 4, 6), (109, .ifCond .eq (7), 0, 0), (112, .iconst 1, 0, 0), (113, .goto (4), 0, 0), (116, .iconst 0, 0, 0), (117, .ireturn, 0, 0), (118, .aload_n 3, 0, 0), (119, .getfield 106, 4, 12), (122, .getfield 72, 3, 1), (125, .ireturn, 0, 0), (126, .aload_n 3, 0, 0), (127, .getfield 109, 4, 13), (130, .getfield 72, 3, 1), (133, .ireturn, 0, 0), (134, .aload_n 0, 0, 0), (135, .getfield 44, 0, 4), (138, .aload_n 3, 0, 0), (139, .iload_n 1, 0, 0), (140, .invokevirtual 112, 128, 0), (143, .aload_n 0, 0, 0), (144, .getfield 44, 0, 4), (147, .getfield 116, 9, 1), (150, .ireturn, 0, 0), (151, .aload_n 3, 0, 0), (152, .getfield 117, 4, 3), (155, .ireturn, 0, 0), (156, .iconst (-1), 0, 0), (157, .ireturn, 0, 0)]
def mt_5 : am_M := (⟨"TestFinder", "test", "(II)I"⟩, prog_1_method_5_code, 4, (some .int), 3, 0, cd_5)
def cd_6 : am_C := [(0, .aload_n 0, 0, 0), (1, .getfield 19, 0, 1), (4, .iload_n 1, 0, 0), (5, .invokevirtual 81, 111, 0), (8, .ifCond .ne (5), 0, 0), (11, .iconst (-1), 0, 0), (12, .ireturn, 0, 0), (13, .aload_n 0, 0, 0), (14, .getfield 44, 0, 4), (17, .aload_n 0, 0, 0), (18, .getfield 19, 0, 1), (21, .iload_n 1, 0, 0), (22, .invokevirtual 85, 112, 0), (25, .iload_n 1, 0, 0), (26, .invokevirtual 112, 128, 0), (29, .iload_n 2, 0, 0), (30, .ifCond .lt (26), 0, 0), (33, .iload_n 2, 0, 0), (34, .aload_n 0, 0, 0), (35, .getfield 44, 0, 4), (38, .getfield 116, 9, 1), (41, .if_icmp .ge (15), 0, 0), (44, .aload_n 0, 0, 0), (45, .getfield 44, 0, 4), (48, .getfield 120, 9, 0), (51, .iload_n 2, 0, 0), (52, .caload, 0, 0), (53, .goto (4), 0, 0), (56, .iconst (-1), 0, 0), (57, .ireturn, 0, 0)]
def mt_6 : am_M := (⟨"TestFinder", "letter", "(II)I"⟩, prog_1_method_6_code, 3, (some .int), 3, 0, cd_6)
def cd_7 : am_C := [(0, .aload_n 0, 0, 0), (1, .getfield 19, 0, 1), (4, .iload_n 1, 0, 0), (5, .invokevirtual 81, 111, 0), (8, .ifCond .ne (5), 0, 0), (11, .iconst (-1), 0, 0), (12, .ireturn, 0, 0), (13, .aload_n 0, 0, 0), (14, .getfield 19, 0, 1), (17, .iload_n 1, 0, 0), (18, .invokevirtual 85, 112, 0), (21, .astore_n 3, 0, 0), (22, .aload_n 3, 0, 0), (23, .getfield 99, 4, 5), (26, .ifCond .eq (20), 0, 0), (29, .iload_n 2, 0, 0), (30, .ifCond .lt (16), 0, 0), (33, .iload_n 2, 0, 0), (34, .aload_n 3, 0, 0), (35, .getfield 124, 4, 8), (38, .aload_n 3, 0, 0), (39, .getfield 127, 4, 7), (42, .isub, 0, 0), (43, .if_icmp .lt (5), 0, 0), (46, .iconst (-1), 0, 0), (47, .ireturn, 0, 0), (48, .aload_n 0, 0, 0), (49, .getfield 19, 0, 1), (52, .getfield 130, 2, 0), (55, .aload_n 3, 0, 0), (56, .getfield 127, 4, 7), (59, .iload_n 2, 0, 0), (60, .iadd, 0, 0), (61, .caload, 0, 0), (62, .ireturn, 0, 0)]
def mt_7 : am_M := (⟨"TestFinder", "reason", "(II)I"⟩, prog_1_method_7_code, 4, (some .int), 3, 0, cd_7)
def cd_8 : am_C := [(0, .iconst (-1), 0, 0), (1, .istore_n 1, 0, 0), (2, .iconst 0, 0, 0), (3, .istore_n 2, 0, 0), (4, .iload_n 2, 0, 0), (5, .aload_n 0, 0, 0), (6, .getfield 19, 0, 1), (9, .getfield 78, 2, 6), (12, .if_icmp .ge (46), 0, 0), (15, .iload_n 1, 0, 0), (16, .iconst (-1), 0, 0), (17, .if_icmp .ne (41), 0, 0), (20, .aload_n 0, 0, 0), (21, .getfield 44, 0, 4), (24, .aload_n 0, 0, 0), (25, .getfield 19, 0, 1), (28, .iload_n 2, 0, 0), (29, .invokevirtual 85, 112, 0), (32, .iload_n 2, 0, 0), (33, .invokevirtual 112, 128, 0), (36, .aload_n 0, 0, 0), (37, .getfield 44, 0, 4), (40, .aload_n 0, 0, 0), (41, .getfield 10, 0, 0), (44, .invokevirtual 133, 131, 0), (47, .ifCond .eq (5), 0, 0), (50, .iload_n 2, 0, 0), (51, .istore_n 1, 0, 0), (52, .iinc 2 (1), 0, 0), (55, .goto (-51), 0, 0), (58, .aload_n 0, 0, 0), (59, .getfield 10, 0, 0), (62, .iconst 0, 0, 0), (63, .putfield 63, 1, 1), (66, .iload_n 1, 0, 0), (67, .ireturn, 0, 0)]
def mt_8 : am_M := (⟨"TestFinder", "find", "()I"⟩, prog_1_method_8_code, 3, (some .int), 1, 0, cd_8)
def cd_9 : am_C := [(0, .aload_n 0, 0, 0), (1, .getfield 37, 0, 3), (4, .invokevirtual 137, 84, 0), (7, .istore_n 1, 0, 0), (8, .aload_n 0, 0, 0), (9, .getfield 10, 0, 0), (12, .iconst 0, 0, 0), (13, .putfield 63, 1, 1), (16, .iload_n 1, 0, 0), (17, .iconst (-1), 0, 0), (18, .if_icmp .ne (18), 0, 0), (21, .aload_n 0, 0, 0), (22, .aload_n 0, 0, 0), (23, .getfield 37, 0, 3), (26, .aload_n 0, 0, 0), (27, .getfield 51, 0, 5), (30, .invokevirtual 140, 85, 0), (33, .putfield 51, 0, 5), (36, .iload_n 1, 0, 0), (37, .ireturn, 0, 0)]
def mt_9 : am_M := (⟨"TestFinder", "filter", "()I"⟩, prog_1_method_9_code, 2, (some .int), 1, 0, cd_9)
def cd_10 : am_C := [(0, .aload_n 0, 0, 0), (1, .getfield 19, 0, 1), (4, .iload_n 1, 0, 0), (5, .invokevirtual 81, 111, 0), (8, .ifCond .eq (26), 0, 0), (11, .aload_n 0, 0, 0), (12, .getfield 51, 0, 5), (15, .aload_n 0, 0, 0), (16, .getfield 19, 0, 1), (19, .iload_n 1, 0, 0), (20, .invokevirtual 85, 112, 0), (23, .iload_n 1, 0, 0), (24, .invokevirtual 144, 78, 0), (27, .ifCond .eq (7), 0, 0), (30, .iconst 1, 0, 0), (31, .goto (4), 0, 0), (34, .iconst 0, 0, 0), (35, .ireturn, 0, 0)]
def mt_10 : am_M := (⟨"TestFinder", "passes", "(I)Z"⟩, prog_1_method_10_code, 2, (some .boolean), 2, 0, cd_10)
def cd_11 : am_C := [(0, .iconst 0, 0, 0), (1, .istore_n 1, 0, 0), (2, .iconst 0, 0, 0), (3, .istore_n 2, 0, 0), (4, .iload_n 2, 0, 0), (5, .aload_n 0, 0, 0), (6, .getfield 19, 0, 1), (9, .getfield 78, 2, 6), (12, .if_icmp .ge (31), 0, 0), (15, .aload_n 0, 0, 0), (16, .getfield 51, 0, 5), (19, .aload_n 0, 0, 0), (20, .getfield 19, 0, 1), (23, .iload_n 2, 0, 0), (24, .invokevirtual 85, 112, 0), (27, .iload_n 2, 0, 0), (28, .invokevirtual 144, 78, 0), (31, .ifCond .eq (6), 0, 0), (34, .iinc 1 (1), 0, 0), (37, .iinc 2 (1), 0, 0), (40, .goto (-36), 0, 0), (43, .iload_n 1, 0, 0), (44, .ireturn, 0, 0)]
def mt_11 : am_M := (⟨"TestFinder", "passing", "()I"⟩, prog_1_method_11_code, 3, (some .int), 1, 0, cd_11)
def cd_12 : am_C := [(0, .aload_n 0, 0, 0), (1, .getfield 19, 0, 1), (4, .iload_n 1, 0, 0), (5, .invokevirtual 81, 111, 0), (8, .ifCond .ne (5), 0, 0), (11, .iconst (-1), 0, 0), (12, .ireturn, 0, 0), (13, .aload_n 0, 0, 0), (14, .getfield 19, 0, 1), (17, .iload_n 1, 0, 0), (18, .invokevirtual 85, 112, 0), (21, .astore_n 3, 0, 0), (22, .aload_n 3, 0, 0), (23, .getfield 99, 4, 5), (26, .ifCond .eq (5), 0, 0), (29, .iconst 3, 0, 0), (30, .ireturn, 0, 0), (31, .aload_n 3, 0, 0), (32, .getfield 103, 4, 6), (35, .ifCond .eq (13), 0, 0), (38, .iload_n 2, 0, 0), (39, .ifCond .eq (7), 0, 0), (42, .iconst 4, 0, 0), (43, .goto (4), 0, 0), (46, .iconst 1, 0, 0), (47, .ireturn, 0, 0), (48, .iload_n 2, 0, 0), (49, .ifCond .eq (7), 0, 0), (52, .iconst 0, 0, 0), (53, .goto (4), 0, 0), (56, .iconst 2, 0, 0), (57, .ireturn, 0, 0)]
def mt_12 : am_M := (⟨"TestFinder", "judge", "(IZ)I"⟩, prog_1_method_12_code, 4, (some .int), 3, 0, cd_12)
def cd_13 : am_C := [(0, .aload_n 0, 0, 0), (1, .invokespecial 1, 1000, 0), (4, .aload_n 0, 0, 0), (5, .sipush (1200), 0, 0), (8, .newarray .int, 0, 0), (10, .putfield 7, 10, 2), (13, .aload_n 0, 0, 0), (14, .sipush (1200), 0, 0), (17, .newarray .int, 0, 0), (19, .putfield 13, 10, 4), (22, .aload_n 0, 0, 0), (23, .sipush (600), 0, 0), (26, .newarray .int, 0, 0), (28, .putfield 16, 10, 6), (31, .aload_n 0, 0, 0), (32, .sipush (600), 0, 0), (35, .newarray .int, 0, 0), (37, .putfield 19, 10, 7), (40, .aload_n 0, 0, 0), (41, .bipush (10), 0, 0), (43, .newarray .int, 0, 0), (45, .putfield 22, 10, 9), (48, .aload_n 0, 0, 0), (49, .bipush (10), 0, 0), (51, .newarray .int, 0, 0), (53, .putfield 25, 10, 10), (56, .aload_n 0, 0, 0), (57, .bipush (10), 0, 0), (59, .newarray .int, 0, 0), (61, .putfield 28, 10, 11), (64, .aload_n 0, 0, 0), (65, .bipush (80), 0, 0), (67, .newarray .int, 0, 0), (69, .putfield 31, 10, 12), (72, .aload_n 0, 0, 0), (73, .bipush (80), 0, 0), (75, .newarray .int, 0, 0), (77, .putfield 34, 10, 13), (80, .aload_n 0, 0, 0), (81, .bipush (40), 0, 0), (83, .newarray .int, 0, 0), (85, .putfield 37, 10, 15), (88, .aload_n 0, 0, 0), (89, .bipush (40), 0, 0), (91, .newarray .int, 0, 0), (93, .putfield 40, 10, 16), (96, .aload_n 0, 0, 0), (97, .bipush (40), 0, 0), (99, .newarray .int, 0, 0), (101, .putfield 43, 10, 17), (104, .aload_n 0, 0, 0), (105, .bipush (40), 0, 0), (107, .newarray .int, 0, 0), (109, .putfield 46, 10, 18), (112, .aload_n 0, 0, 0), (113, .bipush (40), 0, 0), (115, .newarray .int, 0, 0), (117, .putfield 49, 10, 19), (120, .aload_n 0, 0, 0), (121, .bipush (40), 0, 0), (123, .newarray .int, 0, 0), (125, .putfield 52, 10, 20), (128, .aload_n 0, 0, 0), (129, .bipush (40), 0, 0), (131, .newarray .int, 0, 0), (133, .putfield 55, 10, 21), (136, .aload_n 0, 0, 0), (137, .bipush (40), 0, 0), (139, .newarray .boolean, 0, 0), (141, .putfield 58, 10, 22), (144, .aload_n 0, 0, 0), (145, .bipush (40), 0, 0), (147, .newarray .int, 0, 0), (149, .putfield 62, 10, 23), (152, .aload_n 0, 0, 0), (153, .sipush (320), 0, 0), (156, .newarray .int, 0, 0), (158, .putfield 65, 10, 24), (161, .aload_n 0, 0, 0), (162, .sipush (320), 0, 0), (165, .newarray .int, 0, 0), (167, .putfield 68, 10, 25), (170, .aload_n 0, 0, 0), (171, .bipush (40), 0, 0), (173, .newarray .int, 0, 0), (175, .putfield 71, 10, 26), (178, .aload_n 0, 0, 0), (179, .sipush (160), 0, 0), (182, .newarray .int, 0, 0), (184, .putfield 74, 10, 27), (187, .aload_n 0, 0, 0), (188, .sipush (160), 0, 0), (191, .newarray .int, 0, 0), (193, .putfield 77, 10, 28), (196, .aload_n 0, 0, 0), (197, .sipush (160), 0, 0), (200, .newarray .int, 0, 0), (202, .putfield 80, 10, 29), (205, .aload_n 0, 0, 0), (206, .sipush (960), 0, 0), (209, .newarray .int, 0, 0), (211, .putfield 83, 10, 30), (214, .aload_n 0, 0, 0), (215, .sipush (960), 0, 0), (218, .newarray .int, 0, 0), (220, .putfield 86, 10, 31), (223, .aload_n 0, 0, 0), (224, .bipush (120), 0, 0), (226, .newarray .int, 0, 0), (228, .putfield 89, 10, 34), (231, .aload_n 0, 0, 0), (232, .bipush (120), 0, 0), (234, .newarray .int, 0, 0), (236, .putfield 92, 10, 35), (239, .aload_n 0, 0, 0), (240, .sipush (140), 0, 0), (243, .newarray .int, 0, 0), (245, .putfield 95, 10, 37), (248, .aload_n 0, 0, 0), (249, .bipush (121), 0, 0), (251, .newarray .int, 0, 0), (253, .putfield 98, 10, 39), (256, .aload_n 0, 0, 0), (257, .bipush (121), 0, 0), (259, .newarray .int, 0, 0), (261, .putfield 101, 10, 41), (264, .aload_n 0, 0, 0), (265, .bipush (121), 0, 0), (267, .newarray .int, 0, 0), (269, .putfield 104, 10, 42), (272, .aload_n 0, 0, 0), (273, .bipush (121), 0, 0), (275, .newarray .int, 0, 0), (277, .putfield 107, 10, 43), (280, .aload_n 0, 0, 0), (281, .bipush (121), 0, 0), (283, .newarray .int, 0, 0), (285, .putfield 110, 10, 44), (288, .aload_n 0, 0, 0), (289, .bipush (121), 0, 0), (291, .newarray .int, 0, 0), (293, .putfield 113, 10, 45), (296, .aload_n 0, 0, 0), (297, .bipush (121), 0, 0), (299, .newarray .int, 0, 0), (301, .putfield 116, 10, 48), (304, .aload_n 0, 0, 0), (305, .bipush (121), 0, 0), (307, .newarray .int, 0, 0), (309, .putfield 119, 10, 49), (312, .aload_n 0, 0, 0), (313, .bipush (121), 0, 0), (315, .newarray .int, 0, 0), (317, .putfield 122, 10, 50), (320, .aload_n 0, 0, 0), (321, .bipush (121), 0, 0), (323, .newarray .int, 0, 0), (325, .putfield 125, 10, 51), (328, .aload_n 0, 0, 0), (329, .bipush (121), 0, 0), (331, .newarray .int, 0, 0), (333, .putfield 128, 10, 52), (336, .aload_n 0, 0, 0), (337, .bipush (121), 0, 0), (339, .newarray .int, 0, 0), (341, .putfield 131, 10, 53), (344, .aload_n 0, 0, 0), (345, .sipush (130), 0, 0), (348, .newarray .int, 0, 0), (350, .putfield 134, 10, 58), (353, .aload_n 0, 0, 0), (354, .sipush (130), 0, 0), (357, .newarray .boolean, 0, 0), (359, .putfield 137, 10, 59), (362, .return_, 0, 0)]
def mt_13 : am_M := (⟨"TestFinderModel", "<init>", "()V"⟩, prog_13_method_1_code, 1, none, 1, 10, cd_13)
def cd_14 : am_C := [(0, .aload_n 0, 0, 0), (1, .iconst 0, 0, 0), (2, .putfield 140, 10, 0), (5, .iconst 0, 0, 0), (6, .istore_n 3, 0, 0), (7, .iconst 1, 0, 0), (8, .istore 4, 0, 0), (10, .bipush (56), 0, 0), (12, .istore 5, 0, 0), (14, .iload 5, 0, 0), (16, .ifCond .lt (71), 0, 0), (19, .lload_n 1, 0, 0), (20, .iload 5, 0, 0), (22, .lshr, 0, 0), (23, .ldc2_w 144, 255, 0), (26, .land, 0, 0), (27, .l2i, 0, 0), (28, .istore 6, 0, 0), (30, .iload_n 3, 0, 0), (31, .iload 6, 0, 0), (33, .ifCond .eq (7), 0, 0), (36, .iconst 1, 0, 0), (37, .goto (4), 0, 0), (40, .iconst 0, 0, 0), (41, .iadd, 0, 0), (42, .istore_n 3, 0, 0), (43, .iload 4, 0, 0), (45, .ifCond .eq (33), 0, 0), (48, .iload 6, 0, 0), (50, .ifCond .eq (24), 0, 0), (53, .iload 6, 0, 0), (55, .bipush (10), 0, 0), (57, .if_icmp .eq (17), 0, 0), (60, .iload 6, 0, 0), (62, .bipush (32), 0, 0), (64, .if_icmp .lt (14), 0, 0), (67, .iload 6, 0, 0), (69, .bipush (126), 0, 0), (71, .if_icmp .gt (7), 0, 0), (74, .iconst 1, 0, 0), (75, .goto (4), 0, 0), (78, .iconst 0, 0, 0), (79, .istore 4, 0, 0), (81, .iinc 5 (-8), 0, 0), (84, .goto (-70), 0, 0), (87, .iload 4, 0, 0), (89, .ifCond .eq (15), 0, 0), (92, .aload_n 0, 0, 0), (93, .getfield 146, 10, 1), (96, .iload_n 3, 0, 0), (97, .iadd, 0, 0), (98, .sipush (1200), 0, 0), (101, .if_icmp .le (5), 0, 0), (104, .iconst 0, 0, 0), (105, .ireturn, 0, 0), (106, .bipush (56), 0, 0), (108, .istore 5, 0, 0), (110, .iload 5, 0, 0), (112, .ifCond .lt (46), 0, 0), (115, .lload_n 1, 0, 0), (116, .iload 5, 0, 0), (118, .lshr, 0, 0), (119, .ldc2_w 144, 255, 0), (122, .land, 0, 0), (123, .l2i, 0, 0), (124, .istore 6, 0, 0), (126, .iload 6, 0, 0), (128, .ifCond .eq (24), 0, 0), (131, .aload_n 0, 0, 0), (132, .getfield 7, 10, 2), (135, .aload_n 0, 0, 0), (136, .getfield 146, 10, 1), (139, .iload 6, 0, 0), (141, .iastore, 0, 0), (142, .aload_n 0, 0, 0), (143, .dup, 0, 0), (144, .getfield 146, 10, 1), (147, .iconst 1, 0, 0), (148, .iadd, 0, 0), (149, .putfield 146, 10, 1), (152, .iinc 5 (-8), 0, 0), (155, .goto (-45), 0, 0), (158, .iconst 1, 0, 0), (159, .ireturn, 0, 0)]
def mt_14 : am_M := (⟨"TestFinderModel", "text", "(J)Z"⟩, prog_13_method_3_code, 7, (some .boolean), 2, 10, cd_14)
def cd_15 : am_C := [(0, .iload_n 0, 0, 0), (1, .bipush (97), 0, 0), (3, .if_icmp .lt (13), 0, 0), (6, .iload_n 0, 0, 0), (7, .bipush (122), 0, 0), (9, .if_icmp .gt (7), 0, 0), (12, .iconst 1, 0, 0), (13, .goto (4), 0, 0), (16, .iconst 0, 0, 0), (17, .ireturn, 0, 0)]
def mt_15 : am_M := (⟨"TestFinderModel", "isLetter", "(I)Z"⟩, prog_13_method_4_code, 1, (some .boolean), 1, 10, cd_15)
def cd_16 : am_C := [(0, .iload_n 0, 0, 0), (1, .invokestatic 149, 15, 0), (4, .ifCond .ne (21), 0, 0), (7, .iload_n 0, 0, 0), (8, .bipush (48), 0, 0), (10, .if_icmp .lt (9), 0, 0), (13, .iload_n 0, 0, 0), (14, .bipush (57), 0, 0), (16, .if_icmp .le (9), 0, 0), (19, .iload_n 0, 0, 0), (20, .bipush (95), 0, 0), (22, .if_icmp .ne (7), 0, 0), (25, .iconst 1, 0, 0), (26, .goto (4), 0, 0), (29, .iconst 0, 0, 0), (30, .ireturn, 0, 0)]
def mt_16 : am_M := (⟨"TestFinderModel", "isOfName", "(I)Z"⟩, prog_13_method_5_code, 1, (some .boolean), 1, 10, cd_16)
def cd_17 : am_C := [(0, .aload_n 0, 0, 0), (1, .iconst 0, 0, 0), (2, .putfield 153, 10, 5), (5, .iload_n 1, 0, 0), (6, .istore_n 3, 0, 0), (7, .iload_n 3, 0, 0), (8, .iload_n 2, 0, 0), (9, .if_icmp .ge (75), 0, 0), (12, .aload_n 0, 0, 0), (13, .getfield 13, 10, 4), (16, .iload_n 3, 0, 0), (17, .iaload, 0, 0), (18, .bipush (32), 0, 0), (20, .if_icmp .ne (9), 0, 0), (23, .iinc 3 (1), 0, 0), (26, .goto (-19), 0, 0), (29, .aload_n 0, 0, 0), (30, .getfield 16, 10, 6), (33, .aload_n 0, 0, 0), (34, .getfield 153, 10, 5), (37, .iload_n 3, 0, 0), (38, .iastore, 0, 0), (39, .iload_n 3, 0, 0), (40, .iload_n 2, 0, 0), (41, .if_icmp .ge (20), 0, 0), (44, .aload_n 0, 0, 0), (45, .getfield 13, 10, 4), (48, .iload_n 3, 0, 0), (49, .iaload, 0, 0), (50, .bipush (32), 0, 0), (52, .if_icmp .eq (9), 0, 0), (55, .iinc 3 (1), 0, 0), (58, .goto (-19), 0, 0), (61, .aload_n 0, 0, 0), (62, .getfield 19, 10, 7), (65, .aload_n 0, 0, 0), (66, .getfield 153, 10, 5), (69, .iload_n 3, 0, 0), (70, .iastore, 0, 0), (71, .aload_n 0, 0, 0), (72, .dup, 0, 0), (73, .getfield 153, 10, 5), (76, .iconst 1, 0, 0), (77, .iadd, 0, 0), (78, .putfield 153, 10, 5), (81, .goto (-74), 0, 0), (84, .return_, 0, 0)]
def mt_17 : am_M := (⟨"TestFinderModel", "cut", "(II)V"⟩, prog_13_method_6_code, 4, none, 3, 10, cd_17)
def cd_18 : am_C := [(0, .aload_n 0, 0, 0), (1, .getfield 16, 10, 6), (4, .iconst 0, 0, 0), (5, .iaload, 0, 0), (6, .istore_n 3, 0, 0), (7, .bipush (56), 0, 0), (9, .istore 4, 0, 0), (11, .iload 4, 0, 0), (13, .ifCond .lt (54), 0, 0), (16, .lload_n 1, 0, 0), (17, .iload 4, 0, 0), (19, .lshr, 0, 0), (20, .ldc2_w 144, 255, 0), (23, .land, 0, 0), (24, .l2i, 0, 0), (25, .istore 5, 0, 0), (27, .iload 5, 0, 0), (29, .ifCond .ne (6), 0, 0), (32, .goto (29), 0, 0), (35, .iload_n 3, 0, 0), (36, .aload_n 0, 0, 0), (37, .getfield 19, 10, 7), (40, .iconst 0, 0, 0), (41, .iaload, 0, 0), (42, .if_icmp .ge (14), 0, 0), (45, .aload_n 0, 0, 0), (46, .getfield 13, 10, 4), (49, .iload_n 3, 0, 0), (50, .iaload, 0, 0), (51, .iload 5, 0, 0), (53, .if_icmp .eq (5), 0, 0), (56, .iconst 0, 0, 0), (57, .ireturn, 0, 0), (58, .iinc 3 (1), 0, 0), (61, .iinc 4 (-8), 0, 0), (64, .goto (-53), 0, 0), (67, .iload_n 3, 0, 0), (68, .aload_n 0, 0, 0), (69, .getfield 19, 10, 7), (72, .iconst 0, 0, 0), (73, .iaload, 0, 0), (74, .if_icmp .ne (7), 0, 0), (77, .iconst 1, 0, 0), (78, .goto (4), 0, 0), (81, .iconst 0, 0, 0), (82, .ireturn, 0, 0)]
def mt_18 : am_M := (⟨"TestFinderModel", "begins", "(J)Z"⟩, prog_13_method_7_code, 6, (some .boolean), 2, 10, cd_18)
def cd_19 : am_C := [(0, .aload_n 0, 0, 0), (1, .getfield 19, 10, 7), (4, .iload_n 1, 0, 0), (5, .iaload, 0, 0), (6, .aload_n 0, 0, 0), (7, .getfield 16, 10, 6), (10, .iload_n 1, 0, 0), (11, .iaload, 0, 0), (12, .isub, 0, 0), (13, .istore_n 3, 0, 0), (14, .iload_n 3, 0, 0), (15, .bipush (12), 0, 0), (17, .if_icmp .gt (28), 0, 0), (20, .iload_n 2, 0, 0), (21, .ifCond .eq (20), 0, 0), (24, .aload_n 0, 0, 0), (25, .getfield 13, 10, 4), (28, .aload_n 0, 0, 0), (29, .getfield 16, 10, 6), (32, .iload_n 1, 0, 0), (33, .iaload, 0, 0), (34, .iaload, 0, 0), (35, .invokestatic 149, 15, 0), (38, .ifCond .eq (7), 0, 0), (41, .iconst 1, 0, 0), (42, .goto (4), 0, 0), (45, .iconst 0, 0, 0), (46, .istore 4, 0, 0), (48, .aload_n 0, 0, 0), (49, .getfield 16, 10, 6), (52, .iload_n 1, 0, 0), (53, .iaload, 0, 0), (54, .istore 5, 0, 0), (56, .iload 5, 0, 0), (58, .aload_n 0, 0, 0), (59, .getfield 19, 10, 7), (62, .iload_n 1, 0, 0), (63, .iaload, 0, 0), (64, .if_icmp .ge (34), 0, 0), (67, .iload 4, 0, 0), (69, .ifCond .eq (20), 0, 0), (72, .aload_n 0, 0, 0), (73, .getfield 13, 10, 4), (76, .iload 5, 0, 0), (78, .iaload, 0, 0), (79, .invokestatic 156, 16, 0), (82, .ifCond .eq (7), 0, 0), (85, .iconst 1, 0, 0), (86, .goto (4), 0, 0), (89, .iconst 0, 0, 0), (90, .istore 4, 0, 0), (92, .iinc 5 (1), 0, 0), (95, .goto (-39), 0, 0), (98, .iload 4, 0, 0), (100, .ireturn, 0, 0)]
def mt_19 : am_M := (⟨"TestFinderModel", "isRight", "(IZ)Z"⟩, prog_13_method_8_code, 6, (some .boolean), 3, 10, cd_19)
def cd_20 : am_C := [(0, .iload_n 2, 0, 0), (1, .iload_n 1, 0, 0), (2, .isub, 0, 0), (3, .aload_n 0, 0, 0), (4, .getfield 19, 10, 7), (7, .iload_n 3, 0, 0), (8, .iaload, 0, 0), (9, .aload_n 0, 0, 0), (10, .getfield 16, 10, 6), (13, .iload_n 3, 0, 0), (14, .iaload, 0, 0), (15, .isub, 0, 0), (16, .if_icmp .ne (7), 0, 0), (19, .iconst 1, 0, 0), (20, .goto (4), 0, 0), (23, .iconst 0, 0, 0), (24, .istore 4, 0, 0), (26, .iconst 0, 0, 0), (27, .istore 5, 0, 0), (29, .iload 5, 0, 0), (31, .iload_n 2, 0, 0), (32, .iload_n 1, 0, 0), (33, .isub, 0, 0), (34, .if_icmp .ge (47), 0, 0), (37, .iload 4, 0, 0), (39, .ifCond .eq (42), 0, 0), (42, .aload_n 0, 0, 0), (43, .getfield 13, 10, 4), (46, .iload_n 1, 0, 0), (47, .iload 5, 0, 0), (49, .iadd, 0, 0), (50, .iaload, 0, 0), (51, .aload_n 0, 0, 0), (52, .getfield 13, 10, 4), (55, .aload_n 0, 0, 0), (56, .getfield 16, 10, 6), (59, .iload_n 3, 0, 0), (60, .iaload, 0, 0), (61, .iload 5, 0, 0), (63, .iadd, 0, 0), (64, .iaload, 0, 0), (65, .if_icmp .ne (7), 0, 0), (68, .iconst 1, 0, 0), (69, .goto (4), 0, 0), (72, .iconst 0, 0, 0), (73, .istore 4, 0, 0), (75, .iinc 5 (1), 0, 0), (78, .goto (-49), 0, 0), (81, .iload 4, 0, 0), (83, .ireturn, 0, 0)]
def mt_20 : am_M := (⟨"TestFinderModel", "isSame", "(III)Z"⟩, prog_13_method_9_code, 6, (some .boolean), 4, 10, cd_20)
def cd_21 : am_C := [(0, .aload_n 0, 0, 0), (1, .getfield 153, 10, 5), (4, .iconst 2, 0, 0), (5, .if_icmp .ne (21), 0, 0), (8, .aload_n 0, 0, 0), (9, .iconst 1, 0, 0), (10, .iconst 1, 0, 0), (11, .invokevirtual 159, 19, 0), (14, .ifCond .eq (12), 0, 0), (17, .aload_n 0, 0, 0), (18, .getfield 163, 10, 8), (21, .bipush (10), 0, 0), (23, .if_icmp .ne (5), 0, 0), (26, .iconst 0, 0, 0), (27, .ireturn, 0, 0), (28, .iconst 0, 0, 0), (29, .istore_n 1, 0, 0), (30, .iload_n 1, 0, 0), (31, .aload_n 0, 0, 0), (32, .getfield 163, 10, 8), (35, .if_icmp .ge (31), 0, 0), (38, .aload_n 0, 0, 0), (39, .aload_n 0, 0, 0), (40, .getfield 22, 10, 9), (43, .iload_n 1, 0, 0), (44, .iaload, 0, 0), (45, .aload_n 0, 0, 0), (46, .getfield 25, 10, 10), (49, .iload_n 1, 0, 0), (50, .iaload, 0, 0), (51, .iconst 1, 0, 0), (52, .invokevirtual 166, 20, 0), (55, .ifCond .eq (5), 0, 0), (58, .iconst 0, 0, 0), (59, .ireturn, 0, 0), (60, .iinc 1 (1), 0, 0), (63, .goto (-33), 0, 0), (66, .aload_n 0, 0, 0), (67, .getfield 22, 10, 9), (70, .aload_n 0, 0, 0), (71, .getfield 163, 10, 8), (74, .aload_n 0, 0, 0), (75, .getfield 16, 10, 6), (78, .iconst 1, 0, 0), (79, .iaload, 0, 0), (80, .iastore, 0, 0), (81, .aload_n 0, 0, 0), (82, .getfield 25, 10, 10), (85, .aload_n 0, 0, 0), (86, .getfield 163, 10, 8), (89, .aload_n 0, 0, 0), (90, .getfield 19, 10, 7), (93, .iconst 1, 0, 0), (94, .iaload, 0, 0), (95, .iastore, 0, 0), (96, .aload_n 0, 0, 0), (97, .getfield 28, 10, 11), (100, .aload_n 0, 0, 0), (101, .getfield 163, 10, 8), (104, .iconst 0, 0, 0), (105, .iastore, 0, 0), (106, .aload_n 0, 0, 0), (107, .dup, 0, 0), (108, .getfield 163, 10, 8), (111, .iconst 1, 0, 0), (112, .iadd, 0, 0), (113, .putfield 163, 10, 8), (116, .aload_n 0, 0, 0), (117, .iconst 0, 0, 0), (118, .putfield 170, 10, 32), (121, .iconst 1, 0, 0), (122, .ireturn, 0, 0)]
def mt_21 : am_M := (⟨"TestFinderModel", "suiteLine", "()Z"⟩, prog_13_method_10_code, 2, (some .boolean), 1, 10, cd_21)
def cd_22 : am_C := [(0, .aload_n 0, 0, 0), (1, .getfield 153, 10, 5), (4, .iconst 2, 0, 0), (5, .if_icmp .ne (30), 0, 0), (8, .aload_n 0, 0, 0), (9, .iconst 1, 0, 0), (10, .iconst 1, 0, 0), (11, .invokevirtual 159, 19, 0), (14, .ifCond .eq (21), 0, 0), (17, .aload_n 0, 0, 0), (18, .getfield 174, 10, 14), (21, .bipush (40), 0, 0), (23, .if_icmp .eq (12), 0, 0), (26, .aload_n 0, 0, 0), (27, .invokevirtual 177, 34, 0), (30, .bipush (120), 0, 0), (32, .if_icmp .ne (5), 0, 0), (35, .iconst 0, 0, 0), (36, .ireturn, 0, 0), (37, .iconst 0, 0, 0), (38, .istore_n 2, 0, 0), (39, .iload_n 2, 0, 0), (40, .aload_n 0, 0, 0), (41, .getfield 174, 10, 14), (44, .if_icmp .ge (46), 0, 0), (47, .aload_n 0, 0, 0), (48, .getfield 37, 10, 15), (51, .iload_n 2, 0, 0), (52, .iaload, 0, 0), (53, .aload_n 0, 0, 0), (54, .getfield 163, 10, 8), (57, .iconst 1, 0, 0), (58, .isub, 0, 0), (59, .if_icmp .ne (25), 0, 0), (62, .aload_n 0, 0, 0), (63, .aload_n 0, 0, 0), (64, .getfield 40, 10, 16), (67, .iload_n 2, 0, 0), (68, .iaload, 0, 0), (69, .aload_n 0, 0, 0), (70, .getfield 43, 10, 17), (73, .iload_n 2, 0, 0), (74, .iaload, 0, 0), (75, .iconst 1, 0, 0), (76, .invokevirtual 166, 20, 0), (79, .ifCond .eq (5), 0, 0), (82, .iconst 0, 0, 0), (83, .ireturn, 0, 0), (84, .iinc 2 (1), 0, 0), (87, .goto (-48), 0, 0), (90, .aload_n 0, 0, 0), (91, .getfield 37, 10, 15), (94, .aload_n 0, 0, 0), (95, .getfield 174, 10, 14), (98, .aload_n 0, 0, 0), (99, .getfield 163, 10, 8), (102, .iconst 1, 0, 0), (103, .isub, 0, 0), (104, .iastore, 0, 0), (105, .aload_n 0, 0, 0), (106, .getfield 40, 10, 16), (109, .aload_n 0, 0, 0), (110, .getfield 174, 10, 14), (113, .aload_n 0, 0, 0), (114, .getfield 16, 10, 6), (117, .iconst 1, 0, 0), (118, .iaload, 0, 0), (119, .iastore, 0, 0), (120, .aload_n 0, 0, 0), (121, .getfield 43, 10, 17), (124, .aload_n 0, 0, 0), (125, .getfield 174, 10, 14), (128, .aload_n 0, 0, 0), (129, .getfield 19, 10, 7), (132, .iconst 1, 0, 0), (133, .iaload, 0, 0), (134, .iastore, 0, 0), (135, .aload_n 0, 0, 0), (136, .getfield 46, 10, 18), (139, .aload_n 0, 0, 0), (140, .getfield 174, 10, 14), (143, .iload_n 1, 0, 0), (144, .iastore, 0, 0), (145, .aload_n 0, 0, 0), (146, .getfield 49, 10, 19), (149, .aload_n 0, 0, 0), (150, .getfield 174, 10, 14), (153, .iconst 0, 0, 0), (154, .iastore, 0, 0), (155, .aload_n 0, 0, 0), (156, .getfield 55, 10, 21), (159, .aload_n 0, 0, 0), (160, .getfield 174, 10, 14), (163, .iconst (-1), 0, 0), (164, .iastore, 0, 0), (165, .aload_n 0, 0, 0), (166, .getfield 58, 10, 22), (169, .aload_n 0, 0, 0), (170, .getfield 174, 10, 14), (173, .iconst 0, 0, 0), (174, .bastore, 0, 0), (175, .aload_n 0, 0, 0), (176, .getfield 62, 10, 23), (179, .aload_n 0, 0, 0), (180, .getfield 174, 10, 14), (183, .iconst 0, 0, 0), (184, .iastore, 0, 0), (185, .aload_n 0, 0, 0), (186, .getfield 71, 10, 26), (189, .aload_n 0, 0, 0), (190, .getfield 174, 10, 14), (193, .iconst 0, 0, 0), (194, .iastore, 0, 0), (195, .aload_n 0, 0, 0), (196, .dup, 0, 0), (197, .getfield 174, 10, 14), (200, .iconst 1, 0, 0), (201, .iadd, 0, 0), (202, .putfield 174, 10, 14), (205, .aload_n 0, 0, 0), (206, .iconst 1, 0, 0), (207, .putfield 170, 10, 32), (210, .iconst 1, 0, 0), (211, .ireturn, 0, 0)]
def mt_22 : am_M := (⟨"TestFinderModel", "caseLine", "(I)Z"⟩, prog_13_method_11_code, 3, (some .boolean), 2, 10, cd_22)
def cd_23 : am_C := [(0, .iconst 0, 0, 0), (1, .istore_n 3, 0, 0), (2, .bipush (8), 0, 0), (4, .iload_n 1, 0, 0), (5, .imul, 0, 0), (6, .istore 4, 0, 0), (8, .iload 4, 0, 0), (10, .bipush (8), 0, 0), (12, .iload_n 1, 0, 0), (13, .imul, 0, 0), (14, .aload_n 0, 0, 0), (15, .getfield 28, 10, 11), (18, .iload_n 1, 0, 0), (19, .iaload, 0, 0), (20, .iadd, 0, 0), (21, .if_icmp .ge (41), 0, 0), (24, .iload_n 3, 0, 0), (25, .ifCond .ne (25), 0, 0), (28, .aload_n 0, 0, 0), (29, .aload_n 0, 0, 0), (30, .getfield 31, 10, 12), (33, .iload 4, 0, 0), (35, .iaload, 0, 0), (36, .aload_n 0, 0, 0), (37, .getfield 34, 10, 13), (40, .iload 4, 0, 0), (42, .iaload, 0, 0), (43, .iload_n 2, 0, 0), (44, .invokevirtual 166, 20, 0), (47, .ifCond .eq (7), 0, 0), (50, .iconst 1, 0, 0), (51, .goto (4), 0, 0), (54, .iconst 0, 0, 0), (55, .istore_n 3, 0, 0), (56, .iinc 4 (1), 0, 0), (59, .goto (-51), 0, 0), (62, .iload_n 3, 0, 0), (63, .ireturn, 0, 0)]
def mt_23 : am_M := (⟨"TestFinderModel", "suiteHas", "(II)Z"⟩, prog_13_method_12_code, 5, (some .boolean), 3, 10, cd_23)
def cd_24 : am_C := [(0, .iconst 0, 0, 0), (1, .istore_n 3, 0, 0), (2, .bipush (8), 0, 0), (4, .iload_n 1, 0, 0), (5, .imul, 0, 0), (6, .istore 4, 0, 0), (8, .iload 4, 0, 0), (10, .bipush (8), 0, 0), (12, .iload_n 1, 0, 0), (13, .imul, 0, 0), (14, .aload_n 0, 0, 0), (15, .getfield 62, 10, 23), (18, .iload_n 1, 0, 0), (19, .iaload, 0, 0), (20, .iadd, 0, 0), (21, .if_icmp .ge (41), 0, 0), (24, .iload_n 3, 0, 0), (25, .ifCond .ne (25), 0, 0), (28, .aload_n 0, 0, 0), (29, .aload_n 0, 0, 0), (30, .getfield 65, 10, 24), (33, .iload 4, 0, 0), (35, .iaload, 0, 0), (36, .aload_n 0, 0, 0), (37, .getfield 68, 10, 25), (40, .iload 4, 0, 0), (42, .iaload, 0, 0), (43, .iload_n 2, 0, 0), (44, .invokevirtual 166, 20, 0), (47, .ifCond .eq (7), 0, 0), (50, .iconst 1, 0, 0), (51, .goto (4), 0, 0), (54, .iconst 0, 0, 0), (55, .istore_n 3, 0, 0), (56, .iinc 4 (1), 0, 0), (59, .goto (-51), 0, 0), (62, .iload_n 3, 0, 0), (63, .ireturn, 0, 0)]
def mt_24 : am_M := (⟨"TestFinderModel", "caseHas", "(II)Z"⟩, prog_13_method_13_code, 5, (some .boolean), 3, 10, cd_24)
def cd_25 : am_C := [(0, .aload_n 0, 0, 0), (1, .getfield 62, 10, 23), (4, .iload_n 1, 0, 0), (5, .iaload, 0, 0), (6, .aload_n 0, 0, 0), (7, .getfield 37, 10, 15), (10, .iload_n 1, 0, 0), (11, .iaload, 0, 0), (12, .ifCond .ge (7), 0, 0), (15, .iconst 0, 0, 0), (16, .goto (14), 0, 0), (19, .aload_n 0, 0, 0), (20, .getfield 28, 10, 11), (23, .aload_n 0, 0, 0), (24, .getfield 37, 10, 15), (27, .iload_n 1, 0, 0), (28, .iaload, 0, 0), (29, .iaload, 0, 0), (30, .iadd, 0, 0), (31, .ireturn, 0, 0)]
def mt_25 : am_M := (⟨"TestFinderModel", "tagsOf", "(I)I"⟩, prog_13_method_14_code, 2, (some .int), 2, 10, cd_25)
def cd_26 : am_C := [(0, .aload_n 0, 0, 0), (1, .iload_n 1, 0, 0), (2, .iconst 1, 0, 0), (3, .invokevirtual 159, 19, 0), (6, .ifCond .eq (24), 0, 0), (9, .aload_n 0, 0, 0), (10, .getfield 163, 10, 8), (13, .ifCond .le (19), 0, 0), (16, .aload_n 0, 0, 0), (17, .aload_n 0, 0, 0), (18, .getfield 163, 10, 8), (21, .iconst 1, 0, 0), (22, .isub, 0, 0), (23, .iload_n 1, 0, 0), (24, .invokevirtual 181, 23, 0), (27, .ifCond .eq (5), 0, 0), (30, .iconst 0, 0, 0), (31, .ireturn, 0, 0), (32, .aload_n 0, 0, 0), (33, .getfield 170, 10, 32), (36, .ifCond .ne (79), 0, 0), (39, .aload_n 0, 0, 0), (40, .getfield 163, 10, 8), (43, .iconst 1, 0, 0), (44, .isub, 0, 0), (45, .istore_n 2, 0, 0), (46, .aload_n 0, 0, 0), (47, .getfield 28, 10, 11), (50, .iload_n 2, 0, 0), (51, .iaload, 0, 0), (52, .bipush (8), 0, 0), (54, .if_icmp .ne (5), 0, 0), (57, .iconst 0, 0, 0), (58, .ireturn, 0, 0), (59, .aload_n 0, 0, 0), (60, .getfield 31, 10, 12), (63, .bipush (8), 0, 0), (65, .iload_n 2, 0, 0), (66, .imul, 0, 0), (67, .aload_n 0, 0, 0), (68, .getfield 28, 10, 11), (71, .iload_n 2, 0, 0), (72, .iaload, 0, 0), (73, .iadd, 0, 0), (74, .aload_n 0, 0, 0), (75, .getfield 16, 10, 6), (78, .iload_n 1, 0, 0), (79, .iaload, 0, 0), (80, .iastore, 0, 0), (81, .aload_n 0, 0, 0), (82, .getfield 34, 10, 13), (85, .bipush (8), 0, 0), (87, .iload_n 2, 0, 0), (88, .imul, 0, 0), (89, .aload_n 0, 0, 0), (90, .getfield 28, 10, 11), (93, .iload_n 2, 0, 0), (94, .iaload, 0, 0), (95, .iadd, 0, 0), (96, .aload_n 0, 0, 0), (97, .getfield 19, 10, 7), (100, .iload_n 1, 0, 0), (101, .iaload, 0, 0), (102, .iastore, 0, 0), (103, .aload_n 0, 0, 0), (104, .getfield 28, 10, 11), (107, .iload_n 2, 0, 0), (108, .dup2, 0, 0), (109, .iaload, 0, 0), (110, .iconst 1, 0, 0), (111, .iadd, 0, 0), (112, .iastore, 0, 0), (113, .iconst 1, 0, 0), (114, .ireturn, 0, 0), (115, .aload_n 0, 0, 0), (116, .getfield 174, 10, 14), (119, .iconst 1, 0, 0), (120, .isub, 0, 0), (121, .istore_n 2, 0, 0), (122, .aload_n 0, 0, 0), (123, .iload_n 2, 0, 0), (124, .iload_n 1, 0, 0), (125, .invokevirtual 185, 24, 0), (128, .ifCond .ne (13), 0, 0), (131, .aload_n 0, 0, 0), (132, .iload_n 2, 0, 0), (133, .invokevirtual 188, 25, 0), (136, .bipush (8), 0, 0), (138, .if_icmp .ne (5), 0, 0), (141, .iconst 0, 0, 0), (142, .ireturn, 0, 0), (143, .aload_n 0, 0, 0), (144, .getfield 65, 10, 24), (147, .bipush (8), 0, 0), (149, .iload_n 2, 0, 0), (150, .imul, 0, 0), (151, .aload_n 0, 0, 0), (152, .getfield 62, 10, 23), (155, .iload_n 2, 0, 0), (156, .iaload, 0, 0), (157, .iadd, 0, 0), (158, .aload_n 0, 0, 0), (159, .getfield 16, 10, 6), (162, .iload_n 1, 0, 0), (163, .iaload, 0, 0), (164, .iastore, 0, 0), (165, .aload_n 0, 0, 0), (166, .getfield 68, 10, 25), (169, .bipush (8), 0, 0), (171, .iload_n 2, 0, 0), (172, .imul, 0, 0), (173, .aload_n 0, 0, 0), (174, .getfield 62, 10, 23), (177, .iload_n 2, 0, 0), (178, .iaload, 0, 0), (179, .iadd, 0, 0), (180, .aload_n 0, 0, 0), (181, .getfield 19, 10, 7), (184, .iload_n 1, 0, 0), (185, .iaload, 0, 0), (186, .iastore, 0, 0), (187, .aload_n 0, 0, 0), (188, .getfield 62, 10, 23), (191, .iload_n 2, 0, 0), (192, .dup2, 0, 0), (193, .iaload, 0, 0), (194, .iconst 1, 0, 0), (195, .iadd, 0, 0), (196, .iastore, 0, 0), (197, .iconst 1, 0, 0), (198, .ireturn, 0, 0)]
def mt_26 : am_M := (⟨"TestFinderModel", "tagWord", "(I)Z"⟩, prog_13_method_15_code, 3, (some .boolean), 2, 10, cd_26)
def cd_27 : am_C := [(0, .aload_n 0, 0, 0), (1, .getfield 153, 10, 5), (4, .iconst 1, 0, 0), (5, .if_icmp .le (21), 0, 0), (8, .aload_n 0, 0, 0), (9, .getfield 170, 10, 32), (12, .ifCond .ne (10), 0, 0), (15, .aload_n 0, 0, 0), (16, .getfield 163, 10, 8), (19, .ifCond .le (7), 0, 0), (22, .iconst 1, 0, 0), (23, .goto (4), 0, 0), (26, .iconst 0, 0, 0), (27, .istore_n 1, 0, 0), (28, .iconst 1, 0, 0), (29, .istore_n 2, 0, 0), (30, .iload_n 2, 0, 0), (31, .aload_n 0, 0, 0), (32, .getfield 153, 10, 5), (35, .if_icmp .ge (19), 0, 0), (38, .iload_n 1, 0, 0), (39, .ifCond .eq (15), 0, 0), (42, .aload_n 0, 0, 0), (43, .iload_n 2, 0, 0), (44, .invokevirtual 192, 26, 0), (47, .istore_n 1, 0, 0), (48, .iinc 2 (1), 0, 0), (51, .goto (-21), 0, 0), (54, .iload_n 1, 0, 0), (55, .ireturn, 0, 0)]
def mt_27 : am_M := (⟨"TestFinderModel", "tagLine", "()Z"⟩, prog_13_method_16_code, 3, (some .boolean), 1, 10, cd_27)
def cd_28 : am_C := [(0, .aload_n 0, 0, 0), (1, .getfield 153, 10, 5), (4, .iconst 3, 0, 0), (5, .if_icmp .lt (28), 0, 0), (8, .aload_n 0, 0, 0), (9, .getfield 153, 10, 5), (12, .bipush (8), 0, 0), (14, .if_icmp .gt (19), 0, 0), (17, .aload_n 0, 0, 0), (18, .getfield 170, 10, 32), (21, .ifCond .eq (12), 0, 0), (24, .aload_n 0, 0, 0), (25, .iconst 1, 0, 0), (26, .iconst 1, 0, 0), (27, .invokevirtual 159, 19, 0), (30, .ifCond .ne (5), 0, 0), (33, .iconst 0, 0, 0), (34, .ireturn, 0, 0), (35, .aload_n 0, 0, 0), (36, .getfield 174, 10, 14), (39, .iconst 1, 0, 0), (40, .isub, 0, 0), (41, .istore_n 1, 0, 0), (42, .iconst 4, 0, 0), (43, .iload_n 1, 0, 0), (44, .imul, 0, 0), (45, .aload_n 0, 0, 0), (46, .getfield 71, 10, 26), (49, .iload_n 1, 0, 0), (50, .iaload, 0, 0), (51, .iadd, 0, 0), (52, .istore_n 2, 0, 0), (53, .aload_n 0, 0, 0), (54, .getfield 71, 10, 26), (57, .iload_n 1, 0, 0), (58, .iaload, 0, 0), (59, .iconst 4, 0, 0), (60, .if_icmp .ne (5), 0, 0), (63, .iconst 0, 0, 0), (64, .ireturn, 0, 0), (65, .iconst 4, 0, 0), (66, .iload_n 1, 0, 0), (67, .imul, 0, 0), (68, .istore_n 3, 0, 0), (69, .iload_n 3, 0, 0), (70, .iload_n 2, 0, 0), (71, .if_icmp .ge (31), 0, 0), (74, .aload_n 0, 0, 0), (75, .aload_n 0, 0, 0), (76, .getfield 74, 10, 27), (79, .iload_n 3, 0, 0), (80, .iaload, 0, 0), (81, .aload_n 0, 0, 0), (82, .getfield 77, 10, 28), (85, .iload_n 3, 0, 0), (86, .iaload, 0, 0), (87, .iconst 1, 0, 0), (88, .invokevirtual 166, 20, 0), (91, .ifCond .eq (5), 0, 0), (94, .iconst 0, 0, 0), (95, .ireturn, 0, 0), (96, .iinc 3 (1), 0, 0), (99, .goto (-30), 0, 0), (102, .iconst 2, 0, 0), (103, .istore_n 3, 0, 0), (104, .iload_n 3, 0, 0), (105, .aload_n 0, 0, 0), (106, .getfield 153, 10, 5), (109, .if_icmp .ge (111), 0, 0), (112, .aload_n 0, 0, 0), (113, .iload_n 3, 0, 0), (114, .iconst 0, 0, 0), (115, .invokevirtual 159, 19, 0), (118, .istore 4, 0, 0), (120, .iconst 2, 0, 0), (121, .istore 5, 0, 0), (123, .iload 5, 0, 0), (125, .iload_n 3, 0, 0), (126, .if_icmp .ge (43), 0, 0), (129, .iload 4, 0, 0), (131, .ifCond .eq (29), 0, 0), (134, .aload_n 0, 0, 0), (135, .aload_n 0, 0, 0), (136, .getfield 16, 10, 6), (139, .iload 5, 0, 0), (141, .iaload, 0, 0), (142, .aload_n 0, 0, 0), (143, .getfield 19, 10, 7), (146, .iload 5, 0, 0), (148, .iaload, 0, 0), (149, .iload_n 3, 0, 0), (150, .invokevirtual 166, 20, 0), (153, .ifCond .ne (7), 0, 0), (156, .iconst 1, 0, 0), (157, .goto (4), 0, 0), (160, .iconst 0, 0, 0), (161, .istore 4, 0, 0), (163, .iinc 5 (1), 0, 0), (166, .goto (-43), 0, 0), (169, .iload 4, 0, 0), (171, .ifCond .ne (5), 0, 0), (174, .iconst 0, 0, 0), (175, .ireturn, 0, 0), (176, .aload_n 0, 0, 0), (177, .getfield 83, 10, 30), (180, .bipush (6), 0, 0), (182, .iload_n 2, 0, 0), (183, .imul, 0, 0), (184, .iload_n 3, 0, 0), (185, .iadd, 0, 0), (186, .iconst 2, 0, 0), (187, .isub, 0, 0), (188, .aload_n 0, 0, 0), (189, .getfield 16, 10, 6), (192, .iload_n 3, 0, 0), (193, .iaload, 0, 0), (194, .iastore, 0, 0), (195, .aload_n 0, 0, 0), (196, .getfield 86, 10, 31), (199, .bipush (6), 0, 0), (201, .iload_n 2, 0, 0), (202, .imul, 0, 0), (203, .iload_n 3, 0, 0), (204, .iadd, 0, 0), (205, .iconst 2, 0, 0), (206, .isub, 0, 0), (207, .aload_n 0, 0, 0), (208, .getfield 19, 10, 7), (211, .iload_n 3, 0, 0), (212, .iaload, 0, 0), (213, .iastore, 0, 0), (214, .iinc 3 (1), 0, 0), (217, .goto (-113), 0, 0), (220, .aload_n 0, 0, 0), (221, .getfield 74, 10, 27), (224, .iload_n 2, 0, 0), (225, .aload_n 0, 0, 0), (226, .getfield 16, 10, 6), (229, .iconst 1, 0, 0), (230, .iaload, 0, 0), (231, .iastore, 0, 0), (232, .aload_n 0, 0, 0), (233, .getfield 77, 10, 28), (236, .iload_n 2, 0, 0), (237, .aload_n 0, 0, 0), (238, .getfield 19, 10, 7), (241, .iconst 1, 0, 0), (242, .iaload, 0, 0), (243, .iastore, 0, 0), (244, .aload_n 0, 0, 0), (245, .getfield 80, 10, 29), (248, .iload_n 2, 0, 0), (249, .aload_n 0, 0, 0), (250, .getfield 153, 10, 5), (253, .iconst 2, 0, 0), (254, .isub, 0, 0), (255, .iastore, 0, 0), (256, .aload_n 0, 0, 0), (257, .getfield 71, 10, 26), (260, .iload_n 1, 0, 0), (261, .dup2, 0, 0), (262, .iaload, 0, 0), (263, .iconst 1, 0, 0), (264, .iadd, 0, 0), (265, .iastore, 0, 0), (266, .aload_n 0, 0, 0), (267, .iload_n 1, 0, 0), (268, .invokevirtual 195, 33, 0), (271, .bipush (24), 0, 0), (273, .if_icmp .gt (16), 0, 0), (276, .aload_n 0, 0, 0), (277, .invokevirtual 177, 34, 0), (280, .bipush (120), 0, 0), (282, .if_icmp .gt (7), 0, 0), (285, .iconst 1, 0, 0), (286, .goto (4), 0, 0), (289, .iconst 0, 0, 0), (290, .ireturn, 0, 0)]
def mt_28 : am_M := (⟨"TestFinderModel", "withLine", "()Z"⟩, prog_13_method_17_code, 6, (some .boolean), 1, 10, cd_28)
def cd_29 : am_C := [(0, .aload_n 0, 0, 0), (1, .getfield 153, 10, 5), (4, .iconst 2, 0, 0), (5, .if_icmp .ne (31), 0, 0), (8, .aload_n 0, 0, 0), (9, .getfield 170, 10, 32), (12, .ifCond .eq (24), 0, 0), (15, .aload_n 0, 0, 0), (16, .getfield 19, 10, 7), (19, .iconst 1, 0, 0), (20, .iaload, 0, 0), (21, .aload_n 0, 0, 0), (22, .getfield 16, 10, 6), (25, .iconst 1, 0, 0), (26, .iaload, 0, 0), (27, .iconst 1, 0, 0), (28, .iadd, 0, 0), (29, .if_icmp .ne (7), 0, 0), (32, .iconst 1, 0, 0), (33, .goto (4), 0, 0), (36, .iconst 0, 0, 0), (37, .istore_n 1, 0, 0), (38, .iload_n 1, 0, 0), (39, .ifCond .eq (17), 0, 0), (42, .aload_n 0, 0, 0), (43, .getfield 49, 10, 19), (46, .aload_n 0, 0, 0), (47, .getfield 174, 10, 14), (50, .iconst 1, 0, 0), (51, .isub, 0, 0), (52, .iaload, 0, 0), (53, .ifCond .eq (5), 0, 0), (56, .iconst 0, 0, 0), (57, .ireturn, 0, 0), (58, .aload_n 0, 0, 0), (59, .getfield 13, 10, 4), (62, .aload_n 0, 0, 0), (63, .getfield 16, 10, 6), (66, .iconst 1, 0, 0), (67, .iaload, 0, 0), (68, .iaload, 0, 0), (69, .istore_n 2, 0, 0), (70, .aload_n 0, 0, 0), (71, .getfield 49, 10, 19), (74, .aload_n 0, 0, 0), (75, .getfield 174, 10, 14), (78, .iconst 1, 0, 0), (79, .isub, 0, 0), (80, .iload_n 2, 0, 0), (81, .bipush (48), 0, 0), (83, .isub, 0, 0), (84, .iastore, 0, 0), (85, .iload_n 2, 0, 0), (86, .bipush (49), 0, 0), (88, .if_icmp .lt (13), 0, 0), (91, .iload_n 2, 0, 0), (92, .bipush (57), 0, 0), (94, .if_icmp .gt (7), 0, 0), (97, .iconst 1, 0, 0), (98, .goto (4), 0, 0), (101, .iconst 0, 0, 0), (102, .ireturn, 0, 0)]
def mt_29 : am_M := (⟨"TestFinderModel", "sizeLine", "()Z"⟩, prog_13_method_18_code, 3, (some .boolean), 1, 10, cd_29)
def cd_30 : am_C := [(0, .aload_n 0, 0, 0), (1, .getfield 153, 10, 5), (4, .iconst 2, 0, 0), (5, .if_icmp .lt (25), 0, 0), (8, .aload_n 0, 0, 0), (9, .getfield 170, 10, 32), (12, .ifCond .eq (18), 0, 0), (15, .aload_n 0, 0, 0), (16, .getfield 55, 10, 21), (19, .aload_n 0, 0, 0), (20, .getfield 174, 10, 14), (23, .iconst 1, 0, 0), (24, .isub, 0, 0), (25, .iaload, 0, 0), (26, .iconst (-1), 0, 0), (27, .if_icmp .eq (5), 0, 0), (30, .iconst 0, 0, 0), (31, .ireturn, 0, 0), (32, .aload_n 0, 0, 0), (33, .getfield 52, 10, 20), (36, .aload_n 0, 0, 0), (37, .getfield 174, 10, 14), (40, .iconst 1, 0, 0), (41, .isub, 0, 0), (42, .aload_n 0, 0, 0), (43, .getfield 16, 10, 6), (46, .iconst 1, 0, 0), (47, .iaload, 0, 0), (48, .iastore, 0, 0), (49, .aload_n 0, 0, 0), (50, .getfield 55, 10, 21), (53, .aload_n 0, 0, 0), (54, .getfield 174, 10, 14), (57, .iconst 1, 0, 0), (58, .isub, 0, 0), (59, .aload_n 0, 0, 0), (60, .getfield 19, 10, 7), (63, .aload_n 0, 0, 0), (64, .getfield 153, 10, 5), (67, .iconst 1, 0, 0), (68, .isub, 0, 0), (69, .iaload, 0, 0), (70, .iastore, 0, 0), (71, .iconst 1, 0, 0), (72, .ireturn, 0, 0)]
def mt_30 : am_M := (⟨"TestFinderModel", "skipLine", "()Z"⟩, prog_13_method_19_code, 1, (some .boolean), 1, 10, cd_30)
def cd_31 : am_C := [(0, .aload_n 0, 0, 0), (1, .getfield 153, 10, 5), (4, .iconst 1, 0, 0), (5, .if_icmp .ne (24), 0, 0), (8, .aload_n 0, 0, 0), (9, .getfield 170, 10, 32), (12, .ifCond .eq (17), 0, 0), (15, .aload_n 0, 0, 0), (16, .getfield 58, 10, 22), (19, .aload_n 0, 0, 0), (20, .getfield 174, 10, 14), (23, .iconst 1, 0, 0), (24, .isub, 0, 0), (25, .baload, 0, 0), (26, .ifCond .eq (5), 0, 0), (29, .iconst 0, 0, 0), (30, .ireturn, 0, 0), (31, .aload_n 0, 0, 0), (32, .getfield 58, 10, 22), (35, .aload_n 0, 0, 0), (36, .getfield 174, 10, 14), (39, .iconst 1, 0, 0), (40, .isub, 0, 0), (41, .iconst 1, 0, 0), (42, .bastore, 0, 0), (43, .iconst 1, 0, 0), (44, .ireturn, 0, 0)]
def mt_31 : am_M := (⟨"TestFinderModel", "failsLine", "()Z"⟩, prog_13_method_20_code, 1, (some .boolean), 1, 10, cd_31)
def cd_32 : am_C := [(0, .aload_n 0, 0, 0), (1, .getfield 153, 10, 5), (4, .ifCond .eq (19), 0, 0), (7, .aload_n 0, 0, 0), (8, .getfield 13, 10, 4), (11, .aload_n 0, 0, 0), (12, .getfield 16, 10, 6), (15, .iconst 0, 0, 0), (16, .iaload, 0, 0), (17, .iaload, 0, 0), (18, .bipush (35), 0, 0), (20, .if_icmp .ne (5), 0, 0), (23, .iconst 1, 0, 0), (24, .ireturn, 0, 0), (25, .aload_n 0, 0, 0), (26, .ldc2_w 198, 495891084389, 0), (29, .invokevirtual 200, 18, 0), (32, .ifCond .eq (8), 0, 0), (35, .aload_n 0, 0, 0), (36, .invokevirtual 204, 21, 0), (39, .ireturn, 0, 0), (40, .aload_n 0, 0, 0), (41, .ldc2_w 208, 1667330917, 0), (44, .invokevirtual 200, 18, 0), (47, .ifCond .eq (9), 0, 0), (50, .aload_n 0, 0, 0), (51, .iload_n 1, 0, 0), (52, .invokevirtual 210, 22, 0), (55, .ireturn, 0, 0), (56, .aload_n 0, 0, 0), (57, .ldc2_w 212, 7627111, 0), (60, .invokevirtual 200, 18, 0), (63, .ifCond .eq (8), 0, 0), (66, .aload_n 0, 0, 0), (67, .invokevirtual 214, 27, 0), (70, .ireturn, 0, 0), (71, .aload_n 0, 0, 0), (72, .ldc2_w 217, 2003399784, 0), (75, .invokevirtual 200, 18, 0), (78, .ifCond .eq (8), 0, 0), (81, .aload_n 0, 0, 0), (82, .invokevirtual 219, 28, 0), (85, .ireturn, 0, 0), (86, .aload_n 0, 0, 0), (87, .ldc2_w 222, 1936292453, 0), (90, .invokevirtual 200, 18, 0), (93, .ifCond .eq (8), 0, 0), (96, .aload_n 0, 0, 0), (97, .invokevirtual 224, 29, 0), (100, .ireturn, 0, 0), (101, .aload_n 0, 0, 0), (102, .ldc2_w 227, 1936419184, 0), (105, .invokevirtual 200, 18, 0), (108, .ifCond .eq (8), 0, 0), (111, .aload_n 0, 0, 0), (112, .invokevirtual 229, 30, 0), (115, .ireturn, 0, 0), (116, .aload_n 0, 0, 0), (117, .ldc2_w 232, 439720963187, 0), (120, .invokevirtual 200, 18, 0), (123, .ifCond .eq (14), 0, 0), (126, .aload_n 0, 0, 0), (127, .invokevirtual 234, 31, 0), (130, .ifCond .eq (7), 0, 0), (133, .iconst 1, 0, 0), (134, .goto (4), 0, 0), (137, .iconst 0, 0, 0), (138, .ireturn, 0, 0)]
def mt_32 : am_M := (⟨"TestFinderModel", "lineIs", "(I)Z"⟩, prog_13_method_21_code, 2, (some .boolean), 2, 10, cd_32)
def cd_33 : am_C := [(0, .iconst 1, 0, 0), (1, .istore_n 2, 0, 0), (2, .iconst 4, 0, 0), (3, .iload_n 1, 0, 0), (4, .imul, 0, 0), (5, .istore_n 3, 0, 0), (6, .iload_n 3, 0, 0), (7, .iconst 4, 0, 0), (8, .iload_n 1, 0, 0), (9, .imul, 0, 0), (10, .aload_n 0, 0, 0), (11, .getfield 71, 10, 26), (14, .iload_n 1, 0, 0), (15, .iaload, 0, 0), (16, .iadd, 0, 0), (17, .if_icmp .ge (18), 0, 0), (20, .iload_n 2, 0, 0), (21, .aload_n 0, 0, 0), (22, .getfield 80, 10, 29), (25, .iload_n 3, 0, 0), (26, .iaload, 0, 0), (27, .imul, 0, 0), (28, .istore_n 2, 0, 0), (29, .iinc 3 (1), 0, 0), (32, .goto (-26), 0, 0), (35, .iload_n 2, 0, 0), (36, .ireturn, 0, 0)]
def mt_33 : am_M := (⟨"TestFinderModel", "waysOf", "(I)I"⟩, prog_13_method_22_code, 4, (some .int), 2, 10, cd_33)
def cd_34 : am_C := [(0, .iconst 0, 0, 0), (1, .istore_n 1, 0, 0), (2, .iconst 0, 0, 0), (3, .istore_n 2, 0, 0), (4, .iload_n 2, 0, 0), (5, .aload_n 0, 0, 0), (6, .getfield 174, 10, 14), (9, .if_icmp .ge (17), 0, 0), (12, .iload_n 1, 0, 0), (13, .aload_n 0, 0, 0), (14, .iload_n 2, 0, 0), (15, .invokevirtual 195, 33, 0), (18, .iadd, 0, 0), (19, .istore_n 1, 0, 0), (20, .iinc 2 (1), 0, 0), (23, .goto (-19), 0, 0), (26, .iload_n 1, 0, 0), (27, .ireturn, 0, 0)]
def mt_34 : am_M := (⟨"TestFinderModel", "testMany", "()I"⟩, prog_13_method_23_code, 3, (some .int), 1, 10, cd_34)
def cd_35 : am_C := [(0, .aload_n 0, 0, 0), (1, .iconst 0, 0, 0), (2, .putfield 163, 10, 8), (5, .aload_n 0, 0, 0), (6, .iconst 0, 0, 0), (7, .putfield 174, 10, 14), (10, .aload_n 0, 0, 0), (11, .iconst 0, 0, 0), (12, .putfield 237, 10, 33), (15, .aload_n 0, 0, 0), (16, .iconst 0, 0, 0), (17, .putfield 170, 10, 32), (20, .aload_n 0, 0, 0), (21, .iconst 0, 0, 0), (22, .putfield 240, 10, 38), (25, .return_, 0, 0)]
def mt_35 : am_M := (⟨"TestFinderModel", "nothing", "()V"⟩, prog_13_method_24_code, 1, none, 1, 10, cd_35)
def cd_36 : am_C := [(0, .aload_n 0, 0, 0), (1, .iconst 0, 0, 0), (2, .putfield 140, 10, 0), (5, .iconst 0, 0, 0), (6, .istore_n 1, 0, 0), (7, .iload_n 1, 0, 0), (8, .aload_n 0, 0, 0), (9, .getfield 146, 10, 1), (12, .if_icmp .ge (21), 0, 0), (15, .aload_n 0, 0, 0), (16, .getfield 13, 10, 4), (19, .iload_n 1, 0, 0), (20, .aload_n 0, 0, 0), (21, .getfield 7, 10, 2), (24, .iload_n 1, 0, 0), (25, .iaload, 0, 0), (26, .iastore, 0, 0), (27, .iinc 1 (1), 0, 0), (30, .goto (-23), 0, 0), (33, .aload_n 0, 0, 0), (34, .aload_n 0, 0, 0), (35, .getfield 146, 10, 1), (38, .putfield 243, 10, 3), (41, .aload_n 0, 0, 0), (42, .iconst 0, 0, 0), (43, .putfield 146, 10, 1), (46, .aload_n 0, 0, 0), (47, .invokevirtual 246, 35, 0), (50, .iconst 0, 0, 0), (51, .istore_n 1, 0, 0), (52, .iconst 0, 0, 0), (53, .istore_n 2, 0, 0), (54, .iload_n 1, 0, 0), (55, .aload_n 0, 0, 0), (56, .getfield 243, 10, 3), (59, .if_icmp .ge (60), 0, 0), (62, .iload_n 1, 0, 0), (63, .istore_n 3, 0, 0), (64, .iload_n 3, 0, 0), (65, .aload_n 0, 0, 0), (66, .getfield 243, 10, 3), (69, .if_icmp .ge (20), 0, 0), (72, .aload_n 0, 0, 0), (73, .getfield 13, 10, 4), (76, .iload_n 3, 0, 0), (77, .iaload, 0, 0), (78, .bipush (10), 0, 0), (80, .if_icmp .eq (9), 0, 0), (83, .iinc 3 (1), 0, 0), (86, .goto (-22), 0, 0), (89, .aload_n 0, 0, 0), (90, .iload_n 1, 0, 0), (91, .iload_n 3, 0, 0), (92, .invokevirtual 249, 17, 0), (95, .aload_n 0, 0, 0), (96, .iload_n 2, 0, 0), (97, .invokevirtual 253, 32, 0), (100, .ifCond .ne (9), 0, 0), (103, .aload_n 0, 0, 0), (104, .invokevirtual 246, 35, 0), (107, .iload_n 2, 0, 0), (108, .ireturn, 0, 0), (109, .iinc 2 (1), 0, 0), (112, .iload_n 3, 0, 0), (113, .iconst 1, 0, 0), (114, .iadd, 0, 0), (115, .istore_n 1, 0, 0), (116, .goto (-62), 0, 0), (119, .iconst 0, 0, 0), (120, .istore_n 3, 0, 0), (121, .iload_n 3, 0, 0), (122, .aload_n 0, 0, 0), (123, .getfield 174, 10, 14), (126, .if_icmp .ge (59), 0, 0), (129, .iconst 0, 0, 0), (130, .istore 4, 0, 0), (132, .iload 4, 0, 0), (134, .aload_n 0, 0, 0), (135, .iload_n 3, 0, 0), (136, .invokevirtual 195, 33, 0), (139, .if_icmp .ge (40), 0, 0), (142, .aload_n 0, 0, 0), (143, .getfield 89, 10, 34), (146, .aload_n 0, 0, 0), (147, .getfield 237, 10, 33), (150, .iload_n 3, 0, 0), (151, .iastore, 0, 0), (152, .aload_n 0, 0, 0), (153, .getfield 92, 10, 35), (156, .aload_n 0, 0, 0), (157, .getfield 237, 10, 33), (160, .iload 4, 0, 0), (162, .iastore, 0, 0), (163, .aload_n 0, 0, 0), (164, .dup, 0, 0), (165, .getfield 237, 10, 33), (168, .iconst 1, 0, 0), (169, .iadd, 0, 0), (170, .putfield 237, 10, 33), (173, .iinc 4 (1), 0, 0), (176, .goto (-44), 0, 0), (179, .iinc 3 (1), 0, 0), (182, .goto (-61), 0, 0), (185, .iconst (-1), 0, 0), (186, .ireturn, 0, 0)]
def mt_36 : am_M := (⟨"TestFinderModel", "script", "()I"⟩, prog_13_method_25_code, 5, (some .int), 1, 10, cd_36)
def cd_37 : am_C := [(0, .iload_n 1, 0, 0), (1, .ifCond .lt (15), 0, 0), (4, .iload_n 1, 0, 0), (5, .aload_n 0, 0, 0), (6, .getfield 237, 10, 33), (9, .if_icmp .ge (7), 0, 0), (12, .iconst 1, 0, 0), (13, .goto (4), 0, 0), (16, .iconst 0, 0, 0), (17, .ireturn, 0, 0)]
def mt_37 : am_M := (⟨"TestFinderModel", "isTest", "(I)Z"⟩, prog_13_method_26_code, 2, (some .boolean), 2, 10, cd_37)
def cd_38 : am_C := [(0, .aload_n 0, 0, 0), (1, .getfield 95, 10, 37), (4, .aload_n 0, 0, 0), (5, .getfield 256, 10, 36), (8, .iload_n 1, 0, 0), (9, .iastore, 0, 0), (10, .aload_n 0, 0, 0), (11, .dup, 0, 0), (12, .getfield 256, 10, 36), (15, .iconst 1, 0, 0), (16, .iadd, 0, 0), (17, .putfield 256, 10, 36), (20, .return_, 0, 0)]
def mt_38 : am_M := (⟨"TestFinderModel", "put", "(I)V"⟩, prog_13_method_27_code, 2, none, 2, 10, cd_38)
def cd_39 : am_C := [(0, .iload_n 1, 0, 0), (1, .istore_n 3, 0, 0), (2, .iload_n 3, 0, 0), (3, .iload_n 2, 0, 0), (4, .if_icmp .ge (19), 0, 0), (7, .aload_n 0, 0, 0), (8, .aload_n 0, 0, 0), (9, .getfield 13, 10, 4), (12, .iload_n 3, 0, 0), (13, .iaload, 0, 0), (14, .invokevirtual 259, 38, 0), (17, .iinc 3 (1), 0, 0), (20, .goto (-18), 0, 0), (23, .return_, 0, 0)]
def mt_39 : am_M := (⟨"TestFinderModel", "putAll", "(II)V"⟩, prog_13_method_28_code, 4, none, 3, 10, cd_39)
def cd_40 : am_C := [(0, .aload_n 0, 0, 0), (1, .getfield 89, 10, 34), (4, .iload_n 1, 0, 0), (5, .iaload, 0, 0), (6, .istore_n 3, 0, 0), (7, .aload_n 0, 0, 0), (8, .getfield 92, 10, 35), (11, .iload_n 1, 0, 0), (12, .iaload, 0, 0), (13, .istore 4, 0, 0), (15, .iconst 4, 0, 0), (16, .iload_n 3, 0, 0), (17, .imul, 0, 0), (18, .aload_n 0, 0, 0), (19, .getfield 71, 10, 26), (22, .iload_n 3, 0, 0), (23, .iaload, 0, 0), (24, .iadd, 0, 0), (25, .iconst 1, 0, 0), (26, .isub, 0, 0), (27, .istore 5, 0, 0), (29, .iload 5, 0, 0), (31, .iload_n 2, 0, 0), (32, .if_icmp .le (21), 0, 0), (35, .iload 4, 0, 0), (37, .aload_n 0, 0, 0), (38, .getfield 80, 10, 29), (41, .iload 5, 0, 0), (43, .iaload, 0, 0), (44, .idiv, 0, 0), (45, .istore 4, 0, 0), (47, .iinc 5 (-1), 0, 0), (50, .goto (-21), 0, 0), (53, .bipush (6), 0, 0), (55, .iload_n 2, 0, 0), (56, .imul, 0, 0), (57, .iload 4, 0, 0), (59, .aload_n 0, 0, 0), (60, .getfield 80, 10, 29), (63, .iload_n 2, 0, 0), (64, .iaload, 0, 0), (65, .irem, 0, 0), (66, .iadd, 0, 0), (67, .ireturn, 0, 0)]
def mt_40 : am_M := (⟨"TestFinderModel", "valueOf", "(II)I"⟩, prog_13_method_29_code, 6, (some .int), 3, 10, cd_40)
def cd_41 : am_C := [(0, .aload_n 0, 0, 0), (1, .iconst 0, 0, 0), (2, .putfield 256, 10, 36), (5, .aload_n 0, 0, 0), (6, .getfield 89, 10, 34), (9, .iload_n 1, 0, 0), (10, .iaload, 0, 0), (11, .istore_n 2, 0, 0), (12, .aload_n 0, 0, 0), (13, .getfield 37, 10, 15), (16, .iload_n 2, 0, 0), (17, .iaload, 0, 0), (18, .istore_n 3, 0, 0), (19, .iload_n 3, 0, 0), (20, .ifCond .lt (25), 0, 0), (23, .aload_n 0, 0, 0), (24, .aload_n 0, 0, 0), (25, .getfield 22, 10, 9), (28, .iload_n 3, 0, 0), (29, .iaload, 0, 0), (30, .aload_n 0, 0, 0), (31, .getfield 25, 10, 10), (34, .iload_n 3, 0, 0), (35, .iaload, 0, 0), (36, .invokevirtual 263, 39, 0), (39, .aload_n 0, 0, 0), (40, .bipush (46), 0, 0), (42, .invokevirtual 259, 38, 0), (45, .aload_n 0, 0, 0), (46, .aload_n 0, 0, 0), (47, .getfield 40, 10, 16), (50, .iload_n 2, 0, 0), (51, .iaload, 0, 0), (52, .aload_n 0, 0, 0), (53, .getfield 43, 10, 17), (56, .iload_n 2, 0, 0), (57, .iaload, 0, 0), (58, .invokevirtual 263, 39, 0), (61, .iconst 4, 0, 0), (62, .iload_n 2, 0, 0), (63, .imul, 0, 0), (64, .istore 4, 0, 0), (66, .iload 4, 0, 0), (68, .iconst 4, 0, 0), (69, .iload_n 2, 0, 0), (70, .imul, 0, 0), (71, .aload_n 0, 0, 0), (72, .getfield 71, 10, 26), (75, .iload_n 2, 0, 0), (76, .iaload, 0, 0), (77, .iadd, 0, 0), (78, .if_icmp .ge (80), 0, 0), (81, .aload_n 0, 0, 0), (82, .iload 4, 0, 0), (84, .iconst 4, 0, 0), (85, .iload_n 2, 0, 0), (86, .imul, 0, 0), (87, .if_icmp .ne (8), 0, 0), (90, .bipush (91), 0, 0), (92, .goto (5), 0, 0), (95, .bipush (44), 0, 0), (97, .invokevirtual 259, 38, 0), (100, .aload_n 0, 0, 0), (101, .aload_n 0, 0, 0), (102, .getfield 74, 10, 27), (105, .iload 4, 0, 0), (107, .iaload, 0, 0), (108, .aload_n 0, 0, 0), (109, .getfield 77, 10, 28), (112, .iload 4, 0, 0), (114, .iaload, 0, 0), (115, .invokevirtual 263, 39, 0), (118, .aload_n 0, 0, 0), (119, .bipush (61), 0, 0), (121, .invokevirtual 259, 38, 0), (124, .aload_n 0, 0, 0), (125, .aload_n 0, 0, 0), (126, .getfield 83, 10, 30), (129, .aload_n 0, 0, 0), (130, .iload_n 1, 0, 0), (131, .iload 4, 0, 0), (133, .invokevirtual 266, 40, 0), (136, .iaload, 0, 0), (137, .aload_n 0, 0, 0), (138, .getfield 86, 10, 31), (141, .aload_n 0, 0, 0), (142, .iload_n 1, 0, 0), (143, .iload 4, 0, 0), (145, .invokevirtual 266, 40, 0), (148, .iaload, 0, 0), (149, .invokevirtual 263, 39, 0), (152, .iinc 4 (1), 0, 0), (155, .goto (-89), 0, 0), (158, .aload_n 0, 0, 0), (159, .getfield 71, 10, 26), (162, .iload_n 2, 0, 0), (163, .iaload, 0, 0), (164, .ifCond .le (9), 0, 0), (167, .aload_n 0, 0, 0), (168, .bipush (93), 0, 0), (170, .invokevirtual 259, 38, 0), (173, .return_, 0, 0)]
def mt_41 : am_M := (⟨"TestFinderModel", "writeName", "(I)V"⟩, prog_13_method_30_code, 5, none, 2, 10, cd_41)
def cd_42 : am_C := [(0, .aload_n 0, 0, 0), (1, .iconst 0, 0, 0), (2, .putfield 140, 10, 0), (5, .iload_n 1, 0, 0), (6, .ifCond .ne (10), 0, 0), (9, .aload_n 0, 0, 0), (10, .getfield 163, 10, 8), (13, .goto (28), 0, 0), (16, .iload_n 1, 0, 0), (17, .iconst 1, 0, 0), (18, .if_icmp .ne (10), 0, 0), (21, .aload_n 0, 0, 0), (22, .getfield 174, 10, 14), (25, .goto (16), 0, 0), (28, .iload_n 1, 0, 0), (29, .iconst 2, 0, 0), (30, .if_icmp .ne (10), 0, 0), (33, .aload_n 0, 0, 0), (34, .getfield 237, 10, 33), (37, .goto (4), 0, 0), (40, .iconst (-1), 0, 0), (41, .ireturn, 0, 0)]
def mt_42 : am_M := (⟨"TestFinderModel", "count", "(I)I"⟩, prog_13_method_31_code, 2, (some .int), 2, 10, cd_42)
def cd_43 : am_C := [(0, .aload_n 0, 0, 0), (1, .getfield 55, 10, 21), (4, .iload_n 1, 0, 0), (5, .iaload, 0, 0), (6, .iconst (-1), 0, 0), (7, .if_icmp .eq (7), 0, 0), (10, .iconst 1, 0, 0), (11, .goto (4), 0, 0), (14, .iconst 0, 0, 0), (15, .ireturn, 0, 0)]
def mt_43 : am_M := (⟨"TestFinderModel", "isSkipped", "(I)Z"⟩, prog_13_method_32_code, 2, (some .boolean), 2, 10, cd_43)
def cd_44 : am_C := [(0, .aload_n 0, 0, 0), (1, .getfield 49, 10, 19), (4, .iload_n 1, 0, 0), (5, .iaload, 0, 0), (6, .ifCond .ne (7), 0, 0), (9, .iconst 1, 0, 0), (10, .goto (9), 0, 0), (13, .aload_n 0, 0, 0), (14, .getfield 49, 10, 19), (17, .iload_n 1, 0, 0), (18, .iaload, 0, 0), (19, .ireturn, 0, 0)]
def mt_44 : am_M := (⟨"TestFinderModel", "sizeOf", "(I)I"⟩, prog_13_method_33_code, 2, (some .int), 2, 10, cd_44)
def cd_45 : am_C := [(0, .aload_n 0, 0, 0), (1, .iconst 0, 0, 0), (2, .putfield 140, 10, 0), (5, .aload_n 0, 0, 0), (6, .iload_n 1, 0, 0), (7, .invokevirtual 270, 37, 0), (10, .ifCond .ne (5), 0, 0), (13, .iconst (-1), 0, 0), (14, .ireturn, 0, 0), (15, .aload_n 0, 0, 0), (16, .getfield 89, 10, 34), (19, .iload_n 1, 0, 0), (20, .iaload, 0, 0), (21, .istore_n 3, 0, 0), (22, .iload_n 2, 0, 0), (23, .tableswitch (123) (0) (8) #[49, 51, 58, 64, 78, 93, 99, 106, 116], 49, 0), (72, .iload_n 3, 0, 0), (73, .ireturn, 0, 0), (74, .aload_n 0, 0, 0), (75, .getfield 37, 10, 15), (78, .iload_n 3, 0, 0), (79, .iaload, 0, 0), (80, .ireturn, 0, 0), (81, .aload_n 0, 0, 0), (82, .iload_n 3, 0, 0), (83, .invokevirtual 273, 44, 0), (86, .ireturn, 0, 0), (87, .aload_n 0, 0, 0), (88, .iload_n 3, 0, 0), (89, .invokevirtual 276, 43, 0), (92, .ifCond .eq (7), 0, 0), (95, .iconst 1, 0, 0), (96, .goto (4), 0, 0), (99, .iconst 0, 0, 0), (100, .ireturn, 0, 0), (101, .aload_n 0, 0, 0), (102, .getfield 58, 10, 22), (105, .iload_n 3, 0, 0), (106, .baload, 0, 0), (107, .ifCond .eq (7), 0, 0), (110, .iconst 1, 0, 0), (111, .goto (4), 0, 0), (114, .iconst 0, 0, 0), (115, .ireturn, 0, 0), (116, .aload_n 0, 0, 0), (117, .iload_n 3, 0, 0), (118, .invokevirtual 188, 25, 0), (121, .ireturn, 0, 0), (122, .aload_n 0, 0, 0), (123, .getfield 71, 10, 26), (126, .iload_n 3, 0, 0), (127, .iaload, 0, 0), (128, .ireturn, 0, 0), (129, .aload_n 0, 0, 0), (130, .iload_n 1, 0, 0), (131, .invokevirtual 279, 41, 0), (134, .aload_n 0, 0, 0), (135, .getfield 256, 10, 36), (138, .ireturn, 0, 0), (139, .aload_n 0, 0, 0), (140, .getfield 46, 10, 18), (143, .iload_n 3, 0, 0), (144, .iaload, 0, 0), (145, .ireturn, 0, 0), (146, .iconst (-1), 0, 0), (147, .ireturn, 0, 0)]
def mt_45 : am_M := (⟨"TestFinderModel", "test", "(II)I"⟩, prog_13_method_34_code, 4, (some .int), 3, 10, cd_45)
def cd_46 : am_C := [(0, .aload_n 0, 0, 0), (1, .iconst 0, 0, 0), (2, .putfield 140, 10, 0), (5, .aload_n 0, 0, 0), (6, .iload_n 1, 0, 0), (7, .invokevirtual 270, 37, 0), (10, .ifCond .eq (7), 0, 0), (13, .iload_n 2, 0, 0), (14, .ifCond .ge (5), 0, 0), (17, .iconst (-1), 0, 0), (18, .ireturn, 0, 0), (19, .aload_n 0, 0, 0), (20, .iload_n 1, 0, 0), (21, .invokevirtual 279, 41, 0), (24, .iload_n 2, 0, 0), (25, .aload_n 0, 0, 0), (26, .getfield 256, 10, 36), (29, .if_icmp .ge (12), 0, 0), (32, .aload_n 0, 0, 0), (33, .getfield 95, 10, 37), (36, .iload_n 2, 0, 0), (37, .iaload, 0, 0), (38, .goto (4), 0, 0), (41, .iconst (-1), 0, 0), (42, .ireturn, 0, 0)]
def mt_46 : am_M := (⟨"TestFinderModel", "letter", "(II)I"⟩, prog_13_method_35_code, 3, (some .int), 3, 10, cd_46)
def cd_47 : am_C := [(0, .aload_n 0, 0, 0), (1, .iconst 0, 0, 0), (2, .putfield 140, 10, 0), (5, .aload_n 0, 0, 0), (6, .iload_n 1, 0, 0), (7, .invokevirtual 270, 37, 0), (10, .ifCond .eq (20), 0, 0), (13, .iload_n 2, 0, 0), (14, .ifCond .lt (16), 0, 0), (17, .aload_n 0, 0, 0), (18, .aload_n 0, 0, 0), (19, .getfield 89, 10, 34), (22, .iload_n 1, 0, 0), (23, .iaload, 0, 0), (24, .invokevirtual 276, 43, 0), (27, .ifCond .ne (5), 0, 0), (30, .iconst (-1), 0, 0), (31, .ireturn, 0, 0), (32, .aload_n 0, 0, 0), (33, .getfield 89, 10, 34), (36, .iload_n 1, 0, 0), (37, .iaload, 0, 0), (38, .istore_n 3, 0, 0), (39, .iload_n 2, 0, 0), (40, .aload_n 0, 0, 0), (41, .getfield 55, 10, 21), (44, .iload_n 3, 0, 0), (45, .iaload, 0, 0), (46, .aload_n 0, 0, 0), (47, .getfield 52, 10, 20), (50, .iload_n 3, 0, 0), (51, .iaload, 0, 0), (52, .isub, 0, 0), (53, .if_icmp .ge (19), 0, 0), (56, .aload_n 0, 0, 0), (57, .getfield 13, 10, 4), (60, .aload_n 0, 0, 0), (61, .getfield 52, 10, 20), (64, .iload_n 3, 0, 0), (65, .iaload, 0, 0), (66, .iload_n 2, 0, 0), (67, .iadd, 0, 0), (68, .iaload, 0, 0), (69, .goto (4), 0, 0), (72, .iconst (-1), 0, 0), (73, .ireturn, 0, 0)]
def mt_47 : am_M := (⟨"TestFinderModel", "reason", "(II)I"⟩, prog_13_method_36_code, 4, (some .int), 3, 10, cd_47)
def cd_48 : am_C := [(0, .aload_n 0, 0, 0), (1, .iconst 0, 0, 0), (2, .putfield 140, 10, 0), (5, .aload_n 0, 0, 0), (6, .getfield 146, 10, 1), (9, .istore_n 1, 0, 0), (10, .aload_n 0, 0, 0), (11, .iconst 0, 0, 0), (12, .putfield 146, 10, 1), (15, .iconst 0, 0, 0), (16, .istore_n 2, 0, 0), (17, .iload_n 2, 0, 0), (18, .aload_n 0, 0, 0), (19, .getfield 237, 10, 33), (22, .if_icmp .ge (76), 0, 0), (25, .aload_n 0, 0, 0), (26, .iload_n 2, 0, 0), (27, .invokevirtual 279, 41, 0), (30, .aload_n 0, 0, 0), (31, .getfield 256, 10, 36), (34, .iload_n 1, 0, 0), (35, .if_icmp .ne (7), 0, 0), (38, .iconst 1, 0, 0), (39, .goto (4), 0, 0), (42, .iconst 0, 0, 0), (43, .istore_n 3, 0, 0), (44, .iconst 0, 0, 0), (45, .istore 4, 0, 0), (47, .iload 4, 0, 0), (49, .iload_n 1, 0, 0), (50, .if_icmp .ge (36), 0, 0), (53, .iload_n 3, 0, 0), (54, .ifCond .eq (32), 0, 0), (57, .aload_n 0, 0, 0), (58, .getfield 95, 10, 37), (61, .iload 4, 0, 0), (63, .iaload, 0, 0), (64, .aload_n 0, 0, 0), (65, .getfield 7, 10, 2), (68, .iload 4, 0, 0), (70, .iaload, 0, 0), (71, .if_icmp .ne (7), 0, 0), (74, .iconst 1, 0, 0), (75, .goto (4), 0, 0), (78, .iconst 0, 0, 0), (79, .istore_n 3, 0, 0), (80, .iinc 4 (1), 0, 0), (83, .goto (-36), 0, 0), (86, .iload_n 3, 0, 0), (87, .ifCond .eq (5), 0, 0), (90, .iload_n 2, 0, 0), (91, .ireturn, 0, 0), (92, .iinc 2 (1), 0, 0), (95, .goto (-78), 0, 0), (98, .iconst (-1), 0, 0), (99, .ireturn, 0, 0)]
def mt_48 : am_M := (⟨"TestFinderModel", "find", "()I"⟩, prog_13_method_37_code, 5, (some .int), 1, 10, cd_48)
def cd_49 : am_C := [(0, .aload_n 0, 0, 0), (1, .getfield 282, 10, 54), (4, .aload_n 0, 0, 0), (5, .getfield 285, 10, 46), (8, .if_icmp .ge (15), 0, 0), (11, .aload_n 0, 0, 0), (12, .getfield 116, 10, 48), (15, .aload_n 0, 0, 0), (16, .getfield 282, 10, 54), (19, .iaload, 0, 0), (20, .goto (4), 0, 0), (23, .iconst 0, 0, 0), (24, .ireturn, 0, 0)]
def mt_49 : am_M := (⟨"TestFinderModel", "look", "()I"⟩, prog_13_method_38_code, 1, (some .int), 1, 10, cd_49)
def cd_50 : am_C := [(0, .aload_n 0, 0, 0), (1, .invokevirtual 288, 49, 0), (4, .bipush (32), 0, 0), (6, .if_icmp .ne (16), 0, 0), (9, .aload_n 0, 0, 0), (10, .dup, 0, 0), (11, .getfield 282, 10, 54), (14, .iconst 1, 0, 0), (15, .iadd, 0, 0), (16, .putfield 282, 10, 54), (19, .goto (-19), 0, 0), (22, .return_, 0, 0)]
def mt_50 : am_M := (⟨"TestFinderModel", "blanks", "()V"⟩, prog_13_method_39_code, 1, none, 1, 10, cd_50)
def cd_51 : am_C := [(0, .aload_n 0, 0, 0), (1, .getfield 291, 10, 55), (4, .iconst (-1), 0, 0), (5, .if_icmp .ne (11), 0, 0), (8, .aload_n 0, 0, 0), (9, .aload_n 0, 0, 0), (10, .getfield 282, 10, 54), (13, .putfield 291, 10, 55), (16, .return_, 0, 0)]
def mt_51 : am_M := (⟨"TestFinderModel", "fail", "()V"⟩, prog_13_method_40_code, 1, none, 1, 10, cd_51)
def cd_52 : am_C := [(0, .aload_n 0, 0, 0), (1, .getfield 119, 10, 49), (4, .aload_n 0, 0, 0), (5, .getfield 294, 10, 47), (8, .iload_n 1, 0, 0), (9, .iastore, 0, 0), (10, .aload_n 0, 0, 0), (11, .getfield 122, 10, 50), (14, .aload_n 0, 0, 0), (15, .getfield 294, 10, 47), (18, .iconst 0, 0, 0), (19, .iastore, 0, 0), (20, .aload_n 0, 0, 0), (21, .getfield 125, 10, 51), (24, .aload_n 0, 0, 0), (25, .getfield 294, 10, 47), (28, .iconst 0, 0, 0), (29, .iastore, 0, 0), (30, .aload_n 0, 0, 0), (31, .getfield 128, 10, 52), (34, .aload_n 0, 0, 0), (35, .getfield 294, 10, 47), (38, .iconst 0, 0, 0), (39, .iastore, 0, 0), (40, .aload_n 0, 0, 0), (41, .getfield 131, 10, 53), (44, .aload_n 0, 0, 0), (45, .getfield 294, 10, 47), (48, .iconst 0, 0, 0), (49, .iastore, 0, 0), (50, .aload_n 0, 0, 0), (51, .dup, 0, 0), (52, .getfield 294, 10, 47), (55, .iconst 1, 0, 0), (56, .iadd, 0, 0), (57, .putfield 294, 10, 47), (60, .return_, 0, 0)]
def mt_52 : am_M := (⟨"TestFinderModel", "emit", "(I)V"⟩, prog_13_method_41_code, 2, none, 2, 10, cd_52)
def cd_53 : am_C := [(0, .aload_n 0, 0, 0), (1, .invokevirtual 297, 50, 0), (4, .aload_n 0, 0, 0), (5, .getfield 282, 10, 54), (8, .istore_n 2, 0, 0), (9, .iload_n 1, 0, 0), (10, .ifCond .eq (16), 0, 0), (13, .aload_n 0, 0, 0), (14, .invokevirtual 288, 49, 0), (17, .invokestatic 149, 15, 0), (20, .ifCond .ne (22), 0, 0), (23, .goto (13), 0, 0), (26, .aload_n 0, 0, 0), (27, .invokevirtual 288, 49, 0), (30, .invokestatic 156, 16, 0), (33, .ifCond .ne (9), 0, 0), (36, .aload_n 0, 0, 0), (37, .invokevirtual 300, 51, 0), (40, .iload_n 2, 0, 0), (41, .ireturn, 0, 0), (42, .aload_n 0, 0, 0), (43, .invokevirtual 288, 49, 0), (46, .invokestatic 156, 16, 0), (49, .ifCond .eq (27), 0, 0), (52, .aload_n 0, 0, 0), (53, .getfield 282, 10, 54), (56, .iload_n 2, 0, 0), (57, .bipush (12), 0, 0), (59, .iadd, 0, 0), (60, .if_icmp .ge (16), 0, 0), (63, .aload_n 0, 0, 0), (64, .dup, 0, 0), (65, .getfield 282, 10, 54), (68, .iconst 1, 0, 0), (69, .iadd, 0, 0), (70, .putfield 282, 10, 54), (73, .goto (-31), 0, 0), (76, .aload_n 0, 0, 0), (77, .invokevirtual 288, 49, 0), (80, .invokestatic 156, 16, 0), (83, .ifCond .eq (7), 0, 0), (86, .aload_n 0, 0, 0), (87, .invokevirtual 300, 51, 0), (90, .iload_n 2, 0, 0), (91, .ireturn, 0, 0)]
def mt_53 : am_M := (⟨"TestFinderModel", "word", "(Z)I"⟩, prog_13_method_42_code, 3, (some .int), 2, 10, cd_53)
def cd_54 : am_C := [(0, .aload_n 0, 0, 0), (1, .getfield 303, 10, 56), (4, .bipush (12), 0, 0), (6, .if_icmp .ne (8), 0, 0), (9, .aload_n 0, 0, 0), (10, .invokevirtual 300, 51, 0), (13, .return_, 0, 0), (14, .aload_n 0, 0, 0), (15, .dup, 0, 0), (16, .getfield 303, 10, 56), (19, .iconst 1, 0, 0), (20, .iadd, 0, 0), (21, .putfield 303, 10, 56), (24, .aload_n 0, 0, 0), (25, .getfield 134, 10, 58), (28, .aload_n 0, 0, 0), (29, .getfield 306, 10, 57), (32, .iload_n 1, 0, 0), (33, .iastore, 0, 0), (34, .aload_n 0, 0, 0), (35, .dup, 0, 0), (36, .getfield 306, 10, 57), (39, .iconst 1, 0, 0), (40, .iadd, 0, 0), (41, .putfield 306, 10, 57), (44, .aload_n 0, 0, 0), (45, .dup, 0, 0), (46, .getfield 282, 10, 54), (49, .iconst 1, 0, 0), (50, .iadd, 0, 0), (51, .putfield 282, 10, 54), (54, .return_, 0, 0)]
def mt_54 : am_M := (⟨"TestFinderModel", "opens", "(I)V"⟩, prog_13_method_43_code, 2, none, 2, 10, cd_54)
def cd_55 : am_C := [(0, .aload_n 0, 0, 0), (1, .iconst 1, 0, 0), (2, .invokevirtual 309, 53, 0), (5, .istore_n 1, 0, 0), (6, .aload_n 0, 0, 0), (7, .getfield 282, 10, 54), (10, .istore_n 2, 0, 0), (11, .aload_n 0, 0, 0), (12, .iconst 1, 0, 0), (13, .invokevirtual 313, 52, 0), (16, .aload_n 0, 0, 0), (17, .getfield 122, 10, 50), (20, .aload_n 0, 0, 0), (21, .getfield 294, 10, 47), (24, .iconst 1, 0, 0), (25, .isub, 0, 0), (26, .iload_n 1, 0, 0), (27, .iastore, 0, 0), (28, .aload_n 0, 0, 0), (29, .getfield 125, 10, 51), (32, .aload_n 0, 0, 0), (33, .getfield 294, 10, 47), (36, .iconst 1, 0, 0), (37, .isub, 0, 0), (38, .iload_n 2, 0, 0), (39, .iastore, 0, 0), (40, .aload_n 0, 0, 0), (41, .getfield 291, 10, 55), (44, .iconst (-1), 0, 0), (45, .if_icmp .eq (4), 0, 0), (48, .return_, 0, 0), (49, .aload_n 0, 0, 0), (50, .invokevirtual 297, 50, 0), (53, .aload_n 0, 0, 0), (54, .invokevirtual 288, 49, 0), (57, .bipush (58), 0, 0), (59, .if_icmp .eq (4), 0, 0), (62, .return_, 0, 0), (63, .aload_n 0, 0, 0), (64, .dup, 0, 0), (65, .getfield 282, 10, 54), (68, .iconst 1, 0, 0), (69, .iadd, 0, 0), (70, .putfield 282, 10, 54), (73, .aload_n 0, 0, 0), (74, .getfield 119, 10, 49), (77, .aload_n 0, 0, 0), (78, .getfield 294, 10, 47), (81, .iconst 1, 0, 0), (82, .isub, 0, 0), (83, .iconst 4, 0, 0), (84, .iastore, 0, 0), (85, .aload_n 0, 0, 0), (86, .getfield 128, 10, 52), (89, .aload_n 0, 0, 0), (90, .getfield 294, 10, 47), (93, .iconst 1, 0, 0), (94, .isub, 0, 0), (95, .aload_n 0, 0, 0), (96, .iconst 0, 0, 0), (97, .invokevirtual 309, 53, 0), (100, .iastore, 0, 0), (101, .aload_n 0, 0, 0), (102, .getfield 131, 10, 53), (105, .aload_n 0, 0, 0), (106, .getfield 294, 10, 47), (109, .iconst 1, 0, 0), (110, .isub, 0, 0), (111, .aload_n 0, 0, 0), (112, .getfield 282, 10, 54), (115, .iastore, 0, 0), (116, .return_, 0, 0)]
def mt_55 : am_M := (⟨"TestFinderModel", "tagOrValue", "()V"⟩, prog_13_method_44_code, 3, none, 1, 10, cd_55)
def cd_56 : am_C := [(0, .aload_n 0, 0, 0), (1, .dup, 0, 0), (2, .getfield 282, 10, 54), (5, .iconst 1, 0, 0), (6, .iadd, 0, 0), (7, .putfield 282, 10, 54), (10, .aload_n 0, 0, 0), (11, .iconst 1, 0, 0), (12, .invokevirtual 309, 53, 0), (15, .istore_n 2, 0, 0), (16, .aload_n 0, 0, 0), (17, .iload_n 1, 0, 0), (18, .invokevirtual 313, 52, 0), (21, .aload_n 0, 0, 0), (22, .getfield 122, 10, 50), (25, .aload_n 0, 0, 0), (26, .getfield 294, 10, 47), (29, .iconst 1, 0, 0), (30, .isub, 0, 0), (31, .iload_n 2, 0, 0), (32, .iastore, 0, 0), (33, .aload_n 0, 0, 0), (34, .getfield 125, 10, 51), (37, .aload_n 0, 0, 0), (38, .getfield 294, 10, 47), (41, .iconst 1, 0, 0), (42, .isub, 0, 0), (43, .aload_n 0, 0, 0), (44, .getfield 282, 10, 54), (47, .iastore, 0, 0), (48, .return_, 0, 0)]
def mt_56 : am_M := (⟨"TestFinderModel", "nameBehind", "(I)V"⟩, prog_13_method_45_code, 3, none, 2, 10, cd_56)
def cd_57 : am_C := [(0, .aload_n 0, 0, 0), (1, .dup, 0, 0), (2, .getfield 282, 10, 54), (5, .iconst 1, 0, 0), (6, .iadd, 0, 0), (7, .putfield 282, 10, 54), (10, .aload_n 0, 0, 0), (11, .invokevirtual 297, 50, 0), (14, .aload_n 0, 0, 0), (15, .invokevirtual 288, 49, 0), (18, .istore_n 1, 0, 0), (19, .iload_n 1, 0, 0), (20, .bipush (49), 0, 0), (22, .if_icmp .lt (9), 0, 0), (25, .iload_n 1, 0, 0), (26, .bipush (57), 0, 0), (28, .if_icmp .le (8), 0, 0), (31, .aload_n 0, 0, 0), (32, .invokevirtual 300, 51, 0), (35, .return_, 0, 0), (36, .aload_n 0, 0, 0), (37, .iconst 5, 0, 0), (38, .invokevirtual 313, 52, 0), (41, .aload_n 0, 0, 0), (42, .getfield 128, 10, 52), (45, .aload_n 0, 0, 0), (46, .getfield 294, 10, 47), (49, .iconst 1, 0, 0), (50, .isub, 0, 0), (51, .iload_n 1, 0, 0), (52, .bipush (48), 0, 0), (54, .isub, 0, 0), (55, .iastore, 0, 0), (56, .aload_n 0, 0, 0), (57, .dup, 0, 0), (58, .getfield 282, 10, 54), (61, .iconst 1, 0, 0), (62, .iadd, 0, 0), (63, .putfield 282, 10, 54), (66, .return_, 0, 0)]
def mt_57 : am_M := (⟨"TestFinderModel", "less", "()V"⟩, prog_13_method_46_code, 2, none, 1, 10, cd_57)
def cd_58 : am_C := [(0, .aload_n 0, 0, 0), (1, .invokevirtual 297, 50, 0), (4, .aload_n 0, 0, 0), (5, .invokevirtual 288, 49, 0), (8, .istore_n 1, 0, 0), (9, .iload_n 1, 0, 0), (10, .bipush (33), 0, 0), (12, .if_icmp .eq (9), 0, 0), (15, .iload_n 1, 0, 0), (16, .bipush (40), 0, 0), (18, .if_icmp .ne (10), 0, 0), (21, .aload_n 0, 0, 0), (22, .iload_n 1, 0, 0), (23, .invokevirtual 316, 54, 0), (26, .iconst 0, 0, 0), (27, .ireturn, 0, 0), (28, .iload_n 1, 0, 0), (29, .invokestatic 149, 15, 0), (32, .ifCond .eq (10), 0, 0), (35, .aload_n 0, 0, 0), (36, .invokevirtual 319, 55, 0), (39, .goto (92), 0, 0), (42, .iload_n 1, 0, 0), (43, .bipush (64), 0, 0), (45, .if_icmp .eq (9), 0, 0), (48, .iload_n 1, 0, 0), (49, .bipush (61), 0, 0), (51, .if_icmp .ne (21), 0, 0), (54, .aload_n 0, 0, 0), (55, .iload_n 1, 0, 0), (56, .bipush (64), 0, 0), (58, .if_icmp .ne (7), 0, 0), (61, .iconst 2, 0, 0), (62, .goto (4), 0, 0), (65, .iconst 3, 0, 0), (66, .invokevirtual 322, 56, 0), (69, .goto (62), 0, 0), (72, .iload_n 1, 0, 0), (73, .bipush (60), 0, 0), (75, .if_icmp .ne (10), 0, 0), (78, .aload_n 0, 0, 0), (79, .invokevirtual 325, 57, 0), (82, .goto (49), 0, 0), (85, .iload_n 1, 0, 0), (86, .bipush (63), 0, 0), (88, .if_icmp .eq (9), 0, 0), (91, .iload_n 1, 0, 0), (92, .bipush (126), 0, 0), (94, .if_icmp .ne (33), 0, 0), (97, .aload_n 0, 0, 0), (98, .iload_n 1, 0, 0), (99, .bipush (63), 0, 0), (101, .if_icmp .ne (8), 0, 0), (104, .bipush (6), 0, 0), (106, .goto (5), 0, 0), (109, .bipush (7), 0, 0), (111, .invokevirtual 313, 52, 0), (114, .aload_n 0, 0, 0), (115, .dup, 0, 0), (116, .getfield 282, 10, 54), (119, .iconst 1, 0, 0), (120, .iadd, 0, 0), (121, .putfield 282, 10, 54), (124, .goto (7), 0, 0), (127, .aload_n 0, 0, 0), (128, .invokevirtual 300, 51, 0), (131, .aload_n 0, 0, 0), (132, .getfield 291, 10, 55), (135, .iconst (-1), 0, 0), (136, .if_icmp .ne (7), 0, 0), (139, .iconst 1, 0, 0), (140, .goto (4), 0, 0), (143, .iconst 0, 0, 0), (144, .ireturn, 0, 0)]
def mt_58 : am_M := (⟨"TestFinderModel", "term", "()Z"⟩, prog_13_method_47_code, 2, (some .boolean), 1, 10, cd_58)
def cd_59 : am_C := [(0, .aload_n 0, 0, 0), (1, .getfield 306, 10, 57), (4, .ifCond .ne (7), 0, 0), (7, .iconst 0, 0, 0), (8, .goto (14), 0, 0), (11, .aload_n 0, 0, 0), (12, .getfield 134, 10, 58), (15, .aload_n 0, 0, 0), (16, .getfield 306, 10, 57), (19, .iconst 1, 0, 0), (20, .isub, 0, 0), (21, .iaload, 0, 0), (22, .ireturn, 0, 0)]
def mt_59 : am_M := (⟨"TestFinderModel", "top", "()I"⟩, prog_13_method_48_code, 1, (some .int), 1, 10, cd_59)
def cd_60 : am_C := [(0, .aload_n 0, 0, 0), (1, .dup, 0, 0), (2, .getfield 306, 10, 57), (5, .iconst 1, 0, 0), (6, .isub, 0, 0), (7, .putfield 306, 10, 57), (10, .aload_n 0, 0, 0), (11, .aload_n 0, 0, 0), (12, .getfield 134, 10, 58), (15, .aload_n 0, 0, 0), (16, .getfield 306, 10, 57), (19, .iaload, 0, 0), (20, .invokevirtual 313, 52, 0), (23, .return_, 0, 0)]
def mt_60 : am_M := (⟨"TestFinderModel", "drop", "()V"⟩, prog_13_method_49_code, 1, none, 1, 10, cd_60)
def cd_61 : am_C := [(0, .aload_n 0, 0, 0), (1, .invokevirtual 328, 59, 0), (4, .bipush (33), 0, 0), (6, .if_icmp .ne (20), 0, 0), (9, .aload_n 0, 0, 0), (10, .invokevirtual 331, 60, 0), (13, .aload_n 0, 0, 0), (14, .dup, 0, 0), (15, .getfield 303, 10, 56), (18, .iconst 1, 0, 0), (19, .isub, 0, 0), (20, .putfield 303, 10, 56), (23, .goto (-23), 0, 0), (26, .return_, 0, 0)]
def mt_61 : am_M := (⟨"TestFinderModel", "turnRound", "()V"⟩, prog_13_method_50_code, 1, none, 1, 10, cd_61)
def cd_62 : am_C := [(0, .aload_n 0, 0, 0), (1, .invokevirtual 297, 50, 0), (4, .aload_n 0, 0, 0), (5, .invokevirtual 288, 49, 0), (8, .istore_n 1, 0, 0), (9, .aload_n 0, 0, 0), (10, .invokevirtual 328, 59, 0), (13, .bipush (38), 0, 0), (15, .if_icmp .eq (18), 0, 0), (18, .aload_n 0, 0, 0), (19, .invokevirtual 328, 59, 0), (22, .bipush (124), 0, 0), (24, .if_icmp .ne (16), 0, 0), (27, .iload_n 1, 0, 0), (28, .bipush (38), 0, 0), (30, .if_icmp .eq (10), 0, 0), (33, .aload_n 0, 0, 0), (34, .invokevirtual 331, 60, 0), (37, .goto (-28), 0, 0), (40, .aload_n 0, 0, 0), (41, .getfield 282, 10, 54), (44, .aload_n 0, 0, 0), (45, .getfield 285, 10, 46), (48, .if_icmp .ne (16), 0, 0), (51, .aload_n 0, 0, 0), (52, .getfield 306, 10, 57), (55, .ifCond .le (7), 0, 0), (58, .aload_n 0, 0, 0), (59, .invokevirtual 300, 51, 0), (62, .iconst 0, 0, 0), (63, .ireturn, 0, 0), (64, .iload_n 1, 0, 0), (65, .bipush (38), 0, 0), (67, .if_icmp .eq (9), 0, 0), (70, .iload_n 1, 0, 0), (71, .bipush (124), 0, 0), (73, .if_icmp .ne (35), 0, 0), (76, .aload_n 0, 0, 0), (77, .getfield 134, 10, 58), (80, .aload_n 0, 0, 0), (81, .getfield 306, 10, 57), (84, .iload_n 1, 0, 0), (85, .iastore, 0, 0), (86, .aload_n 0, 0, 0), (87, .dup, 0, 0), (88, .getfield 306, 10, 57), (91, .iconst 1, 0, 0), (92, .iadd, 0, 0), (93, .putfield 306, 10, 57), (96, .aload_n 0, 0, 0), (97, .dup, 0, 0), (98, .getfield 282, 10, 54), (101, .iconst 1, 0, 0), (102, .iadd, 0, 0), (103, .putfield 282, 10, 54), (106, .iconst 1, 0, 0), (107, .ireturn, 0, 0), (108, .iload_n 1, 0, 0), (109, .bipush (41), 0, 0), (111, .if_icmp .ne (12), 0, 0), (114, .aload_n 0, 0, 0), (115, .invokevirtual 328, 59, 0), (118, .bipush (40), 0, 0), (120, .if_icmp .eq (9), 0, 0), (123, .aload_n 0, 0, 0), (124, .invokevirtual 300, 51, 0), (127, .iconst 0, 0, 0), (128, .ireturn, 0, 0), (129, .aload_n 0, 0, 0), (130, .dup, 0, 0), (131, .getfield 306, 10, 57), (134, .iconst 1, 0, 0), (135, .isub, 0, 0), (136, .putfield 306, 10, 57), (139, .aload_n 0, 0, 0), (140, .dup, 0, 0), (141, .getfield 303, 10, 56), (144, .iconst 1, 0, 0), (145, .isub, 0, 0), (146, .putfield 303, 10, 56), (149, .aload_n 0, 0, 0), (150, .dup, 0, 0), (151, .getfield 282, 10, 54), (154, .iconst 1, 0, 0), (155, .iadd, 0, 0), (156, .putfield 282, 10, 54), (159, .aload_n 0, 0, 0), (160, .invokevirtual 334, 61, 0), (163, .iconst 2, 0, 0), (164, .ireturn, 0, 0)]
def mt_62 : am_M := (⟨"TestFinderModel", "sign", "()I"⟩, prog_13_method_51_code, 2, (some .int), 1, 10, cd_62)
def cd_63 : am_C := [(0, .aload_n 0, 0, 0), (1, .iconst 0, 0, 0), (2, .putfield 282, 10, 54), (5, .aload_n 0, 0, 0), (6, .iconst (-1), 0, 0), (7, .putfield 291, 10, 55), (10, .aload_n 0, 0, 0), (11, .iconst 0, 0, 0), (12, .putfield 294, 10, 47), (15, .aload_n 0, 0, 0), (16, .iconst 0, 0, 0), (17, .putfield 303, 10, 56), (20, .aload_n 0, 0, 0), (21, .iconst 0, 0, 0), (22, .putfield 306, 10, 57), (25, .iconst 1, 0, 0), (26, .istore_n 1, 0, 0), (27, .iload_n 1, 0, 0), (28, .ifCond .le (50), 0, 0), (31, .aload_n 0, 0, 0), (32, .getfield 291, 10, 55), (35, .iconst (-1), 0, 0), (36, .if_icmp .ne (42), 0, 0), (39, .iload_n 1, 0, 0), (40, .iconst 1, 0, 0), (41, .if_icmp .ne (29), 0, 0), (44, .aload_n 0, 0, 0), (45, .invokevirtual 337, 58, 0), (48, .istore_n 2, 0, 0), (49, .iload_n 2, 0, 0), (50, .ifCond .eq (7), 0, 0), (53, .aload_n 0, 0, 0), (54, .invokevirtual 334, 61, 0), (57, .iload_n 2, 0, 0), (58, .ifCond .eq (7), 0, 0), (61, .iconst 2, 0, 0), (62, .goto (4), 0, 0), (65, .iconst 1, 0, 0), (66, .istore_n 1, 0, 0), (67, .goto (-40), 0, 0), (70, .aload_n 0, 0, 0), (71, .invokevirtual 340, 62, 0), (74, .istore_n 1, 0, 0), (75, .goto (-48), 0, 0), (78, .return_, 0, 0)]
def mt_63 : am_M := (⟨"TestFinderModel", "readFilter", "()V"⟩, prog_13_method_52_code, 3, none, 1, 10, cd_63)
def cd_64 : am_C := [(0, .aload_n 0, 0, 0), (1, .iconst 0, 0, 0), (2, .putfield 140, 10, 0), (5, .aload_n 0, 0, 0), (6, .getfield 146, 10, 1), (9, .istore_n 1, 0, 0), (10, .aload_n 0, 0, 0), (11, .iconst 0, 0, 0), (12, .putfield 146, 10, 1), (15, .aload_n 0, 0, 0), (16, .iload_n 1, 0, 0), (17, .bipush (120), 0, 0), (19, .if_icmp .le (8), 0, 0), (22, .bipush (120), 0, 0), (24, .goto (4), 0, 0), (27, .iload_n 1, 0, 0), (28, .putfield 285, 10, 46), (31, .iconst 0, 0, 0), (32, .istore_n 2, 0, 0), (33, .iload_n 2, 0, 0), (34, .aload_n 0, 0, 0), (35, .getfield 285, 10, 46), (38, .if_icmp .ge (21), 0, 0), (41, .aload_n 0, 0, 0), (42, .getfield 116, 10, 48), (45, .iload_n 2, 0, 0), (46, .aload_n 0, 0, 0), (47, .getfield 7, 10, 2), (50, .iload_n 2, 0, 0), (51, .iaload, 0, 0), (52, .iastore, 0, 0), (53, .iinc 2 (1), 0, 0), (56, .goto (-23), 0, 0), (59, .iload_n 1, 0, 0), (60, .bipush (120), 0, 0), (62, .if_icmp .le (6), 0, 0), (65, .bipush (120), 0, 0), (67, .ireturn, 0, 0), (68, .aload_n 0, 0, 0), (69, .invokevirtual 343, 63, 0), (72, .aload_n 0, 0, 0), (73, .getfield 291, 10, 55), (76, .iconst (-1), 0, 0), (77, .if_icmp .eq (8), 0, 0), (80, .aload_n 0, 0, 0), (81, .getfield 291, 10, 55), (84, .ireturn, 0, 0), (85, .aload_n 0, 0, 0), (86, .iconst 1, 0, 0), (87, .putfield 240, 10, 38), (90, .aload_n 0, 0, 0), (91, .aload_n 0, 0, 0), (92, .getfield 294, 10, 47), (95, .putfield 346, 10, 40), (98, .iconst 0, 0, 0), (99, .istore_n 2, 0, 0), (100, .iload_n 2, 0, 0), (101, .aload_n 0, 0, 0), (102, .getfield 285, 10, 46), (105, .if_icmp .ge (21), 0, 0), (108, .aload_n 0, 0, 0), (109, .getfield 98, 10, 39), (112, .iload_n 2, 0, 0), (113, .aload_n 0, 0, 0), (114, .getfield 116, 10, 48), (117, .iload_n 2, 0, 0), (118, .iaload, 0, 0), (119, .iastore, 0, 0), (120, .iinc 2 (1), 0, 0), (123, .goto (-23), 0, 0), (126, .iconst 0, 0, 0), (127, .istore_n 2, 0, 0), (128, .iload_n 2, 0, 0), (129, .aload_n 0, 0, 0), (130, .getfield 294, 10, 47), (133, .if_icmp .ge (69), 0, 0), (136, .aload_n 0, 0, 0), (137, .getfield 101, 10, 41), (140, .iload_n 2, 0, 0), (141, .aload_n 0, 0, 0), (142, .getfield 119, 10, 49), (145, .iload_n 2, 0, 0), (146, .iaload, 0, 0), (147, .iastore, 0, 0), (148, .aload_n 0, 0, 0), (149, .getfield 104, 10, 42), (152, .iload_n 2, 0, 0), (153, .aload_n 0, 0, 0), (154, .getfield 122, 10, 50), (157, .iload_n 2, 0, 0), (158, .iaload, 0, 0), (159, .iastore, 0, 0), (160, .aload_n 0, 0, 0), (161, .getfield 107, 10, 43), (164, .iload_n 2, 0, 0), (165, .aload_n 0, 0, 0), (166, .getfield 125, 10, 51), (169, .iload_n 2, 0, 0), (170, .iaload, 0, 0), (171, .iastore, 0, 0), (172, .aload_n 0, 0, 0), (173, .getfield 110, 10, 44), (176, .iload_n 2, 0, 0), (177, .aload_n 0, 0, 0), (178, .getfield 128, 10, 52), (181, .iload_n 2, 0, 0), (182, .iaload, 0, 0), (183, .iastore, 0, 0), (184, .aload_n 0, 0, 0), (185, .getfield 113, 10, 45), (188, .iload_n 2, 0, 0), (189, .aload_n 0, 0, 0), (190, .getfield 131, 10, 53), (193, .iload_n 2, 0, 0), (194, .iaload, 0, 0), (195, .iastore, 0, 0), (196, .iinc 2 (1), 0, 0), (199, .goto (-71), 0, 0), (202, .iconst (-1), 0, 0), (203, .ireturn, 0, 0)]
def mt_64 : am_M := (⟨"TestFinderModel", "filter", "()I"⟩, prog_13_method_53_code, 3, (some .int), 1, 10, cd_64)
def cd_65 : am_C := [(0, .iload_n 2, 0, 0), (1, .iload_n 1, 0, 0), (2, .isub, 0, 0), (3, .iload 4, 0, 0), (5, .iload_n 3, 0, 0), (6, .isub, 0, 0), (7, .if_icmp .ne (7), 0, 0), (10, .iconst 1, 0, 0), (11, .goto (4), 0, 0), (14, .iconst 0, 0, 0), (15, .istore 5, 0, 0), (17, .iconst 0, 0, 0), (18, .istore 6, 0, 0), (20, .iload 6, 0, 0), (22, .iload_n 2, 0, 0), (23, .iload_n 1, 0, 0), (24, .isub, 0, 0), (25, .if_icmp .ge (42), 0, 0), (28, .iload 5, 0, 0), (30, .ifCond .eq (37), 0, 0), (33, .aload_n 0, 0, 0), (34, .getfield 13, 10, 4), (37, .iload_n 1, 0, 0), (38, .iload 6, 0, 0), (40, .iadd, 0, 0), (41, .iaload, 0, 0), (42, .aload_n 0, 0, 0), (43, .getfield 98, 10, 39), (46, .iload_n 3, 0, 0), (47, .iload 6, 0, 0), (49, .iadd, 0, 0), (50, .iaload, 0, 0), (51, .if_icmp .ne (7), 0, 0), (54, .iconst 1, 0, 0), (55, .goto (4), 0, 0), (58, .iconst 0, 0, 0), (59, .istore 5, 0, 0), (61, .iinc 6 (1), 0, 0), (64, .goto (-44), 0, 0), (67, .iload 5, 0, 0), (69, .ireturn, 0, 0)]
def mt_65 : am_M := (⟨"TestFinderModel", "isWord", "(IIII)Z"⟩, prog_13_method_54_code, 7, (some .boolean), 5, 10, cd_65)
def cd_66 : am_C := [(0, .iconst 0, 0, 0), (1, .istore_n 3, 0, 0), (2, .bipush (8), 0, 0), (4, .iload_n 1, 0, 0), (5, .imul, 0, 0), (6, .istore 4, 0, 0), (8, .iload 4, 0, 0), (10, .bipush (8), 0, 0), (12, .iload_n 1, 0, 0), (13, .imul, 0, 0), (14, .aload_n 0, 0, 0), (15, .getfield 62, 10, 23), (18, .iload_n 1, 0, 0), (19, .iaload, 0, 0), (20, .iadd, 0, 0), (21, .if_icmp .ge (52), 0, 0), (24, .iload_n 3, 0, 0), (25, .ifCond .ne (36), 0, 0), (28, .aload_n 0, 0, 0), (29, .aload_n 0, 0, 0), (30, .getfield 65, 10, 24), (33, .iload 4, 0, 0), (35, .iaload, 0, 0), (36, .aload_n 0, 0, 0), (37, .getfield 68, 10, 25), (40, .iload 4, 0, 0), (42, .iaload, 0, 0), (43, .aload_n 0, 0, 0), (44, .getfield 104, 10, 42), (47, .iload_n 2, 0, 0), (48, .iaload, 0, 0), (49, .aload_n 0, 0, 0), (50, .getfield 107, 10, 43), (53, .iload_n 2, 0, 0), (54, .iaload, 0, 0), (55, .invokevirtual 349, 65, 0), (58, .ifCond .eq (7), 0, 0), (61, .iconst 1, 0, 0), (62, .goto (4), 0, 0), (65, .iconst 0, 0, 0), (66, .istore_n 3, 0, 0), (67, .iinc 4 (1), 0, 0), (70, .goto (-62), 0, 0), (73, .aload_n 0, 0, 0), (74, .getfield 37, 10, 15), (77, .iload_n 1, 0, 0), (78, .iaload, 0, 0), (79, .istore 4, 0, 0), (81, .bipush (8), 0, 0), (83, .iload 4, 0, 0), (85, .imul, 0, 0), (86, .istore 5, 0, 0), (88, .iload 4, 0, 0), (90, .ifCond .lt (70), 0, 0), (93, .iload 5, 0, 0), (95, .bipush (8), 0, 0), (97, .iload 4, 0, 0), (99, .imul, 0, 0), (100, .aload_n 0, 0, 0), (101, .getfield 28, 10, 11), (104, .iload 4, 0, 0), (106, .iaload, 0, 0), (107, .iadd, 0, 0), (108, .if_icmp .ge (52), 0, 0), (111, .iload_n 3, 0, 0), (112, .ifCond .ne (36), 0, 0), (115, .aload_n 0, 0, 0), (116, .aload_n 0, 0, 0), (117, .getfield 31, 10, 12), (120, .iload 5, 0, 0), (122, .iaload, 0, 0), (123, .aload_n 0, 0, 0), (124, .getfield 34, 10, 13), (127, .iload 5, 0, 0), (129, .iaload, 0, 0), (130, .aload_n 0, 0, 0), (131, .getfield 104, 10, 42), (134, .iload_n 2, 0, 0), (135, .iaload, 0, 0), (136, .aload_n 0, 0, 0), (137, .getfield 107, 10, 43), (140, .iload_n 2, 0, 0), (141, .iaload, 0, 0), (142, .invokevirtual 349, 65, 0), (145, .ifCond .eq (7), 0, 0), (148, .iconst 1, 0, 0), (149, .goto (4), 0, 0), (152, .iconst 0, 0, 0), (153, .istore_n 3, 0, 0), (154, .iinc 5 (1), 0, 0), (157, .goto (-69), 0, 0), (160, .iload_n 3, 0, 0), (161, .ireturn, 0, 0)]
def mt_66 : am_M := (⟨"TestFinderModel", "hasTag", "(II)Z"⟩, prog_13_method_55_code, 6, (some .boolean), 3, 10, cd_66)
def cd_67 : am_C := [(0, .aload_n 0, 0, 0), (1, .getfield 89, 10, 34), (4, .iload_n 1, 0, 0), (5, .iaload, 0, 0), (6, .istore_n 3, 0, 0), (7, .iconst 0, 0, 0), (8, .istore 4, 0, 0), (10, .iconst 4, 0, 0), (11, .iload_n 3, 0, 0), (12, .imul, 0, 0), (13, .istore 5, 0, 0), (15, .iload 5, 0, 0), (17, .iconst 4, 0, 0), (18, .iload_n 3, 0, 0), (19, .imul, 0, 0), (20, .aload_n 0, 0, 0), (21, .getfield 71, 10, 26), (24, .iload_n 3, 0, 0), (25, .iaload, 0, 0), (26, .iadd, 0, 0), (27, .if_icmp .ge (100), 0, 0), (30, .aload_n 0, 0, 0), (31, .aload_n 0, 0, 0), (32, .getfield 74, 10, 27), (35, .iload 5, 0, 0), (37, .iaload, 0, 0), (38, .aload_n 0, 0, 0), (39, .getfield 77, 10, 28), (42, .iload 5, 0, 0), (44, .iaload, 0, 0), (45, .aload_n 0, 0, 0), (46, .getfield 104, 10, 42), (49, .iload_n 2, 0, 0), (50, .iaload, 0, 0), (51, .aload_n 0, 0, 0), (52, .getfield 107, 10, 43), (55, .iload_n 2, 0, 0), (56, .iaload, 0, 0), (57, .invokevirtual 349, 65, 0), (60, .istore 6, 0, 0), (62, .aload_n 0, 0, 0), (63, .iload_n 1, 0, 0), (64, .iload 5, 0, 0), (66, .invokevirtual 266, 40, 0), (69, .istore 7, 0, 0), (71, .iload 4, 0, 0), (73, .ifCond .ne (41), 0, 0), (76, .iload 6, 0, 0), (78, .ifCond .eq (40), 0, 0), (81, .aload_n 0, 0, 0), (82, .aload_n 0, 0, 0), (83, .getfield 83, 10, 30), (86, .iload 7, 0, 0), (88, .iaload, 0, 0), (89, .aload_n 0, 0, 0), (90, .getfield 86, 10, 31), (93, .iload 7, 0, 0), (95, .iaload, 0, 0), (96, .aload_n 0, 0, 0), (97, .getfield 110, 10, 44), (100, .iload_n 2, 0, 0), (101, .iaload, 0, 0), (102, .aload_n 0, 0, 0), (103, .getfield 113, 10, 45), (106, .iload_n 2, 0, 0), (107, .iaload, 0, 0), (108, .invokevirtual 349, 65, 0), (111, .ifCond .eq (7), 0, 0), (114, .iconst 1, 0, 0), (115, .goto (4), 0, 0), (118, .iconst 0, 0, 0), (119, .istore 4, 0, 0), (121, .iinc 5 (1), 0, 0), (124, .goto (-109), 0, 0), (127, .iload 4, 0, 0), (129, .ireturn, 0, 0)]
def mt_67 : am_M := (⟨"TestFinderModel", "hasValue", "(II)Z"⟩, prog_13_method_56_code, 8, (some .boolean), 3, 10, cd_67)
def cd_68 : am_C := [(0, .aload_n 0, 0, 0), (1, .getfield 89, 10, 34), (4, .iload_n 1, 0, 0), (5, .iaload, 0, 0), (6, .istore_n 3, 0, 0), (7, .aload_n 0, 0, 0), (8, .getfield 37, 10, 15), (11, .iload_n 3, 0, 0), (12, .iaload, 0, 0), (13, .istore 4, 0, 0), (15, .aload_n 0, 0, 0), (16, .getfield 101, 10, 41), (19, .iload_n 2, 0, 0), (20, .iaload, 0, 0), (21, .tableswitch (152) (1) (6) #[39, 46, 90, 119, 126, 146], 39, 0), (60, .aload_n 0, 0, 0), (61, .iload_n 3, 0, 0), (62, .iload_n 2, 0, 0), (63, .invokevirtual 353, 66, 0), (66, .ireturn, 0, 0), (67, .iload 4, 0, 0), (69, .ifCond .lt (40), 0, 0), (72, .aload_n 0, 0, 0), (73, .aload_n 0, 0, 0), (74, .getfield 22, 10, 9), (77, .iload 4, 0, 0), (79, .iaload, 0, 0), (80, .aload_n 0, 0, 0), (81, .getfield 25, 10, 10), (84, .iload 4, 0, 0), (86, .iaload, 0, 0), (87, .aload_n 0, 0, 0), (88, .getfield 104, 10, 42), (91, .iload_n 2, 0, 0), (92, .iaload, 0, 0), (93, .aload_n 0, 0, 0), (94, .getfield 107, 10, 43), (97, .iload_n 2, 0, 0), (98, .iaload, 0, 0), (99, .invokevirtual 349, 65, 0), (102, .ifCond .eq (7), 0, 0), (105, .iconst 1, 0, 0), (106, .goto (4), 0, 0), (109, .iconst 0, 0, 0), (110, .ireturn, 0, 0), (111, .aload_n 0, 0, 0), (112, .aload_n 0, 0, 0), (113, .getfield 40, 10, 16), (116, .iload_n 3, 0, 0), (117, .iaload, 0, 0), (118, .aload_n 0, 0, 0), (119, .getfield 43, 10, 17), (122, .iload_n 3, 0, 0), (123, .iaload, 0, 0), (124, .aload_n 0, 0, 0), (125, .getfield 104, 10, 42), (128, .iload_n 2, 0, 0), (129, .iaload, 0, 0), (130, .aload_n 0, 0, 0), (131, .getfield 107, 10, 43), (134, .iload_n 2, 0, 0), (135, .iaload, 0, 0), (136, .invokevirtual 349, 65, 0), (139, .ireturn, 0, 0), (140, .aload_n 0, 0, 0), (141, .iload_n 1, 0, 0), (142, .iload_n 2, 0, 0), (143, .invokevirtual 356, 67, 0), (146, .ireturn, 0, 0), (147, .aload_n 0, 0, 0), (148, .iload_n 3, 0, 0), (149, .invokevirtual 273, 44, 0), (152, .aload_n 0, 0, 0), (153, .getfield 110, 10, 44), (156, .iload_n 2, 0, 0), (157, .iaload, 0, 0), (158, .if_icmp .ge (7), 0, 0), (161, .iconst 1, 0, 0), (162, .goto (4), 0, 0), (165, .iconst 0, 0, 0), (166, .ireturn, 0, 0), (167, .aload_n 0, 0, 0), (168, .iload_n 3, 0, 0), (169, .invokevirtual 276, 43, 0), (172, .ireturn, 0, 0), (173, .aload_n 0, 0, 0), (174, .getfield 58, 10, 22), (177, .iload_n 3, 0, 0), (178, .baload, 0, 0), (179, .ireturn, 0, 0)]
def mt_68 : am_M := (⟨"TestFinderModel", "holds", "(II)Z"⟩, prog_13_method_57_code, 5, (some .boolean), 3, 10, cd_68)
def cd_69 : am_C := [(0, .iconst 0, 0, 0), (1, .istore_n 2, 0, 0), (2, .iconst 0, 0, 0), (3, .istore_n 3, 0, 0), (4, .iload_n 3, 0, 0), (5, .aload_n 0, 0, 0), (6, .getfield 346, 10, 40), (9, .if_icmp .ge (162), 0, 0), (12, .aload_n 0, 0, 0), (13, .getfield 101, 10, 41), (16, .iload_n 3, 0, 0), (17, .iaload, 0, 0), (18, .bipush (33), 0, 0), (20, .if_icmp .ne (30), 0, 0), (23, .aload_n 0, 0, 0), (24, .getfield 137, 10, 59), (27, .iload_n 2, 0, 0), (28, .iconst 1, 0, 0), (29, .isub, 0, 0), (30, .aload_n 0, 0, 0), (31, .getfield 137, 10, 59), (34, .iload_n 2, 0, 0), (35, .iconst 1, 0, 0), (36, .isub, 0, 0), (37, .baload, 0, 0), (38, .ifCond .ne (7), 0, 0), (41, .iconst 1, 0, 0), (42, .goto (4), 0, 0), (45, .iconst 0, 0, 0), (46, .bastore, 0, 0), (47, .goto (118), 0, 0), (50, .aload_n 0, 0, 0), (51, .getfield 101, 10, 41), (54, .iload_n 3, 0, 0), (55, .iaload, 0, 0), (56, .bipush (38), 0, 0), (58, .if_icmp .eq (14), 0, 0), (61, .aload_n 0, 0, 0), (62, .getfield 101, 10, 41), (65, .iload_n 3, 0, 0), (66, .iaload, 0, 0), (67, .bipush (124), 0, 0), (69, .if_icmp .ne (81), 0, 0), (72, .iinc 2 (-1), 0, 0), (75, .aload_n 0, 0, 0), (76, .getfield 137, 10, 59), (79, .iload_n 2, 0, 0), (80, .iconst 1, 0, 0), (81, .isub, 0, 0), (82, .aload_n 0, 0, 0), (83, .getfield 101, 10, 41), (86, .iload_n 3, 0, 0), (87, .iaload, 0, 0), (88, .bipush (38), 0, 0), (90, .if_icmp .ne (31), 0, 0), (93, .aload_n 0, 0, 0), (94, .getfield 137, 10, 59), (97, .iload_n 2, 0, 0), (98, .iconst 1, 0, 0), (99, .isub, 0, 0), (100, .baload, 0, 0), (101, .ifCond .eq (16), 0, 0), (104, .aload_n 0, 0, 0), (105, .getfield 137, 10, 59), (108, .iload_n 2, 0, 0), (109, .baload, 0, 0), (110, .ifCond .eq (7), 0, 0), (113, .iconst 1, 0, 0), (114, .goto (32), 0, 0), (117, .iconst 0, 0, 0), (118, .goto (28), 0, 0), (121, .aload_n 0, 0, 0), (122, .getfield 137, 10, 59), (125, .iload_n 2, 0, 0), (126, .iconst 1, 0, 0), (127, .isub, 0, 0), (128, .baload, 0, 0), (129, .ifCond .ne (12), 0, 0), (132, .aload_n 0, 0, 0), (133, .getfield 137, 10, 59), (136, .iload_n 2, 0, 0), (137, .baload, 0, 0), (138, .ifCond .eq (7), 0, 0), (141, .iconst 1, 0, 0), (142, .goto (4), 0, 0), (145, .iconst 0, 0, 0), (146, .bastore, 0, 0), (147, .goto (18), 0, 0), (150, .aload_n 0, 0, 0), (151, .getfield 137, 10, 59), (154, .iload_n 2, 0, 0), (155, .aload_n 0, 0, 0), (156, .iload_n 1, 0, 0), (157, .iload_n 3, 0, 0), (158, .invokevirtual 359, 68, 0), (161, .bastore, 0, 0), (162, .iinc 2 (1), 0, 0), (165, .iinc 3 (1), 0, 0), (168, .goto (-164), 0, 0), (171, .aload_n 0, 0, 0), (172, .getfield 137, 10, 59), (175, .iconst 0, 0, 0), (176, .baload, 0, 0), (177, .ireturn, 0, 0)]
def mt_69 : am_M := (⟨"TestFinderModel", "isThrough", "(I)Z"⟩, prog_13_method_58_code, 4, (some .boolean), 2, 10, cd_69)
def cd_70 : am_C := [(0, .aload_n 0, 0, 0), (1, .iconst 0, 0, 0), (2, .putfield 140, 10, 0), (5, .aload_n 0, 0, 0), (6, .iload_n 1, 0, 0), (7, .invokevirtual 270, 37, 0), (10, .ifCond .eq (22), 0, 0), (13, .aload_n 0, 0, 0), (14, .getfield 240, 10, 38), (17, .ifCond .eq (11), 0, 0), (20, .aload_n 0, 0, 0), (21, .iload_n 1, 0, 0), (22, .invokevirtual 362, 69, 0), (25, .ifCond .eq (7), 0, 0), (28, .iconst 1, 0, 0), (29, .goto (4), 0, 0), (32, .iconst 0, 0, 0), (33, .ireturn, 0, 0)]
def mt_70 : am_M := (⟨"TestFinderModel", "passes", "(I)Z"⟩, prog_13_method_59_code, 2, (some .boolean), 2, 10, cd_70)
def cd_71 : am_C := [(0, .aload_n 0, 0, 0), (1, .iconst 0, 0, 0), (2, .putfield 140, 10, 0), (5, .iconst 0, 0, 0), (6, .istore_n 1, 0, 0), (7, .iconst 0, 0, 0), (8, .istore_n 2, 0, 0), (9, .iload_n 2, 0, 0), (10, .aload_n 0, 0, 0), (11, .getfield 237, 10, 33), (14, .if_icmp .ge (32), 0, 0), (17, .iload_n 1, 0, 0), (18, .aload_n 0, 0, 0), (19, .getfield 240, 10, 38), (22, .ifCond .eq (11), 0, 0), (25, .aload_n 0, 0, 0), (26, .iload_n 2, 0, 0), (27, .invokevirtual 362, 69, 0), (30, .ifCond .eq (7), 0, 0), (33, .iconst 1, 0, 0), (34, .goto (4), 0, 0), (37, .iconst 0, 0, 0), (38, .iadd, 0, 0), (39, .istore_n 1, 0, 0), (40, .iinc 2 (1), 0, 0), (43, .goto (-34), 0, 0), (46, .iload_n 1, 0, 0), (47, .ireturn, 0, 0)]
def mt_71 : am_M := (⟨"TestFinderModel", "passing", "()I"⟩, prog_13_method_60_code, 3, (some .int), 1, 10, cd_71)
def cd_72 : am_C := [(0, .aload_n 0, 0, 0), (1, .iconst 0, 0, 0), (2, .putfield 140, 10, 0), (5, .aload_n 0, 0, 0), (6, .iload_n 1, 0, 0), (7, .invokevirtual 270, 37, 0), (10, .ifCond .ne (5), 0, 0), (13, .iconst (-1), 0, 0), (14, .ireturn, 0, 0), (15, .aload_n 0, 0, 0), (16, .getfield 89, 10, 34), (19, .iload_n 1, 0, 0), (20, .iaload, 0, 0), (21, .istore_n 3, 0, 0), (22, .aload_n 0, 0, 0), (23, .iload_n 3, 0, 0), (24, .invokevirtual 276, 43, 0), (27, .ifCond .eq (5), 0, 0), (30, .iconst 3, 0, 0), (31, .ireturn, 0, 0), (32, .aload_n 0, 0, 0), (33, .getfield 58, 10, 22), (36, .iload_n 3, 0, 0), (37, .baload, 0, 0), (38, .ifCond .eq (13), 0, 0), (41, .iload_n 2, 0, 0), (42, .ifCond .eq (7), 0, 0), (45, .iconst 4, 0, 0), (46, .goto (4), 0, 0), (49, .iconst 1, 0, 0), (50, .ireturn, 0, 0), (51, .iload_n 2, 0, 0), (52, .ifCond .eq (7), 0, 0), (55, .iconst 0, 0, 0), (56, .goto (4), 0, 0), (59, .iconst 2, 0, 0), (60, .ireturn, 0, 0)]
def mt_72 : am_M := (⟨"TestFinderModel", "judge", "(IZ)I"⟩, prog_13_method_61_code, 4, (some .int), 3, 10, cd_72)
def cd_73 : am_C := [(0, .aload_n 0, 0, 0), (1, .invokespecial 3, 1000, 0), (4, .aload_n 0, 0, 0), (5, .new 9, 3, 2), (8, .dup, 0, 0), (9, .bipush (8), 0, 0), (11, .invokespecial 11, 97, 0), (14, .putfield 14, 4, 12), (17, .aload_n 0, 0, 0), (18, .new 9, 3, 2), (21, .dup, 0, 0), (22, .iconst 4, 0, 0), (23, .invokespecial 11, 97, 0), (26, .putfield 20, 4, 13), (29, .aload_n 0, 0, 0), (30, .iconst 4, 0, 0), (31, .anewarray 9, 3, 0), (34, .putfield 23, 4, 14), (37, .iconst 0, 0, 0), (38, .istore_n 1, 0, 0), (39, .iload_n 1, 0, 0), (40, .aload_n 0, 0, 0), (41, .getfield 23, 4, 14), (44, .arraylength, 0, 0), (45, .if_icmp .ge (24), 0, 0), (48, .aload_n 0, 0, 0), (49, .getfield 23, 4, 14), (52, .iload_n 1, 0, 0), (53, .new 9, 3, 2), (56, .dup, 0, 0), (57, .bipush (6), 0, 0), (59, .invokespecial 11, 97, 0), (62, .aastore, 0, 0), (63, .iinc 1 (1), 0, 0), (66, .goto (-27), 0, 0), (69, .return_, 0, 0)]
def mt_73 : am_M := (⟨"TestFinder$Case", "<init>", "()V"⟩, prog_2_method_1_code, 2, none, 1, 4, cd_73)
def cd_74 : am_C := [(0, .aload_n 0, 0, 0), (1, .lload_n 1, 0, 0), (2, .putfield 27, 4, 0), (5, .aload_n 0, 0, 0), (6, .iload_n 3, 0, 0), (7, .putfield 31, 4, 3), (10, .aload_n 0, 0, 0), (11, .iconst (-1), 0, 0), (12, .putfield 35, 4, 2), (15, .aload_n 0, 0, 0), (16, .lconst 0, 0, 0), (17, .putfield 40, 4, 1), (20, .aload_n 0, 0, 0), (21, .iconst 1, 0, 0), (22, .putfield 43, 4, 4), (25, .aload_n 0, 0, 0), (26, .iconst 0, 0, 0), (27, .putfield 46, 4, 11), (30, .aload_n 0, 0, 0), (31, .iconst 0, 0, 0), (32, .putfield 50, 4, 5), (35, .aload_n 0, 0, 0), (36, .iconst 0, 0, 0), (37, .putfield 53, 4, 6), (40, .aload_n 0, 0, 0), (41, .iconst 1, 0, 0), (42, .putfield 56, 4, 10), (45, .aload_n 0, 0, 0), (46, .getfield 14, 4, 12), (49, .iconst 0, 0, 0), (50, .putfield 59, 3, 1), (53, .aload_n 0, 0, 0), (54, .getfield 20, 4, 13), (57, .iconst 0, 0, 0), (58, .putfield 59, 3, 1), (61, .return_, 0, 0)]
def mt_74 : am_M := (⟨"TestFinder$Case", "begin", "(JI)V"⟩, prog_2_method_2_code, 4, none, 3, 4, cd_74)
def cd_75 : am_C := [(0, .iload_n 2, 0, 0), (1, .ifCond .lt (14), 0, 0), (4, .iload_n 2, 0, 0), (5, .aload_n 0, 0, 0), (6, .getfield 20, 4, 13), (9, .getfield 59, 3, 1), (12, .if_icmp .lt (5), 0, 0), (15, .lconst 0, 0, 0), (16, .lreturn, 0, 0), (17, .iload_n 1, 0, 0), (18, .aload_n 0, 0, 0), (19, .getfield 60, 4, 9), (22, .isub, 0, 0), (23, .istore_n 3, 0, 0), (24, .aload_n 0, 0, 0), (25, .getfield 20, 4, 13), (28, .getfield 59, 3, 1), (31, .iconst 1, 0, 0), (32, .isub, 0, 0), (33, .istore 4, 0, 0), (35, .iload 4, 0, 0), (37, .iload_n 2, 0, 0), (38, .if_icmp .le (35), 0, 0), (41, .aload_n 0, 0, 0), (42, .getfield 23, 4, 14), (45, .iload 4, 0, 0), (47, .aaload, 0, 0), (48, .getfield 59, 3, 1), (51, .ifCond .le (16), 0, 0), (54, .iload_n 3, 0, 0), (55, .aload_n 0, 0, 0), (56, .getfield 23, 4, 14), (59, .iload 4, 0, 0), (61, .aaload, 0, 0), (62, .getfield 59, 3, 1), (65, .idiv, 0, 0), (66, .istore_n 3, 0, 0), (67, .iinc 4 (-1), 0, 0), (70, .goto (-35), 0, 0), (73, .aload_n 0, 0, 0), (74, .getfield 23, 4, 14), (77, .iload_n 2, 0, 0), (78, .aaload, 0, 0), (79, .getfield 59, 3, 1), (82, .istore 4, 0, 0), (84, .iload 4, 0, 0), (86, .ifCond .le (19), 0, 0), (89, .aload_n 0, 0, 0), (90, .getfield 23, 4, 14), (93, .iload_n 2, 0, 0), (94, .aaload, 0, 0), (95, .iload_n 3, 0, 0), (96, .iload 4, 0, 0), (98, .irem, 0, 0), (99, .invokevirtual 63, 100, 0), (102, .goto (4), 0, 0), (105, .lconst 0, 0, 0), (106, .lreturn, 0, 0)]
def mt_75 : am_M := (⟨"TestFinder$Case", "valueIn", "(II)J"⟩, prog_2_method_3_code, 5, (some .long), 3, 4, cd_75)
def cd_76 : am_C := [(0, .aload_n 0, 0, 0), (1, .invokespecial 3, 1000, 0), (4, .aload_n 0, 0, 0), (5, .bipush (120), 0, 0), (7, .newarray .char, 0, 0), (9, .putfield 9, 8, 0), (12, .aload_n 0, 0, 0), (13, .bipush (120), 0, 0), (15, .newarray .long, 0, 0), (17, .putfield 15, 8, 1), (20, .aload_n 0, 0, 0), (21, .bipush (120), 0, 0), (23, .newarray .long, 0, 0), (25, .putfield 19, 8, 2), (28, .aload_n 0, 0, 0), (29, .bipush (120), 0, 0), (31, .newarray .boolean, 0, 0), (33, .putfield 22, 8, 3), (36, .return_, 0, 0)]
def mt_76 : am_M := (⟨"TestFinder$Filter", "<init>", "()V"⟩, prog_3_method_1_code, 1, none, 1, 8, cd_76)
def cd_77 : am_C := [(0, .aload_n 0, 0, 0), (1, .getfield 26, 8, 4), (4, .aload_n 0, 0, 0), (5, .getfield 9, 8, 0), (8, .arraylength, 0, 0), (9, .if_icmp .ge (44), 0, 0), (12, .aload_n 0, 0, 0), (13, .getfield 9, 8, 0), (16, .aload_n 0, 0, 0), (17, .getfield 26, 8, 4), (20, .iload_n 1, 0, 0), (21, .castore, 0, 0), (22, .aload_n 0, 0, 0), (23, .getfield 15, 8, 1), (26, .aload_n 0, 0, 0), (27, .getfield 26, 8, 4), (30, .lload_n 2, 0, 0), (31, .lastore, 0, 0), (32, .aload_n 0, 0, 0), (33, .getfield 19, 8, 2), (36, .aload_n 0, 0, 0), (37, .getfield 26, 8, 4), (40, .lload 4, 0, 0), (42, .lastore, 0, 0), (43, .aload_n 0, 0, 0), (44, .dup, 0, 0), (45, .getfield 26, 8, 4), (48, .iconst 1, 0, 0), (49, .iadd, 0, 0), (50, .putfield 26, 8, 4), (53, .return_, 0, 0)]
def mt_77 : am_M := (⟨"TestFinder$Filter", "add", "(CJJ)V"⟩, prog_3_method_2_code, 6, none, 4, 8, cd_77)
def cd_78 : am_C := [(0, .iconst 0, 0, 0), (1, .istore_n 3, 0, 0), (2, .iconst 0, 0, 0), (3, .istore 4, 0, 0), (5, .iload 4, 0, 0), (7, .aload_n 0, 0, 0), (8, .getfield 26, 8, 4), (11, .if_icmp .ge (105), 0, 0), (14, .aload_n 0, 0, 0), (15, .getfield 9, 8, 0), (18, .iload 4, 0, 0), (20, .caload, 0, 0), (21, .bipush (33), 0, 0), (23, .if_icmp .ne (13), 0, 0), (26, .aload_n 0, 0, 0), (27, .iload_n 3, 0, 0), (28, .iconst 1, 0, 0), (29, .isub, 0, 0), (30, .invokevirtual 30, 79, 0), (33, .goto (77), 0, 0), (36, .aload_n 0, 0, 0), (37, .getfield 9, 8, 0), (40, .iload 4, 0, 0), (42, .caload, 0, 0), (43, .bipush (38), 0, 0), (45, .if_icmp .eq (15), 0, 0), (48, .aload_n 0, 0, 0), (49, .getfield 9, 8, 0), (52, .iload 4, 0, 0), (54, .caload, 0, 0), (55, .bipush (124), 0, 0), (57, .if_icmp .ne (23), 0, 0), (60, .iinc 3 (-1), 0, 0), (63, .aload_n 0, 0, 0), (64, .aload_n 0, 0, 0), (65, .getfield 9, 8, 0), (68, .iload 4, 0, 0), (70, .caload, 0, 0), (71, .iload_n 3, 0, 0), (72, .iconst 1, 0, 0), (73, .isub, 0, 0), (74, .invokevirtual 34, 80, 0), (77, .goto (33), 0, 0), (80, .iload_n 3, 0, 0), (81, .ifCond .lt (29), 0, 0), (84, .iload_n 3, 0, 0), (85, .aload_n 0, 0, 0), (86, .getfield 22, 8, 3), (89, .arraylength, 0, 0), (90, .if_icmp .ge (20), 0, 0), (93, .aload_n 0, 0, 0), (94, .getfield 22, 8, 3), (97, .iload_n 3, 0, 0), (98, .aload_n 0, 0, 0), (99, .iload 4, 0, 0), (101, .aload_n 1, 0, 0), (102, .iload_n 2, 0, 0), (103, .invokevirtual 38, 81, 0), (106, .bastore, 0, 0), (107, .iinc 3 (1), 0, 0), (110, .iinc 4 (1), 0, 0), (113, .goto (-108), 0, 0), (116, .iload_n 3, 0, 0), (117, .iconst 1, 0, 0), (118, .if_icmp .lt (23), 0, 0), (121, .iload_n 3, 0, 0), (122, .aload_n 0, 0, 0), (123, .getfield 22, 8, 3), (126, .arraylength, 0, 0), (127, .if_icmp .gt (14), 0, 0), (130, .aload_n 0, 0, 0), (131, .getfield 22, 8, 3), (134, .iload_n 3, 0, 0), (135, .iconst 1, 0, 0), (136, .isub, 0, 0), (137, .baload, 0, 0), (138, .ifCond .eq (7), 0, 0), (141, .iconst 1, 0, 0), (142, .goto (4), 0, 0), (145, .iconst 0, 0, 0), (146, .ireturn, 0, 0)]
def mt_78 : am_M := (⟨"TestFinder$Filter", "holds", "(LTestFinder$Case;I)Z"⟩, prog_3_method_3_code, 5, (some .boolean), 3, 8, cd_78)
def cd_79 : am_C := [(0, .iload_n 1, 0, 0), (1, .ifCond .lt (32), 0, 0), (4, .iload_n 1, 0, 0), (5, .aload_n 0, 0, 0), (6, .getfield 22, 8, 3), (9, .arraylength, 0, 0), (10, .if_icmp .ge (23), 0, 0), (13, .aload_n 0, 0, 0), (14, .getfield 22, 8, 3), (17, .iload_n 1, 0, 0), (18, .aload_n 0, 0, 0), (19, .getfield 22, 8, 3), (22, .iload_n 1, 0, 0), (23, .baload, 0, 0), (24, .ifCond .ne (7), 0, 0), (27, .iconst 1, 0, 0), (28, .goto (4), 0, 0), (31, .iconst 0, 0, 0), (32, .bastore, 0, 0), (33, .return_, 0, 0)]
def mt_79 : am_M := (⟨"TestFinder$Filter", "negate", "(I)V"⟩, prog_3_method_4_code, 2, none, 2, 8, cd_79)
def cd_80 : am_C := [(0, .iload_n 2, 0, 0), (1, .ifCond .lt (74), 0, 0), (4, .iload_n 2, 0, 0), (5, .iconst 1, 0, 0), (6, .iadd, 0, 0), (7, .aload_n 0, 0, 0), (8, .getfield 22, 8, 3), (11, .arraylength, 0, 0), (12, .if_icmp .ge (63), 0, 0), (15, .aload_n 0, 0, 0), (16, .getfield 22, 8, 3), (19, .iload_n 2, 0, 0), (20, .baload, 0, 0), (21, .istore_n 3, 0, 0), (22, .aload_n 0, 0, 0), (23, .getfield 22, 8, 3), (26, .iload_n 2, 0, 0), (27, .iconst 1, 0, 0), (28, .iadd, 0, 0), (29, .baload, 0, 0), (30, .istore 4, 0, 0), (32, .aload_n 0, 0, 0), (33, .getfield 22, 8, 3), (36, .iload_n 2, 0, 0), (37, .iload_n 1, 0, 0), (38, .bipush (38), 0, 0), (40, .if_icmp .ne (20), 0, 0), (43, .iload_n 3, 0, 0), (44, .ifCond .eq (12), 0, 0), (47, .iload 4, 0, 0), (49, .ifCond .eq (7), 0, 0), (52, .iconst 1, 0, 0), (53, .goto (21), 0, 0), (56, .iconst 0, 0, 0), (57, .goto (17), 0, 0), (60, .iload_n 3, 0, 0), (61, .ifCond .ne (8), 0, 0), (64, .iload 4, 0, 0), (66, .ifCond .eq (7), 0, 0), (69, .iconst 1, 0, 0), (70, .goto (4), 0, 0), (73, .iconst 0, 0, 0), (74, .bastore, 0, 0), (75, .return_, 0, 0)]
def mt_80 : am_M := (⟨"TestFinder$Filter", "join", "(CI)V"⟩, prog_3_method_5_code, 5, none, 3, 8, cd_80)
def cd_81 : am_C := [(0, .aload_n 0, 0, 0), (1, .getfield 9, 8, 0), (4, .iload_n 1, 0, 0), (5, .caload, 0, 0), (6, .lookupswitch (176) #[(35, 66), (58, 137), (60, 145), (61, 117), (63, 166), (64, 89), (126, 171)], 66, 0), (72, .aload_n 2, 0, 0), (73, .getfield 42, 4, 12), (76, .aload_n 0, 0, 0), (77, .getfield 15, 8, 1), (80, .iload_n 1, 0, 0), (81, .laload, 0, 0), (82, .invokevirtual 48, 99, 0), (85, .iconst (-1), 0, 0), (86, .if_icmp .eq (7), 0, 0), (89, .iconst 1, 0, 0), (90, .goto (4), 0, 0), (93, .iconst 0, 0, 0), (94, .ireturn, 0, 0), (95, .aload_n 2, 0, 0), (96, .getfield 54, 4, 2), (99, .iconst (-1), 0, 0), (100, .if_icmp .eq (21), 0, 0), (103, .aload_n 2, 0, 0), (104, .getfield 57, 4, 1), (107, .aload_n 0, 0, 0), (108, .getfield 15, 8, 1), (111, .iload_n 1, 0, 0), (112, .laload, 0, 0), (113, .lcmp, 0, 0), (114, .ifCond .ne (7), 0, 0), (117, .iconst 1, 0, 0), (118, .goto (4), 0, 0), (121, .iconst 0, 0, 0), (122, .ireturn, 0, 0), (123, .aload_n 2, 0, 0), (124, .getfield 61, 4, 0), (127, .aload_n 0, 0, 0), (128, .getfield 15, 8, 1), (131, .iload_n 1, 0, 0), (132, .laload, 0, 0), (133, .lcmp, 0, 0), (134, .ifCond .ne (7), 0, 0), (137, .iconst 1, 0, 0), (138, .goto (4), 0, 0), (141, .iconst 0, 0, 0), (142, .ireturn, 0, 0), (143, .aload_n 0, 0, 0), (144, .iload_n 1, 0, 0), (145, .aload_n 2, 0, 0), (146, .iload_n 3, 0, 0), (147, .invokevirtual 64, 82, 0), (150, .ireturn, 0, 0), (151, .aload_n 2, 0, 0), (152, .getfield 67, 4, 4), (155, .i2l, 0, 0), (156, .aload_n 0, 0, 0), (157, .getfield 19, 8, 2), (160, .iload_n 1, 0, 0), (161, .laload, 0, 0), (162, .lcmp, 0, 0), (163, .ifCond .ge (7), 0, 0), (166, .iconst 1, 0, 0), (167, .goto (4), 0, 0), (170, .iconst 0, 0, 0), (171, .ireturn, 0, 0), (172, .aload_n 2, 0, 0), (173, .getfield 68, 4, 5), (176, .ireturn, 0, 0), (177, .aload_n 2, 0, 0), (178, .getfield 72, 4, 6), (181, .ireturn, 0, 0), (182, .iconst 0, 0, 0), (183, .ireturn, 0, 0)]
def mt_81 : am_M := (⟨"TestFinder$Filter", "atomHolds", "(ILTestFinder$Case;I)Z"⟩, prog_3_method_6_code, 4, (some .boolean), 4, 8, cd_81)
def cd_82 : am_C := [(0, .aload_n 2, 0, 0), (1, .getfield 75, 4, 13), (4, .aload_n 0, 0, 0), (5, .getfield 15, 8, 1), (8, .iload_n 1, 0, 0), (9, .laload, 0, 0), (10, .invokevirtual 48, 99, 0), (13, .istore 4, 0, 0), (15, .iload 4, 0, 0), (17, .iconst (-1), 0, 0), (18, .if_icmp .eq (24), 0, 0), (21, .aload_n 2, 0, 0), (22, .iload_n 3, 0, 0), (23, .iload 4, 0, 0), (25, .invokevirtual 78, 75, 0), (28, .aload_n 0, 0, 0), (29, .getfield 19, 8, 2), (32, .iload_n 1, 0, 0), (33, .laload, 0, 0), (34, .lcmp, 0, 0), (35, .ifCond .ne (7), 0, 0), (38, .iconst 1, 0, 0), (39, .goto (4), 0, 0), (42, .iconst 0, 0, 0), (43, .ireturn, 0, 0)]
def mt_82 : am_M := (⟨"TestFinder$Filter", "hasValue", "(ILTestFinder$Case;I)Z"⟩, prog_3_method_7_code, 5, (some .boolean), 4, 8, cd_82)
def cd_83 : am_C := [(0, .aload_n 0, 0, 0), (1, .invokespecial 3, 1000, 0), (4, .aload_n 0, 0, 0), (5, .aload_n 1, 0, 0), (6, .putfield 9, 7, 0), (9, .aload_n 0, 0, 0), (10, .aload_n 1, 0, 0), (11, .getfield 15, 1, 0), (14, .putfield 21, 7, 1), (17, .aload_n 0, 0, 0), (18, .new 24, 8, 5), (21, .dup, 0, 0), (22, .invokespecial 26, 76, 0), (25, .putfield 27, 7, 4), (28, .return_, 0, 0)]
def mt_83 : am_M := (⟨"TestFinder$FilterReader", "<init>", "(LTestFinder$Tape;)V"⟩, prog_4_method_1_code, 2, none, 2, 7, cd_83)
def cd_84 : am_C := [(0, .aload_n 0, 0, 0), (1, .getfield 9, 7, 0), (4, .getfield 31, 1, 1), (7, .bipush (120), 0, 0), (9, .if_icmp .le (6), 0, 0), (12, .bipush (120), 0, 0), (14, .ireturn, 0, 0), (15, .aload_n 0, 0, 0), (16, .aload_n 0, 0, 0), (17, .getfield 9, 7, 0), (20, .getfield 31, 1, 1), (23, .putfield 35, 7, 2), (26, .aload_n 0, 0, 0), (27, .iconst 0, 0, 0), (28, .putfield 38, 7, 3), (31, .aload_n 0, 0, 0), (32, .getfield 27, 7, 4), (35, .iconst 0, 0, 0), (36, .putfield 41, 8, 4), (39, .aload_n 0, 0, 0), (40, .iconst 0, 0, 0), (41, .invokevirtual 42, 86, 0), (44, .ifCond .eq (18), 0, 0), (47, .aload_n 0, 0, 0), (48, .getfield 38, 7, 3), (51, .aload_n 0, 0, 0), (52, .getfield 35, 7, 2), (55, .if_icmp .ne (7), 0, 0), (58, .iconst (-1), 0, 0), (59, .goto (7), 0, 0), (62, .aload_n 0, 0, 0), (63, .getfield 38, 7, 3), (66, .ireturn, 0, 0)]
def mt_84 : am_M := (⟨"TestFinder$FilterReader", "read", "()I"⟩, prog_4_method_2_code, 1, (some .int), 1, 7, cd_84)
def cd_85 : am_C := [(0, .aload_n 0, 0, 0), (1, .getfield 27, 7, 4), (4, .astore_n 2, 0, 0), (5, .aload_n 0, 0, 0), (6, .aload_n 1, 0, 0), (7, .putfield 27, 7, 4), (10, .aload_n 2, 0, 0), (11, .areturn, 0, 0)]
def mt_85 : am_M := (⟨"TestFinder$FilterReader", "exchange", "(LTestFinder$Filter;)LTestFinder$Filter;"⟩, prog_4_method_3_code, 3, (some (.object "TestFinder$Filter")), 2, 7, cd_85)
def cd_86 : am_C := [(0, .aload_n 0, 0, 0), (1, .iload_n 1, 0, 0), (2, .invokevirtual 46, 87, 0), (5, .ifCond .ne (5), 0, 0), (8, .iconst 0, 0, 0), (9, .ireturn, 0, 0), (10, .aload_n 0, 0, 0), (11, .getfield 38, 7, 3), (14, .aload_n 0, 0, 0), (15, .getfield 35, 7, 2), (18, .if_icmp .ge (46), 0, 0), (21, .aload_n 0, 0, 0), (22, .invokevirtual 49, 96, 0), (25, .bipush (124), 0, 0), (27, .if_icmp .ne (37), 0, 0), (30, .aload_n 0, 0, 0), (31, .dup, 0, 0), (32, .getfield 38, 7, 3), (35, .iconst 1, 0, 0), (36, .iadd, 0, 0), (37, .putfield 38, 7, 3), (40, .aload_n 0, 0, 0), (41, .iload_n 1, 0, 0), (42, .invokevirtual 46, 87, 0), (45, .ifCond .ne (5), 0, 0), (48, .iconst 0, 0, 0), (49, .ireturn, 0, 0), (50, .aload_n 0, 0, 0), (51, .getfield 27, 7, 4), (54, .bipush (124), 0, 0), (56, .lconst 0, 0, 0), (57, .lconst 0, 0, 0), (58, .invokevirtual 55, 77, 0), (61, .goto (-51), 0, 0), (64, .iconst 1, 0, 0), (65, .ireturn, 0, 0)]
def mt_86 : am_M := (⟨"TestFinder$FilterReader", "either", "(I)Z"⟩, prog_4_method_4_code, 2, (some .boolean), 2, 7, cd_86)
def cd_87 : am_C := [(0, .aload_n 0, 0, 0), (1, .iload_n 1, 0, 0), (2, .invokevirtual 59, 88, 0), (5, .ifCond .ne (5), 0, 0), (8, .iconst 0, 0, 0), (9, .ireturn, 0, 0), (10, .aload_n 0, 0, 0), (11, .getfield 38, 7, 3), (14, .aload_n 0, 0, 0), (15, .getfield 35, 7, 2), (18, .if_icmp .ge (46), 0, 0), (21, .aload_n 0, 0, 0), (22, .invokevirtual 49, 96, 0), (25, .bipush (38), 0, 0), (27, .if_icmp .ne (37), 0, 0), (30, .aload_n 0, 0, 0), (31, .dup, 0, 0), (32, .getfield 38, 7, 3), (35, .iconst 1, 0, 0), (36, .iadd, 0, 0), (37, .putfield 38, 7, 3), (40, .aload_n 0, 0, 0), (41, .iload_n 1, 0, 0), (42, .invokevirtual 59, 88, 0), (45, .ifCond .ne (5), 0, 0), (48, .iconst 0, 0, 0), (49, .ireturn, 0, 0), (50, .aload_n 0, 0, 0), (51, .getfield 27, 7, 4), (54, .bipush (38), 0, 0), (56, .lconst 0, 0, 0), (57, .lconst 0, 0, 0), (58, .invokevirtual 55, 77, 0), (61, .goto (-51), 0, 0), (64, .iconst 1, 0, 0), (65, .ireturn, 0, 0)]
def mt_87 : am_M := (⟨"TestFinder$FilterReader", "also", "(I)Z"⟩, prog_4_method_5_code, 2, (some .boolean), 2, 7, cd_87)
def cd_88 : am_C := [(0, .aload_n 0, 0, 0), (1, .invokevirtual 49, 96, 0), (4, .istore_n 2, 0, 0), (5, .iload_n 2, 0, 0), (6, .lookupswitch (139) #[(33, 66), (40, 88), (60, 122), (61, 133), (63, 110), (64, 127), (126, 116)], 66, 0), (72, .iload_n 1, 0, 0), (73, .bipush (12), 0, 0), (75, .if_icmp .ge (17), 0, 0), (78, .aload_n 0, 0, 0), (79, .iload_n 1, 0, 0), (80, .iconst 1, 0, 0), (81, .iadd, 0, 0), (82, .invokevirtual 62, 89, 0), (85, .ifCond .eq (7), 0, 0), (88, .iconst 1, 0, 0), (89, .goto (4), 0, 0), (92, .iconst 0, 0, 0), (93, .ireturn, 0, 0), (94, .iload_n 1, 0, 0), (95, .bipush (12), 0, 0), (97, .if_icmp .ge (17), 0, 0), (100, .aload_n 0, 0, 0), (101, .iload_n 1, 0, 0), (102, .iconst 1, 0, 0), (103, .iadd, 0, 0), (104, .invokevirtual 65, 90, 0), (107, .ifCond .eq (7), 0, 0), (110, .iconst 1, 0, 0), (111, .goto (4), 0, 0), (114, .iconst 0, 0, 0), (115, .ireturn, 0, 0), (116, .aload_n 0, 0, 0), (117, .iload_n 2, 0, 0), (118, .invokevirtual 68, 91, 0), (121, .ireturn, 0, 0), (122, .aload_n 0, 0, 0), (123, .iload_n 2, 0, 0), (124, .invokevirtual 68, 91, 0), (127, .ireturn, 0, 0), (128, .aload_n 0, 0, 0), (129, .invokevirtual 72, 93, 0), (132, .ireturn, 0, 0), (133, .aload_n 0, 0, 0), (134, .iload_n 2, 0, 0), (135, .invokevirtual 76, 92, 0), (138, .ireturn, 0, 0), (139, .aload_n 0, 0, 0), (140, .iload_n 2, 0, 0), (141, .invokevirtual 76, 92, 0), (144, .ireturn, 0, 0), (145, .aload_n 0, 0, 0), (146, .invokevirtual 79, 94, 0), (149, .ireturn, 0, 0)]
def mt_88 : am_M := (⟨"TestFinder$FilterReader", "not", "(I)Z"⟩, prog_4_method_6_code, 3, (some .boolean), 2, 7, cd_88)
def cd_89 : am_C := [(0, .aload_n 0, 0, 0), (1, .dup, 0, 0), (2, .getfield 38, 7, 3), (5, .iconst 1, 0, 0), (6, .iadd, 0, 0), (7, .putfield 38, 7, 3), (10, .aload_n 0, 0, 0), (11, .iload_n 1, 0, 0), (12, .invokevirtual 59, 88, 0), (15, .ifCond .ne (5), 0, 0), (18, .iconst 0, 0, 0), (19, .ireturn, 0, 0), (20, .aload_n 0, 0, 0), (21, .getfield 27, 7, 4), (24, .bipush (33), 0, 0), (26, .lconst 0, 0, 0), (27, .lconst 0, 0, 0), (28, .invokevirtual 55, 77, 0), (31, .iconst 1, 0, 0), (32, .ireturn, 0, 0)]
def mt_89 : am_M := (⟨"TestFinder$FilterReader", "negated", "(I)Z"⟩, prog_4_method_7_code, 2, (some .boolean), 2, 7, cd_89)
def cd_90 : am_C := [(0, .aload_n 0, 0, 0), (1, .dup, 0, 0), (2, .getfield 38, 7, 3), (5, .iconst 1, 0, 0), (6, .iadd, 0, 0), (7, .putfield 38, 7, 3), (10, .aload_n 0, 0, 0), (11, .iload_n 1, 0, 0), (12, .invokevirtual 42, 86, 0), (15, .ifCond .eq (12), 0, 0), (18, .aload_n 0, 0, 0), (19, .invokevirtual 49, 96, 0), (22, .bipush (41), 0, 0), (24, .if_icmp .eq (5), 0, 0), (27, .iconst 0, 0, 0), (28, .ireturn, 0, 0), (29, .aload_n 0, 0, 0), (30, .dup, 0, 0), (31, .getfield 38, 7, 3), (34, .iconst 1, 0, 0), (35, .iadd, 0, 0), (36, .putfield 38, 7, 3), (39, .iconst 1, 0, 0), (40, .ireturn, 0, 0)]
def mt_90 : am_M := (⟨"TestFinder$FilterReader", "enclosed", "(I)Z"⟩, prog_4_method_8_code, 2, (some .boolean), 2, 7, cd_90)
def cd_91 : am_C := [(0, .aload_n 0, 0, 0), (1, .dup, 0, 0), (2, .getfield 38, 7, 3), (5, .iconst 1, 0, 0), (6, .iadd, 0, 0), (7, .putfield 38, 7, 3), (10, .aload_n 0, 0, 0), (11, .getfield 27, 7, 4), (14, .iload_n 1, 0, 0), (15, .lconst 0, 0, 0), (16, .lconst 0, 0, 0), (17, .invokevirtual 55, 77, 0), (20, .iconst 1, 0, 0), (21, .ireturn, 0, 0)]
def mt_91 : am_M := (⟨"TestFinder$FilterReader", "plain", "(C)Z"⟩, prog_4_method_9_code, 2, (some .boolean), 2, 7, cd_91)
def cd_92 : am_C := [(0, .aload_n 0, 0, 0), (1, .dup, 0, 0), (2, .getfield 38, 7, 3), (5, .iconst 1, 0, 0), (6, .iadd, 0, 0), (7, .putfield 38, 7, 3), (10, .aload_n 0, 0, 0), (11, .iconst 1, 0, 0), (12, .invokevirtual 82, 95, 0), (15, .lstore_n 2, 0, 0), (16, .aload_n 0, 0, 0), (17, .getfield 27, 7, 4), (20, .iload_n 1, 0, 0), (21, .lload_n 2, 0, 0), (22, .lconst 0, 0, 0), (23, .invokevirtual 55, 77, 0), (26, .lload_n 2, 0, 0), (27, .lconst 0, 0, 0), (28, .lcmp, 0, 0), (29, .ifCond .eq (7), 0, 0), (32, .iconst 1, 0, 0), (33, .goto (4), 0, 0), (36, .iconst 0, 0, 0), (37, .ireturn, 0, 0)]
def mt_92 : am_M := (⟨"TestFinder$FilterReader", "named", "(C)Z"⟩, prog_4_method_10_code, 4, (some .boolean), 2, 7, cd_92)
def cd_93 : am_C := [(0, .aload_n 0, 0, 0), (1, .dup, 0, 0), (2, .getfield 38, 7, 3), (5, .iconst 1, 0, 0), (6, .iadd, 0, 0), (7, .putfield 38, 7, 3), (10, .aload_n 0, 0, 0), (11, .invokevirtual 49, 96, 0), (14, .istore_n 1, 0, 0), (15, .iload_n 1, 0, 0), (16, .bipush (49), 0, 0), (18, .if_icmp .lt (9), 0, 0), (21, .iload_n 1, 0, 0), (22, .bipush (57), 0, 0), (24, .if_icmp .le (5), 0, 0), (27, .iconst 0, 0, 0), (28, .ireturn, 0, 0), (29, .aload_n 0, 0, 0), (30, .dup, 0, 0), (31, .getfield 38, 7, 3), (34, .iconst 1, 0, 0), (35, .iadd, 0, 0), (36, .putfield 38, 7, 3), (39, .aload_n 0, 0, 0), (40, .getfield 27, 7, 4), (43, .bipush (60), 0, 0), (45, .lconst 0, 0, 0), (46, .iload_n 1, 0, 0), (47, .bipush (48), 0, 0), (49, .isub, 0, 0), (50, .i2l, 0, 0), (51, .invokevirtual 55, 77, 0), (54, .iconst 1, 0, 0), (55, .ireturn, 0, 0)]
def mt_93 : am_M := (⟨"TestFinder$FilterReader", "less", "()Z"⟩, prog_4_method_11_code, 2, (some .boolean), 1, 7, cd_93)
def cd_94 : am_C := [(0, .aload_n 0, 0, 0), (1, .iconst 1, 0, 0), (2, .invokevirtual 82, 95, 0), (5, .lstore_n 1, 0, 0), (6, .lload_n 1, 0, 0), (7, .lconst 0, 0, 0), (8, .lcmp, 0, 0), (9, .ifCond .ne (5), 0, 0), (12, .iconst 0, 0, 0), (13, .ireturn, 0, 0), (14, .aload_n 0, 0, 0), (15, .invokevirtual 49, 96, 0), (18, .bipush (58), 0, 0), (20, .if_icmp .eq (16), 0, 0), (23, .aload_n 0, 0, 0), (24, .getfield 27, 7, 4), (27, .bipush (35), 0, 0), (29, .lload_n 1, 0, 0), (30, .lconst 0, 0, 0), (31, .invokevirtual 55, 77, 0), (34, .iconst 1, 0, 0), (35, .ireturn, 0, 0), (36, .aload_n 0, 0, 0), (37, .dup, 0, 0), (38, .getfield 38, 7, 3), (41, .iconst 1, 0, 0), (42, .iadd, 0, 0), (43, .putfield 38, 7, 3), (46, .aload_n 0, 0, 0), (47, .iconst 0, 0, 0), (48, .invokevirtual 82, 95, 0), (51, .lstore_n 3, 0, 0), (52, .aload_n 0, 0, 0), (53, .getfield 27, 7, 4), (56, .bipush (58), 0, 0), (58, .lload_n 1, 0, 0), (59, .lload_n 3, 0, 0), (60, .invokevirtual 55, 77, 0), (63, .lload_n 3, 0, 0), (64, .lconst 0, 0, 0), (65, .lcmp, 0, 0), (66, .ifCond .eq (7), 0, 0), (69, .iconst 1, 0, 0), (70, .goto (4), 0, 0), (73, .iconst 0, 0, 0), (74, .ireturn, 0, 0)]
def mt_94 : am_M := (⟨"TestFinder$FilterReader", "tagOrValue", "()Z"⟩, prog_4_method_12_code, 5, (some .boolean), 1, 7, cd_94)
def cd_95 : am_C := [(0, .aload_n 0, 0, 0), (1, .invokevirtual 49, 96, 0), (4, .istore_n 2, 0, 0), (5, .iload_n 1, 0, 0), (6, .ifCond .eq (12), 0, 0), (9, .iload_n 2, 0, 0), (10, .invokestatic 86, 102, 0), (13, .ifCond .ne (5), 0, 0), (16, .lconst 0, 0, 0), (17, .lreturn, 0, 0), (18, .aload_n 0, 0, 0), (19, .getfield 35, 7, 2), (22, .aload_n 0, 0, 0), (23, .getfield 38, 7, 3), (26, .bipush (12), 0, 0), (28, .iadd, 0, 0), (29, .invokestatic 89, 1002, 0), (32, .istore_n 3, 0, 0), (33, .lconst 0, 0, 0), (34, .lstore 4, 0, 0), (36, .aload_n 0, 0, 0), (37, .getfield 38, 7, 3), (40, .iload_n 3, 0, 0), (41, .if_icmp .ge (53), 0, 0), (44, .aload_n 0, 0, 0), (45, .getfield 21, 7, 1), (48, .aload_n 0, 0, 0), (49, .getfield 38, 7, 3), (52, .caload, 0, 0), (53, .invokestatic 95, 103, 0), (56, .ifCond .eq (38), 0, 0), (59, .lload 4, 0, 0), (61, .ldc2_w 99, 38, 0), (64, .lmul, 0, 0), (65, .aload_n 0, 0, 0), (66, .getfield 21, 7, 1), (69, .aload_n 0, 0, 0), (70, .getfield 38, 7, 3), (73, .caload, 0, 0), (74, .invokestatic 95, 103, 0), (77, .i2l, 0, 0), (78, .ladd, 0, 0), (79, .lstore 4, 0, 0), (81, .aload_n 0, 0, 0), (82, .dup, 0, 0), (83, .getfield 38, 7, 3), (86, .iconst 1, 0, 0), (87, .iadd, 0, 0), (88, .putfield 38, 7, 3), (91, .goto (-55), 0, 0), (94, .lload 4, 0, 0), (96, .lreturn, 0, 0)]
def mt_95 : am_M := (⟨"TestFinder$FilterReader", "word", "(Z)J"⟩, prog_4_method_13_code, 6, (some .long), 2, 7, cd_95)
def cd_96 : am_C := [(0, .aload_n 0, 0, 0), (1, .getfield 38, 7, 3), (4, .aload_n 0, 0, 0), (5, .getfield 35, 7, 2), (8, .if_icmp .ge (30), 0, 0), (11, .aload_n 0, 0, 0), (12, .getfield 21, 7, 1), (15, .aload_n 0, 0, 0), (16, .getfield 38, 7, 3), (19, .caload, 0, 0), (20, .bipush (32), 0, 0), (22, .if_icmp .ne (16), 0, 0), (25, .aload_n 0, 0, 0), (26, .dup, 0, 0), (27, .getfield 38, 7, 3), (30, .iconst 1, 0, 0), (31, .iadd, 0, 0), (32, .putfield 38, 7, 3), (35, .goto (-35), 0, 0), (38, .aload_n 0, 0, 0), (39, .getfield 38, 7, 3), (42, .aload_n 0, 0, 0), (43, .getfield 35, 7, 2), (46, .if_icmp .ge (15), 0, 0), (49, .aload_n 0, 0, 0), (50, .getfield 21, 7, 1), (53, .aload_n 0, 0, 0), (54, .getfield 38, 7, 3), (57, .caload, 0, 0), (58, .goto (4), 0, 0), (61, .iconst 0, 0, 0), (62, .ireturn, 0, 0)]
def mt_96 : am_M := (⟨"TestFinder$FilterReader", "next", "()C"⟩, prog_4_method_14_code, 1, (some .char), 1, 7, cd_96)
def cd_97 : am_C := [(0, .aload_n 0, 0, 0), (1, .invokespecial 3, 1000, 0), (4, .aload_n 0, 0, 0), (5, .iload_n 1, 0, 0), (6, .ifCond .ge (7), 0, 0), (9, .iconst 0, 0, 0), (10, .goto (4), 0, 0), (13, .iload_n 1, 0, 0), (14, .newarray .long, 0, 0), (16, .putfield 9, 3, 0), (19, .return_, 0, 0)]
def mt_97 : am_M := (⟨"TestFinder$NameRow", "<init>", "(I)V"⟩, prog_5_method_1_code, 2, none, 2, 3, cd_97)
def cd_98 : am_C := [(0, .lload_n 1, 0, 0), (1, .lconst 0, 0, 0), (2, .lcmp, 0, 0), (3, .ifCond .eq (24), 0, 0), (6, .aload_n 0, 0, 0), (7, .getfield 17, 3, 1), (10, .aload_n 0, 0, 0), (11, .getfield 9, 3, 0), (14, .arraylength, 0, 0), (15, .if_icmp .ge (12), 0, 0), (18, .aload_n 0, 0, 0), (19, .lload_n 1, 0, 0), (20, .invokevirtual 21, 99, 0), (23, .iconst (-1), 0, 0), (24, .if_icmp .eq (5), 0, 0), (27, .iconst 0, 0, 0), (28, .ireturn, 0, 0), (29, .aload_n 0, 0, 0), (30, .getfield 9, 3, 0), (33, .aload_n 0, 0, 0), (34, .getfield 17, 3, 1), (37, .lload_n 1, 0, 0), (38, .lastore, 0, 0), (39, .aload_n 0, 0, 0), (40, .dup, 0, 0), (41, .getfield 17, 3, 1), (44, .iconst 1, 0, 0), (45, .iadd, 0, 0), (46, .putfield 17, 3, 1), (49, .iconst 1, 0, 0), (50, .ireturn, 0, 0)]
def mt_98 : am_M := (⟨"TestFinder$NameRow", "add", "(J)Z"⟩, prog_5_method_2_code, 3, (some .boolean), 2, 3, cd_98)
def cd_99 : am_C := [(0, .iconst 0, 0, 0), (1, .istore_n 3, 0, 0), (2, .iload_n 3, 0, 0), (3, .aload_n 0, 0, 0), (4, .getfield 17, 3, 1), (7, .if_icmp .ge (22), 0, 0), (10, .aload_n 0, 0, 0), (11, .getfield 9, 3, 0), (14, .iload_n 3, 0, 0), (15, .laload, 0, 0), (16, .lload_n 1, 0, 0), (17, .lcmp, 0, 0), (18, .ifCond .ne (5), 0, 0), (21, .iload_n 3, 0, 0), (22, .ireturn, 0, 0), (23, .iinc 3 (1), 0, 0), (26, .goto (-24), 0, 0), (29, .iconst (-1), 0, 0), (30, .ireturn, 0, 0)]
def mt_99 : am_M := (⟨"TestFinder$NameRow", "indexOf", "(J)I"⟩, prog_5_method_3_code, 4, (some .int), 2, 3, cd_99)
def cd_100 : am_C := [(0, .iload_n 1, 0, 0), (1, .ifCond .lt (20), 0, 0), (4, .iload_n 1, 0, 0), (5, .aload_n 0, 0, 0), (6, .getfield 17, 3, 1), (9, .if_icmp .ge (12), 0, 0), (12, .aload_n 0, 0, 0), (13, .getfield 9, 3, 0), (16, .iload_n 1, 0, 0), (17, .laload, 0, 0), (18, .goto (4), 0, 0), (21, .lconst 0, 0, 0), (22, .lreturn, 0, 0)]
def mt_100 : am_M := (⟨"TestFinder$NameRow", "at", "(I)J"⟩, prog_5_method_4_code, 2, (some .long), 2, 3, cd_100)
def cd_101 : am_C := [(0, .iconst 0, 0, 0), (1, .istore_n 2, 0, 0), (2, .iload_n 2, 0, 0), (3, .aload_n 1, 0, 0), (4, .getfield 17, 3, 1), (7, .if_icmp .ge (20), 0, 0), (10, .aload_n 0, 0, 0), (11, .aload_n 1, 0, 0), (12, .getfield 9, 3, 0), (15, .iload_n 2, 0, 0), (16, .laload, 0, 0), (17, .invokevirtual 25, 98, 0), (20, .pop, 0, 0), (21, .iinc 2 (1), 0, 0), (24, .goto (-22), 0, 0), (27, .return_, 0, 0)]
def mt_101 : am_M := (⟨"TestFinder$NameRow", "addAll", "(LTestFinder$NameRow;)V"⟩, prog_5_method_5_code, 3, none, 2, 3, cd_101)
def cd_102 : am_C := [(0, .iload_n 0, 0, 0), (1, .bipush (97), 0, 0), (3, .if_icmp .lt (13), 0, 0), (6, .iload_n 0, 0, 0), (7, .bipush (122), 0, 0), (9, .if_icmp .gt (7), 0, 0), (12, .iconst 1, 0, 0), (13, .goto (4), 0, 0), (16, .iconst 0, 0, 0), (17, .ireturn, 0, 0)]
def mt_102 : am_M := (⟨"TestFinder$Names", "isLetter", "(C)Z"⟩, prog_6_method_2_code, 1, (some .boolean), 1, 999, cd_102)
def cd_103 : am_C := [(0, .iload_n 0, 0, 0), (1, .bipush (97), 0, 0), (3, .if_icmp .lt (16), 0, 0), (6, .iload_n 0, 0, 0), (7, .bipush (122), 0, 0), (9, .if_icmp .gt (10), 0, 0), (12, .iload_n 0, 0, 0), (13, .bipush (97), 0, 0), (15, .isub, 0, 0), (16, .iconst 1, 0, 0), (17, .iadd, 0, 0), (18, .ireturn, 0, 0), (19, .iload_n 0, 0, 0), (20, .bipush (48), 0, 0), (22, .if_icmp .lt (17), 0, 0), (25, .iload_n 0, 0, 0), (26, .bipush (57), 0, 0), (28, .if_icmp .gt (11), 0, 0), (31, .iload_n 0, 0, 0), (32, .bipush (48), 0, 0), (34, .isub, 0, 0), (35, .bipush (27), 0, 0), (37, .iadd, 0, 0), (38, .ireturn, 0, 0), (39, .iload_n 0, 0, 0), (40, .bipush (95), 0, 0), (42, .if_icmp .ne (8), 0, 0), (45, .bipush (37), 0, 0), (47, .goto (4), 0, 0), (50, .iconst 0, 0, 0), (51, .ireturn, 0, 0)]
def mt_103 : am_M := (⟨"TestFinder$Names", "digitOf", "(C)I"⟩, prog_6_method_3_code, 1, (some .int), 1, 999, cd_103)
def cd_104 : am_C := [(0, .iconst 0, 0, 0), (1, .istore_n 2, 0, 0), (2, .lload_n 0, 0, 0), (3, .lstore_n 3, 0, 0), (4, .lload_n 3, 0, 0), (5, .lconst 0, 0, 0), (6, .lcmp, 0, 0), (7, .ifCond .le (15), 0, 0), (10, .iinc 2 (1), 0, 0), (13, .lload_n 3, 0, 0), (14, .ldc2_w 9, 38, 0), (17, .ldiv, 0, 0), (18, .lstore_n 3, 0, 0), (19, .goto (-15), 0, 0), (22, .iload_n 2, 0, 0), (23, .ireturn, 0, 0)]
def mt_104 : am_M := (⟨"TestFinder$Names", "length", "(J)I"⟩, prog_6_method_4_code, 5, (some .int), 1, 999, cd_104)
def cd_105 : am_C := [(0, .lload_n 0, 0, 0), (1, .ldc2_w 9, 38, 0), (4, .lrem, 0, 0), (5, .l2i, 0, 0), (6, .istore_n 2, 0, 0), (7, .iload_n 2, 0, 0), (8, .bipush (26), 0, 0), (10, .if_icmp .gt (11), 0, 0), (13, .bipush (97), 0, 0), (15, .iload_n 2, 0, 0), (16, .iadd, 0, 0), (17, .iconst 1, 0, 0), (18, .isub, 0, 0), (19, .i2c, 0, 0), (20, .ireturn, 0, 0), (21, .iload_n 2, 0, 0), (22, .bipush (37), 0, 0), (24, .if_icmp .ne (8), 0, 0), (27, .bipush (95), 0, 0), (29, .goto (11), 0, 0), (32, .bipush (48), 0, 0), (34, .iload_n 2, 0, 0), (35, .iadd, 0, 0), (36, .bipush (27), 0, 0), (38, .isub, 0, 0), (39, .i2c, 0, 0), (40, .ireturn, 0, 0)]
def mt_105 : am_M := (⟨"TestFinder$Names", "lastCharacter", "(J)C"⟩, prog_6_method_5_code, 3, (some .char), 1, 999, cd_105)
def cd_106 : am_C := [(0, .aload_n 0, 0, 0), (1, .invokespecial 3, 1000, 0), (4, .aload_n 0, 0, 0), (5, .sipush (1200), 0, 0), (8, .newarray .char, 0, 0), (10, .putfield 9, 2, 0), (13, .aload_n 0, 0, 0), (14, .new 15, 3, 2), (17, .dup, 0, 0), (18, .bipush (10), 0, 0), (20, .invokespecial 17, 97, 0), (23, .putfield 20, 2, 2), (26, .aload_n 0, 0, 0), (27, .bipush (40), 0, 0), (29, .anewarray 24, 4, 0), (32, .putfield 26, 2, 3), (35, .aload_n 0, 0, 0), (36, .bipush (120), 0, 0), (38, .newarray .int, 0, 0), (40, .putfield 30, 2, 5), (43, .iconst 0, 0, 0), (44, .istore_n 1, 0, 0), (45, .iload_n 1, 0, 0), (46, .aload_n 0, 0, 0), (47, .getfield 26, 2, 3), (50, .arraylength, 0, 0), (51, .if_icmp .ge (22), 0, 0), (54, .aload_n 0, 0, 0), (55, .getfield 26, 2, 3), (58, .iload_n 1, 0, 0), (59, .new 24, 4, 15), (62, .dup, 0, 0), (63, .invokespecial 34, 73, 0), (66, .aastore, 0, 0), (67, .iinc 1 (1), 0, 0), (70, .goto (-25), 0, 0), (73, .return_, 0, 0)]
def mt_106 : am_M := (⟨"TestFinder$Script", "<init>", "()V"⟩, prog_7_method_1_code, 2, none, 1, 2, cd_106)
def cd_107 : am_C := [(0, .aload_n 0, 0, 0), (1, .getfield 20, 2, 2), (4, .iconst 0, 0, 0), (5, .putfield 35, 3, 1), (8, .aload_n 0, 0, 0), (9, .iconst 0, 0, 0), (10, .putfield 39, 2, 4), (13, .aload_n 0, 0, 0), (14, .iconst 0, 0, 0), (15, .putfield 42, 2, 6), (18, .return_, 0, 0)]
def mt_107 : am_M := (⟨"TestFinder$Script", "forget", "()V"⟩, prog_7_method_2_code, 1, none, 1, 2, cd_107)
def cd_108 : am_C := [(0, .aload_n 0, 0, 0), (1, .invokevirtual 45, 107, 0), (4, .aload_n 0, 0, 0), (5, .aload_n 1, 0, 0), (6, .getfield 48, 1, 1), (9, .putfield 51, 2, 1), (12, .aload_n 1, 0, 0), (13, .getfield 54, 1, 0), (16, .iconst 0, 0, 0), (17, .aload_n 0, 0, 0), (18, .getfield 9, 2, 0), (21, .iconst 0, 0, 0), (22, .aload_n 0, 0, 0), (23, .getfield 51, 2, 1), (26, .invokestatic 57, 1001, 0), (29, .return_, 0, 0)]
def mt_108 : am_M := (⟨"TestFinder$Script", "become", "(LTestFinder$Tape;)V"⟩, prog_7_method_3_code, 2, none, 2, 2, cd_108)
def cd_109 : am_C := [(0, .iload_n 1, 0, 0), (1, .istore_n 2, 0, 0), (2, .iload_n 2, 0, 0), (3, .aload_n 0, 0, 0), (4, .getfield 51, 2, 1), (7, .if_icmp .ge (20), 0, 0), (10, .aload_n 0, 0, 0), (11, .getfield 9, 2, 0), (14, .iload_n 2, 0, 0), (15, .caload, 0, 0), (16, .bipush (10), 0, 0), (18, .if_icmp .eq (9), 0, 0), (21, .iinc 2 (1), 0, 0), (24, .goto (-22), 0, 0), (27, .iload_n 2, 0, 0), (28, .ireturn, 0, 0)]
def mt_109 : am_M := (⟨"TestFinder$Script", "lineEnd", "(I)I"⟩, prog_7_method_4_code, 3, (some .int), 2, 2, cd_109)
def cd_110 : am_C := [(0, .iconst 0, 0, 0), (1, .istore_n 1, 0, 0), (2, .iconst 0, 0, 0), (3, .istore_n 2, 0, 0), (4, .iload_n 2, 0, 0), (5, .aload_n 0, 0, 0), (6, .getfield 39, 2, 4), (9, .if_icmp .ge (59), 0, 0), (12, .aload_n 0, 0, 0), (13, .getfield 26, 2, 3), (16, .iload_n 2, 0, 0), (17, .aaload, 0, 0), (18, .iload_n 1, 0, 0), (19, .putfield 63, 4, 9), (22, .iconst 0, 0, 0), (23, .istore_n 3, 0, 0), (24, .iload_n 3, 0, 0), (25, .aload_n 0, 0, 0), (26, .getfield 26, 2, 3), (29, .iload_n 2, 0, 0), (30, .aaload, 0, 0), (31, .getfield 66, 4, 10), (34, .if_icmp .ge (28), 0, 0), (37, .iload_n 1, 0, 0), (38, .aload_n 0, 0, 0), (39, .getfield 30, 2, 5), (42, .arraylength, 0, 0), (43, .if_icmp .ge (19), 0, 0), (46, .aload_n 0, 0, 0), (47, .getfield 30, 2, 5), (50, .iload_n 1, 0, 0), (51, .iload_n 2, 0, 0), (52, .iastore, 0, 0), (53, .iinc 1 (1), 0, 0), (56, .iinc 3 (1), 0, 0), (59, .goto (-35), 0, 0), (62, .iinc 2 (1), 0, 0), (65, .goto (-61), 0, 0), (68, .return_, 0, 0)]
def mt_110 : am_M := (⟨"TestFinder$Script", "numberTests", "()V"⟩, prog_7_method_5_code, 4, none, 1, 2, cd_110)
def cd_111 : am_C := [(0, .iload_n 1, 0, 0), (1, .ifCond .lt (15), 0, 0), (4, .iload_n 1, 0, 0), (5, .aload_n 0, 0, 0), (6, .getfield 42, 2, 6), (9, .if_icmp .ge (7), 0, 0), (12, .iconst 1, 0, 0), (13, .goto (4), 0, 0), (16, .iconst 0, 0, 0), (17, .ireturn, 0, 0)]
def mt_111 : am_M := (⟨"TestFinder$Script", "has", "(I)Z"⟩, prog_7_method_6_code, 2, (some .boolean), 2, 2, cd_111)
def cd_112 : am_C := [(0, .aload_n 0, 0, 0), (1, .getfield 26, 2, 3), (4, .aload_n 0, 0, 0), (5, .iload_n 1, 0, 0), (6, .invokevirtual 67, 111, 0), (9, .ifCond .eq (12), 0, 0), (12, .aload_n 0, 0, 0), (13, .getfield 30, 2, 5), (16, .iload_n 1, 0, 0), (17, .iaload, 0, 0), (18, .goto (4), 0, 0), (21, .iconst 0, 0, 0), (22, .aaload, 0, 0), (23, .areturn, 0, 0)]
def mt_112 : am_M := (⟨"TestFinder$Script", "caseOf", "(I)LTestFinder$Case;"⟩, prog_7_method_7_code, 2, (some (.object "TestFinder$Case")), 2, 2, cd_112)
def cd_113 : am_C := [(0, .aload_n 0, 0, 0), (1, .invokespecial 3, 1000, 0), (4, .aload_n 0, 0, 0), (5, .new 9, 3, 2), (8, .dup, 0, 0), (9, .bipush (8), 0, 0), (11, .invokespecial 11, 97, 0), (14, .putfield 14, 5, 2), (17, .aload_n 0, 0, 0), (18, .aload_n 1, 0, 0), (19, .putfield 20, 5, 0), (22, .aload_n 0, 0, 0), (23, .new 24, 6, 4), (26, .dup, 0, 0), (27, .aload_n 1, 0, 0), (28, .getfield 26, 2, 0), (31, .invokespecial 32, 132, 0), (34, .putfield 35, 5, 1), (37, .return_, 0, 0)]
def mt_113 : am_M := (⟨"TestFinder$ScriptReader", "<init>", "(LTestFinder$Script;)V"⟩, prog_8_method_1_code, 2, none, 2, 5, cd_113)
def cd_114 : am_C := [(0, .aload_n 0, 0, 0), (1, .getfield 20, 5, 0), (4, .aload_n 1, 0, 0), (5, .invokevirtual 39, 108, 0), (8, .aload_n 0, 0, 0), (9, .iconst 0, 0, 0), (10, .putfield 43, 5, 3), (13, .iconst 0, 0, 0), (14, .istore_n 2, 0, 0), (15, .iconst 0, 0, 0), (16, .istore_n 3, 0, 0), (17, .iload_n 2, 0, 0), (18, .aload_n 0, 0, 0), (19, .getfield 20, 5, 0), (22, .getfield 47, 2, 1), (25, .if_icmp .ge (51), 0, 0), (28, .aload_n 0, 0, 0), (29, .getfield 20, 5, 0), (32, .iload_n 2, 0, 0), (33, .invokevirtual 51, 109, 0), (36, .istore 4, 0, 0), (38, .aload_n 0, 0, 0), (39, .getfield 35, 5, 1), (42, .iload_n 2, 0, 0), (43, .iload 4, 0, 0), (45, .invokevirtual 55, 133, 0), (48, .aload_n 0, 0, 0), (49, .iload_n 3, 0, 0), (50, .invokevirtual 59, 115, 0), (53, .ifCond .ne (12), 0, 0), (56, .aload_n 0, 0, 0), (57, .getfield 20, 5, 0), (60, .invokevirtual 63, 107, 0), (63, .iload_n 3, 0, 0), (64, .ireturn, 0, 0), (65, .iload 4, 0, 0), (67, .iconst 1, 0, 0), (68, .iadd, 0, 0), (69, .istore_n 2, 0, 0), (70, .iinc 3 (1), 0, 0), (73, .goto (-56), 0, 0), (76, .aload_n 0, 0, 0), (77, .getfield 20, 5, 0), (80, .invokevirtual 66, 110, 0), (83, .iconst (-1), 0, 0), (84, .ireturn, 0, 0)]
def mt_114 : am_M := (⟨"TestFinder$ScriptReader", "read", "(LTestFinder$Tape;)I"⟩, prog_8_method_2_code, 5, (some .int), 2, 5, cd_114)
def cd_115 : am_C := [(0, .aload_n 0, 0, 0), (1, .getfield 35, 5, 1), (4, .getfield 69, 6, 2), (7, .ifCond .eq (13), 0, 0), (10, .aload_n 0, 0, 0), (11, .getfield 35, 5, 1), (14, .invokevirtual 72, 135, 0), (17, .ifCond .eq (5), 0, 0), (20, .iconst 1, 0, 0), (21, .ireturn, 0, 0), (22, .aload_n 0, 0, 0), (23, .getfield 35, 5, 1), (26, .ldc 76, 1, 0), (28, .invokevirtual 78, 136, 0), (31, .ifCond .eq (8), 0, 0), (34, .aload_n 0, 0, 0), (35, .invokevirtual 82, 116, 0), (38, .ireturn, 0, 0), (39, .aload_n 0, 0, 0), (40, .getfield 35, 5, 1), (43, .ldc 85, 2, 0), (45, .invokevirtual 78, 136, 0), (48, .ifCond .eq (9), 0, 0), (51, .aload_n 0, 0, 0), (52, .iload_n 1, 0, 0), (53, .invokevirtual 87, 117, 0), (56, .ireturn, 0, 0), (57, .aload_n 0, 0, 0), (58, .getfield 35, 5, 1), (61, .ldc 90, 3, 0), (63, .invokevirtual 78, 136, 0), (66, .ifCond .eq (8), 0, 0), (69, .aload_n 0, 0, 0), (70, .invokevirtual 92, 119, 0), (73, .ireturn, 0, 0), (74, .aload_n 0, 0, 0), (75, .getfield 43, 5, 3), (78, .ifCond .eq (14), 0, 0), (81, .aload_n 0, 0, 0), (82, .getfield 20, 5, 0), (85, .getfield 95, 2, 4), (88, .iconst 1, 0, 0), (89, .if_icmp .ge (5), 0, 0), (92, .iconst 0, 0, 0), (93, .ireturn, 0, 0), (94, .aload_n 0, 0, 0), (95, .getfield 20, 5, 0), (98, .getfield 98, 2, 3), (101, .aload_n 0, 0, 0), (102, .getfield 20, 5, 0), (105, .getfield 95, 2, 4), (108, .iconst 1, 0, 0), (109, .isub, 0, 0), (110, .aaload, 0, 0), (111, .astore_n 2, 0, 0), (112, .aload_n 0, 0, 0), (113, .getfield 35, 5, 1), (116, .ldc 102, 4, 0), (118, .invokevirtual 78, 136, 0), (121, .ifCond .eq (9), 0, 0), (124, .aload_n 0, 0, 0), (125, .aload_n 2, 0, 0), (126, .invokevirtual 104, 120, 0), (129, .ireturn, 0, 0), (130, .aload_n 0, 0, 0), (131, .getfield 35, 5, 1), (134, .ldc 108, 5, 0), (136, .invokevirtual 78, 136, 0), (139, .ifCond .eq (9), 0, 0), (142, .aload_n 0, 0, 0), (143, .aload_n 2, 0, 0), (144, .invokevirtual 110, 121, 0), (147, .ireturn, 0, 0), (148, .aload_n 0, 0, 0), (149, .getfield 35, 5, 1), (152, .ldc 113, 6, 0), (154, .invokevirtual 78, 136, 0), (157, .ifCond .eq (9), 0, 0), (160, .aload_n 0, 0, 0), (161, .aload_n 2, 0, 0), (162, .invokevirtual 115, 122, 0), (165, .ireturn, 0, 0), (166, .aload_n 0, 0, 0), (167, .getfield 35, 5, 1), (170, .ldc 117, 7, 0), (172, .invokevirtual 78, 136, 0), (175, .ifCond .eq (15), 0, 0), (178, .aload_n 0, 0, 0), (179, .aload_n 2, 0, 0), (180, .invokevirtual 119, 123, 0), (183, .ifCond .eq (7), 0, 0), (186, .iconst 1, 0, 0), (187, .goto (4), 0, 0), (190, .iconst 0, 0, 0), (191, .ireturn, 0, 0)]
def mt_115 : am_M := (⟨"TestFinder$ScriptReader", "accept", "(I)Z"⟩, prog_8_method_3_code, 3, (some .boolean), 2, 5, cd_115)
def cd_116 : am_C := [(0, .aload_n 0, 0, 0), (1, .iconst 0, 0, 0), (2, .putfield 43, 5, 3), (5, .aload_n 0, 0, 0), (6, .getfield 14, 5, 2), (9, .iconst 0, 0, 0), (10, .putfield 122, 3, 1), (13, .aload_n 0, 0, 0), (14, .getfield 35, 5, 1), (17, .getfield 69, 6, 2), (20, .iconst 2, 0, 0), (21, .if_icmp .ne (28), 0, 0), (24, .aload_n 0, 0, 0), (25, .getfield 20, 5, 0), (28, .getfield 124, 2, 2), (31, .aload_n 0, 0, 0), (32, .getfield 35, 5, 1), (35, .iconst 1, 0, 0), (36, .invokevirtual 127, 137, 0), (39, .invokevirtual 131, 98, 0), (42, .ifCond .eq (7), 0, 0), (45, .iconst 1, 0, 0), (46, .goto (4), 0, 0), (49, .iconst 0, 0, 0), (50, .ireturn, 0, 0)]
def mt_116 : am_M := (⟨"TestFinder$ScriptReader", "openSuite", "()Z"⟩, prog_8_method_4_code, 1, (some .boolean), 1, 5, cd_116)
def cd_117 : am_C := [(0, .aload_n 0, 0, 0), (1, .getfield 35, 5, 1), (4, .iconst 1, 0, 0), (5, .invokevirtual 127, 137, 0), (8, .lstore_n 2, 0, 0), (9, .aload_n 0, 0, 0), (10, .getfield 20, 5, 0), (13, .getfield 124, 2, 2), (16, .getfield 122, 3, 1), (19, .iconst 1, 0, 0), (20, .isub, 0, 0), (21, .istore 4, 0, 0), (23, .aload_n 0, 0, 0), (24, .getfield 35, 5, 1), (27, .getfield 69, 6, 2), (30, .iconst 2, 0, 0), (31, .if_icmp .ne (19), 0, 0), (34, .lload_n 2, 0, 0), (35, .lconst 0, 0, 0), (36, .lcmp, 0, 0), (37, .ifCond .eq (13), 0, 0), (40, .aload_n 0, 0, 0), (41, .lload_n 2, 0, 0), (42, .iload 4, 0, 0), (44, .invokevirtual 137, 118, 0), (47, .ifCond .eq (5), 0, 0), (50, .iconst 0, 0, 0), (51, .ireturn, 0, 0), (52, .aload_n 0, 0, 0), (53, .getfield 20, 5, 0), (56, .getfield 95, 2, 4), (59, .aload_n 0, 0, 0), (60, .getfield 20, 5, 0), (63, .getfield 98, 2, 3), (66, .arraylength, 0, 0), (67, .if_icmp .ge (15), 0, 0), (70, .aload_n 0, 0, 0), (71, .getfield 20, 5, 0), (74, .getfield 141, 2, 6), (77, .bipush (120), 0, 0), (79, .if_icmp .lt (5), 0, 0), (82, .iconst 0, 0, 0), (83, .ireturn, 0, 0), (84, .aload_n 0, 0, 0), (85, .getfield 20, 5, 0), (88, .getfield 98, 2, 3), (91, .aload_n 0, 0, 0), (92, .getfield 20, 5, 0), (95, .getfield 95, 2, 4), (98, .aaload, 0, 0), (99, .astore 5, 0, 0), (101, .aload 5, 0, 0), (103, .lload_n 2, 0, 0), (104, .iload_n 1, 0, 0), (105, .invokevirtual 144, 74, 0), (108, .iload 4, 0, 0), (110, .iconst (-1), 0, 0), (111, .if_icmp .eq (39), 0, 0), (114, .aload 5, 0, 0), (116, .iload 4, 0, 0), (118, .putfield 150, 4, 2), (121, .aload 5, 0, 0), (123, .aload_n 0, 0, 0), (124, .getfield 20, 5, 0), (127, .getfield 124, 2, 2), (130, .iload 4, 0, 0), (132, .invokevirtual 152, 100, 0), (135, .putfield 155, 4, 1), (138, .aload 5, 0, 0), (140, .getfield 159, 4, 12), (143, .aload_n 0, 0, 0), (144, .getfield 14, 5, 2), (147, .invokevirtual 162, 101, 0), (150, .aload_n 0, 0, 0), (151, .getfield 20, 5, 0), (154, .dup, 0, 0), (155, .getfield 95, 2, 4), (158, .iconst 1, 0, 0), (159, .iadd, 0, 0), (160, .putfield 95, 2, 4), (163, .aload_n 0, 0, 0), (164, .getfield 20, 5, 0), (167, .dup, 0, 0), (168, .getfield 141, 2, 6), (171, .iconst 1, 0, 0), (172, .iadd, 0, 0), (173, .putfield 141, 2, 6), (176, .aload_n 0, 0, 0), (177, .iconst 1, 0, 0), (178, .putfield 43, 5, 3), (181, .iconst 1, 0, 0), (182, .ireturn, 0, 0)]
def mt_117 : am_M := (⟨"TestFinder$ScriptReader", "openCase", "(I)Z"⟩, prog_8_method_5_code, 6, (some .boolean), 2, 5, cd_117)
def cd_118 : am_C := [(0, .iconst 0, 0, 0), (1, .istore 4, 0, 0), (3, .iload 4, 0, 0), (5, .aload_n 0, 0, 0), (6, .getfield 20, 5, 0), (9, .getfield 95, 2, 4), (12, .if_icmp .ge (46), 0, 0), (15, .aload_n 0, 0, 0), (16, .getfield 20, 5, 0), (19, .getfield 98, 2, 3), (22, .iload 4, 0, 0), (24, .aaload, 0, 0), (25, .getfield 150, 4, 2), (28, .iload_n 3, 0, 0), (29, .if_icmp .ne (23), 0, 0), (32, .aload_n 0, 0, 0), (33, .getfield 20, 5, 0), (36, .getfield 98, 2, 3), (39, .iload 4, 0, 0), (41, .aaload, 0, 0), (42, .getfield 166, 4, 0), (45, .lload_n 1, 0, 0), (46, .lcmp, 0, 0), (47, .ifCond .ne (5), 0, 0), (50, .iconst 1, 0, 0), (51, .ireturn, 0, 0), (52, .iinc 4 (1), 0, 0), (55, .goto (-52), 0, 0), (58, .iconst 0, 0, 0), (59, .ireturn, 0, 0)]
def mt_118 : am_M := (⟨"TestFinder$ScriptReader", "isTaken", "(JI)Z"⟩, prog_8_method_6_code, 5, (some .boolean), 3, 5, cd_118)
def cd_119 : am_C := [(0, .aload_n 0, 0, 0), (1, .getfield 35, 5, 1), (4, .getfield 69, 6, 2), (7, .iconst 2, 0, 0), (8, .if_icmp .lt (23), 0, 0), (11, .aload_n 0, 0, 0), (12, .getfield 43, 5, 3), (15, .ifCond .ne (18), 0, 0), (18, .aload_n 0, 0, 0), (19, .getfield 20, 5, 0), (22, .getfield 124, 2, 2), (25, .getfield 122, 3, 1), (28, .ifCond .ne (5), 0, 0), (31, .iconst 0, 0, 0), (32, .ireturn, 0, 0), (33, .aload_n 0, 0, 0), (34, .getfield 14, 5, 2), (37, .astore_n 1, 0, 0), (38, .aload_n 0, 0, 0), (39, .getfield 43, 5, 3), (42, .ifCond .eq (34), 0, 0), (45, .aload_n 0, 0, 0), (46, .getfield 20, 5, 0), (49, .getfield 95, 2, 4), (52, .ifCond .le (24), 0, 0), (55, .aload_n 0, 0, 0), (56, .getfield 20, 5, 0), (59, .getfield 98, 2, 3), (62, .aload_n 0, 0, 0), (63, .getfield 20, 5, 0), (66, .getfield 95, 2, 4), (69, .iconst 1, 0, 0), (70, .isub, 0, 0), (71, .aaload, 0, 0), (72, .getfield 159, 4, 12), (75, .astore_n 1, 0, 0), (76, .iconst 1, 0, 0), (77, .istore_n 2, 0, 0), (78, .iload_n 2, 0, 0), (79, .aload_n 0, 0, 0), (80, .getfield 35, 5, 1), (83, .getfield 69, 6, 2), (86, .if_icmp .ge (26), 0, 0), (89, .aload_n 1, 0, 0), (90, .aload_n 0, 0, 0), (91, .getfield 35, 5, 1), (94, .iload_n 2, 0, 0), (95, .invokevirtual 127, 137, 0), (98, .invokevirtual 131, 98, 0), (101, .ifCond .ne (5), 0, 0), (104, .iconst 0, 0, 0), (105, .ireturn, 0, 0), (106, .iinc 2 (1), 0, 0), (109, .goto (-31), 0, 0), (112, .iconst 1, 0, 0), (113, .ireturn, 0, 0)]
def mt_119 : am_M := (⟨"TestFinder$ScriptReader", "addTags", "()Z"⟩, prog_8_method_7_code, 3, (some .boolean), 1, 5, cd_119)
def cd_120 : am_C := [(0, .aload_n 1, 0, 0), (1, .getfield 168, 4, 13), (4, .getfield 122, 3, 1), (7, .istore_n 2, 0, 0), (8, .aload_n 0, 0, 0), (9, .getfield 35, 5, 1), (12, .getfield 69, 6, 2), (15, .iconst 3, 0, 0), (16, .if_icmp .lt (30), 0, 0), (19, .aload_n 1, 0, 0), (20, .getfield 168, 4, 13), (23, .aload_n 0, 0, 0), (24, .getfield 35, 5, 1), (27, .iconst 1, 0, 0), (28, .invokevirtual 127, 137, 0), (31, .invokevirtual 131, 98, 0), (34, .ifCond .eq (12), 0, 0), (37, .iload_n 2, 0, 0), (38, .aload_n 1, 0, 0), (39, .getfield 171, 4, 14), (42, .arraylength, 0, 0), (43, .if_icmp .lt (5), 0, 0), (46, .iconst 0, 0, 0), (47, .ireturn, 0, 0), (48, .aload_n 1, 0, 0), (49, .getfield 171, 4, 14), (52, .iload_n 2, 0, 0), (53, .aaload, 0, 0), (54, .astore_n 3, 0, 0), (55, .aload_n 3, 0, 0), (56, .iconst 0, 0, 0), (57, .putfield 122, 3, 1), (60, .iconst 2, 0, 0), (61, .istore 4, 0, 0), (63, .iload 4, 0, 0), (65, .aload_n 0, 0, 0), (66, .getfield 35, 5, 1), (69, .getfield 69, 6, 2), (72, .if_icmp .ge (27), 0, 0), (75, .aload_n 3, 0, 0), (76, .aload_n 0, 0, 0), (77, .getfield 35, 5, 1), (80, .iload 4, 0, 0), (82, .invokevirtual 175, 138, 0), (85, .invokevirtual 131, 98, 0), (88, .ifCond .ne (5), 0, 0), (91, .iconst 0, 0, 0), (92, .ireturn, 0, 0), (93, .iinc 4 (1), 0, 0), (96, .goto (-33), 0, 0), (99, .aload_n 1, 0, 0), (100, .getfield 178, 4, 10), (103, .istore 4, 0, 0), (105, .aload_n 1, 0, 0), (106, .iload 4, 0, 0), (108, .aload_n 3, 0, 0), (109, .getfield 122, 3, 1), (112, .imul, 0, 0), (113, .putfield 178, 4, 10), (116, .aload_n 0, 0, 0), (117, .getfield 20, 5, 0), (120, .dup, 0, 0), (121, .getfield 141, 2, 6), (124, .aload_n 1, 0, 0), (125, .getfield 178, 4, 10), (128, .iload 4, 0, 0), (130, .isub, 0, 0), (131, .iadd, 0, 0), (132, .putfield 141, 2, 6), (135, .aload_n 1, 0, 0), (136, .getfield 178, 4, 10), (139, .bipush (24), 0, 0), (141, .if_icmp .gt (19), 0, 0), (144, .aload_n 0, 0, 0), (145, .getfield 20, 5, 0), (148, .getfield 141, 2, 6), (151, .bipush (120), 0, 0), (153, .if_icmp .gt (7), 0, 0), (156, .iconst 1, 0, 0), (157, .goto (4), 0, 0), (160, .iconst 0, 0, 0), (161, .ireturn, 0, 0)]
def mt_120 : am_M := (⟨"TestFinder$ScriptReader", "addParameter", "(LTestFinder$Case;)Z"⟩, prog_8_method_8_code, 5, (some .boolean), 2, 5, cd_120)
def cd_121 : am_C := [(0, .aload_n 0, 0, 0), (1, .getfield 35, 5, 1), (4, .iconst 1, 0, 0), (5, .invokevirtual 179, 139, 0), (8, .istore_n 2, 0, 0), (9, .aload_n 0, 0, 0), (10, .getfield 35, 5, 1), (13, .getfield 69, 6, 2), (16, .iconst 2, 0, 0), (17, .if_icmp .ne (14), 0, 0), (20, .iload_n 2, 0, 0), (21, .ifCond .eq (10), 0, 0), (24, .aload_n 1, 0, 0), (25, .getfield 182, 4, 11), (28, .ifCond .eq (5), 0, 0), (31, .iconst 0, 0, 0), (32, .ireturn, 0, 0), (33, .aload_n 1, 0, 0), (34, .iconst 1, 0, 0), (35, .putfield 182, 4, 11), (38, .aload_n 1, 0, 0), (39, .iload_n 2, 0, 0), (40, .putfield 185, 4, 4), (43, .iconst 1, 0, 0), (44, .ireturn, 0, 0)]
def mt_121 : am_M := (⟨"TestFinder$ScriptReader", "setSize", "(LTestFinder$Case;)Z"⟩, prog_8_method_9_code, 3, (some .boolean), 2, 5, cd_121)
def cd_122 : am_C := [(0, .aload_n 0, 0, 0), (1, .getfield 35, 5, 1), (4, .getfield 69, 6, 2), (7, .iconst 2, 0, 0), (8, .if_icmp .lt (10), 0, 0), (11, .aload_n 1, 0, 0), (12, .getfield 186, 4, 5), (15, .ifCond .eq (5), 0, 0), (18, .iconst 0, 0, 0), (19, .ireturn, 0, 0), (20, .aload_n 1, 0, 0), (21, .iconst 1, 0, 0), (22, .putfield 186, 4, 5), (25, .aload_n 1, 0, 0), (26, .aload_n 0, 0, 0), (27, .getfield 35, 5, 1), (30, .getfield 189, 6, 0), (33, .iconst 1, 0, 0), (34, .iaload, 0, 0), (35, .putfield 193, 4, 7), (38, .aload_n 1, 0, 0), (39, .aload_n 0, 0, 0), (40, .getfield 35, 5, 1), (43, .getfield 196, 6, 1), (46, .aload_n 0, 0, 0), (47, .getfield 35, 5, 1), (50, .getfield 69, 6, 2), (53, .iconst 1, 0, 0), (54, .isub, 0, 0), (55, .iaload, 0, 0), (56, .putfield 199, 4, 8), (59, .iconst 1, 0, 0), (60, .ireturn, 0, 0)]
def mt_122 : am_M := (⟨"TestFinder$ScriptReader", "skip", "(LTestFinder$Case;)Z"⟩, prog_8_method_10_code, 2, (some .boolean), 2, 5, cd_122)
def cd_123 : am_C := [(0, .aload_n 0, 0, 0), (1, .getfield 35, 5, 1), (4, .getfield 69, 6, 2), (7, .iconst 1, 0, 0), (8, .if_icmp .ne (10), 0, 0), (11, .aload_n 1, 0, 0), (12, .getfield 202, 4, 6), (15, .ifCond .eq (5), 0, 0), (18, .iconst 0, 0, 0), (19, .ireturn, 0, 0), (20, .aload_n 1, 0, 0), (21, .iconst 1, 0, 0), (22, .putfield 202, 4, 6), (25, .iconst 1, 0, 0), (26, .ireturn, 0, 0)]
def mt_123 : am_M := (⟨"TestFinder$ScriptReader", "expectFailure", "(LTestFinder$Case;)Z"⟩, prog_8_method_11_code, 2, (some .boolean), 2, 5, cd_123)
def cd_124 : am_C := [(0, .aload_n 0, 0, 0), (1, .invokespecial 3, 1000, 0), (4, .aload_n 0, 0, 0), (5, .sipush (1200), 0, 0), (8, .newarray .char, 0, 0), (10, .putfield 9, 1, 0), (13, .return_, 0, 0)]
def mt_124 : am_M := (⟨"TestFinder$Tape", "<init>", "()V"⟩, prog_9_method_1_code, 1, none, 1, 1, cd_124)
def cd_125 : am_C := [(0, .iconst 0, 0, 0), (1, .istore_n 3, 0, 0), (2, .bipush (56), 0, 0), (4, .istore 4, 0, 0), (6, .iload 4, 0, 0), (8, .ifCond .lt (48), 0, 0), (11, .lload_n 1, 0, 0), (12, .iload 4, 0, 0), (14, .lushr, 0, 0), (15, .l2i, 0, 0), (16, .sipush (255), 0, 0), (19, .iand, 0, 0), (20, .istore 5, 0, 0), (22, .iload 5, 0, 0), (24, .ifCond .eq (13), 0, 0), (27, .iload 5, 0, 0), (29, .invokestatic 15, 126, 0), (32, .ifCond .ne (5), 0, 0), (35, .iconst 0, 0, 0), (36, .ireturn, 0, 0), (37, .iload_n 3, 0, 0), (38, .iload 5, 0, 0), (40, .ifCond .ne (7), 0, 0), (43, .iconst 0, 0, 0), (44, .goto (4), 0, 0), (47, .iconst 1, 0, 0), (48, .iadd, 0, 0), (49, .istore_n 3, 0, 0), (50, .iinc 4 (-8), 0, 0), (53, .goto (-47), 0, 0), (56, .iload_n 3, 0, 0), (57, .aload_n 0, 0, 0), (58, .getfield 9, 1, 0), (61, .arraylength, 0, 0), (62, .aload_n 0, 0, 0), (63, .getfield 19, 1, 1), (66, .isub, 0, 0), (67, .if_icmp .le (5), 0, 0), (70, .iconst 0, 0, 0), (71, .ireturn, 0, 0), (72, .bipush (56), 0, 0), (74, .istore 4, 0, 0), (76, .iload 4, 0, 0), (78, .ifCond .lt (59), 0, 0), (81, .lload_n 1, 0, 0), (82, .iload 4, 0, 0), (84, .lushr, 0, 0), (85, .l2i, 0, 0), (86, .sipush (255), 0, 0), (89, .iand, 0, 0), (90, .istore 5, 0, 0), (92, .iload 5, 0, 0), (94, .ifCond .eq (37), 0, 0), (97, .aload_n 0, 0, 0), (98, .getfield 19, 1, 1), (101, .aload_n 0, 0, 0), (102, .getfield 9, 1, 0), (105, .arraylength, 0, 0), (106, .if_icmp .ge (25), 0, 0), (109, .aload_n 0, 0, 0), (110, .getfield 9, 1, 0), (113, .aload_n 0, 0, 0), (114, .getfield 19, 1, 1), (117, .iload 5, 0, 0), (119, .i2c, 0, 0), (120, .castore, 0, 0), (121, .aload_n 0, 0, 0), (122, .dup, 0, 0), (123, .getfield 19, 1, 1), (126, .iconst 1, 0, 0), (127, .iadd, 0, 0), (128, .putfield 19, 1, 1), (131, .iinc 4 (-8), 0, 0), (134, .goto (-58), 0, 0), (137, .iconst 1, 0, 0), (138, .ireturn, 0, 0)]
def mt_125 : am_M := (⟨"TestFinder$Tape", "take", "(J)Z"⟩, prog_9_method_2_code, 6, (some .boolean), 2, 1, cd_125)
def cd_126 : am_C := [(0, .iload_n 0, 0, 0), (1, .bipush (10), 0, 0), (3, .if_icmp .eq (15), 0, 0), (6, .iload_n 0, 0, 0), (7, .bipush (32), 0, 0), (9, .if_icmp .lt (13), 0, 0), (12, .iload_n 0, 0, 0), (13, .bipush (126), 0, 0), (15, .if_icmp .gt (7), 0, 0), (18, .iconst 1, 0, 0), (19, .goto (4), 0, 0), (22, .iconst 0, 0, 0), (23, .ireturn, 0, 0)]
def mt_126 : am_M := (⟨"TestFinder$Tape", "mayCome", "(I)Z"⟩, prog_9_method_3_code, 1, (some .boolean), 1, 1, cd_126)
def cd_127 : am_C := [(0, .aload_n 0, 0, 0), (1, .invokespecial 3, 1000, 0), (4, .aload_n 0, 0, 0), (5, .sipush (130), 0, 0), (8, .newarray .char, 0, 0), (10, .putfield 11, 9, 0), (13, .return_, 0, 0)]
def mt_127 : am_M := (⟨"TestFinder$TestName", "<init>", "()V"⟩, prog_10_method_1_code, 1, none, 1, 9, cd_127)
def cd_128 : am_C := [(0, .aload_n 0, 0, 0), (1, .iconst 0, 0, 0), (2, .putfield 15, 9, 1), (5, .aload_n 1, 0, 0), (6, .getfield 19, 4, 2), (9, .iconst (-1), 0, 0), (10, .if_icmp .eq (17), 0, 0), (13, .aload_n 0, 0, 0), (14, .aload_n 1, 0, 0), (15, .getfield 24, 4, 1), (18, .invokevirtual 28, 130, 0), (21, .aload_n 0, 0, 0), (22, .bipush (46), 0, 0), (24, .invokevirtual 32, 129, 0), (27, .aload_n 0, 0, 0), (28, .aload_n 1, 0, 0), (29, .getfield 36, 4, 0), (32, .invokevirtual 28, 130, 0), (35, .iconst 0, 0, 0), (36, .istore_n 3, 0, 0), (37, .iload_n 3, 0, 0), (38, .aload_n 1, 0, 0), (39, .getfield 39, 4, 13), (42, .getfield 43, 3, 1), (45, .if_icmp .ge (52), 0, 0), (48, .aload_n 0, 0, 0), (49, .iload_n 3, 0, 0), (50, .ifCond .ne (8), 0, 0), (53, .bipush (91), 0, 0), (55, .goto (5), 0, 0), (58, .bipush (44), 0, 0), (60, .invokevirtual 32, 129, 0), (63, .aload_n 0, 0, 0), (64, .aload_n 1, 0, 0), (65, .getfield 39, 4, 13), (68, .iload_n 3, 0, 0), (69, .invokevirtual 46, 100, 0), (72, .invokevirtual 28, 130, 0), (75, .aload_n 0, 0, 0), (76, .bipush (61), 0, 0), (78, .invokevirtual 32, 129, 0), (81, .aload_n 0, 0, 0), (82, .aload_n 1, 0, 0), (83, .iload_n 2, 0, 0), (84, .iload_n 3, 0, 0), (85, .invokevirtual 50, 75, 0), (88, .invokevirtual 28, 130, 0), (91, .iinc 3 (1), 0, 0), (94, .goto (-57), 0, 0), (97, .aload_n 1, 0, 0), (98, .getfield 39, 4, 13), (101, .getfield 43, 3, 1), (104, .ifCond .le (9), 0, 0), (107, .aload_n 0, 0, 0), (108, .bipush (93), 0, 0), (110, .invokevirtual 32, 129, 0), (113, .return_, 0, 0)]
def mt_128 : am_M := (⟨"TestFinder$TestName", "write", "(LTestFinder$Case;I)V"⟩, prog_10_method_2_code, 4, none, 3, 9, cd_128)
def cd_129 : am_C := [(0, .aload_n 0, 0, 0), (1, .getfield 15, 9, 1), (4, .aload_n 0, 0, 0), (5, .getfield 11, 9, 0), (8, .arraylength, 0, 0), (9, .if_icmp .ge (23), 0, 0), (12, .aload_n 0, 0, 0), (13, .getfield 11, 9, 0), (16, .aload_n 0, 0, 0), (17, .getfield 15, 9, 1), (20, .iload_n 1, 0, 0), (21, .castore, 0, 0), (22, .aload_n 0, 0, 0), (23, .dup, 0, 0), (24, .getfield 15, 9, 1), (27, .iconst 1, 0, 0), (28, .iadd, 0, 0), (29, .putfield 15, 9, 1), (32, .return_, 0, 0)]
def mt_129 : am_M := (⟨"TestFinder$TestName", "addMark", "(C)V"⟩, prog_10_method_3_code, 2, none, 2, 9, cd_129)
def cd_130 : am_C := [(0, .lload_n 1, 0, 0), (1, .invokestatic 54, 104, 0), (4, .istore_n 3, 0, 0), (5, .iload_n 3, 0, 0), (6, .aload_n 0, 0, 0), (7, .getfield 11, 9, 0), (10, .arraylength, 0, 0), (11, .aload_n 0, 0, 0), (12, .getfield 15, 9, 1), (15, .isub, 0, 0), (16, .if_icmp .le (4), 0, 0), (19, .return_, 0, 0), (20, .lload_n 1, 0, 0), (21, .lstore 4, 0, 0), (23, .aload_n 0, 0, 0), (24, .getfield 15, 9, 1), (27, .iload_n 3, 0, 0), (28, .iadd, 0, 0), (29, .iconst 1, 0, 0), (30, .isub, 0, 0), (31, .istore 6, 0, 0), (33, .iload 6, 0, 0), (35, .aload_n 0, 0, 0), (36, .getfield 15, 9, 1), (39, .if_icmp .lt (29), 0, 0), (42, .aload_n 0, 0, 0), (43, .getfield 11, 9, 0), (46, .iload 6, 0, 0), (48, .lload 4, 0, 0), (50, .invokestatic 60, 105, 0), (53, .castore, 0, 0), (54, .lload 4, 0, 0), (56, .ldc2_w 64, 38, 0), (59, .ldiv, 0, 0), (60, .lstore 4, 0, 0), (62, .iinc 6 (-1), 0, 0), (65, .goto (-32), 0, 0), (68, .aload_n 0, 0, 0), (69, .dup, 0, 0), (70, .getfield 15, 9, 1), (73, .iload_n 3, 0, 0), (74, .iadd, 0, 0), (75, .putfield 15, 9, 1), (78, .return_, 0, 0)]
def mt_130 : am_M := (⟨"TestFinder$TestName", "addName", "(J)V"⟩, prog_10_method_4_code, 7, none, 2, 9, cd_130)
def cd_131 : am_C := [(0, .aload_n 1, 0, 0), (1, .getfield 66, 1, 1), (4, .aload_n 0, 0, 0), (5, .getfield 15, 9, 1), (8, .if_icmp .eq (5), 0, 0), (11, .iconst 0, 0, 0), (12, .ireturn, 0, 0), (13, .iconst 0, 0, 0), (14, .istore_n 2, 0, 0), (15, .iload_n 2, 0, 0), (16, .aload_n 0, 0, 0), (17, .getfield 15, 9, 1), (20, .if_icmp .ge (26), 0, 0), (23, .aload_n 1, 0, 0), (24, .getfield 69, 1, 0), (27, .iload_n 2, 0, 0), (28, .caload, 0, 0), (29, .aload_n 0, 0, 0), (30, .getfield 11, 9, 0), (33, .iload_n 2, 0, 0), (34, .caload, 0, 0), (35, .if_icmp .eq (5), 0, 0), (38, .iconst 0, 0, 0), (39, .ireturn, 0, 0), (40, .iinc 2 (1), 0, 0), (43, .goto (-28), 0, 0), (46, .iconst 1, 0, 0), (47, .ireturn, 0, 0)]
def mt_131 : am_M := (⟨"TestFinder$TestName", "isOn", "(LTestFinder$Tape;)Z"⟩, prog_10_method_5_code, 3, (some .boolean), 2, 9, cd_131)
def cd_132 : am_C := [(0, .aload_n 0, 0, 0), (1, .invokespecial 3, 1000, 0), (4, .aload_n 0, 0, 0), (5, .sipush (600), 0, 0), (8, .newarray .int, 0, 0), (10, .putfield 9, 6, 0), (13, .aload_n 0, 0, 0), (14, .sipush (600), 0, 0), (17, .newarray .int, 0, 0), (19, .putfield 15, 6, 1), (22, .aload_n 0, 0, 0), (23, .aload_n 1, 0, 0), (24, .putfield 18, 6, 3), (27, .return_, 0, 0)]
def mt_132 : am_M := (⟨"TestFinder$Words", "<init>", "([C)V"⟩, prog_11_method_1_code, 2, none, 2, 6, cd_132)
def cd_133 : am_C := [(0, .aload_n 0, 0, 0), (1, .iconst 0, 0, 0), (2, .putfield 22, 6, 2), (5, .iload_n 1, 0, 0), (6, .istore_n 3, 0, 0), (7, .iload_n 1, 0, 0), (8, .istore 4, 0, 0), (10, .iload 4, 0, 0), (12, .iload_n 2, 0, 0), (13, .if_icmp .gt (39), 0, 0), (16, .iload 4, 0, 0), (18, .iload_n 2, 0, 0), (19, .if_icmp .eq (15), 0, 0), (22, .aload_n 0, 0, 0), (23, .getfield 18, 6, 3), (26, .iload 4, 0, 0), (28, .caload, 0, 0), (29, .bipush (32), 0, 0), (31, .if_icmp .ne (15), 0, 0), (34, .aload_n 0, 0, 0), (35, .iload_n 3, 0, 0), (36, .iload 4, 0, 0), (38, .invokevirtual 26, 134, 0), (41, .iload 4, 0, 0), (43, .iconst 1, 0, 0), (44, .iadd, 0, 0), (45, .istore_n 3, 0, 0), (46, .iinc 4 (1), 0, 0), (49, .goto (-39), 0, 0), (52, .return_, 0, 0)]
def mt_133 : am_M := (⟨"TestFinder$Words", "cut", "(II)V"⟩, prog_11_method_2_code, 5, none, 3, 6, cd_133)
def cd_134 : am_C := [(0, .iload_n 1, 0, 0), (1, .iload_n 2, 0, 0), (2, .if_icmp .ge (45), 0, 0), (5, .aload_n 0, 0, 0), (6, .getfield 22, 6, 2), (9, .aload_n 0, 0, 0), (10, .getfield 9, 6, 0), (13, .arraylength, 0, 0), (14, .if_icmp .ge (33), 0, 0), (17, .aload_n 0, 0, 0), (18, .getfield 9, 6, 0), (21, .aload_n 0, 0, 0), (22, .getfield 22, 6, 2), (25, .iload_n 1, 0, 0), (26, .iastore, 0, 0), (27, .aload_n 0, 0, 0), (28, .getfield 15, 6, 1), (31, .aload_n 0, 0, 0), (32, .getfield 22, 6, 2), (35, .iload_n 2, 0, 0), (36, .iastore, 0, 0), (37, .aload_n 0, 0, 0), (38, .dup, 0, 0), (39, .getfield 22, 6, 2), (42, .iconst 1, 0, 0), (43, .iadd, 0, 0), (44, .putfield 22, 6, 2), (47, .return_, 0, 0)]
def mt_134 : am_M := (⟨"TestFinder$Words", "add", "(II)V"⟩, prog_11_method_3_code, 3, none, 3, 6, cd_134)
def cd_135 : am_C := [(0, .aload_n 0, 0, 0), (1, .getfield 22, 6, 2), (4, .ifCond .le (23), 0, 0), (7, .aload_n 0, 0, 0), (8, .getfield 18, 6, 3), (11, .aload_n 0, 0, 0), (12, .getfield 9, 6, 0), (15, .iconst 0, 0, 0), (16, .iaload, 0, 0), (17, .caload, 0, 0), (18, .bipush (35), 0, 0), (20, .if_icmp .ne (7), 0, 0), (23, .iconst 1, 0, 0), (24, .goto (4), 0, 0), (27, .iconst 0, 0, 0), (28, .ireturn, 0, 0)]
def mt_135 : am_M := (⟨"TestFinder$Words", "isComment", "()Z"⟩, prog_11_method_4_code, 1, (some .boolean), 1, 6, cd_135)
def cd_136 : am_C := [(0, .aload_n 0, 0, 0), (1, .getfield 22, 6, 2), (4, .ifCond .eq (23), 0, 0), (7, .aload_n 0, 0, 0), (8, .getfield 15, 6, 1), (11, .iconst 0, 0, 0), (12, .iaload, 0, 0), (13, .aload_n 0, 0, 0), (14, .getfield 9, 6, 0), (17, .iconst 0, 0, 0), (18, .iaload, 0, 0), (19, .isub, 0, 0), (20, .aload_n 1, 0, 0), (21, .invokevirtual 30, 140, 0), (24, .if_icmp .eq (5), 0, 0), (27, .iconst 0, 0, 0), (28, .ireturn, 0, 0), (29, .iconst 0, 0, 0), (30, .istore_n 2, 0, 0), (31, .iload_n 2, 0, 0), (32, .aload_n 1, 0, 0), (33, .invokevirtual 30, 140, 0), (36, .if_icmp .ge (32), 0, 0), (39, .aload_n 0, 0, 0), (40, .getfield 18, 6, 3), (43, .aload_n 0, 0, 0), (44, .getfield 9, 6, 0), (47, .iconst 0, 0, 0), (48, .iaload, 0, 0), (49, .iload_n 2, 0, 0), (50, .iadd, 0, 0), (51, .caload, 0, 0), (52, .aload_n 1, 0, 0), (53, .iload_n 2, 0, 0), (54, .invokevirtual 36, 142, 0), (57, .if_icmp .eq (5), 0, 0), (60, .iconst 0, 0, 0), (61, .ireturn, 0, 0), (62, .iinc 2 (1), 0, 0), (65, .goto (-34), 0, 0), (68, .iconst 1, 0, 0), (69, .ireturn, 0, 0)]
def mt_136 : am_M := (⟨"TestFinder$Words", "beginWith", "(Ljava/lang/String;)Z"⟩, prog_11_method_5_code, 3, (some .boolean), 2, 6, cd_136)
def cd_137 : am_C := [(0, .iload_n 1, 0, 0), (1, .ifCond .lt (32), 0, 0), (4, .iload_n 1, 0, 0), (5, .aload_n 0, 0, 0), (6, .getfield 22, 6, 2), (9, .if_icmp .ge (24), 0, 0), (12, .aload_n 0, 0, 0), (13, .getfield 18, 6, 3), (16, .aload_n 0, 0, 0), (17, .getfield 9, 6, 0), (20, .iload_n 1, 0, 0), (21, .iaload, 0, 0), (22, .caload, 0, 0), (23, .invokestatic 40, 102, 0), (26, .ifCond .eq (7), 0, 0), (29, .iconst 1, 0, 0), (30, .goto (4), 0, 0), (33, .iconst 0, 0, 0), (34, .istore_n 2, 0, 0), (35, .iload_n 2, 0, 0), (36, .ifCond .eq (11), 0, 0), (39, .aload_n 0, 0, 0), (40, .iload_n 1, 0, 0), (41, .invokevirtual 46, 138, 0), (44, .goto (4), 0, 0), (47, .lconst 0, 0, 0), (48, .lreturn, 0, 0)]
def mt_137 : am_M := (⟨"TestFinder$Words", "name", "(I)J"⟩, prog_11_method_6_code, 3, (some .long), 2, 6, cd_137)
def cd_138 : am_C := [(0, .iload_n 1, 0, 0), (1, .ifCond .lt (29), 0, 0), (4, .iload_n 1, 0, 0), (5, .aload_n 0, 0, 0), (6, .getfield 22, 6, 2), (9, .if_icmp .ge (21), 0, 0), (12, .aload_n 0, 0, 0), (13, .getfield 15, 6, 1), (16, .iload_n 1, 0, 0), (17, .iaload, 0, 0), (18, .aload_n 0, 0, 0), (19, .getfield 9, 6, 0), (22, .iload_n 1, 0, 0), (23, .iaload, 0, 0), (24, .isub, 0, 0), (25, .bipush (12), 0, 0), (27, .if_icmp .le (5), 0, 0), (30, .lconst 0, 0, 0), (31, .lreturn, 0, 0), (32, .lconst 0, 0, 0), (33, .lstore_n 2, 0, 0), (34, .aload_n 0, 0, 0), (35, .getfield 9, 6, 0), (38, .iload_n 1, 0, 0), (39, .iaload, 0, 0), (40, .istore 4, 0, 0), (42, .iload 4, 0, 0), (44, .aload_n 0, 0, 0), (45, .getfield 15, 6, 1), (48, .iload_n 1, 0, 0), (49, .iaload, 0, 0), (50, .if_icmp .ge (38), 0, 0), (53, .aload_n 0, 0, 0), (54, .getfield 18, 6, 3), (57, .iload 4, 0, 0), (59, .caload, 0, 0), (60, .invokestatic 50, 103, 0), (63, .istore 5, 0, 0), (65, .iload 5, 0, 0), (67, .ifCond .ne (5), 0, 0), (70, .lconst 0, 0, 0), (71, .lreturn, 0, 0), (72, .lload_n 2, 0, 0), (73, .ldc2_w 54, 38, 0), (76, .lmul, 0, 0), (77, .iload 5, 0, 0), (79, .i2l, 0, 0), (80, .ladd, 0, 0), (81, .lstore_n 2, 0, 0), (82, .iinc 4 (1), 0, 0), (85, .goto (-43), 0, 0), (88, .lload_n 2, 0, 0), (89, .lreturn, 0, 0)]
def mt_138 : am_M := (⟨"TestFinder$Words", "value", "(I)J"⟩, prog_11_method_7_code, 6, (some .long), 2, 6, cd_138)
def cd_139 : am_C := [(0, .iload_n 1, 0, 0), (1, .ifCond .lt (28), 0, 0), (4, .iload_n 1, 0, 0), (5, .aload_n 0, 0, 0), (6, .getfield 22, 6, 2), (9, .if_icmp .ge (20), 0, 0), (12, .aload_n 0, 0, 0), (13, .getfield 15, 6, 1), (16, .iload_n 1, 0, 0), (17, .iaload, 0, 0), (18, .aload_n 0, 0, 0), (19, .getfield 9, 6, 0), (22, .iload_n 1, 0, 0), (23, .iaload, 0, 0), (24, .isub, 0, 0), (25, .iconst 1, 0, 0), (26, .if_icmp .eq (5), 0, 0), (29, .iconst 0, 0, 0), (30, .ireturn, 0, 0), (31, .aload_n 0, 0, 0), (32, .getfield 18, 6, 3), (35, .aload_n 0, 0, 0), (36, .getfield 9, 6, 0), (39, .iload_n 1, 0, 0), (40, .iaload, 0, 0), (41, .caload, 0, 0), (42, .istore_n 2, 0, 0), (43, .iload_n 2, 0, 0), (44, .bipush (49), 0, 0), (46, .if_icmp .lt (16), 0, 0), (49, .iload_n 2, 0, 0), (50, .bipush (57), 0, 0), (52, .if_icmp .gt (10), 0, 0), (55, .iload_n 2, 0, 0), (56, .bipush (48), 0, 0), (58, .isub, 0, 0), (59, .goto (4), 0, 0), (62, .iconst 0, 0, 0), (63, .ireturn, 0, 0)]
def mt_139 : am_M := (⟨"TestFinder$Words", "number", "(I)I"⟩, prog_11_method_8_code, 3, (some .int), 2, 6, cd_139)
def cd_140 : am_C := [(0, .aload_n 0, 0, 0), (1, .getfield 9, 901, 0), (4, .arraylength, 0, 0), (5, .aload_n 0, 0, 0), (6, .invokevirtual 335, 141, 0), (9, .ishr, 0, 0), (10, .ireturn, 0, 0)]
def mt_140 : am_M := (⟨"java/lang/String", "length", "()I"⟩, prog_15_method_54_code, 1, (some .int), 1, 901, cd_140)
def cd_141 : am_C := [(0, .getstatic 38, 1, 0), (3, .ifCond .eq (10), 0, 0), (6, .aload_n 0, 0, 0), (7, .getfield 15, 901, 1), (10, .goto (4), 0, 0), (13, .iconst 1, 0, 0), (14, .ireturn, 0, 0)]
def mt_141 : am_M := (⟨"java/lang/String", "coder", "()B"⟩, prog_15_method_152_code, 1, (some .byte), 1, 901, cd_141)
def cd_142 : am_C := [(0, .aload_n 0, 0, 0), (1, .invokevirtual 492, 143, 0), (4, .ifCond .eq (12), 0, 0), (7, .aload_n 0, 0, 0), (8, .getfield 9, 901, 0), (11, .iload_n 1, 0, 0), (12, .invokestatic 495, 144, 0), (15, .ireturn, 0, 0), (16, .aload_n 0, 0, 0), (17, .getfield 9, 901, 0), (20, .iload_n 1, 0, 0), (24, .ireturn, 0, 0)]
def mt_142 : am_M := (⟨"java/lang/String", "charAt", "(I)C"⟩, prog_15_method_56_code, 2, (some .char), 2, 901, cd_142)
def cd_143 : am_C := [(0, .getstatic 38, 1, 0), (3, .ifCond .eq (14), 0, 0), (6, .aload_n 0, 0, 0), (7, .getfield 15, 901, 1), (10, .ifCond .ne (7), 0, 0), (13, .iconst 1, 0, 0), (14, .goto (4), 0, 0), (17, .iconst 0, 0, 0), (18, .ireturn, 0, 0)]
def mt_143 : am_M := (⟨"java/lang/String", "isLatin1", "()Z"⟩, prog_15_method_154_code, 1, (some .boolean), 1, 901, cd_143)
def cd_144 : am_C := [(0, .iload_n 1, 0, 0), (1, .aload_n 0, 0, 0), (2, .arraylength, 0, 0), (3, .invokestatic 9, 145, 0), (6, .aload_n 0, 0, 0), (7, .iload_n 1, 0, 0), (8, .baload, 0, 0), (9, .sipush (255), 0, 0), (12, .iand, 0, 0), (13, .i2c, 0, 0), (14, .ireturn, 0, 0)]
def mt_144 : am_M := (⟨"java/lang/StringLatin1", "charAt", "([BI)C"⟩, prog_16_method_2_code, 2, (some .char), 2, 999, cd_144)
def cd_145 : am_C := [(0, .iload_n 0, 0, 0), (1, .iload_n 1, 0, 0), (2, .getstatic 1053, 0, 1), (5, .invokestatic 1059, 146, 0), (8, .pop, 0, 0), (9, .return_, 0, 0)]
def mt_145 : am_M := (⟨"java/lang/String", "checkIndex", "(II)V"⟩, prog_15_method_155_code, 2, none, 2, 901, cd_145)
def cd_146 : am_C := [(0, .iload_n 0, 0, 0), (1, .ifCond .lt (8), 0, 0), (4, .iload_n 0, 0, 0), (5, .iload_n 1, 0, 0), (6, .if_icmp .lt (10), 0, 0), (9, .aload_n 2, 0, 0), (10, .iload_n 0, 0, 0), (11, .iload_n 1, 0, 0), (16, .iload_n 0, 0, 0), (17, .ireturn, 0, 0)]
def mt_146 : am_M := (⟨"jdk/internal/util/Preconditions", "checkIndex", "(IILjava/util/function/BiFunction;)I"⟩, prog_19_method_11_code, 3, (some .int), 3, 999, cd_146)
def at_tab : List am_M := [mt_0, mt_1, mt_2, mt_3, mt_4, mt_5, mt_6, mt_7, mt_8, mt_9, mt_10, mt_11, mt_12, mt_13, mt_14, mt_15, mt_16, mt_17, mt_18, mt_19, mt_20, mt_21, mt_22, mt_23, mt_24, mt_25, mt_26, mt_27, mt_28, mt_29, mt_30, mt_31, mt_32, mt_33, mt_34, mt_35, mt_36, mt_37, mt_38, mt_39, mt_40, mt_41, mt_42, mt_43, mt_44, mt_45, mt_46, mt_47, mt_48, mt_49, mt_50, mt_51, mt_52, mt_53, mt_54, mt_55, mt_56, mt_57, mt_58, mt_59, mt_60, mt_61, mt_62, mt_63, mt_64, mt_65, mt_66, mt_67, mt_68, mt_69, mt_70, mt_71, mt_72, mt_73, mt_74, mt_75, mt_76, mt_77, mt_78, mt_79, mt_80, mt_81, mt_82, mt_83, mt_84, mt_85, mt_86, mt_87, mt_88, mt_89, mt_90, mt_91, mt_92, mt_93, mt_94, mt_95, mt_96, mt_97, mt_98, mt_99, mt_100, mt_101, mt_102, mt_103, mt_104, mt_105, mt_106, mt_107, mt_108, mt_109, mt_110, mt_111, mt_112, mt_113, mt_114, mt_115, mt_116, mt_117, mt_118, mt_119, mt_120, mt_121, mt_122, mt_123, mt_124, mt_125, mt_126, mt_127, mt_128, mt_129, mt_130, mt_131, mt_132, mt_133, mt_134, mt_135, mt_136, mt_137, mt_138, mt_139, mt_140, mt_141, mt_142, mt_143, mt_144, mt_145, mt_146]
end
section
/-! A SMALL MACHINE: the methods' instructions over a heap of numbered cells with typed slots (ints, longs, references). Written for this claim; sim (a later part) ties it to the JVM of the Statement. -/
abbrev am_L : Type := List (Option Value)
abbrev am_H : Type := List (Nat × Nat) × (Nat → Nat → Int32) × (Nat → Nat → Int64) × (Nat → Nat → Option Nat)
abbrev am_S : Type := Nat × am_L × List Value × am_H
def up2 {α : Type} (f : Nat → Nat → α) (a k : Nat) (v : α) : Nat → Nat → α := fun i j => if i = a then (if j = k then v else f i j) else f i j
theorem up2_same {α : Type} (f : Nat → Nat → α) (a k : Nat) (v : α) : up2 f a k v a k = v := by simp [up2]
theorem up2_row {α : Type} (f : Nat → Nat → α) {a k i j : Nat} (v : α) (h : i ≠ a) : up2 f a k v i j = f i j := by simp [up2, h]
theorem up2_col {α : Type} (f : Nat → Nat → α) {a k i j : Nat} (v : α) (h : j ≠ k) : up2 f a k v i j = f i j := by simp [up2, h]
/-- slot k of cell a, as a value of the type ty -/
def am_rd (ty : FieldType) (h : am_H) (a k : Nat) : Value := match ty with
  | .long => .long (h.2.2.1 a k)
  | .object _ => va_rf (h.2.2.2 a k)
  | .array _ => va_rf (h.2.2.2 a k)
  | .float => .float 0
  | .double => .double 0
  | _ => .int (h.2.1 a k)
/-- may an int stand in a variable of this type as it is -/
def am_fit (ty : FieldType) (x : Int32) : Bool := match ty with
  | .int => true
  | .boolean => decide (x = 0) || decide (x = 1)
  | .char => decide (0 ≤ x) && decide (x ≤ 65535)
  | .byte => decide (x = 0)
  | _ => false
/-- slot k of cell a gets v -/
def am_wr (ty : FieldType) (h : am_H) (a k : Nat) (v : Value) : Option am_H := match v with
  | .int x => match am_fit ty x with
    | true => some (h.1, up2 h.2.1 a k x, h.2.2.1, h.2.2.2)
    | false => none
  | .long x => match ty with
    | .long => some (h.1, h.2.1, up2 h.2.2.1 a k x, h.2.2.2)
    | _ => none
  | .ref b => match ty with
    | .object _ => some (h.1, h.2.1, h.2.2.1, up2 h.2.2.2 a k (some b))
    | .array _ => some (h.1, h.2.1, h.2.2.1, up2 h.2.2.2 a k (some b))
    | _ => none
  | .null => match ty with
    | .object _ => some (h.1, h.2.1, h.2.2.1, up2 h.2.2.2 a k none)
    | .array _ => some (h.1, h.2.1, h.2.2.1, up2 h.2.2.2 a k none)
    | _ => none
  | _ => none
/-- what an array of this type keeps of an int -/
def am_nar (ty : FieldType) (x : Int32) : Int32 := match ty with
  | .boolean => x &&& 1
  | .byte => x.toInt8.toInt32
  | .char => x.toUInt32.toUInt16.toUInt32.toInt32
  | .short => x.toInt16.toInt32
  | _ => x
/-- an array's component type by its tag; classes have tags below 100 -/
def am_aty (tag : Nat) : Option FieldType := match tag with
  | 100 => some .int
  | 101 => some .long
  | 102 => some .char
  | 103 => some .boolean
  | 104 => some .byte
  | 105 => some .short
  | 900 => some .int
  | 902 => some .byte
  | _ => match tag - 400 with
    | 0 => none
    | k + 1 => match vwCl[k]? with
      | some r => some (.object r.1)
      | none => none
def am_atag (t : ArrayType) : Nat := match t with
  | .int => 100
  | .long => 101
  | .char => 102
  | .boolean => 103
  | .byte => 104
  | .short => 105
  | _ => 999
def am_get (l : am_L) (i : Nat) : Option Value := match l[i]? with
  | some o => o
  | none => none
def am_kill (l : am_L) (i : Nat) : am_L := match i with
  | 0 => l
  | j + 1 => match am_get l j with
    | some (.long _) => l.set j none
    | some (.double _) => l.set j none
    | _ => l
def am_st1 (l : am_L) (i : Nat) (v : Value) : am_L := (am_kill l i).set i (some v)
def am_st2 (l : am_L) (i : Nat) (v : Value) : am_L := ((am_kill l i).set i (some v)).set (i + 1) none
def am_tot (sh : List (Nat × Nat)) : Nat := (sh.map (·.2)).sum
def am_tg (pc : Nat) (off : Int) : Nat := ((pc : Int) + off).toNat
def am_cmp (c : ClassFile.Cond) (x y : Int32) : Bool := match c with
  | .eq => decide (x = y)
  | .ne => decide (¬ x = y)
  | .lt => decide (x < y)
  | .ge => decide (y ≤ x)
  | .gt => decide (y < x)
  | .le => decide (x ≤ y)
def am_cat (st : List Value) : Nat := (st.map fun v => v.category).sum
section Ops
variable (pc : Nat) (l : am_L) (st : List Value) (h : am_H)
def am_ii (f : Int32 → Int32 → Int32) : Option am_S := match st with
  | .int y :: .int x :: r => some (pc + 1, l, .int (f x y) :: r, h)
  | _ => none
def am_ll (f : Int64 → Int64 → Int64) : Option am_S := match st with
  | .long y :: .long x :: r => some (pc + 1, l, .long (f x y) :: r, h)
  | _ => none
def am_iid (f : Int32 → Int32 → Int32) : Option am_S := match st with
  | .int y :: .int x :: r => match decide (y = 0) with
    | true => none
    | false => some (pc + 1, l, .int (f x y) :: r, h)
  | _ => none
def am_lld (f : Int64 → Int64 → Int64) : Option am_S := match st with
  | .long y :: .long x :: r => match decide (y = 0) with
    | true => none
    | false => some (pc + 1, l, .long (f x y) :: r, h)
  | _ => none
def am_li (f : Int64 → Int32 → Int64) : Option am_S := match st with
  | .int y :: .long x :: r => some (pc + 1, l, .long (f x y) :: r, h)
  | _ => none
def am_iload (i len : Nat) : Option am_S := match am_get l i with
  | some (.int x) => some (pc + len, l, .int x :: st, h)
  | _ => none
def am_lload (i len : Nat) : Option am_S := match am_get l i with
  | some (.long x) => some (pc + len, l, .long x :: st, h)
  | _ => none
def am_aload (i len : Nat) : Option am_S := match am_get l i with
  | some (.ref x) => some (pc + len, l, .ref x :: st, h)
  | _ => none
def am_istore (i len : Nat) : Option am_S := match st with
  | .int x :: r => match decide (i < l.length) with
    | true => some (pc + len, am_st1 l i (.int x), r, h)
    | false => none
  | _ => none
def am_lstore (i len : Nat) : Option am_S := match st with
  | .long x :: r => match decide (i + 1 < l.length) with
    | true => some (pc + len, am_st2 l i (.long x), r, h)
    | false => none
  | _ => none
def am_astore (i len : Nat) : Option am_S := match st with
  | .ref x :: r => match decide (i < l.length) with
    | true => some (pc + len, am_st1 l i (.ref x), r, h)
    | false => none
  | _ => none
def am_ald (p : Nat → Bool) : Option am_S := match st with
  | .int j :: .ref a :: r => match h.1[a]? with
    | some (tag, n) => match p tag with
      | true => match am_aty tag with
        | some ty => match decide (0 ≤ j.toInt ∧ j.toInt < n) with
          | true => some (pc + 1, l, am_rd ty h a j.toNatClampNeg :: r, h)
          | false => none
        | none => none
      | false => none
    | none => none
  | _ => none
def am_iast (p : Nat → Bool) : Option am_S := match st with
  | .int x :: .int j :: .ref a :: r => match h.1[a]? with
    | some (tag, n) => match p tag with
      | true => match am_aty tag with
        | some ty => match decide (0 ≤ j.toInt ∧ j.toInt < n) with
          | true => some (pc + 1, l, r, (h.1, up2 h.2.1 a j.toNatClampNeg (am_nar ty x), h.2.2.1, h.2.2.2))
          | false => none
        | none => none
      | false => none
    | none => none
  | _ => none
def am_last : Option am_S := match st with
  | .long x :: .int j :: .ref a :: r => match h.1[a]? with
    | some (101, n) => match decide (0 ≤ j.toInt ∧ j.toInt < n) with
      | true => some (pc + 1, l, r, (h.1, h.2.1, up2 h.2.2.1 a j.toNatClampNeg x, h.2.2.2))
      | false => none
    | _ => none
  | _ => none
def am_aast : Option am_S := match st with
  | .ref v :: .int j :: .ref a :: r => match h.1[a]? with
    | some (tag, n) => match h.1[v]? with
      | some (tv, _) => match decide (tag = 401 + tv ∧ tv < 100 ∧ 16 ≤ v) with
        | true => match decide (0 ≤ j.toInt ∧ j.toInt < n) with
          | true => some (pc + 1, l, r, (h.1, h.2.1, h.2.2.1, up2 h.2.2.2 a j.toNatClampNeg (some v)))
          | false => none
        | false => none
      | none => none
    | none => none
  | _ => none
def am_getf (ci k : Nat) : Option am_S := match st with
  | .ref a :: r => match h.1[a]? with
    | some (tag, _) => match decide (tag = ci) with
      | true => some (pc + 3, l, am_rd (at_ty ci k) h a k :: r, h)
      | false => none
    | none => none
  | _ => none
def am_putf (ci k : Nat) : Option am_S := match st with
  | v :: .ref a :: r => match h.1[a]? with
    | some (tag, _) => match decide (tag = ci) with
      | true => match am_wr (at_ty ci k) h a k v with
        | some h' => some (pc + 3, l, r, h')
        | none => none
      | false => none
    | none => none
  | _ => none
/-- a new cell: its slots hold nothing (0, null) -/
def am_born (h : am_H) (tag n : Nat) : am_H := (h.1 ++ [(tag, n)], fun i j => if i = h.1.length then 0 else h.2.1 i j, fun i j => if i = h.1.length then 0 else h.2.2.1 i j, fun i j => if i = h.1.length then none else h.2.2.2 i j)
def am_new (ci n : Nat) : Option am_S := some (pc + 3, l, .ref h.1.length :: st, am_born h ci n)
def am_newa (tag len : Nat) : Option am_S := match st with
  | .int n :: r => match decide (0 ≤ n.toInt ∧ n.toInt ≤ 65535) with
    | true => some (pc + len, l, .ref h.1.length :: r, am_born h tag n.toNatClampNeg)
    | false => none
  | _ => none
def am_alen : Option am_S := match st with
  | .ref a :: r => match h.1[a]? with
    | some (tag, n) => match decide (n < 2 ^ 31 ∧ (am_aty tag).isSome = true) with
      | true => some (pc + 1, l, .int (nI n) :: r, h)
      | false => none
    | none => none
  | _ => none
end Ops
end
section
def am_find (c : am_C) (pc : Nat) : Option (Instr × Nat × Nat) := match c with
  | [] => none
  | (k, i, r1, r2) :: c => match decide (k = pc) with
    | true => some (i, r1, r2)
    | false => am_find c pc
/-- 0: a plain step, 1: a return, 2: a call -/
def am_kind (i : Instr) (r1 : Nat) : Nat := match i with
  | .ireturn => 1
  | .lreturn => 1
  | .areturn => 1
  | .return_ => 1
  | .invokevirtual _ => match decide (r1 < 1000) with
    | true => 2
    | false => 0
  | .invokespecial _ => match decide (r1 < 1000) with
    | true => 2
    | false => 0
  | .invokestatic _ => match decide (r1 < 1000) with
    | true => 2
    | false => 0
  | _ => 0
def am_sp0 (pc : Nat) (l : am_L) (st : List Value) (h : am_H) : Option am_S := match st with
  | .ref _ :: r => match decide (am_cat r ≤ 8) with
    | true => some (pc + 3, l, r, h)
    | false => none
  | _ => none
def am_sp1 (pc : Nat) (l : am_L) (st : List Value) (h : am_H) : Option am_S := match st with
  | .int n :: .int dp :: .ref b :: .int sp :: .ref a :: r => match h.1[a]? with
    | some (ta, na) => match h.1[b]? with
      | some (tb, nb) => match decide (ta = 102 ∧ tb = 102 ∧ a ≠ b ∧ am_cat r ≤ 8 ∧ 0 ≤ n.toInt ∧ 0 ≤ dp.toInt ∧ 0 ≤ sp.toInt ∧ sp.toInt + n.toInt ≤ na ∧ dp.toInt + n.toInt ≤ nb) with
        | true => some (pc + 3, l, r, (h.1, fun i j => if i = b then va_cpy (h.2.1 a) (h.2.1 b) sp.toNatClampNeg dp.toNatClampNeg n.toNatClampNeg j else h.2.1 i j, h.2.2.1, h.2.2.2))
        | false => none
      | none => none
    | none => none
  | _ => none
def am_sp2 (pc : Nat) (l : am_L) (st : List Value) (h : am_H) : Option am_S := match st with
  | .int y :: .int x :: r => match decide (am_cat r ≤ 8) with
    | true => some (pc + 3, l, .int (if y < x then y else x) :: r, h)
    | false => none
  | _ => none
/-- the JDK's members that are taken as one step: 1000 Object(), 1001 arraycopy of chars, 1002 Math.min -/
def am_spec (d r1 pc : Nat) (l : am_L) (st : List Value) (h : am_H) : Option am_S := match d with
  | 0 => none
  | _ + 1 => match decide (r1 = 1000) with
    | true => am_sp0 pc l st h
    | false => match decide (r1 = 1001) with
      | true => am_sp1 pc l st h
      | false => match decide (r1 = 1002) with
        | true => am_sp2 pc l st h
        | false => none
def am_step (d : Nat) (i : Instr) (r1 r2 : Nat) (pc : Nat) (l : am_L) (st : List Value) (h : am_H) : Option am_S := match i with
  | .iconst n => some (pc + 1, l, .int (Int32.ofInt n) :: st, h)
  | .bipush n => some (pc + 2, l, .int (Int8.ofInt n).toInt32 :: st, h)
  | .sipush n => some (pc + 3, l, .int (Int16.ofInt n).toInt32 :: st, h)
  | .lconst n => some (pc + 1, l, .long (Int64.ofNat n.val) :: st, h)
  | .ldc _ => some (pc + 2, l, .ref r1 :: st, h)
  | .getstatic _ => some (pc + 3, l, (match r2 with
    | 0 => .int (nI r1)
    | _ => .retAddr 0) :: st, h)
  | .ldc2_w _ => some (pc + 3, l, .long (Int64.ofNat r1) :: st, h)
  | .iload i => am_iload pc l st h i 2
  | .iload_n i => am_iload pc l st h i.val 1
  | .lload i => am_lload pc l st h i 2
  | .lload_n i => am_lload pc l st h i.val 1
  | .aload i => am_aload pc l st h i 2
  | .aload_n i => am_aload pc l st h i.val 1
  | .istore i => am_istore pc l st h i 2
  | .istore_n i => am_istore pc l st h i.val 1
  | .lstore i => am_lstore pc l st h i 2
  | .lstore_n i => am_lstore pc l st h i.val 1
  | .astore i => am_astore pc l st h i 2
  | .astore_n i => am_astore pc l st h i.val 1
  | .iinc i n => match am_get l i with
    | some (.int x) => match decide (i < l.length) with
      | true => some (pc + 3, am_st1 l i (.int (x + Int32.ofInt n)), st, h)
      | false => none
    | _ => none
  | .iadd => am_ii pc l st h (fun x y => x + y)
  | .isub => am_ii pc l st h (fun x y => x - y)
  | .imul => am_ii pc l st h (fun x y => x * y)
  | .iand => am_ii pc l st h (fun x y => x &&& y)
  | .ior => am_ii pc l st h (fun x y => x ||| y)
  | .ixor => am_ii pc l st h (fun x y => x ^^^ y)
  | .ishl => am_ii pc l st h (fun x y => x <<< (y &&& 31))
  | .ishr => am_ii pc l st h (fun x y => x >>> (y &&& 31))
  | .iushr => am_ii pc l st h (fun x y => (x.toUInt32 >>> (y.toUInt32 &&& Int32.toUInt32 31)).toInt32)
  | .idiv => am_iid pc l st h (fun x y => x / y)
  | .irem => am_iid pc l st h (fun x y => x - x / y * y)
  | .ladd => am_ll pc l st h (fun x y => x + y)
  | .lsub => am_ll pc l st h (fun x y => x - y)
  | .lmul => am_ll pc l st h (fun x y => x * y)
  | .land => am_ll pc l st h (fun x y => x &&& y)
  | .lor => am_ll pc l st h (fun x y => x ||| y)
  | .ldiv => am_lld pc l st h (fun x y => x / y)
  | .lrem => am_lld pc l st h (fun x y => x - x / y * y)
  | .lushr => am_li pc l st h (fun x y => (x.toUInt64 >>> (y.toInt64.toUInt64 &&& Int64.toUInt64 63)).toInt64)
  | .lshl => am_li pc l st h (fun x y => x <<< (y.toInt64 &&& 63))
  | .lshr => am_li pc l st h (fun x y => x >>> (y.toInt64 &&& 63))
  | .lcmp => match st with
    | .long y :: .long x :: r => some (pc + 1, l, .int (lg_cmp x y) :: r, h)
    | _ => none
  | .i2l => match st with
    | .int x :: r => some (pc + 1, l, .long x.toInt64 :: r, h)
    | _ => none
  | .l2i => match st with
    | .long x :: r => some (pc + 1, l, .int x.toInt32 :: r, h)
    | _ => none
  | .i2c => match st with
    | .int x :: r => some (pc + 1, l, .int (x.toUInt32 % 65536).toInt32 :: r, h)
    | _ => none
  | .dup => match st with
    | .int x :: r => some (pc + 1, l, .int x :: .int x :: r, h)
    | .ref x :: r => some (pc + 1, l, .ref x :: .ref x :: r, h)
    | _ => none
  | .dup2 => match st with
    | .int x :: .ref a :: r => some (pc + 1, l, .int x :: .ref a :: .int x :: .ref a :: r, h)
    | _ => none
  | .pop => match st with
    | .int _ :: r => some (pc + 1, l, r, h)
    | .ref _ :: r => some (pc + 1, l, r, h)
    | _ => none
  | .ifCond c off => match st with
    | .int x :: r => some (if am_cmp c x 0 = true then am_tg pc off else pc + 3, l, r, h)
    | _ => none
  | .if_icmp c off => match st with
    | .int y :: .int x :: r => some (if am_cmp c x y = true then am_tg pc off else pc + 3, l, r, h)
    | _ => none
  | .goto off => some (am_tg pc off, l, st, h)
  | .tableswitch df lo hi offs => match st with
    | .int x :: r => some (if x.toInt < lo ∨ hi < x.toInt then am_tg pc df else am_tg pc (offs.getD (x.toInt - lo).toNat 0), l, r, h)
    | _ => none
  | .lookupswitch df ps => match st with
    | .int x :: r => some (am_tg pc (Op.lookupswitch.offset ps.toList df x.toInt), l, r, h)
    | _ => none
  | .getfield _ => am_getf pc l st h r1 r2
  | .putfield _ => am_putf pc l st h r1 r2
  | .new _ => am_new pc l st h r1 r2
  | .newarray t => am_newa pc l st h (am_atag t) 2
  | .anewarray _ => am_newa pc l st h (401 + r1) 3
  | .arraylength => am_alen pc l st h
  | .iaload => am_ald pc l st h (fun t => t == 100 || t == 900)
  | .laload => am_ald pc l st h (fun t => t == 101)
  | .caload => am_ald pc l st h (fun t => t == 102)
  | .baload => am_ald pc l st h (fun t => t == 103 || t == 902)
  | .aaload => am_ald pc l st h (fun t => decide (401 ≤ t ∧ t < 900))
  | .iastore => am_iast pc l st h (fun t => t == 100)
  | .castore => am_iast pc l st h (fun t => t == 102)
  | .bastore => am_iast pc l st h (fun t => t == 103)
  | .lastore => am_last pc l st h
  | .aastore => am_aast pc l st h
  | .invokevirtual _ => am_spec d r1 pc l st h
  | .invokespecial _ => am_spec d r1 pc l st h
  | .invokestatic _ => am_spec d r1 pc l st h
  | _ => none
def am_code (mid : Nat) : am_C := match at_tab[mid]? with
  | some q => q.2.2.2.2.2.2
  | none => []
def am_ret (mid : Nat) (i : Instr) (st : List Value) (h : am_H) : Option (Option Value × am_H) := match at_tab[mid]? with
  | none => none
  | some q => match i, st, q.2.2.2.1 with
    | .ireturn, [.int v], some ty => match am_fit ty v with
      | true => some (some (.int v), h)
      | false => none
    | .lreturn, [.long v], some .long => some (some (.long v), h)
    | .areturn, [.ref a], some (.object _) => some (some (.ref a), h)
    | .areturn, [.ref a], some (.array _) => some (some (.ref a), h)
    | .return_, [], none => some (none, h)
    | _, _, _ => none
/-- the locals with which a method begins -/
def am_args (vs : List Value) : am_L := match vs with
  | [] => []
  | .long x :: vs => some (.long x) :: none :: am_args vs
  | .double x :: vs => some (.double x) :: none :: am_args vs
  | v :: vs => some v :: am_args vs
def am_ent (n : Nat) (vs : List Value) : am_L := am_args vs ++ List.replicate (n - (am_args vs).length) none
/-- a call: how deep it may go, what it takes, what stays on the stack -/
def am_call (d : Nat) (i : Instr) (mid : Nat) (st : List Value) (h : am_H) : Option (Nat × am_L × List Value) := match d with
  | 0 => none
  | d + 1 => match at_tab[mid]? with
    | none => none
    | some q => match decide (q.2.2.2.2.1 ≤ st.length ∧ am_cat (st.drop q.2.2.2.2.1) ≤ 8 ∧ (am_args (st.take q.2.2.2.2.1).reverse).length ≤ q.2.2.1) with
      | false => none
      | true => match i with
        | .invokestatic _ => some (d, am_ent q.2.2.1 (st.take q.2.2.2.2.1).reverse, st.drop q.2.2.2.2.1)
        | .invokespecial _ => match (st.take q.2.2.2.2.1).reverse with
          | .ref _ :: _ => some (d, am_ent q.2.2.1 (st.take q.2.2.2.2.1).reverse, st.drop q.2.2.2.2.1)
          | _ => none
        | .invokevirtual _ => match (st.take q.2.2.2.2.1).reverse with
          | .ref a :: _ => match h.1[a]? with
            | some (tag, _) => match decide (tag = q.2.2.2.2.2.1) with
              | true => some (d, am_ent q.2.2.1 (st.take q.2.2.2.2.1).reverse, st.drop q.2.2.2.2.1)
              | false => none
            | none => none
          | _ => none
        | _ => none
def am_run : Nat → Nat → Nat → Nat → am_L → List Value → am_H → Option (Option Value × am_H)
  | 0, _, _, _, _, _, _ => none
  | n + 1, d, mid, pc, l, st, h => match am_find (am_code mid) pc with
    | none => none
    | some (i, r1, r2) => match am_kind i r1 with
      | 0 => match am_step d i r1 r2 pc l st h with
        | none => none
        | some (pc', l', st', h') => am_run n d mid pc' l' st' h'
      | 1 => am_ret mid i st h
      | _ => match am_call d i r1 st h with
        | none => none
        | some (d', l0, rest) => match am_run n d' r1 0 l0 [] h with
          | none => none
          | some (v, h') => am_run n d mid (pc + 3) l (v.toList ++ rest) h'
theorem am_run_succ : ∀ (n d mid pc : Nat) (l : am_L) (st : List Value) (h : am_H) (r : Option Value × am_H), am_run n d mid pc l st h = some r → am_run (n + 1) d mid pc l st h = some r := by
  intro n
  induction n with
  | zero => intro d mid pc l st h r hr; simp [am_run] at hr
  | succ n ih =>
    intro d mid pc l st h r hr
    rw [am_run] at hr
    rw [am_run]
    cases hf : am_find (am_code mid) pc with
    | none => rw [hf] at hr; cases hr
    | some q =>
      obtain ⟨i, r1, r2⟩ := q
      rw [hf] at hr
      (try dsimp only at hr ⊢)
      cases hk : am_kind i r1 with
      | zero =>
        rw [hk] at hr
        (try dsimp only at hr ⊢)
        cases hs : am_step d i r1 r2 pc l st h with
        | none => rw [hs] at hr; cases hr
        | some s' =>
          obtain ⟨pc', l', st', h'⟩ := s'
          rw [hs] at hr
          exact ih _ _ _ _ _ _ _ hr
      | succ k =>
        rw [hk] at hr
        cases k with
        | zero => exact hr
        | succ k =>
          (try dsimp only at hr ⊢)
          cases hc : am_call d i r1 st h with
          | none => rw [hc] at hr; cases hr
          | some q =>
            obtain ⟨d', l0, rest⟩ := q
            rw [hc] at hr
            (try dsimp only at hr ⊢)
            cases hq : am_run n d' r1 0 l0 [] h with
            | none => rw [hq] at hr; cases hr
            | some q2 =>
              obtain ⟨v, h'⟩ := q2
              rw [hq] at hr
              rw [ih _ _ _ _ _ _ _ hq]
              exact ih _ _ _ _ _ _ _ hr
theorem am_run_le {n n' : Nat} (hn : n ≤ n') {d mid pc : Nat} {l : am_L} {st : List Value} {h : am_H} {r : Option Value × am_H} (hr : am_run n d mid pc l st h = some r) : am_run n' d mid pc l st h = some r := by
  induction hn with
  | refl => exact hr
  | step _ ih => exact am_run_succ _ _ _ _ _ _ _ _ ih
/-- from here the method comes to its end with Q -/
def Rn (d mid pc : Nat) (l : am_L) (st : List Value) (h : am_H) (Q : Option Value → am_H → Prop) : Prop := ∃ (n : Nat) (v : Option Value) (h' : am_H), am_run n d mid pc l st h = some (v, h') ∧ Q v h'
theorem Rn.mono {d mid pc : Nat} {l : am_L} {st : List Value} {h : am_H} {Q Q' : Option Value → am_H → Prop} (hr : Rn d mid pc l st h Q) (hq : ∀ v h', Q v h' → Q' v h') : Rn d mid pc l st h Q' := by
  obtain ⟨n, v, h', a, b⟩ := hr
  exact ⟨n, v, h', a, hq v h' b⟩
theorem Rn.go {d mid pc : Nat} {l : am_L} {st : List Value} {h : am_H} {Q : Option Value → am_H → Prop} {c : am_C} {i : Instr} {r1 r2 pc' : Nat} {l' : am_L} {st' : List Value} {h' : am_H} (hc : am_code mid = c) (hf : am_find c pc = some (i, r1, r2)) (hk : am_kind i r1 = 0) (hs : am_step d i r1 r2 pc l st h = some (pc', l', st', h')) (k : Rn d mid pc' l' st' h' Q) : Rn d mid pc l st h Q := by
  obtain ⟨n, v, h2, a, b⟩ := k
  refine ⟨n + 1, v, h2, ?_, b⟩
  rw [am_run, hc, hf]
  (try dsimp only)
  rw [hk]
  (try dsimp only)
  rw [hs]
  exact a
theorem Rn.ret {d mid pc : Nat} {l : am_L} {st : List Value} {h : am_H} {Q : Option Value → am_H → Prop} {c : am_C} {i : Instr} {r1 r2 : Nat} {v : Option Value} (hc : am_code mid = c) (hf : am_find c pc = some (i, r1, r2)) (hk : am_kind i r1 = 1) (hs : am_ret mid i st h = some (v, h)) (k : Q v h) : Rn d mid pc l st h Q := by
  refine ⟨1, v, h, ?_, k⟩
  rw [am_run, hc, hf]
  (try dsimp only)
  rw [hk]
  exact hs
theorem Rn.call {d mid pc : Nat} {l : am_L} {st : List Value} {h : am_H} {Q : Option Value → am_H → Prop} {c : am_C} {i : Instr} {r1 r2 d' : Nat} {l0 : am_L} {rest : List Value} (hc : am_code mid = c) (hf : am_find c pc = some (i, r1, r2)) (hk : am_kind i r1 = 2) (hs : am_call d i r1 st h = some (d', l0, rest)) (k : Rn d' r1 0 l0 [] h (fun v h' => Rn d mid (pc + 3) l (v.toList ++ rest) h' Q)) : Rn d mid pc l st h Q := by
  obtain ⟨n, v, h1, a, n2, v2, h2, a2, b⟩ := k
  refine ⟨max n n2 + 1, v2, h2, ?_, b⟩
  rw [am_run, hc, hf]
  (try dsimp only)
  rw [hk]
  (try dsimp only)
  rw [hs]
  (try dsimp only)
  rw [am_run_le (Nat.le_max_left n n2) a]
  exact am_run_le (Nat.le_max_right n n2) a2
/-- some plain steps in one -/
def am_blk : Nat → am_C → Nat → Nat → am_L → List Value → am_H → Option am_S
  | 0, _, _, pc, l, st, h => some (pc, l, st, h)
  | n + 1, c, d, pc, l, st, h => match am_find c pc with
    | none => none
    | some (i, r1, r2) => match am_kind i r1 with
      | 0 => match am_step d i r1 r2 pc l st h with
        | none => none
        | some (pc', l', st', h') => am_blk n c d pc' l' st' h'
      | _ => none
theorem Rn.blk {d mid : Nat} {Q : Option Value → am_H → Prop} {c : am_C} (hc : am_code mid = c) : ∀ (n : Nat) {pc : Nat} {l : am_L} {st : List Value} {h : am_H} {pc' : Nat} {l' : am_L} {st' : List Value} {h' : am_H}, am_blk n c d pc l st h = some (pc', l', st', h') → Rn d mid pc' l' st' h' Q → Rn d mid pc l st h Q := by
  intro n
  induction n with
  | zero =>
    intro pc l st h pc' l' st' h' e k
    simp only [am_blk, Option.some.injEq, Prod.mk.injEq] at e
    obtain ⟨rfl, rfl, rfl, rfl⟩ := e
    exact k
  | succ n ih =>
    intro pc l st h pc' l' st' h' e k
    rw [am_blk] at e
    cases hf : am_find c pc with
    | none => rw [hf] at e; cases e
    | some q =>
      obtain ⟨i, r1, r2⟩ := q
      rw [hf] at e
      (try dsimp only at e)
      cases hk : am_kind i r1 with
      | succ k => rw [hk] at e; cases e
      | zero =>
        rw [hk] at e
        (try dsimp only at e)
        cases hs : am_step d i r1 r2 pc l st h with
        | none => rw [hs] at e; cases e
        | some s' =>
          obtain ⟨pc1, l1, st1, h1⟩ := s'
          rw [hs] at e
          exact Rn.go hc hf hk hs (ih e k)
end
section
/-! THE TIE between the small machine's heap and locals and the JVM's. s0: the state in which the law begins; D: the classes' numbers and slots; adS: the addresses of what was there before. -/
def sm_g (s0 : State) (adS : Nat → Nat) (i : Nat) : Nat := if i < 16 then adS i else s0.heap.size + (i - 16)
def sm_v (g : Nat → Nat) (v : Value) : Value := match v with
  | .ref i => .ref (g i)
  | .retAddr _ => match g 15 with
    | 0 => .null
    | t + 1 => .ref t
  | v => v
theorem sm_v_cat (g : Nat → Nat) (v : Value) : (sm_v g v).category = v.category := by
  cases v with
  | retAddr n =>
    unfold sm_v
    dsimp only
    split <;> rfl
  | _ => rfl
theorem sm_cat (g : Nat → Nat) (st : List Value) : ((st.map (sm_v g)).map fun v => v.category).sum = am_cat st := by
  unfold am_cat
  congr 1
  rw [List.map_map]
  apply List.map_congr_left
  intro v _
  exact sm_v_cat g v
def sm_cA (s0 : State) (ty : FieldType) : ClassId := (s0.vm.findClass ("[" ++ ty.toString)).getD 0
/-- the cell of number i; 900: the script, 901: a string constant, 902: its bytes -/
def sm_CR (s0 : State) (D : va_G) (g : Nat → Nat) (h : am_H) (H : Heap) (i tag len : Nat) : Prop :=
  (tag < 100 → ∃ r : vw_C, vwCl[tag]? = some r ∧ t_OB (g i) (D.1 tag) r.2.2 (D.2 tag) H (fun k => sm_v g (am_rd (at_ty tag k) h i k))) ∧
  (∀ ty, 100 ≤ tag → tag < 900 → am_aty tag = some ty → H[g i]? = some (arrV (sm_cA s0 ty) len (fun j => sm_v g (am_rd ty h i j))) ∧ ArrOfT s0 (sm_cA s0 ty) ty ∧ va_RA s0 (sm_cA s0 ty) ty ∧ (∀ j, fits ty (am_rd ty h i j) = true) ∧ len < 2 ^ 31) ∧
  (tag = 900 → va_X (g i) len (fun j => h.2.1 i j) s0 s0.heap) ∧
  (tag = 901 → va_O "java/lang/String" (g i) (fun q => s0.heap.size ≤ q) s0 s0.heap ∧ va_OF "java/lang/String" "coder" "B" (.int (h.2.1 i 1)) (g i) (fun q => s0.heap.size ≤ q) s0 s0.heap ∧ ∃ b, h.2.2.2 i 0 = some b ∧ va_OF "java/lang/String" "value" "[B" (.ref (g b)) (g i) (fun q => s0.heap.size ≤ q) s0 s0.heap) ∧
  (tag = 902 → va_T .byte (g i) len (fun j => .int (h.2.1 i j)) (fun q => s0.heap.size ≤ q) s0 s0.heap)
def sm_HR (s0 : State) (D : va_G) (adS : Nat → Nat) (h : am_H) (H : Heap) : Prop :=
  16 ≤ h.1.length ∧ H.size + 16 = s0.heap.size + h.1.length ∧ (∀ q : Nat, q < s0.heap.size → H[q]? = s0.heap[q]?) ∧
  (∀ i tag len : Nat, i < 16 → h.1[i]? = some (tag, len) → 900 ≤ tag) ∧
  ∀ i tag len : Nat, h.1[i]? = some (tag, len) → sm_CR s0 D (sm_g s0 adS) h H i tag len
theorem sm_g_hi {s0 : State} {adS : Nat → Nat} {i : Nat} (h : 16 ≤ i) : sm_g s0 adS i = s0.heap.size + (i - 16) := by
  unfold sm_g; rw [if_neg (by omega)]
theorem sm_HR.big {s0 : State} {D : va_G} {adS : Nat → Nat} {h : am_H} {H : Heap} (R : sm_HR s0 D adS h H) {i tag len : Nat} (hi : h.1[i]? = some (tag, len)) (ht : tag < 900) : 16 ≤ i := by
  rcases Nat.lt_or_ge i 16 with q | q
  · have := R.2.2.2.1 i tag len q hi
    omega
  · exact q
/-- the reading of a cell depends on its own slots alone -/
theorem sm_CR.keep {s0 : State} {D : va_G} {g : Nat → Nat} {h h' : am_H} {H H' : Heap} {i tag len : Nat} (c : sm_CR s0 D g h H i tag len) (hH : tag < 900 → H'[g i]? = H[g i]?) (h1 : ∀ k, h'.2.1 i k = h.2.1 i k) (h2 : ∀ k, h'.2.2.1 i k = h.2.2.1 i k) (h3 : ∀ k, h'.2.2.2 i k = h.2.2.2 i k) : sm_CR s0 D g h' H' i tag len := by
  have e : ∀ (ty : FieldType) (k : Nat), am_rd ty h' i k = am_rd ty h i k := by
    intro ty k
    unfold am_rd
    cases ty <;> simp only [h1, h2, h3]
  have e2 : (fun j => h'.2.1 i j) = fun j => h.2.1 i j := funext fun j => h1 j
  refine ⟨fun ht => ?_, fun ty a b e1 => ?_, fun ht => ?_, fun ht => ?_, fun ht => ?_⟩
  · obtain ⟨r, q1, q2⟩ := c.1 ht
    exact ⟨r, q1, (q2.kept (hH (by omega))).to (fun k _ => by rw [e])⟩
  · obtain ⟨q1, q2, q3, q4, q5⟩ := c.2.1 ty a b e1
    refine ⟨?_, q2, q3, fun j => by rw [e]; exact q4 j, q5⟩
    rw [hH b, q1]
    congr 2
    funext j
    rw [e]
  · rw [e2]
    exact c.2.2.1 ht
  · obtain ⟨q1, q2, b, q3, q4⟩ := c.2.2.2.1 ht
    exact ⟨q1, by rw [h1]; exact q2, b, by rw [h3]; exact q3, q4⟩
  · have e3 : (fun j => Value.int (h'.2.1 i j)) = fun j => Value.int (h.2.1 i j) := funext fun j => by rw [h1]
    rw [e3]
    exact c.2.2.2.2 ht
/-- one cell changes -/
theorem sm_HR.put {s0 : State} {D : va_G} {adS : Nat → Nat} {h h' : am_H} {H H' : Heap} (R : sm_HR s0 D adS h H) {a : Nat} (ha : 16 ≤ a) (hsh : h'.1 = h.1) (hz : H'.size = H.size) (hoq : ∀ q : Nat, q ≠ sm_g s0 adS a → H'[q]? = H[q]?)
    (h1 : ∀ i k, i ≠ a → h'.2.1 i k = h.2.1 i k) (h2 : ∀ i k, i ≠ a → h'.2.2.1 i k = h.2.2.1 i k) (h3 : ∀ i k, i ≠ a → h'.2.2.2 i k = h.2.2.2 i k) (hc : ∀ tag len : Nat, h.1[a]? = some (tag, len) → sm_CR s0 D (sm_g s0 adS) h' H' a tag len) : sm_HR s0 D adS h' H' := by
  refine ⟨by rw [hsh]; exact R.1, by rw [hsh, hz]; exact R.2.1, fun q hq => ?_, fun i tag len hi he => R.2.2.2.1 i tag len hi (by rw [← hsh]; exact he), fun i tag len he => ?_⟩
  · rw [hoq q (by rw [sm_g_hi ha]; omega)]
    exact R.2.2.1 q hq
  · rw [hsh] at he
    by_cases hia : i = a
    · subst hia
      exact hc tag len he
    · refine (R.2.2.2.2 i tag len he).keep (fun ht => hoq _ ?_) (fun k => h1 i k hia) (fun k => h2 i k hia) (fun k => h3 i k hia)
      have hi := R.big he ht
      rw [sm_g_hi ha, sm_g_hi hi]
      omega
/-- a new cell -/
theorem sm_HR.born {s0 : State} {D : va_G} {adS : Nat → Nat} {h : am_H} {H H' : Heap} (R : sm_HR s0 D adS h H) {tag n : Nat} (hz : H'.size = H.size + 1) (hoq : ∀ q : Nat, q < H.size → H'[q]? = H[q]?) (hc : sm_CR s0 D (sm_g s0 adS) (am_born h tag n) H' h.1.length tag n) : sm_HR s0 D adS (am_born h tag n) H' := by
  have hl : (am_born h tag n).1.length = h.1.length + 1 := by simp [am_born]
  have r1 := R.1
  have r2 := R.2.1
  refine ⟨by rw [hl]; omega, by rw [hl, hz]; omega, fun q hq => ?_, fun i t len hi he => ?_, fun i t len he => ?_⟩
  · rw [hoq q (by omega)]
    exact R.2.2.1 q hq
  · have : i < h.1.length := by omega
    rw [show (am_born h tag n).1 = h.1 ++ [(tag, n)] from rfl, List.getElem?_append_left this] at he
    exact R.2.2.2.1 i t len hi he
  · rw [show (am_born h tag n).1 = h.1 ++ [(tag, n)] from rfl] at he
    rcases Nat.lt_trichotomy i h.1.length with q | q | q
    · rw [List.getElem?_append_left q] at he
      have hi : ¬ i = h.1.length := by omega
      refine (R.2.2.2.2 i t len he).keep (fun ht => hoq _ ?_) (fun k => by simp [am_born, hi]) (fun k => by simp [am_born, hi]) (fun k => by simp [am_born, hi])
      have z := R.big he ht
      rw [sm_g_hi z]
      omega
    · subst q
      rw [List.getElem?_append_right (Nat.le_refl _), Nat.sub_self] at he
      simp at he
      obtain ⟨rfl, rfl⟩ := he
      exact hc
    · rw [List.getElem?_eq_none (by simp; omega)] at he
      cases he
/-- the locals -/
def sm_LR (g : Nat → Nat) (ls : Array Slot) (nL : Nat) (l : am_L) : Prop := ls.size = nL ∧ lv_wf ls ∧ l.length = nL ∧ ∀ (k : Nat) (v : Value), am_get l k = some v → ls[k]? = some (.val (sm_v g v))
def sm_al (g : Nat → Nat) (l : am_L) : List (Nat × Value) := (List.range l.length).filterMap (fun k => (am_get l k).map (fun v => (k, sm_v g v)))
theorem am_get_lt {l : am_L} {k : Nat} {v : Value} (h : am_get l k = some v) : k < l.length := by
  unfold am_get at h
  cases e : l[k]? with
  | none => rw [e] at h; cases h
  | some o => exact (List.getElem?_eq_some_iff.mp e).1
theorem sm_al_mem {g : Nat → Nat} {l : am_L} {k : Nat} {v : Value} (h : am_get l k = some v) : (k, sm_v g v) ∈ sm_al g l := List.mem_filterMap.mpr ⟨k, List.mem_range.mpr (am_get_lt h), by rw [h]; rfl⟩
theorem sm_LR.has {g : Nat → Nat} {ls : Array Slot} {nL : Nat} {l : am_L} (h : sm_LR g ls nL l) : lv_has ls nL (sm_al g l) := by
  refine ⟨h.1, h.2.1, fun q hq => ?_⟩
  obtain ⟨k, -, hk⟩ := List.mem_filterMap.mp hq
  cases e : am_get l k with
  | none => rw [e] at hk; cases hk
  | some v =>
    rw [e] at hk
    cases hk
    exact h.2.2.2 k v e
theorem am_get_set {l : am_L} {i k : Nat} {o : Option Value} (h : k ≠ i) : am_get (l.set i o) k = am_get l k := by
  unfold am_get
  rw [List.getElem?_set_ne (Ne.symm h)]
theorem am_get_self {l : am_L} {i : Nat} {o : Option Value} (h : i < l.length) : am_get (l.set i o) i = o := by
  unfold am_get
  rw [List.getElem?_set_self h]
theorem am_kill_length (l : am_L) (i : Nat) : (am_kill l i).length = l.length := by
  unfold am_kill
  split
  · rfl
  · split <;> simp
theorem am_kill_get {l : am_L} {i k : Nat} {v : Value} (h : am_get (am_kill l i) k = some v) : am_get l k = some v ∧ ¬ (k + 1 = i ∧ v.category = 2) := by
  have none_of : ∀ j, am_get (l.set j none) j = some v → False := by
    intro j hj
    have hl := am_get_lt hj
    rw [List.length_set] at hl
    rw [am_get_self hl] at hj
    cases hj
  cases i with
  | zero => exact ⟨h, fun q => by omega⟩
  | succ j =>
    rw [show am_kill l (j + 1) = (match am_get l j with
      | some (.long _) => l.set j none
      | some (.double _) => l.set j none
      | _ => l) from rfl] at h
    split at h
    · by_cases hkj : k = j
      · subst hkj
        exact (none_of _ h).elim
      · rw [am_get_set hkj] at h
        exact ⟨h, fun q => hkj (by omega)⟩
    · by_cases hkj : k = j
      · subst hkj
        exact (none_of _ h).elim
      · rw [am_get_set hkj] at h
        exact ⟨h, fun q => hkj (by omega)⟩
    · rename_i n1 n2
      refine ⟨h, fun q => ?_⟩
      have hkj : k = j := by omega
      subst hkj
      cases v with
      | long x => exact n1 x h
      | double x => exact n2 x h
      | int x => exact absurd q.2 (by simp [Value.category])
      | float x => exact absurd q.2 (by simp [Value.category])
      | null => exact absurd q.2 (by simp [Value.category])
      | ref x => exact absurd q.2 (by simp [Value.category])
      | retAddr x => exact absurd q.2 (by simp [Value.category])
theorem sm_LR.st1 {g : Nat → Nat} {ls' : Array Slot} {nL : Nat} {l : am_L} {i : Nat} {v : Value} (hn : l.length = nL) (hi : i < nL) (h : lv_has ls' nL ((i, sm_v g v) :: (sm_al g l).filter (fun q => !(q.1 == i) && !(q.1 + 1 == i && q.2.category == 2)))) : sm_LR g ls' nL (am_st1 l i v) := by
  refine ⟨h.1, h.2.1, by simp [am_st1, am_kill_length, hn], fun k w hk => ?_⟩
  unfold am_st1 at hk
  by_cases hki : k = i
  · subst hki
    rw [am_get_self (by rw [am_kill_length]; omega)] at hk
    cases hk
    exact h.2.2 (k, sm_v g v) List.mem_cons_self
  · rw [am_get_set hki] at hk
    obtain ⟨h1, h2⟩ := am_kill_get hk
    refine h.2.2 (k, sm_v g w) (List.mem_cons_of_mem _ (List.mem_filter.mpr ⟨sm_al_mem h1, ?_⟩))
    simp only [sm_v_cat, Bool.and_eq_true, Bool.not_eq_true', beq_eq_false_iff_ne, ne_eq, Bool.and_eq_false_iff]
    refine ⟨hki, ?_⟩
    by_cases hk1 : k + 1 = i
    · exact Or.inr fun z => h2 ⟨hk1, z⟩
    · exact Or.inl hk1
theorem sm_LR.st2 {g : Nat → Nat} {ls' : Array Slot} {nL : Nat} {l : am_L} {i : Nat} {v : Value} (hn : l.length = nL) (hi : i + 1 < nL) (h : lv_has ls' nL ((i, sm_v g v) :: (sm_al g l).filter (fun q => !(q.1 == i) && (!(q.1 == i + 1) && !(q.1 + 1 == i && q.2.category == 2))))) : sm_LR g ls' nL (am_st2 l i v) := by
  refine ⟨h.1, h.2.1, by simp [am_st2, am_kill_length, hn], fun k w hk => ?_⟩
  unfold am_st2 at hk
  by_cases hk1 : k = i + 1
  · subst hk1
    rw [am_get_self (by rw [List.length_set, am_kill_length]; omega)] at hk
    cases hk
  · rw [am_get_set hk1] at hk
    by_cases hki : k = i
    · subst hki
      rw [am_get_self (by rw [am_kill_length]; omega)] at hk
      cases hk
      exact h.2.2 (k, sm_v g v) List.mem_cons_self
    · rw [am_get_set hki] at hk
      obtain ⟨h1, h2⟩ := am_kill_get hk
      refine h.2.2 (k, sm_v g w) (List.mem_cons_of_mem _ (List.mem_filter.mpr ⟨sm_al_mem h1, ?_⟩))
      simp only [sm_v_cat, Bool.and_eq_true, Bool.not_eq_true', beq_eq_false_iff_ne, ne_eq, Bool.and_eq_false_iff]
      refine ⟨hki, hk1, ?_⟩
      by_cases hk2 : k + 1 = i
      · exact Or.inr fun z => h2 ⟨hk2, z⟩
      · exact Or.inl hk2
end
section
/-! EACH PLAIN STEP of the small machine is a step of the JVM (goal first: what holds behind the step gives what holds before it) -/
section Sim
variable {s0 : State} {D : va_G} {adS : Nat → Nat} {p : Program} {lau : Launch} {e : Env} {R : Room} {s : State} {m : MethodId} {args : Array Value} {below : List Frame} {meth : Method} {c : Code} {Q : State → Prop} {n0 t0 nL : Nat} {cc : ByteArray}
def sm_K (s0 : State) (D : va_G) (adS : Nat → Nat) (p : Program) (lau : Launch) (e : Env) (R : Room) (s : State) (m : MethodId) (args : Array Value) (below : List Frame) (meth : Method) (c : Code) (Q : State → Prop) (n0 t0 nL : Nat) (pc : Nat) (l : am_L) (st : List Value) (h : am_H) : Prop :=
  ∀ (H : Heap) (locs : List Loc) (ls : Array Slot) (cells slots : Nat), sm_HR s0 D adS h H → (∀ q ∈ locs, s0.heap.size ≤ q.base) → sm_LR (sm_g s0 adS) ls nL l → cells + n0 = h.1.length → slots + t0 = am_tot h.1 → W p lau e R s m args below meth c H locs cells slots Q (F0 m pc ls (st.map (sm_v (sm_g s0 adS))))

theorem sk_iconst (hx : p.tables.exec = Jvm.exec) (hb : c.code = cc) {pc : Nat} {l : am_L} {st : List Value} {h : am_H} {pc' : Nat} {l' : am_L} {st' : List Value} {h' : am_H} {n : Int} (hdg : decode cc pc = .ok (.iconst n, 1)) (hs : (some (pc + 1, l, .int (Int32.ofInt n) :: st, h) : Option am_S) = some (pc', l', st', h')) (kk : sm_K s0 D adS p lau e R s m args below meth c Q n0 t0 nL pc' l' st' h') : sm_K s0 D adS p lau e R s m args below meth c Q n0 t0 nL pc l st h := by
  intro H locs ls cells slots hR hlo hL hc ht
  cases hs
  exact lv_iconst hx hb hdg rfl (kk H locs ls cells slots hR hlo hL hc ht)
theorem sk_bipush (hx : p.tables.exec = Jvm.exec) (hb : c.code = cc) {pc : Nat} {l : am_L} {st : List Value} {h : am_H} {pc' : Nat} {l' : am_L} {st' : List Value} {h' : am_H} {n : Int} (hdg : decode cc pc = .ok (.bipush n, 2)) (hs : (some (pc + 2, l, .int (Int8.ofInt n).toInt32 :: st, h) : Option am_S) = some (pc', l', st', h')) (kk : sm_K s0 D adS p lau e R s m args below meth c Q n0 t0 nL pc' l' st' h') : sm_K s0 D adS p lau e R s m args below meth c Q n0 t0 nL pc l st h := by
  intro H locs ls cells slots hR hlo hL hc ht
  cases hs
  exact lv_bipush hx hb hdg rfl (kk H locs ls cells slots hR hlo hL hc ht)
theorem sk_sipush (hx : p.tables.exec = Jvm.exec) (hb : c.code = cc) {pc : Nat} {l : am_L} {st : List Value} {h : am_H} {pc' : Nat} {l' : am_L} {st' : List Value} {h' : am_H} {n : Int} (hdg : decode cc pc = .ok (.sipush n, 3)) (hs : (some (pc + 3, l, .int (Int16.ofInt n).toInt32 :: st, h) : Option am_S) = some (pc', l', st', h')) (kk : sm_K s0 D adS p lau e R s m args below meth c Q n0 t0 nL pc' l' st' h') : sm_K s0 D adS p lau e R s m args below meth c Q n0 t0 nL pc l st h := by
  intro H locs ls cells slots hR hlo hL hc ht
  cases hs
  exact lv_sipush hx hb hdg rfl (kk H locs ls cells slots hR hlo hL hc ht)
theorem sk_lconst (hx : p.tables.exec = Jvm.exec) (hb : c.code = cc) {pc : Nat} {l : am_L} {st : List Value} {h : am_H} {pc' : Nat} {l' : am_L} {st' : List Value} {h' : am_H} {n : Fin 2} (hdg : decode cc pc = .ok (.lconst n, 1)) (hs : (some (pc + 1, l, .long (Int64.ofNat n.val) :: st, h) : Option am_S) = some (pc', l', st', h')) (kk : sm_K s0 D adS p lau e R s m args below meth c Q n0 t0 nL pc' l' st' h') : sm_K s0 D adS p lau e R s m args below meth c Q n0 t0 nL pc l st h := by
  intro H locs ls cells slots hR hlo hL hc ht
  cases hs
  exact lv_lconst hx hb hdg rfl (kk H locs ls cells slots hR hlo hL hc ht)
theorem sk_iload (hx : p.tables.exec = Jvm.exec) (hb : c.code = cc) {pc : Nat} {l : am_L} {st : List Value} {h : am_H} {pc' : Nat} {l' : am_L} {st' : List Value} {h' : am_H} {i : Nat} (hdg : decode cc pc = .ok (.iload i, 2)) (hs : am_iload pc l st h i 2 = some (pc', l', st', h')) (kk : sm_K s0 D adS p lau e R s m args below meth c Q n0 t0 nL pc' l' st' h') : sm_K s0 D adS p lau e R s m args below meth c Q n0 t0 nL pc l st h := by
  intro H locs ls cells slots hR hlo hL hc ht
  unfold am_iload at hs
  split at hs
  · rename_i x hg
    cases hs
    exact lv_iload hx hb hdg (hL.2.2.2 _ _ hg) (kk H locs ls cells slots hR hlo hL hc ht)
  · cases hs
theorem sk_iload_n (hx : p.tables.exec = Jvm.exec) (hb : c.code = cc) {pc : Nat} {l : am_L} {st : List Value} {h : am_H} {pc' : Nat} {l' : am_L} {st' : List Value} {h' : am_H} {i : Fin 4} (hdg : decode cc pc = .ok (.iload_n i, 1)) (hs : am_iload pc l st h i.val 1 = some (pc', l', st', h')) (kk : sm_K s0 D adS p lau e R s m args below meth c Q n0 t0 nL pc' l' st' h') : sm_K s0 D adS p lau e R s m args below meth c Q n0 t0 nL pc l st h := by
  intro H locs ls cells slots hR hlo hL hc ht
  unfold am_iload at hs
  split at hs
  · rename_i x hg
    cases hs
    exact lv_iload_n hx hb hdg rfl (hL.2.2.2 _ _ hg) (kk H locs ls cells slots hR hlo hL hc ht)
  · cases hs
theorem sk_lload (hx : p.tables.exec = Jvm.exec) (hb : c.code = cc) {pc : Nat} {l : am_L} {st : List Value} {h : am_H} {pc' : Nat} {l' : am_L} {st' : List Value} {h' : am_H} {i : Nat} (hdg : decode cc pc = .ok (.lload i, 2)) (hs : am_lload pc l st h i 2 = some (pc', l', st', h')) (kk : sm_K s0 D adS p lau e R s m args below meth c Q n0 t0 nL pc' l' st' h') : sm_K s0 D adS p lau e R s m args below meth c Q n0 t0 nL pc l st h := by
  intro H locs ls cells slots hR hlo hL hc ht
  unfold am_lload at hs
  split at hs
  · rename_i x hg
    cases hs
    exact lv_lload hx hb hdg (hL.2.2.2 _ _ hg) (kk H locs ls cells slots hR hlo hL hc ht)
  · cases hs
theorem sk_lload_n (hx : p.tables.exec = Jvm.exec) (hb : c.code = cc) {pc : Nat} {l : am_L} {st : List Value} {h : am_H} {pc' : Nat} {l' : am_L} {st' : List Value} {h' : am_H} {i : Fin 4} (hdg : decode cc pc = .ok (.lload_n i, 1)) (hs : am_lload pc l st h i.val 1 = some (pc', l', st', h')) (kk : sm_K s0 D adS p lau e R s m args below meth c Q n0 t0 nL pc' l' st' h') : sm_K s0 D adS p lau e R s m args below meth c Q n0 t0 nL pc l st h := by
  intro H locs ls cells slots hR hlo hL hc ht
  unfold am_lload at hs
  split at hs
  · rename_i x hg
    cases hs
    exact lv_lload_n hx hb hdg rfl (hL.2.2.2 _ _ hg) (kk H locs ls cells slots hR hlo hL hc ht)
  · cases hs
theorem sk_aload (hx : p.tables.exec = Jvm.exec) (hb : c.code = cc) {pc : Nat} {l : am_L} {st : List Value} {h : am_H} {pc' : Nat} {l' : am_L} {st' : List Value} {h' : am_H} {i : Nat} (hdg : decode cc pc = .ok (.aload i, 2)) (hs : am_aload pc l st h i 2 = some (pc', l', st', h')) (kk : sm_K s0 D adS p lau e R s m args below meth c Q n0 t0 nL pc' l' st' h') : sm_K s0 D adS p lau e R s m args below meth c Q n0 t0 nL pc l st h := by
  intro H locs ls cells slots hR hlo hL hc ht
  unfold am_aload at hs
  split at hs
  · rename_i x hg
    cases hs
    exact lv_aload hx hb hdg (hL.2.2.2 _ _ hg) (kk H locs ls cells slots hR hlo hL hc ht)
  · cases hs
theorem sk_aload_n (hx : p.tables.exec = Jvm.exec) (hb : c.code = cc) {pc : Nat} {l : am_L} {st : List Value} {h : am_H} {pc' : Nat} {l' : am_L} {st' : List Value} {h' : am_H} {i : Fin 4} (hdg : decode cc pc = .ok (.aload_n i, 1)) (hs : am_aload pc l st h i.val 1 = some (pc', l', st', h')) (kk : sm_K s0 D adS p lau e R s m args below meth c Q n0 t0 nL pc' l' st' h') : sm_K s0 D adS p lau e R s m args below meth c Q n0 t0 nL pc l st h := by
  intro H locs ls cells slots hR hlo hL hc ht
  unfold am_aload at hs
  split at hs
  · rename_i x hg
    cases hs
    exact lv_aload_n hx hb hdg rfl (hL.2.2.2 _ _ hg) (kk H locs ls cells slots hR hlo hL hc ht)
  · cases hs
theorem sk_istore (hx : p.tables.exec = Jvm.exec) (hb : c.code = cc) {pc : Nat} {l : am_L} {st : List Value} {h : am_H} {pc' : Nat} {l' : am_L} {st' : List Value} {h' : am_H} {i : Nat} (hdg : decode cc pc = .ok (.istore i, 2)) (hs : am_istore pc l st h i 2 = some (pc', l', st', h')) (kk : sm_K s0 D adS p lau e R s m args below meth c Q n0 t0 nL pc' l' st' h') : sm_K s0 D adS p lau e R s m args below meth c Q n0 t0 nL pc l st h := by
  intro H locs ls cells slots hR hlo hL hc ht
  unfold am_istore at hs
  split at hs
  · rename_i x r
    split at hs
    · rename_i hi
      cases hs
      have hi2 : i < nL := by have := hL.2.2.1; have h3 := of_decide_eq_true hi; omega
      exact lv_istore hx hb hdg hL.has hi2 rfl (fun ls' hl' => kk H locs ls' cells slots hR hlo (sm_LR.st1 (v := .int x) hL.2.2.1 hi2 hl') hc ht)
    · cases hs
  · cases hs
theorem sk_istore_n (hx : p.tables.exec = Jvm.exec) (hb : c.code = cc) {pc : Nat} {l : am_L} {st : List Value} {h : am_H} {pc' : Nat} {l' : am_L} {st' : List Value} {h' : am_H} {i : Fin 4} (hdg : decode cc pc = .ok (.istore_n i, 1)) (hs : am_istore pc l st h i.val 1 = some (pc', l', st', h')) (kk : sm_K s0 D adS p lau e R s m args below meth c Q n0 t0 nL pc' l' st' h') : sm_K s0 D adS p lau e R s m args below meth c Q n0 t0 nL pc l st h := by
  intro H locs ls cells slots hR hlo hL hc ht
  unfold am_istore at hs
  split at hs
  · rename_i x r
    split at hs
    · rename_i hi
      cases hs
      have hi2 : i.val < nL := by have := hL.2.2.1; have h3 := of_decide_eq_true hi; omega
      exact lv_istore_n hx hb hdg rfl hL.has hi2 rfl (fun ls' hl' => kk H locs ls' cells slots hR hlo (sm_LR.st1 (v := .int x) hL.2.2.1 hi2 hl') hc ht)
    · cases hs
  · cases hs
theorem sk_lstore (hx : p.tables.exec = Jvm.exec) (hb : c.code = cc) {pc : Nat} {l : am_L} {st : List Value} {h : am_H} {pc' : Nat} {l' : am_L} {st' : List Value} {h' : am_H} {i : Nat} (hdg : decode cc pc = .ok (.lstore i, 2)) (hs : am_lstore pc l st h i 2 = some (pc', l', st', h')) (kk : sm_K s0 D adS p lau e R s m args below meth c Q n0 t0 nL pc' l' st' h') : sm_K s0 D adS p lau e R s m args below meth c Q n0 t0 nL pc l st h := by
  intro H locs ls cells slots hR hlo hL hc ht
  unfold am_lstore at hs
  split at hs
  · rename_i x r
    split at hs
    · rename_i hi
      cases hs
      have hi2 : i + 1 < nL := by have := hL.2.2.1; have h3 := of_decide_eq_true hi; omega
      exact lv_lstore hx hb hdg hL.has hi2 rfl (fun ls' hl' => kk H locs ls' cells slots hR hlo (sm_LR.st2 (v := .long x) hL.2.2.1 hi2 hl') hc ht)
    · cases hs
  · cases hs
theorem sk_lstore_n (hx : p.tables.exec = Jvm.exec) (hb : c.code = cc) {pc : Nat} {l : am_L} {st : List Value} {h : am_H} {pc' : Nat} {l' : am_L} {st' : List Value} {h' : am_H} {i : Fin 4} (hdg : decode cc pc = .ok (.lstore_n i, 1)) (hs : am_lstore pc l st h i.val 1 = some (pc', l', st', h')) (kk : sm_K s0 D adS p lau e R s m args below meth c Q n0 t0 nL pc' l' st' h') : sm_K s0 D adS p lau e R s m args below meth c Q n0 t0 nL pc l st h := by
  intro H locs ls cells slots hR hlo hL hc ht
  unfold am_lstore at hs
  split at hs
  · rename_i x r
    split at hs
    · rename_i hi
      cases hs
      have hi2 : i.val + 1 < nL := by have := hL.2.2.1; have h3 := of_decide_eq_true hi; omega
      exact lv_lstore_n hx hb hdg rfl hL.has hi2 rfl (fun ls' hl' => kk H locs ls' cells slots hR hlo (sm_LR.st2 (v := .long x) hL.2.2.1 hi2 hl') hc ht)
    · cases hs
  · cases hs
theorem sk_astore (hx : p.tables.exec = Jvm.exec) (hb : c.code = cc) {pc : Nat} {l : am_L} {st : List Value} {h : am_H} {pc' : Nat} {l' : am_L} {st' : List Value} {h' : am_H} {i : Nat} (hdg : decode cc pc = .ok (.astore i, 2)) (hs : am_astore pc l st h i 2 = some (pc', l', st', h')) (kk : sm_K s0 D adS p lau e R s m args below meth c Q n0 t0 nL pc' l' st' h') : sm_K s0 D adS p lau e R s m args below meth c Q n0 t0 nL pc l st h := by
  intro H locs ls cells slots hR hlo hL hc ht
  unfold am_astore at hs
  split at hs
  · rename_i x r
    split at hs
    · rename_i hi
      cases hs
      have hi2 : i < nL := by have := hL.2.2.1; have h3 := of_decide_eq_true hi; omega
      exact lv_astore hx hb hdg hL.has hi2 rfl (fun ls' hl' => kk H locs ls' cells slots hR hlo (sm_LR.st1 (v := .ref x) hL.2.2.1 hi2 hl') hc ht)
    · cases hs
  · cases hs
theorem sk_astore_n (hx : p.tables.exec = Jvm.exec) (hb : c.code = cc) {pc : Nat} {l : am_L} {st : List Value} {h : am_H} {pc' : Nat} {l' : am_L} {st' : List Value} {h' : am_H} {i : Fin 4} (hdg : decode cc pc = .ok (.astore_n i, 1)) (hs : am_astore pc l st h i.val 1 = some (pc', l', st', h')) (kk : sm_K s0 D adS p lau e R s m args below meth c Q n0 t0 nL pc' l' st' h') : sm_K s0 D adS p lau e R s m args below meth c Q n0 t0 nL pc l st h := by
  intro H locs ls cells slots hR hlo hL hc ht
  unfold am_astore at hs
  split at hs
  · rename_i x r
    split at hs
    · rename_i hi
      cases hs
      have hi2 : i.val < nL := by have := hL.2.2.1; have h3 := of_decide_eq_true hi; omega
      exact lv_astore_n hx hb hdg rfl hL.has hi2 rfl (fun ls' hl' => kk H locs ls' cells slots hR hlo (sm_LR.st1 (v := .ref x) hL.2.2.1 hi2 hl') hc ht)
    · cases hs
  · cases hs
theorem sk_iinc (hx : p.tables.exec = Jvm.exec) (hb : c.code = cc) {pc : Nat} {l : am_L} {st : List Value} {h : am_H} {pc' : Nat} {l' : am_L} {st' : List Value} {h' : am_H} {i : Nat} {n : Int} (hdg : decode cc pc = .ok (.iinc i n, 3)) (hs : (match am_get l i with
    | some (.int x) => match decide (i < l.length) with
      | true => some (pc + 3, am_st1 l i (.int (x + Int32.ofInt n)), st, h)
      | false => none
    | _ => none : Option am_S) = some (pc', l', st', h')) (kk : sm_K s0 D adS p lau e R s m args below meth c Q n0 t0 nL pc' l' st' h') : sm_K s0 D adS p lau e R s m args below meth c Q n0 t0 nL pc l st h := by
  intro H locs ls cells slots hR hlo hL hc ht
  split at hs
  · rename_i x hg
    split at hs
    · rename_i hi
      cases hs
      have hi2 : i < nL := by have := hL.2.2.1; have h3 := of_decide_eq_true hi; omega
      obtain ⟨k, hk⟩ := List.getElem?_of_mem (sm_al_mem (g := sm_g s0 adS) hg)
      exact lv_iinc hx hb hdg hL.has hk rfl hi2 rfl (fun ls' hl' => kk H locs ls' cells slots hR hlo (sm_LR.st1 (v := .int (x + Int32.ofInt n)) hL.2.2.1 hi2 hl') hc ht)
    · cases hs
  · cases hs
theorem sk_iadd (hx : p.tables.exec = Jvm.exec) (hb : c.code = cc) {pc : Nat} {l : am_L} {st : List Value} {h : am_H} {pc' : Nat} {l' : am_L} {st' : List Value} {h' : am_H}  (hdg : decode cc pc = .ok (.iadd, 1)) (hs : am_ii pc l st h (fun x y => x + y) = some (pc', l', st', h')) (kk : sm_K s0 D adS p lau e R s m args below meth c Q n0 t0 nL pc' l' st' h') : sm_K s0 D adS p lau e R s m args below meth c Q n0 t0 nL pc l st h := by
  intro H locs ls cells slots hR hlo hL hc ht
  unfold am_ii at hs
  split at hs
  · cases hs
    exact lv_iadd hx hb hdg (kk H locs ls cells slots hR hlo hL hc ht)
  · cases hs
theorem sk_isub (hx : p.tables.exec = Jvm.exec) (hb : c.code = cc) {pc : Nat} {l : am_L} {st : List Value} {h : am_H} {pc' : Nat} {l' : am_L} {st' : List Value} {h' : am_H}  (hdg : decode cc pc = .ok (.isub, 1)) (hs : am_ii pc l st h (fun x y => x - y) = some (pc', l', st', h')) (kk : sm_K s0 D adS p lau e R s m args below meth c Q n0 t0 nL pc' l' st' h') : sm_K s0 D adS p lau e R s m args below meth c Q n0 t0 nL pc l st h := by
  intro H locs ls cells slots hR hlo hL hc ht
  unfold am_ii at hs
  split at hs
  · cases hs
    exact lv_isub hx hb hdg (kk H locs ls cells slots hR hlo hL hc ht)
  · cases hs
theorem sk_imul (hx : p.tables.exec = Jvm.exec) (hb : c.code = cc) {pc : Nat} {l : am_L} {st : List Value} {h : am_H} {pc' : Nat} {l' : am_L} {st' : List Value} {h' : am_H}  (hdg : decode cc pc = .ok (.imul, 1)) (hs : am_ii pc l st h (fun x y => x * y) = some (pc', l', st', h')) (kk : sm_K s0 D adS p lau e R s m args below meth c Q n0 t0 nL pc' l' st' h') : sm_K s0 D adS p lau e R s m args below meth c Q n0 t0 nL pc l st h := by
  intro H locs ls cells slots hR hlo hL hc ht
  unfold am_ii at hs
  split at hs
  · cases hs
    exact lv_imul hx hb hdg (kk H locs ls cells slots hR hlo hL hc ht)
  · cases hs
theorem sk_iand (hx : p.tables.exec = Jvm.exec) (hb : c.code = cc) {pc : Nat} {l : am_L} {st : List Value} {h : am_H} {pc' : Nat} {l' : am_L} {st' : List Value} {h' : am_H}  (hdg : decode cc pc = .ok (.iand, 1)) (hs : am_ii pc l st h (fun x y => x &&& y) = some (pc', l', st', h')) (kk : sm_K s0 D adS p lau e R s m args below meth c Q n0 t0 nL pc' l' st' h') : sm_K s0 D adS p lau e R s m args below meth c Q n0 t0 nL pc l st h := by
  intro H locs ls cells slots hR hlo hL hc ht
  unfold am_ii at hs
  split at hs
  · cases hs
    exact lv_iand hx hb hdg (kk H locs ls cells slots hR hlo hL hc ht)
  · cases hs
theorem sk_ior (hx : p.tables.exec = Jvm.exec) (hb : c.code = cc) {pc : Nat} {l : am_L} {st : List Value} {h : am_H} {pc' : Nat} {l' : am_L} {st' : List Value} {h' : am_H}  (hdg : decode cc pc = .ok (.ior, 1)) (hs : am_ii pc l st h (fun x y => x ||| y) = some (pc', l', st', h')) (kk : sm_K s0 D adS p lau e R s m args below meth c Q n0 t0 nL pc' l' st' h') : sm_K s0 D adS p lau e R s m args below meth c Q n0 t0 nL pc l st h := by
  intro H locs ls cells slots hR hlo hL hc ht
  unfold am_ii at hs
  split at hs
  · cases hs
    exact lv_ior hx hb hdg (kk H locs ls cells slots hR hlo hL hc ht)
  · cases hs
theorem sk_ixor (hx : p.tables.exec = Jvm.exec) (hb : c.code = cc) {pc : Nat} {l : am_L} {st : List Value} {h : am_H} {pc' : Nat} {l' : am_L} {st' : List Value} {h' : am_H}  (hdg : decode cc pc = .ok (.ixor, 1)) (hs : am_ii pc l st h (fun x y => x ^^^ y) = some (pc', l', st', h')) (kk : sm_K s0 D adS p lau e R s m args below meth c Q n0 t0 nL pc' l' st' h') : sm_K s0 D adS p lau e R s m args below meth c Q n0 t0 nL pc l st h := by
  intro H locs ls cells slots hR hlo hL hc ht
  unfold am_ii at hs
  split at hs
  · cases hs
    exact lv_ixor hx hb hdg (kk H locs ls cells slots hR hlo hL hc ht)
  · cases hs
theorem sk_ishl (hx : p.tables.exec = Jvm.exec) (hb : c.code = cc) {pc : Nat} {l : am_L} {st : List Value} {h : am_H} {pc' : Nat} {l' : am_L} {st' : List Value} {h' : am_H}  (hdg : decode cc pc = .ok (.ishl, 1)) (hs : am_ii pc l st h (fun x y => x <<< (y &&& 31)) = some (pc', l', st', h')) (kk : sm_K s0 D adS p lau e R s m args below meth c Q n0 t0 nL pc' l' st' h') : sm_K s0 D adS p lau e R s m args below meth c Q n0 t0 nL pc l st h := by
  intro H locs ls cells slots hR hlo hL hc ht
  unfold am_ii at hs
  split at hs
  · cases hs
    exact lv_ishl hx hb hdg (kk H locs ls cells slots hR hlo hL hc ht)
  · cases hs
theorem sk_ishr (hx : p.tables.exec = Jvm.exec) (hb : c.code = cc) {pc : Nat} {l : am_L} {st : List Value} {h : am_H} {pc' : Nat} {l' : am_L} {st' : List Value} {h' : am_H}  (hdg : decode cc pc = .ok (.ishr, 1)) (hs : am_ii pc l st h (fun x y => x >>> (y &&& 31)) = some (pc', l', st', h')) (kk : sm_K s0 D adS p lau e R s m args below meth c Q n0 t0 nL pc' l' st' h') : sm_K s0 D adS p lau e R s m args below meth c Q n0 t0 nL pc l st h := by
  intro H locs ls cells slots hR hlo hL hc ht
  unfold am_ii at hs
  split at hs
  · cases hs
    exact lv_ishr hx hb hdg (kk H locs ls cells slots hR hlo hL hc ht)
  · cases hs
theorem sk_iushr (hx : p.tables.exec = Jvm.exec) (hb : c.code = cc) {pc : Nat} {l : am_L} {st : List Value} {h : am_H} {pc' : Nat} {l' : am_L} {st' : List Value} {h' : am_H}  (hdg : decode cc pc = .ok (.iushr, 1)) (hs : am_ii pc l st h (fun x y => (x.toUInt32 >>> (y.toUInt32 &&& Int32.toUInt32 31)).toInt32) = some (pc', l', st', h')) (kk : sm_K s0 D adS p lau e R s m args below meth c Q n0 t0 nL pc' l' st' h') : sm_K s0 D adS p lau e R s m args below meth c Q n0 t0 nL pc l st h := by
  intro H locs ls cells slots hR hlo hL hc ht
  unfold am_ii at hs
  split at hs
  · cases hs
    exact lv_iushr hx hb hdg rfl (kk H locs ls cells slots hR hlo hL hc ht)
  · cases hs
theorem sk_ladd (hx : p.tables.exec = Jvm.exec) (hb : c.code = cc) {pc : Nat} {l : am_L} {st : List Value} {h : am_H} {pc' : Nat} {l' : am_L} {st' : List Value} {h' : am_H}  (hdg : decode cc pc = .ok (.ladd, 1)) (hs : am_ll pc l st h (fun x y => x + y) = some (pc', l', st', h')) (kk : sm_K s0 D adS p lau e R s m args below meth c Q n0 t0 nL pc' l' st' h') : sm_K s0 D adS p lau e R s m args below meth c Q n0 t0 nL pc l st h := by
  intro H locs ls cells slots hR hlo hL hc ht
  unfold am_ll at hs
  split at hs
  · cases hs
    exact lv_ladd hx hb hdg (kk H locs ls cells slots hR hlo hL hc ht)
  · cases hs
theorem sk_lsub (hx : p.tables.exec = Jvm.exec) (hb : c.code = cc) {pc : Nat} {l : am_L} {st : List Value} {h : am_H} {pc' : Nat} {l' : am_L} {st' : List Value} {h' : am_H}  (hdg : decode cc pc = .ok (.lsub, 1)) (hs : am_ll pc l st h (fun x y => x - y) = some (pc', l', st', h')) (kk : sm_K s0 D adS p lau e R s m args below meth c Q n0 t0 nL pc' l' st' h') : sm_K s0 D adS p lau e R s m args below meth c Q n0 t0 nL pc l st h := by
  intro H locs ls cells slots hR hlo hL hc ht
  unfold am_ll at hs
  split at hs
  · cases hs
    exact lv_lsub hx hb hdg (kk H locs ls cells slots hR hlo hL hc ht)
  · cases hs
theorem sk_lmul (hx : p.tables.exec = Jvm.exec) (hb : c.code = cc) {pc : Nat} {l : am_L} {st : List Value} {h : am_H} {pc' : Nat} {l' : am_L} {st' : List Value} {h' : am_H}  (hdg : decode cc pc = .ok (.lmul, 1)) (hs : am_ll pc l st h (fun x y => x * y) = some (pc', l', st', h')) (kk : sm_K s0 D adS p lau e R s m args below meth c Q n0 t0 nL pc' l' st' h') : sm_K s0 D adS p lau e R s m args below meth c Q n0 t0 nL pc l st h := by
  intro H locs ls cells slots hR hlo hL hc ht
  unfold am_ll at hs
  split at hs
  · cases hs
    exact lv_lmul hx hb hdg (kk H locs ls cells slots hR hlo hL hc ht)
  · cases hs
theorem sk_land (hx : p.tables.exec = Jvm.exec) (hb : c.code = cc) {pc : Nat} {l : am_L} {st : List Value} {h : am_H} {pc' : Nat} {l' : am_L} {st' : List Value} {h' : am_H}  (hdg : decode cc pc = .ok (.land, 1)) (hs : am_ll pc l st h (fun x y => x &&& y) = some (pc', l', st', h')) (kk : sm_K s0 D adS p lau e R s m args below meth c Q n0 t0 nL pc' l' st' h') : sm_K s0 D adS p lau e R s m args below meth c Q n0 t0 nL pc l st h := by
  intro H locs ls cells slots hR hlo hL hc ht
  unfold am_ll at hs
  split at hs
  · cases hs
    exact lv_land hx hb hdg (kk H locs ls cells slots hR hlo hL hc ht)
  · cases hs
theorem sk_lor (hx : p.tables.exec = Jvm.exec) (hb : c.code = cc) {pc : Nat} {l : am_L} {st : List Value} {h : am_H} {pc' : Nat} {l' : am_L} {st' : List Value} {h' : am_H}  (hdg : decode cc pc = .ok (.lor, 1)) (hs : am_ll pc l st h (fun x y => x ||| y) = some (pc', l', st', h')) (kk : sm_K s0 D adS p lau e R s m args below meth c Q n0 t0 nL pc' l' st' h') : sm_K s0 D adS p lau e R s m args below meth c Q n0 t0 nL pc l st h := by
  intro H locs ls cells slots hR hlo hL hc ht
  unfold am_ll at hs
  split at hs
  · cases hs
    exact lv_lor hx hb hdg (kk H locs ls cells slots hR hlo hL hc ht)
  · cases hs
theorem sk_idiv (hx : p.tables.exec = Jvm.exec) (hb : c.code = cc) {pc : Nat} {l : am_L} {st : List Value} {h : am_H} {pc' : Nat} {l' : am_L} {st' : List Value} {h' : am_H}  (hdg : decode cc pc = .ok (.idiv, 1)) (hs : am_iid pc l st h (fun x y => x / y) = some (pc', l', st', h')) (kk : sm_K s0 D adS p lau e R s m args below meth c Q n0 t0 nL pc' l' st' h') : sm_K s0 D adS p lau e R s m args below meth c Q n0 t0 nL pc l st h := by
  intro H locs ls cells slots hR hlo hL hc ht
  unfold am_iid at hs
  split at hs
  · split at hs
    · cases hs
    · rename_i hz
      cases hs
      exact lv_idiv hx hb hdg (of_decide_eq_false hz) (kk H locs ls cells slots hR hlo hL hc ht)
  · cases hs
theorem sk_irem (hx : p.tables.exec = Jvm.exec) (hb : c.code = cc) {pc : Nat} {l : am_L} {st : List Value} {h : am_H} {pc' : Nat} {l' : am_L} {st' : List Value} {h' : am_H}  (hdg : decode cc pc = .ok (.irem, 1)) (hs : am_iid pc l st h (fun x y => x - x / y * y) = some (pc', l', st', h')) (kk : sm_K s0 D adS p lau e R s m args below meth c Q n0 t0 nL pc' l' st' h') : sm_K s0 D adS p lau e R s m args below meth c Q n0 t0 nL pc l st h := by
  intro H locs ls cells slots hR hlo hL hc ht
  unfold am_iid at hs
  split at hs
  · split at hs
    · cases hs
    · rename_i hz
      cases hs
      exact lv_irem hx hb hdg (of_decide_eq_false hz) (kk H locs ls cells slots hR hlo hL hc ht)
  · cases hs
theorem sk_ldiv (hx : p.tables.exec = Jvm.exec) (hb : c.code = cc) {pc : Nat} {l : am_L} {st : List Value} {h : am_H} {pc' : Nat} {l' : am_L} {st' : List Value} {h' : am_H}  (hdg : decode cc pc = .ok (.ldiv, 1)) (hs : am_lld pc l st h (fun x y => x / y) = some (pc', l', st', h')) (kk : sm_K s0 D adS p lau e R s m args below meth c Q n0 t0 nL pc' l' st' h') : sm_K s0 D adS p lau e R s m args below meth c Q n0 t0 nL pc l st h := by
  intro H locs ls cells slots hR hlo hL hc ht
  unfold am_lld at hs
  split at hs
  · split at hs
    · cases hs
    · rename_i hz
      cases hs
      exact lv_ldiv hx hb hdg (of_decide_eq_false hz) (kk H locs ls cells slots hR hlo hL hc ht)
  · cases hs
theorem sk_lrem (hx : p.tables.exec = Jvm.exec) (hb : c.code = cc) {pc : Nat} {l : am_L} {st : List Value} {h : am_H} {pc' : Nat} {l' : am_L} {st' : List Value} {h' : am_H}  (hdg : decode cc pc = .ok (.lrem, 1)) (hs : am_lld pc l st h (fun x y => x - x / y * y) = some (pc', l', st', h')) (kk : sm_K s0 D adS p lau e R s m args below meth c Q n0 t0 nL pc' l' st' h') : sm_K s0 D adS p lau e R s m args below meth c Q n0 t0 nL pc l st h := by
  intro H locs ls cells slots hR hlo hL hc ht
  unfold am_lld at hs
  split at hs
  · split at hs
    · cases hs
    · rename_i hz
      cases hs
      exact lv_lrem hx hb hdg (of_decide_eq_false hz) (kk H locs ls cells slots hR hlo hL hc ht)
  · cases hs
theorem sk_lushr (hx : p.tables.exec = Jvm.exec) (hb : c.code = cc) {pc : Nat} {l : am_L} {st : List Value} {h : am_H} {pc' : Nat} {l' : am_L} {st' : List Value} {h' : am_H}  (hdg : decode cc pc = .ok (.lushr, 1)) (hs : am_li pc l st h (fun x y => (x.toUInt64 >>> (y.toInt64.toUInt64 &&& Int64.toUInt64 63)).toInt64) = some (pc', l', st', h')) (kk : sm_K s0 D adS p lau e R s m args below meth c Q n0 t0 nL pc' l' st' h') : sm_K s0 D adS p lau e R s m args below meth c Q n0 t0 nL pc l st h := by
  intro H locs ls cells slots hR hlo hL hc ht
  unfold am_li at hs
  split at hs
  · cases hs
    exact lv_lushr hx hb hdg rfl (kk H locs ls cells slots hR hlo hL hc ht)
  · cases hs
theorem sk_lshr (hx : p.tables.exec = Jvm.exec) (hb : c.code = cc) {pc : Nat} {l : am_L} {st : List Value} {h : am_H} {pc' : Nat} {l' : am_L} {st' : List Value} {h' : am_H}  (hdg : decode cc pc = .ok (.lshr, 1)) (hs : am_li pc l st h (fun x y => x >>> (y.toInt64 &&& 63)) = some (pc', l', st', h')) (kk : sm_K s0 D adS p lau e R s m args below meth c Q n0 t0 nL pc' l' st' h') : sm_K s0 D adS p lau e R s m args below meth c Q n0 t0 nL pc l st h := by
  intro H locs ls cells slots hR hlo hL hc ht
  unfold am_li at hs
  split at hs
  · cases hs
    exact lv_lshr hx hb hdg rfl (kk H locs ls cells slots hR hlo hL hc ht)
  · cases hs
theorem sk_dup2 (hx : p.tables.exec = Jvm.exec) (hb : c.code = cc) {pc : Nat} {l : am_L} {st : List Value} {h : am_H} {pc' : Nat} {l' : am_L} {st' : List Value} {h' : am_H}  (hdg : decode cc pc = .ok (.dup2, 1)) (hs : (match st with
    | .int x :: .ref a :: r => some (pc + 1, l, .int x :: .ref a :: .int x :: .ref a :: r, h)
    | _ => none : Option am_S) = some (pc', l', st', h')) (kk : sm_K s0 D adS p lau e R s m args below meth c Q n0 t0 nL pc' l' st' h') : sm_K s0 D adS p lau e R s m args below meth c Q n0 t0 nL pc l st h := by
  intro H locs ls cells slots hR hlo hL hc ht
  split at hs
  · cases hs
    exact lv_dup2_11 hx hb hdg rfl rfl (kk H locs ls cells slots hR hlo hL hc ht)
  · cases hs
theorem sk_lshl (hx : p.tables.exec = Jvm.exec) (hb : c.code = cc) {pc : Nat} {l : am_L} {st : List Value} {h : am_H} {pc' : Nat} {l' : am_L} {st' : List Value} {h' : am_H}  (hdg : decode cc pc = .ok (.lshl, 1)) (hs : am_li pc l st h (fun x y => x <<< (y.toInt64 &&& 63)) = some (pc', l', st', h')) (kk : sm_K s0 D adS p lau e R s m args below meth c Q n0 t0 nL pc' l' st' h') : sm_K s0 D adS p lau e R s m args below meth c Q n0 t0 nL pc l st h := by
  intro H locs ls cells slots hR hlo hL hc ht
  unfold am_li at hs
  split at hs
  · cases hs
    exact lv_lshl hx hb hdg rfl (kk H locs ls cells slots hR hlo hL hc ht)
  · cases hs
theorem sk_lcmp (hx : p.tables.exec = Jvm.exec) (hb : c.code = cc) {pc : Nat} {l : am_L} {st : List Value} {h : am_H} {pc' : Nat} {l' : am_L} {st' : List Value} {h' : am_H}  (hdg : decode cc pc = .ok (.lcmp, 1)) (hs : (match st with
    | .long y :: .long x :: r => some (pc + 1, l, .int (lg_cmp x y) :: r, h)
    | _ => none : Option am_S) = some (pc', l', st', h')) (kk : sm_K s0 D adS p lau e R s m args below meth c Q n0 t0 nL pc' l' st' h') : sm_K s0 D adS p lau e R s m args below meth c Q n0 t0 nL pc l st h := by
  intro H locs ls cells slots hR hlo hL hc ht
  split at hs
  · cases hs
    exact W.lcmp hx hb hdg (kk H locs ls cells slots hR hlo hL hc ht)
  · cases hs
theorem sk_i2l (hx : p.tables.exec = Jvm.exec) (hb : c.code = cc) {pc : Nat} {l : am_L} {st : List Value} {h : am_H} {pc' : Nat} {l' : am_L} {st' : List Value} {h' : am_H}  (hdg : decode cc pc = .ok (.i2l, 1)) (hs : (match st with
    | .int x :: r => some (pc + 1, l, .long x.toInt64 :: r, h)
    | _ => none : Option am_S) = some (pc', l', st', h')) (kk : sm_K s0 D adS p lau e R s m args below meth c Q n0 t0 nL pc' l' st' h') : sm_K s0 D adS p lau e R s m args below meth c Q n0 t0 nL pc l st h := by
  intro H locs ls cells slots hR hlo hL hc ht
  split at hs
  · cases hs
    exact lv_i2l hx hb hdg rfl (kk H locs ls cells slots hR hlo hL hc ht)
  · cases hs
theorem sk_l2i (hx : p.tables.exec = Jvm.exec) (hb : c.code = cc) {pc : Nat} {l : am_L} {st : List Value} {h : am_H} {pc' : Nat} {l' : am_L} {st' : List Value} {h' : am_H}  (hdg : decode cc pc = .ok (.l2i, 1)) (hs : (match st with
    | .long x :: r => some (pc + 1, l, .int x.toInt32 :: r, h)
    | _ => none : Option am_S) = some (pc', l', st', h')) (kk : sm_K s0 D adS p lau e R s m args below meth c Q n0 t0 nL pc' l' st' h') : sm_K s0 D adS p lau e R s m args below meth c Q n0 t0 nL pc l st h := by
  intro H locs ls cells slots hR hlo hL hc ht
  split at hs
  · cases hs
    exact lv_l2i hx hb hdg rfl (kk H locs ls cells slots hR hlo hL hc ht)
  · cases hs
theorem sk_i2c (hx : p.tables.exec = Jvm.exec) (hb : c.code = cc) {pc : Nat} {l : am_L} {st : List Value} {h : am_H} {pc' : Nat} {l' : am_L} {st' : List Value} {h' : am_H}  (hdg : decode cc pc = .ok (.i2c, 1)) (hs : (match st with
    | .int x :: r => some (pc + 1, l, .int (x.toUInt32 % 65536).toInt32 :: r, h)
    | _ => none : Option am_S) = some (pc', l', st', h')) (kk : sm_K s0 D adS p lau e R s m args below meth c Q n0 t0 nL pc' l' st' h') : sm_K s0 D adS p lau e R s m args below meth c Q n0 t0 nL pc l st h := by
  intro H locs ls cells slots hR hlo hL hc ht
  split at hs
  · cases hs
    exact lv_i2c hx hb hdg rfl (kk H locs ls cells slots hR hlo hL hc ht)
  · cases hs
theorem sk_dup (hx : p.tables.exec = Jvm.exec) (hb : c.code = cc) {pc : Nat} {l : am_L} {st : List Value} {h : am_H} {pc' : Nat} {l' : am_L} {st' : List Value} {h' : am_H}  (hdg : decode cc pc = .ok (.dup, 1)) (hs : (match st with
    | .int x :: r => some (pc + 1, l, .int x :: .int x :: r, h)
    | .ref x :: r => some (pc + 1, l, .ref x :: .ref x :: r, h)
    | _ => none : Option am_S) = some (pc', l', st', h')) (kk : sm_K s0 D adS p lau e R s m args below meth c Q n0 t0 nL pc' l' st' h') : sm_K s0 D adS p lau e R s m args below meth c Q n0 t0 nL pc l st h := by
  intro H locs ls cells slots hR hlo hL hc ht
  split at hs
  · cases hs
    exact lv_dup hx hb hdg rfl (kk H locs ls cells slots hR hlo hL hc ht)
  · cases hs
    exact lv_dup hx hb hdg rfl (kk H locs ls cells slots hR hlo hL hc ht)
  · cases hs
theorem sk_pop (hx : p.tables.exec = Jvm.exec) (hb : c.code = cc) {pc : Nat} {l : am_L} {st : List Value} {h : am_H} {pc' : Nat} {l' : am_L} {st' : List Value} {h' : am_H}  (hdg : decode cc pc = .ok (.pop, 1)) (hs : (match st with
    | .int _ :: r => some (pc + 1, l, r, h)
    | .ref _ :: r => some (pc + 1, l, r, h)
    | _ => none : Option am_S) = some (pc', l', st', h')) (kk : sm_K s0 D adS p lau e R s m args below meth c Q n0 t0 nL pc' l' st' h') : sm_K s0 D adS p lau e R s m args below meth c Q n0 t0 nL pc l st h := by
  intro H locs ls cells slots hR hlo hL hc ht
  split at hs
  · rename_i x r
    cases hs
    exact lv_pop (va := .int x) hx hb hdg rfl (kk H locs ls cells slots hR hlo hL hc ht)
  · rename_i x r
    cases hs
    exact lv_pop (va := .ref (sm_g s0 adS x)) hx hb hdg rfl (kk H locs ls cells slots hR hlo hL hc ht)
  · cases hs
theorem sm_tg {pc : Nat} {off : Int} (h : 0 ≤ (pc : Int) + off) : (pc : Int) + off = ((am_tg pc off : Nat) : Int) := by
  unfold am_tg
  omega
theorem sm_br {P : Nat → Prop} {b : Bool} {x y : Nat} (k : P (if b = true then x else y)) : (b = true → P x) ∧ (b = false → P y) := by
  cases b
  · exact ⟨fun h => (by cases h), fun _ => k⟩
  · exact ⟨fun _ => k, fun h => (by cases h)⟩
theorem sk_ifCond (hx : p.tables.exec = Jvm.exec) (hb : c.code = cc) {pc : Nat} {l : am_L} {st : List Value} {h : am_H} {pc' : Nat} {l' : am_L} {st' : List Value} {h' : am_H} {cnd : ClassFile.Cond} {off : Int} (hof : 0 ≤ (pc : Int) + off) (hdg : decode cc pc = .ok (.ifCond cnd off, 3)) (hs : (match st with
    | .int x :: r => some (if am_cmp cnd x 0 = true then am_tg pc off else pc + 3, l, r, h)
    | _ => none : Option am_S) = some (pc', l', st', h')) (kk : sm_K s0 D adS p lau e R s m args below meth c Q n0 t0 nL pc' l' st' h') : sm_K s0 D adS p lau e R s m args below meth c Q n0 t0 nL pc l st h := by
  intro H locs ls cells slots hR hlo hL hc ht
  split at hs
  · rename_i x r
    cases hs
    have k1 := kk H locs ls cells slots hR hlo hL hc ht
    have k2 := sm_br (P := fun z => W p lau e R s m args below meth c H locs cells slots Q (F0 m z ls (st'.map (sm_v (sm_g s0 adS))))) k1
    cases cnd
    · exact lv_if_eq hx hb hdg (sm_tg hof) (fun z => k2.1 (decide_eq_true z)) (fun z => k2.2 (decide_eq_false z))
    · exact lv_if_ne hx hb hdg (sm_tg hof) (fun z => k2.1 (decide_eq_true z)) (fun z => k2.2 (decide_eq_false (fun w => w z)))
    · exact lv_if_lt hx hb hdg (sm_tg hof) (fun z => k2.1 (decide_eq_true z)) (fun z => k2.2 (decide_eq_false z))
    · exact lv_if_ge hx hb hdg (sm_tg hof) (fun z => k2.1 (decide_eq_true z)) (fun z => k2.2 (decide_eq_false z))
    · exact lv_if_gt hx hb hdg (sm_tg hof) (fun z => k2.1 (decide_eq_true z)) (fun z => k2.2 (decide_eq_false z))
    · exact lv_if_le hx hb hdg (sm_tg hof) (fun z => k2.1 (decide_eq_true z)) (fun z => k2.2 (decide_eq_false z))
  · cases hs
theorem sk_if_icmp (hx : p.tables.exec = Jvm.exec) (hb : c.code = cc) {pc : Nat} {l : am_L} {st : List Value} {h : am_H} {pc' : Nat} {l' : am_L} {st' : List Value} {h' : am_H} {cnd : ClassFile.Cond} {off : Int} (hof : 0 ≤ (pc : Int) + off) (hdg : decode cc pc = .ok (.if_icmp cnd off, 3)) (hs : (match st with
    | .int y :: .int x :: r => some (if am_cmp cnd x y = true then am_tg pc off else pc + 3, l, r, h)
    | _ => none : Option am_S) = some (pc', l', st', h')) (kk : sm_K s0 D adS p lau e R s m args below meth c Q n0 t0 nL pc' l' st' h') : sm_K s0 D adS p lau e R s m args below meth c Q n0 t0 nL pc l st h := by
  intro H locs ls cells slots hR hlo hL hc ht
  split at hs
  · rename_i y x r
    cases hs
    have k1 := kk H locs ls cells slots hR hlo hL hc ht
    have k2 := sm_br (P := fun z => W p lau e R s m args below meth c H locs cells slots Q (F0 m z ls (st'.map (sm_v (sm_g s0 adS))))) k1
    cases cnd
    · exact lv_icmp_eq hx hb hdg (sm_tg hof) (fun z => k2.1 (decide_eq_true z)) (fun z => k2.2 (decide_eq_false z))
    · exact lv_icmp_ne hx hb hdg (sm_tg hof) (fun z => k2.1 (decide_eq_true z)) (fun z => k2.2 (decide_eq_false (fun w => w z)))
    · exact lv_icmp_lt hx hb hdg (sm_tg hof) (fun z => k2.1 (decide_eq_true z)) (fun z => k2.2 (decide_eq_false z))
    · exact lv_icmp_ge hx hb hdg (sm_tg hof) (fun z => k2.1 (decide_eq_true z)) (fun z => k2.2 (decide_eq_false z))
    · exact lv_icmp_gt hx hb hdg (sm_tg hof) (fun z => k2.1 (decide_eq_true z)) (fun z => k2.2 (decide_eq_false z))
    · exact lv_icmp_le hx hb hdg (sm_tg hof) (fun z => k2.1 (decide_eq_true z)) (fun z => k2.2 (decide_eq_false z))
  · cases hs
theorem sk_goto (hx : p.tables.exec = Jvm.exec) (hb : c.code = cc) {pc : Nat} {l : am_L} {st : List Value} {h : am_H} {pc' : Nat} {l' : am_L} {st' : List Value} {h' : am_H} {off : Int} (hof : 0 ≤ (pc : Int) + off) (hdg : decode cc pc = .ok (.goto off, 3)) (hs : (some (am_tg pc off, l, st, h) : Option am_S) = some (pc', l', st', h')) (kk : sm_K s0 D adS p lau e R s m args below meth c Q n0 t0 nL pc' l' st' h') : sm_K s0 D adS p lau e R s m args below meth c Q n0 t0 nL pc l st h := by
  intro H locs ls cells slots hR hlo hL hc ht
  cases hs
  exact lv_goto hx hb hdg (sm_tg hof) (kk H locs ls cells slots hR hlo hL hc ht)
theorem sk_tableswitch (hx : p.tables.exec = Jvm.exec) (hb : c.code = cc) {pc : Nat} {l : am_L} {st : List Value} {h : am_H} {pc' : Nat} {l' : am_L} {st' : List Value} {h' : am_H} {df lo hi : Int} {offs : Array Int} {len : Nat} (hof : 0 ≤ (pc : Int) + df) (hz : (offs.size : Int) = hi - lo + 1) (ho : ∀ o ∈ offs.toList, 0 ≤ (pc : Int) + o) (hdg : decode cc pc = .ok (.tableswitch df lo hi offs, len)) (hs : (match st with
    | .int x :: r => some (if x.toInt < lo ∨ hi < x.toInt then am_tg pc df else am_tg pc (offs.getD (x.toInt - lo).toNat 0), l, r, h)
    | _ => none : Option am_S) = some (pc', l', st', h')) (kk : sm_K s0 D adS p lau e R s m args below meth c Q n0 t0 nL pc' l' st' h') : sm_K s0 D adS p lau e R s m args below meth c Q n0 t0 nL pc l st h := by
  intro H locs ls cells slots hR hlo hL hc ht
  split at hs
  · rename_i x r
    cases hs
    have k1 := kk H locs ls cells slots hR hlo hL hc ht
    by_cases hx1 : x.toInt < lo ∨ hi < x.toInt
    · rw [if_pos hx1] at k1
      exact lv_tableOut hx hb hdg hx1 (sm_tg hof) k1
    · rw [if_neg hx1] at k1
      have h1 : ¬ x.toInt < lo := fun q => hx1 (Or.inl q)
      have h2 : ¬ hi < x.toInt := fun q => hx1 (Or.inr q)
      have h3 : (x.toInt - lo).toNat < offs.size := by omega
      have h4 : offs[(x.toInt - lo).toNat]? = some (offs[(x.toInt - lo).toNat]) := Array.getElem?_eq_getElem h3
      have h5 : offs.getD (x.toInt - lo).toNat 0 = offs[(x.toInt - lo).toNat] := by
        rw [Array.getD_eq_getD_getElem?, h4]; rfl
      rw [h5] at k1
      exact lv_tableIn hx hb hdg h1 h2 h4 (sm_tg (ho _ (by simp))) k1
  · cases hs
theorem sm_lk {pc : Nat} {df k : Int} : ∀ (ps : List (Int × Int)), 0 ≤ (pc : Int) + df → (∀ o ∈ ps, 0 ≤ (pc : Int) + o.2) → 0 ≤ (pc : Int) + Op.lookupswitch.offset ps df k
  | [], h, _ => h
  | (a, o) :: r, h, g => by
    rw [Op.lookupswitch.offset_cons]
    split
    · exact g (a, o) List.mem_cons_self
    · exact sm_lk r h (fun o ho => g o (List.mem_cons_of_mem _ ho))
theorem sk_lookupswitch (hx : p.tables.exec = Jvm.exec) (hb : c.code = cc) {pc : Nat} {l : am_L} {st : List Value} {h : am_H} {pc' : Nat} {l' : am_L} {st' : List Value} {h' : am_H} {df : Int} {ps : Array (Int × Int)} {len : Nat} (hof : 0 ≤ (pc : Int) + df) (ho : ∀ o ∈ ps.toList, 0 ≤ (pc : Int) + o.2) (hp : (ps.toList.zip (ps.toList.drop 1)).all (fun (a, next) => a.1 < next.1) = true) (hdg : decode cc pc = .ok (.lookupswitch df ps, len)) (hs : (match st with
    | .int x :: r => some (am_tg pc (Op.lookupswitch.offset ps.toList df x.toInt), l, r, h)
    | _ => none : Option am_S) = some (pc', l', st', h')) (kk : sm_K s0 D adS p lau e R s m args below meth c Q n0 t0 nL pc' l' st' h') : sm_K s0 D adS p lau e R s m args below meth c Q n0 t0 nL pc l st h := by
  intro H locs ls cells slots hR hlo hL hc ht
  split at hs
  · cases hs
    exact lv_lookup hx hb hdg hp rfl (sm_tg (sm_lk _ hof ho)) (kk H locs ls cells slots hR hlo hL hc ht)
  · cases hs
theorem sm_in {j : Int32} {n : Nat} (h : decide (0 ≤ j.toInt ∧ j.toInt < n) = true) : ¬ (j < 0 ∨ n ≤ j.toNatClampNeg) := by
  have h1 := of_decide_eq_true h
  have e : j.toNatClampNeg = j.toInt.toNat := rfl
  rintro (q | q)
  · have := Int32.lt_iff_toInt_lt.mp q
    simp at this
    omega
  · omega
theorem sm_arr {h : am_H} {H : Heap} {a tag n : Nat} {ty : FieldType} (hR : sm_HR s0 D adS h H) (ha : h.1[a]? = some (tag, n)) (h1 : 100 ≤ tag) (h2 : tag < 900) (hty : am_aty tag = some ty) : H[sm_g s0 adS a]? = some (arrV (sm_cA s0 ty) n (fun j => sm_v (sm_g s0 adS) (am_rd ty h a j))) ∧ ArrOfT s0 (sm_cA s0 ty) ty ∧ va_RA s0 (sm_cA s0 ty) ty ∧ (∀ j, fits ty (am_rd ty h a j) = true) ∧ n < 2 ^ 31 := (hR.2.2.2.2 a tag n ha).2.1 ty h1 h2 hty
theorem sk_iaload (hx : p.tables.exec = Jvm.exec) (hb : c.code = cc) {pc : Nat} {l : am_L} {h : am_H} (hal : s0.vm.Alike s.vm) {a n : Nat} {j : Int32} {r : List Value} (ha : h.1[a]? = some (100, n)) (hj : decide (0 ≤ j.toInt ∧ j.toInt < n) = true) (hdg : decode cc pc = .ok (.iaload, 1)) (kk : sm_K s0 D adS p lau e R s m args below meth c Q n0 t0 nL (pc + 1) l (am_rd .int h a j.toNatClampNeg :: r) h) : sm_K s0 D adS p lau e R s m args below meth c Q n0 t0 nL pc l (.int j :: .ref a :: r) h := by
  intro H locs ls cells slots hR hlo hL hc ht
  obtain ⟨h1, h2, -, -, -⟩ := sm_arr hR ha (by decide) (by decide) (rfl : am_aty 100 = some .int)
  have hin := sm_in hj
  have hlt : j.toNatClampNeg < n := Nat.not_le.mp fun q => hin (Or.inr q)
  exact W.iald (v := sm_v (sm_g s0 adS) (am_rd .int h a j.toNatClampNeg)) hx hb h1 (arrOfT_moved hal h2 n _) (fun q => by cases q) (by rw [arrV_size]; exact hin) (by rw [arrV_read _ _ hlt]) rfl rfl hdg (kk H locs ls cells slots hR hlo hL hc ht)
theorem sk_laload (hx : p.tables.exec = Jvm.exec) (hb : c.code = cc) {pc : Nat} {l : am_L} {h : am_H} (hal : s0.vm.Alike s.vm) {a n : Nat} {j : Int32} {r : List Value} (ha : h.1[a]? = some (101, n)) (hj : decide (0 ≤ j.toInt ∧ j.toInt < n) = true) (hdg : decode cc pc = .ok (.laload, 1)) (kk : sm_K s0 D adS p lau e R s m args below meth c Q n0 t0 nL (pc + 1) l (am_rd .long h a j.toNatClampNeg :: r) h) : sm_K s0 D adS p lau e R s m args below meth c Q n0 t0 nL pc l (.int j :: .ref a :: r) h := by
  intro H locs ls cells slots hR hlo hL hc ht
  obtain ⟨h1, h2, -, -, -⟩ := sm_arr hR ha (by decide) (by decide) (rfl : am_aty 101 = some .long)
  have hin := sm_in hj
  have hlt : j.toNatClampNeg < n := Nat.not_le.mp fun q => hin (Or.inr q)
  exact W.lald (v := sm_v (sm_g s0 adS) (am_rd .long h a j.toNatClampNeg)) hx hb h1 (arrOfT_moved hal h2 n _) (fun q => by cases q) (by rw [arrV_size]; exact hin) (by rw [arrV_read _ _ hlt]) rfl rfl hdg (kk H locs ls cells slots hR hlo hL hc ht)
theorem sk_caload (hx : p.tables.exec = Jvm.exec) (hb : c.code = cc) {pc : Nat} {l : am_L} {h : am_H} (hal : s0.vm.Alike s.vm) {a n : Nat} {j : Int32} {r : List Value} (ha : h.1[a]? = some (102, n)) (hj : decide (0 ≤ j.toInt ∧ j.toInt < n) = true) (hdg : decode cc pc = .ok (.caload, 1)) (kk : sm_K s0 D adS p lau e R s m args below meth c Q n0 t0 nL (pc + 1) l (am_rd .char h a j.toNatClampNeg :: r) h) : sm_K s0 D adS p lau e R s m args below meth c Q n0 t0 nL pc l (.int j :: .ref a :: r) h := by
  intro H locs ls cells slots hR hlo hL hc ht
  obtain ⟨h1, h2, -, -, -⟩ := sm_arr hR ha (by decide) (by decide) (rfl : am_aty 102 = some .char)
  have hin := sm_in hj
  have hlt : j.toNatClampNeg < n := Nat.not_le.mp fun q => hin (Or.inr q)
  exact W.cald (v := sm_v (sm_g s0 adS) (am_rd .char h a j.toNatClampNeg)) hx hb h1 (arrOfT_moved hal h2 n _) (fun q => by cases q) (by rw [arrV_size]; exact hin) (by rw [arrV_read _ _ hlt]) rfl rfl hdg (kk H locs ls cells slots hR hlo hL hc ht)
theorem sk_baload (hx : p.tables.exec = Jvm.exec) (hb : c.code = cc) {pc : Nat} {l : am_L} {h : am_H} (hal : s0.vm.Alike s.vm) {a n : Nat} {j : Int32} {r : List Value} (ha : h.1[a]? = some (103, n)) (hj : decide (0 ≤ j.toInt ∧ j.toInt < n) = true) (hdg : decode cc pc = .ok (.baload, 1)) (kk : sm_K s0 D adS p lau e R s m args below meth c Q n0 t0 nL (pc + 1) l (am_rd .boolean h a j.toNatClampNeg :: r) h) : sm_K s0 D adS p lau e R s m args below meth c Q n0 t0 nL pc l (.int j :: .ref a :: r) h := by
  intro H locs ls cells slots hR hlo hL hc ht
  obtain ⟨h1, h2, -, -, -⟩ := sm_arr hR ha (by decide) (by decide) (rfl : am_aty 103 = some .boolean)
  have hin := sm_in hj
  have hlt : j.toNatClampNeg < n := Nat.not_le.mp fun q => hin (Or.inr q)
  exact W.zald (v := sm_v (sm_g s0 adS) (am_rd .boolean h a j.toNatClampNeg)) hx hb h1 (arrOfT_moved hal h2 n _) (fun q => by cases q) (by rw [arrV_size]; exact hin) (by rw [arrV_read _ _ hlt]) rfl rfl hdg (kk H locs ls cells slots hR hlo hL hc ht)
theorem sk_script (hx : p.tables.exec = Jvm.exec) (hb : c.code = cc) {pc : Nat} {l : am_L} {h : am_H} (hal : s0.vm.Alike s.vm) {a n : Nat} {j : Int32} {r : List Value} (ha : h.1[a]? = some (900, n)) (hj : decide (0 ≤ j.toInt ∧ j.toInt < n) = true) (hdg : decode cc pc = .ok (.iaload, 1)) (kk : sm_K s0 D adS p lau e R s m args below meth c Q n0 t0 nL (pc + 1) l (.int (h.2.1 a j.toNatClampNeg) :: r) h) : sm_K s0 D adS p lau e R s m args below meth c Q n0 t0 nL pc l (.int j :: .ref a :: r) h := by
  intro H locs ls cells slots hR hlo hL hc ht
  obtain ⟨scr, h1, h2, h3, h4, h5⟩ := (hR.2.2.2.2 a 900 n ha).2.2.1 rfl
  have h1 := (hR.2.2.1 _ (Array.getElem?_eq_some_iff.mp h1).1).trans h1
  have hin := sm_in hj
  have hlt : j.toNatClampNeg < n := Nat.not_le.mp fun q => hin (Or.inr q)
  exact W.iald (v := .int (h.2.1 a j.toNatClampNeg)) hx hb h1 (State.isArrayOf_alike hal h2) h3 (by rw [h4]; exact hin) (h5 _ hlt) rfl rfl hdg (kk H locs ls cells slots hR hlo hL hc ht)
theorem sk_strb (hx : p.tables.exec = Jvm.exec) (hb : c.code = cc) {pc : Nat} {l : am_L} {h : am_H} (hal : s0.vm.Alike s.vm) {a n : Nat} {j : Int32} {r : List Value} (ha : h.1[a]? = some (902, n)) (hj : decide (0 ≤ j.toInt ∧ j.toInt < n) = true) (hdg : decode cc pc = .ok (.baload, 1)) (kk : sm_K s0 D adS p lau e R s m args below meth c Q n0 t0 nL (pc + 1) l (.int (h.2.1 a j.toNatClampNeg) :: r) h) : sm_K s0 D adS p lau e R s m args below meth c Q n0 t0 nL pc l (.int j :: .ref a :: r) h := by
  intro H locs ls cells slots hR hlo hL hc ht
  obtain ⟨cell, h1, h2, h3, h4, -, h5, -⟩ := (hR.2.2.2.2 a 902 n ha).2.2.2.2 rfl
  have h1 := (hR.2.2.1 _ (Array.getElem?_eq_some_iff.mp h1).1).trans h1
  have hin := sm_in hj
  have hlt : j.toNatClampNeg < n := Nat.not_le.mp fun q => hin (Or.inr q)
  exact W.bald (v := .int (h.2.1 a j.toNatClampNeg)) hx hb h1 (State.isArrayOf_alike hal h2) h3 (fun q => hin (q.imp id (fun z => Nat.le_trans h4 z))) (h5 _ hlt) rfl rfl hdg (kk H locs ls cells slots hR hlo hL hc ht)
theorem sk_aaload (hx : p.tables.exec = Jvm.exec) (hb : c.code = cc) {pc : Nat} {l : am_L} {h : am_H} (hal : s0.vm.Alike s.vm) {a n tag : Nat} {C : String} {j : Int32} {r : List Value} (ha : h.1[a]? = some (tag, n)) (h401 : 401 ≤ tag) (h900 : tag < 900) (hty : am_aty tag = some (.object C)) (hj : decide (0 ≤ j.toInt ∧ j.toInt < n) = true) (hdg : decode cc pc = .ok (.aaload, 1)) (kk : sm_K s0 D adS p lau e R s m args below meth c Q n0 t0 nL (pc + 1) l (am_rd (.object C) h a j.toNatClampNeg :: r) h) : sm_K s0 D adS p lau e R s m args below meth c Q n0 t0 nL pc l (.int j :: .ref a :: r) h := by
  intro H locs ls cells slots hR hlo hL hc ht
  obtain ⟨h1, h2, -, -, -⟩ := sm_arr hR ha (by omega) h900 hty
  have hin := sm_in hj
  have hlt : j.toNatClampNeg < n := Nat.not_le.mp fun q => hin (Or.inr q)
  exact W.aald (v := sm_v (sm_g s0 adS) (am_rd (.object C) h a j.toNatClampNeg)) (ty := .object C) hx hb h1 (arrOfT_moved hal h2 n _) rfl (fun q => by cases q) (by rw [arrV_size]; exact hin) (by rw [arrV_read _ _ hlt]) rfl rfl hdg (kk H locs ls cells slots hR hlo hL hc ht)
theorem sm_loc {locs : List Loc} {a k : Nat} (h : ∀ q ∈ locs, s0.heap.size ≤ q.base) (ha : s0.heap.size ≤ a) : ∀ q ∈ locs ++ [(⟨a, k⟩ : Loc)], s0.heap.size ≤ q.base := by
  intro q hq
  rcases List.mem_append.mp hq with z | z
  · exact h q z
  · rw [List.mem_singleton.mp z]; exact ha
theorem sm_ge {a : Nat} (h : 16 ≤ a) : s0.heap.size ≤ sm_g s0 adS a := by rw [sm_g_hi h]; omega
/-- an array's cell gets a new content -/
theorem sm_HR.arr {h h' : am_H} {H H' : Heap} (hR : sm_HR s0 D adS h H) {a tag n k : Nat} {ty : FieldType} {x : Value} (ha : h.1[a]? = some (tag, n)) (h1 : 100 ≤ tag) (h2 : tag < 900) (hty : am_aty tag = some ty) (hsh : h'.1 = h.1)
    (e1 : ∀ i k, i ≠ a → h'.2.1 i k = h.2.1 i k) (e2 : ∀ i k, i ≠ a → h'.2.2.1 i k = h.2.2.1 i k) (e3 : ∀ i k, i ≠ a → h'.2.2.2 i k = h.2.2.2 i k) (hnew : ∀ j, am_rd ty h' a j = updV (fun j => am_rd ty h a j) k x j) (hfit : fits ty x = true)
    (hz : H'.size = H.size) (hoq : ∀ q : Nat, q ≠ sm_g s0 adS a → H'[q]? = H[q]?) (hc : H'[sm_g s0 adS a]? = some ((arrV (sm_cA s0 ty) n (fun j => sm_v (sm_g s0 adS) (am_rd ty h a j))).setSlot k (sm_v (sm_g s0 adS) x))) : sm_HR s0 D adS h' H' := by
  have ha16 := hR.big ha h2
  obtain ⟨q1, q2, q3, q4, q5⟩ := sm_arr hR ha h1 h2 hty
  refine hR.put ha16 hsh hz hoq e1 e2 e3 (fun tag' len' he => ?_)
  rw [ha] at he
  cases he
  refine ⟨fun z => by omega, fun ty' z1 z2 z3 => ?_, fun z => by omega, fun z => by omega, fun z => by omega⟩
  rw [hty] at z3
  cases z3
  refine ⟨?_, q2, q3, fun j => ?_, q5⟩
  · rw [hc, arrV_store]
    congr 2
    funext j
    rw [hnew j]
    unfold updV
    split <;> rfl
  · rw [hnew j]
    unfold updV
    split
    · exact hfit
    · exact q4 j
theorem sk_iastore (hx : p.tables.exec = Jvm.exec) (hb : c.code = cc) {pc : Nat} {l : am_L} {h : am_H} (hal : s0.vm.Alike s.vm) {a n : Nat} {j x : Int32} {r : List Value} (ha : h.1[a]? = some (100, n)) (hj : decide (0 ≤ j.toInt ∧ j.toInt < n) = true) (hdg : decode cc pc = .ok (.iastore, 1)) (kk : sm_K s0 D adS p lau e R s m args below meth c Q n0 t0 nL (pc + 1) l r (h.1, up2 h.2.1 a j.toNatClampNeg (am_nar .int x), h.2.2.1, h.2.2.2)) : sm_K s0 D adS p lau e R s m args below meth c Q n0 t0 nL pc l (.int x :: .int j :: .ref a :: r) h := by
  intro H locs ls cells slots hR hlo hL hc ht
  obtain ⟨h1, h2, -, -, -⟩ := sm_arr hR ha (by decide) (by decide) (rfl : am_aty 100 = some .int)
  have hin := sm_in hj
  have ha16 := hR.big ha (by decide)
  refine W.iast hx hb h1 (arrOfT_moved hal h2 n _) (fun q => by cases q) (by rw [arrV_size]; exact hin) rfl rfl hdg (fun H' e1 e2 e3 => ?_)
  refine kk H' _ ls cells slots (hR.arr (x := .int (am_nar .int x)) (k := j.toNatClampNeg) ha (by decide) (by decide) (rfl : am_aty 100 = some .int) rfl (fun i k hi => up2_row _ _ hi) (fun _ _ _ => rfl) (fun _ _ _ => rfl) (fun z => ?_) (rfl) e2 e3 e1) (sm_loc hlo (sm_ge ha16)) hL hc ht
  by_cases hz : z = j.toNatClampNeg
  · subst hz; simp [am_rd, updV, up2]
  · simp [am_rd, updV, up2, hz]
theorem sm_fitC (x : Int32) : fits .char (.int x.toUInt32.toUInt16.toUInt32.toInt32) = true := by
  have := pk_fc x
  have e : x.toUInt32.toUInt16.toUInt32.toInt32 = (x.toUInt32 % 65536).toInt32 := by
    congr 1
  rw [e]; exact this
theorem sk_castore (hx : p.tables.exec = Jvm.exec) (hb : c.code = cc) {pc : Nat} {l : am_L} {h : am_H} (hal : s0.vm.Alike s.vm) {a n : Nat} {j x : Int32} {r : List Value} (ha : h.1[a]? = some (102, n)) (hj : decide (0 ≤ j.toInt ∧ j.toInt < n) = true) (hdg : decode cc pc = .ok (.castore, 1)) (kk : sm_K s0 D adS p lau e R s m args below meth c Q n0 t0 nL (pc + 1) l r (h.1, up2 h.2.1 a j.toNatClampNeg (am_nar .char x), h.2.2.1, h.2.2.2)) : sm_K s0 D adS p lau e R s m args below meth c Q n0 t0 nL pc l (.int x :: .int j :: .ref a :: r) h := by
  intro H locs ls cells slots hR hlo hL hc ht
  obtain ⟨h1, h2, -, -, -⟩ := sm_arr hR ha (by decide) (by decide) (rfl : am_aty 102 = some .char)
  have hin := sm_in hj
  have ha16 := hR.big ha (by decide)
  refine W.cast hx hb h1 (arrOfT_moved hal h2 n _) (fun q => by cases q) (by rw [arrV_size]; exact hin) rfl rfl hdg (fun H' e1 e2 e3 => ?_)
  refine kk H' _ ls cells slots (hR.arr (x := .int (am_nar .char x)) (k := j.toNatClampNeg) ha (by decide) (by decide) (rfl : am_aty 102 = some .char) rfl (fun i k hi => up2_row _ _ hi) (fun _ _ _ => rfl) (fun _ _ _ => rfl) (fun z => ?_) (sm_fitC x) e2 e3 e1) (sm_loc hlo (sm_ge ha16)) hL hc ht
  by_cases hz : z = j.toNatClampNeg
  · subst hz; simp [am_rd, updV, up2]
  · simp [am_rd, updV, up2, hz]
theorem sm_fitZ (x : Int32) : fits .boolean (.int (x &&& 1)) = true := by
  obtain ⟨j, hj, e⟩ := pk_andE x (m := 1) 1 (by decide)
  rw [e]
  have : j = 0 ∨ j = 1 := by omega
  rcases this with rfl | rfl <;> decide
theorem sk_bastore (hx : p.tables.exec = Jvm.exec) (hb : c.code = cc) {pc : Nat} {l : am_L} {h : am_H} (hal : s0.vm.Alike s.vm) {a n : Nat} {j x : Int32} {r : List Value} (ha : h.1[a]? = some (103, n)) (hj : decide (0 ≤ j.toInt ∧ j.toInt < n) = true) (hdg : decode cc pc = .ok (.bastore, 1)) (kk : sm_K s0 D adS p lau e R s m args below meth c Q n0 t0 nL (pc + 1) l r (h.1, up2 h.2.1 a j.toNatClampNeg (am_nar .boolean x), h.2.2.1, h.2.2.2)) : sm_K s0 D adS p lau e R s m args below meth c Q n0 t0 nL pc l (.int x :: .int j :: .ref a :: r) h := by
  intro H locs ls cells slots hR hlo hL hc ht
  obtain ⟨h1, h2, -, -, -⟩ := sm_arr hR ha (by decide) (by decide) (rfl : am_aty 103 = some .boolean)
  have hin := sm_in hj
  have ha16 := hR.big ha (by decide)
  refine W.zast hx hb h1 (arrOfT_moved hal h2 n _) (fun q => by cases q) (by rw [arrV_size]; exact hin) rfl rfl hdg (fun H' e1 e2 e3 => ?_)
  refine kk H' _ ls cells slots (hR.arr (x := .int (am_nar .boolean x)) (k := j.toNatClampNeg) ha (by decide) (by decide) (rfl : am_aty 103 = some .boolean) rfl (fun i k hi => up2_row _ _ hi) (fun _ _ _ => rfl) (fun _ _ _ => rfl) (fun z => ?_) (sm_fitZ x) e2 e3 e1) (sm_loc hlo (sm_ge ha16)) hL hc ht
  by_cases hz : z = j.toNatClampNeg
  · subst hz; simp [am_rd, updV, up2]
  · simp [am_rd, updV, up2, hz]
theorem sk_lastore (hx : p.tables.exec = Jvm.exec) (hb : c.code = cc) {pc : Nat} {l : am_L} {h : am_H} (hal : s0.vm.Alike s.vm) {a n : Nat} {j : Int32} {x : Int64} {r : List Value} (ha : h.1[a]? = some (101, n)) (hj : decide (0 ≤ j.toInt ∧ j.toInt < n) = true) (hdg : decode cc pc = .ok (.lastore, 1)) (kk : sm_K s0 D adS p lau e R s m args below meth c Q n0 t0 nL (pc + 1) l r (h.1, h.2.1, up2 h.2.2.1 a j.toNatClampNeg x, h.2.2.2)) : sm_K s0 D adS p lau e R s m args below meth c Q n0 t0 nL pc l (.long x :: .int j :: .ref a :: r) h := by
  intro H locs ls cells slots hR hlo hL hc ht
  obtain ⟨h1, h2, -, -, -⟩ := sm_arr hR ha (by decide) (by decide) (rfl : am_aty 101 = some .long)
  have hin := sm_in hj
  have ha16 := hR.big ha (by decide)
  refine W.last hx hb h1 (arrOfT_moved hal h2 n _) (fun q => by cases q) (by rw [arrV_size]; exact hin) rfl rfl hdg (fun H' e1 e2 e3 => ?_)
  refine kk H' _ ls cells slots (hR.arr (x := .long x) (k := j.toNatClampNeg) ha (by decide) (by decide) (rfl : am_aty 101 = some .long) rfl (fun _ _ _ => rfl) (fun i k hi => up2_row _ _ hi) (fun _ _ _ => rfl) (fun z => ?_) rfl e2 e3 e1) (sm_loc hlo (sm_ge ha16)) hL hc ht
  by_cases hz : z = j.toNatClampNeg
  · subst hz; simp [am_rd, updV, up2]
  · simp [am_rd, updV, up2, hz]
end Sim
end
section
/-! fields, new cells, lengths, arrays of references, the JDK's members that are one step -/
theorem am_fit_ok {ty : FieldType} {x : Int32} (h : am_fit ty x = true) : narrow ty (.int x) = .int x ∧ fits ty (.int x) = true ∧ ∀ (hp : am_H) (a k : Nat), hp.2.1 a k = x → am_rd ty hp a k = .int x := by
  cases ty with
  | int => exact ⟨rfl, rfl, fun hp a k e => by rw [← e]; rfl⟩
  | boolean =>
    simp only [am_fit, Bool.or_eq_true, decide_eq_true_eq] at h
    rcases h with rfl | rfl
    · exact ⟨by decide, by decide, fun hp a k e => by rw [← e]; rfl⟩
    · exact ⟨by decide, by decide, fun hp a k e => by rw [← e]; rfl⟩
  | char =>
    simp only [am_fit, Bool.and_eq_true, decide_eq_true_eq] at h
    obtain ⟨j, hj, e⟩ := nI_of (x := x) (Int32.not_lt.mpr h.1)
    have h2 : nI j ≤ nI 65535 := by rw [← e]; exact h.2
    have h3 : j ≤ 65535 := (nI_leI hj (by decide)).mp h2
    obtain ⟨q1, q2⟩ := pk_charN (q := j) (by omega)
    exact ⟨by rw [e]; exact q1, by rw [e]; exact q2, fun hp a k e => by rw [← e]; rfl⟩
  | byte =>
    have h := of_decide_eq_true h
    subst h
    exact ⟨by decide, by decide, fun hp a k e => by rw [← e]; rfl⟩
  | _ => simp [am_fit] at h
theorem am_wr_ok {ty : FieldType} {h h' : am_H} {a k : Nat} {v : Value} (g : Nat → Nat) (hw : am_wr ty h a k v = some h') :
    h'.1 = h.1 ∧ (∀ i j, i ≠ a ∨ j ≠ k → h'.2.1 i j = h.2.1 i j) ∧ (∀ i j, i ≠ a ∨ j ≠ k → h'.2.2.1 i j = h.2.2.1 i j) ∧ (∀ i j, i ≠ a ∨ j ≠ k → h'.2.2.2 i j = h.2.2.2 i j) ∧ am_rd ty h' a k = v ∧ narrow ty (sm_v g v) = sm_v g v ∧ fits ty (sm_v g v) = true := by
  have u : ∀ {α : Type} (f : Nat → Nat → α) (x : α) (i j : Nat), i ≠ a ∨ j ≠ k → up2 f a k x i j = f i j := by
    intro α f x i j q
    rcases q with q | q
    · exact up2_row f x q
    · exact up2_col f x q
  unfold am_wr at hw
  cases v with
  | int x =>
    dsimp only at hw
    split at hw
    · rename_i hf
      cases hw
      obtain ⟨q1, q2, q3⟩ := am_fit_ok hf
      exact ⟨rfl, fun i j q => u _ _ i j q, fun _ _ _ => rfl, fun _ _ _ => rfl, q3 _ _ _ (up2_same _ _ _ _), q1, q2⟩
    · cases hw
  | long x =>
    cases ty <;> dsimp only at hw <;> first | (cases hw; done) | skip
    cases hw
    exact ⟨rfl, fun _ _ _ => rfl, fun i j q => u _ _ i j q, fun _ _ _ => rfl, by simp [am_rd, up2], rfl, rfl⟩
  | ref b =>
    cases ty <;> dsimp only at hw <;> first | (cases hw; done) | skip
    all_goals
      cases hw
      exact ⟨rfl, fun _ _ _ => rfl, fun _ _ _ => rfl, fun i j q => u _ _ i j q, by simp [am_rd, up2, va_rf], rfl, rfl⟩
  | null =>
    cases ty <;> dsimp only at hw <;> first | (cases hw; done) | skip
    all_goals
      cases hw
      exact ⟨rfl, fun _ _ _ => rfl, fun _ _ _ => rfl, fun i j q => u _ _ i j q, by simp [am_rd, up2, va_rf], rfl, rfl⟩
  | _ => cases hw
/-- what the tables say of a class -/
def at_clok (ci : Nat) (r : vw_C) : Prop := (∀ w ∈ u_ws r.1 r.2.1 r.2.2, w ∈ am_ws) ∧ (∀ k, k < r.2.2 → parseFieldDescriptor (r.2.1 k).2.2.1 = some (at_ty ci k)) ∧ (∀ a, a < r.2.2 → ∀ b, b < r.2.2 → a ≠ b → (r.2.1 a).2.1 ≠ (r.2.1 b).2.1) ∧ Cond.instantiable r.1 r.2.2 ∈ am_ws ∧ Cond.initialized r.1 ∈ am_ws
section Sim
variable {s0 : State} {D : va_G} {adS : Nat → Nat} {p : Program} {lau : Launch} {e : Env} {R : Room} {s : State} {m : MethodId} {args : Array Value} {below : List Frame} {meth : Method} {c : Code} {Q : State → Prop} {n0 t0 nL : Nat} {cc : ByteArray}
theorem sk_getfield (hx : p.tables.exec = Jvm.exec) (hb : c.code = cc) (hts : ∀ w ∈ am_ws, w.before args s = true) {own : String} (hown : s.vm.findClass own = some m.cls) (hK : va_K D vwCl [] s) {pc : Nat} {l : am_L} {r : List Value} {h : am_H} {ci k a n idx : Nat} {q : vw_C} (hc : vwCl[ci]? = some q) (hok : at_clok ci q) (hk : k < q.2.2) (h100 : ci < 100) (hlink : Cond.fieldLink own idx (q.2.1 k).1 (q.2.1 k).2.1 (q.2.1 k).2.2.1 ∈ am_ws) (ha : h.1[a]? = some (ci, n)) (hdg : decode cc pc = .ok (.getfield idx, 3))
    (kk : sm_K s0 D adS p lau e R s m args below meth c Q n0 t0 nL (pc + 3) l (am_rd (at_ty ci k) h a k :: r) h) : sm_K s0 D adS p lau e R s m args below meth c Q n0 t0 nL pc l (.ref a :: r) h := by
  intro H locs ls cells slots hR hlo hL hcc ht
  obtain ⟨r', h1, cell, q1, q2, q3, q4⟩ := (hR.2.2.2.2 a ci n ha).1 h100
  have hr : r' = q := Option.some.inj (h1.symm.trans hc)
  subst hr
  obtain ⟨hS, hfc, kC, hkC, hkind⟩ := hK.1 ci _ hc
  obtain ⟨cf, kf, fi, f, hi, hsl⟩ := hS k hk
  refine W.getf hx hb hown (hts _ hlink) hi (u_facts hfc hkC (u_lays hts hok.1 hk) hi).1 q1 (by rw [q3]; exact fun h => by cases h) (v := sm_v (sm_g s0 adS) (am_rd (at_ty ci k) h a k)) ?_ rfl rfl hdg (kk H locs ls cells slots hR hlo hL hcc ht)
  rw [hsl, q4 k hk]
theorem sk_putfield (hx : p.tables.exec = Jvm.exec) (hb : c.code = cc) (hts : ∀ w ∈ am_ws, w.before args s = true) {own : String} (hown : s.vm.findClass own = some m.cls) (hK : va_K D vwCl [] s) {pc : Nat} {l : am_L} {r : List Value} {h h' : am_H} {ci k a n idx : Nat} {v : Value} {q : vw_C} (hc : vwCl[ci]? = some q) (hok : at_clok ci q) (hk : k < q.2.2) (h100 : ci < 100) (hlink : Cond.fieldLink own idx (q.2.1 k).1 (q.2.1 k).2.1 (q.2.1 k).2.2.1 ∈ am_ws) (hfin : (q.2.1 k).2.2.2 = false ∨ ((q.2.1 k).2.2.2 = true ∧ meth.name = "<init>" ∧ (q.2.1 k).1 = own)) (ha : h.1[a]? = some (ci, n)) (hw : am_wr (at_ty ci k) h a k v = some h') (hdg : decode cc pc = .ok (.putfield idx, 3))
    (kk : sm_K s0 D adS p lau e R s m args below meth c Q n0 t0 nL (pc + 3) l r h') : sm_K s0 D adS p lau e R s m args below meth c Q n0 t0 nL pc l (v :: .ref a :: r) h := by
  intro H locs ls cells slots hR hlo hL hcc ht
  have ha16 := hR.big ha (by omega)
  obtain ⟨w1, w2, w3, w4, w5, w6, w7⟩ := am_wr_ok (sm_g s0 adS) hw
  obtain ⟨C, T, N⟩ := q
  dsimp only at hk hlink hfin
  have hap := va_apart (own := own) hts hok.1 (at_ty ci) hok.2.1 hok.2.2.1 hK hc
  obtain ⟨r', h1, cell, q1, q2, q3, q4⟩ := (hR.2.2.2.2 a ci n ha).1 h100
  have hr : r' = (C, T, N) := Option.some.inj (h1.symm.trans hc)
  subst hr
  obtain ⟨hS, hfc, kC, hkC, hkind⟩ := hK.1 ci _ hc
  obtain ⟨cf, kf, fi, f, hi, hsl⟩ := hS k hk
  have hd := hok.2.1 k hk
  have hlay := hts _ (hok.1 _ (u_in_lay hk))
  have hst := (u_facts hfc hkC (u_lays hts hok.1 hk) hi).1
  have fin : ∀ (H' : Heap) (locs' : List Loc), H'[sm_g s0 adS a]? = some (cell.setSlot f.slot (sm_v (sm_g s0 adS) v)) → H'.size = H.size → (∀ q, q ≠ sm_g s0 adS a → H'[q]? = H[q]?) → locs' = locs ++ [⟨sm_g s0 adS a, f.slot⟩] → W p lau e R s m args below meth c H' locs' cells slots Q (F0 m (pc + 3) ls (r.map (sm_v (sm_g s0 adS)))) := by
    intro H' locs' e1 e2 e3 e4
    subst e4
    rw [hsl] at e1
    refine kk H' _ ls cells slots (hR.put ha16 w1 e2 e3 (fun i j hi => w2 i j (Or.inl hi)) (fun i j hi => w3 i j (Or.inl hi)) (fun i j hi => w4 i j (Or.inl hi)) (fun tag len he => ?_)) (sm_loc hlo (sm_ge ha16)) hL (by rw [w1]; exact hcc) (by rw [w1]; exact ht)
    rw [ha] at he
    cases he
    refine ⟨fun _ => ⟨_, hc, t_OB.to ⟨_, e1, q2, q3, t_set q4 hap hk (sm_v (sm_g s0 adS) v)⟩ (fun j hj => ?_)⟩, fun ty z1 z2 => by omega, fun z => by omega, fun z => by omega, fun z => by omega⟩
    unfold updV
    by_cases hjk : j = k
    · subst hjk
      rw [if_pos rfl, w5]
    · rw [if_neg hjk]
      unfold am_rd
      rw [w2 a j (Or.inr hjk), w3 a j (Or.inr hjk), w4 a j (Or.inr hjk)]
  rcases hfin with hfin | ⟨hfin, hin2, hdecl⟩
  · unfold u_lay at hlay
    rw [if_neg (by rw [hfin]; decide)] at hlay
    have h6 := u_store hfc hkC hkind hlay hi hd w6 w7
    exact W.putK hx hb (f := f) ⟨hown, hts _ hlink, ⟨_, _, _, hi⟩, hst⟩ (by rw [q2]; exact h6) q1 q3 (by rw [hsl]; exact k2_hasslot (q4 k hk)) rfl rfl hdg fun H' e1 e2 e3 => fin H' _ e1 e2 e3 rfl
  · unfold u_lay at hlay
    rw [if_pos hfin] at hlay
    have hcf : m.cls = cf := by
      obtain ⟨_, _, c', _, _, _, -, -, hf', -, -, -, hown2, -⟩ := Cond.laysFinal_spec hlay
      have e1 : c' = cf := by have := hi.symm.trans hf'; simp at this; exact this.1.symm
      rw [hdecl] at hown2
      rw [← e1]; exact Option.some.inj (hown.symm.trans hown2)
    have h6 := u_fits hfc hkC hkind (Or.inr hlay) hi hd w6 w7
    exact W.putFinK hx hb hown (hts _ hlink) hi hst hcf hin2 (by rw [q2]; exact h6) q1 q3 (by rw [hsl]; exact k2_hasslot (q4 k hk)) rfl rfl hdg fun H' e1 e2 e3 => fin H' _ e1 e2 e3 rfl
theorem sm_next {h : am_H} {H : Heap} (hR : sm_HR s0 D adS h H) : sm_g s0 adS h.1.length = H.size := by
  rw [sm_g_hi hR.1]
  have := hR.2.1
  have := hR.1
  omega
theorem am_tot_born (h : am_H) (tag n : Nat) : am_tot (am_born h tag n).1 = am_tot h.1 + n := by
  simp [am_born, am_tot]
theorem am_rd_born (ty : FieldType) (h : am_H) (tag n k : Nat) (g : Nat → Nat) : sm_v g (am_rd ty (am_born h tag n) h.1.length k) = defaultValue ty := by
  cases ty <;> simp [am_rd, am_born, defaultValue, va_rf, sm_v]
theorem am_fits_born (ty : FieldType) (h : am_H) (tag n k : Nat) : fits ty (am_rd ty (am_born h tag n) h.1.length k) = true := by
  cases ty <;> simp [am_rd, am_born, va_rf, fits]
theorem sk_new (hx : p.tables.exec = Jvm.exec) (hb : c.code = cc) (hts : ∀ w ∈ am_ws, w.before args s = true) {own : String} (hown : s.vm.findClass own = some m.cls) (hK : va_K D vwCl [] s) {pc : Nat} {l : am_L} {r : List Value} {h : am_H} {ci idx : Nat} {q : vw_C} (hc : vwCl[ci]? = some q) (hok : at_clok ci q) (h100 : ci < 100) (hlink : Cond.classLink own idx q.1 ∈ am_ws) (hbud : h.1.length + 1 ≤ R.cells + n0 ∧ am_tot h.1 + q.2.2 ≤ R.slots + t0) (hdg : decode cc pc = .ok (.new idx, 3))
    (kk : sm_K s0 D adS p lau e R s m args below meth c Q n0 t0 nL (pc + 3) l (.ref h.1.length :: r) (am_born h ci q.2.2)) : sm_K s0 D adS p lau e R s m args below meth c Q n0 t0 nL pc l r h := by
  intro H locs ls cells slots hR hlo hL hcc ht
  obtain ⟨C, T, N⟩ := q
  have hKn := hK.1 ci _ hc
  refine W.newcK hx hb hown (hts _ hlink) (hts _ hok.2.2.2.1) (hts _ hok.2.2.2.2) rfl hdg (by omega) (by dsimp only at hbud ⊢; omega) hKn.2.1 rfl fun H1 kC hkC e1 z1 o1 => ?_
  have e2 := sm_next hR
  have := kk H1 locs ls (cells + 1) (slots + N) (hR.born z1 o1 ⟨fun _ => ⟨_, hc, (u_born (at_ty ci) hts hok.1 hKn hkC (by rw [e2]; exact e1) hok.2.1).to (fun k _ => (am_rd_born _ _ _ _ _ _).symm)⟩, fun ty z1 z2 => by omega, fun z => by omega, fun z => by omega, fun z => by omega⟩) hlo hL (by simp [am_born]; omega) (by rw [am_tot_born]; dsimp only; omega)
  rw [List.map_cons] at this
  rw [show sm_v (sm_g s0 adS) (.ref h.1.length) = .ref H.size by show Value.ref _ = _; rw [e2]] at this
  exact this
theorem sk_newarray (hx : p.tables.exec = Jvm.exec) (hb : c.code = cc) (hts : ∀ w ∈ am_ws, w.before args s = true) (hal : s0.vm.Alike s.vm) {pc : Nat} {l : am_L} {r : List Value} {h : am_H} {tag : Nat} {t : ArrayType} {ty : FieldType} {n : Int32} (htag : am_atag t = tag) (h1 : 100 ≤ tag) (h2 : tag < 900) (hty : am_aty tag = some ty) (hty2 : newarray.typeOf t = ty) (hw : Cond.arrayClass ty ∈ am_ws) (hn : decide (0 ≤ n.toInt ∧ n.toInt ≤ 65535) = true) (hbud : h.1.length + 1 ≤ R.cells + n0 ∧ am_tot h.1 + n.toNatClampNeg ≤ R.slots + t0) (hdg : decode cc pc = .ok (.newarray t, 2))
    (kk : sm_K s0 D adS p lau e R s m args below meth c Q n0 t0 nL (pc + 2) l (.ref h.1.length :: r) (am_born h tag n.toNatClampNeg)) : sm_K s0 D adS p lau e R s m args below meth c Q n0 t0 nL pc l (.int n :: r) h := by
  intro H locs ls cells slots hR hlo hL hcc ht
  subst hty2
  have hn1 := of_decide_eq_true hn
  have hn2 : n.toNatClampNeg = n.toInt.toNat := rfl
  have hn3 : ¬ n < 0 := by
    intro q
    have := Int32.lt_iff_toInt_lt.mp q
    simp at this
    omega
  have hcb : componentBytes (newarray.typeOf t) ≤ 8 := by cases t <;> decide
  have hby : n.toNatClampNeg * componentBytes (newarray.typeOf t) ≤ 536870912 := by
    have : n.toNatClampNeg * componentBytes (newarray.typeOf t) ≤ 65535 * 8 := Nat.mul_le_mul (by omega) hcb
    omega
  refine va_newaK hx hb (hts _ hw) rfl hdg rfl hn3 rfl hby (by omega) (by omega) rfl fun H1 cA e1 z1 o1 hAr hNm => ?_
  have e2 := sm_next hR
  have hcA : sm_cA s0 (newarray.typeOf t) = cA := by
    unfold sm_cA
    rw [← hal.findClass, hNm]
    rfl
  have := kk H1 locs ls (cells + 1) (slots + n.toNatClampNeg) (hR.born z1 o1 ⟨fun z => by omega, fun ty' z1 z2 z3 => ?_, fun z => by omega, fun z => by omega, fun z => by omega⟩) hlo hL (by simp [am_born]; omega) (by rw [am_tot_born]; omega)
  · rw [List.map_cons] at this
    rw [show sm_v (sm_g s0 adS) (.ref h.1.length) = .ref H.size by show Value.ref _ = _; rw [e2]] at this
    exact this
  · rw [hty] at z3
    cases z3
    rw [hcA]
    refine ⟨?_, arrOfT_moved hal.symm hAr, ?_, fun j => am_fits_born _ _ _ _ _, by omega⟩
    · rw [e2, e1]
      congr 2
      funext j
      exact (am_rd_born _ _ _ _ _ _).symm
    · have q : va_RA s cA (newarray.typeOf t) := by cases t <;> exact hNm
      exact q.moved hal.symm
theorem sk_anewarray (hx : p.tables.exec = Jvm.exec) (hb : c.code = cc) (hts : ∀ w ∈ am_ws, w.before args s = true) {own : String} (hown : s.vm.findClass own = some m.cls) (hal : s0.vm.Alike s.vm) {pc : Nat} {l : am_L} {r : List Value} {h : am_H} {tag idx : Nat} {C : String} {n : Int32} (h1 : 100 ≤ tag) (h2 : tag < 900) (hty : am_aty tag = some (.object C)) (hw : Cond.classLink own idx C ∈ am_ws) (hw2 : va_AO C s0) (hn : decide (0 ≤ n.toInt ∧ n.toInt ≤ 65535) = true) (hbud : h.1.length + 1 ≤ R.cells + n0 ∧ am_tot h.1 + n.toNatClampNeg ≤ R.slots + t0) (hdg : decode cc pc = .ok (.anewarray idx, 3))
    (kk : sm_K s0 D adS p lau e R s m args below meth c Q n0 t0 nL (pc + 3) l (.ref h.1.length :: r) (am_born h tag n.toNatClampNeg)) : sm_K s0 D adS p lau e R s m args below meth c Q n0 t0 nL pc l (.int n :: r) h := by
  intro H locs ls cells slots hR hlo hL hcc ht
  have hn1 := of_decide_eq_true hn
  have hn2 : n.toNatClampNeg = n.toInt.toNat := rfl
  have hn3 : ¬ n < 0 := by
    intro q
    have := Int32.lt_iff_toInt_lt.mp q
    simp at this
    omega
  refine W.anew hx hb hown (hts _ hw) (va_AO.use (hw2.moved hal)) rfl hdg rfl hn3 (by omega) (by omega) (by omega) fun cA kA comp g1 g2 g3 g4 => ?_
  have e2 := sm_next hR
  have hcA : sm_cA s0 (.object C) = cA := by
    unfold sm_cA
    rw [← hal.findClass, g1]
    rfl
  have hAr : ArrOfT s cA (.object C) := fun n z => ⟨fun k h => (by cases h), kA, g2, comp, g3⟩
  have hRA : va_RA s cA (.object C) := ⟨kA, comp, g2, g3, g4, g1⟩
  have z1 : (H.push { cls := cA, slots := Array.replicate n.toNatClampNeg .null, vm := .none }).size = H.size + 1 := by simp
  have o1 : ∀ q : Nat, q < H.size → (H.push { cls := cA, slots := Array.replicate n.toNatClampNeg .null, vm := .none })[q]? = H[q]? := fun q hq => by rw [Array.getElem?_push, if_neg (Nat.ne_of_lt hq)]
  have := kk _ locs ls (cells + 1) (slots + n.toNatClampNeg) (hR.born z1 o1 ⟨fun z => by omega, fun ty' y1 y2 y3 => ?_, fun z => by omega, fun z => by omega, fun z => by omega⟩) hlo hL (by simp [am_born]; omega) (by rw [am_tot_born]; omega)
  · rw [List.map_cons] at this
    rw [show sm_v (sm_g s0 adS) (.ref h.1.length) = .ref H.size by show Value.ref _ = _; rw [e2]] at this
    exact this
  · rw [hty] at y3
    cases y3
    rw [hcA]
    refine ⟨?_, arrOfT_moved hal.symm hAr, hRA.moved hal.symm, fun j => am_fits_born _ _ _ _ _, by omega⟩
    rw [e2, Array.getElem?_push, if_pos rfl, arrV_new]
    congr 2
    funext j
    exact (am_rd_born (.object C) _ _ _ _ _).symm
theorem sk_arraylength (hx : p.tables.exec = Jvm.exec) (hb : c.code = cc) (hal : s0.vm.Alike s.vm) {pc : Nat} {l : am_L} {r : List Value} {h : am_H} {a tag n : Nat} (ha : h.1[a]? = some (tag, n)) (hq : (100 ≤ tag ∧ tag < 900 ∧ (am_aty tag).isSome = true) ∨ tag = 900 ∨ tag = 902) (hdg : decode cc pc = .ok (.arraylength, 1))
    (kk : sm_K s0 D adS p lau e R s m args below meth c Q n0 t0 nL (pc + 1) l (.int (nI n) :: r) h) : sm_K s0 D adS p lau e R s m args below meth c Q n0 t0 nL pc l (.ref a :: r) h := by
  intro H locs ls cells slots hR hlo hL hcc ht
  rcases hq with ⟨h1, h2, h3⟩ | rfl | rfl
  · cases hty : am_aty tag with
    | none => rw [hty] at h3; cases h3
    | some ty =>
      obtain ⟨g1, g2, -, -, g5⟩ := sm_arr hR ha h1 h2 hty
      exact W.alen (n := nI n) hx hb g1 (arrOfT_moved hal g2 n _) (by rw [arrV_size]; rfl) rfl rfl hdg (kk H locs ls cells slots hR hlo hL hcc ht)
  · obtain ⟨scr, h1, h2, h3, h4, h5⟩ := (hR.2.2.2.2 a 900 n ha).2.2.1 rfl
    have h1 := (hR.2.2.1 _ (Array.getElem?_eq_some_iff.mp h1).1).trans h1
    exact W.alen (n := nI n) hx hb h1 (State.isArrayOf_alike hal h2) (by rw [h4]; rfl) rfl rfl hdg (kk H locs ls cells slots hR hlo hL hcc ht)
  · obtain ⟨cell, h1, h2, h3, h4, h6, h5, -⟩ := (hR.2.2.2.2 a 902 n ha).2.2.2.2 rfl
    have h1 := (hR.2.2.1 _ (Array.getElem?_eq_some_iff.mp h1).1).trans h1
    exact W.alen (n := nI n) hx hb h1 (State.isArrayOf_alike hal h2) h6 rfl rfl hdg (kk H locs ls cells slots hR hlo hL hcc ht)
theorem sk_strf (hx : p.tables.exec = Jvm.exec) (hb : c.code = cc) (hts : ∀ w ∈ am_ws, w.before args s = true) {own : String} (hown : s.vm.findClass own = some m.cls) (hal : s0.vm.Alike s.vm) {pc : Nat} {l : am_L} {r : List Value} {h : am_H} {k a n idx : Nat} (hlink : (k = 0 ∧ Cond.fieldLink own idx "java/lang/String" "value" "[B" ∈ am_ws) ∨ (k = 1 ∧ Cond.fieldLink own idx "java/lang/String" "coder" "B" ∈ am_ws)) (ha : h.1[a]? = some (901, n)) (hdg : decode cc pc = .ok (.getfield idx, 3))
    (kk : sm_K s0 D adS p lau e R s m args below meth c Q n0 t0 nL (pc + 3) l (am_rd (at_ty 901 k) h a k :: r) h) : sm_K s0 D adS p lau e R s m args below meth c Q n0 t0 nL pc l (.ref a :: r) h := by
  intro H locs ls cells slots hR hlo hL hcc ht
  obtain ⟨-, q1, b, q2, q3⟩ := (hR.2.2.2.2 a 901 n ha).2.2.2.1 rfl
  have K := kk H locs ls cells slots hR hlo hL hcc ht
  rcases hlink with ⟨rfl, hl⟩ | ⟨rfl, hl⟩
  · obtain ⟨cf, k, fi, f, cell, z1, z2, z3, z4, z5, -⟩ := q3.moved hal
    have z3 := (hR.2.2.1 _ (Array.getElem?_eq_some_iff.mp z3).1).trans z3
    rw [show am_rd (at_ty 901 0) h a 0 = .ref b by show va_rf (h.2.2.2 a 0) = _; rw [q2]; rfl] at K
    exact W.getf hx hb hown (hts _ hl) z1 z2 z3 z4 (v := .ref (sm_g s0 adS b)) z5 rfl rfl hdg K
  · obtain ⟨cf, k, fi, f, cell, z1, z2, z3, z4, z5, -⟩ := q1.moved hal
    have z3 := (hR.2.2.1 _ (Array.getElem?_eq_some_iff.mp z3).1).trans z3
    exact W.getf hx hb hown (hts _ hl) z1 z2 z3 z4 (v := .int (h.2.1 a 1)) z5 rfl rfl hdg K
theorem sk_static (hx : p.tables.exec = Jvm.exec) (hb : c.code = cc) (hts : ∀ w ∈ am_ws, w.before args s = true) {own : String} (hown : s.vm.findClass own = some m.cls) (hal : s0.vm.Alike s.vm) {C nm ds : String} {v : Value} (hZ : va_Z C nm ds (sm_v (sm_g s0 adS) v) (fun q => s0.heap.size ≤ q) s0 s0.heap) {pc : Nat} {l : am_L} {r : List Value} {h : am_H} {idx : Nat} (hlink : Cond.fieldLink own idx C nm ds ∈ am_ws) (hdg : decode cc pc = .ok (.getstatic idx, 3))
    (kk : sm_K s0 D adS p lau e R s m args below meth c Q n0 t0 nL (pc + 3) l (v :: r) h) : sm_K s0 D adS p lau e R s m args below meth c Q n0 t0 nL pc l r h := by
  intro H locs ls cells slots hR hlo hL hcc ht
  obtain ⟨cf, kf, fi, f, a, cell, z1, z2, z3, z4, z5, z6, z7, -⟩ := hZ.moved hal
  have z5 := (hR.2.2.1 _ (Array.getElem?_eq_some_iff.mp z5).1).trans z5
  exact W.gets hx hb hown (hts _ hlink) z1 z2 z3 z4 z5 (fun q => by rw [q] at z6; cases z6) z7 rfl hdg (kk H locs ls cells slots hR hlo hL hcc ht)
theorem sk_ldc (hx : p.tables.exec = Jvm.exec) (hb : c.code = cc) (hwm : s0.WarmedH s.vm) {own : String} (hown : s.vm.findClass own = some m.cls) {pc : Nat} {l : am_L} {r : List Value} {h : am_H} {idx k : Nat} {tx : String} (hk : k < 16) (hS : vk_R own idx tx (adS k) s0) (hdg : decode cc pc = .ok (.ldc idx, 2))
    (kk : sm_K s0 D adS p lau e R s m args below meth c Q n0 t0 nL (pc + 2) l (.ref k :: r) h) : sm_K s0 D adS p lau e R s m args below meth c Q n0 t0 nL pc l r h := by
  intro H locs ls cells slots hR hlo hL hcc ht
  have K := kk H locs ls cells slots hR hlo hL hcc ht
  rw [List.map_cons, show sm_v (sm_g s0 adS) (.ref k) = .ref (adS k) by show Value.ref _ = _; unfold sm_g; rw [if_pos hk]] at K
  exact va_ldcS hx hb hown (hS.warm hwm) hdg K
theorem sk_aastore (hx : p.tables.exec = Jvm.exec) (hb : c.code = cc) (hal : s0.vm.Alike s.vm) (hK : va_K D vwCl [] s) {pc : Nat} {l : am_L} {r : List Value} {h : am_H} {a v n nv ci : Nat} {j : Int32} {q : vw_C} (hc : vwCl[ci]? = some q) (h100 : ci < 100) (ha : h.1[a]? = some (401 + ci, n)) (hv : h.1[v]? = some (ci, nv)) (hj : decide (0 ≤ j.toInt ∧ j.toInt < n) = true) (hdg : decode cc pc = .ok (.aastore, 1))
    (kk : sm_K s0 D adS p lau e R s m args below meth c Q n0 t0 nL (pc + 1) l r (h.1, h.2.1, h.2.2.1, up2 h.2.2.2 a j.toNatClampNeg (some v))) : sm_K s0 D adS p lau e R s m args below meth c Q n0 t0 nL pc l (.ref v :: .int j :: .ref a :: r) h := by
  intro H locs ls cells slots hR hlo hL hcc ht
  have hty : am_aty (401 + ci) = some (.object q.1) := by
    unfold am_aty
    split
    all_goals first | omega | skip
    rw [show 401 + ci - 400 = ci + 1 by omega]; dsimp only; rw [hc]
  obtain ⟨g1, g2, g3, -, -⟩ := sm_arr hR ha (by omega) (by omega) hty
  have ha16 := hR.big ha (by omega)
  have hin := sm_in hj
  have hlt : j.toNatClampNeg < n := Nat.not_le.mp fun q => hin (Or.inr q)
  have h0 : ¬ j < 0 := fun q => hin (Or.inl q)
  obtain ⟨r', hr', cellV, f1, f2, f3, -⟩ := (hR.2.2.2.2 v ci nv hv).1 h100
  have hcls := (hK.1 ci q hc).2
  obtain ⟨kA, comp, k1, k2, k3, -⟩ := g3.moved hal
  have hcomp : comp = D.1 ci := Option.some.inj (k3.symm.trans hcls.1)
  subst hcomp
  obtain ⟨kC, hkC, -⟩ := hcls.2
  refine W.aast hx hb g1 (fun q h => by cases h) (fun h => by cases h) k1 k2 rfl hkC ⟨h0, by rw [arrV_size]; exact hlt⟩ f1 (fun q h => by rw [f3] at h; cases h) (by rw [f2]; exact hkC) (by rw [f2]; exact va_assign hcls) rfl rfl hdg fun H1 e1 e2 e3 => ?_
  refine kk H1 _ ls cells slots (hR.arr (x := .ref v) (k := j.toNatClampNeg) ha (by omega) (by omega) hty rfl (fun _ _ _ => rfl) (fun _ _ _ => rfl) (fun i k hi => up2_row _ _ hi) (fun z => ?_) rfl e2 e3 e1) (sm_loc hlo (sm_ge ha16)) hL hcc ht
  by_cases hz : z = j.toNatClampNeg
  · subst hz; simp [am_rd, updV, up2, va_rf]
  · simp [am_rd, updV, up2, hz]
theorem sk_objInit (hx : p.tables.exec = Jvm.exec) (hb : c.code = cc) (hts : ∀ w ∈ am_ws, w.before args s = true) {own : String} (hown : s.vm.findClass own = some m.cls) (hml : c.maxLocals = nL) {pc : Nat} {l : am_L} {r : List Value} {h : am_H} {a idx : Nat} (hlink : Cond.methodLink own idx Lib.objectInit ∈ am_ws) (hinst : Cond.instanceMethod Lib.objectInit ∈ am_ws) (hcode : Cond.code Lib.objectInit ⟨#[0xb1]⟩ 1 none ∈ am_ws) (hcat : am_cat r ≤ 8) (hfr : 1 ≤ R.frames) (hlo : 64 ≤ R.locals) (hdg : decode cc pc = .ok (.invokespecial idx, 3))
    (kk : sm_K s0 D adS p lau e R s m args below meth c Q n0 t0 nL (pc + 3) l r h) : sm_K s0 D adS p lau e R s m args below meth c Q n0 t0 nL pc l (.ref a :: r) h := by
  intro H locs ls cells slots hR hlo2 hL hcc ht
  exact W.objInit hx hb hown (hts _ hlink) (hts _ hinst) (hts _ hcode) rfl (by rw [hml]; exact hL.1) rfl hdg hfr (by show 2 * 0 + _ + 12 ≤ _; rw [sm_cat]; omega) (kk H locs ls cells slots hR hlo2 hL hcc ht)
theorem sk_min (hx : p.tables.exec = Jvm.exec) (hb : c.code = cc) (hts : ∀ w ∈ am_ws, w.before args s = true) {own : String} (hown : s.vm.findClass own = some m.cls) (hml : c.maxLocals = nL) {pc : Nat} {l : am_L} {r : List Value} {h : am_H} {x y : Int32} {idx : Nat} (w1 : Cond.methodLink own idx Lib.Math.min.name ∈ am_ws) (w2 : Cond.static Lib.Math.min.name ∈ am_ws) (w3 : Cond.initialized "java/lang/Math" ∈ am_ws) (w4 : Cond.code Lib.Math.min.name Lib.Math.min.code 2 (some .int) ∈ am_ws) (hcat : am_cat r ≤ 8) (hfr : 1 ≤ R.frames) (hlo : 64 ≤ R.locals) (hbud : h.1.length ≤ R.cells + n0 ∧ am_tot h.1 ≤ R.slots + t0) (hdg : decode cc pc = .ok (.invokestatic idx, 3))
    (kk : sm_K s0 D adS p lau e R s m args below meth c Q n0 t0 nL (pc + 3) l (.int (if y < x then y else x) :: r) h) : sm_K s0 D adS p lau e R s m args below meth c Q n0 t0 nL pc l (.int y :: .int x :: r) h := by
  intro H locs ls cells slots hR hlo2 hL hcc ht
  exact va_mmin hx hb (by rw [hml]; exact hL.1.symm) hown (hts _ w1) (hts _ w2) (hts _ w3) (hts _ w4) hfr (by rw [sm_cat]; omega) (by omega) (by omega) hdg (kk H locs ls cells slots hR hlo2 hL hcc ht)
theorem sk_copy (hx : p.tables.exec = Jvm.exec) (hb : c.code = cc) (hts : ∀ w ∈ am_ws, w.before args s = true) {own : String} (hown : s.vm.findClass own = some m.cls) (hml : c.maxLocals = nL) (hal : s0.vm.Alike s.vm) {pc : Nat} {l : am_L} {r : List Value} {h : am_H} {a b na nb idx : Nat} {sp dp n : Int32} (w1 : Cond.methodLink own idx arraycopyName ∈ am_ws) (w2 : Cond.native arraycopyName ∈ am_ws) (w3 : Cond.static arraycopyName ∈ am_ws) (w4 : Cond.initialized "java/lang/System" ∈ am_ws) (ha : h.1[a]? = some (102, na)) (hbb : h.1[b]? = some (102, nb)) (hne : a ≠ b) (hcat : am_cat r ≤ 8) (h1 : 0 ≤ n.toInt) (h2 : 0 ≤ dp.toInt) (h3 : 0 ≤ sp.toInt) (h4 : sp.toInt + n.toInt ≤ na) (h5 : dp.toInt + n.toInt ≤ nb) (hfr : 1 ≤ R.frames) (hlo : 64 ≤ R.locals) (hdg : decode cc pc = .ok (.invokestatic idx, 3))
    (kk : sm_K s0 D adS p lau e R s m args below meth c Q n0 t0 nL (pc + 3) l r (h.1, fun i j => if i = b then va_cpy (h.2.1 a) (h.2.1 b) sp.toNatClampNeg dp.toNatClampNeg n.toNatClampNeg j else h.2.1 i j, h.2.2.1, h.2.2.2)) : sm_K s0 D adS p lau e R s m args below meth c Q n0 t0 nL pc l (.int n :: .int dp :: .ref b :: .int sp :: .ref a :: r) h := by
  have nz : ∀ z : Int32, 0 ≤ z.toInt → ¬ z < 0 := by
    intro z hz q
    have := Int32.lt_iff_toInt_lt.mp q
    simp at this
    omega
  have nn : ∀ z : Int32, 0 ≤ z.toInt → z.toInt = (z.toNatClampNeg : Int) := by
    intro z hz
    show z.toInt = ((z.toInt.toNat : Nat) : Int)
    omega
  intro H locs ls cells slots hR hlo2 hL hcc ht
  obtain ⟨a1, a2, a3, a4, a5⟩ := sm_arr hR ha (by decide) (by decide) (rfl : am_aty 102 = some .char)
  obtain ⟨b1, b2, b3, b4, b5⟩ := sm_arr hR hbb (by decide) (by decide) (rfl : am_aty 102 = some .char)
  have hb16 := hR.big hbb (by decide)
  intro T hT X
  obtain ⟨-, k0, hk0, cm0, hkk0⟩ := (arrOfT_moved hal a2) na (fun j => .int (h.2.1 a j))
  obtain ⟨-, k1, hk1, cm1, hkk1⟩ := (arrOfT_moved hal b2) nb (fun j => .int (h.2.1 b j))
  have a1 : H[sm_g s0 adS a]? = some (arrV (sm_cA s0 .char) na (fun j => .int (h.2.1 a j))) := a1
  have b1 : H[sm_g s0 adS b]? = some (arrV (sm_cA s0 .char) nb (fun j => .int (h.2.1 b j))) := b1
  have n1 := nn n h1
  have n2 := nn dp h2
  have n3 := nn sp h3
  obtain ⟨vm', X', step⟩ := X.arraycopy hx hown (hts _ w1) (hts _ w2) (hts _ w3) (hts _ w4) (src := sm_g s0 adS a) (dst := sm_g s0 adS b) (cs := arrV (sm_cA s0 .char) na (fun j => .int (h.2.1 a j))) (cd := arrV (sm_cA s0 .char) nb (fun j => .int (h.2.1 b j))) (srcPos := sp) (destPos := dp) (n := n) (by rw [hT]; exact a1) (by rw [hT]; exact b1)
    (fun _ h => by cases h) (fun _ h => by cases h) (fun h => by cases h) (fun h => by cases h) hk0 hk1 hkk0 hkk1 (by simp [refKind]) (nz sp h3) (nz dp h2) (nz n h1)
    (by rw [arrV_size]; omega)
    (by rw [arrV_size]; omega)
    (fun vm₁ _ i hi => by
      have e : (arrV (sm_cA s0 .char) na (fun j => .int (h.2.1 a j))).slots.getD (sp.toNatClampNeg + i) .null = .int (h.2.1 a (sp.toNatClampNeg + i)) := by
        rw [Array.getD_eq_getD_getElem?, arrV_read _ _ (by omega)]
        rfl
      refine ⟨?_, ?_⟩
      · rw [e]
        exact a4 _
      · rw [e]
        exact trivial)
    (g := F0 m pc ls (.int n :: .int dp :: .ref (sm_g s0 adS b) :: .int sp :: .ref (sm_g s0 adS a) :: r.map (sm_v (sm_g s0 adS)))) rfl (by rw [hml]; exact hL.1) (rest := r.map (sm_v (sm_g s0 adS))) rfl (by rw [hb]; exact hdg) hfr (by show 2 * 0 + _ + _ ≤ _; rw [sm_cat]; have h9 : nativeFrameWords "java/lang/System" "arraycopy" 5 ≤ 40 := (by decide); omega)
  have e1 : copied (arrV (sm_cA s0 .char) na (fun j => .int (h.2.1 a j))) (arrV (sm_cA s0 .char) nb (fun j => .int (h.2.1 b j))) sp dp n = arrV (sm_cA s0 .char) nb (fun j => .int (va_cpy (h.2.1 a) (h.2.1 b) sp.toNatClampNeg dp.toNatClampNeg n.toNatClampNeg j)) := va_copied (fun z => .int z) _ _ (h.2.1 a) (h.2.1 b) (by omega)
  rw [e1] at X' step
  have hl : sm_g s0 adS b < H.size := (Array.getElem?_eq_some_iff.mp b1).1
  have hheap : ((T.setVm vm').setCell (sm_g s0 adS b) (arrV (sm_cA s0 .char) nb (fun j => .int (va_cpy (h.2.1 a) (h.2.1 b) sp.toNatClampNeg dp.toNatClampNeg n.toNatClampNeg j)))).heap = H.setIfInBounds (sm_g s0 adS b) (arrV (sm_cA s0 .char) nb (fun j => .int (va_cpy (h.2.1 a) (h.2.1 b) sp.toNatClampNeg dp.toNatClampNeg n.toNatClampNeg j))) := by rw [← hT]; rfl
  have oq : ∀ q : Nat, q ≠ sm_g s0 adS b → (H.setIfInBounds (sm_g s0 adS b) (arrV (sm_cA s0 .char) nb (fun j => .int (va_cpy (h.2.1 a) (h.2.1 b) sp.toNatClampNeg dp.toNatClampNeg n.toNatClampNeg j))))[q]? = H[q]? := fun q hq => by simp [Array.getElem?_setIfInBounds, Ne.symm hq]
  have hR' : sm_HR s0 D adS (h.1, fun i j => if i = b then va_cpy (h.2.1 a) (h.2.1 b) sp.toNatClampNeg dp.toNatClampNeg n.toNatClampNeg j else h.2.1 i j, h.2.2.1, h.2.2.2) (H.setIfInBounds (sm_g s0 adS b) (arrV (sm_cA s0 .char) nb (fun j => .int (va_cpy (h.2.1 a) (h.2.1 b) sp.toNatClampNeg dp.toNatClampNeg n.toNatClampNeg j)))) := by
    refine hR.put hb16 rfl (by simp) oq (fun i k hi => by simp [hi]) (fun _ _ _ => rfl) (fun _ _ _ => rfl) (fun tag len he => ?_)
    rw [hbb] at he
    cases he
    refine ⟨fun z => by omega, fun ty z1 z2 z3 => ?_, fun z => by omega, fun z => by omega, fun z => by omega⟩
    have : ty = .char := by
      have z4 : am_aty 102 = some .char := rfl
      rw [z4] at z3
      cases z3
      rfl
    subst this
    refine ⟨?_, b2, b3, fun j => ?_, b5⟩
    · simp [Array.getElem?_setIfInBounds, hl, am_rd, sm_v]
    · have q1 := a4 (sp.toNatClampNeg + (j - dp.toNatClampNeg))
      have q2 := b4 j
      show fits .char (.int (if b = b then va_cpy (h.2.1 a) (h.2.1 b) sp.toNatClampNeg dp.toNatClampNeg n.toNatClampNeg j else h.2.1 b j)) = true
      rw [if_pos rfl]
      unfold va_cpy
      split
      · exact q1
      · exact q2
  obtain ⟨t, t1, t2⟩ := kk _ _ ls cells slots hR' (fun q hq => by
      rcases List.mem_append.mp hq with h | h
      · exact hlo2 q h
      · obtain ⟨z, -, hz⟩ := List.mem_map.mp h
        rw [← hz]
        exact sm_ge hb16) hL hcc ht _ hheap X'
  exact ⟨t, step t t1, t2⟩
end Sim
end
section
/-! THE TIE, whole: a run of the small machine is a run of the JVM -/
def at_in (w : Cond) : Bool := decide (w ∈ lw_tbl) && goodWord w
theorem at_in_ok {w : Cond} (h : at_in w = true) : w ∈ am_ws := by
  unfold at_in at h
  rw [Bool.and_eq_true] at h
  exact List.mem_filter.mpr ⟨of_decide_eq_true h.1, h.2⟩
/-- the word w stands at the place i of the tables -/
def at_ix (i : Nat) (w : Cond) : Bool := decide (lw_tbl[i]? = some w) && goodWord w
theorem at_ix_ok {i : Nat} {w : Cond} (h : at_ix i w = true) : w ∈ am_ws := by
  unfold at_ix at h
  rw [Bool.and_eq_true] at h
  exact List.mem_filter.mpr ⟨List.mem_of_getElem? (of_decide_eq_true h.1), h.2⟩
def at_len (i : Instr) (r1 : Nat) : Nat := match i with
  | .bipush _ => 2
  | .sipush _ => 3
  | .ldc _ => 2
  | .getstatic _ => 3
  | .ldc2_w _ => 3
  | .iload _ => 2
  | .lload _ => 2
  | .aload _ => 2
  | .istore _ => 2
  | .lstore _ => 2
  | .astore _ => 2
  | .iinc _ _ => 3
  | .ifCond _ _ => 3
  | .if_icmp _ _ => 3
  | .goto _ => 3
  | .tableswitch _ _ _ _ => r1
  | .lookupswitch _ _ => r1
  | .getfield _ => 3
  | .putfield _ => 3
  | .new _ => 3
  | .newarray _ => 2
  | .anewarray _ => 3
  | .invokevirtual _ => 3
  | .invokespecial _ => 3
  | .invokestatic _ => 3
  | _ => 1
/-- what a call's place needs of the tables -/
def at_call (ps : List Nat) (n : Nat) (y : am_M) : Bool := at_ix (ps.getD 0 0) (.initialized y.1.cls) && decide (y.1.cls ≠ "java/lang/invoke/MethodHandle" ∧ y.1.cls ≠ "java/lang/invoke/VarHandle" ∧ (parseMethodDescriptor y.1.desc).map (fun d => d.parameters.length) = some n) && plainName y.1.cls && decide (y.2.2.1 ≤ 45)
def at_chk (ps : List Nat) (q : am_M) (en : Nat × Instr × Nat × Nat) : Bool := decide (decode q.2.1 en.1 = .ok (en.2.1, at_len en.2.1 en.2.2.1)) && match en.2.1 with
  | .getfield idx => match vwCl[en.2.2.1]? with
    | some cl => decide (en.2.2.2 < cl.2.2) && decide (en.2.2.1 < 100) && at_ix (ps.getD 0 0) (.fieldLink q.1.cls idx (cl.2.1 en.2.2.2).1 (cl.2.1 en.2.2.2).2.1 (cl.2.1 en.2.2.2).2.2.1)
    | none => decide (en.2.2.1 = 901) && ((decide (en.2.2.2 = 0) && at_ix (ps.getD 0 0) (.fieldLink q.1.cls idx "java/lang/String" "value" "[B")) || (decide (en.2.2.2 = 1) && at_ix (ps.getD 0 0) (.fieldLink q.1.cls idx "java/lang/String" "coder" "B")))
  | .getstatic idx => (decide (en.2.2.1 = 1 ∧ en.2.2.2 = 0) && at_ix (ps.getD 0 0) (.fieldLink q.1.cls idx "java/lang/String" "COMPACT_STRINGS" "Z")) || (decide (en.2.2.2 = 1) && at_ix (ps.getD 0 0) (.fieldLink q.1.cls idx "jdk/internal/util/Preconditions" "SIOOBE_FORMATTER" "Ljava/util/function/BiFunction;"))
  | .ldc idx => at_str.any (fun z => decide (z.1 = q.1.cls ∧ z.2.1 = idx ∧ z.2.2.2 = en.2.2.1 ∧ en.2.2.1 < 16))
  | .putfield idx => match vwCl[en.2.2.1]? with
    | some cl => decide (en.2.2.2 < cl.2.2) && decide (en.2.2.1 < 100) && at_ix (ps.getD 0 0) (.fieldLink q.1.cls idx (cl.2.1 en.2.2.2).1 (cl.2.1 en.2.2.2).2.1 (cl.2.1 en.2.2.2).2.2.1) && decide ((cl.2.1 en.2.2.2).2.2.2 = false ∨ ((cl.2.1 en.2.2.2).2.2.2 = true ∧ q.1.name = "<init>" ∧ (cl.2.1 en.2.2.2).1 = q.1.cls))
    | none => false
  | .new idx => match vwCl[en.2.2.1]? with
    | some cl => decide (en.2.2.2 = cl.2.2) && decide (en.2.2.1 < 100) && at_ix (ps.getD 0 0) (.classLink q.1.cls idx cl.1)
    | none => false
  | .newarray t => decide (am_aty (am_atag t) = some (newarray.typeOf t)) && decide (100 ≤ am_atag t ∧ am_atag t < 900) && at_ix (ps.getD 0 0) (.arrayClass (newarray.typeOf t))
  | .anewarray idx => match vwCl[en.2.2.1]? with
    | some cl => decide (en.2.2.1 < 100) && at_ix (ps.getD 0 0) (.classLink q.1.cls idx cl.1) && decide (lw_tbl[ps.getD 1 0]? = some (.arrayOver (.object cl.1)))
    | none => false
  | .ldc2_w idx => at_ix (ps.getD 0 0) (.constantLong q.1.cls idx (Int64.ofNat en.2.2.1))
  | .ifCond _ off => decide (0 ≤ (en.1 : Int) + off)
  | .if_icmp _ off => decide (0 ≤ (en.1 : Int) + off)
  | .goto off => decide (0 ≤ (en.1 : Int) + off)
  | .tableswitch df lo hi offs => decide (0 ≤ (en.1 : Int) + df) && decide ((offs.size : Int) = hi - lo + 1) && offs.toList.all (fun o => decide (0 ≤ (en.1 : Int) + o))
  | .lookupswitch df ps => decide (0 ≤ (en.1 : Int) + df) && ps.toList.all (fun o => decide (0 ≤ (en.1 : Int) + o.2)) && (ps.toList.zip (ps.toList.drop 1)).all (fun (a, next) => a.1 < next.1)
  | .invokevirtual idx => match at_tab[en.2.2.1]? with
    | some y => decide (1 ≤ en.2.2.1 ∧ en.2.2.1 < 1000) && decide (1 ≤ y.2.2.2.2.1) && at_call ps (y.2.2.2.2.1 - 1) y && at_ix (ps.getD 1 0) (.methodLink q.1.cls idx y.1) && at_ix (ps.getD 2 0) (.instanceMethod y.1) && at_ix (ps.getD 3 0) (.selects y.1.cls y.1 y.1) && (match vwCl[y.2.2.2.2.2.1]? with
      | some cl => decide (cl.1 = y.1.cls) && decide (y.2.2.2.2.2.1 < 100)
      | none => decide (y.1.cls = "java/lang/String") && decide (y.2.2.2.2.2.1 = 901))
    | none => false
  | .invokestatic idx => match at_tab[en.2.2.1]? with
    | some y => decide (1 ≤ en.2.2.1 ∧ en.2.2.1 < 1000) && at_call ps y.2.2.2.2.1 y && at_ix (ps.getD 1 0) (.methodLink q.1.cls idx y.1) && at_ix (ps.getD 2 0) (.static y.1)
    | none => (decide (en.2.2.1 = 1001) && at_ix (ps.getD 0 0) (.methodLink q.1.cls idx arraycopyName) && at_ix (ps.getD 1 0) (.native arraycopyName) && at_ix (ps.getD 2 0) (.static arraycopyName) && at_ix (ps.getD 3 0) (.initialized "java/lang/System")) || (decide (en.2.2.1 = 1002) && at_ix (ps.getD 0 0) (.methodLink q.1.cls idx Lib.Math.min.name) && at_ix (ps.getD 1 0) (.static Lib.Math.min.name) && at_ix (ps.getD 2 0) (.initialized "java/lang/Math") && at_ix (ps.getD 3 0) (.code Lib.Math.min.name Lib.Math.min.code 2 (some .int)))
  | .invokespecial idx => match at_tab[en.2.2.1]? with
    | some y => decide (1 ≤ en.2.2.1 ∧ en.2.2.1 < 1000) && decide (1 ≤ y.2.2.2.2.1) && at_call ps (y.2.2.2.2.1 - 1) y && (at_ix (ps.getD 1 0) (.methodLink q.1.cls idx y.1) || decide (Cond.methodLinkNest q.1.cls idx y.1 "TestFinder" ∈ lw_tbl)) && at_ix (ps.getD 2 0) (.instanceMethod y.1) && decide (y.1.name = "<init>") && decide (y.2.2.2.1 = none)
    | none => decide (en.2.2.1 = 1000) && at_ix (ps.getD 0 0) (.methodLink q.1.cls idx Lib.objectInit) && at_ix (ps.getD 1 0) (.instanceMethod Lib.objectInit) && at_ix (ps.getD 2 0) (.code Lib.objectInit ⟨#[0xb1]⟩ 1 none)
  | _ => true
def at_all (q : am_M) : am_C → List (List Nat) → Bool
  | [], _ => true
  | _ :: _, [] => false
  | en :: c, ps :: pl => at_chk ps q en && at_all q c pl
theorem at_all_mem {q : am_M} : ∀ (c : am_C) (pl : List (List Nat)), at_all q c pl = true → ∀ en ∈ c, ∃ ps, at_chk ps q en = true
  | [], _, _, en, h => by cases h
  | _ :: _, [], h, _, _ => by cases h
  | e0 :: c, ps :: pl, h, en, he => by
    rw [at_all, Bool.and_eq_true] at h
    rcases List.mem_cons.mp he with rfl | he
    · exact ⟨ps, h.1⟩
    · exact at_all_mem c pl h.2 en he
theorem at_all_ok {q : am_M} {c : am_C} {pl : List (List Nat)} (h : at_all q c pl = true) : ∀ en ∈ c, ∃ ps, at_chk ps q en = true := at_all_mem c pl h
end
section
theorem sm_aty_obj {ci : Nat} {r : vw_C} (hc : vwCl[ci]? = some r) (h : ci < 100) : am_aty (401 + ci) = some (.object r.1) := by
  unfold am_aty
  split
  all_goals first | omega | skip
  rw [show 401 + ci - 400 = ci + 1 by omega]; dsimp only; rw [hc]
theorem sm_aty_ref {tag : Nat} {ty : FieldType} (h1 : 401 ≤ tag) (h2 : tag < 900) (h : am_aty tag = some ty) : ∃ C, ty = .object C := by
  unfold am_aty at h
  split at h
  all_goals first | omega | skip
  split at h
  · cases h
  · split at h
    · cases h; exact ⟨_, rfl⟩
    · cases h
theorem sm_tagq {tag : Nat} (h : (am_aty tag).isSome = true) : (100 ≤ tag ∧ tag < 900 ∧ (am_aty tag).isSome = true) ∨ tag = 900 ∨ tag = 902 := by
  by_cases h9 : tag = 900
  · exact Or.inr (Or.inl h9)
  · by_cases h8 : tag = 902
    · exact Or.inr (Or.inr h8)
    · refine Or.inl ⟨?_, ?_, h⟩
      · rcases Nat.lt_or_ge tag 100 with z | z
        · unfold am_aty at h
          split at h
          all_goals first | omega | skip
          rw [show tag - 400 = 0 by omega] at h
          cases h
        · exact z
      · rcases Nat.lt_or_ge tag 900 with z | z
        · exact z
        · unfold am_aty at h
          split at h
          all_goals first | omega | skip
          split at h
          · cases h
          · rename_i k hk
            have hv : vwCl.length ≤ 100 := by decide +kernel
            rw [List.getElem?_eq_none (by omega)] at h
            cases h
/-- what was there before: a static, the string constants, links among nest mates -/
def sm_B (s0 : State) (adS : Nat → Nat) : Prop := va_Z "java/lang/String" "COMPACT_STRINGS" "Z" (.int (nI 1)) (fun q => s0.heap.size ≤ q) s0 s0.heap ∧ va_Z "jdk/internal/util/Preconditions" "SIOOBE_FORMATTER" "Ljava/util/function/BiFunction;" (sm_v (sm_g s0 adS) (.retAddr 0)) (fun q => s0.heap.size ≤ q) s0 s0.heap ∧ (∀ q ∈ at_str, vk_R q.1 q.2.1 q.2.2.1 (adS q.2.2.2) s0) ∧ (∀ (own : String) (idx : Nat) (y : MethodName) (host : String), Cond.methodLinkNest own idx y host ∈ lw_tbl → va_Nw (.methodLinkNest own idx y host) s0) ∧ ∀ C : String, Cond.arrayOver (.object C) ∈ lw_tbl → va_AO C s0
/-- where a method of the table runs -/
def sm_X (s0 : State) (D : va_G) (p : Program) (R : Room) (s : State) (m : MethodId) (args : Array Value) (meth : Method) (c : Code) (d : Nat) (q : am_M) : Prop :=
  p.tables.exec = Jvm.exec ∧ c.code = q.2.1 ∧ c.maxLocals = q.2.2.1 ∧ s.vm.findClass q.1.cls = some m.cls ∧ (q.1.name = "<init>" → meth.name = "<init>") ∧ (∀ w ∈ am_ws, w.before args s = true) ∧ s0.WarmedH s.vm ∧ va_K D vwCl [] s ∧ d ≤ R.frames ∧ d * 64 ≤ R.locals
section Sim
variable {s0 : State} {D : va_G} {adS : Nat → Nat} {p : Program} {lau : Launch} {e : Env} {R : Room} {s : State} {m : MethodId} {args : Array Value} {below : List Frame} {meth : Method} {c : Code} {Q : State → Prop} {n0 t0 : Nat}
set_option maxHeartbeats 4000000 in
theorem sm_step (hB : sm_B s0 adS) (hcl : ∀ (ci : Nat) (r : vw_C), vwCl[ci]? = some r → at_clok ci r) {d : Nat} {q : am_M} (X : sm_X s0 D p R s m args meth c d q) {pc r1 r2 : Nat} {i : Instr} {ps : List Nat} (hck : at_chk ps q (pc, i, r1, r2) = true) {l : am_L} {st : List Value} {h : am_H} {pc' : Nat} {l' : am_L} {st' : List Value} {h' : am_H} (hki : am_kind i r1 = 0) (hs : am_step d i r1 r2 pc l st h = some (pc', l', st', h')) (hbud : h'.1.length ≤ R.cells + n0 ∧ am_tot h'.1 ≤ R.slots + t0) (kk : sm_K s0 D adS p lau e R s m args below meth c Q n0 t0 q.2.2.1 pc' l' st' h') : sm_K s0 D adS p lau e R s m args below meth c Q n0 t0 q.2.2.1 pc l st h := by
  obtain ⟨hx, hb, hml, hown, hmn, hts, hwm, hK, hfr, hlo⟩ := X
  have hal := hwm.alike
  unfold at_chk at hck
  dsimp only at hck
  rw [Bool.and_eq_true] at hck
  obtain ⟨hdg0, hck⟩ := hck
  have hdg := of_decide_eq_true hdg0
  clear hdg0
  cases i with
  | iconst n =>
    exact sk_iconst hx hb hdg hs kk
  | bipush n =>
    exact sk_bipush hx hb hdg hs kk
  | sipush n =>
    exact sk_sipush hx hb hdg hs kk
  | lconst n =>
    exact sk_lconst hx hb hdg hs kk
  | iload i =>
    exact sk_iload hx hb hdg hs kk
  | iload_n i =>
    exact sk_iload_n hx hb hdg hs kk
  | lload i =>
    exact sk_lload hx hb hdg hs kk
  | lload_n i =>
    exact sk_lload_n hx hb hdg hs kk
  | aload i =>
    exact sk_aload hx hb hdg hs kk
  | aload_n i =>
    exact sk_aload_n hx hb hdg hs kk
  | istore i =>
    exact sk_istore hx hb hdg hs kk
  | istore_n i =>
    exact sk_istore_n hx hb hdg hs kk
  | lstore i =>
    exact sk_lstore hx hb hdg hs kk
  | lstore_n i =>
    exact sk_lstore_n hx hb hdg hs kk
  | astore i =>
    exact sk_astore hx hb hdg hs kk
  | astore_n i =>
    exact sk_astore_n hx hb hdg hs kk
  | iinc i n =>
    exact sk_iinc hx hb hdg hs kk
  | iadd =>
    exact sk_iadd hx hb hdg hs kk
  | isub =>
    exact sk_isub hx hb hdg hs kk
  | imul =>
    exact sk_imul hx hb hdg hs kk
  | iand =>
    exact sk_iand hx hb hdg hs kk
  | ior =>
    exact sk_ior hx hb hdg hs kk
  | ixor =>
    exact sk_ixor hx hb hdg hs kk
  | ishl =>
    exact sk_ishl hx hb hdg hs kk
  | ishr =>
    exact sk_ishr hx hb hdg hs kk
  | iushr =>
    exact sk_iushr hx hb hdg hs kk
  | ladd =>
    exact sk_ladd hx hb hdg hs kk
  | lsub =>
    exact sk_lsub hx hb hdg hs kk
  | lmul =>
    exact sk_lmul hx hb hdg hs kk
  | land =>
    exact sk_land hx hb hdg hs kk
  | lor =>
    exact sk_lor hx hb hdg hs kk
  | idiv =>
    exact sk_idiv hx hb hdg hs kk
  | irem =>
    exact sk_irem hx hb hdg hs kk
  | ldiv =>
    exact sk_ldiv hx hb hdg hs kk
  | lrem =>
    exact sk_lrem hx hb hdg hs kk
  | lushr =>
    exact sk_lushr hx hb hdg hs kk
  | lshr =>
    exact sk_lshr hx hb hdg hs kk
  | lshl =>
    exact sk_lshl hx hb hdg hs kk
  | lcmp =>
    exact sk_lcmp hx hb hdg hs kk
  | i2l =>
    exact sk_i2l hx hb hdg hs kk
  | l2i =>
    exact sk_l2i hx hb hdg hs kk
  | i2c =>
    exact sk_i2c hx hb hdg hs kk
  | dup =>
    exact sk_dup hx hb hdg hs kk
  | dup2 =>
    exact sk_dup2 hx hb hdg hs kk
  | pop =>
    exact sk_pop hx hb hdg hs kk
  | ifCond cnd off =>
    exact sk_ifCond hx hb (of_decide_eq_true hck) hdg hs kk
  | if_icmp cnd off =>
    exact sk_if_icmp hx hb (of_decide_eq_true hck) hdg hs kk
  | goto off =>
    exact sk_goto hx hb (of_decide_eq_true hck) hdg hs kk
  | tableswitch df lo hi offs =>
    simp only [Bool.and_eq_true, List.all_eq_true, decide_eq_true_eq] at hck
    exact sk_tableswitch hx hb hck.1.1 hck.1.2 hck.2 hdg hs kk
  | lookupswitch df ps =>
    rw [Bool.and_eq_true, Bool.and_eq_true] at hck
    exact sk_lookupswitch hx hb (of_decide_eq_true hck.1.1) (fun o ho => of_decide_eq_true (List.all_eq_true.mp hck.1.2 o ho)) hck.2 hdg hs kk
  | ldc2_w idx =>
    cases hs
    intro H locs ls cells slots hR hlo2 hL hc ht
    exact lv_ldc2 hx hb hown (hts _ (at_ix_ok hck)) hdg (kk H locs ls cells slots hR hlo2 hL hc ht)
  | getfield idx =>
    unfold am_step am_getf at hs
    dsimp only at hs
    split at hs
    · rename_i a r
      split at hs
      · rename_i tag n ha
        split at hs
        · rename_i htag
          have htag := of_decide_eq_true htag
          subst htag
          cases hs
          dsimp only at hck
          split at hck
          · rename_i cl hcl1
            simp only [Bool.and_eq_true] at hck
            obtain ⟨⟨h1, h2⟩, h3⟩ := hck
            exact sk_getfield hx hb hts hown hK hcl1 (hcl _ _ hcl1) (of_decide_eq_true h1) (of_decide_eq_true h2) (at_ix_ok h3) ha hdg kk
          · rw [Bool.and_eq_true, Bool.or_eq_true] at hck
            obtain ⟨h1, h2⟩ := hck
            have h1 := of_decide_eq_true h1
            (try dsimp only at h1)
            subst h1
            refine sk_strf hx hb hts hown hal (k := r2) ?_ ha hdg kk
            rcases h2 with h2 | h2
            · rw [Bool.and_eq_true] at h2
              exact Or.inl ⟨of_decide_eq_true h2.1, at_ix_ok h2.2⟩
            · rw [Bool.and_eq_true] at h2
              exact Or.inr ⟨of_decide_eq_true h2.1, at_ix_ok h2.2⟩
        · cases hs
      · cases hs
    · cases hs
  | getstatic idx =>
    rw [Bool.or_eq_true] at hck
    rcases hck with hck | hck
    · rw [Bool.and_eq_true] at hck
      obtain ⟨e1, e2⟩ := of_decide_eq_true hck.1
      (try dsimp only at e1 e2)
      subst e1
      subst e2
      cases hs
      exact sk_static (v := .int (nI 1)) hx hb hts hown hal hB.1 (at_ix_ok hck.2) hdg kk
    · rw [Bool.and_eq_true] at hck
      have e2 := of_decide_eq_true hck.1
      (try dsimp only at e2)
      subst e2
      cases hs
      exact sk_static (v := .retAddr 0) hx hb hts hown hal hB.2.1 (at_ix_ok hck.2) hdg kk
  | ldc idx =>
    cases hs
    obtain ⟨q9, h9, h8⟩ := List.any_eq_true.mp hck
    have h8 := of_decide_eq_true h8
    (try dsimp only at h8)
    obtain ⟨e1, e2, e3, e4⟩ := h8
    have hk := hB.2.2.1 q9 h9
    rw [e1, e2, e3] at hk
    exact sk_ldc hx hb hwm hown e4 hk hdg kk
  | putfield idx =>
    dsimp only at hck
    split at hck
    · rename_i cl hcl1
      simp only [Bool.and_eq_true] at hck
      obtain ⟨⟨⟨h1, h2⟩, h3⟩, h4⟩ := hck
      skip
      unfold am_step am_putf at hs
      dsimp only at hs
      split at hs
      · rename_i v a r
        split at hs
        · rename_i tag n ha
          split at hs
          · rename_i htag
            have htag := of_decide_eq_true htag
            subst htag
            split at hs
            · rename_i h2x hw
              cases hs
              exact sk_putfield hx hb hts hown hK hcl1 (hcl _ _ hcl1) (of_decide_eq_true h1) (of_decide_eq_true h2) (at_ix_ok h3) ((of_decide_eq_true h4).imp id (fun z => ⟨z.1, hmn z.2.1, z.2.2⟩)) ha hw hdg kk
            · cases hs
          · cases hs
        · cases hs
      · cases hs
    · cases hck
  | new idx =>
    dsimp only at hck
    split at hck
    · rename_i cl hcl1
      simp only [Bool.and_eq_true] at hck
      obtain ⟨⟨h1, h2⟩, h3⟩ := hck
      have h1 := of_decide_eq_true h1
      (try dsimp only at h1)
      subst h1
      unfold am_step am_new at hs
      cases hs
      exact sk_new hx hb hts hown hK hcl1 (hcl _ _ hcl1) (of_decide_eq_true h2) (at_ix_ok h3) ⟨by simpa [am_born] using hbud.1, by rw [← am_tot_born]; exact hbud.2⟩ hdg kk
    · cases hck
  | newarray t =>
    simp only [Bool.and_eq_true] at hck
    obtain ⟨⟨h1, h2⟩, h3⟩ := hck
    have h1 := of_decide_eq_true h1
    have h2 := of_decide_eq_true h2
    unfold am_step am_newa at hs
    dsimp only at hs
    split at hs
    · rename_i n r
      split at hs
      · rename_i hn
        cases hs
        exact sk_newarray hx hb hts hal rfl h2.1 h2.2 h1 rfl (at_ix_ok h3) hn ⟨by simpa [am_born] using hbud.1, by rw [← am_tot_born]; exact hbud.2⟩ hdg kk
      · cases hs
    · cases hs
  | anewarray idx =>
    dsimp only at hck
    split at hck
    · rename_i cl hcl1
      simp only [Bool.and_eq_true] at hck
      obtain ⟨⟨h1, h2⟩, h3⟩ := hck
      have h1 := of_decide_eq_true h1
      (try dsimp only at h1)
      unfold am_step am_newa at hs
      dsimp only at hs
      split at hs
      · rename_i n r
        split at hs
        · rename_i hn
          cases hs
          exact sk_anewarray hx hb hts hown hal (by omega) (by omega) (sm_aty_obj hcl1 h1) (at_ix_ok h2) (hB.2.2.2.2 _ (List.mem_of_getElem? (of_decide_eq_true h3))) hn ⟨by simpa [am_born] using hbud.1, by rw [← am_tot_born]; exact hbud.2⟩ hdg kk
        · cases hs
      · cases hs
    · cases hck
  | arraylength =>
    unfold am_step am_alen at hs
    dsimp only at hs
    split at hs
    · rename_i a r
      split at hs
      · rename_i tag n ha
        split at hs
        · rename_i hq
          have hq := of_decide_eq_true hq
          cases hs
          exact sk_arraylength hx hb hal ha (sm_tagq hq.2) hdg kk
        · cases hs
      · cases hs
    · cases hs
  | iaload =>
    unfold am_step am_ald at hs
    dsimp only at hs
    split at hs
    · rename_i j a r
      split at hs
      · rename_i tag n ha
        split at hs
        · rename_i hp
          split at hs
          · rename_i ty hty
            split at hs
            · rename_i hj
              cases hs
              simp only [Bool.or_eq_true, beq_iff_eq] at hp
              rcases hp with rfl | rfl
              · cases hty
                exact sk_iaload hx hb hal ha hj hdg kk
              · cases hty
                exact sk_script hx hb hal ha hj hdg kk
            · cases hs
          · cases hs
        · cases hs
      · cases hs
    · cases hs
  | baload =>
    unfold am_step am_ald at hs
    dsimp only at hs
    split at hs
    · rename_i j a r
      split at hs
      · rename_i tag n ha
        split at hs
        · rename_i hp
          split at hs
          · rename_i ty hty
            split at hs
            · rename_i hj
              cases hs
              simp only [Bool.or_eq_true, beq_iff_eq] at hp
              rcases hp with rfl | rfl
              · cases hty
                exact sk_baload hx hb hal ha hj hdg kk
              · cases hty
                exact sk_strb hx hb hal ha hj hdg kk
            · cases hs
          · cases hs
        · cases hs
      · cases hs
    · cases hs
  | laload =>
    unfold am_step am_ald at hs
    dsimp only at hs
    split at hs
    · rename_i j a r
      split at hs
      · rename_i tag n ha
        split at hs
        · rename_i hp
          split at hs
          · rename_i ty hty
            split at hs
            · rename_i hj
              cases hs
              simp only [beq_iff_eq] at hp
              subst hp
              cases hty
              exact sk_laload hx hb hal ha hj hdg kk
            · cases hs
          · cases hs
        · cases hs
      · cases hs
    · cases hs
  | caload =>
    unfold am_step am_ald at hs
    dsimp only at hs
    split at hs
    · rename_i j a r
      split at hs
      · rename_i tag n ha
        split at hs
        · rename_i hp
          split at hs
          · rename_i ty hty
            split at hs
            · rename_i hj
              cases hs
              simp only [beq_iff_eq] at hp
              subst hp
              cases hty
              exact sk_caload hx hb hal ha hj hdg kk
            · cases hs
          · cases hs
        · cases hs
      · cases hs
    · cases hs
  | aaload =>
    unfold am_step am_ald at hs
    dsimp only at hs
    split at hs
    · rename_i j a r
      split at hs
      · rename_i tag n ha
        split at hs
        · rename_i hp
          split at hs
          · rename_i ty hty
            split at hs
            · rename_i hj
              cases hs
              have hp := of_decide_eq_true hp
              obtain ⟨C, rfl⟩ := sm_aty_ref hp.1 hp.2 hty
              exact sk_aaload hx hb hal ha hp.1 hp.2 hty hj hdg kk
            · cases hs
          · cases hs
        · cases hs
      · cases hs
    · cases hs
  | iastore =>
    unfold am_step am_iast at hs
    dsimp only at hs
    split at hs
    · rename_i x j a r
      split at hs
      · rename_i tag n ha
        split at hs
        · rename_i hp
          split at hs
          · rename_i ty hty
            split at hs
            · rename_i hj
              cases hs
              simp only [beq_iff_eq] at hp
              subst hp
              cases hty
              exact sk_iastore hx hb hal ha hj hdg kk
            · cases hs
          · cases hs
        · cases hs
      · cases hs
    · cases hs
  | castore =>
    unfold am_step am_iast at hs
    dsimp only at hs
    split at hs
    · rename_i x j a r
      split at hs
      · rename_i tag n ha
        split at hs
        · rename_i hp
          split at hs
          · rename_i ty hty
            split at hs
            · rename_i hj
              cases hs
              simp only [beq_iff_eq] at hp
              subst hp
              cases hty
              exact sk_castore hx hb hal ha hj hdg kk
            · cases hs
          · cases hs
        · cases hs
      · cases hs
    · cases hs
  | bastore =>
    unfold am_step am_iast at hs
    dsimp only at hs
    split at hs
    · rename_i x j a r
      split at hs
      · rename_i tag n ha
        split at hs
        · rename_i hp
          split at hs
          · rename_i ty hty
            split at hs
            · rename_i hj
              cases hs
              simp only [beq_iff_eq] at hp
              subst hp
              cases hty
              exact sk_bastore hx hb hal ha hj hdg kk
            · cases hs
          · cases hs
        · cases hs
      · cases hs
    · cases hs
  | lastore =>
    unfold am_step am_last at hs
    dsimp only at hs
    split at hs
    · rename_i x j a r
      split at hs
      · rename_i n ha
        split at hs
        · rename_i hj
          cases hs
          exact sk_lastore hx hb hal ha hj hdg kk
        · cases hs
      · cases hs
    · cases hs
  | aastore =>
    unfold am_step am_aast at hs
    dsimp only at hs
    split at hs
    · rename_i v j a r
      split at hs
      · rename_i tag n ha
        split at hs
        · rename_i tv nv hv
          split at hs
          · rename_i hq
            have hq := of_decide_eq_true hq
            obtain ⟨rfl, hq2, hq3⟩ := hq
            split at hs
            · rename_i hj
              cases hs
              intro H locs ls cells slots hR hlo2 hL hc ht
              obtain ⟨r9, h9, -⟩ := (hR.2.2.2.2 v tv nv hv).1 hq2
              exact sk_aastore hx hb hal hK h9 hq2 ha hv hj hdg kk H locs ls cells slots hR hlo2 hL hc ht
            · cases hs
          · cases hs
        · cases hs
      · cases hs
    · cases hs
  | invokevirtual idx =>
    dsimp only at hck
    split at hck
    · rename_i y hy
      simp only [Bool.and_eq_true] at hck
      obtain ⟨⟨⟨⟨⟨⟨h1, -⟩, -⟩, -⟩, -⟩, -⟩, -⟩ := hck
      have h1 := of_decide_eq_true h1
      (try dsimp only at h1)
      simp [am_kind, h1.2] at hki
    · cases hck
  | invokespecial idx =>
    dsimp only at hck
    split at hck
    · rename_i y hy
      simp only [Bool.and_eq_true] at hck
      obtain ⟨⟨⟨⟨⟨⟨h1, -⟩, -⟩, -⟩, -⟩, -⟩, -⟩ := hck
      have h1 := of_decide_eq_true h1
      (try dsimp only at h1)
      simp [am_kind, h1.2] at hki
    · simp only [Bool.and_eq_true] at hck
      obtain ⟨⟨⟨h1, w1⟩, w2⟩, w3⟩ := hck
      have h1 := of_decide_eq_true h1
      (try dsimp only at h1)
      subst h1
      cases d with
      | zero => cases hs
      | succ d =>
        have hs : am_sp0 pc l st h = some (pc', l', st', h') := hs
        unfold am_sp0 at hs
        split at hs
        · rename_i a r
          split at hs
          · rename_i hcat
            cases hs
            exact sk_objInit hx hb hts hown hml (at_ix_ok w1) (at_ix_ok w2) (at_ix_ok w3) (of_decide_eq_true hcat) (by omega) (by omega) hdg kk
          · cases hs
        · cases hs
  | invokestatic idx =>
    dsimp only at hck
    split at hck
    · rename_i y hy
      simp only [Bool.and_eq_true] at hck
      obtain ⟨⟨⟨h1, -⟩, -⟩, -⟩ := hck
      have h1 := of_decide_eq_true h1
      (try dsimp only at h1)
      simp [am_kind, h1.2] at hki
    · rw [Bool.or_eq_true] at hck
      rcases hck with hck | hck
      · simp only [Bool.and_eq_true] at hck
        obtain ⟨⟨⟨⟨h1, w1⟩, w2⟩, w3⟩, w4⟩ := hck
        have h1 := of_decide_eq_true h1
        (try dsimp only at h1)
        subst h1
        cases d with
        | zero => cases hs
        | succ d =>
          have hs : am_sp1 pc l st h = some (pc', l', st', h') := hs
          unfold am_sp1 at hs
          split at hs
          · rename_i n dp b sp a r
            split at hs
            · rename_i ta na ha
              split at hs
              · rename_i tb nb hbb
                split at hs
                · rename_i hq
                  obtain ⟨rfl, rfl, hz⟩ := of_decide_eq_true hq
                  cases hs
                  exact sk_copy hx hb hts hown hml hal (at_ix_ok w1) (at_ix_ok w2) (at_ix_ok w3) (at_ix_ok w4) ha hbb hz.1 hz.2.1 hz.2.2.1 hz.2.2.2.1 hz.2.2.2.2.1 hz.2.2.2.2.2.1 hz.2.2.2.2.2.2 (by omega) (by omega) hdg kk
                · cases hs
              · cases hs
            · cases hs
          · cases hs
      · simp only [Bool.and_eq_true] at hck
        obtain ⟨⟨⟨⟨h1, w1⟩, w2⟩, w3⟩, w4⟩ := hck
        have h1 := of_decide_eq_true h1
        (try dsimp only at h1)
        subst h1
        cases d with
        | zero => cases hs
        | succ d =>
          have hs : am_sp2 pc l st h = some (pc', l', st', h') := hs
          unfold am_sp2 at hs
          split at hs
          · rename_i y x r
            split at hs
            · rename_i hcat
              cases hs
              exact sk_min hx hb hts hown hml (at_ix_ok w1) (at_ix_ok w2) (at_ix_ok w3) (at_ix_ok w4) (of_decide_eq_true hcat) (by omega) (by omega) hbud hdg kk
            · cases hs
          · cases hs
  | _ => cases hs
end Sim
end
section
/-! the heap's list of cells only grows -/
def am_ge (h' h : am_H) : Prop := h.1.length ≤ h'.1.length ∧ am_tot h.1 ≤ am_tot h'.1
theorem am_ge_rf (h : am_H) : am_ge h h := ⟨Nat.le_refl _, Nat.le_refl _⟩
theorem am_ge_eq {h h' : am_H} (e : h'.1 = h.1) : am_ge h' h := by unfold am_ge; rw [e]; exact ⟨Nat.le_refl _, Nat.le_refl _⟩
theorem am_ge_born (h : am_H) (tag n : Nat) : am_ge (am_born h tag n) h := ⟨by simp [am_born], by rw [am_tot_born]; omega⟩
theorem am_ge.trans {a b c : am_H} (h1 : am_ge a b) (h2 : am_ge b c) : am_ge a c := ⟨Nat.le_trans h2.1 h1.1, Nat.le_trans h2.2 h1.2⟩
set_option maxHeartbeats 4000000 in
theorem am_step_ge {d : Nat} {i : Instr} {r1 r2 pc : Nat} {l : am_L} {st : List Value} {h : am_H} {pc' : Nat} {l' : am_L} {st' : List Value} {h' : am_H} (hs : am_step d i r1 r2 pc l st h = some (pc', l', st', h')) : am_ge h' h := by
  cases i with
  | putfield idx =>
    unfold am_step am_putf at hs
    (try dsimp only at hs)
    repeat' split at hs
    all_goals first | (cases hs; done) | skip
    rename_i hw
    cases hs
    exact am_ge_eq (am_wr_ok id hw).1
  | new idx => unfold am_step am_new at hs; cases hs; exact am_ge_born _ _ _
  | newarray t =>
    unfold am_step am_newa at hs
    (try dsimp only at hs)
    repeat' split at hs
    all_goals first | (cases hs; done) | skip
    cases hs; exact am_ge_born _ _ _
  | anewarray t =>
    unfold am_step am_newa at hs
    (try dsimp only at hs)
    repeat' split at hs
    all_goals first | (cases hs; done) | skip
    cases hs; exact am_ge_born _ _ _
  | invokevirtual idx =>
    unfold am_step am_spec am_sp0 am_sp1 am_sp2 at hs
    (try dsimp only at hs)
    repeat' split at hs
    all_goals first | (cases hs; done) | (cases hs; exact am_ge_eq rfl)
  | invokespecial idx =>
    unfold am_step am_spec am_sp0 am_sp1 am_sp2 at hs
    (try dsimp only at hs)
    repeat' split at hs
    all_goals first | (cases hs; done) | (cases hs; exact am_ge_eq rfl)
  | invokestatic idx =>
    unfold am_step am_spec am_sp0 am_sp1 am_sp2 at hs
    (try dsimp only at hs)
    repeat' split at hs
    all_goals first | (cases hs; done) | (cases hs; exact am_ge_eq rfl)
  | _ =>
    first
      | (cases hs; done)
      | (unfold am_step at hs; cases hs; exact am_ge_rf _)
      | (simp only [am_step, am_ii, am_ll, am_iid, am_lld, am_li, am_iload, am_lload, am_aload, am_istore, am_lstore, am_astore, am_ald, am_iast, am_last, am_aast, am_getf, am_alen] at hs
         repeat' split at hs
         all_goals first | (cases hs; done) | (cases hs; exact am_ge_eq rfl))
theorem am_ret_same {mid : Nat} {i : Instr} {st : List Value} {h h' : am_H} {v : Option Value} (hs : am_ret mid i st h = some (v, h')) : h' = h := by
  unfold am_ret at hs
  repeat' split at hs
  all_goals first | (cases hs; done) | (cases hs; rfl)
theorem am_run_ge : ∀ (n d mid pc : Nat) (l : am_L) (st : List Value) (h : am_H) (v : Option Value) (h' : am_H), am_run n d mid pc l st h = some (v, h') → am_ge h' h := by
  intro n
  induction n with
  | zero => intro d mid pc l st h v h' hr; simp [am_run] at hr
  | succ n ih =>
    intro d mid pc l st h v h' hr
    rw [am_run] at hr
    cases hf : am_find (am_code mid) pc with
    | none => rw [hf] at hr; cases hr
    | some q =>
      obtain ⟨i, r1, r2⟩ := q
      rw [hf] at hr
      (try dsimp only at hr)
      cases hk : am_kind i r1 with
      | zero =>
        rw [hk] at hr
        (try dsimp only at hr)
        cases hs : am_step d i r1 r2 pc l st h with
        | none => rw [hs] at hr; cases hr
        | some s' =>
          obtain ⟨pc1, l1, st1, h1⟩ := s'
          rw [hs] at hr
          exact (ih _ _ _ _ _ _ _ _ hr).trans (am_step_ge hs)
      | succ k =>
        rw [hk] at hr
        cases k with
        | zero => rw [am_ret_same hr]; exact am_ge_rf _
        | succ k =>
          (try dsimp only at hr)
          cases hc : am_call d i r1 st h with
          | none => rw [hc] at hr; cases hr
          | some q =>
            obtain ⟨d', l0, rest⟩ := q
            rw [hc] at hr
            (try dsimp only at hr)
            cases hq : am_run n d' r1 0 l0 [] h with
            | none => rw [hq] at hr; cases hr
            | some q2 =>
              obtain ⟨v1, h1⟩ := q2
              rw [hq] at hr
              exact (ih _ _ _ _ _ _ _ _ hr).trans (ih _ _ _ _ _ _ _ _ hq)
/-! a method's first locals -/
theorem am_args_mem {g : Nat → Nat} : ∀ (vs : List Value) (i k : Nat) (v : Value), am_get (am_args vs) k = some v → (i + k, sm_v g v) ∈ lv_args i (vs.map (sm_v g)) := by
  intro vs
  induction vs with
  | nil => intro i k v h; simp [am_args, am_get] at h
  | cons w vs ih =>
    have one : ∀ (i k : Nat) (v : Value), w.category = 1 → am_get (some w :: am_args vs) k = some v → (i + k, sm_v g v) ∈ lv_args i ((w :: vs).map (sm_v g)) := by
      intro i k v hc h
      rw [List.map_cons, lv_args, sm_v_cat, if_neg (by omega)]
      cases k with
      | zero =>
        simp [am_get] at h
        subst h
        exact List.mem_cons_self
      | succ k =>
        have := ih (i + 1) k v (by simpa [am_get] using h)
        rw [show i + 1 + k = i + (k + 1) by omega] at this
        exact List.mem_cons_of_mem _ this
    have two : ∀ (i k : Nat) (v : Value), w.category = 2 → am_get (some w :: none :: am_args vs) k = some v → (i + k, sm_v g v) ∈ lv_args i ((w :: vs).map (sm_v g)) := by
      intro i k v hc h
      rw [List.map_cons, lv_args, sm_v_cat, if_pos hc]
      cases k with
      | zero =>
        simp [am_get] at h
        subst h
        exact List.mem_cons_self
      | succ k =>
        cases k with
        | zero => simp [am_get] at h
        | succ k =>
          have := ih (i + 2) k v (by simpa [am_get] using h)
          rw [show i + 2 + k = i + (k + 1 + 1) by omega] at this
          exact List.mem_cons_of_mem _ this
    intro i k v h
    cases w with
    | long x => exact two i k v rfl h
    | double x => exact two i k v rfl h
    | int x => exact one i k v rfl h
    | float x => exact one i k v rfl h
    | null => exact one i k v rfl h
    | ref x => exact one i k v rfl h
    | retAddr x => exact one i k v rfl h
theorem am_args_len (g : Nat → Nat) : ∀ (vs : List Value), (lg_sl (vs.map (sm_v g))).length = (am_args vs).length := by
  intro vs
  induction vs with
  | nil => rfl
  | cons w vs ih =>
    have e : lg_sl ((w :: vs).map (sm_v g)) = (if w.category = 2 then [.val (sm_v g w), .second] else [.val (sm_v g w)]) ++ lg_sl (vs.map (sm_v g)) := by
      simp [lg_sl, sm_v_cat]
    rw [e, List.length_append, ih]
    cases w <;> simp [am_args, Value.category] <;> omega
theorem sm_entry {g : Nat → Nat} {n : Nat} {vs : List Value} (h : (am_args vs).length ≤ n) : sm_LR g ((lg_sl (vs.map (sm_v g)) ++ List.replicate (n - (lg_sl (vs.map (sm_v g))).length) Slot.unset).toArray) n (am_ent n vs) := by
  have hl := lv_entry (vs.map (sm_v g)) (n := n) (by rw [am_args_len]; exact h)
  refine ⟨hl.1, hl.2.1, ?_, fun k v hk => ?_⟩
  · simp [am_ent]; omega
  · have : am_get (am_args vs) k = some v := by
      unfold am_get am_ent at hk
      rcases Nat.lt_or_ge k (am_args vs).length with z | z
      · rw [List.getElem?_append_left z] at hk
        exact hk
      · rw [List.getElem?_append_right z, List.getElem?_replicate] at hk
        split at hk
        · rename_i o ho
          split at ho
          · cases ho; cases hk
          · cases ho
        · cases hk
    have := am_args_mem (g := g) vs 0 k v this
    rw [Nat.zero_add] at this
    exact hl.2.2 (k, sm_v g v) this
theorem am_find_mem {i : Instr} {r1 r2 pc : Nat} : ∀ (c : am_C), am_find c pc = some (i, r1, r2) → (pc, i, r1, r2) ∈ c
  | [], h => by simp [am_find] at h
  | (k, i', a, b) :: c, h => by
    unfold am_find at h
    split at h
    · rename_i hk
      have hk := of_decide_eq_true hk
      subst hk
      cases h
      exact List.mem_cons_self
    · exact List.mem_cons_of_mem _ (am_find_mem c h)
/-! a method's end -/
def sm_free (s0 : State) : Addr → Prop := fun x => s0.heap.size ≤ x
section Sim
variable {s0 : State} {D : va_G} {adS : Nat → Nat}
def sm_Pc (s0 : State) (D : va_G) (adS : Nat → Nat) (h : am_H) (vs : List Value) : Array Value → State → Prop := fun a U => a = (vs.map (sm_v (sm_g s0 adS))).toArray ∧ sm_HR s0 D adS h U.heap ∧ s0.WarmedH U.vm
def sm_Qc (s0 : State) (D : va_G) (adS : Nat → Nat) (h' : am_H) (v : Option Value) : Array Value → State → Outcome → State → Prop := fun _ _ o t => o = .returned (v.map (sm_v (sm_g s0 adS))) ∧ sm_HR s0 D adS h' t.heap
theorem sm_end {p : Program} {lau : Launch} {e : Env} {R : Room} {s : State} {m : MethodId} {args : Array Value} {below : List Frame} {meth : Method} {c : Code} {mid : Nat} {q : am_M} (hq : at_tab[mid]? = some q) (hx : p.tables.exec = Jvm.exec) (hb : c.code = q.2.1) (hr : meth.sig.returnType = q.2.2.2.1) (hlocks : meth.locks = false) {i : Instr} {pc : Nat} {st : List Value} {h' : am_H} {v : Option Value} (hret : am_ret mid i st h' = some (v, h')) (hdg : decode q.2.1 pc = .ok (i, 1)) {H : Heap} {locs : List Loc} {ls : Array Slot} {cells slots : Nat} (hR : sm_HR s0 D adS h' H) (hlo : ∀ x ∈ locs, s0.heap.size ≤ x.base) :
    W p lau e R s m args below meth c H locs cells slots (MQ below (sm_Qc s0 D adS h' v) args s cells slots (sm_free s0)) (F0 m pc ls (st.map (sm_v (sm_g s0 adS)))) := by
  unfold am_ret at hret
  rw [hq] at hret
  dsimp only at hret
  split at hret
  · rename_i v1 ty hty
    split at hret
    · rename_i hf
      cases hret
      exact W.zret hx hb (hr.trans hty) (am_fit_ok hf).1 (fun t ht hW => ⟨rfl, by rw [ht]; exact hR⟩) hlo hdg hlocks
    · cases hret
  · rename_i v1 hty
    cases hret
    exact W.lret hx hb (hr.trans hty) (fun t ht hW => ⟨rfl, by rw [ht]; exact hR⟩) hlo hdg hlocks
  · rename_i a C hty
    cases hret
    exact W.aret hx hb (hr.trans hty) (Or.inl ⟨_, rfl⟩) (Or.inr ⟨_, rfl⟩) (fun t ht hW => ⟨rfl, by rw [ht]; exact hR⟩) hlo hdg hlocks
  · rename_i a C hty
    cases hret
    exact W.aret hx hb (hr.trans hty) (Or.inr ⟨_, rfl⟩) (Or.inr ⟨_, rfl⟩) (fun t ht hW => ⟨rfl, by rw [ht]; exact hR⟩) hlo hdg hlocks
  · rename_i hty
    cases hret
    exact W.vret hx hb (hr.trans hty) (fun t ht hW => ⟨rfl, by rw [ht]; exact hR⟩) hlo hdg hlocks
  · cases hret
theorem am_ws_good : ∀ w ∈ am_ws, w ∈ am_ws ∧ ((w.onTables && w.keeps) = true ∨ ∃ ty, w = .arrayClass ty) := fun w hw => ⟨hw, good_of_word (List.mem_filter.mp hw).2⟩
/-- the words under which every method of the table is called -/
def sm_ws (q : am_M) : List Cond := Cond.code q.1 q.2.1 q.2.2.1 q.2.2.2.1 :: am_ws
def sm_rm (d mc ms : Nat) : Room := { frames := d, cells := mc, slots := ms, locals := d * 64 }
set_option maxHeartbeats 4000000 in
theorem sm_main (hB : sm_B s0 adS) (hcl : ∀ (ci : Nat) (r : vw_C), vwCl[ci]? = some r → at_clok ci r) (hok : ∀ (mid : Nat) (q : am_M), at_tab[mid]? = some q → ∀ en ∈ q.2.2.2.2.2.2, ∃ ps, at_chk ps q en = true) (hcd : ∀ (mid : Nat) (q : am_M), 1 ≤ mid → at_tab[mid]? = some q → Cond.code q.1 q.2.1 q.2.2.1 q.2.2.2.1 ∈ am_ws) (hK0 : va_K D vwCl [] s0) : ∀ (n d mid pc : Nat) (l : am_L) (st : List Value) (h : am_H) (v : Option Value) (h' : am_H), am_run n d mid pc l st h = some (v, h') →
    ∀ {p : Program} {lau : Launch} {e : Env} {R : Room} {s : State} {m : MethodId} {args : Array Value} {below : List Frame} {meth : Method} {c : Code} {Q : State → Prop} {n0 t0 : Nat} {q : am_M}, at_tab[mid]? = some q → sm_X s0 D p R s m args meth c d q → h'.1.length ≤ R.cells + n0 → am_tot h'.1 ≤ R.slots + t0 →
    (∀ (pc : Nat) (l : am_L) (st : List Value) (i : Instr), am_ret mid i st h' = some (v, h') → decode q.2.1 pc = .ok (i, 1) → sm_K s0 D adS p lau e R s m args below meth c Q n0 t0 q.2.2.1 pc l st h') →
    sm_K s0 D adS p lau e R s m args below meth c Q n0 t0 q.2.2.1 pc l st h := by
  intro n
  induction n with
  | zero => intro d mid pc l st h v h' hr; simp [am_run] at hr
  | succ n ih =>
    intro d mid pc l st h v h' hr p lau e R s m args below meth c Q n0 t0 q hq X hb1 hb2 hfin
    rw [am_run] at hr
    cases hf : am_find (am_code mid) pc with
    | none => rw [hf] at hr; cases hr
    | some en =>
      obtain ⟨i, r1, r2⟩ := en
      rw [hf] at hr
      (try dsimp only at hr)
      have hcode : am_code mid = q.2.2.2.2.2.2 := by unfold am_code; rw [hq]
      obtain ⟨ps, hck⟩ := hok mid q hq _ (am_find_mem _ (hcode ▸ hf))
      cases hk : am_kind i r1 with
      | zero =>
        rw [hk] at hr
        (try dsimp only at hr)
        cases hs : am_step d i r1 r2 pc l st h with
        | none => rw [hs] at hr; cases hr
        | some s' =>
          obtain ⟨pc1, l1, st1, h1⟩ := s'
          rw [hs] at hr
          have g := am_run_ge _ _ _ _ _ _ _ _ _ hr
          exact sm_step hB hcl X hck hk hs ⟨Nat.le_trans g.1 hb1, Nat.le_trans g.2 hb2⟩ (ih _ _ _ _ _ _ _ _ hr hq X hb1 hb2 hfin)
      | succ k =>
        rw [hk] at hr
        cases k with
        | zero =>
          (try dsimp only at hr)
          have e1 := am_ret_same hr
          subst e1
          refine hfin pc l st i hr ?_
          unfold at_chk at hck
          rw [Bool.and_eq_true] at hck
          have hdg := of_decide_eq_true hck.1
          dsimp only at hdg
          rw [show at_len i r1 = 1 by cases i <;> first | rfl | (simp [am_kind] at hk; done) | (exfalso; unfold am_kind at hk; dsimp only at hk; split at hk <;> cases hk)] at hdg
          exact hdg
        | succ k =>
          (try dsimp only at hr)
          cases hc : am_call d i r1 st h with
          | none => rw [hc] at hr; cases hr
          | some q0 =>
            obtain ⟨d', l0, rest⟩ := q0
            rw [hc] at hr
            (try dsimp only at hr)
            cases hq2 : am_run n d' r1 0 l0 [] h with
            | none => rw [hq2] at hr; cases hr
            | some q3 =>
              obtain ⟨v1, h1⟩ := q3
              rw [hq2] at hr
              (try dsimp only at hr)
              have kk := ih _ _ _ _ _ _ _ _ hr hq X hb1 hb2 hfin
              have g1 := am_run_ge _ _ _ _ _ _ _ _ _ hr
              have g2 := am_run_ge _ _ _ _ _ _ _ _ _ hq2
              obtain ⟨hx, hb, hml, hown, hmn, hts, hwm, hK, hfr, hlo⟩ := X
              -- the callee
              unfold am_call at hc
              split at hc
              · cases hc
              · rename_i d1
                split at hc
                · cases hc
                · rename_i y hy
                  split at hc
                  · cases hc
                  · rename_i hcond
                    have hcond := of_decide_eq_true hcond
                    obtain ⟨hc1, hc2, hc3⟩ := hcond
                    -- what the table says of the callee, by its contract
                    have met : Cond.code y.1 y.2.1 y.2.2.1 y.2.2.2.1 ∈ am_ws → plainName y.1.cls = true → d' = d1 → l0 = am_ent y.2.2.1 (st.take y.2.2.2.2.1).reverse → Met lau y.1 (sm_ws y) (sm_rm d1 (h1.1.length - h.1.length) (am_tot h1.1 - am_tot h.1)) (sm_Pc s0 D adS h (st.take y.2.2.2.2.1).reverse) (sm_Qc s0 D adS h1 v1) (h1.1.length - h.1.length) (am_tot h1.1 - am_tot h.1) (sm_free s0) := by
                      intro hcodeW hpl e1 e2
                      subst e1
                      subst e2
                      refine Met.ofW (cc := y.2.1) (maxL := y.2.2.1) (ret := y.2.2.2.1) hpl rfl ?_
                      intro p e s m args below meth c s₁ B hml2 hv
                      obtain ⟨rfl, hR, hW⟩ := hv
                      have hts2 := atoms_spec (ws := sm_ws y) B.pre
                      have hX2 : sm_X s0 D p (headSpec (sm_ws y) (sm_rm d' (h1.1.length - h.1.length) (am_tot h1.1 - am_tot h.1))).room s m _ meth c d' y := ⟨B.exec, B.bytes, hml2, findClass_of_methodNamed B.named, fun hn => (name_of_methodNamed B.named B.method).1.trans hn, fun w hw => hts2 w (List.mem_cons_of_mem _ hw), hW, va_K.moved hW.alike hK0, Nat.le_refl _, Nat.le_refl _⟩
                      have hlocks := B.notSynchronized
                      have hrr := B.returns
                      have K := ih d' r1 0 _ [] h v1 h1 hq2 (lau := lau) (e := e) (below := below) (Q := MQ below (sm_Qc s0 D adS h1 v1) _ s (h1.1.length - h.1.length) (am_tot h1.1 - am_tot h.1) (sm_free s0)) (n0 := h.1.length) (t0 := am_tot h.1) hy hX2 (by show _ ≤ h1.1.length - h.1.length + h.1.length; have := g2.1; omega) (by show _ ≤ am_tot h1.1 - am_tot h.1 + am_tot h.1; have := g2.2; omega) (by
                        intro pc2 l2 st2 i2 hret hdg2 H2 locs2 ls2 cells2 slots2 hR2 hlo2 hL2 hcc2 htt2
                        have e1 : cells2 = h1.1.length - h.1.length := by omega
                        have e2 : slots2 = am_tot h1.1 - am_tot h.1 := by omega
                        subst e1
                        subst e2
                        exact sm_end hy B.exec B.bytes hrr hlocks hret hdg2 hR2 hlo2)
                      rw [lg_entry_eq]
                      exact K s.heap [] _ 0 0 hR (fun _ hq => by cases hq) (sm_entry hc3) (Nat.zero_add _) (Nat.zero_add _)
                    -- behind the call
                    have back : ∀ {index : Nat} {H : Heap} {locs : List Loc} {ls : Array Slot} {cells slots : Nat} {a : Array Value}, (∀ x ∈ locs, s0.heap.size ≤ x.base) → sm_LR (sm_g s0 adS) ls q.2.2.1 l → cells + n0 = h.1.length → slots + t0 = am_tot h.1 → rest = st.drop y.2.2.2.2.1 → va_Run p lau e R s m args below meth c H locs cells slots (h1.1.length - h.1.length) (am_tot h1.1 - am_tot h.1) (F0 m pc ls (st.map (sm_v (sm_g s0 adS)))) (rest.map (sm_v (sm_g s0 adS))) (sm_Qc s0 D adS h1 v1 a) (sm_free s0) → W p lau e R s m args below meth c H locs cells slots Q (F0 m pc ls (st.map (sm_v (sm_g s0 adS)))) := by
                      intro index H locs ls cells slots a hlo2 hL2 hcc2 htt2 _ hrun T hT XT
                      obtain ⟨v', st₀, t, T', L, j0, X', jL, j1, j2, ⟨jv, jR⟩, step⟩ := hrun T hT XT
                      cases jv
                      have K := kk T'.heap (locs ++ L) ls (cells + (h1.1.length - h.1.length)) (slots + (am_tot h1.1 - am_tot h.1)) (by rw [j1]; exact jR) (fun x hx => by
                        rcases List.mem_append.mp hx with z | z
                        · exact hlo2 x z
                        · exact jL x z) hL2 (by have := g2.1; omega) (by have := g2.2; omega) T' rfl X'
                      obtain ⟨t2, s1, s2⟩ := K
                      refine ⟨t2, step t2 ?_, s2⟩
                      rw [show (v1.map (sm_v (sm_g s0 adS))).toList ++ rest.map (sm_v (sm_g s0 adS)) = (v1.toList ++ rest).map (sm_v (sm_g s0 adS)) by cases v1 <;> simp]
                      exact s1
                    have hts' : ∀ w ∈ am_ws, w.before args s = true := hts
                    have pre0 : ∀ (H : Heap), sm_HR s0 D adS h H → ∀ U : State, U.heap = H → s.WarmedH U.vm → sm_Pc s0 D adS h (st.take y.2.2.2.2.1).reverse ((st.take y.2.2.2.2.1).reverse.map (sm_v (sm_g s0 adS))).toArray U := fun H hR U hU hW => ⟨rfl, by rw [hU]; exact hR, hwm.trans hW⟩
                    have blind : FrameBlind (sm_Pc s0 D adS h (st.take y.2.2.2.2.1).reverse) := fun a U g mk q => ⟨q.1, q.2.1, q.2.2⟩
                    have goodW : Cond.code y.1 y.2.1 y.2.2.1 y.2.2.2.1 ∈ am_ws → GoodIn am_ws (sm_ws y) := by
                      intro hcw w hw
                      rcases List.mem_cons.mp hw with rfl | hw
                      · exact am_ws_good _ hcw
                      · exact am_ws_good w hw
                    have room : d1 + 1 ≤ R.frames ∧ y.2.2.1 ≤ 45 → (sm_rm d1 (h1.1.length - h.1.length) (am_tot h1.1 - am_tot h.1)).frames + 1 ≤ R.frames ∧ 8 + (y.2.2.1 + 11) + (sm_rm d1 (h1.1.length - h.1.length) (am_tot h1.1 - am_tot h.1)).locals ≤ R.locals := by
                      intro hh
                      refine ⟨hh.1, ?_⟩
                      show 8 + (y.2.2.1 + 11) + d1 * 64 ≤ R.locals
                      omega
                    have budg : ∀ {cells slots : Nat}, cells + n0 = h.1.length → slots + t0 = am_tot h.1 → cells + (h1.1.length - h.1.length) ≤ R.cells ∧ slots + (am_tot h1.1 - am_tot h.1) ≤ R.slots := by
                      intro cells slots z1 z2
                      have := g1.1; have := g1.2; have := g2.1; have := g2.2
                      exact ⟨by omega, by omega⟩
                    have stk : st.map (sm_v (sm_g s0 adS)) = ((st.take y.2.2.2.2.1).reverse.map (sm_v (sm_g s0 adS))).reverse ++ (st.drop y.2.2.2.2.1).map (sm_v (sm_g s0 adS)) := by
                      rw [← List.map_reverse, List.reverse_reverse, ← List.map_append, List.take_append_drop]
                    have catR : ∀ {pcx : Nat} {lsx : Array Slot} {stx : List Value}, 2 * (F0 m pcx lsx stx).monitorRoom + (((st.drop y.2.2.2.2.1).map (sm_v (sm_g s0 adS))).map fun v => v.category).sum ≤ 8 := by
                      intro pcx lsx stx
                      show 2 * 0 + _ ≤ 8
                      rw [sm_cat]
                      omega
                    unfold at_chk at hck
                    dsimp only at hck
                    rw [Bool.and_eq_true] at hck
                    obtain ⟨hdg0, hck⟩ := hck
                    have hdg := of_decide_eq_true hdg0
                    clear hdg0
                    split at hc
                    · -- invokestatic
                      rename_i idx
                      cases hc
                      dsimp only at hck
                      rw [hy] at hck
                      simp only [Bool.and_eq_true, at_call] at hck
                      obtain ⟨⟨⟨mm, ⟨⟨⟨m2, m4⟩, m5⟩, m6⟩⟩, m1⟩, m7⟩ := hck
                      have m3 := hcd r1 y (of_decide_eq_true mm).1 hy
                      have m4 := of_decide_eq_true m4
                      have m6 := of_decide_eq_true m6
                      intro H locs ls cells slots hR hlo2 hL hcc htt
                      refine back (index := idx) hlo2 hL hcc htt rfl (va_runS (As := (st.take y.2.2.2.2.1).reverse.map (sm_v (sm_g s0 adS))) (n := y.2.2.2.2.1) ⟨hx, hb, hml, hown, hts'⟩ (met m3 m5 rfl rfl) ⟨callB_of _ hts' (goodW m3) rfl rfl rfl (hts _ (at_ix_ok m2)) (hts _ (at_ix_ok m1)) m4 (room ⟨hfr, m6⟩), hts _ (at_ix_ok m7)⟩ ⟨blind, pre0 H hR⟩ rfl (by simp; omega) hL.1 stk catR hdg (budg hcc htt))
                    · -- invokespecial
                      rename_i idx
                      split at hc
                      · rename_i a As hAs
                        cases hc
                        dsimp only at hck
                        rw [hy] at hck
                        simp only [Bool.and_eq_true, at_call] at hck
                        obtain ⟨⟨⟨⟨⟨⟨mm, m0⟩, ⟨⟨⟨m2, m4⟩, m5⟩, m6⟩⟩, m1⟩, m7⟩, m8⟩, m9⟩ := hck
                        have m3 := hcd r1 y (of_decide_eq_true mm).1 hy
                        have m0 := of_decide_eq_true m0
                        have m4 := of_decide_eq_true m4
                        have m6 := of_decide_eq_true m6
                        have m8 := of_decide_eq_true m8
                        have m9 := of_decide_eq_true m9
                        have hlen : As.length + 1 = y.2.2.2.2.1 := by
                          have : (st.take y.2.2.2.2.1).reverse.length = y.2.2.2.2.1 := by simp; omega
                          rw [hAs] at this
                          exact this
                        intro H locs ls cells slots hR hlo2 hL hcc htt
                        have M := met m3 m5 rfl (by rw [hAs])
                        rw [hAs] at M blind stk
                        have P0 := pre0 H hR
                        rw [hAs] at P0
                        rw [Bool.or_eq_true] at m1
                        rcases m1 with m1 | m1
                        · exact back (index := idx) hlo2 hL hcc htt rfl (va_runI (As := As.map (sm_v (sm_g s0 adS))) (b := sm_g s0 adS a) (n := y.2.2.2.2.1 - 1) ⟨hx, hb, hml, hown, hts'⟩ M ⟨by rw [← m9]; exact callB_of _ hts' (goodW m3) rfl rfl rfl (hts _ (at_ix_ok m2)) (hts _ (at_ix_ok m1)) m4 (room ⟨hfr, m6⟩), m8, hts _ (at_ix_ok m7)⟩ ⟨blind, P0⟩ rfl (by simp; omega) hL.1 (by rw [stk]; simp [sm_v]) catR hdg (budg hcc htt))
                        · have m1 := hB.2.2.2.1 _ _ _ _ (of_decide_eq_true m1)
                          exact back (index := idx) hlo2 hL hcc htt rfl (va_runIN (As := As.map (sm_v (sm_g s0 adS))) (b := sm_g s0 adS a) (n := y.2.2.2.2.1 - 1) (host := "TestFinder") ⟨hx, hb, hml, hown, hts'⟩ M ⟨by rw [← m9]; exact va_cnB _ hts' (goodW m3) rfl rfl rfl (va_Nw.warmM hwm m1) (hts _ (at_ix_ok m2)) m4 (room ⟨hfr, m6⟩), m8, hts _ (at_ix_ok m7)⟩ ⟨blind, P0⟩ rfl (by simp; omega) hL.1 (by rw [stk]; simp [sm_v]) catR hdg (budg hcc htt))
                      · cases hc
                    · -- invokevirtual
                      rename_i idx
                      split at hc
                      · rename_i a As hAs
                        split at hc
                        · rename_i tag nn ha
                          split at hc
                          · rename_i htag
                            have htag := of_decide_eq_true htag
                            cases hc
                            dsimp only at hck
                            rw [hy] at hck
                            simp only [Bool.and_eq_true, at_call] at hck
                            obtain ⟨⟨⟨⟨⟨⟨mm, m0⟩, ⟨⟨⟨m2, m4⟩, m5⟩, m6⟩⟩, m1⟩, m7⟩, m8⟩, m9⟩ := hck
                            have m3 := hcd r1 y (of_decide_eq_true mm).1 hy
                            have m0 := of_decide_eq_true m0
                            have m4 := of_decide_eq_true m4
                            have m6 := of_decide_eq_true m6
                            have hlen : As.length + 1 = y.2.2.2.2.1 := by
                              have : (st.take y.2.2.2.2.1).reverse.length = y.2.2.2.2.1 := by simp; omega
                              rw [hAs] at this
                              exact this
                            intro H locs ls cells slots hR hlo2 hL hcc htt
                            have M := met m3 m5 rfl (by rw [hAs])
                            rw [hAs] at M blind stk
                            have P0 := pre0 H hR
                            rw [hAs] at P0
                            have recv : ∃ cellB : Cell, H[sm_g s0 adS a]? = some cellB ∧ cellB.vm.isStatics = false ∧ s.vm.findClass y.1.cls = some cellB.cls := by
                              have ha2 := ha
                              rw [htag] at ha2
                              split at m9
                              · rename_i cl hcl9
                                simp only [Bool.and_eq_true, decide_eq_true_eq] at m9
                                obtain ⟨r', z1, cell, z2, z3, z4, -⟩ := (hR.2.2.2.2 a _ nn ha2).1 m9.2
                                refine ⟨cell, z2, by rw [z4]; rfl, ?_⟩
                                rw [z3, ← m9.1]
                                exact (hK.1 _ _ hcl9).2.1
                              · simp only [Bool.and_eq_true, decide_eq_true_eq] at m9
                                obtain ⟨⟨cell, z1, z2, z3, -⟩, -⟩ := (hR.2.2.2.2 a _ nn ha2).2.2.2.1 m9.2
                                refine ⟨cell, (hR.2.2.1 _ (Array.getElem?_eq_some_iff.mp z1).1).trans z1, z2, ?_⟩
                                rw [m9.1, hwm.alike.findClass]
                                exact z3
                            exact back (index := idx) hlo2 hL hcc htt rfl (va_runV (As := As.map (sm_v (sm_g s0 adS))) (b := sm_g s0 adS a) (C := y.1.cls) (n := y.2.2.2.2.1 - 1) ⟨hx, hb, hml, hown, hts'⟩ M ⟨callB_of _ hts' (goodW m3) rfl rfl rfl (hts _ (at_ix_ok m2)) (hts _ (at_ix_ok m1)) m4 (room ⟨hfr, m6⟩), hts _ (at_ix_ok m7), hts _ (at_ix_ok m8)⟩ ⟨blind, recv, P0⟩ rfl (by simp; omega) hL.1 (by rw [stk]; simp [sm_v]) catR hdg (budg hcc htt))
                          · cases hc
                        · cases hc
                      · cases hc
                    · cases hc
end Sim
end
section
/-! RULES for walking the small machine: goal first, an instruction a row; plain stretches by Rn.blk -/
section Rules
variable {d mid pc : Nat} {l : am_L} {r : List Value} {sh : List (Nat × Nat)} {fi : Nat → Nat → Int32} {fl : Nat → Nat → Int64} {fr : Nat → Nat → Option Nat} {Q : Option Value → am_H → Prop} {c : am_C}
/-- 0: an int's kind, 1: long, 2: a reference -/
def am_tk (ty : FieldType) : Nat := match ty with
  | .long => 1
  | .object _ => 2
  | .array _ => 2
  | .float => 3
  | .double => 3
  | _ => 0
theorem am_rd0 {ty : FieldType} (h : am_tk ty = 0) (hp : am_H) (a k : Nat) : am_rd ty hp a k = .int (hp.2.1 a k) := by
  cases ty <;> first | rfl | (cases h)
theorem am_rd1 {ty : FieldType} (h : am_tk ty = 1) (hp : am_H) (a k : Nat) : am_rd ty hp a k = .long (hp.2.2.1 a k) := by
  cases ty <;> first | rfl | (cases h)
theorem am_rd2 {ty : FieldType} (h : am_tk ty = 2) (hp : am_H) (a k : Nat) : am_rd ty hp a k = va_rf (hp.2.2.2 a k) := by
  cases ty <;> first | rfl | (cases h)
theorem Rn.getI {ix ci k a n : Nat} (hc : am_code mid = c) (hf : am_find c pc = some (.getfield ix, ci, k)) (ht : am_tk (at_ty ci k) = 0) (ha : sh[a]? = some (ci, n)) (kk : Rn d mid (pc + 3) l (.int (fi a k) :: r) (sh, fi, fl, fr) Q) : Rn d mid pc l (.ref a :: r) (sh, fi, fl, fr) Q := by
  refine Rn.go hc hf rfl ?_ kk
  simp only [am_step, am_getf, ha, am_rd0 ht, decide_true]
theorem Rn.getL {ix ci k a n : Nat} (hc : am_code mid = c) (hf : am_find c pc = some (.getfield ix, ci, k)) (ht : am_tk (at_ty ci k) = 1) (ha : sh[a]? = some (ci, n)) (kk : Rn d mid (pc + 3) l (.long (fl a k) :: r) (sh, fi, fl, fr) Q) : Rn d mid pc l (.ref a :: r) (sh, fi, fl, fr) Q := by
  refine Rn.go hc hf rfl ?_ kk
  simp only [am_step, am_getf, ha, am_rd1 ht, decide_true]
theorem Rn.getA {ix ci k a n b : Nat} (hc : am_code mid = c) (hf : am_find c pc = some (.getfield ix, ci, k)) (ht : am_tk (at_ty ci k) = 2) (ha : sh[a]? = some (ci, n)) (hb : fr a k = some b) (kk : Rn d mid (pc + 3) l (.ref b :: r) (sh, fi, fl, fr) Q) : Rn d mid pc l (.ref a :: r) (sh, fi, fl, fr) Q := by
  refine Rn.go hc hf rfl ?_ kk
  simp only [am_step, am_getf, ha, am_rd2 ht, decide_true, hb, va_rf]
theorem Rn.putI {ix ci k a n : Nat} {x : Int32} (hc : am_code mid = c) (hf : am_find c pc = some (.putfield ix, ci, k)) (ht : am_fit (at_ty ci k) x = true) (ha : sh[a]? = some (ci, n)) (kk : Rn d mid (pc + 3) l r (sh, up2 fi a k x, fl, fr) Q) : Rn d mid pc l (.int x :: .ref a :: r) (sh, fi, fl, fr) Q := by
  refine Rn.go hc hf rfl ?_ kk
  simp only [am_step, am_putf, ha, am_wr, ht, decide_true]
theorem Rn.putL {ix ci k a n : Nat} {x : Int64} (hc : am_code mid = c) (hf : am_find c pc = some (.putfield ix, ci, k)) (ht : at_ty ci k = .long) (ha : sh[a]? = some (ci, n)) (kk : Rn d mid (pc + 3) l r (sh, fi, up2 fl a k x, fr) Q) : Rn d mid pc l (.long x :: .ref a :: r) (sh, fi, fl, fr) Q := by
  refine Rn.go hc hf rfl ?_ kk
  simp only [am_step, am_putf, ha, am_wr, ht, decide_true]
theorem Rn.putA {ix ci k a n b : Nat} (hc : am_code mid = c) (hf : am_find c pc = some (.putfield ix, ci, k)) (ht : am_tk (at_ty ci k) = 2) (ha : sh[a]? = some (ci, n)) (kk : Rn d mid (pc + 3) l r (sh, fi, fl, up2 fr a k (some b)) Q) : Rn d mid pc l (.ref b :: .ref a :: r) (sh, fi, fl, fr) Q := by
  refine Rn.go hc hf rfl ?_ kk
  have e : am_wr (at_ty ci k) (sh, fi, fl, fr) a k (.ref b) = some (sh, fi, fl, up2 fr a k (some b)) := by
    cases h : at_ty ci k <;> rw [h] at ht <;> first | rfl | (cases ht)
  simp only [am_step, am_putf, ha, e, decide_true]
theorem am_inb {j n : Nat} (h : j < n) (hn : n < 2 ^ 31) : decide (0 ≤ (nI j).toInt ∧ (nI j).toInt < n) = true := by
  rw [nI_toInt (by omega)]
  exact decide_eq_true ⟨by omega, by omega⟩
theorem Rn.iaload {r1 r2 a n : Nat} {x : Int32} (j : Nat) (hc : am_code mid = c) (hf : am_find c pc = some (.iaload, r1, r2)) (ha : sh[a]? = some (100, n)) (hx : x = nI j) (hj : j < n) (hn : n < 2 ^ 31) (kk : Rn d mid (pc + 1) l (.int (fi a j) :: r) (sh, fi, fl, fr) Q) : Rn d mid pc l (.int x :: .ref a :: r) (sh, fi, fl, fr) Q := by
  subst hx
  refine Rn.go hc hf rfl ?_ kk
  have e : am_aty 100 = some .int := rfl
  simp [am_step, am_ald, ha, e, am_inb hj hn, nI_clamp (show j < 2 ^ 31 by omega), am_rd]
theorem Rn.caload {r1 r2 a n : Nat} {x : Int32} (j : Nat) (hc : am_code mid = c) (hf : am_find c pc = some (.caload, r1, r2)) (ha : sh[a]? = some (102, n)) (hx : x = nI j) (hj : j < n) (hn : n < 2 ^ 31) (kk : Rn d mid (pc + 1) l (.int (fi a j) :: r) (sh, fi, fl, fr) Q) : Rn d mid pc l (.int x :: .ref a :: r) (sh, fi, fl, fr) Q := by
  subst hx
  refine Rn.go hc hf rfl ?_ kk
  have e : am_aty 102 = some .char := rfl
  simp [am_step, am_ald, ha, e, am_inb hj hn, nI_clamp (show j < 2 ^ 31 by omega), am_rd]
theorem Rn.baload {r1 r2 a n : Nat} {x : Int32} (j : Nat) (hc : am_code mid = c) (hf : am_find c pc = some (.baload, r1, r2)) (ha : sh[a]? = some (103, n)) (hx : x = nI j) (hj : j < n) (hn : n < 2 ^ 31) (kk : Rn d mid (pc + 1) l (.int (fi a j) :: r) (sh, fi, fl, fr) Q) : Rn d mid pc l (.int x :: .ref a :: r) (sh, fi, fl, fr) Q := by
  subst hx
  refine Rn.go hc hf rfl ?_ kk
  have e : am_aty 103 = some .boolean := rfl
  simp [am_step, am_ald, ha, e, am_inb hj hn, nI_clamp (show j < 2 ^ 31 by omega), am_rd]
theorem Rn.laload {r1 r2 a n : Nat} {x : Int32} (j : Nat) (hc : am_code mid = c) (hf : am_find c pc = some (.laload, r1, r2)) (ha : sh[a]? = some (101, n)) (hx : x = nI j) (hj : j < n) (hn : n < 2 ^ 31) (kk : Rn d mid (pc + 1) l (.long (fl a j) :: r) (sh, fi, fl, fr) Q) : Rn d mid pc l (.int x :: .ref a :: r) (sh, fi, fl, fr) Q := by
  subst hx
  refine Rn.go hc hf rfl ?_ kk
  have e : am_aty 101 = some .long := rfl
  simp [am_step, am_ald, ha, e, am_inb hj hn, nI_clamp (show j < 2 ^ 31 by omega), am_rd]
theorem Rn.iascr {r1 r2 a n : Nat} {x : Int32} (j : Nat) (hc : am_code mid = c) (hf : am_find c pc = some (.iaload, r1, r2)) (ha : sh[a]? = some (900, n)) (hx : x = nI j) (hj : j < n) (hn : n < 2 ^ 31) (kk : Rn d mid (pc + 1) l (.int (fi a j) :: r) (sh, fi, fl, fr) Q) : Rn d mid pc l (.int x :: .ref a :: r) (sh, fi, fl, fr) Q := by
  subst hx
  refine Rn.go hc hf rfl ?_ kk
  have e : am_aty 900 = some .int := rfl
  simp [am_step, am_ald, ha, e, am_inb hj hn, nI_clamp (show j < 2 ^ 31 by omega), am_rd]
theorem Rn.aaload {r1 r2 a n b ci : Nat} {q : vw_C} {x : Int32} (j : Nat) (hc : am_code mid = c) (hf : am_find c pc = some (.aaload, r1, r2)) (ha : sh[a]? = some (401 + ci, n)) (hq : vwCl[ci]? = some q) (h100 : ci < 100) (hx : x = nI j) (hj : j < n) (hn : n < 2 ^ 31) (hb : fr a j = some b) (kk : Rn d mid (pc + 1) l (.ref b :: r) (sh, fi, fl, fr) Q) : Rn d mid pc l (.int x :: .ref a :: r) (sh, fi, fl, fr) Q := by
  subst hx
  refine Rn.go hc hf rfl ?_ kk
  have e := sm_aty_obj hq h100
  have e2 : decide (401 ≤ 401 + ci ∧ 401 + ci < 900) = true := decide_eq_true ⟨by omega, by omega⟩
  simp only [am_step, am_ald, ha, e, e2, am_inb hj hn, nI_clamp (show j < 2 ^ 31 by omega), am_rd, hb, va_rf]
theorem Rn.iastore {r1 r2 a n : Nat} {x i : Int32} (j : Nat) (hc : am_code mid = c) (hf : am_find c pc = some (.iastore, r1, r2)) (ha : sh[a]? = some (100, n)) (hi : i = nI j) (hj : j < n) (hn : n < 2 ^ 31) (hx : am_fit .int x = true) (kk : Rn d mid (pc + 1) l r (sh, up2 fi a j x, fl, fr) Q) : Rn d mid pc l (.int x :: .int i :: .ref a :: r) (sh, fi, fl, fr) Q := by
  subst hi
  refine Rn.go hc hf rfl ?_ kk
  have e : am_aty 100 = some .int := rfl
  have e2 : am_nar .int x = x := by
    have := (am_fit_ok hx).1
    simpa [narrow, am_nar] using this
  simp [am_step, am_iast, ha, e, am_inb hj hn, nI_clamp (show j < 2 ^ 31 by omega), e2]
theorem Rn.castore {r1 r2 a n : Nat} {x i : Int32} (j : Nat) (hc : am_code mid = c) (hf : am_find c pc = some (.castore, r1, r2)) (ha : sh[a]? = some (102, n)) (hi : i = nI j) (hj : j < n) (hn : n < 2 ^ 31) (hx : am_fit .char x = true) (kk : Rn d mid (pc + 1) l r (sh, up2 fi a j x, fl, fr) Q) : Rn d mid pc l (.int x :: .int i :: .ref a :: r) (sh, fi, fl, fr) Q := by
  subst hi
  refine Rn.go hc hf rfl ?_ kk
  have e : am_aty 102 = some .char := rfl
  have e2 : am_nar .char x = x := by
    have := (am_fit_ok hx).1
    simpa [narrow, am_nar] using this
  simp [am_step, am_iast, ha, e, am_inb hj hn, nI_clamp (show j < 2 ^ 31 by omega), e2]
theorem Rn.bastore {r1 r2 a n : Nat} {x i : Int32} (j : Nat) (hc : am_code mid = c) (hf : am_find c pc = some (.bastore, r1, r2)) (ha : sh[a]? = some (103, n)) (hi : i = nI j) (hj : j < n) (hn : n < 2 ^ 31) (hx : am_fit .boolean x = true) (kk : Rn d mid (pc + 1) l r (sh, up2 fi a j x, fl, fr) Q) : Rn d mid pc l (.int x :: .int i :: .ref a :: r) (sh, fi, fl, fr) Q := by
  subst hi
  refine Rn.go hc hf rfl ?_ kk
  have e : am_aty 103 = some .boolean := rfl
  have e2 : am_nar .boolean x = x := by
    have := (am_fit_ok hx).1
    simpa [narrow, am_nar] using this
  simp [am_step, am_iast, ha, e, am_inb hj hn, nI_clamp (show j < 2 ^ 31 by omega), e2]
theorem Rn.lastore {r1 r2 a n : Nat} {x : Int64} {i : Int32} (j : Nat) (hc : am_code mid = c) (hf : am_find c pc = some (.lastore, r1, r2)) (ha : sh[a]? = some (101, n)) (hi : i = nI j) (hj : j < n) (hn : n < 2 ^ 31) (kk : Rn d mid (pc + 1) l r (sh, fi, up2 fl a j x, fr) Q) : Rn d mid pc l (.long x :: .int i :: .ref a :: r) (sh, fi, fl, fr) Q := by
  subst hi
  refine Rn.go hc hf rfl ?_ kk
  simp [am_step, am_last, ha, am_inb hj hn, nI_clamp (show j < 2 ^ 31 by omega)]
theorem Rn.alen {r1 r2 a tag n : Nat} (hc : am_code mid = c) (hf : am_find c pc = some (.arraylength, r1, r2)) (ha : sh[a]? = some (tag, n)) (ht : (am_aty tag).isSome = true) (hn : n < 2 ^ 31) (kk : Rn d mid (pc + 1) l (.int (nI n) :: r) (sh, fi, fl, fr) Q) : Rn d mid pc l (.ref a :: r) (sh, fi, fl, fr) Q := by
  refine Rn.go hc hf rfl ?_ kk
  simp only [am_step, am_alen, ha, decide_eq_true (show n < 2 ^ 31 ∧ (am_aty tag).isSome = true from ⟨hn, ht⟩)]
/-- a comparison as a proposition -/
abbrev am_cp (cnd : ClassFile.Cond) (x y : Int32) : Prop := match cnd with
  | .eq => x = y
  | .ne => ¬ x = y
  | .lt => x < y
  | .ge => y ≤ x
  | .gt => y < x
  | .le => x ≤ y
theorem am_cp_t {cnd : ClassFile.Cond} {x y : Int32} (h : am_cp cnd x y) : am_cmp cnd x y = true := by cases cnd <;> exact decide_eq_true h
theorem am_cp_f {cnd : ClassFile.Cond} {x y : Int32} (h : ¬ am_cp cnd x y) : am_cmp cnd x y = false := by cases cnd <;> exact decide_eq_false h
theorem am_cp_em (cnd : ClassFile.Cond) (x y : Int32) : am_cp cnd x y ∨ ¬ am_cp cnd x y := Classical.em _
theorem Rn.icmp {r1 r2 : Nat} {h : am_H} {cnd : ClassFile.Cond} {off : Int} {x y : Int32} (t : Nat) (hc : am_code mid = c) (hf : am_find c pc = some (.if_icmp cnd off, r1, r2)) (ht : am_tg pc off = t) (k1 : am_cp cnd x y → Rn d mid t l r h Q) (k2 : ¬ am_cp cnd x y → Rn d mid (pc + 3) l r h Q) : Rn d mid pc l (.int y :: .int x :: r) h Q := by
  subst ht
  rcases am_cp_em cnd x y with z | z
  · refine Rn.go hc hf rfl ?_ (k1 z)
    simp only [am_step, am_cp_t z, if_true]
  · refine Rn.go hc hf rfl ?_ (k2 z)
    simp [am_step, am_cp_f z]
theorem Rn.ifz {r1 r2 : Nat} {h : am_H} {cnd : ClassFile.Cond} {off : Int} {x : Int32} (t : Nat) (hc : am_code mid = c) (hf : am_find c pc = some (.ifCond cnd off, r1, r2)) (ht : am_tg pc off = t) (k1 : am_cp cnd x 0 → Rn d mid t l r h Q) (k2 : ¬ am_cp cnd x 0 → Rn d mid (pc + 3) l r h Q) : Rn d mid pc l (.int x :: r) h Q := by
  subst ht
  rcases am_cp_em cnd x 0 with z | z
  · refine Rn.go hc hf rfl ?_ (k1 z)
    simp only [am_step, am_cp_t z, if_true]
  · refine Rn.go hc hf rfl ?_ (k2 z)
    simp [am_step, am_cp_f z]
theorem Rn.idiv {r1 r2 : Nat} {h : am_H} {x y : Int32} (hc : am_code mid = c) (hf : am_find c pc = some (.idiv, r1, r2)) (hy : y ≠ 0) (kk : Rn d mid (pc + 1) l (.int (x / y) :: r) h Q) : Rn d mid pc l (.int y :: .int x :: r) h Q := by
  refine Rn.go hc hf rfl ?_ kk
  simp [am_step, am_iid, hy]
theorem Rn.irem {r1 r2 : Nat} {h : am_H} {x y : Int32} (hc : am_code mid = c) (hf : am_find c pc = some (.irem, r1, r2)) (hy : y ≠ 0) (kk : Rn d mid (pc + 1) l (.int (x - x / y * y) :: r) h Q) : Rn d mid pc l (.int y :: .int x :: r) h Q := by
  refine Rn.go hc hf rfl ?_ kk
  simp [am_step, am_iid, hy]
theorem Rn.ldiv {r1 r2 : Nat} {h : am_H} {x y : Int64} (hc : am_code mid = c) (hf : am_find c pc = some (.ldiv, r1, r2)) (hy : y ≠ 0) (kk : Rn d mid (pc + 1) l (.long (x / y) :: r) h Q) : Rn d mid pc l (.long y :: .long x :: r) h Q := by
  refine Rn.go hc hf rfl ?_ kk
  simp [am_step, am_lld, hy]
theorem Rn.lrem {r1 r2 : Nat} {h : am_H} {x y : Int64} (hc : am_code mid = c) (hf : am_find c pc = some (.lrem, r1, r2)) (hy : y ≠ 0) (kk : Rn d mid (pc + 1) l (.long (x - x / y * y) :: r) h Q) : Rn d mid pc l (.long y :: .long x :: r) h Q := by
  refine Rn.go hc hf rfl ?_ kk
  simp [am_step, am_lld, hy]
theorem Rn.reti {r1 r2 : Nat} {h : am_H} {x : Int32} {q : am_M} {ty : FieldType} (hc : am_code mid = c) (hf : am_find c pc = some (.ireturn, r1, r2)) (hq : at_tab[mid]? = some q) (hty : q.2.2.2.1 = some ty) (hx : am_fit ty x = true) (kk : Q (some (.int x)) h) : Rn d mid pc l [.int x] h Q := by
  refine Rn.ret hc hf rfl ?_ kk
  simp only [am_ret, hq, hty, hx]
end Rules
end
section
/-! what the tables say of the classes, by the kernel -/
theorem at_in_all {l : List Cond} (h : l.all at_in = true) : ∀ w ∈ l, w ∈ am_ws := fun w hw => at_in_ok (List.all_eq_true.mp h w hw)
theorem ck_cl0 : at_clok 0 ("TestFinder", cl_T0, 6) := ⟨at_in_all (by decide +kernel), by decide +kernel, by decide +kernel, at_in_ok (by decide +kernel), at_in_ok (by decide +kernel)⟩
theorem ck_cl1 : at_clok 1 ("TestFinder$Tape", cl_T1, 2) := ⟨at_in_all (by decide +kernel), by decide +kernel, by decide +kernel, at_in_ok (by decide +kernel), at_in_ok (by decide +kernel)⟩
theorem ck_cl2 : at_clok 2 ("TestFinder$Script", cl_T2, 7) := ⟨at_in_all (by decide +kernel), by decide +kernel, by decide +kernel, at_in_ok (by decide +kernel), at_in_ok (by decide +kernel)⟩
theorem ck_cl3 : at_clok 3 ("TestFinder$NameRow", cl_T3, 2) := ⟨at_in_all (by decide +kernel), by decide +kernel, by decide +kernel, at_in_ok (by decide +kernel), at_in_ok (by decide +kernel)⟩
theorem ck_cl4 : at_clok 4 ("TestFinder$Case", cl_T4, 15) := ⟨at_in_all (by decide +kernel), by decide +kernel, by decide +kernel, at_in_ok (by decide +kernel), at_in_ok (by decide +kernel)⟩
theorem ck_cl5 : at_clok 5 ("TestFinder$ScriptReader", cl_T5, 4) := ⟨at_in_all (by decide +kernel), by decide +kernel, by decide +kernel, at_in_ok (by decide +kernel), at_in_ok (by decide +kernel)⟩
theorem ck_cl6 : at_clok 6 ("TestFinder$Words", cl_T6, 4) := ⟨at_in_all (by decide +kernel), by decide +kernel, by decide +kernel, at_in_ok (by decide +kernel), at_in_ok (by decide +kernel)⟩
theorem ck_cl7 : at_clok 7 ("TestFinder$FilterReader", cl_T7, 5) := ⟨at_in_all (by decide +kernel), by decide +kernel, by decide +kernel, at_in_ok (by decide +kernel), at_in_ok (by decide +kernel)⟩
theorem ck_cl8 : at_clok 8 ("TestFinder$Filter", cl_T8, 5) := ⟨at_in_all (by decide +kernel), by decide +kernel, by decide +kernel, at_in_ok (by decide +kernel), at_in_ok (by decide +kernel)⟩
theorem ck_cl9 : at_clok 9 ("TestFinder$TestName", cl_T9, 2) := ⟨at_in_all (by decide +kernel), by decide +kernel, by decide +kernel, at_in_ok (by decide +kernel), at_in_ok (by decide +kernel)⟩
theorem ck_cl10 : at_clok 10 ("TestFinderModel", cl_T10, 60) := ⟨at_in_all (by decide +kernel), by decide +kernel, by decide +kernel, at_in_ok (by decide +kernel), at_in_ok (by decide +kernel)⟩
theorem ck_cl : ∀ (ci : Nat) (r : vw_C), vwCl[ci]? = some r → at_clok ci r := by
  intro ci r h
  match ci, h with
  | 0, h => cases h; exact ck_cl0
  | 1, h => cases h; exact ck_cl1
  | 2, h => cases h; exact ck_cl2
  | 3, h => cases h; exact ck_cl3
  | 4, h => cases h; exact ck_cl4
  | 5, h => cases h; exact ck_cl5
  | 6, h => cases h; exact ck_cl6
  | 7, h => cases h; exact ck_cl7
  | 8, h => cases h; exact ck_cl8
  | 9, h => cases h; exact ck_cl9
  | 10, h => cases h; exact ck_cl10
  | k + 11, h => simp [vwCl] at h
end
section
/-! each instruction against the tables, by the kernel; ps: where its words stand -/
theorem ck_m0 : at_all mt_0 cd_0 [[92], [], [74, 94, 95], [], [743], [], [84, 745, 746], [], [], [], [], [], [], [], [], [], [], [], [], [], [], [], [], [], [], [], [], [], [], [], [], [], [], [], [], [], [], [1172], [], [], [74, 396, 397, 398], [], [], [], [], [], [], [], [], [], [], [], [], [], [], [], [1172], [], [], [84, 930, 931, 932], [], [], [], [], [74, 407, 408, 409], [], [84, 935, 936, 937], [], [], [], [], [], [], [], [], [], [74, 584, 585, 586], [], [], [], [], [], [], [84, 1028, 1029, 1030], [], [], [], [], [], [], [], [], [], [], [], [], [], [], [74, 588, 589, 590], [], [], [], [], [], [], [], [], [], [], [], [84, 1032, 1033, 1034], [], [], [], [], [], [], [], [], [], [], [], [], [], [], [74, 627, 628, 629], [], [], [], [], [], [], [], [], [], [], [], [84, 1064, 1065, 1066], [], [], [], [], [], [], [], [], [], [], [], [], [], [], [74, 631, 632, 633], [], [], [], [], [], [], [], [], [], [], [], [84, 1068, 1069, 1070], [], [], [], [], [74, 635, 636, 637], [], [84, 1072, 1073, 1074], [], [], [], [], [74, 643, 644, 645], [], [84, 1076, 1077, 1078], [], [], [], [], [], [], [], [], [], [74, 709, 710, 711], [], [], [], [], [], [], [84, 1140, 1141, 1142], [], [], [], [], [74, 735, 736, 737], [], [84, 1164, 1165, 1166], [], [], [], [], [], [], [], [], [], [], [], [], [], [], [], [], [], [], [74, 739, 740, 741], [], [], [], [], [], [], [], [], [], [], [], [], [], [], [], [84, 1168, 1169, 1170], [], [], [], [], [], [], []] = true := by decide +kernel
theorem ck_m1 : at_all mt_1 cd_1 [[], [97, 98, 99], [], [100], [], [75, 102, 103], [377], [], [121], [], [76, 123, 124], [378], [], [270], [], [], [378], [79, 272, 273], [379], [], [313], [], [], [377], [81, 315, 316], [380], [], [360], [], [83, 362, 363], [381], [], [375], [], [82, 376, 322], [382], []] = true := by decide +kernel
theorem ck_m2 : at_all mt_2 cd_2 [[], [377], [], [75, 400, 401, 402], []] = true := by decide +kernel
theorem ck_m3 : at_all mt_3 cd_3 [[], [379], [], [377], [79, 411, 412, 413], [], [], [377], [], [113], [], [382], [], [331], [], []] = true := by decide +kernel
theorem ck_m4 : at_all mt_4 cd_4 [[], [], [], [378], [244], [139], [], [], [378], [249], [], [], [378], [253], [], [], []] = true := by decide +kernel
theorem ck_m5 : at_all mt_5 cd_5 [[], [378], [], [76, 592, 593, 594], [], [], [], [], [378], [], [76, 596, 597, 598], [], [], [], [], [378], [251], [], [], [], [], [166], [], [], [172], [], [], [176], [], [], [], [], [], [], [180], [], [], [], [], [], [], [195], [139], [], [], [200], [139], [], [], [381], [], [], [83, 601, 602, 603], [], [381], [369], [], [], [170], [], [], []] = true := by decide +kernel
theorem ck_m6 : at_all mt_6 cd_6 [[], [378], [], [76, 592, 593, 594], [], [], [], [], [381], [], [378], [], [76, 596, 597, 598], [], [83, 601, 602, 603], [], [], [], [], [381], [369], [], [], [381], [367], [], [], [], [], []] = true := by decide +kernel
theorem ck_m7 : at_all mt_7 cd_7 [[], [378], [], [76, 592, 593, 594], [], [], [], [], [378], [], [76, 596, 597, 598], [], [], [176], [], [], [], [], [], [185], [], [183], [], [], [], [], [], [378], [239], [], [183], [], [], [], []] = true := by decide +kernel
theorem ck_m8 : at_all mt_8 cd_8 [[], [], [], [], [], [], [378], [253], [], [], [], [], [], [381], [], [378], [], [76, 596, 597, 598], [], [83, 601, 602, 603], [], [381], [], [377], [83, 639, 640, 641], [], [], [], [], [], [], [377], [], [113], [], []] = true := by decide +kernel
theorem ck_m9 : at_all mt_9 cd_9 [[], [380], [81, 647, 648, 649], [], [], [377], [], [113], [], [], [], [], [], [380], [], [382], [81, 705, 706, 707], [382], [], []] = true := by decide +kernel
theorem ck_m10 : at_all mt_10 cd_10 [[], [378], [], [76, 592, 593, 594], [], [], [382], [], [378], [], [76, 596, 597, 598], [], [82, 713, 714, 715], [], [], [], [], []] = true := by decide +kernel
theorem ck_m11 : at_all mt_11 cd_11 [[], [], [], [], [], [], [378], [253], [], [], [382], [], [378], [], [76, 596, 597, 598], [], [82, 713, 714, 715], [], [], [], [], [], []] = true := by decide +kernel
theorem ck_m12 : at_all mt_12 cd_12 [[], [378], [], [76, 592, 593, 594], [], [], [], [], [378], [], [76, 596, 597, 598], [], [], [176], [], [], [], [], [180], [], [], [], [], [], [], [], [], [], [], [], [], []] = true := by decide +kernel
theorem ck_m13 : at_all mt_13 cd_13 [[], [748, 98, 99], [], [], [236], [751], [], [], [236], [753], [], [], [236], [755], [], [], [236], [756], [], [], [236], [758], [], [], [236], [759], [], [], [236], [760], [], [], [236], [761], [], [], [236], [762], [], [], [236], [764], [], [], [236], [765], [], [], [236], [766], [], [], [236], [767], [], [], [236], [768], [], [], [236], [769], [], [], [236], [770], [], [], [343], [771], [], [], [236], [772], [], [], [236], [773], [], [], [236], [774], [], [], [236], [775], [], [], [236], [776], [], [], [236], [777], [], [], [236], [778], [], [], [236], [779], [], [], [236], [780], [], [], [236], [783], [], [], [236], [784], [], [], [236], [786], [], [], [236], [788], [], [], [236], [790], [], [], [236], [791], [], [], [236], [792], [], [], [236], [793], [], [], [236], [794], [], [], [236], [797], [], [], [236], [798], [], [], [236], [799], [], [], [236], [800], [], [], [236], [801], [], [], [236], [802], [], [], [236], [807], [], [], [343], [808], []] = true := by decide +kernel
end
section
/-! each instruction against the tables, by the kernel; ps: where its words stand -/
theorem ck_m14 : at_all mt_14 cd_14 [[], [], [749], [], [], [], [], [], [], [], [], [], [], [], [934], [], [], [], [], [], [], [], [], [], [], [], [], [], [], [], [], [], [], [], [], [], [], [], [], [], [], [], [], [], [], [], [], [], [750], [], [], [], [], [], [], [], [], [], [], [], [], [], [934], [], [], [], [], [], [], [751], [], [750], [], [], [], [], [750], [], [], [750], [], [], [], []] = true := by decide +kernel
theorem ck_m15 : at_all mt_15 cd_15 [[], [], [], [], [], [], [], [], [], []] = true := by decide +kernel
theorem ck_m16 : at_all mt_16 cd_16 [[], [84, 964, 965], [], [], [], [], [], [], [], [], [], [], [], [], [], []] = true := by decide +kernel
theorem ck_m17 : at_all mt_17 cd_17 [[], [], [754], [], [], [], [], [], [], [753], [], [], [], [], [], [], [], [755], [], [754], [], [], [], [], [], [], [753], [], [], [], [], [], [], [], [756], [], [754], [], [], [], [], [754], [], [], [754], [], []] = true := by decide +kernel
theorem ck_m18 : at_all mt_18 cd_18 [[], [755], [], [], [], [], [], [], [], [], [], [], [934], [], [], [], [], [], [], [], [], [756], [], [], [], [], [753], [], [], [], [], [], [], [], [], [], [], [], [756], [], [], [], [], [], [], []] = true := by decide +kernel
theorem ck_m19 : at_all mt_19 cd_19 [[], [756], [], [], [], [755], [], [], [], [], [], [], [], [], [], [], [753], [], [755], [], [], [], [84, 964, 965], [], [], [], [], [], [], [755], [], [], [], [], [], [756], [], [], [], [], [], [], [753], [], [], [84, 967, 968], [], [], [], [], [], [], [], [], []] = true := by decide +kernel
theorem ck_m20 : at_all mt_20 cd_20 [[], [], [], [], [756], [], [], [], [755], [], [], [], [], [], [], [], [], [], [], [], [], [], [], [], [], [], [], [753], [], [], [], [], [], [753], [], [755], [], [], [], [], [], [], [], [], [], [], [], [], [], []] = true := by decide +kernel
theorem ck_m21 : at_all mt_21 cd_21 [[], [754], [], [], [], [], [], [84, 960, 962, 32], [], [], [757], [], [], [], [], [], [], [], [], [757], [], [], [], [758], [], [], [], [759], [], [], [], [84, 970, 972, 33], [], [], [], [], [], [], [758], [], [757], [], [755], [], [], [], [], [759], [], [757], [], [756], [], [], [], [], [760], [], [757], [], [], [], [], [757], [], [], [757], [], [], [781], [], []] = true := by decide +kernel
theorem ck_m22 : at_all mt_22 cd_22 [[], [754], [], [], [], [], [], [84, 960, 962, 32], [], [], [763], [], [], [], [84, 979, 981, 35], [], [], [], [], [], [], [], [], [763], [], [], [764], [], [], [], [757], [], [], [], [], [], [765], [], [], [], [766], [], [], [], [84, 970, 972, 33], [], [], [], [], [], [], [764], [], [763], [], [757], [], [], [], [], [765], [], [763], [], [755], [], [], [], [], [766], [], [763], [], [756], [], [], [], [], [767], [], [763], [], [], [], [768], [], [763], [], [], [], [770], [], [763], [], [], [], [771], [], [763], [], [], [], [772], [], [763], [], [], [], [775], [], [763], [], [], [], [], [763], [], [], [763], [], [], [781], [], []] = true := by decide +kernel
theorem ck_m23 : at_all mt_23 cd_23 [[], [], [], [], [], [], [], [], [], [], [], [760], [], [], [], [], [], [], [], [], [761], [], [], [], [762], [], [], [], [84, 970, 972, 33], [], [], [], [], [], [], [], [], []] = true := by decide +kernel
theorem ck_m24 : at_all mt_24 cd_24 [[], [], [], [], [], [], [], [], [], [], [], [772], [], [], [], [], [], [], [], [], [773], [], [], [], [774], [], [], [], [84, 970, 972, 33], [], [], [], [], [], [], [], [], []] = true := by decide +kernel
theorem ck_m25 : at_all mt_25 cd_25 [[], [772], [], [], [], [764], [], [], [], [], [], [], [760], [], [764], [], [], [], [], []] = true := by decide +kernel
theorem ck_m26 : at_all mt_26 cd_26 [[], [], [], [84, 960, 962, 32], [], [], [757], [], [], [], [757], [], [], [], [84, 996, 998, 39], [], [], [], [], [781], [], [], [757], [], [], [], [], [760], [], [], [], [], [], [], [], [761], [], [], [], [], [760], [], [], [], [], [755], [], [], [], [], [762], [], [], [], [], [760], [], [], [], [], [756], [], [], [], [], [760], [], [], [], [], [], [], [], [], [], [763], [], [], [], [], [], [], [84, 1000, 1002, 40], [], [], [], [84, 1004, 1006, 41], [], [], [], [], [], [773], [], [], [], [], [772], [], [], [], [], [755], [], [], [], [], [774], [], [], [], [], [772], [], [], [], [], [756], [], [], [], [], [772], [], [], [], [], [], [], [], []] = true := by decide +kernel
end
section
/-! each instruction against the tables, by the kernel; ps: where its words stand -/
theorem ck_m27 : at_all mt_27 cd_27 [[], [754], [], [], [], [781], [], [], [757], [], [], [], [], [], [], [], [], [], [754], [], [], [], [], [], [84, 992, 994, 38], [], [], [], [], []] = true := by decide +kernel
theorem ck_m28 : at_all mt_28 cd_28 [[], [754], [], [], [], [754], [], [], [], [781], [], [], [], [], [84, 960, 962, 32], [], [], [], [], [763], [], [], [], [], [], [], [], [775], [], [], [], [], [], [775], [], [], [], [], [], [], [], [], [], [], [], [], [], [], [], [776], [], [], [], [777], [], [], [], [84, 970, 972, 33], [], [], [], [], [], [], [], [], [], [754], [], [], [], [], [84, 960, 962, 32], [], [], [], [], [], [], [], [], [], [], [755], [], [], [], [756], [], [], [], [84, 970, 972, 33], [], [], [], [], [], [], [], [], [], [], [], [], [779], [], [], [], [], [], [], [], [], [755], [], [], [], [], [780], [], [], [], [], [], [], [], [], [756], [], [], [], [], [], [], [776], [], [], [755], [], [], [], [], [777], [], [], [756], [], [], [], [], [778], [], [], [754], [], [], [], [], [775], [], [], [], [], [], [], [], [], [84, 983, 985, 36], [], [], [], [84, 979, 981, 35], [], [], [], [], [], []] = true := by decide +kernel
theorem ck_m29 : at_all mt_29 cd_29 [[], [754], [], [], [], [781], [], [], [756], [], [], [], [755], [], [], [], [], [], [], [], [], [], [], [], [], [768], [], [763], [], [], [], [], [], [], [], [753], [], [755], [], [], [], [], [], [768], [], [763], [], [], [], [], [], [], [], [], [], [], [], [], [], [], [], []] = true := by decide +kernel
theorem ck_m30 : at_all mt_30 cd_30 [[], [754], [], [], [], [781], [], [], [770], [], [763], [], [], [], [], [], [], [], [], [769], [], [763], [], [], [], [755], [], [], [], [], [770], [], [763], [], [], [], [756], [], [754], [], [], [], [], [], []] = true := by decide +kernel
theorem ck_m31 : at_all mt_31 cd_31 [[], [754], [], [], [], [781], [], [], [771], [], [763], [], [], [], [], [], [], [], [771], [], [763], [], [], [], [], [], []] = true := by decide +kernel
theorem ck_m32 : at_all mt_32 cd_32 [[], [754], [], [], [753], [], [755], [], [], [], [], [], [], [], [], [951], [84, 952, 954, 30], [], [], [84, 956, 958, 31], [], [], [974], [84, 952, 954, 30], [], [], [], [84, 975, 977, 34], [], [], [987], [84, 952, 954, 30], [], [], [84, 988, 990, 37], [], [], [1008], [84, 952, 954, 30], [], [], [84, 1009, 1011, 42], [], [], [1013], [84, 952, 954, 30], [], [], [84, 1014, 1016, 43], [], [], [1018], [84, 952, 954, 30], [], [], [84, 1019, 1021, 44], [], [], [1023], [84, 952, 954, 30], [], [], [84, 1024, 1026, 45], [], [], [], [], []] = true := by decide +kernel
theorem ck_m33 : at_all mt_33 cd_33 [[], [], [], [], [], [], [], [], [], [], [], [775], [], [], [], [], [], [], [778], [], [], [], [], [], [], [], []] = true := by decide +kernel
theorem ck_m34 : at_all mt_34 cd_34 [[], [], [], [], [], [], [763], [], [], [], [], [84, 983, 985, 36], [], [], [], [], [], []] = true := by decide +kernel
theorem ck_m35 : at_all mt_35 cd_35 [[], [], [757], [], [], [763], [], [], [782], [], [], [781], [], [], [787], []] = true := by decide +kernel
theorem ck_m36 : at_all mt_36 cd_36 [[], [], [749], [], [], [], [], [750], [], [], [753], [], [], [751], [], [], [], [], [], [], [], [750], [752], [], [], [750], [], [84, 939, 941, 27], [], [], [], [], [], [], [752], [], [], [], [], [], [752], [], [], [753], [], [], [], [], [], [], [], [], [], [84, 943, 945, 28], [], [], [84, 947, 949, 29], [], [], [84, 939, 941, 27], [], [], [], [], [], [], [], [], [], [], [], [], [763], [], [], [], [], [], [], [84, 983, 985, 36], [], [], [783], [], [782], [], [], [], [784], [], [782], [], [], [], [], [782], [], [], [782], [], [], [], [], [], []] = true := by decide +kernel
theorem ck_m37 : at_all mt_37 cd_37 [[], [], [], [], [782], [], [], [], [], []] = true := by decide +kernel
theorem ck_m38 : at_all mt_38 cd_38 [[], [786], [], [785], [], [], [], [], [785], [], [], [785], []] = true := by decide +kernel
theorem ck_m39 : at_all mt_39 cd_39 [[], [], [], [], [], [], [], [753], [], [], [84, 1056, 1058, 51], [], [], []] = true := by decide +kernel
theorem ck_m40 : at_all mt_40 cd_40 [[], [783], [], [], [], [], [784], [], [], [], [], [], [], [], [775], [], [], [], [], [], [], [], [], [], [], [], [778], [], [], [], [], [], [], [], [], [], [], [], [778], [], [], [], [], []] = true := by decide +kernel
theorem ck_m41 : at_all mt_41 cd_41 [[], [], [785], [], [783], [], [], [], [], [764], [], [], [], [], [], [], [], [758], [], [], [], [759], [], [], [84, 1052, 1054, 50], [], [], [84, 1056, 1058, 51], [], [], [765], [], [], [], [766], [], [], [84, 1052, 1054, 50], [], [], [], [], [], [], [], [], [], [775], [], [], [], [], [], [], [], [], [], [], [], [], [], [84, 1056, 1058, 51], [], [], [776], [], [], [], [777], [], [], [84, 1052, 1054, 50], [], [], [84, 1056, 1058, 51], [], [], [779], [], [], [], [84, 1060, 1062, 52], [], [], [780], [], [], [], [84, 1060, 1062, 52], [], [84, 1052, 1054, 50], [], [], [], [775], [], [], [], [], [], [84, 1056, 1058, 51], []] = true := by decide +kernel
end
section
/-! each instruction against the tables, by the kernel; ps: where its words stand -/
theorem ck_m42 : at_all mt_42 cd_42 [[], [], [749], [], [], [], [757], [], [], [], [], [], [763], [], [], [], [], [], [782], [], [], []] = true := by decide +kernel
theorem ck_m43 : at_all mt_43 cd_43 [[], [770], [], [], [], [], [], [], [], []] = true := by decide +kernel
theorem ck_m44 : at_all mt_44 cd_44 [[], [768], [], [], [], [], [], [], [768], [], [], []] = true := by decide +kernel
theorem ck_m45 : at_all mt_45 cd_45 [[], [], [749], [], [], [84, 1036, 1038, 46], [], [], [], [], [783], [], [], [], [], [], [], [], [], [764], [], [], [], [], [], [84, 1040, 1042, 47], [], [], [], [84, 1044, 1046, 48], [], [], [], [], [], [], [771], [], [], [], [], [], [], [], [], [], [84, 1004, 1006, 41], [], [], [775], [], [], [], [], [], [84, 1048, 1050, 49], [], [785], [], [], [767], [], [], [], [], []] = true := by decide +kernel
theorem ck_m46 : at_all mt_46 cd_46 [[], [], [749], [], [], [84, 1036, 1038, 46], [], [], [], [], [], [], [], [84, 1048, 1050, 49], [], [], [785], [], [], [786], [], [], [], [], []] = true := by decide +kernel
theorem ck_m47 : at_all mt_47 cd_47 [[], [], [749], [], [], [84, 1036, 1038, 46], [], [], [], [], [], [783], [], [], [84, 1044, 1046, 48], [], [], [], [], [783], [], [], [], [], [], [770], [], [], [], [769], [], [], [], [], [], [753], [], [769], [], [], [], [], [], [], [], []] = true := by decide +kernel
theorem ck_m48 : at_all mt_48 cd_48 [[], [], [749], [], [750], [], [], [], [750], [], [], [], [], [782], [], [], [], [84, 1048, 1050, 49], [], [785], [], [], [], [], [], [], [], [], [], [], [], [], [], [], [786], [], [], [], [751], [], [], [], [], [], [], [], [], [], [], [], [], [], [], [], [], []] = true := by decide +kernel
theorem ck_m49 : at_all mt_49 cd_49 [[], [803], [], [795], [], [], [797], [], [803], [], [], [], []] = true := by decide +kernel
theorem ck_m50 : at_all mt_50 cd_50 [[], [84, 1092, 1094, 56], [], [], [], [], [803], [], [], [803], [], []] = true := by decide +kernel
theorem ck_m51 : at_all mt_51 cd_51 [[], [804], [], [], [], [], [803], [804], []] = true := by decide +kernel
theorem ck_m52 : at_all mt_52 cd_52 [[], [798], [], [796], [], [], [], [799], [], [796], [], [], [], [800], [], [796], [], [], [], [801], [], [796], [], [], [], [802], [], [796], [], [], [], [], [796], [], [], [796], []] = true := by decide +kernel
theorem ck_m53 : at_all mt_53 cd_53 [[], [84, 1088, 1090, 55], [], [803], [], [], [], [], [84, 1092, 1094, 56], [84, 964, 965], [], [], [], [84, 1092, 1094, 56], [84, 967, 968], [], [], [84, 1100, 1102, 58], [], [], [], [84, 1092, 1094, 56], [84, 967, 968], [], [], [803], [], [], [], [], [], [], [803], [], [], [803], [], [], [84, 1092, 1094, 56], [84, 967, 968], [], [], [84, 1100, 1102, 58], [], []] = true := by decide +kernel
theorem ck_m54 : at_all mt_54 cd_54 [[], [805], [], [], [], [84, 1100, 1102, 58], [], [], [], [805], [], [], [805], [], [807], [], [806], [], [], [], [], [806], [], [], [806], [], [], [803], [], [], [803], []] = true := by decide +kernel
theorem ck_m55 : at_all mt_55 cd_55 [[], [], [84, 1108, 1110, 60], [], [], [803], [], [], [], [84, 1112, 1114, 61], [], [799], [], [796], [], [], [], [], [], [800], [], [796], [], [], [], [], [], [804], [], [], [], [], [84, 1088, 1090, 55], [], [84, 1092, 1094, 56], [], [], [], [], [], [803], [], [], [803], [], [798], [], [796], [], [], [], [], [], [801], [], [796], [], [], [], [], [84, 1108, 1110, 60], [], [], [802], [], [796], [], [], [], [803], [], []] = true := by decide +kernel
theorem ck_m56 : at_all mt_56 cd_56 [[], [], [803], [], [], [803], [], [], [84, 1108, 1110, 60], [], [], [], [84, 1112, 1114, 61], [], [799], [], [796], [], [], [], [], [], [800], [], [796], [], [], [], [803], [], []] = true := by decide +kernel
theorem ck_m57 : at_all mt_57 cd_57 [[], [], [803], [], [], [803], [], [84, 1088, 1090, 55], [], [84, 1092, 1094, 56], [], [], [], [], [], [], [], [], [84, 1100, 1102, 58], [], [], [], [84, 1112, 1114, 61], [], [801], [], [796], [], [], [], [], [], [], [], [], [803], [], [], [803], []] = true := by decide +kernel
theorem ck_m58 : at_all mt_58 cd_58 [[], [84, 1088, 1090, 55], [], [84, 1092, 1094, 56], [], [], [], [], [], [], [], [], [], [84, 1096, 1098, 57], [], [], [], [84, 964, 965], [], [], [84, 1104, 1106, 59], [], [], [], [], [], [], [], [], [], [], [], [], [], [], [84, 1116, 1118, 62], [], [], [], [], [], [84, 1120, 1122, 63], [], [], [], [], [], [], [], [], [], [], [], [], [], [], [84, 1112, 1114, 61], [], [], [803], [], [], [803], [], [], [84, 1100, 1102, 58], [], [804], [], [], [], [], [], []] = true := by decide +kernel
theorem ck_m59 : at_all mt_59 cd_59 [[], [806], [], [], [], [], [807], [], [806], [], [], [], []] = true := by decide +kernel
theorem ck_m60 : at_all mt_60 cd_60 [[], [], [806], [], [], [806], [], [], [807], [], [806], [], [84, 1112, 1114, 61], []] = true := by decide +kernel
theorem ck_m61 : at_all mt_61 cd_61 [[], [84, 1128, 1130, 65], [], [], [], [84, 1132, 1134, 66], [], [], [805], [], [], [805], [], []] = true := by decide +kernel
theorem ck_m62 : at_all mt_62 cd_62 [[], [84, 1088, 1090, 55], [], [84, 1092, 1094, 56], [], [], [84, 1128, 1130, 65], [], [], [], [84, 1128, 1130, 65], [], [], [], [], [], [], [84, 1132, 1134, 66], [], [], [803], [], [795], [], [], [806], [], [], [84, 1100, 1102, 58], [], [], [], [], [], [], [], [], [], [807], [], [806], [], [], [], [], [806], [], [], [806], [], [], [803], [], [], [803], [], [], [], [], [], [], [84, 1128, 1130, 65], [], [], [], [84, 1100, 1102, 58], [], [], [], [], [806], [], [], [806], [], [], [805], [], [], [805], [], [], [803], [], [], [803], [], [84, 1124, 1126, 64], [], []] = true := by decide +kernel
end
section
/-! each instruction against the tables, by the kernel; ps: where its words stand -/
theorem ck_m63 : at_all mt_63 cd_63 [[], [], [803], [], [], [804], [], [], [796], [], [], [805], [], [], [806], [], [], [], [], [], [804], [], [], [], [], [], [], [84, 1084, 1086, 54], [], [], [], [], [84, 1124, 1126, 64], [], [], [], [], [], [], [], [], [84, 1136, 1138, 67], [], [], []] = true := by decide +kernel
theorem ck_m64 : at_all mt_64 cd_64 [[], [], [749], [], [750], [], [], [], [750], [], [], [], [], [], [], [], [795], [], [], [], [], [795], [], [], [797], [], [], [751], [], [], [], [], [], [], [], [], [], [], [], [84, 1080, 1082, 53], [], [804], [], [], [], [804], [], [], [], [787], [], [], [796], [789], [], [], [], [], [795], [], [], [788], [], [], [797], [], [], [], [], [], [], [], [], [], [796], [], [], [790], [], [], [798], [], [], [], [], [791], [], [], [799], [], [], [], [], [792], [], [], [800], [], [], [], [], [793], [], [], [801], [], [], [], [], [794], [], [], [802], [], [], [], [], [], [], []] = true := by decide +kernel
theorem ck_m65 : at_all mt_65 cd_65 [[], [], [], [], [], [], [], [], [], [], [], [], [], [], [], [], [], [], [], [], [], [753], [], [], [], [], [], [788], [], [], [], [], [], [], [], [], [], [], [], [], []] = true := by decide +kernel
theorem ck_m66 : at_all mt_66 cd_66 [[], [], [], [], [], [], [], [], [], [], [], [772], [], [], [], [], [], [], [], [], [773], [], [], [], [774], [], [], [], [791], [], [], [], [792], [], [], [84, 1156, 1158, 71], [], [], [], [], [], [], [], [], [764], [], [], [], [], [], [], [], [], [], [], [], [], [], [], [760], [], [], [], [], [], [], [], [], [761], [], [], [], [762], [], [], [], [791], [], [], [], [792], [], [], [84, 1156, 1158, 71], [], [], [], [], [], [], [], [], []] = true := by decide +kernel
theorem ck_m67 : at_all mt_67 cd_67 [[], [783], [], [], [], [], [], [], [], [], [], [], [], [], [], [], [775], [], [], [], [], [], [], [776], [], [], [], [777], [], [], [], [791], [], [], [], [792], [], [], [84, 1156, 1158, 71], [], [], [], [], [84, 1060, 1062, 52], [], [], [], [], [], [], [], [779], [], [], [], [780], [], [], [], [793], [], [], [], [794], [], [], [84, 1156, 1158, 71], [], [], [], [], [], [], [], [], []] = true := by decide +kernel
theorem ck_m68 : at_all mt_68 cd_68 [[], [783], [], [], [], [], [764], [], [], [], [], [790], [], [], [], [], [], [], [84, 1152, 1154, 70], [], [], [], [], [], [758], [], [], [], [759], [], [], [], [791], [], [], [], [792], [], [], [84, 1156, 1158, 71], [], [], [], [], [], [], [], [765], [], [], [], [766], [], [], [], [791], [], [], [], [792], [], [], [84, 1156, 1158, 71], [], [], [], [], [84, 1160, 1162, 72], [], [], [], [84, 1040, 1042, 47], [], [793], [], [], [], [], [], [], [], [], [], [84, 1044, 1046, 48], [], [], [771], [], [], []] = true := by decide +kernel
theorem ck_m69 : at_all mt_69 cd_69 [[], [], [], [], [], [], [789], [], [], [790], [], [], [], [], [], [808], [], [], [], [], [808], [], [], [], [], [], [], [], [], [], [], [], [790], [], [], [], [], [], [790], [], [], [], [], [], [], [808], [], [], [], [], [790], [], [], [], [], [], [808], [], [], [], [], [], [], [808], [], [], [], [], [], [], [], [], [808], [], [], [], [], [], [], [808], [], [], [], [], [], [], [], [], [], [808], [], [], [], [], [84, 1148, 1150, 69], [], [], [], [], [], [808], [], [], []] = true := by decide +kernel
theorem ck_m70 : at_all mt_70 cd_70 [[], [], [749], [], [], [84, 1036, 1038, 46], [], [], [787], [], [], [], [84, 1144, 1146, 68], [], [], [], [], []] = true := by decide +kernel
theorem ck_m71 : at_all mt_71 cd_71 [[], [], [749], [], [], [], [], [], [], [782], [], [], [], [787], [], [], [], [84, 1144, 1146, 68], [], [], [], [], [], [], [], [], [], []] = true := by decide +kernel
theorem ck_m72 : at_all mt_72 cd_72 [[], [], [749], [], [], [84, 1036, 1038, 46], [], [], [], [], [783], [], [], [], [], [], [84, 1044, 1046, 48], [], [], [], [], [771], [], [], [], [], [], [], [], [], [], [], [], [], [], [], []] = true := by decide +kernel
theorem ck_m73 : at_all mt_73 cd_73 [[], [152, 98, 99], [], [153], [], [], [77, 154, 130], [194], [], [153], [], [], [77, 154, 130], [198], [], [], [153, 155], [203], [], [], [], [], [203], [], [], [], [203], [], [153], [], [], [77, 154, 130], [], [], [], []] = true := by decide +kernel
theorem ck_m74 : at_all mt_74 cd_74 [[], [], [156], [], [], [169], [], [], [165], [], [], [161], [], [], [171], [], [], [192], [], [], [175], [], [], [179], [], [], [189], [], [194], [], [137], [], [198], [], [137], []] = true := by decide +kernel
end
section
/-! each instruction against the tables, by the kernel; ps: where its words stand -/
theorem ck_m75 : at_all mt_75 cd_75 [[], [], [], [], [198], [137], [], [], [], [], [], [187], [], [], [], [198], [137], [], [], [], [], [], [], [], [203], [], [], [137], [], [], [], [203], [], [], [137], [], [], [], [], [], [203], [], [], [137], [], [], [], [], [203], [], [], [], [], [], [77, 626, 540, 541], [], [], []] = true := by decide +kernel
theorem ck_m76 : at_all mt_76 cd_76 [[], [324, 98, 99], [], [], [120], [325], [], [], [145], [326], [], [], [145], [327], [], [], [343], [328], []] = true := by decide +kernel
theorem ck_m77 : at_all mt_77 cd_77 [[], [329], [], [325], [], [], [], [325], [], [329], [], [], [], [326], [], [329], [], [], [], [327], [], [329], [], [], [], [], [329], [], [], [329], []] = true := by decide +kernel
theorem ck_m78 : at_all mt_78 cd_78 [[], [], [], [], [], [], [329], [], [], [325], [], [], [], [], [], [], [], [], [82, 717, 719, 23], [], [], [325], [], [], [], [], [], [325], [], [], [], [], [], [], [], [325], [], [], [], [], [], [82, 721, 723, 24], [], [], [], [], [], [328], [], [], [], [328], [], [], [], [], [], [82, 725, 727, 25], [], [], [], [], [], [], [], [], [], [328], [], [], [], [328], [], [], [], [], [], [], [], [], []] = true := by decide +kernel
theorem ck_m79 : at_all mt_79 cd_79 [[], [], [], [], [328], [], [], [], [328], [], [], [328], [], [], [], [], [], [], [], []] = true := by decide +kernel
theorem ck_m80 : at_all mt_80 cd_80 [[], [], [], [], [], [], [328], [], [], [], [328], [], [], [], [], [328], [], [], [], [], [], [], [328], [], [], [], [], [], [], [], [], [], [], [], [], [], [], [], [], [], [], [], [], []] = true := by decide +kernel
theorem ck_m81 : at_all mt_81 cd_81 [[], [325], [], [], [], [], [197], [], [326], [], [], [77, 729, 523, 524], [], [], [], [], [], [], [], [168], [], [], [], [163], [], [326], [], [], [], [], [], [], [], [], [], [159], [], [326], [], [], [], [], [], [], [], [], [], [], [], [], [82, 730, 732, 26], [], [], [173], [], [], [327], [], [], [], [], [], [], [], [], [], [177], [], [], [181], [], [], []] = true := by decide +kernel
theorem ck_m82 : at_all mt_82 cd_82 [[], [201], [], [326], [], [], [77, 729, 523, 524], [], [], [], [], [], [], [], [78, 734, 623, 624], [], [327], [], [], [], [], [], [], [], []] = true := by decide +kernel
theorem ck_m83 : at_all mt_83 cd_83 [[], [318, 98, 99], [], [], [344], [], [], [107], [345], [], [319], [], [82, 321, 322], [348], []] = true := by decide +kernel
theorem ck_m84 : at_all mt_84 cd_84 [[], [344], [110], [], [], [], [], [], [], [344], [110], [346], [], [], [347], [], [348], [], [330], [], [], [81, 651, 653, 12], [], [], [347], [], [346], [], [], [], [], [347], []] = true := by decide +kernel
theorem ck_m85 : at_all mt_85 cd_85 [[], [348], [], [], [], [348], [], []] = true := by decide +kernel
theorem ck_m86 : at_all mt_86 cd_86 [[], [], [81, 655, 657, 13], [], [], [], [], [347], [], [346], [], [], [81, 663, 665, 15], [], [], [], [], [347], [], [], [347], [], [], [81, 655, 657, 13], [], [], [], [], [348], [], [], [], [82, 671, 672, 673], [], [], []] = true := by decide +kernel
theorem ck_m87 : at_all mt_87 cd_87 [[], [], [81, 659, 661, 14], [], [], [], [], [347], [], [346], [], [], [81, 663, 665, 15], [], [], [], [], [347], [], [], [347], [], [], [81, 659, 661, 14], [], [], [], [], [348], [], [], [], [82, 671, 672, 673], [], [], []] = true := by decide +kernel
theorem ck_m88 : at_all mt_88 cd_88 [[], [81, 663, 665, 15], [], [], [], [], [], [], [], [], [], [], [81, 667, 669, 16], [], [], [], [], [], [], [], [], [], [], [], [], [81, 675, 677, 17], [], [], [], [], [], [], [], [81, 679, 681, 18], [], [], [], [81, 679, 681, 18], [], [], [81, 683, 685, 19], [], [], [], [81, 687, 689, 20], [], [], [], [81, 687, 689, 20], [], [], [81, 701, 703, 22], []] = true := by decide +kernel
theorem ck_m89 : at_all mt_89 cd_89 [[], [], [347], [], [], [347], [], [], [81, 659, 661, 14], [], [], [], [], [348], [], [], [], [82, 671, 672, 673], [], []] = true := by decide +kernel
theorem ck_m90 : at_all mt_90 cd_90 [[], [], [347], [], [], [347], [], [], [81, 651, 653, 12], [], [], [81, 663, 665, 15], [], [], [], [], [], [], [347], [], [], [347], [], []] = true := by decide +kernel
theorem ck_m91 : at_all mt_91 cd_91 [[], [], [347], [], [], [347], [], [348], [], [], [], [82, 671, 672, 673], [], []] = true := by decide +kernel
theorem ck_m92 : at_all mt_92 cd_92 [[], [], [347], [], [], [347], [], [], [81, 691, 693, 21], [], [], [348], [], [], [], [82, 671, 672, 673], [], [], [], [], [], [], [], []] = true := by decide +kernel
theorem ck_m93 : at_all mt_93 cd_93 [[], [], [347], [], [], [347], [], [81, 663, 665, 15], [], [], [], [], [], [], [], [], [], [], [], [347], [], [], [347], [], [348], [], [], [], [], [], [], [82, 671, 672, 673], [], []] = true := by decide +kernel
theorem ck_m94 : at_all mt_94 cd_94 [[], [], [81, 691, 693, 21], [], [], [], [], [], [], [], [], [81, 663, 665, 15], [], [], [], [348], [], [], [], [82, 671, 672, 673], [], [], [], [], [347], [], [], [347], [], [], [81, 691, 693, 21], [], [], [348], [], [], [], [82, 671, 672, 673], [], [], [], [], [], [], [], []] = true := by decide +kernel
theorem ck_m95 : at_all mt_95 cd_95 [[], [81, 663, 665, 15], [], [], [], [], [90, 695, 508], [], [], [], [], [346], [], [347], [], [], [696, 697, 91, 698], [], [], [], [], [347], [], [], [], [345], [], [347], [], [90, 699, 515], [], [], [700], [], [], [345], [], [347], [], [90, 699, 515], [], [], [], [], [], [347], [], [], [347], [], [], []] = true := by decide +kernel
end
section
/-! each instruction against the tables, by the kernel; ps: where its words stand -/
theorem ck_m96 : at_all mt_96 cd_96 [[], [347], [], [346], [], [], [345], [], [347], [], [], [], [], [], [347], [], [], [347], [], [], [347], [], [346], [], [], [345], [], [347], [], [], [], []] = true := by decide +kernel
theorem ck_m97 : at_all mt_97 cd_97 [[], [132, 98, 99], [], [], [], [], [], [], [145], [133], []] = true := by decide +kernel
theorem ck_m98 : at_all mt_98 cd_98 [[], [], [], [], [], [135], [], [133], [], [], [], [], [77, 522, 523, 524], [], [], [], [], [], [133], [], [135], [], [], [], [], [135], [], [], [135], [], []] = true := by decide +kernel
theorem ck_m99 : at_all mt_99 cd_99 [[], [], [], [], [135], [], [], [133], [], [], [], [], [], [], [], [], [], [], []] = true := by decide +kernel
theorem ck_m100 : at_all mt_100 cd_100 [[], [], [], [], [135], [], [], [133], [], [], [], [], []] = true := by decide +kernel
theorem ck_m101 : at_all mt_101 cd_101 [[], [], [], [], [135], [], [], [], [133], [], [], [77, 547, 519, 520], [], [], [], []] = true := by decide +kernel
theorem ck_m102 : at_all mt_102 cd_102 [[], [], [], [], [], [], [], [], [], []] = true := by decide +kernel
theorem ck_m103 : at_all mt_103 cd_103 [[], [], [], [], [], [], [], [], [], [], [], [], [], [], [], [], [], [], [], [], [], [], [], [], [], [], [], [], [], [], []] = true := by decide +kernel
theorem ck_m104 : at_all mt_104 cd_104 [[], [], [], [], [], [], [], [], [], [], [612], [], [], [], [], []] = true := by decide +kernel
theorem ck_m105 : at_all mt_105 cd_105 [[], [612], [], [], [], [], [], [], [], [], [], [], [], [], [], [], [], [], [], [], [], [], [], [], [], [], []] = true := by decide +kernel
theorem ck_m106 : at_all mt_106 cd_106 [[], [126, 98, 99], [], [], [120], [237], [], [127], [], [], [77, 129, 130], [242], [], [], [146, 147], [245], [], [], [236], [250], [], [], [], [], [245], [], [], [], [245], [], [146], [], [78, 149, 150], [], [], [], []] = true := by decide +kernel
theorem ck_m107 : at_all mt_107 cd_107 [[], [242], [], [134], [], [], [247], [], [], [252], []] = true := by decide +kernel
theorem ck_m108 : at_all mt_108 cd_108 [[], [76, 419, 420, 421], [], [], [112], [241], [], [108], [], [], [237], [], [], [241], [423, 425, 424, 85], []] = true := by decide +kernel
theorem ck_m109 : at_all mt_109 cd_109 [[], [], [], [], [241], [], [], [237], [], [], [], [], [], [], [], []] = true := by decide +kernel
theorem ck_m110 : at_all mt_110 cd_110 [[], [], [], [], [], [], [247], [], [], [245], [], [], [], [188], [], [], [], [], [245], [], [], [190], [], [], [], [250], [], [], [], [250], [], [], [], [], [], [], [], [], []] = true := by decide +kernel
theorem ck_m111 : at_all mt_111 cd_111 [[], [], [], [], [252], [], [], [], [], []] = true := by decide +kernel
theorem ck_m112 : at_all mt_112 cd_112 [[], [245], [], [], [76, 600, 593, 594], [], [], [250], [], [], [], [], [], []] = true := by decide +kernel
theorem ck_m113 : at_all mt_113 cd_113 [[], [275, 98, 99], [], [276], [], [], [77, 277, 130], [302], [], [], [300], [], [278], [], [], [238], [80, 280, 281], [301], []] = true := by decide +kernel
theorem ck_m114 : at_all mt_114 cd_114 [[], [300], [], [76, 415, 416, 417], [], [], [303], [], [], [], [], [], [], [300], [240], [], [], [300], [], [76, 426, 427, 428], [], [], [301], [], [], [80, 430, 431, 432], [], [], [79, 438, 440, 1], [], [], [300], [76, 578, 420, 421], [], [], [], [], [], [], [], [], [], [300], [76, 579, 580, 581], [], []] = true := by decide +kernel
theorem ck_m115 : at_all mt_115 cd_115 [[], [301], [289], [], [], [301], [80, 442, 443, 444], [], [], [], [], [301], [], [80, 447, 448, 449], [], [], [79, 499, 501, 2], [], [], [301], [], [80, 447, 448, 449], [], [], [], [79, 527, 529, 3], [], [], [301], [], [80, 447, 448, 449], [], [], [79, 549, 551, 5], [], [], [303], [], [], [300], [248], [], [], [], [], [], [300], [246], [], [300], [248], [], [], [], [], [], [301], [], [80, 447, 448, 449], [], [], [], [79, 554, 556, 6], [], [], [301], [], [80, 447, 448, 449], [], [], [], [79, 560, 562, 7], [], [], [301], [], [80, 447, 448, 449], [], [], [], [79, 569, 571, 8], [], [], [301], [], [80, 447, 448, 449], [], [], [], [79, 574, 576, 9], [], [], [], [], []] = true := by decide +kernel
theorem ck_m116 : at_all mt_116 cd_116 [[], [], [303], [], [302], [], [138], [], [301], [289], [], [], [], [300], [243], [], [301], [], [80, 503, 504, 505], [77, 518, 519, 520], [], [], [], [], []] = true := by decide +kernel
theorem ck_m117 : at_all mt_117 cd_117 [[], [301], [], [80, 503, 504, 505], [], [], [300], [243], [138], [], [], [], [], [301], [289], [], [], [], [], [], [], [], [], [], [79, 531, 533, 4], [], [], [], [], [300], [248], [], [300], [246], [], [], [], [300], [254], [], [], [], [], [], [300], [246], [], [300], [248], [], [], [], [], [], [78, 535, 536, 537], [], [], [], [], [], [167], [], [], [300], [243], [], [77, 539, 540, 541], [162], [], [196], [], [302], [77, 543, 544, 545], [], [300], [], [248], [], [], [248], [], [300], [], [254], [], [], [254], [], [], [303], [], []] = true := by decide +kernel
theorem ck_m118 : at_all mt_118 cd_118 [[], [], [], [], [300], [248], [], [], [300], [246], [], [], [167], [], [], [], [300], [246], [], [], [158], [], [], [], [], [], [], [], [], []] = true := by decide +kernel
theorem ck_m119 : at_all mt_119 cd_119 [[], [301], [289], [], [], [], [303], [], [], [300], [243], [138], [], [], [], [], [302], [], [], [303], [], [], [300], [248], [], [], [300], [246], [], [300], [248], [], [], [], [196], [], [], [], [], [], [301], [289], [], [], [], [301], [], [80, 503, 504, 505], [77, 518, 519, 520], [], [], [], [], [], [], []] = true := by decide +kernel
end
section
/-! each instruction against the tables, by the kernel; ps: where its words stand -/
theorem ck_m120 : at_all mt_120 cd_120 [[], [202], [138], [], [], [301], [289], [], [], [], [202], [], [301], [], [80, 503, 504, 505], [77, 518, 519, 520], [], [], [], [204], [], [], [], [], [], [204], [], [], [], [], [], [138], [], [], [], [], [301], [289], [], [], [], [301], [], [80, 558, 511, 512], [77, 518, 519, 520], [], [], [], [], [], [], [191], [], [], [], [], [138], [], [191], [], [300], [], [254], [], [191], [], [], [], [254], [], [191], [], [], [], [300], [254], [], [], [], [], [], []] = true := by decide +kernel
theorem ck_m121 : at_all mt_121 cd_121 [[], [301], [], [80, 564, 565, 566], [], [], [301], [289], [], [], [], [], [], [193], [], [], [], [], [], [193], [], [], [174], [], []] = true := by decide +kernel
theorem ck_m122 : at_all mt_122 cd_122 [[], [301], [289], [], [], [], [178], [], [], [], [], [], [178], [], [], [301], [285], [], [], [184], [], [], [301], [287], [], [301], [289], [], [], [], [186], [], []] = true := by decide +kernel
theorem ck_m123 : at_all mt_123 cd_123 [[], [301], [289], [], [], [], [182], [], [], [], [], [], [182], [], []] = true := by decide +kernel
theorem ck_m124 : at_all mt_124 cd_124 [[], [105, 98, 99], [], [], [120], [106], []] = true := by decide +kernel
theorem ck_m125 : at_all mt_125 cd_125 [[], [], [], [], [], [], [], [], [], [], [], [], [], [], [], [], [75, 404, 405], [], [], [], [], [], [], [], [], [], [], [], [], [], [], [], [106], [], [], [111], [], [], [], [], [], [], [], [], [], [], [], [], [], [], [], [], [], [], [111], [], [106], [], [], [], [106], [], [111], [], [], [], [], [], [111], [], [], [111], [], [], [], []] = true := by decide +kernel
theorem ck_m126 : at_all mt_126 cd_126 [[], [], [], [], [], [], [], [], [], [], [], [], []] = true := by decide +kernel
theorem ck_m127 : at_all mt_127 cd_127 [[], [365, 98, 99], [], [], [120], [366], []] = true := by decide +kernel
theorem ck_m128 : at_all mt_128 cd_128 [[], [], [368], [], [164], [], [], [], [], [160], [83, 605, 607, 10], [], [], [83, 617, 619, 11], [], [], [157], [83, 605, 607, 10], [], [], [], [], [199], [136], [], [], [], [], [], [], [], [83, 617, 619, 11], [], [], [199], [], [77, 621, 540, 541], [83, 605, 607, 10], [], [], [83, 617, 619, 11], [], [], [], [], [78, 622, 623, 624], [83, 605, 607, 10], [], [], [], [199], [136], [], [], [], [83, 617, 619, 11], []] = true := by decide +kernel
theorem ck_m129 : at_all mt_129 cd_129 [[], [368], [], [366], [], [], [], [366], [], [368], [], [], [], [], [368], [], [], [368], []] = true := by decide +kernel
theorem ck_m130 : at_all mt_130 cd_130 [[], [90, 609, 610], [], [], [], [366], [], [], [368], [], [], [], [], [], [], [368], [], [], [], [], [], [], [], [368], [], [], [366], [], [], [90, 613, 614], [], [], [616], [], [], [], [], [], [], [368], [], [], [368], []] = true := by decide +kernel
theorem ck_m131 : at_all mt_131 cd_131 [[], [114], [], [368], [], [], [], [], [], [], [], [368], [], [], [109], [], [], [], [366], [], [], [], [], [], [], [], [], []] = true := by decide +kernel
theorem ck_m132 : at_all mt_132 cd_132 [[], [283, 98, 99], [], [], [236], [284], [], [], [236], [286], [], [], [290], []] = true := by decide +kernel
theorem ck_m133 : at_all mt_133 cd_133 [[], [], [288], [], [], [], [], [], [], [], [], [], [], [], [290], [], [], [], [], [], [], [], [80, 434, 436, 0], [], [], [], [], [], [], []] = true := by decide +kernel
theorem ck_m134 : at_all mt_134 cd_134 [[], [], [], [], [288], [], [284], [], [], [], [284], [], [288], [], [], [], [286], [], [288], [], [], [], [], [288], [], [], [288], []] = true := by decide +kernel
theorem ck_m135 : at_all mt_135 cd_135 [[], [288], [], [], [290], [], [284], [], [], [], [], [], [], [], [], []] = true := by decide +kernel
theorem ck_m136 : at_all mt_136 cd_136 [[], [288], [], [], [286], [], [], [], [284], [], [], [], [], [86, 451, 452, 453], [], [], [], [], [], [], [], [86, 451, 452, 453], [], [], [290], [], [284], [], [], [], [], [], [], [], [86, 461, 462, 463], [], [], [], [], [], [], []] = true := by decide +kernel
theorem ck_m137 : at_all mt_137 cd_137 [[], [], [], [], [288], [], [], [290], [], [284], [], [], [], [90, 507, 508], [], [], [], [], [], [], [], [], [], [80, 510, 511, 512], [], [], []] = true := by decide +kernel
theorem ck_m138 : at_all mt_138 cd_138 [[], [], [], [], [288], [], [], [286], [], [], [], [284], [], [], [], [], [], [], [], [], [], [], [284], [], [], [], [], [], [286], [], [], [], [], [290], [], [], [90, 514, 515], [], [], [], [], [], [], [517], [], [], [], [], [], [], [], [], []] = true := by decide +kernel
theorem ck_m139 : at_all mt_139 cd_139 [[], [], [], [], [288], [], [], [286], [], [], [], [284], [], [], [], [], [], [], [], [], [290], [], [284], [], [], [], [], [], [], [], [], [], [], [], [], [], [], [], []] = true := by decide +kernel
theorem ck_m140 : at_all mt_140 cd_140 [[], [1173], [], [], [86, 455, 456, 457], [], []] = true := by decide +kernel
theorem ck_m141 : at_all mt_141 cd_141 [[459], [], [], [1174], [], [], []] = true := by decide +kernel
theorem ck_m142 : at_all mt_142 cd_142 [[], [86, 465, 466, 467], [], [], [1173], [], [87, 469, 470], [], [], [1173], [], []] = true := by decide +kernel
theorem ck_m143 : at_all mt_143 cd_143 [[459], [], [], [1174], [], [], [], [], []] = true := by decide +kernel
theorem ck_m144 : at_all mt_144 cd_144 [[], [], [], [86, 472, 473], [], [], [], [], [], [], []] = true := by decide +kernel
end
section
/-! each instruction against the tables, by the kernel; ps: where its words stand -/
theorem ck_m145 : at_all mt_145 cd_145 [[], [], [475], [88, 477, 478], [], []] = true := by decide +kernel
theorem ck_m146 : at_all mt_146 cd_146 [[], [], [], [], [], [], [], [], [], []] = true := by decide +kernel
end
section
/-! the methods' codes stand in the tables -/
set_option maxRecDepth 100000 in
theorem cw_1 : Cond.code mt_1.1 mt_1.2.1 mt_1.2.2.1 mt_1.2.2.2.1 ∈ am_ws := List.mem_filter.mpr ⟨List.mem_of_getElem? (i := 96) rfl, rfl⟩
set_option maxRecDepth 100000 in
theorem cw_2 : Cond.code mt_2.1 mt_2.2.1 mt_2.2.2.1 mt_2.2.2.2.1 ∈ am_ws := List.mem_filter.mpr ⟨List.mem_of_getElem? (i := 399) rfl, rfl⟩
set_option maxRecDepth 100000 in
theorem cw_3 : Cond.code mt_3.1 mt_3.2.1 mt_3.2.2.1 mt_3.2.2.2.1 ∈ am_ws := List.mem_filter.mpr ⟨List.mem_of_getElem? (i := 410) rfl, rfl⟩
set_option maxRecDepth 100000 in
theorem cw_4 : Cond.code mt_4.1 mt_4.2.1 mt_4.2.2.1 mt_4.2.2.2.1 ∈ am_ws := List.mem_filter.mpr ⟨List.mem_of_getElem? (i := 587) rfl, rfl⟩
set_option maxRecDepth 100000 in
theorem cw_5 : Cond.code mt_5.1 mt_5.2.1 mt_5.2.2.1 mt_5.2.2.2.1 ∈ am_ws := List.mem_filter.mpr ⟨List.mem_of_getElem? (i := 591) rfl, rfl⟩
set_option maxRecDepth 100000 in
theorem cw_6 : Cond.code mt_6.1 mt_6.2.1 mt_6.2.2.1 mt_6.2.2.2.1 ∈ am_ws := List.mem_filter.mpr ⟨List.mem_of_getElem? (i := 630) rfl, rfl⟩
set_option maxRecDepth 100000 in
theorem cw_7 : Cond.code mt_7.1 mt_7.2.1 mt_7.2.2.1 mt_7.2.2.2.1 ∈ am_ws := List.mem_filter.mpr ⟨List.mem_of_getElem? (i := 634) rfl, rfl⟩
set_option maxRecDepth 100000 in
theorem cw_8 : Cond.code mt_8.1 mt_8.2.1 mt_8.2.2.1 mt_8.2.2.2.1 ∈ am_ws := List.mem_filter.mpr ⟨List.mem_of_getElem? (i := 638) rfl, rfl⟩
set_option maxRecDepth 100000 in
theorem cw_9 : Cond.code mt_9.1 mt_9.2.1 mt_9.2.2.1 mt_9.2.2.2.1 ∈ am_ws := List.mem_filter.mpr ⟨List.mem_of_getElem? (i := 646) rfl, rfl⟩
set_option maxRecDepth 100000 in
theorem cw_10 : Cond.code mt_10.1 mt_10.2.1 mt_10.2.2.1 mt_10.2.2.2.1 ∈ am_ws := List.mem_filter.mpr ⟨List.mem_of_getElem? (i := 712) rfl, rfl⟩
set_option maxRecDepth 100000 in
theorem cw_11 : Cond.code mt_11.1 mt_11.2.1 mt_11.2.2.1 mt_11.2.2.2.1 ∈ am_ws := List.mem_filter.mpr ⟨List.mem_of_getElem? (i := 738) rfl, rfl⟩
set_option maxRecDepth 100000 in
theorem cw_12 : Cond.code mt_12.1 mt_12.2.1 mt_12.2.2.1 mt_12.2.2.2.1 ∈ am_ws := List.mem_filter.mpr ⟨List.mem_of_getElem? (i := 742) rfl, rfl⟩
set_option maxRecDepth 100000 in
theorem cw_13 : Cond.code mt_13.1 mt_13.2.1 mt_13.2.2.1 mt_13.2.2.2.1 ∈ am_ws := List.mem_filter.mpr ⟨List.mem_of_getElem? (i := 747) rfl, rfl⟩
set_option maxRecDepth 100000 in
theorem cw_14 : Cond.code mt_14.1 mt_14.2.1 mt_14.2.2.1 mt_14.2.2.2.1 ∈ am_ws := List.mem_filter.mpr ⟨List.mem_of_getElem? (i := 933) rfl, rfl⟩
set_option maxRecDepth 100000 in
theorem cw_15 : Cond.code mt_15.1 mt_15.2.1 mt_15.2.2.1 mt_15.2.2.2.1 ∈ am_ws := List.mem_filter.mpr ⟨List.mem_of_getElem? (i := 966) rfl, rfl⟩
set_option maxRecDepth 100000 in
theorem cw_16 : Cond.code mt_16.1 mt_16.2.1 mt_16.2.2.1 mt_16.2.2.2.1 ∈ am_ws := List.mem_filter.mpr ⟨List.mem_of_getElem? (i := 969) rfl, rfl⟩
set_option maxRecDepth 100000 in
theorem cw_17 : Cond.code mt_17.1 mt_17.2.1 mt_17.2.2.1 mt_17.2.2.2.1 ∈ am_ws := List.mem_filter.mpr ⟨List.mem_of_getElem? (i := 946) rfl, rfl⟩
set_option maxRecDepth 100000 in
theorem cw_18 : Cond.code mt_18.1 mt_18.2.1 mt_18.2.2.1 mt_18.2.2.2.1 ∈ am_ws := List.mem_filter.mpr ⟨List.mem_of_getElem? (i := 955) rfl, rfl⟩
set_option maxRecDepth 100000 in
theorem cw_19 : Cond.code mt_19.1 mt_19.2.1 mt_19.2.2.1 mt_19.2.2.2.1 ∈ am_ws := List.mem_filter.mpr ⟨List.mem_of_getElem? (i := 963) rfl, rfl⟩
set_option maxRecDepth 100000 in
theorem cw_20 : Cond.code mt_20.1 mt_20.2.1 mt_20.2.2.1 mt_20.2.2.2.1 ∈ am_ws := List.mem_filter.mpr ⟨List.mem_of_getElem? (i := 973) rfl, rfl⟩
set_option maxRecDepth 100000 in
theorem cw_21 : Cond.code mt_21.1 mt_21.2.1 mt_21.2.2.1 mt_21.2.2.2.1 ∈ am_ws := List.mem_filter.mpr ⟨List.mem_of_getElem? (i := 959) rfl, rfl⟩
set_option maxRecDepth 100000 in
theorem cw_22 : Cond.code mt_22.1 mt_22.2.1 mt_22.2.2.1 mt_22.2.2.2.1 ∈ am_ws := List.mem_filter.mpr ⟨List.mem_of_getElem? (i := 978) rfl, rfl⟩
set_option maxRecDepth 100000 in
theorem cw_23 : Cond.code mt_23.1 mt_23.2.1 mt_23.2.2.1 mt_23.2.2.2.1 ∈ am_ws := List.mem_filter.mpr ⟨List.mem_of_getElem? (i := 999) rfl, rfl⟩
set_option maxRecDepth 100000 in
theorem cw_24 : Cond.code mt_24.1 mt_24.2.1 mt_24.2.2.1 mt_24.2.2.2.1 ∈ am_ws := List.mem_filter.mpr ⟨List.mem_of_getElem? (i := 1003) rfl, rfl⟩
set_option maxRecDepth 100000 in
theorem cw_25 : Cond.code mt_25.1 mt_25.2.1 mt_25.2.2.1 mt_25.2.2.2.1 ∈ am_ws := List.mem_filter.mpr ⟨List.mem_of_getElem? (i := 1007) rfl, rfl⟩
set_option maxRecDepth 100000 in
theorem cw_26 : Cond.code mt_26.1 mt_26.2.1 mt_26.2.2.1 mt_26.2.2.2.1 ∈ am_ws := List.mem_filter.mpr ⟨List.mem_of_getElem? (i := 995) rfl, rfl⟩
set_option maxRecDepth 100000 in
theorem cw_27 : Cond.code mt_27.1 mt_27.2.1 mt_27.2.2.1 mt_27.2.2.2.1 ∈ am_ws := List.mem_filter.mpr ⟨List.mem_of_getElem? (i := 991) rfl, rfl⟩
set_option maxRecDepth 100000 in
theorem cw_28 : Cond.code mt_28.1 mt_28.2.1 mt_28.2.2.1 mt_28.2.2.2.1 ∈ am_ws := List.mem_filter.mpr ⟨List.mem_of_getElem? (i := 1012) rfl, rfl⟩
set_option maxRecDepth 100000 in
theorem cw_29 : Cond.code mt_29.1 mt_29.2.1 mt_29.2.2.1 mt_29.2.2.2.1 ∈ am_ws := List.mem_filter.mpr ⟨List.mem_of_getElem? (i := 1017) rfl, rfl⟩
set_option maxRecDepth 100000 in
theorem cw_30 : Cond.code mt_30.1 mt_30.2.1 mt_30.2.2.1 mt_30.2.2.2.1 ∈ am_ws := List.mem_filter.mpr ⟨List.mem_of_getElem? (i := 1022) rfl, rfl⟩
set_option maxRecDepth 100000 in
theorem cw_31 : Cond.code mt_31.1 mt_31.2.1 mt_31.2.2.1 mt_31.2.2.2.1 ∈ am_ws := List.mem_filter.mpr ⟨List.mem_of_getElem? (i := 1027) rfl, rfl⟩
set_option maxRecDepth 100000 in
theorem cw_32 : Cond.code mt_32.1 mt_32.2.1 mt_32.2.2.1 mt_32.2.2.2.1 ∈ am_ws := List.mem_filter.mpr ⟨List.mem_of_getElem? (i := 950) rfl, rfl⟩
set_option maxRecDepth 100000 in
theorem cw_33 : Cond.code mt_33.1 mt_33.2.1 mt_33.2.2.1 mt_33.2.2.2.1 ∈ am_ws := List.mem_filter.mpr ⟨List.mem_of_getElem? (i := 986) rfl, rfl⟩
set_option maxRecDepth 100000 in
theorem cw_34 : Cond.code mt_34.1 mt_34.2.1 mt_34.2.2.1 mt_34.2.2.2.1 ∈ am_ws := List.mem_filter.mpr ⟨List.mem_of_getElem? (i := 982) rfl, rfl⟩
set_option maxRecDepth 100000 in
theorem cw_35 : Cond.code mt_35.1 mt_35.2.1 mt_35.2.2.1 mt_35.2.2.2.1 ∈ am_ws := List.mem_filter.mpr ⟨List.mem_of_getElem? (i := 942) rfl, rfl⟩
set_option maxRecDepth 100000 in
theorem cw_36 : Cond.code mt_36.1 mt_36.2.1 mt_36.2.2.1 mt_36.2.2.2.1 ∈ am_ws := List.mem_filter.mpr ⟨List.mem_of_getElem? (i := 938) rfl, rfl⟩
set_option maxRecDepth 100000 in
theorem cw_37 : Cond.code mt_37.1 mt_37.2.1 mt_37.2.2.1 mt_37.2.2.2.1 ∈ am_ws := List.mem_filter.mpr ⟨List.mem_of_getElem? (i := 1039) rfl, rfl⟩
set_option maxRecDepth 100000 in
theorem cw_38 : Cond.code mt_38.1 mt_38.2.1 mt_38.2.2.1 mt_38.2.2.2.1 ∈ am_ws := List.mem_filter.mpr ⟨List.mem_of_getElem? (i := 1059) rfl, rfl⟩
set_option maxRecDepth 100000 in
theorem cw_39 : Cond.code mt_39.1 mt_39.2.1 mt_39.2.2.1 mt_39.2.2.2.1 ∈ am_ws := List.mem_filter.mpr ⟨List.mem_of_getElem? (i := 1055) rfl, rfl⟩
set_option maxRecDepth 100000 in
theorem cw_40 : Cond.code mt_40.1 mt_40.2.1 mt_40.2.2.1 mt_40.2.2.2.1 ∈ am_ws := List.mem_filter.mpr ⟨List.mem_of_getElem? (i := 1063) rfl, rfl⟩
set_option maxRecDepth 100000 in
theorem cw_41 : Cond.code mt_41.1 mt_41.2.1 mt_41.2.2.1 mt_41.2.2.2.1 ∈ am_ws := List.mem_filter.mpr ⟨List.mem_of_getElem? (i := 1051) rfl, rfl⟩
set_option maxRecDepth 100000 in
theorem cw_42 : Cond.code mt_42.1 mt_42.2.1 mt_42.2.2.1 mt_42.2.2.2.1 ∈ am_ws := List.mem_filter.mpr ⟨List.mem_of_getElem? (i := 1031) rfl, rfl⟩
set_option maxRecDepth 100000 in
theorem cw_43 : Cond.code mt_43.1 mt_43.2.1 mt_43.2.2.1 mt_43.2.2.2.1 ∈ am_ws := List.mem_filter.mpr ⟨List.mem_of_getElem? (i := 1047) rfl, rfl⟩
set_option maxRecDepth 100000 in
theorem cw_44 : Cond.code mt_44.1 mt_44.2.1 mt_44.2.2.1 mt_44.2.2.2.1 ∈ am_ws := List.mem_filter.mpr ⟨List.mem_of_getElem? (i := 1043) rfl, rfl⟩
set_option maxRecDepth 100000 in
theorem cw_45 : Cond.code mt_45.1 mt_45.2.1 mt_45.2.2.1 mt_45.2.2.2.1 ∈ am_ws := List.mem_filter.mpr ⟨List.mem_of_getElem? (i := 1035) rfl, rfl⟩
set_option maxRecDepth 100000 in
theorem cw_46 : Cond.code mt_46.1 mt_46.2.1 mt_46.2.2.1 mt_46.2.2.2.1 ∈ am_ws := List.mem_filter.mpr ⟨List.mem_of_getElem? (i := 1067) rfl, rfl⟩
set_option maxRecDepth 100000 in
theorem cw_47 : Cond.code mt_47.1 mt_47.2.1 mt_47.2.2.1 mt_47.2.2.2.1 ∈ am_ws := List.mem_filter.mpr ⟨List.mem_of_getElem? (i := 1071) rfl, rfl⟩
set_option maxRecDepth 100000 in
theorem cw_48 : Cond.code mt_48.1 mt_48.2.1 mt_48.2.2.1 mt_48.2.2.2.1 ∈ am_ws := List.mem_filter.mpr ⟨List.mem_of_getElem? (i := 1075) rfl, rfl⟩
set_option maxRecDepth 100000 in
theorem cw_49 : Cond.code mt_49.1 mt_49.2.1 mt_49.2.2.1 mt_49.2.2.2.1 ∈ am_ws := List.mem_filter.mpr ⟨List.mem_of_getElem? (i := 1095) rfl, rfl⟩
set_option maxRecDepth 100000 in
theorem cw_50 : Cond.code mt_50.1 mt_50.2.1 mt_50.2.2.1 mt_50.2.2.2.1 ∈ am_ws := List.mem_filter.mpr ⟨List.mem_of_getElem? (i := 1091) rfl, rfl⟩
set_option maxRecDepth 100000 in
theorem cw_51 : Cond.code mt_51.1 mt_51.2.1 mt_51.2.2.1 mt_51.2.2.2.1 ∈ am_ws := List.mem_filter.mpr ⟨List.mem_of_getElem? (i := 1103) rfl, rfl⟩
set_option maxRecDepth 100000 in
theorem cw_52 : Cond.code mt_52.1 mt_52.2.1 mt_52.2.2.1 mt_52.2.2.2.1 ∈ am_ws := List.mem_filter.mpr ⟨List.mem_of_getElem? (i := 1115) rfl, rfl⟩
set_option maxRecDepth 100000 in
theorem cw_53 : Cond.code mt_53.1 mt_53.2.1 mt_53.2.2.1 mt_53.2.2.2.1 ∈ am_ws := List.mem_filter.mpr ⟨List.mem_of_getElem? (i := 1111) rfl, rfl⟩
set_option maxRecDepth 100000 in
theorem cw_54 : Cond.code mt_54.1 mt_54.2.1 mt_54.2.2.1 mt_54.2.2.2.1 ∈ am_ws := List.mem_filter.mpr ⟨List.mem_of_getElem? (i := 1099) rfl, rfl⟩
set_option maxRecDepth 100000 in
theorem cw_55 : Cond.code mt_55.1 mt_55.2.1 mt_55.2.2.1 mt_55.2.2.2.1 ∈ am_ws := List.mem_filter.mpr ⟨List.mem_of_getElem? (i := 1107) rfl, rfl⟩
set_option maxRecDepth 100000 in
theorem cw_56 : Cond.code mt_56.1 mt_56.2.1 mt_56.2.2.1 mt_56.2.2.2.1 ∈ am_ws := List.mem_filter.mpr ⟨List.mem_of_getElem? (i := 1119) rfl, rfl⟩
set_option maxRecDepth 100000 in
theorem cw_57 : Cond.code mt_57.1 mt_57.2.1 mt_57.2.2.1 mt_57.2.2.2.1 ∈ am_ws := List.mem_filter.mpr ⟨List.mem_of_getElem? (i := 1123) rfl, rfl⟩
set_option maxRecDepth 100000 in
theorem cw_58 : Cond.code mt_58.1 mt_58.2.1 mt_58.2.2.1 mt_58.2.2.2.1 ∈ am_ws := List.mem_filter.mpr ⟨List.mem_of_getElem? (i := 1087) rfl, rfl⟩
set_option maxRecDepth 100000 in
theorem cw_59 : Cond.code mt_59.1 mt_59.2.1 mt_59.2.2.1 mt_59.2.2.2.1 ∈ am_ws := List.mem_filter.mpr ⟨List.mem_of_getElem? (i := 1131) rfl, rfl⟩
set_option maxRecDepth 100000 in
theorem cw_60 : Cond.code mt_60.1 mt_60.2.1 mt_60.2.2.1 mt_60.2.2.2.1 ∈ am_ws := List.mem_filter.mpr ⟨List.mem_of_getElem? (i := 1135) rfl, rfl⟩
set_option maxRecDepth 100000 in
theorem cw_61 : Cond.code mt_61.1 mt_61.2.1 mt_61.2.2.1 mt_61.2.2.2.1 ∈ am_ws := List.mem_filter.mpr ⟨List.mem_of_getElem? (i := 1127) rfl, rfl⟩
set_option maxRecDepth 100000 in
theorem cw_62 : Cond.code mt_62.1 mt_62.2.1 mt_62.2.2.1 mt_62.2.2.2.1 ∈ am_ws := List.mem_filter.mpr ⟨List.mem_of_getElem? (i := 1139) rfl, rfl⟩
set_option maxRecDepth 100000 in
theorem cw_63 : Cond.code mt_63.1 mt_63.2.1 mt_63.2.2.1 mt_63.2.2.2.1 ∈ am_ws := List.mem_filter.mpr ⟨List.mem_of_getElem? (i := 1083) rfl, rfl⟩
set_option maxRecDepth 100000 in
theorem cw_64 : Cond.code mt_64.1 mt_64.2.1 mt_64.2.2.1 mt_64.2.2.2.1 ∈ am_ws := List.mem_filter.mpr ⟨List.mem_of_getElem? (i := 1079) rfl, rfl⟩
set_option maxRecDepth 100000 in
theorem cw_65 : Cond.code mt_65.1 mt_65.2.1 mt_65.2.2.1 mt_65.2.2.2.1 ∈ am_ws := List.mem_filter.mpr ⟨List.mem_of_getElem? (i := 1159) rfl, rfl⟩
set_option maxRecDepth 100000 in
theorem cw_66 : Cond.code mt_66.1 mt_66.2.1 mt_66.2.2.1 mt_66.2.2.2.1 ∈ am_ws := List.mem_filter.mpr ⟨List.mem_of_getElem? (i := 1155) rfl, rfl⟩
set_option maxRecDepth 100000 in
theorem cw_67 : Cond.code mt_67.1 mt_67.2.1 mt_67.2.2.1 mt_67.2.2.2.1 ∈ am_ws := List.mem_filter.mpr ⟨List.mem_of_getElem? (i := 1163) rfl, rfl⟩
set_option maxRecDepth 100000 in
theorem cw_68 : Cond.code mt_68.1 mt_68.2.1 mt_68.2.2.1 mt_68.2.2.2.1 ∈ am_ws := List.mem_filter.mpr ⟨List.mem_of_getElem? (i := 1151) rfl, rfl⟩
set_option maxRecDepth 100000 in
theorem cw_69 : Cond.code mt_69.1 mt_69.2.1 mt_69.2.2.1 mt_69.2.2.2.1 ∈ am_ws := List.mem_filter.mpr ⟨List.mem_of_getElem? (i := 1147) rfl, rfl⟩
set_option maxRecDepth 100000 in
theorem cw_70 : Cond.code mt_70.1 mt_70.2.1 mt_70.2.2.1 mt_70.2.2.2.1 ∈ am_ws := List.mem_filter.mpr ⟨List.mem_of_getElem? (i := 1143) rfl, rfl⟩
set_option maxRecDepth 100000 in
theorem cw_71 : Cond.code mt_71.1 mt_71.2.1 mt_71.2.2.1 mt_71.2.2.2.1 ∈ am_ws := List.mem_filter.mpr ⟨List.mem_of_getElem? (i := 1167) rfl, rfl⟩
set_option maxRecDepth 100000 in
theorem cw_72 : Cond.code mt_72.1 mt_72.2.1 mt_72.2.2.1 mt_72.2.2.2.1 ∈ am_ws := List.mem_filter.mpr ⟨List.mem_of_getElem? (i := 1171) rfl, rfl⟩
set_option maxRecDepth 100000 in
theorem cw_73 : Cond.code mt_73.1 mt_73.2.1 mt_73.2.2.1 mt_73.2.2.2.1 ∈ am_ws := List.mem_filter.mpr ⟨List.mem_of_getElem? (i := 151) rfl, rfl⟩
set_option maxRecDepth 100000 in
theorem cw_74 : Cond.code mt_74.1 mt_74.2.1 mt_74.2.2.1 mt_74.2.2.2.1 ∈ am_ws := List.mem_filter.mpr ⟨List.mem_of_getElem? (i := 538) rfl, rfl⟩
set_option maxRecDepth 100000 in
theorem cw_75 : Cond.code mt_75.1 mt_75.2.1 mt_75.2.2.1 mt_75.2.2.2.1 ∈ am_ws := List.mem_filter.mpr ⟨List.mem_of_getElem? (i := 625) rfl, rfl⟩
set_option maxRecDepth 100000 in
theorem cw_76 : Cond.code mt_76.1 mt_76.2.1 mt_76.2.2.1 mt_76.2.2.2.1 ∈ am_ws := List.mem_filter.mpr ⟨List.mem_of_getElem? (i := 323) rfl, rfl⟩
set_option maxRecDepth 100000 in
theorem cw_77 : Cond.code mt_77.1 mt_77.2.1 mt_77.2.2.1 mt_77.2.2.2.1 ∈ am_ws := List.mem_filter.mpr ⟨List.mem_of_getElem? (i := 674) rfl, rfl⟩
set_option maxRecDepth 100000 in
theorem cw_78 : Cond.code mt_78.1 mt_78.2.1 mt_78.2.2.1 mt_78.2.2.2.1 ∈ am_ws := List.mem_filter.mpr ⟨List.mem_of_getElem? (i := 716) rfl, rfl⟩
set_option maxRecDepth 100000 in
theorem cw_79 : Cond.code mt_79.1 mt_79.2.1 mt_79.2.2.1 mt_79.2.2.2.1 ∈ am_ws := List.mem_filter.mpr ⟨List.mem_of_getElem? (i := 720) rfl, rfl⟩
set_option maxRecDepth 100000 in
theorem cw_80 : Cond.code mt_80.1 mt_80.2.1 mt_80.2.2.1 mt_80.2.2.2.1 ∈ am_ws := List.mem_filter.mpr ⟨List.mem_of_getElem? (i := 724) rfl, rfl⟩
set_option maxRecDepth 100000 in
theorem cw_81 : Cond.code mt_81.1 mt_81.2.1 mt_81.2.2.1 mt_81.2.2.2.1 ∈ am_ws := List.mem_filter.mpr ⟨List.mem_of_getElem? (i := 728) rfl, rfl⟩
set_option maxRecDepth 100000 in
theorem cw_82 : Cond.code mt_82.1 mt_82.2.1 mt_82.2.2.1 mt_82.2.2.2.1 ∈ am_ws := List.mem_filter.mpr ⟨List.mem_of_getElem? (i := 733) rfl, rfl⟩
set_option maxRecDepth 100000 in
theorem cw_83 : Cond.code mt_83.1 mt_83.2.1 mt_83.2.2.1 mt_83.2.2.2.1 ∈ am_ws := List.mem_filter.mpr ⟨List.mem_of_getElem? (i := 317) rfl, rfl⟩
set_option maxRecDepth 100000 in
theorem cw_84 : Cond.code mt_84.1 mt_84.2.1 mt_84.2.2.1 mt_84.2.2.2.1 ∈ am_ws := List.mem_filter.mpr ⟨List.mem_of_getElem? (i := 650) rfl, rfl⟩
set_option maxRecDepth 100000 in
theorem cw_85 : Cond.code mt_85.1 mt_85.2.1 mt_85.2.2.1 mt_85.2.2.2.1 ∈ am_ws := List.mem_filter.mpr ⟨List.mem_of_getElem? (i := 708) rfl, rfl⟩
set_option maxRecDepth 100000 in
theorem cw_86 : Cond.code mt_86.1 mt_86.2.1 mt_86.2.2.1 mt_86.2.2.2.1 ∈ am_ws := List.mem_filter.mpr ⟨List.mem_of_getElem? (i := 654) rfl, rfl⟩
set_option maxRecDepth 100000 in
theorem cw_87 : Cond.code mt_87.1 mt_87.2.1 mt_87.2.2.1 mt_87.2.2.2.1 ∈ am_ws := List.mem_filter.mpr ⟨List.mem_of_getElem? (i := 658) rfl, rfl⟩
set_option maxRecDepth 100000 in
theorem cw_88 : Cond.code mt_88.1 mt_88.2.1 mt_88.2.2.1 mt_88.2.2.2.1 ∈ am_ws := List.mem_filter.mpr ⟨List.mem_of_getElem? (i := 662) rfl, rfl⟩
set_option maxRecDepth 100000 in
theorem cw_89 : Cond.code mt_89.1 mt_89.2.1 mt_89.2.2.1 mt_89.2.2.2.1 ∈ am_ws := List.mem_filter.mpr ⟨List.mem_of_getElem? (i := 670) rfl, rfl⟩
set_option maxRecDepth 100000 in
theorem cw_90 : Cond.code mt_90.1 mt_90.2.1 mt_90.2.2.1 mt_90.2.2.2.1 ∈ am_ws := List.mem_filter.mpr ⟨List.mem_of_getElem? (i := 678) rfl, rfl⟩
set_option maxRecDepth 100000 in
theorem cw_91 : Cond.code mt_91.1 mt_91.2.1 mt_91.2.2.1 mt_91.2.2.2.1 ∈ am_ws := List.mem_filter.mpr ⟨List.mem_of_getElem? (i := 682) rfl, rfl⟩
set_option maxRecDepth 100000 in
theorem cw_92 : Cond.code mt_92.1 mt_92.2.1 mt_92.2.2.1 mt_92.2.2.2.1 ∈ am_ws := List.mem_filter.mpr ⟨List.mem_of_getElem? (i := 690) rfl, rfl⟩
set_option maxRecDepth 100000 in
theorem cw_93 : Cond.code mt_93.1 mt_93.2.1 mt_93.2.2.1 mt_93.2.2.2.1 ∈ am_ws := List.mem_filter.mpr ⟨List.mem_of_getElem? (i := 686) rfl, rfl⟩
set_option maxRecDepth 100000 in
theorem cw_94 : Cond.code mt_94.1 mt_94.2.1 mt_94.2.2.1 mt_94.2.2.2.1 ∈ am_ws := List.mem_filter.mpr ⟨List.mem_of_getElem? (i := 704) rfl, rfl⟩
set_option maxRecDepth 100000 in
theorem cw_95 : Cond.code mt_95.1 mt_95.2.1 mt_95.2.2.1 mt_95.2.2.2.1 ∈ am_ws := List.mem_filter.mpr ⟨List.mem_of_getElem? (i := 694) rfl, rfl⟩
set_option maxRecDepth 100000 in
theorem cw_96 : Cond.code mt_96.1 mt_96.2.1 mt_96.2.2.1 mt_96.2.2.2.1 ∈ am_ws := List.mem_filter.mpr ⟨List.mem_of_getElem? (i := 666) rfl, rfl⟩
set_option maxRecDepth 100000 in
theorem cw_97 : Cond.code mt_97.1 mt_97.2.1 mt_97.2.2.1 mt_97.2.2.2.1 ∈ am_ws := List.mem_filter.mpr ⟨List.mem_of_getElem? (i := 131) rfl, rfl⟩
set_option maxRecDepth 100000 in
theorem cw_98 : Cond.code mt_98.1 mt_98.2.1 mt_98.2.2.1 mt_98.2.2.2.1 ∈ am_ws := List.mem_filter.mpr ⟨List.mem_of_getElem? (i := 521) rfl, rfl⟩
set_option maxRecDepth 100000 in
theorem cw_99 : Cond.code mt_99.1 mt_99.2.1 mt_99.2.2.1 mt_99.2.2.2.1 ∈ am_ws := List.mem_filter.mpr ⟨List.mem_of_getElem? (i := 525) rfl, rfl⟩
set_option maxRecDepth 100000 in
theorem cw_100 : Cond.code mt_100.1 mt_100.2.1 mt_100.2.2.1 mt_100.2.2.2.1 ∈ am_ws := List.mem_filter.mpr ⟨List.mem_of_getElem? (i := 542) rfl, rfl⟩
set_option maxRecDepth 100000 in
theorem cw_101 : Cond.code mt_101.1 mt_101.2.1 mt_101.2.2.1 mt_101.2.2.2.1 ∈ am_ws := List.mem_filter.mpr ⟨List.mem_of_getElem? (i := 546) rfl, rfl⟩
set_option maxRecDepth 100000 in
theorem cw_102 : Cond.code mt_102.1 mt_102.2.1 mt_102.2.2.1 mt_102.2.2.2.1 ∈ am_ws := List.mem_filter.mpr ⟨List.mem_of_getElem? (i := 509) rfl, rfl⟩
set_option maxRecDepth 100000 in
theorem cw_103 : Cond.code mt_103.1 mt_103.2.1 mt_103.2.2.1 mt_103.2.2.2.1 ∈ am_ws := List.mem_filter.mpr ⟨List.mem_of_getElem? (i := 516) rfl, rfl⟩
set_option maxRecDepth 100000 in
theorem cw_104 : Cond.code mt_104.1 mt_104.2.1 mt_104.2.2.1 mt_104.2.2.2.1 ∈ am_ws := List.mem_filter.mpr ⟨List.mem_of_getElem? (i := 611) rfl, rfl⟩
set_option maxRecDepth 100000 in
theorem cw_105 : Cond.code mt_105.1 mt_105.2.1 mt_105.2.2.1 mt_105.2.2.2.1 ∈ am_ws := List.mem_filter.mpr ⟨List.mem_of_getElem? (i := 615) rfl, rfl⟩
set_option maxRecDepth 100000 in
theorem cw_106 : Cond.code mt_106.1 mt_106.2.1 mt_106.2.2.1 mt_106.2.2.2.1 ∈ am_ws := List.mem_filter.mpr ⟨List.mem_of_getElem? (i := 125) rfl, rfl⟩
set_option maxRecDepth 100000 in
theorem cw_107 : Cond.code mt_107.1 mt_107.2.1 mt_107.2.2.1 mt_107.2.2.2.1 ∈ am_ws := List.mem_filter.mpr ⟨List.mem_of_getElem? (i := 422) rfl, rfl⟩
set_option maxRecDepth 100000 in
theorem cw_108 : Cond.code mt_108.1 mt_108.2.1 mt_108.2.2.1 mt_108.2.2.2.1 ∈ am_ws := List.mem_filter.mpr ⟨List.mem_of_getElem? (i := 418) rfl, rfl⟩
set_option maxRecDepth 100000 in
theorem cw_109 : Cond.code mt_109.1 mt_109.2.1 mt_109.2.2.1 mt_109.2.2.2.1 ∈ am_ws := List.mem_filter.mpr ⟨List.mem_of_getElem? (i := 429) rfl, rfl⟩
set_option maxRecDepth 100000 in
theorem cw_110 : Cond.code mt_110.1 mt_110.2.1 mt_110.2.2.1 mt_110.2.2.2.1 ∈ am_ws := List.mem_filter.mpr ⟨List.mem_of_getElem? (i := 582) rfl, rfl⟩
set_option maxRecDepth 100000 in
theorem cw_111 : Cond.code mt_111.1 mt_111.2.1 mt_111.2.2.1 mt_111.2.2.2.1 ∈ am_ws := List.mem_filter.mpr ⟨List.mem_of_getElem? (i := 595) rfl, rfl⟩
set_option maxRecDepth 100000 in
theorem cw_112 : Cond.code mt_112.1 mt_112.2.1 mt_112.2.2.1 mt_112.2.2.2.1 ∈ am_ws := List.mem_filter.mpr ⟨List.mem_of_getElem? (i := 599) rfl, rfl⟩
set_option maxRecDepth 100000 in
theorem cw_113 : Cond.code mt_113.1 mt_113.2.1 mt_113.2.2.1 mt_113.2.2.2.1 ∈ am_ws := List.mem_filter.mpr ⟨List.mem_of_getElem? (i := 274) rfl, rfl⟩
set_option maxRecDepth 100000 in
theorem cw_114 : Cond.code mt_114.1 mt_114.2.1 mt_114.2.2.1 mt_114.2.2.2.1 ∈ am_ws := List.mem_filter.mpr ⟨List.mem_of_getElem? (i := 414) rfl, rfl⟩
set_option maxRecDepth 100000 in
theorem cw_115 : Cond.code mt_115.1 mt_115.2.1 mt_115.2.2.1 mt_115.2.2.2.1 ∈ am_ws := List.mem_filter.mpr ⟨List.mem_of_getElem? (i := 441) rfl, rfl⟩
set_option maxRecDepth 100000 in
theorem cw_116 : Cond.code mt_116.1 mt_116.2.1 mt_116.2.2.1 mt_116.2.2.2.1 ∈ am_ws := List.mem_filter.mpr ⟨List.mem_of_getElem? (i := 502) rfl, rfl⟩
set_option maxRecDepth 100000 in
theorem cw_117 : Cond.code mt_117.1 mt_117.2.1 mt_117.2.2.1 mt_117.2.2.2.1 ∈ am_ws := List.mem_filter.mpr ⟨List.mem_of_getElem? (i := 530) rfl, rfl⟩
set_option maxRecDepth 100000 in
theorem cw_118 : Cond.code mt_118.1 mt_118.2.1 mt_118.2.2.1 mt_118.2.2.2.1 ∈ am_ws := List.mem_filter.mpr ⟨List.mem_of_getElem? (i := 534) rfl, rfl⟩
set_option maxRecDepth 100000 in
theorem cw_119 : Cond.code mt_119.1 mt_119.2.1 mt_119.2.2.1 mt_119.2.2.2.1 ∈ am_ws := List.mem_filter.mpr ⟨List.mem_of_getElem? (i := 552) rfl, rfl⟩
set_option maxRecDepth 100000 in
theorem cw_120 : Cond.code mt_120.1 mt_120.2.1 mt_120.2.2.1 mt_120.2.2.2.1 ∈ am_ws := List.mem_filter.mpr ⟨List.mem_of_getElem? (i := 557) rfl, rfl⟩
set_option maxRecDepth 100000 in
theorem cw_121 : Cond.code mt_121.1 mt_121.2.1 mt_121.2.2.1 mt_121.2.2.2.1 ∈ am_ws := List.mem_filter.mpr ⟨List.mem_of_getElem? (i := 563) rfl, rfl⟩
set_option maxRecDepth 100000 in
theorem cw_122 : Cond.code mt_122.1 mt_122.2.1 mt_122.2.2.1 mt_122.2.2.2.1 ∈ am_ws := List.mem_filter.mpr ⟨List.mem_of_getElem? (i := 572) rfl, rfl⟩
set_option maxRecDepth 100000 in
theorem cw_123 : Cond.code mt_123.1 mt_123.2.1 mt_123.2.2.1 mt_123.2.2.2.1 ∈ am_ws := List.mem_filter.mpr ⟨List.mem_of_getElem? (i := 577) rfl, rfl⟩
set_option maxRecDepth 100000 in
theorem cw_124 : Cond.code mt_124.1 mt_124.2.1 mt_124.2.2.1 mt_124.2.2.2.1 ∈ am_ws := List.mem_filter.mpr ⟨List.mem_of_getElem? (i := 104) rfl, rfl⟩
set_option maxRecDepth 100000 in
theorem cw_125 : Cond.code mt_125.1 mt_125.2.1 mt_125.2.2.1 mt_125.2.2.2.1 ∈ am_ws := List.mem_filter.mpr ⟨List.mem_of_getElem? (i := 403) rfl, rfl⟩
set_option maxRecDepth 100000 in
theorem cw_126 : Cond.code mt_126.1 mt_126.2.1 mt_126.2.2.1 mt_126.2.2.2.1 ∈ am_ws := List.mem_filter.mpr ⟨List.mem_of_getElem? (i := 406) rfl, rfl⟩
set_option maxRecDepth 100000 in
theorem cw_127 : Cond.code mt_127.1 mt_127.2.1 mt_127.2.2.1 mt_127.2.2.2.1 ∈ am_ws := List.mem_filter.mpr ⟨List.mem_of_getElem? (i := 364) rfl, rfl⟩
set_option maxRecDepth 100000 in
theorem cw_128 : Cond.code mt_128.1 mt_128.2.1 mt_128.2.2.1 mt_128.2.2.2.1 ∈ am_ws := List.mem_filter.mpr ⟨List.mem_of_getElem? (i := 604) rfl, rfl⟩
set_option maxRecDepth 100000 in
theorem cw_129 : Cond.code mt_129.1 mt_129.2.1 mt_129.2.2.1 mt_129.2.2.2.1 ∈ am_ws := List.mem_filter.mpr ⟨List.mem_of_getElem? (i := 620) rfl, rfl⟩
set_option maxRecDepth 100000 in
theorem cw_130 : Cond.code mt_130.1 mt_130.2.1 mt_130.2.2.1 mt_130.2.2.2.1 ∈ am_ws := List.mem_filter.mpr ⟨List.mem_of_getElem? (i := 608) rfl, rfl⟩
set_option maxRecDepth 100000 in
theorem cw_131 : Cond.code mt_131.1 mt_131.2.1 mt_131.2.2.1 mt_131.2.2.2.1 ∈ am_ws := List.mem_filter.mpr ⟨List.mem_of_getElem? (i := 642) rfl, rfl⟩
set_option maxRecDepth 100000 in
theorem cw_132 : Cond.code mt_132.1 mt_132.2.1 mt_132.2.2.1 mt_132.2.2.2.1 ∈ am_ws := List.mem_filter.mpr ⟨List.mem_of_getElem? (i := 282) rfl, rfl⟩
set_option maxRecDepth 100000 in
theorem cw_133 : Cond.code mt_133.1 mt_133.2.1 mt_133.2.2.1 mt_133.2.2.2.1 ∈ am_ws := List.mem_filter.mpr ⟨List.mem_of_getElem? (i := 433) rfl, rfl⟩
set_option maxRecDepth 100000 in
theorem cw_134 : Cond.code mt_134.1 mt_134.2.1 mt_134.2.2.1 mt_134.2.2.2.1 ∈ am_ws := List.mem_filter.mpr ⟨List.mem_of_getElem? (i := 437) rfl, rfl⟩
set_option maxRecDepth 100000 in
theorem cw_135 : Cond.code mt_135.1 mt_135.2.1 mt_135.2.2.1 mt_135.2.2.2.1 ∈ am_ws := List.mem_filter.mpr ⟨List.mem_of_getElem? (i := 445) rfl, rfl⟩
set_option maxRecDepth 100000 in
theorem cw_136 : Cond.code mt_136.1 mt_136.2.1 mt_136.2.2.1 mt_136.2.2.2.1 ∈ am_ws := List.mem_filter.mpr ⟨List.mem_of_getElem? (i := 450) rfl, rfl⟩
set_option maxRecDepth 100000 in
theorem cw_137 : Cond.code mt_137.1 mt_137.2.1 mt_137.2.2.1 mt_137.2.2.2.1 ∈ am_ws := List.mem_filter.mpr ⟨List.mem_of_getElem? (i := 506) rfl, rfl⟩
set_option maxRecDepth 100000 in
theorem cw_138 : Cond.code mt_138.1 mt_138.2.1 mt_138.2.2.1 mt_138.2.2.2.1 ∈ am_ws := List.mem_filter.mpr ⟨List.mem_of_getElem? (i := 513) rfl, rfl⟩
set_option maxRecDepth 100000 in
theorem cw_139 : Cond.code mt_139.1 mt_139.2.1 mt_139.2.2.1 mt_139.2.2.2.1 ∈ am_ws := List.mem_filter.mpr ⟨List.mem_of_getElem? (i := 567) rfl, rfl⟩
set_option maxRecDepth 100000 in
theorem cw_140 : Cond.code mt_140.1 mt_140.2.1 mt_140.2.2.1 mt_140.2.2.2.1 ∈ am_ws := List.mem_filter.mpr ⟨List.mem_of_getElem? (i := 454) rfl, rfl⟩
set_option maxRecDepth 100000 in
theorem cw_141 : Cond.code mt_141.1 mt_141.2.1 mt_141.2.2.1 mt_141.2.2.2.1 ∈ am_ws := List.mem_filter.mpr ⟨List.mem_of_getElem? (i := 458) rfl, rfl⟩
set_option maxRecDepth 100000 in
theorem cw_142 : Cond.code mt_142.1 mt_142.2.1 mt_142.2.2.1 mt_142.2.2.2.1 ∈ am_ws := List.mem_filter.mpr ⟨List.mem_of_getElem? (i := 464) rfl, rfl⟩
set_option maxRecDepth 100000 in
theorem cw_143 : Cond.code mt_143.1 mt_143.2.1 mt_143.2.2.1 mt_143.2.2.2.1 ∈ am_ws := List.mem_filter.mpr ⟨List.mem_of_getElem? (i := 468) rfl, rfl⟩
set_option maxRecDepth 100000 in
theorem cw_144 : Cond.code mt_144.1 mt_144.2.1 mt_144.2.2.1 mt_144.2.2.2.1 ∈ am_ws := List.mem_filter.mpr ⟨List.mem_of_getElem? (i := 471) rfl, rfl⟩
set_option maxRecDepth 100000 in
theorem cw_145 : Cond.code mt_145.1 mt_145.2.1 mt_145.2.2.1 mt_145.2.2.2.1 ∈ am_ws := List.mem_filter.mpr ⟨List.mem_of_getElem? (i := 474) rfl, rfl⟩
set_option maxRecDepth 100000 in
theorem cw_146 : Cond.code mt_146.1 mt_146.2.1 mt_146.2.2.1 mt_146.2.2.2.1 ∈ am_ws := List.mem_filter.mpr ⟨List.mem_of_getElem? (i := 479) rfl, rfl⟩
theorem cw_all : ∀ (mid : Nat) (q : am_M), 1 ≤ mid → at_tab[mid]? = some q → Cond.code q.1 q.2.1 q.2.2.1 q.2.2.2.1 ∈ am_ws := by
  intro mid q h1 h
  match mid, h1, h with
  | 1, _, h => cases h; exact cw_1
  | 2, _, h => cases h; exact cw_2
  | 3, _, h => cases h; exact cw_3
  | 4, _, h => cases h; exact cw_4
  | 5, _, h => cases h; exact cw_5
  | 6, _, h => cases h; exact cw_6
  | 7, _, h => cases h; exact cw_7
  | 8, _, h => cases h; exact cw_8
  | 9, _, h => cases h; exact cw_9
  | 10, _, h => cases h; exact cw_10
  | 11, _, h => cases h; exact cw_11
  | 12, _, h => cases h; exact cw_12
  | 13, _, h => cases h; exact cw_13
  | 14, _, h => cases h; exact cw_14
  | 15, _, h => cases h; exact cw_15
  | 16, _, h => cases h; exact cw_16
  | 17, _, h => cases h; exact cw_17
  | 18, _, h => cases h; exact cw_18
  | 19, _, h => cases h; exact cw_19
  | 20, _, h => cases h; exact cw_20
  | 21, _, h => cases h; exact cw_21
  | 22, _, h => cases h; exact cw_22
  | 23, _, h => cases h; exact cw_23
  | 24, _, h => cases h; exact cw_24
  | 25, _, h => cases h; exact cw_25
  | 26, _, h => cases h; exact cw_26
  | 27, _, h => cases h; exact cw_27
  | 28, _, h => cases h; exact cw_28
  | 29, _, h => cases h; exact cw_29
  | 30, _, h => cases h; exact cw_30
  | 31, _, h => cases h; exact cw_31
  | 32, _, h => cases h; exact cw_32
  | 33, _, h => cases h; exact cw_33
  | 34, _, h => cases h; exact cw_34
  | 35, _, h => cases h; exact cw_35
  | 36, _, h => cases h; exact cw_36
  | 37, _, h => cases h; exact cw_37
  | 38, _, h => cases h; exact cw_38
  | 39, _, h => cases h; exact cw_39
  | 40, _, h => cases h; exact cw_40
  | 41, _, h => cases h; exact cw_41
  | 42, _, h => cases h; exact cw_42
  | 43, _, h => cases h; exact cw_43
  | 44, _, h => cases h; exact cw_44
  | 45, _, h => cases h; exact cw_45
  | 46, _, h => cases h; exact cw_46
  | 47, _, h => cases h; exact cw_47
  | 48, _, h => cases h; exact cw_48
  | 49, _, h => cases h; exact cw_49
  | 50, _, h => cases h; exact cw_50
  | 51, _, h => cases h; exact cw_51
  | 52, _, h => cases h; exact cw_52
  | 53, _, h => cases h; exact cw_53
  | 54, _, h => cases h; exact cw_54
  | 55, _, h => cases h; exact cw_55
  | 56, _, h => cases h; exact cw_56
  | 57, _, h => cases h; exact cw_57
  | 58, _, h => cases h; exact cw_58
  | 59, _, h => cases h; exact cw_59
  | 60, _, h => cases h; exact cw_60
  | 61, _, h => cases h; exact cw_61
  | 62, _, h => cases h; exact cw_62
  | 63, _, h => cases h; exact cw_63
  | 64, _, h => cases h; exact cw_64
  | 65, _, h => cases h; exact cw_65
  | 66, _, h => cases h; exact cw_66
  | 67, _, h => cases h; exact cw_67
  | 68, _, h => cases h; exact cw_68
  | 69, _, h => cases h; exact cw_69
  | 70, _, h => cases h; exact cw_70
  | 71, _, h => cases h; exact cw_71
  | 72, _, h => cases h; exact cw_72
  | 73, _, h => cases h; exact cw_73
  | 74, _, h => cases h; exact cw_74
  | 75, _, h => cases h; exact cw_75
  | 76, _, h => cases h; exact cw_76
  | 77, _, h => cases h; exact cw_77
  | 78, _, h => cases h; exact cw_78
  | 79, _, h => cases h; exact cw_79
  | 80, _, h => cases h; exact cw_80
  | 81, _, h => cases h; exact cw_81
  | 82, _, h => cases h; exact cw_82
  | 83, _, h => cases h; exact cw_83
  | 84, _, h => cases h; exact cw_84
  | 85, _, h => cases h; exact cw_85
  | 86, _, h => cases h; exact cw_86
  | 87, _, h => cases h; exact cw_87
  | 88, _, h => cases h; exact cw_88
  | 89, _, h => cases h; exact cw_89
  | 90, _, h => cases h; exact cw_90
  | 91, _, h => cases h; exact cw_91
  | 92, _, h => cases h; exact cw_92
  | 93, _, h => cases h; exact cw_93
  | 94, _, h => cases h; exact cw_94
  | 95, _, h => cases h; exact cw_95
  | 96, _, h => cases h; exact cw_96
  | 97, _, h => cases h; exact cw_97
  | 98, _, h => cases h; exact cw_98
  | 99, _, h => cases h; exact cw_99
  | 100, _, h => cases h; exact cw_100
  | 101, _, h => cases h; exact cw_101
  | 102, _, h => cases h; exact cw_102
  | 103, _, h => cases h; exact cw_103
  | 104, _, h => cases h; exact cw_104
  | 105, _, h => cases h; exact cw_105
  | 106, _, h => cases h; exact cw_106
  | 107, _, h => cases h; exact cw_107
  | 108, _, h => cases h; exact cw_108
  | 109, _, h => cases h; exact cw_109
  | 110, _, h => cases h; exact cw_110
  | 111, _, h => cases h; exact cw_111
  | 112, _, h => cases h; exact cw_112
  | 113, _, h => cases h; exact cw_113
  | 114, _, h => cases h; exact cw_114
  | 115, _, h => cases h; exact cw_115
  | 116, _, h => cases h; exact cw_116
  | 117, _, h => cases h; exact cw_117
  | 118, _, h => cases h; exact cw_118
  | 119, _, h => cases h; exact cw_119
  | 120, _, h => cases h; exact cw_120
  | 121, _, h => cases h; exact cw_121
  | 122, _, h => cases h; exact cw_122
  | 123, _, h => cases h; exact cw_123
  | 124, _, h => cases h; exact cw_124
  | 125, _, h => cases h; exact cw_125
  | 126, _, h => cases h; exact cw_126
  | 127, _, h => cases h; exact cw_127
  | 128, _, h => cases h; exact cw_128
  | 129, _, h => cases h; exact cw_129
  | 130, _, h => cases h; exact cw_130
  | 131, _, h => cases h; exact cw_131
  | 132, _, h => cases h; exact cw_132
  | 133, _, h => cases h; exact cw_133
  | 134, _, h => cases h; exact cw_134
  | 135, _, h => cases h; exact cw_135
  | 136, _, h => cases h; exact cw_136
  | 137, _, h => cases h; exact cw_137
  | 138, _, h => cases h; exact cw_138
  | 139, _, h => cases h; exact cw_139
  | 140, _, h => cases h; exact cw_140
  | 141, _, h => cases h; exact cw_141
  | 142, _, h => cases h; exact cw_142
  | 143, _, h => cases h; exact cw_143
  | 144, _, h => cases h; exact cw_144
  | 145, _, h => cases h; exact cw_145
  | 146, _, h => cases h; exact cw_146
  | k + 147, _, h => simp [at_tab] at h
end
section
theorem ck_all : ∀ (mid : Nat) (q : am_M), at_tab[mid]? = some q → ∀ en ∈ q.2.2.2.2.2.2, ∃ ps, at_chk ps q en = true := by
  intro mid q h
  match mid, h with
  | 0, h => cases h; exact at_all_ok ck_m0
  | 1, h => cases h; exact at_all_ok ck_m1
  | 2, h => cases h; exact at_all_ok ck_m2
  | 3, h => cases h; exact at_all_ok ck_m3
  | 4, h => cases h; exact at_all_ok ck_m4
  | 5, h => cases h; exact at_all_ok ck_m5
  | 6, h => cases h; exact at_all_ok ck_m6
  | 7, h => cases h; exact at_all_ok ck_m7
  | 8, h => cases h; exact at_all_ok ck_m8
  | 9, h => cases h; exact at_all_ok ck_m9
  | 10, h => cases h; exact at_all_ok ck_m10
  | 11, h => cases h; exact at_all_ok ck_m11
  | 12, h => cases h; exact at_all_ok ck_m12
  | 13, h => cases h; exact at_all_ok ck_m13
  | 14, h => cases h; exact at_all_ok ck_m14
  | 15, h => cases h; exact at_all_ok ck_m15
  | 16, h => cases h; exact at_all_ok ck_m16
  | 17, h => cases h; exact at_all_ok ck_m17
  | 18, h => cases h; exact at_all_ok ck_m18
  | 19, h => cases h; exact at_all_ok ck_m19
  | 20, h => cases h; exact at_all_ok ck_m20
  | 21, h => cases h; exact at_all_ok ck_m21
  | 22, h => cases h; exact at_all_ok ck_m22
  | 23, h => cases h; exact at_all_ok ck_m23
  | 24, h => cases h; exact at_all_ok ck_m24
  | 25, h => cases h; exact at_all_ok ck_m25
  | 26, h => cases h; exact at_all_ok ck_m26
  | 27, h => cases h; exact at_all_ok ck_m27
  | 28, h => cases h; exact at_all_ok ck_m28
  | 29, h => cases h; exact at_all_ok ck_m29
  | 30, h => cases h; exact at_all_ok ck_m30
  | 31, h => cases h; exact at_all_ok ck_m31
  | 32, h => cases h; exact at_all_ok ck_m32
  | 33, h => cases h; exact at_all_ok ck_m33
  | 34, h => cases h; exact at_all_ok ck_m34
  | 35, h => cases h; exact at_all_ok ck_m35
  | 36, h => cases h; exact at_all_ok ck_m36
  | 37, h => cases h; exact at_all_ok ck_m37
  | 38, h => cases h; exact at_all_ok ck_m38
  | 39, h => cases h; exact at_all_ok ck_m39
  | 40, h => cases h; exact at_all_ok ck_m40
  | 41, h => cases h; exact at_all_ok ck_m41
  | 42, h => cases h; exact at_all_ok ck_m42
  | 43, h => cases h; exact at_all_ok ck_m43
  | 44, h => cases h; exact at_all_ok ck_m44
  | 45, h => cases h; exact at_all_ok ck_m45
  | 46, h => cases h; exact at_all_ok ck_m46
  | 47, h => cases h; exact at_all_ok ck_m47
  | 48, h => cases h; exact at_all_ok ck_m48
  | 49, h => cases h; exact at_all_ok ck_m49
  | 50, h => cases h; exact at_all_ok ck_m50
  | 51, h => cases h; exact at_all_ok ck_m51
  | 52, h => cases h; exact at_all_ok ck_m52
  | 53, h => cases h; exact at_all_ok ck_m53
  | 54, h => cases h; exact at_all_ok ck_m54
  | 55, h => cases h; exact at_all_ok ck_m55
  | 56, h => cases h; exact at_all_ok ck_m56
  | 57, h => cases h; exact at_all_ok ck_m57
  | 58, h => cases h; exact at_all_ok ck_m58
  | 59, h => cases h; exact at_all_ok ck_m59
  | 60, h => cases h; exact at_all_ok ck_m60
  | 61, h => cases h; exact at_all_ok ck_m61
  | 62, h => cases h; exact at_all_ok ck_m62
  | 63, h => cases h; exact at_all_ok ck_m63
  | 64, h => cases h; exact at_all_ok ck_m64
  | 65, h => cases h; exact at_all_ok ck_m65
  | 66, h => cases h; exact at_all_ok ck_m66
  | 67, h => cases h; exact at_all_ok ck_m67
  | 68, h => cases h; exact at_all_ok ck_m68
  | 69, h => cases h; exact at_all_ok ck_m69
  | 70, h => cases h; exact at_all_ok ck_m70
  | 71, h => cases h; exact at_all_ok ck_m71
  | 72, h => cases h; exact at_all_ok ck_m72
  | 73, h => cases h; exact at_all_ok ck_m73
  | 74, h => cases h; exact at_all_ok ck_m74
  | 75, h => cases h; exact at_all_ok ck_m75
  | 76, h => cases h; exact at_all_ok ck_m76
  | 77, h => cases h; exact at_all_ok ck_m77
  | 78, h => cases h; exact at_all_ok ck_m78
  | 79, h => cases h; exact at_all_ok ck_m79
  | 80, h => cases h; exact at_all_ok ck_m80
  | 81, h => cases h; exact at_all_ok ck_m81
  | 82, h => cases h; exact at_all_ok ck_m82
  | 83, h => cases h; exact at_all_ok ck_m83
  | 84, h => cases h; exact at_all_ok ck_m84
  | 85, h => cases h; exact at_all_ok ck_m85
  | 86, h => cases h; exact at_all_ok ck_m86
  | 87, h => cases h; exact at_all_ok ck_m87
  | 88, h => cases h; exact at_all_ok ck_m88
  | 89, h => cases h; exact at_all_ok ck_m89
  | 90, h => cases h; exact at_all_ok ck_m90
  | 91, h => cases h; exact at_all_ok ck_m91
  | 92, h => cases h; exact at_all_ok ck_m92
  | 93, h => cases h; exact at_all_ok ck_m93
  | 94, h => cases h; exact at_all_ok ck_m94
  | 95, h => cases h; exact at_all_ok ck_m95
  | 96, h => cases h; exact at_all_ok ck_m96
  | 97, h => cases h; exact at_all_ok ck_m97
  | 98, h => cases h; exact at_all_ok ck_m98
  | 99, h => cases h; exact at_all_ok ck_m99
  | 100, h => cases h; exact at_all_ok ck_m100
  | 101, h => cases h; exact at_all_ok ck_m101
  | 102, h => cases h; exact at_all_ok ck_m102
  | 103, h => cases h; exact at_all_ok ck_m103
  | 104, h => cases h; exact at_all_ok ck_m104
  | 105, h => cases h; exact at_all_ok ck_m105
  | 106, h => cases h; exact at_all_ok ck_m106
  | 107, h => cases h; exact at_all_ok ck_m107
  | 108, h => cases h; exact at_all_ok ck_m108
  | 109, h => cases h; exact at_all_ok ck_m109
  | 110, h => cases h; exact at_all_ok ck_m110
  | 111, h => cases h; exact at_all_ok ck_m111
  | 112, h => cases h; exact at_all_ok ck_m112
  | 113, h => cases h; exact at_all_ok ck_m113
  | 114, h => cases h; exact at_all_ok ck_m114
  | 115, h => cases h; exact at_all_ok ck_m115
  | 116, h => cases h; exact at_all_ok ck_m116
  | 117, h => cases h; exact at_all_ok ck_m117
  | 118, h => cases h; exact at_all_ok ck_m118
  | 119, h => cases h; exact at_all_ok ck_m119
  | 120, h => cases h; exact at_all_ok ck_m120
  | 121, h => cases h; exact at_all_ok ck_m121
  | 122, h => cases h; exact at_all_ok ck_m122
  | 123, h => cases h; exact at_all_ok ck_m123
  | 124, h => cases h; exact at_all_ok ck_m124
  | 125, h => cases h; exact at_all_ok ck_m125
  | 126, h => cases h; exact at_all_ok ck_m126
  | 127, h => cases h; exact at_all_ok ck_m127
  | 128, h => cases h; exact at_all_ok ck_m128
  | 129, h => cases h; exact at_all_ok ck_m129
  | 130, h => cases h; exact at_all_ok ck_m130
  | 131, h => cases h; exact at_all_ok ck_m131
  | 132, h => cases h; exact at_all_ok ck_m132
  | 133, h => cases h; exact at_all_ok ck_m133
  | 134, h => cases h; exact at_all_ok ck_m134
  | 135, h => cases h; exact at_all_ok ck_m135
  | 136, h => cases h; exact at_all_ok ck_m136
  | 137, h => cases h; exact at_all_ok ck_m137
  | 138, h => cases h; exact at_all_ok ck_m138
  | 139, h => cases h; exact at_all_ok ck_m139
  | 140, h => cases h; exact at_all_ok ck_m140
  | 141, h => cases h; exact at_all_ok ck_m141
  | 142, h => cases h; exact at_all_ok ck_m142
  | 143, h => cases h; exact at_all_ok ck_m143
  | 144, h => cases h; exact at_all_ok ck_m144
  | 145, h => cases h; exact at_all_ok ck_m145
  | 146, h => cases h; exact at_all_ok ck_m146
  | k + 147, h => simp [at_tab] at h
end
section
/-! THE LAW'S START in the small machine: the script, the seven string constants and their bytes; whole_start out of a run of the small machine -/
def sn_ix : List Nat := [76, 85, 90, 102, 108, 113, 117]
def sn_len : List Nat := [5, 4, 3, 4, 4, 4, 5]
def sn_byt : List (List Int32) := [[115, 117, 105, 116, 101], [99, 97, 115, 101], [116, 97, 103], [119, 105, 116, 104], [115, 105, 122, 101], [115, 107, 105, 112], [102, 97, 105, 108, 115]]
def SH0 (L : Nat) : List (Nat × Nat) := [(900, L), (901, 0), (901, 0), (901, 0), (901, 0), (901, 0), (901, 0), (901, 0), (902, 5), (902, 4), (902, 3), (902, 4), (902, 4), (902, 4), (902, 5), (999, 0)]
def FI0 (xs : Nat → Int32) : Nat → Nat → Int32 := fun i j => if i = 0 then xs j else if 8 ≤ i ∧ i < 15 then (sn_byt.getD (i - 8) []).getD j 0 else 0
def FR0 : Nat → Nat → Option Nat := fun i j => if 1 ≤ i ∧ i ≤ 7 ∧ j = 0 then some (i + 7) else none
def AH0 (L : Nat) (xs : Nat → Int32) : am_H := (SH0 L, FI0 xs, fun _ _ => 0, FR0)
def sn_tm (i : Nat) : Term := .string "TestFinder$ScriptReader" (sn_ix.getD i 0)
def sn_ad (b : Nat) (adK adV : Nat → Nat) (z : Nat) (i : Nat) : Nat := if i = 0 then b else if i < 8 then adK (i - 1) else if i < 15 then adV (i - 8) else z
def law_good : Prop := ∀ (L : Nat) (xs : Nat → Int32), L ≤ 1536 → Rn 1000 0 0 [some (.ref 0), none, none, none] [] (AH0 L xs) (fun v h' => v = some (.int 1) ∧ h'.1.length ≤ 600016 ∧ am_tot h'.1 ≤ 7302250 + am_tot (SH0 L))
/-! THE CLAIM OUT OF ONE WALK OF THE LAW'S BODY. Your part is whole_start (and what it stands on); all else here is the same for every law, but numbers. -/
def R_law : String := "TestFinderLaw"
def lw_P (b : Addr) (xs : List Int32) (args : Array Value) (s : State) : Prop := args = #[.ref b] ∧ s.IntsAt b xs ∧ xs.length ≤ 1536 ∧ (Jvm.Cond.and given_1 narrow_1).before args s = true
def lw_Q (_ : Array Value) (s : State) (o : Outcome) (t : State) : Prop := o = .returned (some (.int 1)) ∧ Framed s o t [] 600000 7302250
def lw_Z (below : List Frame) (a : Array Value) (s : State) : State → Prop := fun t => ∃ o, t.status = .running ∧ Ended t below o ∧ lw_Q a s o t
/-- the law's own end, with 1 on the stack, nothing written that was there before, its room as the claim has it -/
theorem lw_ret {p : Program} {l : Launch} {e : Env} {s : State} {m : MethodId} {below : List Frame} {meth : Method} {c : Code} {b : Nat} (hx : p.tables.exec = Jvm.exec) (hb : c.code = code) (hr : meth.sig.returnType = ret) (hlocks : meth.locks = false) {pc : Nat} {H : Heap} {ls : Array Slot} (hdg : decode code pc = .ok (.ireturn, 1)) : W p l e room_1 s m #[Value.ref b] below meth c H [] 600000 7302250 (lw_Z below #[Value.ref b] s) (F0 m pc ls [.int 1]) := by
  intro T hT X
  obtain ⟨fs, hret, hrun, hended, hW, hframe⟩ := X.leave (v := some (.int 1)) (hlocks := hlocks) (fun h => by rw [hr] at h; cases h)
  have hmeth' : T.vm.method? m = some meth := X.method'
  refine ⟨T.setFrames fs, ?_, .returned (some (.int 1)), hrun, hended, rfl, ⟨_, rfl⟩, hW, hframe⟩
  jvm_step X.here [X.here.top, hx, hb, hdg, hmeth', hr, ret, narrow_b1]
  (try refine ⟨rfl, ?_⟩); (try refine ⟨rfl, ?_⟩)
  first | (intro acts; rw [hret _ acts rfl rfl rfl]) | rw [hret _ _ rfl rfl rfl]
  exact Steps.refl _
/-- what holds at the law's entry: the machine, the code, the tables' words (any of lw_tbl by 'hts w (by decide +kernel)'), the script of L ints xs at the cell b, what the Statement gives of the start (any of its parts by flat_of_before) -/
def lw_At (p : Program) (s : State) (m : MethodId) (meth : Method) (c : Code) (b L : Nat) (xs : Nat → Int32) : Prop :=
  p.tables.exec = Jvm.exec ∧ c.code = code ∧ meth.sig.returnType = ret ∧ c.maxLocals = 4 ∧ s.vm.findClass R_law = some m.cls ∧ (∀ w ∈ lw_tbl, w.before #[Value.ref b] s = true) ∧ va_X b L xs s s.heap ∧ b < s.heap.size ∧ meth.locks = false ∧ (Jvm.Cond.and given_1 narrow_1).before #[Value.ref b] s = true

theorem sn_words {w : Cond} (h : w ∈ am_ws) : w ∈ lw_tbl := (List.mem_filter.mp h).1
set_option maxHeartbeats 4000000 in
set_option maxRecDepth 100000 in
theorem whole_start_open (HL : law_good) {p : Program} {e : Env} {s : State} {m : MethodId} {below : List Frame} {meth : Method} {c : Code} (l : Launch) {b L : Nat} {xs : Nat → Int32} (hL : L ≤ 1536) (C0 : lw_At p s m meth c b L xs) : W p l e room_1 s m #[Value.ref b] below meth c s.heap [] 0 0 (lw_Z below #[Value.ref b] s) (entryFrame m ([Value.ref b] : List Value).toArray 4) := by
  obtain ⟨hx, hb, hr, hml, hown, hts, hX, hbl, hlocks, hgv⟩ := C0
  have hA : ∀ a : Nat, a < s.heap.size → ¬ (fun q : Nat => s.heap.size ≤ q) a := fun a h => Nat.not_le.mpr h
  have hg := flat_of_before _ hgv
  -- the classes
  have hcls : ∀ ci : Nat, ∃ q : ClassId × (Nat → Nat), ∀ r : vw_C, vwCl[ci]? = some r → u_Kn s r.1 r.2.1 r.2.2 q.1 q.2 := by
    intro ci
    cases hr1 : vwCl[ci]? with
    | none => exact ⟨(0, fun _ => 0), fun r h => by cases h⟩
    | some r =>
      have hok := ck_cl ci r hr1
      obtain ⟨cC, iS, hk⟩ := u_known (C := r.1) (T := r.2.1) (N := r.2.2) (n := r.2.2) hts (fun w hw => sn_words (hok.1 w hw)) (hts _ (sn_words hok.2.2.2.1))
      exact ⟨(cC, iS), fun r' h' => by cases h'; exact hk⟩
  obtain ⟨dd, hdd⟩ := Classical.axiomOfChoice hcls
  have hK : va_K (fun k => (dd k).1, fun k => (dd k).2) vwCl [] s := ⟨fun k r h => hdd k r h, fun k q h => by simp at h⟩
  -- the strings
  obtain ⟨adK, adV, hS, hSa⟩ := vk_Sof (args := #[Value.ref b]) (s := s) (N := 7) (tm := sn_tm) (len := sn_len) (byt := sn_byt) (A := fun q : Nat => s.heap.size ≤ q) (by decide)
    (fun i hi => hg _ (by
      have : ∀ i, i < 7 → (Cond.exactly (sn_tm i) "java/lang/String") ∈ flatC (Jvm.Cond.and given_1 narrow_1) := by decide +kernel
      exact this i hi))
    (fun i hi => hg _ (by
      have : ∀ i, i < 7 → (Cond.eq (.field (sn_tm i) "java/lang/String" "coder" "B") (.int 0)) ∈ flatC (Jvm.Cond.and given_1 narrow_1) := by decide +kernel
      exact this i hi))
    (fun i hi => hg _ (by
      have : ∀ i, i < 7 → (Cond.arrayOf (.field (sn_tm i) "java/lang/String" "value" "[B") .byte) ∈ flatC (Jvm.Cond.and given_1 narrow_1) := by decide +kernel
      exact this i hi))
    (fun i hi => hg _ (by
      have : ∀ i, i < 7 → (Cond.eq (.length (.field (sn_tm i) "java/lang/String" "value" "[B")) (.int (Int32.ofNat (sn_len.getD i 0)))) ∈ flatC (Jvm.Cond.and given_1 narrow_1) := by decide +kernel
      exact this i hi))
    (fun i hi j hj => hg _ (by
      have : ∀ i, i < 7 → ∀ j, j < sn_len.getD i 0 → (Cond.eq (.elem (.field (sn_tm i) "java/lang/String" "value" "[B") (.int (Int32.ofNat j))) (.int ((sn_byt.getD i []).getD j 0))) ∈ flatC (Jvm.Cond.and given_1 narrow_1) := by decide +kernel
      exact this i hi j hj))
    (fun i j hi hj hne => by
      have : ∀ i, i < 7 → ∀ j, j < 7 → i ≠ j → (Cond.not (Cond.eq (sn_tm i) (sn_tm j))) ∈ flatC (Jvm.Cond.and given_1 narrow_1) ∨ (Cond.not (Cond.eq (sn_tm j) (sn_tm i))) ∈ flatC (Jvm.Cond.and given_1 narrow_1) := by decide +kernel
      exact (this i hi j hj hne).imp (fun h => hg _ h) (fun h => hg _ h)) hA
  -- the statics
  have hZ1 : va_Z "java/lang/String" "COMPACT_STRINGS" "Z" (.int (nI 1)) (fun q : Nat => s.heap.size ≤ q) s s.heap := va_Zof (args := #[Value.ref b]) (hts _ (by decide +kernel)) (hts _ (by decide +kernel)) (va_eqt (z := 1) (hg _ (by decide +kernel))) hA
  have hZ2 : va_Zq "jdk/internal/util/Preconditions" "SIOOBE_FORMATTER" "Ljava/util/function/BiFunction;" (fun q : Nat => s.heap.size ≤ q) s s.heap := va_Zqof (args := #[Value.ref b]) (hts _ (by decide +kernel)) (hts _ (by decide +kernel)) (hg _ (by decide +kernel)) hA
  obtain ⟨z, hz⟩ : ∃ z : Nat, va_Z "jdk/internal/util/Preconditions" "SIOOBE_FORMATTER" "Ljava/util/function/BiFunction;" (match z with
    | 0 => Value.null
    | t + 1 => .ref t) (fun q : Nat => s.heap.size ≤ q) s s.heap := by
    rcases hZ2 with h | ⟨t, h⟩
    · exact ⟨0, h⟩
    · exact ⟨t + 1, h⟩
  have hB : sm_B s (sn_ad b adK adV z) := by
    refine ⟨hZ1, hz, ?_, fun own idx y host h => va_Nw.of rfl (hts _ h), fun C h => va_AO.of (hts _ h)⟩
    have hk : ∀ i, i < 7 → vk_R "TestFinder$ScriptReader" (sn_ix.getD i 0) (["suite", "case", "tag", "with", "size", "skip", "fails"].getD i "") (adK i) s := by
      intro i hi
      refine vk_R.of (hts _ ?_) (hSa i hi)
      have : ∀ i, i < 7 → Cond.stringRef "TestFinder$ScriptReader" (sn_ix.getD i 0) (["suite", "case", "tag", "with", "size", "skip", "fails"].getD i "") ∈ lw_tbl := by decide +kernel
      exact this i hi
    intro q hq
    simp only [at_str, List.mem_cons, List.not_mem_nil, or_false] at hq
    rcases hq with rfl | rfl | rfl | rfl | rfl | rfl | rfl
    · exact hk 0 (by decide)
    · exact hk 1 (by decide)
    · exact hk 2 (by decide)
    · exact hk 3 (by decide)
    · exact hk 4 (by decide)
    · exact hk 5 (by decide)
    · exact hk 6 (by decide)
  -- the heap
  have hR : sm_HR s (fun k => (dd k).1, fun k => (dd k).2) (sn_ad b adK adV z) (AH0 L xs) s.heap := by
    have str : ∀ i : Nat, 1 ≤ i → i < 8 → ∀ len, sm_CR s (fun k => (dd k).1, fun k => (dd k).2) (sm_g s (sn_ad b adK adV z)) (AH0 L xs) s.heap i 901 len := by
      intro i h1 h2 len
      obtain ⟨q1, q2, q3, q4⟩ := hS.1 (i - 1) (by omega)
      have e1 : sm_g s (sn_ad b adK adV z) i = adK (i - 1) := by
        unfold sm_g sn_ad
        rw [if_pos (by omega), if_neg (by omega), if_pos h2]
      have e2 : sm_g s (sn_ad b adK adV z) (i + 7) = adV (i - 1) := by
        unfold sm_g sn_ad
        rw [if_pos (by omega), if_neg (by omega), if_neg (by omega), if_pos (by omega)]
        congr 1
      refine ⟨fun q => by omega, fun ty q1 q2 => by omega, fun q => by omega, fun _ => ⟨by rw [e1]; exact q1, ?_, i + 7, ?_, ?_⟩, fun q => by omega⟩
      · rw [e1]
        have : (AH0 L xs).2.1 i 1 = 0 := by
          show FI0 xs i 1 = 0
          unfold FI0
          rw [if_neg (by omega), if_neg (by omega)]
        rw [this]
        exact q2
      · show FR0 i 0 = some (i + 7)
        unfold FR0
        rw [if_pos ⟨h1, by omega, rfl⟩]
      · rw [e1, e2]
        exact q3
    have byt : ∀ i : Nat, i < 7 → sm_CR s (fun k => (dd k).1, fun k => (dd k).2) (sm_g s (sn_ad b adK adV z)) (AH0 L xs) s.heap (i + 8) 902 (sn_len.getD i 0) := by
      intro i hi
      obtain ⟨-, -, -, q4⟩ := hS.1 i hi
      have e2 : sm_g s (sn_ad b adK adV z) (i + 8) = adV i := by
        unfold sm_g sn_ad
        rw [if_pos (by omega), if_neg (by omega), if_neg (by omega), if_pos (by omega)]
        congr 1
      refine ⟨fun q => by omega, fun ty q1 q2 => by omega, fun q => by omega, fun q => by omega, fun _ => ?_⟩
      rw [e2]
      have e3 : (fun j => Value.int ((AH0 L xs).2.1 (i + 8) j)) = fun j => Value.int ((sn_byt.getD i []).getD j 0) := by
        funext j
        show Value.int (FI0 xs (i + 8) j) = _
        unfold FI0
        rw [if_neg (by omega), if_pos (by omega)]
        congr 1
      rw [e3]
      exact q4
    refine ⟨Nat.le_refl 16, by show _ + 16 = _ + 16; rfl, fun _ _ => rfl, fun i tag len hi he => ?_, fun i tag len he => ?_⟩
    · match i, he with
      | 0, he => cases he; exact Nat.le_refl _
      | 1, he => cases he; decide
      | 2, he => cases he; decide
      | 3, he => cases he; decide
      | 4, he => cases he; decide
      | 5, he => cases he; decide
      | 6, he => cases he; decide
      | 7, he => cases he; decide
      | 8, he => cases he; decide
      | 9, he => cases he; decide
      | 10, he => cases he; decide
      | 11, he => cases he; decide
      | 12, he => cases he; decide
      | 13, he => cases he; decide
      | 14, he => cases he; decide
      | 15, he => cases he; decide
      | k + 16, he => omega
    · match i, he with
      | 0, he =>
        cases he
        refine ⟨fun q => by omega, fun ty q1 q2 => by omega, fun _ => ?_, fun q => by omega, fun q => by omega⟩
        exact hX
      | 1, he => cases he; exact str 1 (by decide) (by decide) _
      | 2, he => cases he; exact str 2 (by decide) (by decide) _
      | 3, he => cases he; exact str 3 (by decide) (by decide) _
      | 4, he => cases he; exact str 4 (by decide) (by decide) _
      | 5, he => cases he; exact str 5 (by decide) (by decide) _
      | 6, he => cases he; exact str 6 (by decide) (by decide) _
      | 7, he => cases he; exact str 7 (by decide) (by decide) _
      | 8, he => cases he; exact byt 0 (by decide)
      | 9, he => cases he; exact byt 1 (by decide)
      | 10, he => cases he; exact byt 2 (by decide)
      | 11, he => cases he; exact byt 3 (by decide)
      | 12, he => cases he; exact byt 4 (by decide)
      | 13, he => cases he; exact byt 5 (by decide)
      | 14, he => cases he; exact byt 6 (by decide)
      | 15, he => cases he; exact ⟨fun q => by omega, fun ty q1 q2 => by omega, fun q => by omega, fun q => by omega, fun q => by omega⟩
      | k + 16, he => simp [AH0, SH0] at he
  obtain ⟨n, v, h', hrun, rfl, hb1, hb2⟩ := HL L xs hL
  have hXX : sm_X s (fun k => (dd k).1, fun k => (dd k).2) p room_1 s m #[Value.ref b] meth c 1000 mt_0 := ⟨hx, hb, hml, hown, fun q => absurd q (by decide), fun w hw => hts w (sn_words hw), State.WarmedH.refl s, hK, by decide, by decide⟩
  have M := sm_main (adS := sn_ad b adK adV z) hB ck_cl ck_all cw_all hK n 1000 0 0 _ [] (AH0 L xs) _ h' hrun (lau := l) (e := e) (below := below) (Q := lw_Z below #[Value.ref b] s) (n0 := 16) (t0 := am_tot (SH0 L)) rfl hXX (by show _ ≤ 600000 + 16; omega) (by show _ ≤ 7302250 + _; omega) (by
    intro pc2 l2 st2 i2 hret hdg2 H2 locs2 ls2 cells2 slots2 hR2 hlo2 hL2 hcc2 htt2
    refine va_forget hlo2 ?_
    refine W.widen (k := 600000) (n := 7302250) (by omega) (by omega) ?_
    unfold am_ret at hret
    (try dsimp only at hret)
    split at hret
    · cases hret
    · rename_i q hq
      split at hret
      · split at hret
        · cases hret
          exact lw_ret hx hb hr hlocks hdg2
        · cases hret
      · cases hret
      · cases hret
      · cases hret
      · cases hret
      · cases hret)
  rw [lg_entry_eq]
  have hl := sm_entry (g := sm_g s (sn_ad b adK adV z)) (n := 4) (vs := [.ref 0]) (by decide)
  have e0 : ([Value.ref 0].map (sm_v (sm_g s (sn_ad b adK adV z)))) = [Value.ref b] := by
    show [Value.ref (sm_g s (sn_ad b adK adV z) 0)] = _
    unfold sm_g sn_ad
    rw [if_pos (by decide), if_pos rfl]
  rw [e0] at hl
  exact M s.heap [] _ 0 0 hR (fun _ h => by cases h) hl rfl (Nat.zero_add _)
end
section
/-! RULES, an instruction a row, that name nothing but constants: what is on the stack and in the locals is found by matching -/
section Rules2
variable {d mid pc : Nat} {l : am_L} {r : List Value} {h : am_H} {Q : Option Value → am_H → Prop} {c : am_C} {r1 r2 : Nat}
theorem Rn.iconst {n : Int} (v : Int32) (hc : am_code mid = c) (hf : am_find c pc = some (.iconst n, r1, r2)) (hv : Int32.ofInt n = v) (k : Rn d mid (pc + 1) l (.int v :: r) h Q) : Rn d mid pc l r h Q := by
  subst hv
  exact Rn.go hc hf rfl rfl k
theorem Rn.bipush {n : Int} (v : Int32) (hc : am_code mid = c) (hf : am_find c pc = some (.bipush n, r1, r2)) (hv : (Int8.ofInt n).toInt32 = v) (k : Rn d mid (pc + 2) l (.int v :: r) h Q) : Rn d mid pc l r h Q := by
  subst hv
  exact Rn.go hc hf rfl rfl k
theorem Rn.sipush {n : Int} (v : Int32) (hc : am_code mid = c) (hf : am_find c pc = some (.sipush n, r1, r2)) (hv : (Int16.ofInt n).toInt32 = v) (k : Rn d mid (pc + 3) l (.int v :: r) h Q) : Rn d mid pc l r h Q := by
  subst hv
  exact Rn.go hc hf rfl rfl k
theorem Rn.lconst {n : Fin 2} (v : Int64) (hc : am_code mid = c) (hf : am_find c pc = some (.lconst n, r1, r2)) (hv : Int64.ofNat n.val = v) (k : Rn d mid (pc + 1) l (.long v :: r) h Q) : Rn d mid pc l r h Q := by
  subst hv
  exact Rn.go hc hf rfl rfl k
theorem Rn.ldc2 {ix : Nat} (v : Int64) (hc : am_code mid = c) (hf : am_find c pc = some (.ldc2_w ix, r1, r2)) (hv : Int64.ofNat r1 = v) (k : Rn d mid (pc + 3) l (.long v :: r) h Q) : Rn d mid pc l r h Q := by
  subst hv
  exact Rn.go hc hf rfl rfl k
theorem Rn.ldc {ix : Nat} (hc : am_code mid = c) (hf : am_find c pc = some (.ldc ix, r1, r2)) (k : Rn d mid (pc + 2) l (.ref r1 :: r) h Q) : Rn d mid pc l r h Q := Rn.go hc hf rfl rfl k
theorem Rn.iload {i : Nat} {x : Int32} (hc : am_code mid = c) (hf : am_find c pc = some (.iload i, r1, r2)) (hl : am_get l i = some (.int x)) (k : Rn d mid (pc + 2) l (.int x :: r) h Q) : Rn d mid pc l r h Q := by
  refine Rn.go hc hf rfl ?_ k
  simp only [am_step, am_iload, hl]
theorem Rn.iload_n {i : Fin 4} {x : Int32} (hc : am_code mid = c) (hf : am_find c pc = some (.iload_n i, r1, r2)) (hl : am_get l i.val = some (.int x)) (k : Rn d mid (pc + 1) l (.int x :: r) h Q) : Rn d mid pc l r h Q := by
  refine Rn.go hc hf rfl ?_ k
  simp only [am_step, am_iload, hl]
theorem Rn.lload {i : Nat} {x : Int64} (hc : am_code mid = c) (hf : am_find c pc = some (.lload i, r1, r2)) (hl : am_get l i = some (.long x)) (k : Rn d mid (pc + 2) l (.long x :: r) h Q) : Rn d mid pc l r h Q := by
  refine Rn.go hc hf rfl ?_ k
  simp only [am_step, am_lload, hl]
theorem Rn.lload_n {i : Fin 4} {x : Int64} (hc : am_code mid = c) (hf : am_find c pc = some (.lload_n i, r1, r2)) (hl : am_get l i.val = some (.long x)) (k : Rn d mid (pc + 1) l (.long x :: r) h Q) : Rn d mid pc l r h Q := by
  refine Rn.go hc hf rfl ?_ k
  simp only [am_step, am_lload, hl]
theorem Rn.aload {i : Nat} {x : Nat} (hc : am_code mid = c) (hf : am_find c pc = some (.aload i, r1, r2)) (hl : am_get l i = some (.ref x)) (k : Rn d mid (pc + 2) l (.ref x :: r) h Q) : Rn d mid pc l r h Q := by
  refine Rn.go hc hf rfl ?_ k
  simp only [am_step, am_aload, hl]
theorem Rn.aload_n {i : Fin 4} {x : Nat} (hc : am_code mid = c) (hf : am_find c pc = some (.aload_n i, r1, r2)) (hl : am_get l i.val = some (.ref x)) (k : Rn d mid (pc + 1) l (.ref x :: r) h Q) : Rn d mid pc l r h Q := by
  refine Rn.go hc hf rfl ?_ k
  simp only [am_step, am_aload, hl]
/-- not the first half of a long -/
def am_nl (o : Option Value) : Bool := match o with
  | some (.long _) => false
  | some (.double _) => false
  | _ => true
theorem am_kill_nl {l : am_L} {j : Nat} {o : Option Value} (h : l[j]? = some o) (hn : am_nl o = true) : am_kill l (j + 1) = l := by
  show (match am_get l j with
    | some (.long _) => l.set j none
    | some (.double _) => l.set j none
    | _ => l) = l
  have e : am_get l j = o := by unfold am_get; rw [h]
  rw [e]
  cases o with
  | none => rfl
  | some v => cases v <;> first | rfl | (cases hn)
theorem Rn.istore0 {ok : Option Value} {x : Int32} (hc : am_code mid = c) (hf : am_find c pc = some (.istore 0, r1, r2))  (k : Rn d mid (pc + 2) (some (.int x) :: l) r h Q) : Rn d mid pc (ok :: l) (.int x :: r) h Q := by
  refine Rn.go hc hf rfl ?_ k
  have e : am_kill (ok :: l) 0 = ok :: l := rfl
  have e2 : decide (0 < (ok :: l).length) = true := decide_eq_true (by simp)
  show (match decide (0 < (ok :: l).length) with
    | true => some (pc + 2, am_st1 (ok :: l) 0 (.int x), r, h)
    | false => none) = _
  rw [e2]
  show some (pc + 2, (am_kill (ok :: l) 0).set 0 (some (.int x)), r, h) = _
  rw [e]
  rfl
theorem Rn.istore_n0 {ok : Option Value} {x : Int32} (hc : am_code mid = c) (hf : am_find c pc = some (.istore_n 0, r1, r2))  (k : Rn d mid (pc + 1) (some (.int x) :: l) r h Q) : Rn d mid pc (ok :: l) (.int x :: r) h Q := by
  refine Rn.go hc hf rfl ?_ k
  have e : am_kill (ok :: l) 0 = ok :: l := rfl
  have e2 : decide (0 < (ok :: l).length) = true := decide_eq_true (by simp)
  show (match decide (0 < (ok :: l).length) with
    | true => some (pc + 1, am_st1 (ok :: l) 0 (.int x), r, h)
    | false => none) = _
  rw [e2]
  show some (pc + 1, (am_kill (ok :: l) 0).set 0 (some (.int x)), r, h) = _
  rw [e]
  rfl
theorem Rn.astore0 {ok : Option Value} {x : Nat} (hc : am_code mid = c) (hf : am_find c pc = some (.astore 0, r1, r2))  (k : Rn d mid (pc + 2) (some (.ref x) :: l) r h Q) : Rn d mid pc (ok :: l) (.ref x :: r) h Q := by
  refine Rn.go hc hf rfl ?_ k
  have e : am_kill (ok :: l) 0 = ok :: l := rfl
  have e2 : decide (0 < (ok :: l).length) = true := decide_eq_true (by simp)
  show (match decide (0 < (ok :: l).length) with
    | true => some (pc + 2, am_st1 (ok :: l) 0 (.ref x), r, h)
    | false => none) = _
  rw [e2]
  show some (pc + 2, (am_kill (ok :: l) 0).set 0 (some (.ref x)), r, h) = _
  rw [e]
  rfl
theorem Rn.astore_n0 {ok : Option Value} {x : Nat} (hc : am_code mid = c) (hf : am_find c pc = some (.astore_n 0, r1, r2))  (k : Rn d mid (pc + 1) (some (.ref x) :: l) r h Q) : Rn d mid pc (ok :: l) (.ref x :: r) h Q := by
  refine Rn.go hc hf rfl ?_ k
  have e : am_kill (ok :: l) 0 = ok :: l := rfl
  have e2 : decide (0 < (ok :: l).length) = true := decide_eq_true (by simp)
  show (match decide (0 < (ok :: l).length) with
    | true => some (pc + 1, am_st1 (ok :: l) 0 (.ref x), r, h)
    | false => none) = _
  rw [e2]
  show some (pc + 1, (am_kill (ok :: l) 0).set 0 (some (.ref x)), r, h) = _
  rw [e]
  rfl
theorem Rn.lstore0 {ok ok1 : Option Value} {x : Int64} (hc : am_code mid = c) (hf : am_find c pc = some (.lstore 0, r1, r2))  (k : Rn d mid (pc + 2) (some (.long x) :: none :: l) r h Q) : Rn d mid pc (ok :: ok1 :: l) (.long x :: r) h Q := by
  refine Rn.go hc hf rfl ?_ k
  have e : am_kill (ok :: ok1 :: l) 0 = ok :: ok1 :: l := rfl
  have e2 : decide (0 + 1 < (ok :: ok1 :: l).length) = true := decide_eq_true (by simp)
  show (match decide (0 + 1 < (ok :: ok1 :: l).length) with
    | true => some (pc + 2, am_st2 (ok :: ok1 :: l) 0 (.long x), r, h)
    | false => none) = _
  rw [e2]
  show some (pc + 2, ((am_kill (ok :: ok1 :: l) 0).set 0 (some (.long x))).set (0 + 1) none, r, h) = _
  rw [e]
  rfl
theorem Rn.lstore_n0 {ok ok1 : Option Value} {x : Int64} (hc : am_code mid = c) (hf : am_find c pc = some (.lstore_n 0, r1, r2))  (k : Rn d mid (pc + 1) (some (.long x) :: none :: l) r h Q) : Rn d mid pc (ok :: ok1 :: l) (.long x :: r) h Q := by
  refine Rn.go hc hf rfl ?_ k
  have e : am_kill (ok :: ok1 :: l) 0 = ok :: ok1 :: l := rfl
  have e2 : decide (0 + 1 < (ok :: ok1 :: l).length) = true := decide_eq_true (by simp)
  show (match decide (0 + 1 < (ok :: ok1 :: l).length) with
    | true => some (pc + 1, am_st2 (ok :: ok1 :: l) 0 (.long x), r, h)
    | false => none) = _
  rw [e2]
  show some (pc + 1, ((am_kill (ok :: ok1 :: l) 0).set 0 (some (.long x))).set (0 + 1) none, r, h) = _
  rw [e]
  rfl
theorem Rn.iinc0 {x : Int32} {n : Int} (v : Int32) (hc : am_code mid = c) (hf : am_find c pc = some (.iinc 0 n, r1, r2)) (hv : Int32.ofInt n = v)  (k : Rn d mid (pc + 3) (some (.int (x + v)) :: l) r h Q) : Rn d mid pc (some (.int x) :: l) r h Q := by
  subst hv
  refine Rn.go hc hf rfl ?_ k
  have e : am_kill (some (.int x) :: l) 0 = some (.int x) :: l := rfl
  have e2 : decide (0 < (some (.int x) :: l).length) = true := decide_eq_true (by simp)
  show (match decide (0 < (some (.int x) :: l).length) with
    | true => some (pc + 3, am_st1 (some (.int x) :: l) 0 (.int (x + Int32.ofInt n)), r, h)
    | false => none) = _
  rw [e2]
  show some (pc + 3, (am_kill (some (.int x) :: l) 0).set 0 (some (.int (x + Int32.ofInt n))), r, h) = _
  rw [e]
  rfl
theorem Rn.istore1 {o0 ok : Option Value} {x : Int32} (hc : am_code mid = c) (hf : am_find c pc = some (.istore 1, r1, r2)) (hn : am_nl o0 = true) (k : Rn d mid (pc + 2) (o0 :: some (.int x) :: l) r h Q) : Rn d mid pc (o0 :: ok :: l) (.int x :: r) h Q := by
  refine Rn.go hc hf rfl ?_ k
  have e : am_kill (o0 :: ok :: l) 1 = o0 :: ok :: l := am_kill_nl (j := 0) rfl hn
  have e2 : decide (1 < (o0 :: ok :: l).length) = true := decide_eq_true (by simp)
  show (match decide (1 < (o0 :: ok :: l).length) with
    | true => some (pc + 2, am_st1 (o0 :: ok :: l) 1 (.int x), r, h)
    | false => none) = _
  rw [e2]
  show some (pc + 2, (am_kill (o0 :: ok :: l) 1).set 1 (some (.int x)), r, h) = _
  rw [e]
  rfl
theorem Rn.istore_n1 {o0 ok : Option Value} {x : Int32} (hc : am_code mid = c) (hf : am_find c pc = some (.istore_n 1, r1, r2)) (hn : am_nl o0 = true) (k : Rn d mid (pc + 1) (o0 :: some (.int x) :: l) r h Q) : Rn d mid pc (o0 :: ok :: l) (.int x :: r) h Q := by
  refine Rn.go hc hf rfl ?_ k
  have e : am_kill (o0 :: ok :: l) 1 = o0 :: ok :: l := am_kill_nl (j := 0) rfl hn
  have e2 : decide (1 < (o0 :: ok :: l).length) = true := decide_eq_true (by simp)
  show (match decide (1 < (o0 :: ok :: l).length) with
    | true => some (pc + 1, am_st1 (o0 :: ok :: l) 1 (.int x), r, h)
    | false => none) = _
  rw [e2]
  show some (pc + 1, (am_kill (o0 :: ok :: l) 1).set 1 (some (.int x)), r, h) = _
  rw [e]
  rfl
theorem Rn.astore1 {o0 ok : Option Value} {x : Nat} (hc : am_code mid = c) (hf : am_find c pc = some (.astore 1, r1, r2)) (hn : am_nl o0 = true) (k : Rn d mid (pc + 2) (o0 :: some (.ref x) :: l) r h Q) : Rn d mid pc (o0 :: ok :: l) (.ref x :: r) h Q := by
  refine Rn.go hc hf rfl ?_ k
  have e : am_kill (o0 :: ok :: l) 1 = o0 :: ok :: l := am_kill_nl (j := 0) rfl hn
  have e2 : decide (1 < (o0 :: ok :: l).length) = true := decide_eq_true (by simp)
  show (match decide (1 < (o0 :: ok :: l).length) with
    | true => some (pc + 2, am_st1 (o0 :: ok :: l) 1 (.ref x), r, h)
    | false => none) = _
  rw [e2]
  show some (pc + 2, (am_kill (o0 :: ok :: l) 1).set 1 (some (.ref x)), r, h) = _
  rw [e]
  rfl
theorem Rn.astore_n1 {o0 ok : Option Value} {x : Nat} (hc : am_code mid = c) (hf : am_find c pc = some (.astore_n 1, r1, r2)) (hn : am_nl o0 = true) (k : Rn d mid (pc + 1) (o0 :: some (.ref x) :: l) r h Q) : Rn d mid pc (o0 :: ok :: l) (.ref x :: r) h Q := by
  refine Rn.go hc hf rfl ?_ k
  have e : am_kill (o0 :: ok :: l) 1 = o0 :: ok :: l := am_kill_nl (j := 0) rfl hn
  have e2 : decide (1 < (o0 :: ok :: l).length) = true := decide_eq_true (by simp)
  show (match decide (1 < (o0 :: ok :: l).length) with
    | true => some (pc + 1, am_st1 (o0 :: ok :: l) 1 (.ref x), r, h)
    | false => none) = _
  rw [e2]
  show some (pc + 1, (am_kill (o0 :: ok :: l) 1).set 1 (some (.ref x)), r, h) = _
  rw [e]
  rfl
theorem Rn.lstore1 {o0 ok ok1 : Option Value} {x : Int64} (hc : am_code mid = c) (hf : am_find c pc = some (.lstore 1, r1, r2)) (hn : am_nl o0 = true) (k : Rn d mid (pc + 2) (o0 :: some (.long x) :: none :: l) r h Q) : Rn d mid pc (o0 :: ok :: ok1 :: l) (.long x :: r) h Q := by
  refine Rn.go hc hf rfl ?_ k
  have e : am_kill (o0 :: ok :: ok1 :: l) 1 = o0 :: ok :: ok1 :: l := am_kill_nl (j := 0) rfl hn
  have e2 : decide (1 + 1 < (o0 :: ok :: ok1 :: l).length) = true := decide_eq_true (by simp)
  show (match decide (1 + 1 < (o0 :: ok :: ok1 :: l).length) with
    | true => some (pc + 2, am_st2 (o0 :: ok :: ok1 :: l) 1 (.long x), r, h)
    | false => none) = _
  rw [e2]
  show some (pc + 2, ((am_kill (o0 :: ok :: ok1 :: l) 1).set 1 (some (.long x))).set (1 + 1) none, r, h) = _
  rw [e]
  rfl
theorem Rn.lstore_n1 {o0 ok ok1 : Option Value} {x : Int64} (hc : am_code mid = c) (hf : am_find c pc = some (.lstore_n 1, r1, r2)) (hn : am_nl o0 = true) (k : Rn d mid (pc + 1) (o0 :: some (.long x) :: none :: l) r h Q) : Rn d mid pc (o0 :: ok :: ok1 :: l) (.long x :: r) h Q := by
  refine Rn.go hc hf rfl ?_ k
  have e : am_kill (o0 :: ok :: ok1 :: l) 1 = o0 :: ok :: ok1 :: l := am_kill_nl (j := 0) rfl hn
  have e2 : decide (1 + 1 < (o0 :: ok :: ok1 :: l).length) = true := decide_eq_true (by simp)
  show (match decide (1 + 1 < (o0 :: ok :: ok1 :: l).length) with
    | true => some (pc + 1, am_st2 (o0 :: ok :: ok1 :: l) 1 (.long x), r, h)
    | false => none) = _
  rw [e2]
  show some (pc + 1, ((am_kill (o0 :: ok :: ok1 :: l) 1).set 1 (some (.long x))).set (1 + 1) none, r, h) = _
  rw [e]
  rfl
theorem Rn.iinc1 {o0 : Option Value} {x : Int32} {n : Int} (v : Int32) (hc : am_code mid = c) (hf : am_find c pc = some (.iinc 1 n, r1, r2)) (hv : Int32.ofInt n = v) (hn : am_nl o0 = true) (k : Rn d mid (pc + 3) (o0 :: some (.int (x + v)) :: l) r h Q) : Rn d mid pc (o0 :: some (.int x) :: l) r h Q := by
  subst hv
  refine Rn.go hc hf rfl ?_ k
  have e : am_kill (o0 :: some (.int x) :: l) 1 = o0 :: some (.int x) :: l := am_kill_nl (j := 0) rfl hn
  have e2 : decide (1 < (o0 :: some (.int x) :: l).length) = true := decide_eq_true (by simp)
  show (match decide (1 < (o0 :: some (.int x) :: l).length) with
    | true => some (pc + 3, am_st1 (o0 :: some (.int x) :: l) 1 (.int (x + Int32.ofInt n)), r, h)
    | false => none) = _
  rw [e2]
  show some (pc + 3, (am_kill (o0 :: some (.int x) :: l) 1).set 1 (some (.int (x + Int32.ofInt n))), r, h) = _
  rw [e]
  rfl
theorem Rn.istore2 {o0 o1 ok : Option Value} {x : Int32} (hc : am_code mid = c) (hf : am_find c pc = some (.istore 2, r1, r2)) (hn : am_nl o1 = true) (k : Rn d mid (pc + 2) (o0 :: o1 :: some (.int x) :: l) r h Q) : Rn d mid pc (o0 :: o1 :: ok :: l) (.int x :: r) h Q := by
  refine Rn.go hc hf rfl ?_ k
  have e : am_kill (o0 :: o1 :: ok :: l) 2 = o0 :: o1 :: ok :: l := am_kill_nl (j := 1) rfl hn
  have e2 : decide (2 < (o0 :: o1 :: ok :: l).length) = true := decide_eq_true (by simp)
  show (match decide (2 < (o0 :: o1 :: ok :: l).length) with
    | true => some (pc + 2, am_st1 (o0 :: o1 :: ok :: l) 2 (.int x), r, h)
    | false => none) = _
  rw [e2]
  show some (pc + 2, (am_kill (o0 :: o1 :: ok :: l) 2).set 2 (some (.int x)), r, h) = _
  rw [e]
  rfl
theorem Rn.istore_n2 {o0 o1 ok : Option Value} {x : Int32} (hc : am_code mid = c) (hf : am_find c pc = some (.istore_n 2, r1, r2)) (hn : am_nl o1 = true) (k : Rn d mid (pc + 1) (o0 :: o1 :: some (.int x) :: l) r h Q) : Rn d mid pc (o0 :: o1 :: ok :: l) (.int x :: r) h Q := by
  refine Rn.go hc hf rfl ?_ k
  have e : am_kill (o0 :: o1 :: ok :: l) 2 = o0 :: o1 :: ok :: l := am_kill_nl (j := 1) rfl hn
  have e2 : decide (2 < (o0 :: o1 :: ok :: l).length) = true := decide_eq_true (by simp)
  show (match decide (2 < (o0 :: o1 :: ok :: l).length) with
    | true => some (pc + 1, am_st1 (o0 :: o1 :: ok :: l) 2 (.int x), r, h)
    | false => none) = _
  rw [e2]
  show some (pc + 1, (am_kill (o0 :: o1 :: ok :: l) 2).set 2 (some (.int x)), r, h) = _
  rw [e]
  rfl
theorem Rn.astore2 {o0 o1 ok : Option Value} {x : Nat} (hc : am_code mid = c) (hf : am_find c pc = some (.astore 2, r1, r2)) (hn : am_nl o1 = true) (k : Rn d mid (pc + 2) (o0 :: o1 :: some (.ref x) :: l) r h Q) : Rn d mid pc (o0 :: o1 :: ok :: l) (.ref x :: r) h Q := by
  refine Rn.go hc hf rfl ?_ k
  have e : am_kill (o0 :: o1 :: ok :: l) 2 = o0 :: o1 :: ok :: l := am_kill_nl (j := 1) rfl hn
  have e2 : decide (2 < (o0 :: o1 :: ok :: l).length) = true := decide_eq_true (by simp)
  show (match decide (2 < (o0 :: o1 :: ok :: l).length) with
    | true => some (pc + 2, am_st1 (o0 :: o1 :: ok :: l) 2 (.ref x), r, h)
    | false => none) = _
  rw [e2]
  show some (pc + 2, (am_kill (o0 :: o1 :: ok :: l) 2).set 2 (some (.ref x)), r, h) = _
  rw [e]
  rfl
theorem Rn.astore_n2 {o0 o1 ok : Option Value} {x : Nat} (hc : am_code mid = c) (hf : am_find c pc = some (.astore_n 2, r1, r2)) (hn : am_nl o1 = true) (k : Rn d mid (pc + 1) (o0 :: o1 :: some (.ref x) :: l) r h Q) : Rn d mid pc (o0 :: o1 :: ok :: l) (.ref x :: r) h Q := by
  refine Rn.go hc hf rfl ?_ k
  have e : am_kill (o0 :: o1 :: ok :: l) 2 = o0 :: o1 :: ok :: l := am_kill_nl (j := 1) rfl hn
  have e2 : decide (2 < (o0 :: o1 :: ok :: l).length) = true := decide_eq_true (by simp)
  show (match decide (2 < (o0 :: o1 :: ok :: l).length) with
    | true => some (pc + 1, am_st1 (o0 :: o1 :: ok :: l) 2 (.ref x), r, h)
    | false => none) = _
  rw [e2]
  show some (pc + 1, (am_kill (o0 :: o1 :: ok :: l) 2).set 2 (some (.ref x)), r, h) = _
  rw [e]
  rfl
theorem Rn.lstore2 {o0 o1 ok ok1 : Option Value} {x : Int64} (hc : am_code mid = c) (hf : am_find c pc = some (.lstore 2, r1, r2)) (hn : am_nl o1 = true) (k : Rn d mid (pc + 2) (o0 :: o1 :: some (.long x) :: none :: l) r h Q) : Rn d mid pc (o0 :: o1 :: ok :: ok1 :: l) (.long x :: r) h Q := by
  refine Rn.go hc hf rfl ?_ k
  have e : am_kill (o0 :: o1 :: ok :: ok1 :: l) 2 = o0 :: o1 :: ok :: ok1 :: l := am_kill_nl (j := 1) rfl hn
  have e2 : decide (2 + 1 < (o0 :: o1 :: ok :: ok1 :: l).length) = true := decide_eq_true (by simp)
  show (match decide (2 + 1 < (o0 :: o1 :: ok :: ok1 :: l).length) with
    | true => some (pc + 2, am_st2 (o0 :: o1 :: ok :: ok1 :: l) 2 (.long x), r, h)
    | false => none) = _
  rw [e2]
  show some (pc + 2, ((am_kill (o0 :: o1 :: ok :: ok1 :: l) 2).set 2 (some (.long x))).set (2 + 1) none, r, h) = _
  rw [e]
  rfl
theorem Rn.lstore_n2 {o0 o1 ok ok1 : Option Value} {x : Int64} (hc : am_code mid = c) (hf : am_find c pc = some (.lstore_n 2, r1, r2)) (hn : am_nl o1 = true) (k : Rn d mid (pc + 1) (o0 :: o1 :: some (.long x) :: none :: l) r h Q) : Rn d mid pc (o0 :: o1 :: ok :: ok1 :: l) (.long x :: r) h Q := by
  refine Rn.go hc hf rfl ?_ k
  have e : am_kill (o0 :: o1 :: ok :: ok1 :: l) 2 = o0 :: o1 :: ok :: ok1 :: l := am_kill_nl (j := 1) rfl hn
  have e2 : decide (2 + 1 < (o0 :: o1 :: ok :: ok1 :: l).length) = true := decide_eq_true (by simp)
  show (match decide (2 + 1 < (o0 :: o1 :: ok :: ok1 :: l).length) with
    | true => some (pc + 1, am_st2 (o0 :: o1 :: ok :: ok1 :: l) 2 (.long x), r, h)
    | false => none) = _
  rw [e2]
  show some (pc + 1, ((am_kill (o0 :: o1 :: ok :: ok1 :: l) 2).set 2 (some (.long x))).set (2 + 1) none, r, h) = _
  rw [e]
  rfl
theorem Rn.iinc2 {o0 o1 : Option Value} {x : Int32} {n : Int} (v : Int32) (hc : am_code mid = c) (hf : am_find c pc = some (.iinc 2 n, r1, r2)) (hv : Int32.ofInt n = v) (hn : am_nl o1 = true) (k : Rn d mid (pc + 3) (o0 :: o1 :: some (.int (x + v)) :: l) r h Q) : Rn d mid pc (o0 :: o1 :: some (.int x) :: l) r h Q := by
  subst hv
  refine Rn.go hc hf rfl ?_ k
  have e : am_kill (o0 :: o1 :: some (.int x) :: l) 2 = o0 :: o1 :: some (.int x) :: l := am_kill_nl (j := 1) rfl hn
  have e2 : decide (2 < (o0 :: o1 :: some (.int x) :: l).length) = true := decide_eq_true (by simp)
  show (match decide (2 < (o0 :: o1 :: some (.int x) :: l).length) with
    | true => some (pc + 3, am_st1 (o0 :: o1 :: some (.int x) :: l) 2 (.int (x + Int32.ofInt n)), r, h)
    | false => none) = _
  rw [e2]
  show some (pc + 3, (am_kill (o0 :: o1 :: some (.int x) :: l) 2).set 2 (some (.int (x + Int32.ofInt n))), r, h) = _
  rw [e]
  rfl
theorem Rn.istore3 {o0 o1 o2 ok : Option Value} {x : Int32} (hc : am_code mid = c) (hf : am_find c pc = some (.istore 3, r1, r2)) (hn : am_nl o2 = true) (k : Rn d mid (pc + 2) (o0 :: o1 :: o2 :: some (.int x) :: l) r h Q) : Rn d mid pc (o0 :: o1 :: o2 :: ok :: l) (.int x :: r) h Q := by
  refine Rn.go hc hf rfl ?_ k
  have e : am_kill (o0 :: o1 :: o2 :: ok :: l) 3 = o0 :: o1 :: o2 :: ok :: l := am_kill_nl (j := 2) rfl hn
  have e2 : decide (3 < (o0 :: o1 :: o2 :: ok :: l).length) = true := decide_eq_true (by simp)
  show (match decide (3 < (o0 :: o1 :: o2 :: ok :: l).length) with
    | true => some (pc + 2, am_st1 (o0 :: o1 :: o2 :: ok :: l) 3 (.int x), r, h)
    | false => none) = _
  rw [e2]
  show some (pc + 2, (am_kill (o0 :: o1 :: o2 :: ok :: l) 3).set 3 (some (.int x)), r, h) = _
  rw [e]
  rfl
theorem Rn.istore_n3 {o0 o1 o2 ok : Option Value} {x : Int32} (hc : am_code mid = c) (hf : am_find c pc = some (.istore_n 3, r1, r2)) (hn : am_nl o2 = true) (k : Rn d mid (pc + 1) (o0 :: o1 :: o2 :: some (.int x) :: l) r h Q) : Rn d mid pc (o0 :: o1 :: o2 :: ok :: l) (.int x :: r) h Q := by
  refine Rn.go hc hf rfl ?_ k
  have e : am_kill (o0 :: o1 :: o2 :: ok :: l) 3 = o0 :: o1 :: o2 :: ok :: l := am_kill_nl (j := 2) rfl hn
  have e2 : decide (3 < (o0 :: o1 :: o2 :: ok :: l).length) = true := decide_eq_true (by simp)
  show (match decide (3 < (o0 :: o1 :: o2 :: ok :: l).length) with
    | true => some (pc + 1, am_st1 (o0 :: o1 :: o2 :: ok :: l) 3 (.int x), r, h)
    | false => none) = _
  rw [e2]
  show some (pc + 1, (am_kill (o0 :: o1 :: o2 :: ok :: l) 3).set 3 (some (.int x)), r, h) = _
  rw [e]
  rfl
theorem Rn.astore3 {o0 o1 o2 ok : Option Value} {x : Nat} (hc : am_code mid = c) (hf : am_find c pc = some (.astore 3, r1, r2)) (hn : am_nl o2 = true) (k : Rn d mid (pc + 2) (o0 :: o1 :: o2 :: some (.ref x) :: l) r h Q) : Rn d mid pc (o0 :: o1 :: o2 :: ok :: l) (.ref x :: r) h Q := by
  refine Rn.go hc hf rfl ?_ k
  have e : am_kill (o0 :: o1 :: o2 :: ok :: l) 3 = o0 :: o1 :: o2 :: ok :: l := am_kill_nl (j := 2) rfl hn
  have e2 : decide (3 < (o0 :: o1 :: o2 :: ok :: l).length) = true := decide_eq_true (by simp)
  show (match decide (3 < (o0 :: o1 :: o2 :: ok :: l).length) with
    | true => some (pc + 2, am_st1 (o0 :: o1 :: o2 :: ok :: l) 3 (.ref x), r, h)
    | false => none) = _
  rw [e2]
  show some (pc + 2, (am_kill (o0 :: o1 :: o2 :: ok :: l) 3).set 3 (some (.ref x)), r, h) = _
  rw [e]
  rfl
theorem Rn.astore_n3 {o0 o1 o2 ok : Option Value} {x : Nat} (hc : am_code mid = c) (hf : am_find c pc = some (.astore_n 3, r1, r2)) (hn : am_nl o2 = true) (k : Rn d mid (pc + 1) (o0 :: o1 :: o2 :: some (.ref x) :: l) r h Q) : Rn d mid pc (o0 :: o1 :: o2 :: ok :: l) (.ref x :: r) h Q := by
  refine Rn.go hc hf rfl ?_ k
  have e : am_kill (o0 :: o1 :: o2 :: ok :: l) 3 = o0 :: o1 :: o2 :: ok :: l := am_kill_nl (j := 2) rfl hn
  have e2 : decide (3 < (o0 :: o1 :: o2 :: ok :: l).length) = true := decide_eq_true (by simp)
  show (match decide (3 < (o0 :: o1 :: o2 :: ok :: l).length) with
    | true => some (pc + 1, am_st1 (o0 :: o1 :: o2 :: ok :: l) 3 (.ref x), r, h)
    | false => none) = _
  rw [e2]
  show some (pc + 1, (am_kill (o0 :: o1 :: o2 :: ok :: l) 3).set 3 (some (.ref x)), r, h) = _
  rw [e]
  rfl
theorem Rn.lstore3 {o0 o1 o2 ok ok1 : Option Value} {x : Int64} (hc : am_code mid = c) (hf : am_find c pc = some (.lstore 3, r1, r2)) (hn : am_nl o2 = true) (k : Rn d mid (pc + 2) (o0 :: o1 :: o2 :: some (.long x) :: none :: l) r h Q) : Rn d mid pc (o0 :: o1 :: o2 :: ok :: ok1 :: l) (.long x :: r) h Q := by
  refine Rn.go hc hf rfl ?_ k
  have e : am_kill (o0 :: o1 :: o2 :: ok :: ok1 :: l) 3 = o0 :: o1 :: o2 :: ok :: ok1 :: l := am_kill_nl (j := 2) rfl hn
  have e2 : decide (3 + 1 < (o0 :: o1 :: o2 :: ok :: ok1 :: l).length) = true := decide_eq_true (by simp)
  show (match decide (3 + 1 < (o0 :: o1 :: o2 :: ok :: ok1 :: l).length) with
    | true => some (pc + 2, am_st2 (o0 :: o1 :: o2 :: ok :: ok1 :: l) 3 (.long x), r, h)
    | false => none) = _
  rw [e2]
  show some (pc + 2, ((am_kill (o0 :: o1 :: o2 :: ok :: ok1 :: l) 3).set 3 (some (.long x))).set (3 + 1) none, r, h) = _
  rw [e]
  rfl
theorem Rn.lstore_n3 {o0 o1 o2 ok ok1 : Option Value} {x : Int64} (hc : am_code mid = c) (hf : am_find c pc = some (.lstore_n 3, r1, r2)) (hn : am_nl o2 = true) (k : Rn d mid (pc + 1) (o0 :: o1 :: o2 :: some (.long x) :: none :: l) r h Q) : Rn d mid pc (o0 :: o1 :: o2 :: ok :: ok1 :: l) (.long x :: r) h Q := by
  refine Rn.go hc hf rfl ?_ k
  have e : am_kill (o0 :: o1 :: o2 :: ok :: ok1 :: l) 3 = o0 :: o1 :: o2 :: ok :: ok1 :: l := am_kill_nl (j := 2) rfl hn
  have e2 : decide (3 + 1 < (o0 :: o1 :: o2 :: ok :: ok1 :: l).length) = true := decide_eq_true (by simp)
  show (match decide (3 + 1 < (o0 :: o1 :: o2 :: ok :: ok1 :: l).length) with
    | true => some (pc + 1, am_st2 (o0 :: o1 :: o2 :: ok :: ok1 :: l) 3 (.long x), r, h)
    | false => none) = _
  rw [e2]
  show some (pc + 1, ((am_kill (o0 :: o1 :: o2 :: ok :: ok1 :: l) 3).set 3 (some (.long x))).set (3 + 1) none, r, h) = _
  rw [e]
  rfl
theorem Rn.iinc3 {o0 o1 o2 : Option Value} {x : Int32} {n : Int} (v : Int32) (hc : am_code mid = c) (hf : am_find c pc = some (.iinc 3 n, r1, r2)) (hv : Int32.ofInt n = v) (hn : am_nl o2 = true) (k : Rn d mid (pc + 3) (o0 :: o1 :: o2 :: some (.int (x + v)) :: l) r h Q) : Rn d mid pc (o0 :: o1 :: o2 :: some (.int x) :: l) r h Q := by
  subst hv
  refine Rn.go hc hf rfl ?_ k
  have e : am_kill (o0 :: o1 :: o2 :: some (.int x) :: l) 3 = o0 :: o1 :: o2 :: some (.int x) :: l := am_kill_nl (j := 2) rfl hn
  have e2 : decide (3 < (o0 :: o1 :: o2 :: some (.int x) :: l).length) = true := decide_eq_true (by simp)
  show (match decide (3 < (o0 :: o1 :: o2 :: some (.int x) :: l).length) with
    | true => some (pc + 3, am_st1 (o0 :: o1 :: o2 :: some (.int x) :: l) 3 (.int (x + Int32.ofInt n)), r, h)
    | false => none) = _
  rw [e2]
  show some (pc + 3, (am_kill (o0 :: o1 :: o2 :: some (.int x) :: l) 3).set 3 (some (.int (x + Int32.ofInt n))), r, h) = _
  rw [e]
  rfl
theorem Rn.istore4 {o0 o1 o2 o3 ok : Option Value} {x : Int32} (hc : am_code mid = c) (hf : am_find c pc = some (.istore 4, r1, r2)) (hn : am_nl o3 = true) (k : Rn d mid (pc + 2) (o0 :: o1 :: o2 :: o3 :: some (.int x) :: l) r h Q) : Rn d mid pc (o0 :: o1 :: o2 :: o3 :: ok :: l) (.int x :: r) h Q := by
  refine Rn.go hc hf rfl ?_ k
  have e : am_kill (o0 :: o1 :: o2 :: o3 :: ok :: l) 4 = o0 :: o1 :: o2 :: o3 :: ok :: l := am_kill_nl (j := 3) rfl hn
  have e2 : decide (4 < (o0 :: o1 :: o2 :: o3 :: ok :: l).length) = true := decide_eq_true (by simp)
  show (match decide (4 < (o0 :: o1 :: o2 :: o3 :: ok :: l).length) with
    | true => some (pc + 2, am_st1 (o0 :: o1 :: o2 :: o3 :: ok :: l) 4 (.int x), r, h)
    | false => none) = _
  rw [e2]
  show some (pc + 2, (am_kill (o0 :: o1 :: o2 :: o3 :: ok :: l) 4).set 4 (some (.int x)), r, h) = _
  rw [e]
  rfl
theorem Rn.astore4 {o0 o1 o2 o3 ok : Option Value} {x : Nat} (hc : am_code mid = c) (hf : am_find c pc = some (.astore 4, r1, r2)) (hn : am_nl o3 = true) (k : Rn d mid (pc + 2) (o0 :: o1 :: o2 :: o3 :: some (.ref x) :: l) r h Q) : Rn d mid pc (o0 :: o1 :: o2 :: o3 :: ok :: l) (.ref x :: r) h Q := by
  refine Rn.go hc hf rfl ?_ k
  have e : am_kill (o0 :: o1 :: o2 :: o3 :: ok :: l) 4 = o0 :: o1 :: o2 :: o3 :: ok :: l := am_kill_nl (j := 3) rfl hn
  have e2 : decide (4 < (o0 :: o1 :: o2 :: o3 :: ok :: l).length) = true := decide_eq_true (by simp)
  show (match decide (4 < (o0 :: o1 :: o2 :: o3 :: ok :: l).length) with
    | true => some (pc + 2, am_st1 (o0 :: o1 :: o2 :: o3 :: ok :: l) 4 (.ref x), r, h)
    | false => none) = _
  rw [e2]
  show some (pc + 2, (am_kill (o0 :: o1 :: o2 :: o3 :: ok :: l) 4).set 4 (some (.ref x)), r, h) = _
  rw [e]
  rfl
theorem Rn.lstore4 {o0 o1 o2 o3 ok ok1 : Option Value} {x : Int64} (hc : am_code mid = c) (hf : am_find c pc = some (.lstore 4, r1, r2)) (hn : am_nl o3 = true) (k : Rn d mid (pc + 2) (o0 :: o1 :: o2 :: o3 :: some (.long x) :: none :: l) r h Q) : Rn d mid pc (o0 :: o1 :: o2 :: o3 :: ok :: ok1 :: l) (.long x :: r) h Q := by
  refine Rn.go hc hf rfl ?_ k
  have e : am_kill (o0 :: o1 :: o2 :: o3 :: ok :: ok1 :: l) 4 = o0 :: o1 :: o2 :: o3 :: ok :: ok1 :: l := am_kill_nl (j := 3) rfl hn
  have e2 : decide (4 + 1 < (o0 :: o1 :: o2 :: o3 :: ok :: ok1 :: l).length) = true := decide_eq_true (by simp)
  show (match decide (4 + 1 < (o0 :: o1 :: o2 :: o3 :: ok :: ok1 :: l).length) with
    | true => some (pc + 2, am_st2 (o0 :: o1 :: o2 :: o3 :: ok :: ok1 :: l) 4 (.long x), r, h)
    | false => none) = _
  rw [e2]
  show some (pc + 2, ((am_kill (o0 :: o1 :: o2 :: o3 :: ok :: ok1 :: l) 4).set 4 (some (.long x))).set (4 + 1) none, r, h) = _
  rw [e]
  rfl
theorem Rn.iinc4 {o0 o1 o2 o3 : Option Value} {x : Int32} {n : Int} (v : Int32) (hc : am_code mid = c) (hf : am_find c pc = some (.iinc 4 n, r1, r2)) (hv : Int32.ofInt n = v) (hn : am_nl o3 = true) (k : Rn d mid (pc + 3) (o0 :: o1 :: o2 :: o3 :: some (.int (x + v)) :: l) r h Q) : Rn d mid pc (o0 :: o1 :: o2 :: o3 :: some (.int x) :: l) r h Q := by
  subst hv
  refine Rn.go hc hf rfl ?_ k
  have e : am_kill (o0 :: o1 :: o2 :: o3 :: some (.int x) :: l) 4 = o0 :: o1 :: o2 :: o3 :: some (.int x) :: l := am_kill_nl (j := 3) rfl hn
  have e2 : decide (4 < (o0 :: o1 :: o2 :: o3 :: some (.int x) :: l).length) = true := decide_eq_true (by simp)
  show (match decide (4 < (o0 :: o1 :: o2 :: o3 :: some (.int x) :: l).length) with
    | true => some (pc + 3, am_st1 (o0 :: o1 :: o2 :: o3 :: some (.int x) :: l) 4 (.int (x + Int32.ofInt n)), r, h)
    | false => none) = _
  rw [e2]
  show some (pc + 3, (am_kill (o0 :: o1 :: o2 :: o3 :: some (.int x) :: l) 4).set 4 (some (.int (x + Int32.ofInt n))), r, h) = _
  rw [e]
  rfl
theorem Rn.istore5 {o0 o1 o2 o3 o4 ok : Option Value} {x : Int32} (hc : am_code mid = c) (hf : am_find c pc = some (.istore 5, r1, r2)) (hn : am_nl o4 = true) (k : Rn d mid (pc + 2) (o0 :: o1 :: o2 :: o3 :: o4 :: some (.int x) :: l) r h Q) : Rn d mid pc (o0 :: o1 :: o2 :: o3 :: o4 :: ok :: l) (.int x :: r) h Q := by
  refine Rn.go hc hf rfl ?_ k
  have e : am_kill (o0 :: o1 :: o2 :: o3 :: o4 :: ok :: l) 5 = o0 :: o1 :: o2 :: o3 :: o4 :: ok :: l := am_kill_nl (j := 4) rfl hn
  have e2 : decide (5 < (o0 :: o1 :: o2 :: o3 :: o4 :: ok :: l).length) = true := decide_eq_true (by simp)
  show (match decide (5 < (o0 :: o1 :: o2 :: o3 :: o4 :: ok :: l).length) with
    | true => some (pc + 2, am_st1 (o0 :: o1 :: o2 :: o3 :: o4 :: ok :: l) 5 (.int x), r, h)
    | false => none) = _
  rw [e2]
  show some (pc + 2, (am_kill (o0 :: o1 :: o2 :: o3 :: o4 :: ok :: l) 5).set 5 (some (.int x)), r, h) = _
  rw [e]
  rfl
theorem Rn.astore5 {o0 o1 o2 o3 o4 ok : Option Value} {x : Nat} (hc : am_code mid = c) (hf : am_find c pc = some (.astore 5, r1, r2)) (hn : am_nl o4 = true) (k : Rn d mid (pc + 2) (o0 :: o1 :: o2 :: o3 :: o4 :: some (.ref x) :: l) r h Q) : Rn d mid pc (o0 :: o1 :: o2 :: o3 :: o4 :: ok :: l) (.ref x :: r) h Q := by
  refine Rn.go hc hf rfl ?_ k
  have e : am_kill (o0 :: o1 :: o2 :: o3 :: o4 :: ok :: l) 5 = o0 :: o1 :: o2 :: o3 :: o4 :: ok :: l := am_kill_nl (j := 4) rfl hn
  have e2 : decide (5 < (o0 :: o1 :: o2 :: o3 :: o4 :: ok :: l).length) = true := decide_eq_true (by simp)
  show (match decide (5 < (o0 :: o1 :: o2 :: o3 :: o4 :: ok :: l).length) with
    | true => some (pc + 2, am_st1 (o0 :: o1 :: o2 :: o3 :: o4 :: ok :: l) 5 (.ref x), r, h)
    | false => none) = _
  rw [e2]
  show some (pc + 2, (am_kill (o0 :: o1 :: o2 :: o3 :: o4 :: ok :: l) 5).set 5 (some (.ref x)), r, h) = _
  rw [e]
  rfl
theorem Rn.lstore5 {o0 o1 o2 o3 o4 ok ok1 : Option Value} {x : Int64} (hc : am_code mid = c) (hf : am_find c pc = some (.lstore 5, r1, r2)) (hn : am_nl o4 = true) (k : Rn d mid (pc + 2) (o0 :: o1 :: o2 :: o3 :: o4 :: some (.long x) :: none :: l) r h Q) : Rn d mid pc (o0 :: o1 :: o2 :: o3 :: o4 :: ok :: ok1 :: l) (.long x :: r) h Q := by
  refine Rn.go hc hf rfl ?_ k
  have e : am_kill (o0 :: o1 :: o2 :: o3 :: o4 :: ok :: ok1 :: l) 5 = o0 :: o1 :: o2 :: o3 :: o4 :: ok :: ok1 :: l := am_kill_nl (j := 4) rfl hn
  have e2 : decide (5 + 1 < (o0 :: o1 :: o2 :: o3 :: o4 :: ok :: ok1 :: l).length) = true := decide_eq_true (by simp)
  show (match decide (5 + 1 < (o0 :: o1 :: o2 :: o3 :: o4 :: ok :: ok1 :: l).length) with
    | true => some (pc + 2, am_st2 (o0 :: o1 :: o2 :: o3 :: o4 :: ok :: ok1 :: l) 5 (.long x), r, h)
    | false => none) = _
  rw [e2]
  show some (pc + 2, ((am_kill (o0 :: o1 :: o2 :: o3 :: o4 :: ok :: ok1 :: l) 5).set 5 (some (.long x))).set (5 + 1) none, r, h) = _
  rw [e]
  rfl
theorem Rn.iinc5 {o0 o1 o2 o3 o4 : Option Value} {x : Int32} {n : Int} (v : Int32) (hc : am_code mid = c) (hf : am_find c pc = some (.iinc 5 n, r1, r2)) (hv : Int32.ofInt n = v) (hn : am_nl o4 = true) (k : Rn d mid (pc + 3) (o0 :: o1 :: o2 :: o3 :: o4 :: some (.int (x + v)) :: l) r h Q) : Rn d mid pc (o0 :: o1 :: o2 :: o3 :: o4 :: some (.int x) :: l) r h Q := by
  subst hv
  refine Rn.go hc hf rfl ?_ k
  have e : am_kill (o0 :: o1 :: o2 :: o3 :: o4 :: some (.int x) :: l) 5 = o0 :: o1 :: o2 :: o3 :: o4 :: some (.int x) :: l := am_kill_nl (j := 4) rfl hn
  have e2 : decide (5 < (o0 :: o1 :: o2 :: o3 :: o4 :: some (.int x) :: l).length) = true := decide_eq_true (by simp)
  show (match decide (5 < (o0 :: o1 :: o2 :: o3 :: o4 :: some (.int x) :: l).length) with
    | true => some (pc + 3, am_st1 (o0 :: o1 :: o2 :: o3 :: o4 :: some (.int x) :: l) 5 (.int (x + Int32.ofInt n)), r, h)
    | false => none) = _
  rw [e2]
  show some (pc + 3, (am_kill (o0 :: o1 :: o2 :: o3 :: o4 :: some (.int x) :: l) 5).set 5 (some (.int (x + Int32.ofInt n))), r, h) = _
  rw [e]
  rfl
theorem Rn.istore6 {o0 o1 o2 o3 o4 o5 ok : Option Value} {x : Int32} (hc : am_code mid = c) (hf : am_find c pc = some (.istore 6, r1, r2)) (hn : am_nl o5 = true) (k : Rn d mid (pc + 2) (o0 :: o1 :: o2 :: o3 :: o4 :: o5 :: some (.int x) :: l) r h Q) : Rn d mid pc (o0 :: o1 :: o2 :: o3 :: o4 :: o5 :: ok :: l) (.int x :: r) h Q := by
  refine Rn.go hc hf rfl ?_ k
  have e : am_kill (o0 :: o1 :: o2 :: o3 :: o4 :: o5 :: ok :: l) 6 = o0 :: o1 :: o2 :: o3 :: o4 :: o5 :: ok :: l := am_kill_nl (j := 5) rfl hn
  have e2 : decide (6 < (o0 :: o1 :: o2 :: o3 :: o4 :: o5 :: ok :: l).length) = true := decide_eq_true (by simp)
  show (match decide (6 < (o0 :: o1 :: o2 :: o3 :: o4 :: o5 :: ok :: l).length) with
    | true => some (pc + 2, am_st1 (o0 :: o1 :: o2 :: o3 :: o4 :: o5 :: ok :: l) 6 (.int x), r, h)
    | false => none) = _
  rw [e2]
  show some (pc + 2, (am_kill (o0 :: o1 :: o2 :: o3 :: o4 :: o5 :: ok :: l) 6).set 6 (some (.int x)), r, h) = _
  rw [e]
  rfl
theorem Rn.astore6 {o0 o1 o2 o3 o4 o5 ok : Option Value} {x : Nat} (hc : am_code mid = c) (hf : am_find c pc = some (.astore 6, r1, r2)) (hn : am_nl o5 = true) (k : Rn d mid (pc + 2) (o0 :: o1 :: o2 :: o3 :: o4 :: o5 :: some (.ref x) :: l) r h Q) : Rn d mid pc (o0 :: o1 :: o2 :: o3 :: o4 :: o5 :: ok :: l) (.ref x :: r) h Q := by
  refine Rn.go hc hf rfl ?_ k
  have e : am_kill (o0 :: o1 :: o2 :: o3 :: o4 :: o5 :: ok :: l) 6 = o0 :: o1 :: o2 :: o3 :: o4 :: o5 :: ok :: l := am_kill_nl (j := 5) rfl hn
  have e2 : decide (6 < (o0 :: o1 :: o2 :: o3 :: o4 :: o5 :: ok :: l).length) = true := decide_eq_true (by simp)
  show (match decide (6 < (o0 :: o1 :: o2 :: o3 :: o4 :: o5 :: ok :: l).length) with
    | true => some (pc + 2, am_st1 (o0 :: o1 :: o2 :: o3 :: o4 :: o5 :: ok :: l) 6 (.ref x), r, h)
    | false => none) = _
  rw [e2]
  show some (pc + 2, (am_kill (o0 :: o1 :: o2 :: o3 :: o4 :: o5 :: ok :: l) 6).set 6 (some (.ref x)), r, h) = _
  rw [e]
  rfl
theorem Rn.lstore6 {o0 o1 o2 o3 o4 o5 ok ok1 : Option Value} {x : Int64} (hc : am_code mid = c) (hf : am_find c pc = some (.lstore 6, r1, r2)) (hn : am_nl o5 = true) (k : Rn d mid (pc + 2) (o0 :: o1 :: o2 :: o3 :: o4 :: o5 :: some (.long x) :: none :: l) r h Q) : Rn d mid pc (o0 :: o1 :: o2 :: o3 :: o4 :: o5 :: ok :: ok1 :: l) (.long x :: r) h Q := by
  refine Rn.go hc hf rfl ?_ k
  have e : am_kill (o0 :: o1 :: o2 :: o3 :: o4 :: o5 :: ok :: ok1 :: l) 6 = o0 :: o1 :: o2 :: o3 :: o4 :: o5 :: ok :: ok1 :: l := am_kill_nl (j := 5) rfl hn
  have e2 : decide (6 + 1 < (o0 :: o1 :: o2 :: o3 :: o4 :: o5 :: ok :: ok1 :: l).length) = true := decide_eq_true (by simp)
  show (match decide (6 + 1 < (o0 :: o1 :: o2 :: o3 :: o4 :: o5 :: ok :: ok1 :: l).length) with
    | true => some (pc + 2, am_st2 (o0 :: o1 :: o2 :: o3 :: o4 :: o5 :: ok :: ok1 :: l) 6 (.long x), r, h)
    | false => none) = _
  rw [e2]
  show some (pc + 2, ((am_kill (o0 :: o1 :: o2 :: o3 :: o4 :: o5 :: ok :: ok1 :: l) 6).set 6 (some (.long x))).set (6 + 1) none, r, h) = _
  rw [e]
  rfl
theorem Rn.iinc6 {o0 o1 o2 o3 o4 o5 : Option Value} {x : Int32} {n : Int} (v : Int32) (hc : am_code mid = c) (hf : am_find c pc = some (.iinc 6 n, r1, r2)) (hv : Int32.ofInt n = v) (hn : am_nl o5 = true) (k : Rn d mid (pc + 3) (o0 :: o1 :: o2 :: o3 :: o4 :: o5 :: some (.int (x + v)) :: l) r h Q) : Rn d mid pc (o0 :: o1 :: o2 :: o3 :: o4 :: o5 :: some (.int x) :: l) r h Q := by
  subst hv
  refine Rn.go hc hf rfl ?_ k
  have e : am_kill (o0 :: o1 :: o2 :: o3 :: o4 :: o5 :: some (.int x) :: l) 6 = o0 :: o1 :: o2 :: o3 :: o4 :: o5 :: some (.int x) :: l := am_kill_nl (j := 5) rfl hn
  have e2 : decide (6 < (o0 :: o1 :: o2 :: o3 :: o4 :: o5 :: some (.int x) :: l).length) = true := decide_eq_true (by simp)
  show (match decide (6 < (o0 :: o1 :: o2 :: o3 :: o4 :: o5 :: some (.int x) :: l).length) with
    | true => some (pc + 3, am_st1 (o0 :: o1 :: o2 :: o3 :: o4 :: o5 :: some (.int x) :: l) 6 (.int (x + Int32.ofInt n)), r, h)
    | false => none) = _
  rw [e2]
  show some (pc + 3, (am_kill (o0 :: o1 :: o2 :: o3 :: o4 :: o5 :: some (.int x) :: l) 6).set 6 (some (.int (x + Int32.ofInt n))), r, h) = _
  rw [e]
  rfl
theorem Rn.istore7 {o0 o1 o2 o3 o4 o5 o6 ok : Option Value} {x : Int32} (hc : am_code mid = c) (hf : am_find c pc = some (.istore 7, r1, r2)) (hn : am_nl o6 = true) (k : Rn d mid (pc + 2) (o0 :: o1 :: o2 :: o3 :: o4 :: o5 :: o6 :: some (.int x) :: l) r h Q) : Rn d mid pc (o0 :: o1 :: o2 :: o3 :: o4 :: o5 :: o6 :: ok :: l) (.int x :: r) h Q := by
  refine Rn.go hc hf rfl ?_ k
  have e : am_kill (o0 :: o1 :: o2 :: o3 :: o4 :: o5 :: o6 :: ok :: l) 7 = o0 :: o1 :: o2 :: o3 :: o4 :: o5 :: o6 :: ok :: l := am_kill_nl (j := 6) rfl hn
  have e2 : decide (7 < (o0 :: o1 :: o2 :: o3 :: o4 :: o5 :: o6 :: ok :: l).length) = true := decide_eq_true (by simp)
  show (match decide (7 < (o0 :: o1 :: o2 :: o3 :: o4 :: o5 :: o6 :: ok :: l).length) with
    | true => some (pc + 2, am_st1 (o0 :: o1 :: o2 :: o3 :: o4 :: o5 :: o6 :: ok :: l) 7 (.int x), r, h)
    | false => none) = _
  rw [e2]
  show some (pc + 2, (am_kill (o0 :: o1 :: o2 :: o3 :: o4 :: o5 :: o6 :: ok :: l) 7).set 7 (some (.int x)), r, h) = _
  rw [e]
  rfl
theorem Rn.astore7 {o0 o1 o2 o3 o4 o5 o6 ok : Option Value} {x : Nat} (hc : am_code mid = c) (hf : am_find c pc = some (.astore 7, r1, r2)) (hn : am_nl o6 = true) (k : Rn d mid (pc + 2) (o0 :: o1 :: o2 :: o3 :: o4 :: o5 :: o6 :: some (.ref x) :: l) r h Q) : Rn d mid pc (o0 :: o1 :: o2 :: o3 :: o4 :: o5 :: o6 :: ok :: l) (.ref x :: r) h Q := by
  refine Rn.go hc hf rfl ?_ k
  have e : am_kill (o0 :: o1 :: o2 :: o3 :: o4 :: o5 :: o6 :: ok :: l) 7 = o0 :: o1 :: o2 :: o3 :: o4 :: o5 :: o6 :: ok :: l := am_kill_nl (j := 6) rfl hn
  have e2 : decide (7 < (o0 :: o1 :: o2 :: o3 :: o4 :: o5 :: o6 :: ok :: l).length) = true := decide_eq_true (by simp)
  show (match decide (7 < (o0 :: o1 :: o2 :: o3 :: o4 :: o5 :: o6 :: ok :: l).length) with
    | true => some (pc + 2, am_st1 (o0 :: o1 :: o2 :: o3 :: o4 :: o5 :: o6 :: ok :: l) 7 (.ref x), r, h)
    | false => none) = _
  rw [e2]
  show some (pc + 2, (am_kill (o0 :: o1 :: o2 :: o3 :: o4 :: o5 :: o6 :: ok :: l) 7).set 7 (some (.ref x)), r, h) = _
  rw [e]
  rfl
theorem Rn.lstore7 {o0 o1 o2 o3 o4 o5 o6 ok ok1 : Option Value} {x : Int64} (hc : am_code mid = c) (hf : am_find c pc = some (.lstore 7, r1, r2)) (hn : am_nl o6 = true) (k : Rn d mid (pc + 2) (o0 :: o1 :: o2 :: o3 :: o4 :: o5 :: o6 :: some (.long x) :: none :: l) r h Q) : Rn d mid pc (o0 :: o1 :: o2 :: o3 :: o4 :: o5 :: o6 :: ok :: ok1 :: l) (.long x :: r) h Q := by
  refine Rn.go hc hf rfl ?_ k
  have e : am_kill (o0 :: o1 :: o2 :: o3 :: o4 :: o5 :: o6 :: ok :: ok1 :: l) 7 = o0 :: o1 :: o2 :: o3 :: o4 :: o5 :: o6 :: ok :: ok1 :: l := am_kill_nl (j := 6) rfl hn
  have e2 : decide (7 + 1 < (o0 :: o1 :: o2 :: o3 :: o4 :: o5 :: o6 :: ok :: ok1 :: l).length) = true := decide_eq_true (by simp)
  show (match decide (7 + 1 < (o0 :: o1 :: o2 :: o3 :: o4 :: o5 :: o6 :: ok :: ok1 :: l).length) with
    | true => some (pc + 2, am_st2 (o0 :: o1 :: o2 :: o3 :: o4 :: o5 :: o6 :: ok :: ok1 :: l) 7 (.long x), r, h)
    | false => none) = _
  rw [e2]
  show some (pc + 2, ((am_kill (o0 :: o1 :: o2 :: o3 :: o4 :: o5 :: o6 :: ok :: ok1 :: l) 7).set 7 (some (.long x))).set (7 + 1) none, r, h) = _
  rw [e]
  rfl
theorem Rn.iinc7 {o0 o1 o2 o3 o4 o5 o6 : Option Value} {x : Int32} {n : Int} (v : Int32) (hc : am_code mid = c) (hf : am_find c pc = some (.iinc 7 n, r1, r2)) (hv : Int32.ofInt n = v) (hn : am_nl o6 = true) (k : Rn d mid (pc + 3) (o0 :: o1 :: o2 :: o3 :: o4 :: o5 :: o6 :: some (.int (x + v)) :: l) r h Q) : Rn d mid pc (o0 :: o1 :: o2 :: o3 :: o4 :: o5 :: o6 :: some (.int x) :: l) r h Q := by
  subst hv
  refine Rn.go hc hf rfl ?_ k
  have e : am_kill (o0 :: o1 :: o2 :: o3 :: o4 :: o5 :: o6 :: some (.int x) :: l) 7 = o0 :: o1 :: o2 :: o3 :: o4 :: o5 :: o6 :: some (.int x) :: l := am_kill_nl (j := 6) rfl hn
  have e2 : decide (7 < (o0 :: o1 :: o2 :: o3 :: o4 :: o5 :: o6 :: some (.int x) :: l).length) = true := decide_eq_true (by simp)
  show (match decide (7 < (o0 :: o1 :: o2 :: o3 :: o4 :: o5 :: o6 :: some (.int x) :: l).length) with
    | true => some (pc + 3, am_st1 (o0 :: o1 :: o2 :: o3 :: o4 :: o5 :: o6 :: some (.int x) :: l) 7 (.int (x + Int32.ofInt n)), r, h)
    | false => none) = _
  rw [e2]
  show some (pc + 3, (am_kill (o0 :: o1 :: o2 :: o3 :: o4 :: o5 :: o6 :: some (.int x) :: l) 7).set 7 (some (.int (x + Int32.ofInt n))), r, h) = _
  rw [e]
  rfl
theorem Rn.istore8 {o0 o1 o2 o3 o4 o5 o6 o7 ok : Option Value} {x : Int32} (hc : am_code mid = c) (hf : am_find c pc = some (.istore 8, r1, r2)) (hn : am_nl o7 = true) (k : Rn d mid (pc + 2) (o0 :: o1 :: o2 :: o3 :: o4 :: o5 :: o6 :: o7 :: some (.int x) :: l) r h Q) : Rn d mid pc (o0 :: o1 :: o2 :: o3 :: o4 :: o5 :: o6 :: o7 :: ok :: l) (.int x :: r) h Q := by
  refine Rn.go hc hf rfl ?_ k
  have e : am_kill (o0 :: o1 :: o2 :: o3 :: o4 :: o5 :: o6 :: o7 :: ok :: l) 8 = o0 :: o1 :: o2 :: o3 :: o4 :: o5 :: o6 :: o7 :: ok :: l := am_kill_nl (j := 7) rfl hn
  have e2 : decide (8 < (o0 :: o1 :: o2 :: o3 :: o4 :: o5 :: o6 :: o7 :: ok :: l).length) = true := decide_eq_true (by simp)
  show (match decide (8 < (o0 :: o1 :: o2 :: o3 :: o4 :: o5 :: o6 :: o7 :: ok :: l).length) with
    | true => some (pc + 2, am_st1 (o0 :: o1 :: o2 :: o3 :: o4 :: o5 :: o6 :: o7 :: ok :: l) 8 (.int x), r, h)
    | false => none) = _
  rw [e2]
  show some (pc + 2, (am_kill (o0 :: o1 :: o2 :: o3 :: o4 :: o5 :: o6 :: o7 :: ok :: l) 8).set 8 (some (.int x)), r, h) = _
  rw [e]
  rfl
theorem Rn.astore8 {o0 o1 o2 o3 o4 o5 o6 o7 ok : Option Value} {x : Nat} (hc : am_code mid = c) (hf : am_find c pc = some (.astore 8, r1, r2)) (hn : am_nl o7 = true) (k : Rn d mid (pc + 2) (o0 :: o1 :: o2 :: o3 :: o4 :: o5 :: o6 :: o7 :: some (.ref x) :: l) r h Q) : Rn d mid pc (o0 :: o1 :: o2 :: o3 :: o4 :: o5 :: o6 :: o7 :: ok :: l) (.ref x :: r) h Q := by
  refine Rn.go hc hf rfl ?_ k
  have e : am_kill (o0 :: o1 :: o2 :: o3 :: o4 :: o5 :: o6 :: o7 :: ok :: l) 8 = o0 :: o1 :: o2 :: o3 :: o4 :: o5 :: o6 :: o7 :: ok :: l := am_kill_nl (j := 7) rfl hn
  have e2 : decide (8 < (o0 :: o1 :: o2 :: o3 :: o4 :: o5 :: o6 :: o7 :: ok :: l).length) = true := decide_eq_true (by simp)
  show (match decide (8 < (o0 :: o1 :: o2 :: o3 :: o4 :: o5 :: o6 :: o7 :: ok :: l).length) with
    | true => some (pc + 2, am_st1 (o0 :: o1 :: o2 :: o3 :: o4 :: o5 :: o6 :: o7 :: ok :: l) 8 (.ref x), r, h)
    | false => none) = _
  rw [e2]
  show some (pc + 2, (am_kill (o0 :: o1 :: o2 :: o3 :: o4 :: o5 :: o6 :: o7 :: ok :: l) 8).set 8 (some (.ref x)), r, h) = _
  rw [e]
  rfl
theorem Rn.lstore8 {o0 o1 o2 o3 o4 o5 o6 o7 ok ok1 : Option Value} {x : Int64} (hc : am_code mid = c) (hf : am_find c pc = some (.lstore 8, r1, r2)) (hn : am_nl o7 = true) (k : Rn d mid (pc + 2) (o0 :: o1 :: o2 :: o3 :: o4 :: o5 :: o6 :: o7 :: some (.long x) :: none :: l) r h Q) : Rn d mid pc (o0 :: o1 :: o2 :: o3 :: o4 :: o5 :: o6 :: o7 :: ok :: ok1 :: l) (.long x :: r) h Q := by
  refine Rn.go hc hf rfl ?_ k
  have e : am_kill (o0 :: o1 :: o2 :: o3 :: o4 :: o5 :: o6 :: o7 :: ok :: ok1 :: l) 8 = o0 :: o1 :: o2 :: o3 :: o4 :: o5 :: o6 :: o7 :: ok :: ok1 :: l := am_kill_nl (j := 7) rfl hn
  have e2 : decide (8 + 1 < (o0 :: o1 :: o2 :: o3 :: o4 :: o5 :: o6 :: o7 :: ok :: ok1 :: l).length) = true := decide_eq_true (by simp)
  show (match decide (8 + 1 < (o0 :: o1 :: o2 :: o3 :: o4 :: o5 :: o6 :: o7 :: ok :: ok1 :: l).length) with
    | true => some (pc + 2, am_st2 (o0 :: o1 :: o2 :: o3 :: o4 :: o5 :: o6 :: o7 :: ok :: ok1 :: l) 8 (.long x), r, h)
    | false => none) = _
  rw [e2]
  show some (pc + 2, ((am_kill (o0 :: o1 :: o2 :: o3 :: o4 :: o5 :: o6 :: o7 :: ok :: ok1 :: l) 8).set 8 (some (.long x))).set (8 + 1) none, r, h) = _
  rw [e]
  rfl
theorem Rn.iinc8 {o0 o1 o2 o3 o4 o5 o6 o7 : Option Value} {x : Int32} {n : Int} (v : Int32) (hc : am_code mid = c) (hf : am_find c pc = some (.iinc 8 n, r1, r2)) (hv : Int32.ofInt n = v) (hn : am_nl o7 = true) (k : Rn d mid (pc + 3) (o0 :: o1 :: o2 :: o3 :: o4 :: o5 :: o6 :: o7 :: some (.int (x + v)) :: l) r h Q) : Rn d mid pc (o0 :: o1 :: o2 :: o3 :: o4 :: o5 :: o6 :: o7 :: some (.int x) :: l) r h Q := by
  subst hv
  refine Rn.go hc hf rfl ?_ k
  have e : am_kill (o0 :: o1 :: o2 :: o3 :: o4 :: o5 :: o6 :: o7 :: some (.int x) :: l) 8 = o0 :: o1 :: o2 :: o3 :: o4 :: o5 :: o6 :: o7 :: some (.int x) :: l := am_kill_nl (j := 7) rfl hn
  have e2 : decide (8 < (o0 :: o1 :: o2 :: o3 :: o4 :: o5 :: o6 :: o7 :: some (.int x) :: l).length) = true := decide_eq_true (by simp)
  show (match decide (8 < (o0 :: o1 :: o2 :: o3 :: o4 :: o5 :: o6 :: o7 :: some (.int x) :: l).length) with
    | true => some (pc + 3, am_st1 (o0 :: o1 :: o2 :: o3 :: o4 :: o5 :: o6 :: o7 :: some (.int x) :: l) 8 (.int (x + Int32.ofInt n)), r, h)
    | false => none) = _
  rw [e2]
  show some (pc + 3, (am_kill (o0 :: o1 :: o2 :: o3 :: o4 :: o5 :: o6 :: o7 :: some (.int x) :: l) 8).set 8 (some (.int (x + Int32.ofInt n))), r, h) = _
  rw [e]
  rfl
theorem Rn.istore9 {o0 o1 o2 o3 o4 o5 o6 o7 o8 ok : Option Value} {x : Int32} (hc : am_code mid = c) (hf : am_find c pc = some (.istore 9, r1, r2)) (hn : am_nl o8 = true) (k : Rn d mid (pc + 2) (o0 :: o1 :: o2 :: o3 :: o4 :: o5 :: o6 :: o7 :: o8 :: some (.int x) :: l) r h Q) : Rn d mid pc (o0 :: o1 :: o2 :: o3 :: o4 :: o5 :: o6 :: o7 :: o8 :: ok :: l) (.int x :: r) h Q := by
  refine Rn.go hc hf rfl ?_ k
  have e : am_kill (o0 :: o1 :: o2 :: o3 :: o4 :: o5 :: o6 :: o7 :: o8 :: ok :: l) 9 = o0 :: o1 :: o2 :: o3 :: o4 :: o5 :: o6 :: o7 :: o8 :: ok :: l := am_kill_nl (j := 8) rfl hn
  have e2 : decide (9 < (o0 :: o1 :: o2 :: o3 :: o4 :: o5 :: o6 :: o7 :: o8 :: ok :: l).length) = true := decide_eq_true (by simp)
  show (match decide (9 < (o0 :: o1 :: o2 :: o3 :: o4 :: o5 :: o6 :: o7 :: o8 :: ok :: l).length) with
    | true => some (pc + 2, am_st1 (o0 :: o1 :: o2 :: o3 :: o4 :: o5 :: o6 :: o7 :: o8 :: ok :: l) 9 (.int x), r, h)
    | false => none) = _
  rw [e2]
  show some (pc + 2, (am_kill (o0 :: o1 :: o2 :: o3 :: o4 :: o5 :: o6 :: o7 :: o8 :: ok :: l) 9).set 9 (some (.int x)), r, h) = _
  rw [e]
  rfl
theorem Rn.astore9 {o0 o1 o2 o3 o4 o5 o6 o7 o8 ok : Option Value} {x : Nat} (hc : am_code mid = c) (hf : am_find c pc = some (.astore 9, r1, r2)) (hn : am_nl o8 = true) (k : Rn d mid (pc + 2) (o0 :: o1 :: o2 :: o3 :: o4 :: o5 :: o6 :: o7 :: o8 :: some (.ref x) :: l) r h Q) : Rn d mid pc (o0 :: o1 :: o2 :: o3 :: o4 :: o5 :: o6 :: o7 :: o8 :: ok :: l) (.ref x :: r) h Q := by
  refine Rn.go hc hf rfl ?_ k
  have e : am_kill (o0 :: o1 :: o2 :: o3 :: o4 :: o5 :: o6 :: o7 :: o8 :: ok :: l) 9 = o0 :: o1 :: o2 :: o3 :: o4 :: o5 :: o6 :: o7 :: o8 :: ok :: l := am_kill_nl (j := 8) rfl hn
  have e2 : decide (9 < (o0 :: o1 :: o2 :: o3 :: o4 :: o5 :: o6 :: o7 :: o8 :: ok :: l).length) = true := decide_eq_true (by simp)
  show (match decide (9 < (o0 :: o1 :: o2 :: o3 :: o4 :: o5 :: o6 :: o7 :: o8 :: ok :: l).length) with
    | true => some (pc + 2, am_st1 (o0 :: o1 :: o2 :: o3 :: o4 :: o5 :: o6 :: o7 :: o8 :: ok :: l) 9 (.ref x), r, h)
    | false => none) = _
  rw [e2]
  show some (pc + 2, (am_kill (o0 :: o1 :: o2 :: o3 :: o4 :: o5 :: o6 :: o7 :: o8 :: ok :: l) 9).set 9 (some (.ref x)), r, h) = _
  rw [e]
  rfl
theorem Rn.lstore9 {o0 o1 o2 o3 o4 o5 o6 o7 o8 ok ok1 : Option Value} {x : Int64} (hc : am_code mid = c) (hf : am_find c pc = some (.lstore 9, r1, r2)) (hn : am_nl o8 = true) (k : Rn d mid (pc + 2) (o0 :: o1 :: o2 :: o3 :: o4 :: o5 :: o6 :: o7 :: o8 :: some (.long x) :: none :: l) r h Q) : Rn d mid pc (o0 :: o1 :: o2 :: o3 :: o4 :: o5 :: o6 :: o7 :: o8 :: ok :: ok1 :: l) (.long x :: r) h Q := by
  refine Rn.go hc hf rfl ?_ k
  have e : am_kill (o0 :: o1 :: o2 :: o3 :: o4 :: o5 :: o6 :: o7 :: o8 :: ok :: ok1 :: l) 9 = o0 :: o1 :: o2 :: o3 :: o4 :: o5 :: o6 :: o7 :: o8 :: ok :: ok1 :: l := am_kill_nl (j := 8) rfl hn
  have e2 : decide (9 + 1 < (o0 :: o1 :: o2 :: o3 :: o4 :: o5 :: o6 :: o7 :: o8 :: ok :: ok1 :: l).length) = true := decide_eq_true (by simp)
  show (match decide (9 + 1 < (o0 :: o1 :: o2 :: o3 :: o4 :: o5 :: o6 :: o7 :: o8 :: ok :: ok1 :: l).length) with
    | true => some (pc + 2, am_st2 (o0 :: o1 :: o2 :: o3 :: o4 :: o5 :: o6 :: o7 :: o8 :: ok :: ok1 :: l) 9 (.long x), r, h)
    | false => none) = _
  rw [e2]
  show some (pc + 2, ((am_kill (o0 :: o1 :: o2 :: o3 :: o4 :: o5 :: o6 :: o7 :: o8 :: ok :: ok1 :: l) 9).set 9 (some (.long x))).set (9 + 1) none, r, h) = _
  rw [e]
  rfl
theorem Rn.iinc9 {o0 o1 o2 o3 o4 o5 o6 o7 o8 : Option Value} {x : Int32} {n : Int} (v : Int32) (hc : am_code mid = c) (hf : am_find c pc = some (.iinc 9 n, r1, r2)) (hv : Int32.ofInt n = v) (hn : am_nl o8 = true) (k : Rn d mid (pc + 3) (o0 :: o1 :: o2 :: o3 :: o4 :: o5 :: o6 :: o7 :: o8 :: some (.int (x + v)) :: l) r h Q) : Rn d mid pc (o0 :: o1 :: o2 :: o3 :: o4 :: o5 :: o6 :: o7 :: o8 :: some (.int x) :: l) r h Q := by
  subst hv
  refine Rn.go hc hf rfl ?_ k
  have e : am_kill (o0 :: o1 :: o2 :: o3 :: o4 :: o5 :: o6 :: o7 :: o8 :: some (.int x) :: l) 9 = o0 :: o1 :: o2 :: o3 :: o4 :: o5 :: o6 :: o7 :: o8 :: some (.int x) :: l := am_kill_nl (j := 8) rfl hn
  have e2 : decide (9 < (o0 :: o1 :: o2 :: o3 :: o4 :: o5 :: o6 :: o7 :: o8 :: some (.int x) :: l).length) = true := decide_eq_true (by simp)
  show (match decide (9 < (o0 :: o1 :: o2 :: o3 :: o4 :: o5 :: o6 :: o7 :: o8 :: some (.int x) :: l).length) with
    | true => some (pc + 3, am_st1 (o0 :: o1 :: o2 :: o3 :: o4 :: o5 :: o6 :: o7 :: o8 :: some (.int x) :: l) 9 (.int (x + Int32.ofInt n)), r, h)
    | false => none) = _
  rw [e2]
  show some (pc + 3, (am_kill (o0 :: o1 :: o2 :: o3 :: o4 :: o5 :: o6 :: o7 :: o8 :: some (.int x) :: l) 9).set 9 (some (.int (x + Int32.ofInt n))), r, h) = _
  rw [e]
  rfl
theorem Rn.iadd {x y : Int32} (hc : am_code mid = c) (hf : am_find c pc = some (.iadd, r1, r2)) (k : Rn d mid (pc + 1) l (.int (x + y) :: r) h Q) : Rn d mid pc l (.int y :: .int x :: r) h Q := by
  refine Rn.go hc hf rfl ?_ k
  rfl
theorem Rn.isub {x y : Int32} (hc : am_code mid = c) (hf : am_find c pc = some (.isub, r1, r2)) (k : Rn d mid (pc + 1) l (.int (x - y) :: r) h Q) : Rn d mid pc l (.int y :: .int x :: r) h Q := by
  refine Rn.go hc hf rfl ?_ k
  rfl
theorem Rn.imul {x y : Int32} (hc : am_code mid = c) (hf : am_find c pc = some (.imul, r1, r2)) (k : Rn d mid (pc + 1) l (.int (x * y) :: r) h Q) : Rn d mid pc l (.int y :: .int x :: r) h Q := by
  refine Rn.go hc hf rfl ?_ k
  rfl
theorem Rn.iand {x y : Int32} (hc : am_code mid = c) (hf : am_find c pc = some (.iand, r1, r2)) (k : Rn d mid (pc + 1) l (.int (x &&& y) :: r) h Q) : Rn d mid pc l (.int y :: .int x :: r) h Q := by
  refine Rn.go hc hf rfl ?_ k
  rfl
theorem Rn.ior {x y : Int32} (hc : am_code mid = c) (hf : am_find c pc = some (.ior, r1, r2)) (k : Rn d mid (pc + 1) l (.int (x ||| y) :: r) h Q) : Rn d mid pc l (.int y :: .int x :: r) h Q := by
  refine Rn.go hc hf rfl ?_ k
  rfl
theorem Rn.ixor {x y : Int32} (hc : am_code mid = c) (hf : am_find c pc = some (.ixor, r1, r2)) (k : Rn d mid (pc + 1) l (.int (x ^^^ y) :: r) h Q) : Rn d mid pc l (.int y :: .int x :: r) h Q := by
  refine Rn.go hc hf rfl ?_ k
  rfl
theorem Rn.ishl {x y : Int32} (hc : am_code mid = c) (hf : am_find c pc = some (.ishl, r1, r2)) (k : Rn d mid (pc + 1) l (.int (x <<< (y &&& 31)) :: r) h Q) : Rn d mid pc l (.int y :: .int x :: r) h Q := by
  refine Rn.go hc hf rfl ?_ k
  rfl
theorem Rn.ishr {x y : Int32} (hc : am_code mid = c) (hf : am_find c pc = some (.ishr, r1, r2)) (k : Rn d mid (pc + 1) l (.int (x >>> (y &&& 31)) :: r) h Q) : Rn d mid pc l (.int y :: .int x :: r) h Q := by
  refine Rn.go hc hf rfl ?_ k
  rfl
theorem Rn.iushr {x y : Int32} (hc : am_code mid = c) (hf : am_find c pc = some (.iushr, r1, r2)) (k : Rn d mid (pc + 1) l (.int ((x.toUInt32 >>> (y.toUInt32 &&& Int32.toUInt32 31)).toInt32) :: r) h Q) : Rn d mid pc l (.int y :: .int x :: r) h Q := by
  refine Rn.go hc hf rfl ?_ k
  rfl
theorem Rn.ladd {x y : Int64} (hc : am_code mid = c) (hf : am_find c pc = some (.ladd, r1, r2)) (k : Rn d mid (pc + 1) l (.long (x + y) :: r) h Q) : Rn d mid pc l (.long y :: .long x :: r) h Q := by
  refine Rn.go hc hf rfl ?_ k
  rfl
theorem Rn.lsub {x y : Int64} (hc : am_code mid = c) (hf : am_find c pc = some (.lsub, r1, r2)) (k : Rn d mid (pc + 1) l (.long (x - y) :: r) h Q) : Rn d mid pc l (.long y :: .long x :: r) h Q := by
  refine Rn.go hc hf rfl ?_ k
  rfl
theorem Rn.lmul {x y : Int64} (hc : am_code mid = c) (hf : am_find c pc = some (.lmul, r1, r2)) (k : Rn d mid (pc + 1) l (.long (x * y) :: r) h Q) : Rn d mid pc l (.long y :: .long x :: r) h Q := by
  refine Rn.go hc hf rfl ?_ k
  rfl
theorem Rn.land {x y : Int64} (hc : am_code mid = c) (hf : am_find c pc = some (.land, r1, r2)) (k : Rn d mid (pc + 1) l (.long (x &&& y) :: r) h Q) : Rn d mid pc l (.long y :: .long x :: r) h Q := by
  refine Rn.go hc hf rfl ?_ k
  rfl
theorem Rn.lor {x y : Int64} (hc : am_code mid = c) (hf : am_find c pc = some (.lor, r1, r2)) (k : Rn d mid (pc + 1) l (.long (x ||| y) :: r) h Q) : Rn d mid pc l (.long y :: .long x :: r) h Q := by
  refine Rn.go hc hf rfl ?_ k
  rfl
theorem Rn.lushr {x : Int64} {y : Int32} (hc : am_code mid = c) (hf : am_find c pc = some (.lushr, r1, r2)) (k : Rn d mid (pc + 1) l (.long ((x.toUInt64 >>> (y.toInt64.toUInt64 &&& Int64.toUInt64 63)).toInt64) :: r) h Q) : Rn d mid pc l (.int y :: .long x :: r) h Q := by
  refine Rn.go hc hf rfl ?_ k
  rfl
theorem Rn.lshr {x : Int64} {y : Int32} (hc : am_code mid = c) (hf : am_find c pc = some (.lshr, r1, r2)) (k : Rn d mid (pc + 1) l (.long (x >>> (y.toInt64 &&& 63)) :: r) h Q) : Rn d mid pc l (.int y :: .long x :: r) h Q := by
  refine Rn.go hc hf rfl ?_ k
  rfl
theorem Rn.lshl {x : Int64} {y : Int32} (hc : am_code mid = c) (hf : am_find c pc = some (.lshl, r1, r2)) (k : Rn d mid (pc + 1) l (.long (x <<< (y.toInt64 &&& 63)) :: r) h Q) : Rn d mid pc l (.int y :: .long x :: r) h Q := by
  refine Rn.go hc hf rfl ?_ k
  rfl
theorem Rn.lcmp {x y : Int64} (hc : am_code mid = c) (hf : am_find c pc = some (.lcmp, r1, r2)) (k : Rn d mid (pc + 1) l (.int (lg_cmp x y) :: r) h Q) : Rn d mid pc l (.long y :: .long x :: r) h Q := by
  refine Rn.go hc hf rfl ?_ k
  rfl
theorem Rn.i2l {x : Int32} (hc : am_code mid = c) (hf : am_find c pc = some (.i2l, r1, r2)) (k : Rn d mid (pc + 1) l (.long x.toInt64 :: r) h Q) : Rn d mid pc l (.int x :: r) h Q := by
  refine Rn.go hc hf rfl ?_ k
  rfl
theorem Rn.l2i {x : Int64} (hc : am_code mid = c) (hf : am_find c pc = some (.l2i, r1, r2)) (k : Rn d mid (pc + 1) l (.int x.toInt32 :: r) h Q) : Rn d mid pc l (.long x :: r) h Q := by
  refine Rn.go hc hf rfl ?_ k
  rfl
theorem Rn.i2c {x : Int32} (hc : am_code mid = c) (hf : am_find c pc = some (.i2c, r1, r2)) (k : Rn d mid (pc + 1) l (.int (x.toUInt32 % 65536).toInt32 :: r) h Q) : Rn d mid pc l (.int x :: r) h Q := by
  refine Rn.go hc hf rfl ?_ k
  rfl
theorem Rn.dupi {x : Int32} (hc : am_code mid = c) (hf : am_find c pc = some (.dup, r1, r2)) (k : Rn d mid (pc + 1) l (.int x :: .int x :: r) h Q) : Rn d mid pc l (.int x :: r) h Q := by
  refine Rn.go hc hf rfl ?_ k
  rfl
theorem Rn.dupa {x : Nat} (hc : am_code mid = c) (hf : am_find c pc = some (.dup, r1, r2)) (k : Rn d mid (pc + 1) l (.ref x :: .ref x :: r) h Q) : Rn d mid pc l (.ref x :: r) h Q := by
  refine Rn.go hc hf rfl ?_ k
  rfl
theorem Rn.dup2 {x : Int32} {a : Nat} (hc : am_code mid = c) (hf : am_find c pc = some (.dup2, r1, r2)) (k : Rn d mid (pc + 1) l (.int x :: .ref a :: .int x :: .ref a :: r) h Q) : Rn d mid pc l (.int x :: .ref a :: r) h Q := by
  refine Rn.go hc hf rfl ?_ k
  rfl
theorem Rn.popi {x : Int32} (hc : am_code mid = c) (hf : am_find c pc = some (.pop, r1, r2)) (k : Rn d mid (pc + 1) l r h Q) : Rn d mid pc l (.int x :: r) h Q := by
  refine Rn.go hc hf rfl ?_ k
  rfl
theorem Rn.popa {x : Nat} (hc : am_code mid = c) (hf : am_find c pc = some (.pop, r1, r2)) (k : Rn d mid (pc + 1) l r h Q) : Rn d mid pc l (.ref x :: r) h Q := by
  refine Rn.go hc hf rfl ?_ k
  rfl
theorem Rn.goto {off : Int} (t : Nat) (hc : am_code mid = c) (hf : am_find c pc = some (.goto off, r1, r2)) (ht : am_tg pc off = t) (k : Rn d mid t l r h Q) : Rn d mid pc l r h Q := by
  subst ht
  exact Rn.go hc hf rfl rfl k
theorem Rn.icmp_eq {off : Int} {x y : Int32} (t : Nat) (hc : am_code mid = c) (hf : am_find c pc = some (.if_icmp .eq off, r1, r2)) (ht : am_tg pc off = t) (k1 : x = y → Rn d mid t l r h Q) (k2 : ¬ x = y → Rn d mid (pc + 3) l r h Q) : Rn d mid pc l (.int y :: .int x :: r) h Q := Rn.icmp t hc hf ht k1 (k2)
theorem Rn.if_eq {off : Int} {x : Int32} (t : Nat) (hc : am_code mid = c) (hf : am_find c pc = some (.ifCond .eq off, r1, r2)) (ht : am_tg pc off = t) (k1 : x = 0 → Rn d mid t l r h Q) (k2 : ¬ x = 0 → Rn d mid (pc + 3) l r h Q) : Rn d mid pc l (.int x :: r) h Q := Rn.ifz t hc hf ht k1 (k2)
theorem Rn.icmp_ne {off : Int} {x y : Int32} (t : Nat) (hc : am_code mid = c) (hf : am_find c pc = some (.if_icmp .ne off, r1, r2)) (ht : am_tg pc off = t) (k1 : ¬ x = y → Rn d mid t l r h Q) (k2 : x = y → Rn d mid (pc + 3) l r h Q) : Rn d mid pc l (.int y :: .int x :: r) h Q := Rn.icmp t hc hf ht k1 (fun z => k2 (Classical.not_not.mp z))
theorem Rn.if_ne {off : Int} {x : Int32} (t : Nat) (hc : am_code mid = c) (hf : am_find c pc = some (.ifCond .ne off, r1, r2)) (ht : am_tg pc off = t) (k1 : ¬ x = 0 → Rn d mid t l r h Q) (k2 : x = 0 → Rn d mid (pc + 3) l r h Q) : Rn d mid pc l (.int x :: r) h Q := Rn.ifz t hc hf ht k1 (fun z => k2 (Classical.not_not.mp z))
theorem Rn.icmp_lt {off : Int} {x y : Int32} (t : Nat) (hc : am_code mid = c) (hf : am_find c pc = some (.if_icmp .lt off, r1, r2)) (ht : am_tg pc off = t) (k1 : x < y → Rn d mid t l r h Q) (k2 : ¬ x < y → Rn d mid (pc + 3) l r h Q) : Rn d mid pc l (.int y :: .int x :: r) h Q := Rn.icmp t hc hf ht k1 (k2)
theorem Rn.if_lt {off : Int} {x : Int32} (t : Nat) (hc : am_code mid = c) (hf : am_find c pc = some (.ifCond .lt off, r1, r2)) (ht : am_tg pc off = t) (k1 : x < 0 → Rn d mid t l r h Q) (k2 : ¬ x < 0 → Rn d mid (pc + 3) l r h Q) : Rn d mid pc l (.int x :: r) h Q := Rn.ifz t hc hf ht k1 (k2)
theorem Rn.icmp_ge {off : Int} {x y : Int32} (t : Nat) (hc : am_code mid = c) (hf : am_find c pc = some (.if_icmp .ge off, r1, r2)) (ht : am_tg pc off = t) (k1 : y ≤ x → Rn d mid t l r h Q) (k2 : ¬ y ≤ x → Rn d mid (pc + 3) l r h Q) : Rn d mid pc l (.int y :: .int x :: r) h Q := Rn.icmp t hc hf ht k1 (k2)
theorem Rn.if_ge {off : Int} {x : Int32} (t : Nat) (hc : am_code mid = c) (hf : am_find c pc = some (.ifCond .ge off, r1, r2)) (ht : am_tg pc off = t) (k1 : 0 ≤ x → Rn d mid t l r h Q) (k2 : ¬ 0 ≤ x → Rn d mid (pc + 3) l r h Q) : Rn d mid pc l (.int x :: r) h Q := Rn.ifz t hc hf ht k1 (k2)
theorem Rn.icmp_gt {off : Int} {x y : Int32} (t : Nat) (hc : am_code mid = c) (hf : am_find c pc = some (.if_icmp .gt off, r1, r2)) (ht : am_tg pc off = t) (k1 : y < x → Rn d mid t l r h Q) (k2 : ¬ y < x → Rn d mid (pc + 3) l r h Q) : Rn d mid pc l (.int y :: .int x :: r) h Q := Rn.icmp t hc hf ht k1 (k2)
theorem Rn.if_gt {off : Int} {x : Int32} (t : Nat) (hc : am_code mid = c) (hf : am_find c pc = some (.ifCond .gt off, r1, r2)) (ht : am_tg pc off = t) (k1 : 0 < x → Rn d mid t l r h Q) (k2 : ¬ 0 < x → Rn d mid (pc + 3) l r h Q) : Rn d mid pc l (.int x :: r) h Q := Rn.ifz t hc hf ht k1 (k2)
theorem Rn.icmp_le {off : Int} {x y : Int32} (t : Nat) (hc : am_code mid = c) (hf : am_find c pc = some (.if_icmp .le off, r1, r2)) (ht : am_tg pc off = t) (k1 : x ≤ y → Rn d mid t l r h Q) (k2 : ¬ x ≤ y → Rn d mid (pc + 3) l r h Q) : Rn d mid pc l (.int y :: .int x :: r) h Q := Rn.icmp t hc hf ht k1 (k2)
theorem Rn.if_le {off : Int} {x : Int32} (t : Nat) (hc : am_code mid = c) (hf : am_find c pc = some (.ifCond .le off, r1, r2)) (ht : am_tg pc off = t) (k1 : x ≤ 0 → Rn d mid t l r h Q) (k2 : ¬ x ≤ 0 → Rn d mid (pc + 3) l r h Q) : Rn d mid pc l (.int x :: r) h Q := Rn.ifz t hc hf ht k1 (k2)
theorem Rn.retl {x : Int64} {q : am_M} (hc : am_code mid = c) (hf : am_find c pc = some (.lreturn, r1, r2)) (hq : at_tab[mid]? = some q) (hty : q.2.2.2.1 = some .long) (kk : Q (some (.long x)) h) : Rn d mid pc l [.long x] h Q := by
  refine Rn.ret hc hf rfl ?_ kk
  simp only [am_ret, hq, hty]
theorem Rn.reta {x : Nat} {q : am_M} {C : String} (hc : am_code mid = c) (hf : am_find c pc = some (.areturn, r1, r2)) (hq : at_tab[mid]? = some q) (hty : q.2.2.2.1 = some (.object C)) (kk : Q (some (.ref x)) h) : Rn d mid pc l [.ref x] h Q := by
  refine Rn.ret hc hf rfl ?_ kk
  simp only [am_ret, hq, hty]
theorem Rn.retv {q : am_M} (hc : am_code mid = c) (hf : am_find c pc = some (.return_, r1, r2)) (hq : at_tab[mid]? = some q) (hty : q.2.2.2.1 = none) (kk : Q none h) : Rn d mid pc l [] h Q := by
  refine Rn.ret hc hf rfl ?_ kk
  simp only [am_ret, hq, hty]
/-- a call, by what the callee does -/
theorem Rn.inv {i : Instr} {st : List Value} {d' : Nat} {l0 : am_L} {rest : List Value} {Q1 : Option Value → am_H → Prop} (hc : am_code mid = c) (hf : am_find c pc = some (i, r1, r2)) (hk : am_kind i r1 = 2) (hs : am_call d i r1 st h = some (d', l0, rest)) (ct : Rn d' r1 0 l0 [] h Q1) (k : ∀ v h', Q1 v h' → Rn d mid (pc + 3) l (v.toList ++ rest) h' Q) : Rn d mid pc l st h Q := Rn.call hc hf hk hs (ct.mono k)
theorem am_callV {q : am_M} {ix a n nn : Nat} {st : List Value} {As : List Value} (hq : at_tab[r1]? = some q) (hn : q.2.2.2.2.1 = n) (hlen : n ≤ st.length) (hcat : am_cat (st.drop n) ≤ 8) (hml : (am_args (st.take n).reverse).length ≤ q.2.2.1) (hr : (st.take n).reverse = .ref a :: As) (ha : h.1[a]? = some (q.2.2.2.2.2.1, nn)) : am_call (d + 1) (.invokevirtual ix) r1 st h = some (d, am_ent q.2.2.1 (.ref a :: As), st.drop n) := by
  subst hn
  unfold am_call
  simp only [hq]
  rw [decide_eq_true (show q.2.2.2.2.1 ≤ st.length ∧ am_cat (st.drop q.2.2.2.2.1) ≤ 8 ∧ (am_args (st.take q.2.2.2.2.1).reverse).length ≤ q.2.2.1 from ⟨hlen, hcat, hml⟩)]
  simp only [hr, ha, decide_true]
theorem am_callS {q : am_M} {ix n : Nat} {st : List Value} (hq : at_tab[r1]? = some q) (hn : q.2.2.2.2.1 = n) (hlen : n ≤ st.length) (hcat : am_cat (st.drop n) ≤ 8) (hml : (am_args (st.take n).reverse).length ≤ q.2.2.1) : am_call (d + 1) (.invokestatic ix) r1 st h = some (d, am_ent q.2.2.1 (st.take n).reverse, st.drop n) := by
  subst hn
  unfold am_call
  simp only [hq, decide_eq_true (show q.2.2.2.2.1 ≤ st.length ∧ am_cat (st.drop q.2.2.2.2.1) ≤ 8 ∧ (am_args (st.take q.2.2.2.2.1).reverse).length ≤ q.2.2.1 from ⟨hlen, hcat, hml⟩)]
theorem am_callI {q : am_M} {ix a n : Nat} {st : List Value} {As : List Value} (hq : at_tab[r1]? = some q) (hn : q.2.2.2.2.1 = n) (hlen : n ≤ st.length) (hcat : am_cat (st.drop n) ≤ 8) (hml : (am_args (st.take n).reverse).length ≤ q.2.2.1) (hr : (st.take n).reverse = .ref a :: As) : am_call (d + 1) (.invokespecial ix) r1 st h = some (d, am_ent q.2.2.1 (.ref a :: As), st.drop n) := by
  subst hn
  unfold am_call
  simp only [hq]
  rw [decide_eq_true (show q.2.2.2.2.1 ≤ st.length ∧ am_cat (st.drop q.2.2.2.2.1) ≤ 8 ∧ (am_args (st.take q.2.2.2.2.1).reverse).length ≤ q.2.2.1 from ⟨hlen, hcat, hml⟩)]
  simp only [hr]
end Rules2
end
section
/-! calls, by how many values they take -/
def Ret (h : am_H) (v : Option Value) : Option Value → am_H → Prop := fun v' h' => v' = v ∧ h' = h
section Calls3
variable {d mid pc : Nat} {l : am_L} {h : am_H} {Q : Option Value → am_H → Prop} {c : am_C} {r1 r2 : Nat}
theorem Rn.cV1 {ix : Nat} {a nn : Nat} {rest : List Value} {q : am_M} {Q1 : Option Value → am_H → Prop} (hc : am_code mid = c) (hf : am_find c pc = some (.invokevirtual ix, r1, r2)) (hk : am_kind (.invokevirtual ix) r1 = 2) (hq : at_tab[r1]? = some q) (hn : q.2.2.2.2.1 = 1) (hcat : am_cat rest ≤ 8) (hml : (am_args [.ref a]).length ≤ q.2.2.1) (ha : h.1[a]? = some (q.2.2.2.2.2.1, nn)) (ct : Rn d r1 0 (am_ent q.2.2.1 [.ref a]) [] h Q1) (k : ∀ v h', Q1 v h' → Rn (d + 1) mid (pc + 3) l (v.toList ++ rest) h' Q) : Rn (d + 1) mid pc l (.ref a :: rest) h Q := by
  refine Rn.call hc hf hk ?_ (ct.mono k)
  unfold am_call
  simp only [hq, hn]
  rw [decide_eq_true (show 1 ≤ (.ref a :: rest).length ∧ am_cat ((.ref a :: rest).drop 1) ≤ 8 ∧ (am_args ((.ref a :: rest).take 1).reverse).length ≤ q.2.2.1 from ⟨by simp only [List.length_cons]; omega, hcat, hml⟩)]
  have e : ((.ref a :: rest).take 1).reverse = [.ref a] := rfl
  simp only [e, ha, decide_true]
  rfl
theorem Rn.cV1I {ix : Nat} {a nn : Nat} {rest : List Value} {q : am_M} {y : Int32} (hc : am_code mid = c) (hf : am_find c pc = some (.invokevirtual ix, r1, r2)) (hk : am_kind (.invokevirtual ix) r1 = 2) (hq : at_tab[r1]? = some q) (hn : q.2.2.2.2.1 = 1) (hcat : am_cat rest ≤ 8) (hml : (am_args [.ref a]).length ≤ q.2.2.1) (ha : h.1[a]? = some (q.2.2.2.2.2.1, nn)) (ct : Rn d r1 0 (am_ent q.2.2.1 [.ref a]) [] h (Ret h (some (.int y)))) (k : Rn (d + 1) mid (pc + 3) l (.int y :: rest) h Q) : Rn (d + 1) mid pc l (.ref a :: rest) h Q := Rn.cV1 hc hf hk hq hn hcat hml ha ct (fun v h' z => by obtain ⟨rfl, rfl⟩ := z; exact k)
theorem Rn.cV1L {ix : Nat} {a nn : Nat} {rest : List Value} {q : am_M} {y : Int64} (hc : am_code mid = c) (hf : am_find c pc = some (.invokevirtual ix, r1, r2)) (hk : am_kind (.invokevirtual ix) r1 = 2) (hq : at_tab[r1]? = some q) (hn : q.2.2.2.2.1 = 1) (hcat : am_cat rest ≤ 8) (hml : (am_args [.ref a]).length ≤ q.2.2.1) (ha : h.1[a]? = some (q.2.2.2.2.2.1, nn)) (ct : Rn d r1 0 (am_ent q.2.2.1 [.ref a]) [] h (Ret h (some (.long y)))) (k : Rn (d + 1) mid (pc + 3) l (.long y :: rest) h Q) : Rn (d + 1) mid pc l (.ref a :: rest) h Q := Rn.cV1 hc hf hk hq hn hcat hml ha ct (fun v h' z => by obtain ⟨rfl, rfl⟩ := z; exact k)
theorem Rn.cV1A {ix : Nat} {a nn : Nat} {rest : List Value} {q : am_M} {y : Nat} (hc : am_code mid = c) (hf : am_find c pc = some (.invokevirtual ix, r1, r2)) (hk : am_kind (.invokevirtual ix) r1 = 2) (hq : at_tab[r1]? = some q) (hn : q.2.2.2.2.1 = 1) (hcat : am_cat rest ≤ 8) (hml : (am_args [.ref a]).length ≤ q.2.2.1) (ha : h.1[a]? = some (q.2.2.2.2.2.1, nn)) (ct : Rn d r1 0 (am_ent q.2.2.1 [.ref a]) [] h (Ret h (some (.ref y)))) (k : Rn (d + 1) mid (pc + 3) l (.ref y :: rest) h Q) : Rn (d + 1) mid pc l (.ref a :: rest) h Q := Rn.cV1 hc hf hk hq hn hcat hml ha ct (fun v h' z => by obtain ⟨rfl, rfl⟩ := z; exact k)
theorem Rn.cV1N {ix : Nat} {a nn : Nat} {rest : List Value} {q : am_M} (hc : am_code mid = c) (hf : am_find c pc = some (.invokevirtual ix, r1, r2)) (hk : am_kind (.invokevirtual ix) r1 = 2) (hq : at_tab[r1]? = some q) (hn : q.2.2.2.2.1 = 1) (hcat : am_cat rest ≤ 8) (hml : (am_args [.ref a]).length ≤ q.2.2.1) (ha : h.1[a]? = some (q.2.2.2.2.2.1, nn)) (ct : Rn d r1 0 (am_ent q.2.2.1 [.ref a]) [] h (Ret h (none))) (k : Rn (d + 1) mid (pc + 3) l (rest) h Q) : Rn (d + 1) mid pc l (.ref a :: rest) h Q := Rn.cV1 hc hf hk hq hn hcat hml ha ct (fun v h' z => by obtain ⟨rfl, rfl⟩ := z; exact k)
theorem Rn.cV2 {ix : Nat} {a nn : Nat} {x1 : Value} {rest : List Value} {q : am_M} {Q1 : Option Value → am_H → Prop} (hc : am_code mid = c) (hf : am_find c pc = some (.invokevirtual ix, r1, r2)) (hk : am_kind (.invokevirtual ix) r1 = 2) (hq : at_tab[r1]? = some q) (hn : q.2.2.2.2.1 = 2) (hcat : am_cat rest ≤ 8) (hml : (am_args [.ref a, x1]).length ≤ q.2.2.1) (ha : h.1[a]? = some (q.2.2.2.2.2.1, nn)) (ct : Rn d r1 0 (am_ent q.2.2.1 [.ref a, x1]) [] h Q1) (k : ∀ v h', Q1 v h' → Rn (d + 1) mid (pc + 3) l (v.toList ++ rest) h' Q) : Rn (d + 1) mid pc l (x1 :: .ref a :: rest) h Q := by
  refine Rn.call hc hf hk ?_ (ct.mono k)
  unfold am_call
  simp only [hq, hn]
  rw [decide_eq_true (show 2 ≤ (x1 :: .ref a :: rest).length ∧ am_cat ((x1 :: .ref a :: rest).drop 2) ≤ 8 ∧ (am_args ((x1 :: .ref a :: rest).take 2).reverse).length ≤ q.2.2.1 from ⟨by simp only [List.length_cons]; omega, hcat, hml⟩)]
  have e : ((x1 :: .ref a :: rest).take 2).reverse = [.ref a, x1] := rfl
  simp only [e, ha, decide_true]
  rfl
theorem Rn.cV2I {ix : Nat} {a nn : Nat} {x1 : Value} {rest : List Value} {q : am_M} {y : Int32} (hc : am_code mid = c) (hf : am_find c pc = some (.invokevirtual ix, r1, r2)) (hk : am_kind (.invokevirtual ix) r1 = 2) (hq : at_tab[r1]? = some q) (hn : q.2.2.2.2.1 = 2) (hcat : am_cat rest ≤ 8) (hml : (am_args [.ref a, x1]).length ≤ q.2.2.1) (ha : h.1[a]? = some (q.2.2.2.2.2.1, nn)) (ct : Rn d r1 0 (am_ent q.2.2.1 [.ref a, x1]) [] h (Ret h (some (.int y)))) (k : Rn (d + 1) mid (pc + 3) l (.int y :: rest) h Q) : Rn (d + 1) mid pc l (x1 :: .ref a :: rest) h Q := Rn.cV2 hc hf hk hq hn hcat hml ha ct (fun v h' z => by obtain ⟨rfl, rfl⟩ := z; exact k)
theorem Rn.cV2L {ix : Nat} {a nn : Nat} {x1 : Value} {rest : List Value} {q : am_M} {y : Int64} (hc : am_code mid = c) (hf : am_find c pc = some (.invokevirtual ix, r1, r2)) (hk : am_kind (.invokevirtual ix) r1 = 2) (hq : at_tab[r1]? = some q) (hn : q.2.2.2.2.1 = 2) (hcat : am_cat rest ≤ 8) (hml : (am_args [.ref a, x1]).length ≤ q.2.2.1) (ha : h.1[a]? = some (q.2.2.2.2.2.1, nn)) (ct : Rn d r1 0 (am_ent q.2.2.1 [.ref a, x1]) [] h (Ret h (some (.long y)))) (k : Rn (d + 1) mid (pc + 3) l (.long y :: rest) h Q) : Rn (d + 1) mid pc l (x1 :: .ref a :: rest) h Q := Rn.cV2 hc hf hk hq hn hcat hml ha ct (fun v h' z => by obtain ⟨rfl, rfl⟩ := z; exact k)
theorem Rn.cV2A {ix : Nat} {a nn : Nat} {x1 : Value} {rest : List Value} {q : am_M} {y : Nat} (hc : am_code mid = c) (hf : am_find c pc = some (.invokevirtual ix, r1, r2)) (hk : am_kind (.invokevirtual ix) r1 = 2) (hq : at_tab[r1]? = some q) (hn : q.2.2.2.2.1 = 2) (hcat : am_cat rest ≤ 8) (hml : (am_args [.ref a, x1]).length ≤ q.2.2.1) (ha : h.1[a]? = some (q.2.2.2.2.2.1, nn)) (ct : Rn d r1 0 (am_ent q.2.2.1 [.ref a, x1]) [] h (Ret h (some (.ref y)))) (k : Rn (d + 1) mid (pc + 3) l (.ref y :: rest) h Q) : Rn (d + 1) mid pc l (x1 :: .ref a :: rest) h Q := Rn.cV2 hc hf hk hq hn hcat hml ha ct (fun v h' z => by obtain ⟨rfl, rfl⟩ := z; exact k)
theorem Rn.cV2N {ix : Nat} {a nn : Nat} {x1 : Value} {rest : List Value} {q : am_M} (hc : am_code mid = c) (hf : am_find c pc = some (.invokevirtual ix, r1, r2)) (hk : am_kind (.invokevirtual ix) r1 = 2) (hq : at_tab[r1]? = some q) (hn : q.2.2.2.2.1 = 2) (hcat : am_cat rest ≤ 8) (hml : (am_args [.ref a, x1]).length ≤ q.2.2.1) (ha : h.1[a]? = some (q.2.2.2.2.2.1, nn)) (ct : Rn d r1 0 (am_ent q.2.2.1 [.ref a, x1]) [] h (Ret h (none))) (k : Rn (d + 1) mid (pc + 3) l (rest) h Q) : Rn (d + 1) mid pc l (x1 :: .ref a :: rest) h Q := Rn.cV2 hc hf hk hq hn hcat hml ha ct (fun v h' z => by obtain ⟨rfl, rfl⟩ := z; exact k)
theorem Rn.cV3 {ix : Nat} {a nn : Nat} {x1 x2 : Value} {rest : List Value} {q : am_M} {Q1 : Option Value → am_H → Prop} (hc : am_code mid = c) (hf : am_find c pc = some (.invokevirtual ix, r1, r2)) (hk : am_kind (.invokevirtual ix) r1 = 2) (hq : at_tab[r1]? = some q) (hn : q.2.2.2.2.1 = 3) (hcat : am_cat rest ≤ 8) (hml : (am_args [.ref a, x1, x2]).length ≤ q.2.2.1) (ha : h.1[a]? = some (q.2.2.2.2.2.1, nn)) (ct : Rn d r1 0 (am_ent q.2.2.1 [.ref a, x1, x2]) [] h Q1) (k : ∀ v h', Q1 v h' → Rn (d + 1) mid (pc + 3) l (v.toList ++ rest) h' Q) : Rn (d + 1) mid pc l (x2 :: x1 :: .ref a :: rest) h Q := by
  refine Rn.call hc hf hk ?_ (ct.mono k)
  unfold am_call
  simp only [hq, hn]
  rw [decide_eq_true (show 3 ≤ (x2 :: x1 :: .ref a :: rest).length ∧ am_cat ((x2 :: x1 :: .ref a :: rest).drop 3) ≤ 8 ∧ (am_args ((x2 :: x1 :: .ref a :: rest).take 3).reverse).length ≤ q.2.2.1 from ⟨by simp only [List.length_cons]; omega, hcat, hml⟩)]
  have e : ((x2 :: x1 :: .ref a :: rest).take 3).reverse = [.ref a, x1, x2] := rfl
  simp only [e, ha, decide_true]
  rfl
theorem Rn.cV3I {ix : Nat} {a nn : Nat} {x1 x2 : Value} {rest : List Value} {q : am_M} {y : Int32} (hc : am_code mid = c) (hf : am_find c pc = some (.invokevirtual ix, r1, r2)) (hk : am_kind (.invokevirtual ix) r1 = 2) (hq : at_tab[r1]? = some q) (hn : q.2.2.2.2.1 = 3) (hcat : am_cat rest ≤ 8) (hml : (am_args [.ref a, x1, x2]).length ≤ q.2.2.1) (ha : h.1[a]? = some (q.2.2.2.2.2.1, nn)) (ct : Rn d r1 0 (am_ent q.2.2.1 [.ref a, x1, x2]) [] h (Ret h (some (.int y)))) (k : Rn (d + 1) mid (pc + 3) l (.int y :: rest) h Q) : Rn (d + 1) mid pc l (x2 :: x1 :: .ref a :: rest) h Q := Rn.cV3 hc hf hk hq hn hcat hml ha ct (fun v h' z => by obtain ⟨rfl, rfl⟩ := z; exact k)
theorem Rn.cV3L {ix : Nat} {a nn : Nat} {x1 x2 : Value} {rest : List Value} {q : am_M} {y : Int64} (hc : am_code mid = c) (hf : am_find c pc = some (.invokevirtual ix, r1, r2)) (hk : am_kind (.invokevirtual ix) r1 = 2) (hq : at_tab[r1]? = some q) (hn : q.2.2.2.2.1 = 3) (hcat : am_cat rest ≤ 8) (hml : (am_args [.ref a, x1, x2]).length ≤ q.2.2.1) (ha : h.1[a]? = some (q.2.2.2.2.2.1, nn)) (ct : Rn d r1 0 (am_ent q.2.2.1 [.ref a, x1, x2]) [] h (Ret h (some (.long y)))) (k : Rn (d + 1) mid (pc + 3) l (.long y :: rest) h Q) : Rn (d + 1) mid pc l (x2 :: x1 :: .ref a :: rest) h Q := Rn.cV3 hc hf hk hq hn hcat hml ha ct (fun v h' z => by obtain ⟨rfl, rfl⟩ := z; exact k)
theorem Rn.cV3A {ix : Nat} {a nn : Nat} {x1 x2 : Value} {rest : List Value} {q : am_M} {y : Nat} (hc : am_code mid = c) (hf : am_find c pc = some (.invokevirtual ix, r1, r2)) (hk : am_kind (.invokevirtual ix) r1 = 2) (hq : at_tab[r1]? = some q) (hn : q.2.2.2.2.1 = 3) (hcat : am_cat rest ≤ 8) (hml : (am_args [.ref a, x1, x2]).length ≤ q.2.2.1) (ha : h.1[a]? = some (q.2.2.2.2.2.1, nn)) (ct : Rn d r1 0 (am_ent q.2.2.1 [.ref a, x1, x2]) [] h (Ret h (some (.ref y)))) (k : Rn (d + 1) mid (pc + 3) l (.ref y :: rest) h Q) : Rn (d + 1) mid pc l (x2 :: x1 :: .ref a :: rest) h Q := Rn.cV3 hc hf hk hq hn hcat hml ha ct (fun v h' z => by obtain ⟨rfl, rfl⟩ := z; exact k)
theorem Rn.cV3N {ix : Nat} {a nn : Nat} {x1 x2 : Value} {rest : List Value} {q : am_M} (hc : am_code mid = c) (hf : am_find c pc = some (.invokevirtual ix, r1, r2)) (hk : am_kind (.invokevirtual ix) r1 = 2) (hq : at_tab[r1]? = some q) (hn : q.2.2.2.2.1 = 3) (hcat : am_cat rest ≤ 8) (hml : (am_args [.ref a, x1, x2]).length ≤ q.2.2.1) (ha : h.1[a]? = some (q.2.2.2.2.2.1, nn)) (ct : Rn d r1 0 (am_ent q.2.2.1 [.ref a, x1, x2]) [] h (Ret h (none))) (k : Rn (d + 1) mid (pc + 3) l (rest) h Q) : Rn (d + 1) mid pc l (x2 :: x1 :: .ref a :: rest) h Q := Rn.cV3 hc hf hk hq hn hcat hml ha ct (fun v h' z => by obtain ⟨rfl, rfl⟩ := z; exact k)
theorem Rn.cV4 {ix : Nat} {a nn : Nat} {x1 x2 x3 : Value} {rest : List Value} {q : am_M} {Q1 : Option Value → am_H → Prop} (hc : am_code mid = c) (hf : am_find c pc = some (.invokevirtual ix, r1, r2)) (hk : am_kind (.invokevirtual ix) r1 = 2) (hq : at_tab[r1]? = some q) (hn : q.2.2.2.2.1 = 4) (hcat : am_cat rest ≤ 8) (hml : (am_args [.ref a, x1, x2, x3]).length ≤ q.2.2.1) (ha : h.1[a]? = some (q.2.2.2.2.2.1, nn)) (ct : Rn d r1 0 (am_ent q.2.2.1 [.ref a, x1, x2, x3]) [] h Q1) (k : ∀ v h', Q1 v h' → Rn (d + 1) mid (pc + 3) l (v.toList ++ rest) h' Q) : Rn (d + 1) mid pc l (x3 :: x2 :: x1 :: .ref a :: rest) h Q := by
  refine Rn.call hc hf hk ?_ (ct.mono k)
  unfold am_call
  simp only [hq, hn]
  rw [decide_eq_true (show 4 ≤ (x3 :: x2 :: x1 :: .ref a :: rest).length ∧ am_cat ((x3 :: x2 :: x1 :: .ref a :: rest).drop 4) ≤ 8 ∧ (am_args ((x3 :: x2 :: x1 :: .ref a :: rest).take 4).reverse).length ≤ q.2.2.1 from ⟨by simp only [List.length_cons]; omega, hcat, hml⟩)]
  have e : ((x3 :: x2 :: x1 :: .ref a :: rest).take 4).reverse = [.ref a, x1, x2, x3] := rfl
  simp only [e, ha, decide_true]
  rfl
theorem Rn.cV4I {ix : Nat} {a nn : Nat} {x1 x2 x3 : Value} {rest : List Value} {q : am_M} {y : Int32} (hc : am_code mid = c) (hf : am_find c pc = some (.invokevirtual ix, r1, r2)) (hk : am_kind (.invokevirtual ix) r1 = 2) (hq : at_tab[r1]? = some q) (hn : q.2.2.2.2.1 = 4) (hcat : am_cat rest ≤ 8) (hml : (am_args [.ref a, x1, x2, x3]).length ≤ q.2.2.1) (ha : h.1[a]? = some (q.2.2.2.2.2.1, nn)) (ct : Rn d r1 0 (am_ent q.2.2.1 [.ref a, x1, x2, x3]) [] h (Ret h (some (.int y)))) (k : Rn (d + 1) mid (pc + 3) l (.int y :: rest) h Q) : Rn (d + 1) mid pc l (x3 :: x2 :: x1 :: .ref a :: rest) h Q := Rn.cV4 hc hf hk hq hn hcat hml ha ct (fun v h' z => by obtain ⟨rfl, rfl⟩ := z; exact k)
theorem Rn.cV4L {ix : Nat} {a nn : Nat} {x1 x2 x3 : Value} {rest : List Value} {q : am_M} {y : Int64} (hc : am_code mid = c) (hf : am_find c pc = some (.invokevirtual ix, r1, r2)) (hk : am_kind (.invokevirtual ix) r1 = 2) (hq : at_tab[r1]? = some q) (hn : q.2.2.2.2.1 = 4) (hcat : am_cat rest ≤ 8) (hml : (am_args [.ref a, x1, x2, x3]).length ≤ q.2.2.1) (ha : h.1[a]? = some (q.2.2.2.2.2.1, nn)) (ct : Rn d r1 0 (am_ent q.2.2.1 [.ref a, x1, x2, x3]) [] h (Ret h (some (.long y)))) (k : Rn (d + 1) mid (pc + 3) l (.long y :: rest) h Q) : Rn (d + 1) mid pc l (x3 :: x2 :: x1 :: .ref a :: rest) h Q := Rn.cV4 hc hf hk hq hn hcat hml ha ct (fun v h' z => by obtain ⟨rfl, rfl⟩ := z; exact k)
theorem Rn.cV4A {ix : Nat} {a nn : Nat} {x1 x2 x3 : Value} {rest : List Value} {q : am_M} {y : Nat} (hc : am_code mid = c) (hf : am_find c pc = some (.invokevirtual ix, r1, r2)) (hk : am_kind (.invokevirtual ix) r1 = 2) (hq : at_tab[r1]? = some q) (hn : q.2.2.2.2.1 = 4) (hcat : am_cat rest ≤ 8) (hml : (am_args [.ref a, x1, x2, x3]).length ≤ q.2.2.1) (ha : h.1[a]? = some (q.2.2.2.2.2.1, nn)) (ct : Rn d r1 0 (am_ent q.2.2.1 [.ref a, x1, x2, x3]) [] h (Ret h (some (.ref y)))) (k : Rn (d + 1) mid (pc + 3) l (.ref y :: rest) h Q) : Rn (d + 1) mid pc l (x3 :: x2 :: x1 :: .ref a :: rest) h Q := Rn.cV4 hc hf hk hq hn hcat hml ha ct (fun v h' z => by obtain ⟨rfl, rfl⟩ := z; exact k)
theorem Rn.cV4N {ix : Nat} {a nn : Nat} {x1 x2 x3 : Value} {rest : List Value} {q : am_M} (hc : am_code mid = c) (hf : am_find c pc = some (.invokevirtual ix, r1, r2)) (hk : am_kind (.invokevirtual ix) r1 = 2) (hq : at_tab[r1]? = some q) (hn : q.2.2.2.2.1 = 4) (hcat : am_cat rest ≤ 8) (hml : (am_args [.ref a, x1, x2, x3]).length ≤ q.2.2.1) (ha : h.1[a]? = some (q.2.2.2.2.2.1, nn)) (ct : Rn d r1 0 (am_ent q.2.2.1 [.ref a, x1, x2, x3]) [] h (Ret h (none))) (k : Rn (d + 1) mid (pc + 3) l (rest) h Q) : Rn (d + 1) mid pc l (x3 :: x2 :: x1 :: .ref a :: rest) h Q := Rn.cV4 hc hf hk hq hn hcat hml ha ct (fun v h' z => by obtain ⟨rfl, rfl⟩ := z; exact k)
theorem Rn.cV5 {ix : Nat} {a nn : Nat} {x1 x2 x3 x4 : Value} {rest : List Value} {q : am_M} {Q1 : Option Value → am_H → Prop} (hc : am_code mid = c) (hf : am_find c pc = some (.invokevirtual ix, r1, r2)) (hk : am_kind (.invokevirtual ix) r1 = 2) (hq : at_tab[r1]? = some q) (hn : q.2.2.2.2.1 = 5) (hcat : am_cat rest ≤ 8) (hml : (am_args [.ref a, x1, x2, x3, x4]).length ≤ q.2.2.1) (ha : h.1[a]? = some (q.2.2.2.2.2.1, nn)) (ct : Rn d r1 0 (am_ent q.2.2.1 [.ref a, x1, x2, x3, x4]) [] h Q1) (k : ∀ v h', Q1 v h' → Rn (d + 1) mid (pc + 3) l (v.toList ++ rest) h' Q) : Rn (d + 1) mid pc l (x4 :: x3 :: x2 :: x1 :: .ref a :: rest) h Q := by
  refine Rn.call hc hf hk ?_ (ct.mono k)
  unfold am_call
  simp only [hq, hn]
  rw [decide_eq_true (show 5 ≤ (x4 :: x3 :: x2 :: x1 :: .ref a :: rest).length ∧ am_cat ((x4 :: x3 :: x2 :: x1 :: .ref a :: rest).drop 5) ≤ 8 ∧ (am_args ((x4 :: x3 :: x2 :: x1 :: .ref a :: rest).take 5).reverse).length ≤ q.2.2.1 from ⟨by simp only [List.length_cons]; omega, hcat, hml⟩)]
  have e : ((x4 :: x3 :: x2 :: x1 :: .ref a :: rest).take 5).reverse = [.ref a, x1, x2, x3, x4] := rfl
  simp only [e, ha, decide_true]
  rfl
theorem Rn.cV5I {ix : Nat} {a nn : Nat} {x1 x2 x3 x4 : Value} {rest : List Value} {q : am_M} {y : Int32} (hc : am_code mid = c) (hf : am_find c pc = some (.invokevirtual ix, r1, r2)) (hk : am_kind (.invokevirtual ix) r1 = 2) (hq : at_tab[r1]? = some q) (hn : q.2.2.2.2.1 = 5) (hcat : am_cat rest ≤ 8) (hml : (am_args [.ref a, x1, x2, x3, x4]).length ≤ q.2.2.1) (ha : h.1[a]? = some (q.2.2.2.2.2.1, nn)) (ct : Rn d r1 0 (am_ent q.2.2.1 [.ref a, x1, x2, x3, x4]) [] h (Ret h (some (.int y)))) (k : Rn (d + 1) mid (pc + 3) l (.int y :: rest) h Q) : Rn (d + 1) mid pc l (x4 :: x3 :: x2 :: x1 :: .ref a :: rest) h Q := Rn.cV5 hc hf hk hq hn hcat hml ha ct (fun v h' z => by obtain ⟨rfl, rfl⟩ := z; exact k)
theorem Rn.cV5L {ix : Nat} {a nn : Nat} {x1 x2 x3 x4 : Value} {rest : List Value} {q : am_M} {y : Int64} (hc : am_code mid = c) (hf : am_find c pc = some (.invokevirtual ix, r1, r2)) (hk : am_kind (.invokevirtual ix) r1 = 2) (hq : at_tab[r1]? = some q) (hn : q.2.2.2.2.1 = 5) (hcat : am_cat rest ≤ 8) (hml : (am_args [.ref a, x1, x2, x3, x4]).length ≤ q.2.2.1) (ha : h.1[a]? = some (q.2.2.2.2.2.1, nn)) (ct : Rn d r1 0 (am_ent q.2.2.1 [.ref a, x1, x2, x3, x4]) [] h (Ret h (some (.long y)))) (k : Rn (d + 1) mid (pc + 3) l (.long y :: rest) h Q) : Rn (d + 1) mid pc l (x4 :: x3 :: x2 :: x1 :: .ref a :: rest) h Q := Rn.cV5 hc hf hk hq hn hcat hml ha ct (fun v h' z => by obtain ⟨rfl, rfl⟩ := z; exact k)
theorem Rn.cV5A {ix : Nat} {a nn : Nat} {x1 x2 x3 x4 : Value} {rest : List Value} {q : am_M} {y : Nat} (hc : am_code mid = c) (hf : am_find c pc = some (.invokevirtual ix, r1, r2)) (hk : am_kind (.invokevirtual ix) r1 = 2) (hq : at_tab[r1]? = some q) (hn : q.2.2.2.2.1 = 5) (hcat : am_cat rest ≤ 8) (hml : (am_args [.ref a, x1, x2, x3, x4]).length ≤ q.2.2.1) (ha : h.1[a]? = some (q.2.2.2.2.2.1, nn)) (ct : Rn d r1 0 (am_ent q.2.2.1 [.ref a, x1, x2, x3, x4]) [] h (Ret h (some (.ref y)))) (k : Rn (d + 1) mid (pc + 3) l (.ref y :: rest) h Q) : Rn (d + 1) mid pc l (x4 :: x3 :: x2 :: x1 :: .ref a :: rest) h Q := Rn.cV5 hc hf hk hq hn hcat hml ha ct (fun v h' z => by obtain ⟨rfl, rfl⟩ := z; exact k)
theorem Rn.cV5N {ix : Nat} {a nn : Nat} {x1 x2 x3 x4 : Value} {rest : List Value} {q : am_M} (hc : am_code mid = c) (hf : am_find c pc = some (.invokevirtual ix, r1, r2)) (hk : am_kind (.invokevirtual ix) r1 = 2) (hq : at_tab[r1]? = some q) (hn : q.2.2.2.2.1 = 5) (hcat : am_cat rest ≤ 8) (hml : (am_args [.ref a, x1, x2, x3, x4]).length ≤ q.2.2.1) (ha : h.1[a]? = some (q.2.2.2.2.2.1, nn)) (ct : Rn d r1 0 (am_ent q.2.2.1 [.ref a, x1, x2, x3, x4]) [] h (Ret h (none))) (k : Rn (d + 1) mid (pc + 3) l (rest) h Q) : Rn (d + 1) mid pc l (x4 :: x3 :: x2 :: x1 :: .ref a :: rest) h Q := Rn.cV5 hc hf hk hq hn hcat hml ha ct (fun v h' z => by obtain ⟨rfl, rfl⟩ := z; exact k)
theorem Rn.cV6 {ix : Nat} {a nn : Nat} {x1 x2 x3 x4 x5 : Value} {rest : List Value} {q : am_M} {Q1 : Option Value → am_H → Prop} (hc : am_code mid = c) (hf : am_find c pc = some (.invokevirtual ix, r1, r2)) (hk : am_kind (.invokevirtual ix) r1 = 2) (hq : at_tab[r1]? = some q) (hn : q.2.2.2.2.1 = 6) (hcat : am_cat rest ≤ 8) (hml : (am_args [.ref a, x1, x2, x3, x4, x5]).length ≤ q.2.2.1) (ha : h.1[a]? = some (q.2.2.2.2.2.1, nn)) (ct : Rn d r1 0 (am_ent q.2.2.1 [.ref a, x1, x2, x3, x4, x5]) [] h Q1) (k : ∀ v h', Q1 v h' → Rn (d + 1) mid (pc + 3) l (v.toList ++ rest) h' Q) : Rn (d + 1) mid pc l (x5 :: x4 :: x3 :: x2 :: x1 :: .ref a :: rest) h Q := by
  refine Rn.call hc hf hk ?_ (ct.mono k)
  unfold am_call
  simp only [hq, hn]
  rw [decide_eq_true (show 6 ≤ (x5 :: x4 :: x3 :: x2 :: x1 :: .ref a :: rest).length ∧ am_cat ((x5 :: x4 :: x3 :: x2 :: x1 :: .ref a :: rest).drop 6) ≤ 8 ∧ (am_args ((x5 :: x4 :: x3 :: x2 :: x1 :: .ref a :: rest).take 6).reverse).length ≤ q.2.2.1 from ⟨by simp only [List.length_cons]; omega, hcat, hml⟩)]
  have e : ((x5 :: x4 :: x3 :: x2 :: x1 :: .ref a :: rest).take 6).reverse = [.ref a, x1, x2, x3, x4, x5] := rfl
  simp only [e, ha, decide_true]
  rfl
theorem Rn.cV6I {ix : Nat} {a nn : Nat} {x1 x2 x3 x4 x5 : Value} {rest : List Value} {q : am_M} {y : Int32} (hc : am_code mid = c) (hf : am_find c pc = some (.invokevirtual ix, r1, r2)) (hk : am_kind (.invokevirtual ix) r1 = 2) (hq : at_tab[r1]? = some q) (hn : q.2.2.2.2.1 = 6) (hcat : am_cat rest ≤ 8) (hml : (am_args [.ref a, x1, x2, x3, x4, x5]).length ≤ q.2.2.1) (ha : h.1[a]? = some (q.2.2.2.2.2.1, nn)) (ct : Rn d r1 0 (am_ent q.2.2.1 [.ref a, x1, x2, x3, x4, x5]) [] h (Ret h (some (.int y)))) (k : Rn (d + 1) mid (pc + 3) l (.int y :: rest) h Q) : Rn (d + 1) mid pc l (x5 :: x4 :: x3 :: x2 :: x1 :: .ref a :: rest) h Q := Rn.cV6 hc hf hk hq hn hcat hml ha ct (fun v h' z => by obtain ⟨rfl, rfl⟩ := z; exact k)
theorem Rn.cV6L {ix : Nat} {a nn : Nat} {x1 x2 x3 x4 x5 : Value} {rest : List Value} {q : am_M} {y : Int64} (hc : am_code mid = c) (hf : am_find c pc = some (.invokevirtual ix, r1, r2)) (hk : am_kind (.invokevirtual ix) r1 = 2) (hq : at_tab[r1]? = some q) (hn : q.2.2.2.2.1 = 6) (hcat : am_cat rest ≤ 8) (hml : (am_args [.ref a, x1, x2, x3, x4, x5]).length ≤ q.2.2.1) (ha : h.1[a]? = some (q.2.2.2.2.2.1, nn)) (ct : Rn d r1 0 (am_ent q.2.2.1 [.ref a, x1, x2, x3, x4, x5]) [] h (Ret h (some (.long y)))) (k : Rn (d + 1) mid (pc + 3) l (.long y :: rest) h Q) : Rn (d + 1) mid pc l (x5 :: x4 :: x3 :: x2 :: x1 :: .ref a :: rest) h Q := Rn.cV6 hc hf hk hq hn hcat hml ha ct (fun v h' z => by obtain ⟨rfl, rfl⟩ := z; exact k)
theorem Rn.cV6A {ix : Nat} {a nn : Nat} {x1 x2 x3 x4 x5 : Value} {rest : List Value} {q : am_M} {y : Nat} (hc : am_code mid = c) (hf : am_find c pc = some (.invokevirtual ix, r1, r2)) (hk : am_kind (.invokevirtual ix) r1 = 2) (hq : at_tab[r1]? = some q) (hn : q.2.2.2.2.1 = 6) (hcat : am_cat rest ≤ 8) (hml : (am_args [.ref a, x1, x2, x3, x4, x5]).length ≤ q.2.2.1) (ha : h.1[a]? = some (q.2.2.2.2.2.1, nn)) (ct : Rn d r1 0 (am_ent q.2.2.1 [.ref a, x1, x2, x3, x4, x5]) [] h (Ret h (some (.ref y)))) (k : Rn (d + 1) mid (pc + 3) l (.ref y :: rest) h Q) : Rn (d + 1) mid pc l (x5 :: x4 :: x3 :: x2 :: x1 :: .ref a :: rest) h Q := Rn.cV6 hc hf hk hq hn hcat hml ha ct (fun v h' z => by obtain ⟨rfl, rfl⟩ := z; exact k)
theorem Rn.cV6N {ix : Nat} {a nn : Nat} {x1 x2 x3 x4 x5 : Value} {rest : List Value} {q : am_M} (hc : am_code mid = c) (hf : am_find c pc = some (.invokevirtual ix, r1, r2)) (hk : am_kind (.invokevirtual ix) r1 = 2) (hq : at_tab[r1]? = some q) (hn : q.2.2.2.2.1 = 6) (hcat : am_cat rest ≤ 8) (hml : (am_args [.ref a, x1, x2, x3, x4, x5]).length ≤ q.2.2.1) (ha : h.1[a]? = some (q.2.2.2.2.2.1, nn)) (ct : Rn d r1 0 (am_ent q.2.2.1 [.ref a, x1, x2, x3, x4, x5]) [] h (Ret h (none))) (k : Rn (d + 1) mid (pc + 3) l (rest) h Q) : Rn (d + 1) mid pc l (x5 :: x4 :: x3 :: x2 :: x1 :: .ref a :: rest) h Q := Rn.cV6 hc hf hk hq hn hcat hml ha ct (fun v h' z => by obtain ⟨rfl, rfl⟩ := z; exact k)
theorem Rn.cS1 {ix : Nat} {x0 : Value} {rest : List Value} {q : am_M} {Q1 : Option Value → am_H → Prop} (hc : am_code mid = c) (hf : am_find c pc = some (.invokestatic ix, r1, r2)) (hk : am_kind (.invokestatic ix) r1 = 2) (hq : at_tab[r1]? = some q) (hn : q.2.2.2.2.1 = 1) (hcat : am_cat rest ≤ 8) (hml : (am_args [x0]).length ≤ q.2.2.1) (ct : Rn d r1 0 (am_ent q.2.2.1 [x0]) [] h Q1) (k : ∀ v h', Q1 v h' → Rn (d + 1) mid (pc + 3) l (v.toList ++ rest) h' Q) : Rn (d + 1) mid pc l (x0 :: rest) h Q := by
  refine Rn.call hc hf hk ?_ (ct.mono k)
  unfold am_call
  simp only [hq, hn]
  rw [decide_eq_true (show 1 ≤ (x0 :: rest).length ∧ am_cat ((x0 :: rest).drop 1) ≤ 8 ∧ (am_args ((x0 :: rest).take 1).reverse).length ≤ q.2.2.1 from ⟨by simp only [List.length_cons]; omega, hcat, hml⟩)]
  rfl
theorem Rn.cS1I {ix : Nat} {x0 : Value} {rest : List Value} {q : am_M} {y : Int32} (hc : am_code mid = c) (hf : am_find c pc = some (.invokestatic ix, r1, r2)) (hk : am_kind (.invokestatic ix) r1 = 2) (hq : at_tab[r1]? = some q) (hn : q.2.2.2.2.1 = 1) (hcat : am_cat rest ≤ 8) (hml : (am_args [x0]).length ≤ q.2.2.1) (ct : Rn d r1 0 (am_ent q.2.2.1 [x0]) [] h (Ret h (some (.int y)))) (k : Rn (d + 1) mid (pc + 3) l (.int y :: rest) h Q) : Rn (d + 1) mid pc l (x0 :: rest) h Q := Rn.cS1 hc hf hk hq hn hcat hml ct (fun v h' z => by obtain ⟨rfl, rfl⟩ := z; exact k)
theorem Rn.cS1L {ix : Nat} {x0 : Value} {rest : List Value} {q : am_M} {y : Int64} (hc : am_code mid = c) (hf : am_find c pc = some (.invokestatic ix, r1, r2)) (hk : am_kind (.invokestatic ix) r1 = 2) (hq : at_tab[r1]? = some q) (hn : q.2.2.2.2.1 = 1) (hcat : am_cat rest ≤ 8) (hml : (am_args [x0]).length ≤ q.2.2.1) (ct : Rn d r1 0 (am_ent q.2.2.1 [x0]) [] h (Ret h (some (.long y)))) (k : Rn (d + 1) mid (pc + 3) l (.long y :: rest) h Q) : Rn (d + 1) mid pc l (x0 :: rest) h Q := Rn.cS1 hc hf hk hq hn hcat hml ct (fun v h' z => by obtain ⟨rfl, rfl⟩ := z; exact k)
theorem Rn.cS1A {ix : Nat} {x0 : Value} {rest : List Value} {q : am_M} {y : Nat} (hc : am_code mid = c) (hf : am_find c pc = some (.invokestatic ix, r1, r2)) (hk : am_kind (.invokestatic ix) r1 = 2) (hq : at_tab[r1]? = some q) (hn : q.2.2.2.2.1 = 1) (hcat : am_cat rest ≤ 8) (hml : (am_args [x0]).length ≤ q.2.2.1) (ct : Rn d r1 0 (am_ent q.2.2.1 [x0]) [] h (Ret h (some (.ref y)))) (k : Rn (d + 1) mid (pc + 3) l (.ref y :: rest) h Q) : Rn (d + 1) mid pc l (x0 :: rest) h Q := Rn.cS1 hc hf hk hq hn hcat hml ct (fun v h' z => by obtain ⟨rfl, rfl⟩ := z; exact k)
theorem Rn.cS1N {ix : Nat} {x0 : Value} {rest : List Value} {q : am_M} (hc : am_code mid = c) (hf : am_find c pc = some (.invokestatic ix, r1, r2)) (hk : am_kind (.invokestatic ix) r1 = 2) (hq : at_tab[r1]? = some q) (hn : q.2.2.2.2.1 = 1) (hcat : am_cat rest ≤ 8) (hml : (am_args [x0]).length ≤ q.2.2.1) (ct : Rn d r1 0 (am_ent q.2.2.1 [x0]) [] h (Ret h (none))) (k : Rn (d + 1) mid (pc + 3) l (rest) h Q) : Rn (d + 1) mid pc l (x0 :: rest) h Q := Rn.cS1 hc hf hk hq hn hcat hml ct (fun v h' z => by obtain ⟨rfl, rfl⟩ := z; exact k)
theorem Rn.cS2 {ix : Nat} {x0 x1 : Value} {rest : List Value} {q : am_M} {Q1 : Option Value → am_H → Prop} (hc : am_code mid = c) (hf : am_find c pc = some (.invokestatic ix, r1, r2)) (hk : am_kind (.invokestatic ix) r1 = 2) (hq : at_tab[r1]? = some q) (hn : q.2.2.2.2.1 = 2) (hcat : am_cat rest ≤ 8) (hml : (am_args [x0, x1]).length ≤ q.2.2.1) (ct : Rn d r1 0 (am_ent q.2.2.1 [x0, x1]) [] h Q1) (k : ∀ v h', Q1 v h' → Rn (d + 1) mid (pc + 3) l (v.toList ++ rest) h' Q) : Rn (d + 1) mid pc l (x1 :: x0 :: rest) h Q := by
  refine Rn.call hc hf hk ?_ (ct.mono k)
  unfold am_call
  simp only [hq, hn]
  rw [decide_eq_true (show 2 ≤ (x1 :: x0 :: rest).length ∧ am_cat ((x1 :: x0 :: rest).drop 2) ≤ 8 ∧ (am_args ((x1 :: x0 :: rest).take 2).reverse).length ≤ q.2.2.1 from ⟨by simp only [List.length_cons]; omega, hcat, hml⟩)]
  rfl
theorem Rn.cS2I {ix : Nat} {x0 x1 : Value} {rest : List Value} {q : am_M} {y : Int32} (hc : am_code mid = c) (hf : am_find c pc = some (.invokestatic ix, r1, r2)) (hk : am_kind (.invokestatic ix) r1 = 2) (hq : at_tab[r1]? = some q) (hn : q.2.2.2.2.1 = 2) (hcat : am_cat rest ≤ 8) (hml : (am_args [x0, x1]).length ≤ q.2.2.1) (ct : Rn d r1 0 (am_ent q.2.2.1 [x0, x1]) [] h (Ret h (some (.int y)))) (k : Rn (d + 1) mid (pc + 3) l (.int y :: rest) h Q) : Rn (d + 1) mid pc l (x1 :: x0 :: rest) h Q := Rn.cS2 hc hf hk hq hn hcat hml ct (fun v h' z => by obtain ⟨rfl, rfl⟩ := z; exact k)
theorem Rn.cS2L {ix : Nat} {x0 x1 : Value} {rest : List Value} {q : am_M} {y : Int64} (hc : am_code mid = c) (hf : am_find c pc = some (.invokestatic ix, r1, r2)) (hk : am_kind (.invokestatic ix) r1 = 2) (hq : at_tab[r1]? = some q) (hn : q.2.2.2.2.1 = 2) (hcat : am_cat rest ≤ 8) (hml : (am_args [x0, x1]).length ≤ q.2.2.1) (ct : Rn d r1 0 (am_ent q.2.2.1 [x0, x1]) [] h (Ret h (some (.long y)))) (k : Rn (d + 1) mid (pc + 3) l (.long y :: rest) h Q) : Rn (d + 1) mid pc l (x1 :: x0 :: rest) h Q := Rn.cS2 hc hf hk hq hn hcat hml ct (fun v h' z => by obtain ⟨rfl, rfl⟩ := z; exact k)
theorem Rn.cS2A {ix : Nat} {x0 x1 : Value} {rest : List Value} {q : am_M} {y : Nat} (hc : am_code mid = c) (hf : am_find c pc = some (.invokestatic ix, r1, r2)) (hk : am_kind (.invokestatic ix) r1 = 2) (hq : at_tab[r1]? = some q) (hn : q.2.2.2.2.1 = 2) (hcat : am_cat rest ≤ 8) (hml : (am_args [x0, x1]).length ≤ q.2.2.1) (ct : Rn d r1 0 (am_ent q.2.2.1 [x0, x1]) [] h (Ret h (some (.ref y)))) (k : Rn (d + 1) mid (pc + 3) l (.ref y :: rest) h Q) : Rn (d + 1) mid pc l (x1 :: x0 :: rest) h Q := Rn.cS2 hc hf hk hq hn hcat hml ct (fun v h' z => by obtain ⟨rfl, rfl⟩ := z; exact k)
theorem Rn.cS2N {ix : Nat} {x0 x1 : Value} {rest : List Value} {q : am_M} (hc : am_code mid = c) (hf : am_find c pc = some (.invokestatic ix, r1, r2)) (hk : am_kind (.invokestatic ix) r1 = 2) (hq : at_tab[r1]? = some q) (hn : q.2.2.2.2.1 = 2) (hcat : am_cat rest ≤ 8) (hml : (am_args [x0, x1]).length ≤ q.2.2.1) (ct : Rn d r1 0 (am_ent q.2.2.1 [x0, x1]) [] h (Ret h (none))) (k : Rn (d + 1) mid (pc + 3) l (rest) h Q) : Rn (d + 1) mid pc l (x1 :: x0 :: rest) h Q := Rn.cS2 hc hf hk hq hn hcat hml ct (fun v h' z => by obtain ⟨rfl, rfl⟩ := z; exact k)
theorem Rn.cS3 {ix : Nat} {x0 x1 x2 : Value} {rest : List Value} {q : am_M} {Q1 : Option Value → am_H → Prop} (hc : am_code mid = c) (hf : am_find c pc = some (.invokestatic ix, r1, r2)) (hk : am_kind (.invokestatic ix) r1 = 2) (hq : at_tab[r1]? = some q) (hn : q.2.2.2.2.1 = 3) (hcat : am_cat rest ≤ 8) (hml : (am_args [x0, x1, x2]).length ≤ q.2.2.1) (ct : Rn d r1 0 (am_ent q.2.2.1 [x0, x1, x2]) [] h Q1) (k : ∀ v h', Q1 v h' → Rn (d + 1) mid (pc + 3) l (v.toList ++ rest) h' Q) : Rn (d + 1) mid pc l (x2 :: x1 :: x0 :: rest) h Q := by
  refine Rn.call hc hf hk ?_ (ct.mono k)
  unfold am_call
  simp only [hq, hn]
  rw [decide_eq_true (show 3 ≤ (x2 :: x1 :: x0 :: rest).length ∧ am_cat ((x2 :: x1 :: x0 :: rest).drop 3) ≤ 8 ∧ (am_args ((x2 :: x1 :: x0 :: rest).take 3).reverse).length ≤ q.2.2.1 from ⟨by simp only [List.length_cons]; omega, hcat, hml⟩)]
  rfl
theorem Rn.cS3I {ix : Nat} {x0 x1 x2 : Value} {rest : List Value} {q : am_M} {y : Int32} (hc : am_code mid = c) (hf : am_find c pc = some (.invokestatic ix, r1, r2)) (hk : am_kind (.invokestatic ix) r1 = 2) (hq : at_tab[r1]? = some q) (hn : q.2.2.2.2.1 = 3) (hcat : am_cat rest ≤ 8) (hml : (am_args [x0, x1, x2]).length ≤ q.2.2.1) (ct : Rn d r1 0 (am_ent q.2.2.1 [x0, x1, x2]) [] h (Ret h (some (.int y)))) (k : Rn (d + 1) mid (pc + 3) l (.int y :: rest) h Q) : Rn (d + 1) mid pc l (x2 :: x1 :: x0 :: rest) h Q := Rn.cS3 hc hf hk hq hn hcat hml ct (fun v h' z => by obtain ⟨rfl, rfl⟩ := z; exact k)
theorem Rn.cS3L {ix : Nat} {x0 x1 x2 : Value} {rest : List Value} {q : am_M} {y : Int64} (hc : am_code mid = c) (hf : am_find c pc = some (.invokestatic ix, r1, r2)) (hk : am_kind (.invokestatic ix) r1 = 2) (hq : at_tab[r1]? = some q) (hn : q.2.2.2.2.1 = 3) (hcat : am_cat rest ≤ 8) (hml : (am_args [x0, x1, x2]).length ≤ q.2.2.1) (ct : Rn d r1 0 (am_ent q.2.2.1 [x0, x1, x2]) [] h (Ret h (some (.long y)))) (k : Rn (d + 1) mid (pc + 3) l (.long y :: rest) h Q) : Rn (d + 1) mid pc l (x2 :: x1 :: x0 :: rest) h Q := Rn.cS3 hc hf hk hq hn hcat hml ct (fun v h' z => by obtain ⟨rfl, rfl⟩ := z; exact k)
theorem Rn.cS3A {ix : Nat} {x0 x1 x2 : Value} {rest : List Value} {q : am_M} {y : Nat} (hc : am_code mid = c) (hf : am_find c pc = some (.invokestatic ix, r1, r2)) (hk : am_kind (.invokestatic ix) r1 = 2) (hq : at_tab[r1]? = some q) (hn : q.2.2.2.2.1 = 3) (hcat : am_cat rest ≤ 8) (hml : (am_args [x0, x1, x2]).length ≤ q.2.2.1) (ct : Rn d r1 0 (am_ent q.2.2.1 [x0, x1, x2]) [] h (Ret h (some (.ref y)))) (k : Rn (d + 1) mid (pc + 3) l (.ref y :: rest) h Q) : Rn (d + 1) mid pc l (x2 :: x1 :: x0 :: rest) h Q := Rn.cS3 hc hf hk hq hn hcat hml ct (fun v h' z => by obtain ⟨rfl, rfl⟩ := z; exact k)
theorem Rn.cS3N {ix : Nat} {x0 x1 x2 : Value} {rest : List Value} {q : am_M} (hc : am_code mid = c) (hf : am_find c pc = some (.invokestatic ix, r1, r2)) (hk : am_kind (.invokestatic ix) r1 = 2) (hq : at_tab[r1]? = some q) (hn : q.2.2.2.2.1 = 3) (hcat : am_cat rest ≤ 8) (hml : (am_args [x0, x1, x2]).length ≤ q.2.2.1) (ct : Rn d r1 0 (am_ent q.2.2.1 [x0, x1, x2]) [] h (Ret h (none))) (k : Rn (d + 1) mid (pc + 3) l (rest) h Q) : Rn (d + 1) mid pc l (x2 :: x1 :: x0 :: rest) h Q := Rn.cS3 hc hf hk hq hn hcat hml ct (fun v h' z => by obtain ⟨rfl, rfl⟩ := z; exact k)
theorem Rn.cS4 {ix : Nat} {x0 x1 x2 x3 : Value} {rest : List Value} {q : am_M} {Q1 : Option Value → am_H → Prop} (hc : am_code mid = c) (hf : am_find c pc = some (.invokestatic ix, r1, r2)) (hk : am_kind (.invokestatic ix) r1 = 2) (hq : at_tab[r1]? = some q) (hn : q.2.2.2.2.1 = 4) (hcat : am_cat rest ≤ 8) (hml : (am_args [x0, x1, x2, x3]).length ≤ q.2.2.1) (ct : Rn d r1 0 (am_ent q.2.2.1 [x0, x1, x2, x3]) [] h Q1) (k : ∀ v h', Q1 v h' → Rn (d + 1) mid (pc + 3) l (v.toList ++ rest) h' Q) : Rn (d + 1) mid pc l (x3 :: x2 :: x1 :: x0 :: rest) h Q := by
  refine Rn.call hc hf hk ?_ (ct.mono k)
  unfold am_call
  simp only [hq, hn]
  rw [decide_eq_true (show 4 ≤ (x3 :: x2 :: x1 :: x0 :: rest).length ∧ am_cat ((x3 :: x2 :: x1 :: x0 :: rest).drop 4) ≤ 8 ∧ (am_args ((x3 :: x2 :: x1 :: x0 :: rest).take 4).reverse).length ≤ q.2.2.1 from ⟨by simp only [List.length_cons]; omega, hcat, hml⟩)]
  rfl
theorem Rn.cS4I {ix : Nat} {x0 x1 x2 x3 : Value} {rest : List Value} {q : am_M} {y : Int32} (hc : am_code mid = c) (hf : am_find c pc = some (.invokestatic ix, r1, r2)) (hk : am_kind (.invokestatic ix) r1 = 2) (hq : at_tab[r1]? = some q) (hn : q.2.2.2.2.1 = 4) (hcat : am_cat rest ≤ 8) (hml : (am_args [x0, x1, x2, x3]).length ≤ q.2.2.1) (ct : Rn d r1 0 (am_ent q.2.2.1 [x0, x1, x2, x3]) [] h (Ret h (some (.int y)))) (k : Rn (d + 1) mid (pc + 3) l (.int y :: rest) h Q) : Rn (d + 1) mid pc l (x3 :: x2 :: x1 :: x0 :: rest) h Q := Rn.cS4 hc hf hk hq hn hcat hml ct (fun v h' z => by obtain ⟨rfl, rfl⟩ := z; exact k)
theorem Rn.cS4L {ix : Nat} {x0 x1 x2 x3 : Value} {rest : List Value} {q : am_M} {y : Int64} (hc : am_code mid = c) (hf : am_find c pc = some (.invokestatic ix, r1, r2)) (hk : am_kind (.invokestatic ix) r1 = 2) (hq : at_tab[r1]? = some q) (hn : q.2.2.2.2.1 = 4) (hcat : am_cat rest ≤ 8) (hml : (am_args [x0, x1, x2, x3]).length ≤ q.2.2.1) (ct : Rn d r1 0 (am_ent q.2.2.1 [x0, x1, x2, x3]) [] h (Ret h (some (.long y)))) (k : Rn (d + 1) mid (pc + 3) l (.long y :: rest) h Q) : Rn (d + 1) mid pc l (x3 :: x2 :: x1 :: x0 :: rest) h Q := Rn.cS4 hc hf hk hq hn hcat hml ct (fun v h' z => by obtain ⟨rfl, rfl⟩ := z; exact k)
theorem Rn.cS4A {ix : Nat} {x0 x1 x2 x3 : Value} {rest : List Value} {q : am_M} {y : Nat} (hc : am_code mid = c) (hf : am_find c pc = some (.invokestatic ix, r1, r2)) (hk : am_kind (.invokestatic ix) r1 = 2) (hq : at_tab[r1]? = some q) (hn : q.2.2.2.2.1 = 4) (hcat : am_cat rest ≤ 8) (hml : (am_args [x0, x1, x2, x3]).length ≤ q.2.2.1) (ct : Rn d r1 0 (am_ent q.2.2.1 [x0, x1, x2, x3]) [] h (Ret h (some (.ref y)))) (k : Rn (d + 1) mid (pc + 3) l (.ref y :: rest) h Q) : Rn (d + 1) mid pc l (x3 :: x2 :: x1 :: x0 :: rest) h Q := Rn.cS4 hc hf hk hq hn hcat hml ct (fun v h' z => by obtain ⟨rfl, rfl⟩ := z; exact k)
theorem Rn.cS4N {ix : Nat} {x0 x1 x2 x3 : Value} {rest : List Value} {q : am_M} (hc : am_code mid = c) (hf : am_find c pc = some (.invokestatic ix, r1, r2)) (hk : am_kind (.invokestatic ix) r1 = 2) (hq : at_tab[r1]? = some q) (hn : q.2.2.2.2.1 = 4) (hcat : am_cat rest ≤ 8) (hml : (am_args [x0, x1, x2, x3]).length ≤ q.2.2.1) (ct : Rn d r1 0 (am_ent q.2.2.1 [x0, x1, x2, x3]) [] h (Ret h (none))) (k : Rn (d + 1) mid (pc + 3) l (rest) h Q) : Rn (d + 1) mid pc l (x3 :: x2 :: x1 :: x0 :: rest) h Q := Rn.cS4 hc hf hk hq hn hcat hml ct (fun v h' z => by obtain ⟨rfl, rfl⟩ := z; exact k)
theorem Rn.cS5 {ix : Nat} {x0 x1 x2 x3 x4 : Value} {rest : List Value} {q : am_M} {Q1 : Option Value → am_H → Prop} (hc : am_code mid = c) (hf : am_find c pc = some (.invokestatic ix, r1, r2)) (hk : am_kind (.invokestatic ix) r1 = 2) (hq : at_tab[r1]? = some q) (hn : q.2.2.2.2.1 = 5) (hcat : am_cat rest ≤ 8) (hml : (am_args [x0, x1, x2, x3, x4]).length ≤ q.2.2.1) (ct : Rn d r1 0 (am_ent q.2.2.1 [x0, x1, x2, x3, x4]) [] h Q1) (k : ∀ v h', Q1 v h' → Rn (d + 1) mid (pc + 3) l (v.toList ++ rest) h' Q) : Rn (d + 1) mid pc l (x4 :: x3 :: x2 :: x1 :: x0 :: rest) h Q := by
  refine Rn.call hc hf hk ?_ (ct.mono k)
  unfold am_call
  simp only [hq, hn]
  rw [decide_eq_true (show 5 ≤ (x4 :: x3 :: x2 :: x1 :: x0 :: rest).length ∧ am_cat ((x4 :: x3 :: x2 :: x1 :: x0 :: rest).drop 5) ≤ 8 ∧ (am_args ((x4 :: x3 :: x2 :: x1 :: x0 :: rest).take 5).reverse).length ≤ q.2.2.1 from ⟨by simp only [List.length_cons]; omega, hcat, hml⟩)]
  rfl
theorem Rn.cS5I {ix : Nat} {x0 x1 x2 x3 x4 : Value} {rest : List Value} {q : am_M} {y : Int32} (hc : am_code mid = c) (hf : am_find c pc = some (.invokestatic ix, r1, r2)) (hk : am_kind (.invokestatic ix) r1 = 2) (hq : at_tab[r1]? = some q) (hn : q.2.2.2.2.1 = 5) (hcat : am_cat rest ≤ 8) (hml : (am_args [x0, x1, x2, x3, x4]).length ≤ q.2.2.1) (ct : Rn d r1 0 (am_ent q.2.2.1 [x0, x1, x2, x3, x4]) [] h (Ret h (some (.int y)))) (k : Rn (d + 1) mid (pc + 3) l (.int y :: rest) h Q) : Rn (d + 1) mid pc l (x4 :: x3 :: x2 :: x1 :: x0 :: rest) h Q := Rn.cS5 hc hf hk hq hn hcat hml ct (fun v h' z => by obtain ⟨rfl, rfl⟩ := z; exact k)
theorem Rn.cS5L {ix : Nat} {x0 x1 x2 x3 x4 : Value} {rest : List Value} {q : am_M} {y : Int64} (hc : am_code mid = c) (hf : am_find c pc = some (.invokestatic ix, r1, r2)) (hk : am_kind (.invokestatic ix) r1 = 2) (hq : at_tab[r1]? = some q) (hn : q.2.2.2.2.1 = 5) (hcat : am_cat rest ≤ 8) (hml : (am_args [x0, x1, x2, x3, x4]).length ≤ q.2.2.1) (ct : Rn d r1 0 (am_ent q.2.2.1 [x0, x1, x2, x3, x4]) [] h (Ret h (some (.long y)))) (k : Rn (d + 1) mid (pc + 3) l (.long y :: rest) h Q) : Rn (d + 1) mid pc l (x4 :: x3 :: x2 :: x1 :: x0 :: rest) h Q := Rn.cS5 hc hf hk hq hn hcat hml ct (fun v h' z => by obtain ⟨rfl, rfl⟩ := z; exact k)
theorem Rn.cS5A {ix : Nat} {x0 x1 x2 x3 x4 : Value} {rest : List Value} {q : am_M} {y : Nat} (hc : am_code mid = c) (hf : am_find c pc = some (.invokestatic ix, r1, r2)) (hk : am_kind (.invokestatic ix) r1 = 2) (hq : at_tab[r1]? = some q) (hn : q.2.2.2.2.1 = 5) (hcat : am_cat rest ≤ 8) (hml : (am_args [x0, x1, x2, x3, x4]).length ≤ q.2.2.1) (ct : Rn d r1 0 (am_ent q.2.2.1 [x0, x1, x2, x3, x4]) [] h (Ret h (some (.ref y)))) (k : Rn (d + 1) mid (pc + 3) l (.ref y :: rest) h Q) : Rn (d + 1) mid pc l (x4 :: x3 :: x2 :: x1 :: x0 :: rest) h Q := Rn.cS5 hc hf hk hq hn hcat hml ct (fun v h' z => by obtain ⟨rfl, rfl⟩ := z; exact k)
theorem Rn.cS5N {ix : Nat} {x0 x1 x2 x3 x4 : Value} {rest : List Value} {q : am_M} (hc : am_code mid = c) (hf : am_find c pc = some (.invokestatic ix, r1, r2)) (hk : am_kind (.invokestatic ix) r1 = 2) (hq : at_tab[r1]? = some q) (hn : q.2.2.2.2.1 = 5) (hcat : am_cat rest ≤ 8) (hml : (am_args [x0, x1, x2, x3, x4]).length ≤ q.2.2.1) (ct : Rn d r1 0 (am_ent q.2.2.1 [x0, x1, x2, x3, x4]) [] h (Ret h (none))) (k : Rn (d + 1) mid (pc + 3) l (rest) h Q) : Rn (d + 1) mid pc l (x4 :: x3 :: x2 :: x1 :: x0 :: rest) h Q := Rn.cS5 hc hf hk hq hn hcat hml ct (fun v h' z => by obtain ⟨rfl, rfl⟩ := z; exact k)
theorem Rn.cS6 {ix : Nat} {x0 x1 x2 x3 x4 x5 : Value} {rest : List Value} {q : am_M} {Q1 : Option Value → am_H → Prop} (hc : am_code mid = c) (hf : am_find c pc = some (.invokestatic ix, r1, r2)) (hk : am_kind (.invokestatic ix) r1 = 2) (hq : at_tab[r1]? = some q) (hn : q.2.2.2.2.1 = 6) (hcat : am_cat rest ≤ 8) (hml : (am_args [x0, x1, x2, x3, x4, x5]).length ≤ q.2.2.1) (ct : Rn d r1 0 (am_ent q.2.2.1 [x0, x1, x2, x3, x4, x5]) [] h Q1) (k : ∀ v h', Q1 v h' → Rn (d + 1) mid (pc + 3) l (v.toList ++ rest) h' Q) : Rn (d + 1) mid pc l (x5 :: x4 :: x3 :: x2 :: x1 :: x0 :: rest) h Q := by
  refine Rn.call hc hf hk ?_ (ct.mono k)
  unfold am_call
  simp only [hq, hn]
  rw [decide_eq_true (show 6 ≤ (x5 :: x4 :: x3 :: x2 :: x1 :: x0 :: rest).length ∧ am_cat ((x5 :: x4 :: x3 :: x2 :: x1 :: x0 :: rest).drop 6) ≤ 8 ∧ (am_args ((x5 :: x4 :: x3 :: x2 :: x1 :: x0 :: rest).take 6).reverse).length ≤ q.2.2.1 from ⟨by simp only [List.length_cons]; omega, hcat, hml⟩)]
  rfl
theorem Rn.cS6I {ix : Nat} {x0 x1 x2 x3 x4 x5 : Value} {rest : List Value} {q : am_M} {y : Int32} (hc : am_code mid = c) (hf : am_find c pc = some (.invokestatic ix, r1, r2)) (hk : am_kind (.invokestatic ix) r1 = 2) (hq : at_tab[r1]? = some q) (hn : q.2.2.2.2.1 = 6) (hcat : am_cat rest ≤ 8) (hml : (am_args [x0, x1, x2, x3, x4, x5]).length ≤ q.2.2.1) (ct : Rn d r1 0 (am_ent q.2.2.1 [x0, x1, x2, x3, x4, x5]) [] h (Ret h (some (.int y)))) (k : Rn (d + 1) mid (pc + 3) l (.int y :: rest) h Q) : Rn (d + 1) mid pc l (x5 :: x4 :: x3 :: x2 :: x1 :: x0 :: rest) h Q := Rn.cS6 hc hf hk hq hn hcat hml ct (fun v h' z => by obtain ⟨rfl, rfl⟩ := z; exact k)
theorem Rn.cS6L {ix : Nat} {x0 x1 x2 x3 x4 x5 : Value} {rest : List Value} {q : am_M} {y : Int64} (hc : am_code mid = c) (hf : am_find c pc = some (.invokestatic ix, r1, r2)) (hk : am_kind (.invokestatic ix) r1 = 2) (hq : at_tab[r1]? = some q) (hn : q.2.2.2.2.1 = 6) (hcat : am_cat rest ≤ 8) (hml : (am_args [x0, x1, x2, x3, x4, x5]).length ≤ q.2.2.1) (ct : Rn d r1 0 (am_ent q.2.2.1 [x0, x1, x2, x3, x4, x5]) [] h (Ret h (some (.long y)))) (k : Rn (d + 1) mid (pc + 3) l (.long y :: rest) h Q) : Rn (d + 1) mid pc l (x5 :: x4 :: x3 :: x2 :: x1 :: x0 :: rest) h Q := Rn.cS6 hc hf hk hq hn hcat hml ct (fun v h' z => by obtain ⟨rfl, rfl⟩ := z; exact k)
theorem Rn.cS6A {ix : Nat} {x0 x1 x2 x3 x4 x5 : Value} {rest : List Value} {q : am_M} {y : Nat} (hc : am_code mid = c) (hf : am_find c pc = some (.invokestatic ix, r1, r2)) (hk : am_kind (.invokestatic ix) r1 = 2) (hq : at_tab[r1]? = some q) (hn : q.2.2.2.2.1 = 6) (hcat : am_cat rest ≤ 8) (hml : (am_args [x0, x1, x2, x3, x4, x5]).length ≤ q.2.2.1) (ct : Rn d r1 0 (am_ent q.2.2.1 [x0, x1, x2, x3, x4, x5]) [] h (Ret h (some (.ref y)))) (k : Rn (d + 1) mid (pc + 3) l (.ref y :: rest) h Q) : Rn (d + 1) mid pc l (x5 :: x4 :: x3 :: x2 :: x1 :: x0 :: rest) h Q := Rn.cS6 hc hf hk hq hn hcat hml ct (fun v h' z => by obtain ⟨rfl, rfl⟩ := z; exact k)
theorem Rn.cS6N {ix : Nat} {x0 x1 x2 x3 x4 x5 : Value} {rest : List Value} {q : am_M} (hc : am_code mid = c) (hf : am_find c pc = some (.invokestatic ix, r1, r2)) (hk : am_kind (.invokestatic ix) r1 = 2) (hq : at_tab[r1]? = some q) (hn : q.2.2.2.2.1 = 6) (hcat : am_cat rest ≤ 8) (hml : (am_args [x0, x1, x2, x3, x4, x5]).length ≤ q.2.2.1) (ct : Rn d r1 0 (am_ent q.2.2.1 [x0, x1, x2, x3, x4, x5]) [] h (Ret h (none))) (k : Rn (d + 1) mid (pc + 3) l (rest) h Q) : Rn (d + 1) mid pc l (x5 :: x4 :: x3 :: x2 :: x1 :: x0 :: rest) h Q := Rn.cS6 hc hf hk hq hn hcat hml ct (fun v h' z => by obtain ⟨rfl, rfl⟩ := z; exact k)
theorem Rn.cI1 {ix : Nat} {a : Nat} {rest : List Value} {q : am_M} {Q1 : Option Value → am_H → Prop} (hc : am_code mid = c) (hf : am_find c pc = some (.invokespecial ix, r1, r2)) (hk : am_kind (.invokespecial ix) r1 = 2) (hq : at_tab[r1]? = some q) (hn : q.2.2.2.2.1 = 1) (hcat : am_cat rest ≤ 8) (hml : (am_args [.ref a]).length ≤ q.2.2.1) (ct : Rn d r1 0 (am_ent q.2.2.1 [.ref a]) [] h Q1) (k : ∀ v h', Q1 v h' → Rn (d + 1) mid (pc + 3) l (v.toList ++ rest) h' Q) : Rn (d + 1) mid pc l (.ref a :: rest) h Q := by
  refine Rn.call hc hf hk ?_ (ct.mono k)
  unfold am_call
  simp only [hq, hn]
  rw [decide_eq_true (show 1 ≤ (.ref a :: rest).length ∧ am_cat ((.ref a :: rest).drop 1) ≤ 8 ∧ (am_args ((.ref a :: rest).take 1).reverse).length ≤ q.2.2.1 from ⟨by simp only [List.length_cons]; omega, hcat, hml⟩)]
  rfl
theorem Rn.cI1I {ix : Nat} {a : Nat} {rest : List Value} {q : am_M} {y : Int32} (hc : am_code mid = c) (hf : am_find c pc = some (.invokespecial ix, r1, r2)) (hk : am_kind (.invokespecial ix) r1 = 2) (hq : at_tab[r1]? = some q) (hn : q.2.2.2.2.1 = 1) (hcat : am_cat rest ≤ 8) (hml : (am_args [.ref a]).length ≤ q.2.2.1) (ct : Rn d r1 0 (am_ent q.2.2.1 [.ref a]) [] h (Ret h (some (.int y)))) (k : Rn (d + 1) mid (pc + 3) l (.int y :: rest) h Q) : Rn (d + 1) mid pc l (.ref a :: rest) h Q := Rn.cI1 hc hf hk hq hn hcat hml ct (fun v h' z => by obtain ⟨rfl, rfl⟩ := z; exact k)
theorem Rn.cI1L {ix : Nat} {a : Nat} {rest : List Value} {q : am_M} {y : Int64} (hc : am_code mid = c) (hf : am_find c pc = some (.invokespecial ix, r1, r2)) (hk : am_kind (.invokespecial ix) r1 = 2) (hq : at_tab[r1]? = some q) (hn : q.2.2.2.2.1 = 1) (hcat : am_cat rest ≤ 8) (hml : (am_args [.ref a]).length ≤ q.2.2.1) (ct : Rn d r1 0 (am_ent q.2.2.1 [.ref a]) [] h (Ret h (some (.long y)))) (k : Rn (d + 1) mid (pc + 3) l (.long y :: rest) h Q) : Rn (d + 1) mid pc l (.ref a :: rest) h Q := Rn.cI1 hc hf hk hq hn hcat hml ct (fun v h' z => by obtain ⟨rfl, rfl⟩ := z; exact k)
theorem Rn.cI1A {ix : Nat} {a : Nat} {rest : List Value} {q : am_M} {y : Nat} (hc : am_code mid = c) (hf : am_find c pc = some (.invokespecial ix, r1, r2)) (hk : am_kind (.invokespecial ix) r1 = 2) (hq : at_tab[r1]? = some q) (hn : q.2.2.2.2.1 = 1) (hcat : am_cat rest ≤ 8) (hml : (am_args [.ref a]).length ≤ q.2.2.1) (ct : Rn d r1 0 (am_ent q.2.2.1 [.ref a]) [] h (Ret h (some (.ref y)))) (k : Rn (d + 1) mid (pc + 3) l (.ref y :: rest) h Q) : Rn (d + 1) mid pc l (.ref a :: rest) h Q := Rn.cI1 hc hf hk hq hn hcat hml ct (fun v h' z => by obtain ⟨rfl, rfl⟩ := z; exact k)
theorem Rn.cI1N {ix : Nat} {a : Nat} {rest : List Value} {q : am_M} (hc : am_code mid = c) (hf : am_find c pc = some (.invokespecial ix, r1, r2)) (hk : am_kind (.invokespecial ix) r1 = 2) (hq : at_tab[r1]? = some q) (hn : q.2.2.2.2.1 = 1) (hcat : am_cat rest ≤ 8) (hml : (am_args [.ref a]).length ≤ q.2.2.1) (ct : Rn d r1 0 (am_ent q.2.2.1 [.ref a]) [] h (Ret h (none))) (k : Rn (d + 1) mid (pc + 3) l (rest) h Q) : Rn (d + 1) mid pc l (.ref a :: rest) h Q := Rn.cI1 hc hf hk hq hn hcat hml ct (fun v h' z => by obtain ⟨rfl, rfl⟩ := z; exact k)
theorem Rn.cI2 {ix : Nat} {a : Nat} {x1 : Value} {rest : List Value} {q : am_M} {Q1 : Option Value → am_H → Prop} (hc : am_code mid = c) (hf : am_find c pc = some (.invokespecial ix, r1, r2)) (hk : am_kind (.invokespecial ix) r1 = 2) (hq : at_tab[r1]? = some q) (hn : q.2.2.2.2.1 = 2) (hcat : am_cat rest ≤ 8) (hml : (am_args [.ref a, x1]).length ≤ q.2.2.1) (ct : Rn d r1 0 (am_ent q.2.2.1 [.ref a, x1]) [] h Q1) (k : ∀ v h', Q1 v h' → Rn (d + 1) mid (pc + 3) l (v.toList ++ rest) h' Q) : Rn (d + 1) mid pc l (x1 :: .ref a :: rest) h Q := by
  refine Rn.call hc hf hk ?_ (ct.mono k)
  unfold am_call
  simp only [hq, hn]
  rw [decide_eq_true (show 2 ≤ (x1 :: .ref a :: rest).length ∧ am_cat ((x1 :: .ref a :: rest).drop 2) ≤ 8 ∧ (am_args ((x1 :: .ref a :: rest).take 2).reverse).length ≤ q.2.2.1 from ⟨by simp only [List.length_cons]; omega, hcat, hml⟩)]
  rfl
theorem Rn.cI2I {ix : Nat} {a : Nat} {x1 : Value} {rest : List Value} {q : am_M} {y : Int32} (hc : am_code mid = c) (hf : am_find c pc = some (.invokespecial ix, r1, r2)) (hk : am_kind (.invokespecial ix) r1 = 2) (hq : at_tab[r1]? = some q) (hn : q.2.2.2.2.1 = 2) (hcat : am_cat rest ≤ 8) (hml : (am_args [.ref a, x1]).length ≤ q.2.2.1) (ct : Rn d r1 0 (am_ent q.2.2.1 [.ref a, x1]) [] h (Ret h (some (.int y)))) (k : Rn (d + 1) mid (pc + 3) l (.int y :: rest) h Q) : Rn (d + 1) mid pc l (x1 :: .ref a :: rest) h Q := Rn.cI2 hc hf hk hq hn hcat hml ct (fun v h' z => by obtain ⟨rfl, rfl⟩ := z; exact k)
theorem Rn.cI2L {ix : Nat} {a : Nat} {x1 : Value} {rest : List Value} {q : am_M} {y : Int64} (hc : am_code mid = c) (hf : am_find c pc = some (.invokespecial ix, r1, r2)) (hk : am_kind (.invokespecial ix) r1 = 2) (hq : at_tab[r1]? = some q) (hn : q.2.2.2.2.1 = 2) (hcat : am_cat rest ≤ 8) (hml : (am_args [.ref a, x1]).length ≤ q.2.2.1) (ct : Rn d r1 0 (am_ent q.2.2.1 [.ref a, x1]) [] h (Ret h (some (.long y)))) (k : Rn (d + 1) mid (pc + 3) l (.long y :: rest) h Q) : Rn (d + 1) mid pc l (x1 :: .ref a :: rest) h Q := Rn.cI2 hc hf hk hq hn hcat hml ct (fun v h' z => by obtain ⟨rfl, rfl⟩ := z; exact k)
theorem Rn.cI2A {ix : Nat} {a : Nat} {x1 : Value} {rest : List Value} {q : am_M} {y : Nat} (hc : am_code mid = c) (hf : am_find c pc = some (.invokespecial ix, r1, r2)) (hk : am_kind (.invokespecial ix) r1 = 2) (hq : at_tab[r1]? = some q) (hn : q.2.2.2.2.1 = 2) (hcat : am_cat rest ≤ 8) (hml : (am_args [.ref a, x1]).length ≤ q.2.2.1) (ct : Rn d r1 0 (am_ent q.2.2.1 [.ref a, x1]) [] h (Ret h (some (.ref y)))) (k : Rn (d + 1) mid (pc + 3) l (.ref y :: rest) h Q) : Rn (d + 1) mid pc l (x1 :: .ref a :: rest) h Q := Rn.cI2 hc hf hk hq hn hcat hml ct (fun v h' z => by obtain ⟨rfl, rfl⟩ := z; exact k)
theorem Rn.cI2N {ix : Nat} {a : Nat} {x1 : Value} {rest : List Value} {q : am_M} (hc : am_code mid = c) (hf : am_find c pc = some (.invokespecial ix, r1, r2)) (hk : am_kind (.invokespecial ix) r1 = 2) (hq : at_tab[r1]? = some q) (hn : q.2.2.2.2.1 = 2) (hcat : am_cat rest ≤ 8) (hml : (am_args [.ref a, x1]).length ≤ q.2.2.1) (ct : Rn d r1 0 (am_ent q.2.2.1 [.ref a, x1]) [] h (Ret h (none))) (k : Rn (d + 1) mid (pc + 3) l (rest) h Q) : Rn (d + 1) mid pc l (x1 :: .ref a :: rest) h Q := Rn.cI2 hc hf hk hq hn hcat hml ct (fun v h' z => by obtain ⟨rfl, rfl⟩ := z; exact k)
theorem Rn.cI3 {ix : Nat} {a : Nat} {x1 x2 : Value} {rest : List Value} {q : am_M} {Q1 : Option Value → am_H → Prop} (hc : am_code mid = c) (hf : am_find c pc = some (.invokespecial ix, r1, r2)) (hk : am_kind (.invokespecial ix) r1 = 2) (hq : at_tab[r1]? = some q) (hn : q.2.2.2.2.1 = 3) (hcat : am_cat rest ≤ 8) (hml : (am_args [.ref a, x1, x2]).length ≤ q.2.2.1) (ct : Rn d r1 0 (am_ent q.2.2.1 [.ref a, x1, x2]) [] h Q1) (k : ∀ v h', Q1 v h' → Rn (d + 1) mid (pc + 3) l (v.toList ++ rest) h' Q) : Rn (d + 1) mid pc l (x2 :: x1 :: .ref a :: rest) h Q := by
  refine Rn.call hc hf hk ?_ (ct.mono k)
  unfold am_call
  simp only [hq, hn]
  rw [decide_eq_true (show 3 ≤ (x2 :: x1 :: .ref a :: rest).length ∧ am_cat ((x2 :: x1 :: .ref a :: rest).drop 3) ≤ 8 ∧ (am_args ((x2 :: x1 :: .ref a :: rest).take 3).reverse).length ≤ q.2.2.1 from ⟨by simp only [List.length_cons]; omega, hcat, hml⟩)]
  rfl
theorem Rn.cI3I {ix : Nat} {a : Nat} {x1 x2 : Value} {rest : List Value} {q : am_M} {y : Int32} (hc : am_code mid = c) (hf : am_find c pc = some (.invokespecial ix, r1, r2)) (hk : am_kind (.invokespecial ix) r1 = 2) (hq : at_tab[r1]? = some q) (hn : q.2.2.2.2.1 = 3) (hcat : am_cat rest ≤ 8) (hml : (am_args [.ref a, x1, x2]).length ≤ q.2.2.1) (ct : Rn d r1 0 (am_ent q.2.2.1 [.ref a, x1, x2]) [] h (Ret h (some (.int y)))) (k : Rn (d + 1) mid (pc + 3) l (.int y :: rest) h Q) : Rn (d + 1) mid pc l (x2 :: x1 :: .ref a :: rest) h Q := Rn.cI3 hc hf hk hq hn hcat hml ct (fun v h' z => by obtain ⟨rfl, rfl⟩ := z; exact k)
theorem Rn.cI3L {ix : Nat} {a : Nat} {x1 x2 : Value} {rest : List Value} {q : am_M} {y : Int64} (hc : am_code mid = c) (hf : am_find c pc = some (.invokespecial ix, r1, r2)) (hk : am_kind (.invokespecial ix) r1 = 2) (hq : at_tab[r1]? = some q) (hn : q.2.2.2.2.1 = 3) (hcat : am_cat rest ≤ 8) (hml : (am_args [.ref a, x1, x2]).length ≤ q.2.2.1) (ct : Rn d r1 0 (am_ent q.2.2.1 [.ref a, x1, x2]) [] h (Ret h (some (.long y)))) (k : Rn (d + 1) mid (pc + 3) l (.long y :: rest) h Q) : Rn (d + 1) mid pc l (x2 :: x1 :: .ref a :: rest) h Q := Rn.cI3 hc hf hk hq hn hcat hml ct (fun v h' z => by obtain ⟨rfl, rfl⟩ := z; exact k)
theorem Rn.cI3A {ix : Nat} {a : Nat} {x1 x2 : Value} {rest : List Value} {q : am_M} {y : Nat} (hc : am_code mid = c) (hf : am_find c pc = some (.invokespecial ix, r1, r2)) (hk : am_kind (.invokespecial ix) r1 = 2) (hq : at_tab[r1]? = some q) (hn : q.2.2.2.2.1 = 3) (hcat : am_cat rest ≤ 8) (hml : (am_args [.ref a, x1, x2]).length ≤ q.2.2.1) (ct : Rn d r1 0 (am_ent q.2.2.1 [.ref a, x1, x2]) [] h (Ret h (some (.ref y)))) (k : Rn (d + 1) mid (pc + 3) l (.ref y :: rest) h Q) : Rn (d + 1) mid pc l (x2 :: x1 :: .ref a :: rest) h Q := Rn.cI3 hc hf hk hq hn hcat hml ct (fun v h' z => by obtain ⟨rfl, rfl⟩ := z; exact k)
theorem Rn.cI3N {ix : Nat} {a : Nat} {x1 x2 : Value} {rest : List Value} {q : am_M} (hc : am_code mid = c) (hf : am_find c pc = some (.invokespecial ix, r1, r2)) (hk : am_kind (.invokespecial ix) r1 = 2) (hq : at_tab[r1]? = some q) (hn : q.2.2.2.2.1 = 3) (hcat : am_cat rest ≤ 8) (hml : (am_args [.ref a, x1, x2]).length ≤ q.2.2.1) (ct : Rn d r1 0 (am_ent q.2.2.1 [.ref a, x1, x2]) [] h (Ret h (none))) (k : Rn (d + 1) mid (pc + 3) l (rest) h Q) : Rn (d + 1) mid pc l (x2 :: x1 :: .ref a :: rest) h Q := Rn.cI3 hc hf hk hq hn hcat hml ct (fun v h' z => by obtain ⟨rfl, rfl⟩ := z; exact k)
theorem Rn.cI4 {ix : Nat} {a : Nat} {x1 x2 x3 : Value} {rest : List Value} {q : am_M} {Q1 : Option Value → am_H → Prop} (hc : am_code mid = c) (hf : am_find c pc = some (.invokespecial ix, r1, r2)) (hk : am_kind (.invokespecial ix) r1 = 2) (hq : at_tab[r1]? = some q) (hn : q.2.2.2.2.1 = 4) (hcat : am_cat rest ≤ 8) (hml : (am_args [.ref a, x1, x2, x3]).length ≤ q.2.2.1) (ct : Rn d r1 0 (am_ent q.2.2.1 [.ref a, x1, x2, x3]) [] h Q1) (k : ∀ v h', Q1 v h' → Rn (d + 1) mid (pc + 3) l (v.toList ++ rest) h' Q) : Rn (d + 1) mid pc l (x3 :: x2 :: x1 :: .ref a :: rest) h Q := by
  refine Rn.call hc hf hk ?_ (ct.mono k)
  unfold am_call
  simp only [hq, hn]
  rw [decide_eq_true (show 4 ≤ (x3 :: x2 :: x1 :: .ref a :: rest).length ∧ am_cat ((x3 :: x2 :: x1 :: .ref a :: rest).drop 4) ≤ 8 ∧ (am_args ((x3 :: x2 :: x1 :: .ref a :: rest).take 4).reverse).length ≤ q.2.2.1 from ⟨by simp only [List.length_cons]; omega, hcat, hml⟩)]
  rfl
theorem Rn.cI4I {ix : Nat} {a : Nat} {x1 x2 x3 : Value} {rest : List Value} {q : am_M} {y : Int32} (hc : am_code mid = c) (hf : am_find c pc = some (.invokespecial ix, r1, r2)) (hk : am_kind (.invokespecial ix) r1 = 2) (hq : at_tab[r1]? = some q) (hn : q.2.2.2.2.1 = 4) (hcat : am_cat rest ≤ 8) (hml : (am_args [.ref a, x1, x2, x3]).length ≤ q.2.2.1) (ct : Rn d r1 0 (am_ent q.2.2.1 [.ref a, x1, x2, x3]) [] h (Ret h (some (.int y)))) (k : Rn (d + 1) mid (pc + 3) l (.int y :: rest) h Q) : Rn (d + 1) mid pc l (x3 :: x2 :: x1 :: .ref a :: rest) h Q := Rn.cI4 hc hf hk hq hn hcat hml ct (fun v h' z => by obtain ⟨rfl, rfl⟩ := z; exact k)
theorem Rn.cI4L {ix : Nat} {a : Nat} {x1 x2 x3 : Value} {rest : List Value} {q : am_M} {y : Int64} (hc : am_code mid = c) (hf : am_find c pc = some (.invokespecial ix, r1, r2)) (hk : am_kind (.invokespecial ix) r1 = 2) (hq : at_tab[r1]? = some q) (hn : q.2.2.2.2.1 = 4) (hcat : am_cat rest ≤ 8) (hml : (am_args [.ref a, x1, x2, x3]).length ≤ q.2.2.1) (ct : Rn d r1 0 (am_ent q.2.2.1 [.ref a, x1, x2, x3]) [] h (Ret h (some (.long y)))) (k : Rn (d + 1) mid (pc + 3) l (.long y :: rest) h Q) : Rn (d + 1) mid pc l (x3 :: x2 :: x1 :: .ref a :: rest) h Q := Rn.cI4 hc hf hk hq hn hcat hml ct (fun v h' z => by obtain ⟨rfl, rfl⟩ := z; exact k)
theorem Rn.cI4A {ix : Nat} {a : Nat} {x1 x2 x3 : Value} {rest : List Value} {q : am_M} {y : Nat} (hc : am_code mid = c) (hf : am_find c pc = some (.invokespecial ix, r1, r2)) (hk : am_kind (.invokespecial ix) r1 = 2) (hq : at_tab[r1]? = some q) (hn : q.2.2.2.2.1 = 4) (hcat : am_cat rest ≤ 8) (hml : (am_args [.ref a, x1, x2, x3]).length ≤ q.2.2.1) (ct : Rn d r1 0 (am_ent q.2.2.1 [.ref a, x1, x2, x3]) [] h (Ret h (some (.ref y)))) (k : Rn (d + 1) mid (pc + 3) l (.ref y :: rest) h Q) : Rn (d + 1) mid pc l (x3 :: x2 :: x1 :: .ref a :: rest) h Q := Rn.cI4 hc hf hk hq hn hcat hml ct (fun v h' z => by obtain ⟨rfl, rfl⟩ := z; exact k)
theorem Rn.cI4N {ix : Nat} {a : Nat} {x1 x2 x3 : Value} {rest : List Value} {q : am_M} (hc : am_code mid = c) (hf : am_find c pc = some (.invokespecial ix, r1, r2)) (hk : am_kind (.invokespecial ix) r1 = 2) (hq : at_tab[r1]? = some q) (hn : q.2.2.2.2.1 = 4) (hcat : am_cat rest ≤ 8) (hml : (am_args [.ref a, x1, x2, x3]).length ≤ q.2.2.1) (ct : Rn d r1 0 (am_ent q.2.2.1 [.ref a, x1, x2, x3]) [] h (Ret h (none))) (k : Rn (d + 1) mid (pc + 3) l (rest) h Q) : Rn (d + 1) mid pc l (x3 :: x2 :: x1 :: .ref a :: rest) h Q := Rn.cI4 hc hf hk hq hn hcat hml ct (fun v h' z => by obtain ⟨rfl, rfl⟩ := z; exact k)
theorem Rn.cI5 {ix : Nat} {a : Nat} {x1 x2 x3 x4 : Value} {rest : List Value} {q : am_M} {Q1 : Option Value → am_H → Prop} (hc : am_code mid = c) (hf : am_find c pc = some (.invokespecial ix, r1, r2)) (hk : am_kind (.invokespecial ix) r1 = 2) (hq : at_tab[r1]? = some q) (hn : q.2.2.2.2.1 = 5) (hcat : am_cat rest ≤ 8) (hml : (am_args [.ref a, x1, x2, x3, x4]).length ≤ q.2.2.1) (ct : Rn d r1 0 (am_ent q.2.2.1 [.ref a, x1, x2, x3, x4]) [] h Q1) (k : ∀ v h', Q1 v h' → Rn (d + 1) mid (pc + 3) l (v.toList ++ rest) h' Q) : Rn (d + 1) mid pc l (x4 :: x3 :: x2 :: x1 :: .ref a :: rest) h Q := by
  refine Rn.call hc hf hk ?_ (ct.mono k)
  unfold am_call
  simp only [hq, hn]
  rw [decide_eq_true (show 5 ≤ (x4 :: x3 :: x2 :: x1 :: .ref a :: rest).length ∧ am_cat ((x4 :: x3 :: x2 :: x1 :: .ref a :: rest).drop 5) ≤ 8 ∧ (am_args ((x4 :: x3 :: x2 :: x1 :: .ref a :: rest).take 5).reverse).length ≤ q.2.2.1 from ⟨by simp only [List.length_cons]; omega, hcat, hml⟩)]
  rfl
theorem Rn.cI5I {ix : Nat} {a : Nat} {x1 x2 x3 x4 : Value} {rest : List Value} {q : am_M} {y : Int32} (hc : am_code mid = c) (hf : am_find c pc = some (.invokespecial ix, r1, r2)) (hk : am_kind (.invokespecial ix) r1 = 2) (hq : at_tab[r1]? = some q) (hn : q.2.2.2.2.1 = 5) (hcat : am_cat rest ≤ 8) (hml : (am_args [.ref a, x1, x2, x3, x4]).length ≤ q.2.2.1) (ct : Rn d r1 0 (am_ent q.2.2.1 [.ref a, x1, x2, x3, x4]) [] h (Ret h (some (.int y)))) (k : Rn (d + 1) mid (pc + 3) l (.int y :: rest) h Q) : Rn (d + 1) mid pc l (x4 :: x3 :: x2 :: x1 :: .ref a :: rest) h Q := Rn.cI5 hc hf hk hq hn hcat hml ct (fun v h' z => by obtain ⟨rfl, rfl⟩ := z; exact k)
theorem Rn.cI5L {ix : Nat} {a : Nat} {x1 x2 x3 x4 : Value} {rest : List Value} {q : am_M} {y : Int64} (hc : am_code mid = c) (hf : am_find c pc = some (.invokespecial ix, r1, r2)) (hk : am_kind (.invokespecial ix) r1 = 2) (hq : at_tab[r1]? = some q) (hn : q.2.2.2.2.1 = 5) (hcat : am_cat rest ≤ 8) (hml : (am_args [.ref a, x1, x2, x3, x4]).length ≤ q.2.2.1) (ct : Rn d r1 0 (am_ent q.2.2.1 [.ref a, x1, x2, x3, x4]) [] h (Ret h (some (.long y)))) (k : Rn (d + 1) mid (pc + 3) l (.long y :: rest) h Q) : Rn (d + 1) mid pc l (x4 :: x3 :: x2 :: x1 :: .ref a :: rest) h Q := Rn.cI5 hc hf hk hq hn hcat hml ct (fun v h' z => by obtain ⟨rfl, rfl⟩ := z; exact k)
theorem Rn.cI5A {ix : Nat} {a : Nat} {x1 x2 x3 x4 : Value} {rest : List Value} {q : am_M} {y : Nat} (hc : am_code mid = c) (hf : am_find c pc = some (.invokespecial ix, r1, r2)) (hk : am_kind (.invokespecial ix) r1 = 2) (hq : at_tab[r1]? = some q) (hn : q.2.2.2.2.1 = 5) (hcat : am_cat rest ≤ 8) (hml : (am_args [.ref a, x1, x2, x3, x4]).length ≤ q.2.2.1) (ct : Rn d r1 0 (am_ent q.2.2.1 [.ref a, x1, x2, x3, x4]) [] h (Ret h (some (.ref y)))) (k : Rn (d + 1) mid (pc + 3) l (.ref y :: rest) h Q) : Rn (d + 1) mid pc l (x4 :: x3 :: x2 :: x1 :: .ref a :: rest) h Q := Rn.cI5 hc hf hk hq hn hcat hml ct (fun v h' z => by obtain ⟨rfl, rfl⟩ := z; exact k)
theorem Rn.cI5N {ix : Nat} {a : Nat} {x1 x2 x3 x4 : Value} {rest : List Value} {q : am_M} (hc : am_code mid = c) (hf : am_find c pc = some (.invokespecial ix, r1, r2)) (hk : am_kind (.invokespecial ix) r1 = 2) (hq : at_tab[r1]? = some q) (hn : q.2.2.2.2.1 = 5) (hcat : am_cat rest ≤ 8) (hml : (am_args [.ref a, x1, x2, x3, x4]).length ≤ q.2.2.1) (ct : Rn d r1 0 (am_ent q.2.2.1 [.ref a, x1, x2, x3, x4]) [] h (Ret h (none))) (k : Rn (d + 1) mid (pc + 3) l (rest) h Q) : Rn (d + 1) mid pc l (x4 :: x3 :: x2 :: x1 :: .ref a :: rest) h Q := Rn.cI5 hc hf hk hq hn hcat hml ct (fun v h' z => by obtain ⟨rfl, rfl⟩ := z; exact k)
theorem Rn.cI6 {ix : Nat} {a : Nat} {x1 x2 x3 x4 x5 : Value} {rest : List Value} {q : am_M} {Q1 : Option Value → am_H → Prop} (hc : am_code mid = c) (hf : am_find c pc = some (.invokespecial ix, r1, r2)) (hk : am_kind (.invokespecial ix) r1 = 2) (hq : at_tab[r1]? = some q) (hn : q.2.2.2.2.1 = 6) (hcat : am_cat rest ≤ 8) (hml : (am_args [.ref a, x1, x2, x3, x4, x5]).length ≤ q.2.2.1) (ct : Rn d r1 0 (am_ent q.2.2.1 [.ref a, x1, x2, x3, x4, x5]) [] h Q1) (k : ∀ v h', Q1 v h' → Rn (d + 1) mid (pc + 3) l (v.toList ++ rest) h' Q) : Rn (d + 1) mid pc l (x5 :: x4 :: x3 :: x2 :: x1 :: .ref a :: rest) h Q := by
  refine Rn.call hc hf hk ?_ (ct.mono k)
  unfold am_call
  simp only [hq, hn]
  rw [decide_eq_true (show 6 ≤ (x5 :: x4 :: x3 :: x2 :: x1 :: .ref a :: rest).length ∧ am_cat ((x5 :: x4 :: x3 :: x2 :: x1 :: .ref a :: rest).drop 6) ≤ 8 ∧ (am_args ((x5 :: x4 :: x3 :: x2 :: x1 :: .ref a :: rest).take 6).reverse).length ≤ q.2.2.1 from ⟨by simp only [List.length_cons]; omega, hcat, hml⟩)]
  rfl
theorem Rn.cI6I {ix : Nat} {a : Nat} {x1 x2 x3 x4 x5 : Value} {rest : List Value} {q : am_M} {y : Int32} (hc : am_code mid = c) (hf : am_find c pc = some (.invokespecial ix, r1, r2)) (hk : am_kind (.invokespecial ix) r1 = 2) (hq : at_tab[r1]? = some q) (hn : q.2.2.2.2.1 = 6) (hcat : am_cat rest ≤ 8) (hml : (am_args [.ref a, x1, x2, x3, x4, x5]).length ≤ q.2.2.1) (ct : Rn d r1 0 (am_ent q.2.2.1 [.ref a, x1, x2, x3, x4, x5]) [] h (Ret h (some (.int y)))) (k : Rn (d + 1) mid (pc + 3) l (.int y :: rest) h Q) : Rn (d + 1) mid pc l (x5 :: x4 :: x3 :: x2 :: x1 :: .ref a :: rest) h Q := Rn.cI6 hc hf hk hq hn hcat hml ct (fun v h' z => by obtain ⟨rfl, rfl⟩ := z; exact k)
theorem Rn.cI6L {ix : Nat} {a : Nat} {x1 x2 x3 x4 x5 : Value} {rest : List Value} {q : am_M} {y : Int64} (hc : am_code mid = c) (hf : am_find c pc = some (.invokespecial ix, r1, r2)) (hk : am_kind (.invokespecial ix) r1 = 2) (hq : at_tab[r1]? = some q) (hn : q.2.2.2.2.1 = 6) (hcat : am_cat rest ≤ 8) (hml : (am_args [.ref a, x1, x2, x3, x4, x5]).length ≤ q.2.2.1) (ct : Rn d r1 0 (am_ent q.2.2.1 [.ref a, x1, x2, x3, x4, x5]) [] h (Ret h (some (.long y)))) (k : Rn (d + 1) mid (pc + 3) l (.long y :: rest) h Q) : Rn (d + 1) mid pc l (x5 :: x4 :: x3 :: x2 :: x1 :: .ref a :: rest) h Q := Rn.cI6 hc hf hk hq hn hcat hml ct (fun v h' z => by obtain ⟨rfl, rfl⟩ := z; exact k)
theorem Rn.cI6A {ix : Nat} {a : Nat} {x1 x2 x3 x4 x5 : Value} {rest : List Value} {q : am_M} {y : Nat} (hc : am_code mid = c) (hf : am_find c pc = some (.invokespecial ix, r1, r2)) (hk : am_kind (.invokespecial ix) r1 = 2) (hq : at_tab[r1]? = some q) (hn : q.2.2.2.2.1 = 6) (hcat : am_cat rest ≤ 8) (hml : (am_args [.ref a, x1, x2, x3, x4, x5]).length ≤ q.2.2.1) (ct : Rn d r1 0 (am_ent q.2.2.1 [.ref a, x1, x2, x3, x4, x5]) [] h (Ret h (some (.ref y)))) (k : Rn (d + 1) mid (pc + 3) l (.ref y :: rest) h Q) : Rn (d + 1) mid pc l (x5 :: x4 :: x3 :: x2 :: x1 :: .ref a :: rest) h Q := Rn.cI6 hc hf hk hq hn hcat hml ct (fun v h' z => by obtain ⟨rfl, rfl⟩ := z; exact k)
theorem Rn.cI6N {ix : Nat} {a : Nat} {x1 x2 x3 x4 x5 : Value} {rest : List Value} {q : am_M} (hc : am_code mid = c) (hf : am_find c pc = some (.invokespecial ix, r1, r2)) (hk : am_kind (.invokespecial ix) r1 = 2) (hq : at_tab[r1]? = some q) (hn : q.2.2.2.2.1 = 6) (hcat : am_cat rest ≤ 8) (hml : (am_args [.ref a, x1, x2, x3, x4, x5]).length ≤ q.2.2.1) (ct : Rn d r1 0 (am_ent q.2.2.1 [.ref a, x1, x2, x3, x4, x5]) [] h (Ret h (none))) (k : Rn (d + 1) mid (pc + 3) l (rest) h Q) : Rn (d + 1) mid pc l (x5 :: x4 :: x3 :: x2 :: x1 :: .ref a :: rest) h Q := Rn.cI6 hc hf hk hq hn hcat hml ct (fun v h' z => by obtain ⟨rfl, rfl⟩ := z; exact k)
end Calls3
end
section
section R3
variable {d mid pc : Nat} {l : am_L} {r : List Value} {h : am_H} {Q : Option Value → am_H → Prop} {c : am_C} {r1 : Nat} {sh : List (Nat × Nat)} {fi : Nat → Nat → Int32} {fl : Nat → Nat → Int64} {fr : Nat → Nat → Option Nat}
theorem Rn.gets0 {ix : Nat} (hc : am_code mid = c) (hf : am_find c pc = some (.getstatic ix, r1, 0)) (k : Rn d mid (pc + 3) l (.int (nI r1) :: r) h Q) : Rn d mid pc l r h Q := Rn.go hc hf rfl rfl k
theorem Rn.gets1 {ix : Nat} (hc : am_code mid = c) (hf : am_find c pc = some (.getstatic ix, r1, 1)) (k : Rn d mid (pc + 3) l (.retAddr 0 :: r) h Q) : Rn d mid pc l r h Q := Rn.go hc hf rfl rfl k
theorem Rn.baload2 {r1 r2 a n : Nat} {x : Int32} (j : Nat) (hc : am_code mid = c) (hf : am_find c pc = some (.baload, r1, r2)) (ha : sh[a]? = some (902, n)) (hx : x = nI j) (hj : j < n) (hn : n < 2 ^ 31) (kk : Rn d mid (pc + 1) l (.int (fi a j) :: r) (sh, fi, fl, fr) Q) : Rn d mid pc l (.int x :: .ref a :: r) (sh, fi, fl, fr) Q := by
  subst hx
  refine Rn.go hc hf rfl ?_ kk
  have e : am_aty 902 = some .byte := rfl
  simp [am_step, am_ald, ha, e, am_inb hj hn, nI_clamp (show j < 2 ^ 31 by omega), am_rd]
end R3
theorem Rn.copy0 {d mid pc : Nat} {l : am_L} {r : List Value} {Q : Option Value → am_H → Prop} {c : am_C} {sh : List (Nat × Nat)} {fi : Nat → Nat → Int32} {fl : Nat → Nat → Int64} {fr : Nat → Nat → Option Nat} {ix r2 a b na nb : Nat} {n : Int32} (k : Nat) (hc : am_code mid = c) (hf : am_find c pc = some (.invokestatic ix, 1001, r2)) (ha : sh[a]? = some (102, na)) (hb : sh[b]? = some (102, nb)) (hne : a ≠ b) (hcat : am_cat r ≤ 8) (hn : n = nI k) (h1 : k ≤ na) (h2 : k ≤ nb) (hk : k < 2 ^ 31) (kk : Rn (d + 1) mid (pc + 3) l r (sh, fun i j => if i = b then va_cpy (fi a) (fi b) 0 0 k j else fi i j, fl, fr) Q) : Rn (d + 1) mid pc l (.int n :: .int 0 :: .ref b :: .int 0 :: .ref a :: r) (sh, fi, fl, fr) Q := by
  subst hn
  refine Rn.go hc hf rfl ?_ kk
  have e0 : (0 : Int32).toInt = 0 := by decide
  have e1 : (0 : Int32).toNatClampNeg = 0 := by decide
  show am_sp1 pc l (.int (nI k) :: .int 0 :: .ref b :: .int 0 :: .ref a :: r) (sh, fi, fl, fr) = _
  unfold am_sp1
  simp only [ha, hb]
  rw [decide_eq_true (show True ∧ True ∧ a ≠ b ∧ am_cat r ≤ 8 ∧ 0 ≤ (nI k).toInt ∧ 0 ≤ (0 : Int32).toInt ∧ 0 ≤ (0 : Int32).toInt ∧ (0 : Int32).toInt + (nI k).toInt ≤ na ∧ (0 : Int32).toInt + (nI k).toInt ≤ nb from ⟨trivial, trivial, hne, hcat, by rw [nI_toInt hk]; omega, by decide, by decide, by rw [nI_toInt hk, e0]; omega, by rw [nI_toInt hk, e0]; omega⟩)]
  simp only [e1, nI_clamp hk]
theorem Rn.min0 {d mid pc : Nat} {l : am_L} {r : List Value} {h : am_H} {Q : Option Value → am_H → Prop} {c : am_C} {ix r2 : Nat} {x y : Int32} (hc : am_code mid = c) (hf : am_find c pc = some (.invokestatic ix, 1002, r2)) (hcat : am_cat r ≤ 8) (kk : Rn (d + 1) mid (pc + 3) l (.int (if y < x then y else x) :: r) h Q) : Rn (d + 1) mid pc l (.int y :: .int x :: r) h Q := by
  refine Rn.go hc hf rfl ?_ kk
  show am_sp2 pc l (.int y :: .int x :: r) h = _
  unfold am_sp2
  simp only [decide_eq_true hcat]
theorem Rn.obj0 {d mid pc : Nat} {l : am_L} {r : List Value} {h : am_H} {Q : Option Value → am_H → Prop} {c : am_C} {ix r2 a : Nat} (hc : am_code mid = c) (hf : am_find c pc = some (.invokespecial ix, 1000, r2)) (hcat : am_cat r ≤ 8) (kk : Rn (d + 1) mid (pc + 3) l r h Q) : Rn (d + 1) mid pc l (.ref a :: r) h Q := by
  refine Rn.go hc hf rfl ?_ kk
  show am_sp0 pc l (.ref a :: r) h = _
  unfold am_sp0
  simp only [decide_eq_true hcat]
end
section
/-! THE CELLS behind both constructors, by program (wip/whole/gen/gen16.py) -/
def SHA : List (Nat × Nat) := [(0, 6), (1, 2), (102, 1200), (2, 7), (102, 1200), (3, 2), (101, 10), (405, 40), (100, 120)]
def SHK : List (Nat × Nat) := [(4, 15), (3, 2), (101, 8), (3, 2), (101, 4), (404, 4), (3, 2), (101, 6), (3, 2), (101, 6), (3, 2), (101, 6), (3, 2), (101, 6)]
def SHKs : Nat → List (Nat × Nat)
  | 0 => []
  | n + 1 => SHKs n ++ SHK
def SHB : List (Nat × Nat) := [(5, 4), (3, 2), (101, 8), (6, 4), (100, 600), (100, 600), (7, 5), (8, 5), (102, 120), (101, 120), (101, 120), (103, 120), (9, 2), (102, 130), (8, 5), (102, 120), (101, 120), (101, 120), (103, 120)]
def SHM : List (Nat × Nat) := [(10, 60), (100, 1200), (100, 1200), (100, 600), (100, 600), (100, 10), (100, 10), (100, 10), (100, 80), (100, 80), (100, 40), (100, 40), (100, 40), (100, 40), (100, 40), (100, 40), (100, 40), (103, 40), (100, 40), (100, 320), (100, 320), (100, 40), (100, 160), (100, 160), (100, 160), (100, 960), (100, 960), (100, 120), (100, 120), (100, 140), (100, 121), (100, 121), (100, 121), (100, 121), (100, 121), (100, 121), (100, 121), (100, 121), (100, 121), (100, 121), (100, 121), (100, 121), (100, 130), (103, 130)]
def SH (L : Nat) : List (Nat × Nat) := SH0 L ++ SHA ++ SHKs 40 ++ SHB ++ SHM
theorem SHKs_len : ∀ n, (SHKs n).length = 14 * n
  | 0 => rfl
  | n + 1 => by rw [SHKs, List.length_append, SHKs_len n]; show 14 * n + 14 = _; omega
theorem SHKs_at : ∀ (n i k : Nat), i < n → k < 14 → (SHKs n)[14 * i + k]? = SHK[k]?
  | 0, i, k, h, _ => by omega
  | n + 1, i, k, h, hk => by
    rw [SHKs]
    by_cases hi : i < n
    · rw [List.getElem?_append_left (by rw [SHKs_len]; omega)]
      exact SHKs_at n i k hi hk
    · have : i = n := by omega
      subst this
      rw [List.getElem?_append_right (by rw [SHKs_len]; omega), SHKs_len]
      congr 1
      omega
theorem SH_A (L : Nat) {a : Nat} (h : a < 25) : (SH L)[a]? = (SH0 L ++ SHA)[a]? := by
  unfold SH
  rw [List.append_assoc, List.append_assoc, List.getElem?_append_left (by show a < 25; exact h)]
theorem SH_K (L : Nat) {i k : Nat} (hi : i < 40) (hk : k < 14) : (SH L)[25 + 14 * i + k]? = SHK[k]? := by
  unfold SH
  have e1 : (SH0 L ++ SHA).length = 25 := rfl
  rw [List.append_assoc, List.append_assoc, List.getElem?_append_right (by rw [e1]; omega), e1, List.getElem?_append_left (by rw [SHKs_len]; omega), show 25 + 14 * i + k - 25 = 14 * i + k by omega]
  exact SHKs_at 40 i k hi hk
theorem SH_B (L : Nat) {k : Nat} : (SH L)[585 + k]? = (SHB ++ SHM)[k]? := by
  unfold SH
  have e1 : (SH0 L ++ SHA ++ SHKs 40).length = 585 := by rw [List.length_append, SHKs_len]; rfl
  rw [List.append_assoc, List.getElem?_append_right (by rw [e1]; omega), e1, show 585 + k - 585 = k by omega]
theorem s16 (L : Nat) : (SH L)[16]? = some (0, 6) := SH_A L (by decide)
theorem s17 (L : Nat) : (SH L)[17]? = some (1, 2) := SH_A L (by decide)
theorem s18 (L : Nat) : (SH L)[18]? = some (102, 1200) := SH_A L (by decide)
theorem s19 (L : Nat) : (SH L)[19]? = some (2, 7) := SH_A L (by decide)
theorem s20 (L : Nat) : (SH L)[20]? = some (102, 1200) := SH_A L (by decide)
theorem s21 (L : Nat) : (SH L)[21]? = some (3, 2) := SH_A L (by decide)
theorem s22 (L : Nat) : (SH L)[22]? = some (101, 10) := SH_A L (by decide)
theorem s23 (L : Nat) : (SH L)[23]? = some (405, 40) := SH_A L (by decide)
theorem s24 (L : Nat) : (SH L)[24]? = some (100, 120) := SH_A L (by decide)
theorem s585 (L : Nat) : (SH L)[585]? = some (5, 4) := SH_B L (k := 0)
theorem s586 (L : Nat) : (SH L)[586]? = some (3, 2) := SH_B L (k := 1)
theorem s587 (L : Nat) : (SH L)[587]? = some (101, 8) := SH_B L (k := 2)
theorem s588 (L : Nat) : (SH L)[588]? = some (6, 4) := SH_B L (k := 3)
theorem s589 (L : Nat) : (SH L)[589]? = some (100, 600) := SH_B L (k := 4)
theorem s590 (L : Nat) : (SH L)[590]? = some (100, 600) := SH_B L (k := 5)
theorem s591 (L : Nat) : (SH L)[591]? = some (7, 5) := SH_B L (k := 6)
theorem s592 (L : Nat) : (SH L)[592]? = some (8, 5) := SH_B L (k := 7)
theorem s593 (L : Nat) : (SH L)[593]? = some (102, 120) := SH_B L (k := 8)
theorem s594 (L : Nat) : (SH L)[594]? = some (101, 120) := SH_B L (k := 9)
theorem s595 (L : Nat) : (SH L)[595]? = some (101, 120) := SH_B L (k := 10)
theorem s596 (L : Nat) : (SH L)[596]? = some (103, 120) := SH_B L (k := 11)
theorem s597 (L : Nat) : (SH L)[597]? = some (9, 2) := SH_B L (k := 12)
theorem s598 (L : Nat) : (SH L)[598]? = some (102, 130) := SH_B L (k := 13)
theorem s599 (L : Nat) : (SH L)[599]? = some (8, 5) := SH_B L (k := 14)
theorem s600 (L : Nat) : (SH L)[600]? = some (102, 120) := SH_B L (k := 15)
theorem s601 (L : Nat) : (SH L)[601]? = some (101, 120) := SH_B L (k := 16)
theorem s602 (L : Nat) : (SH L)[602]? = some (101, 120) := SH_B L (k := 17)
theorem s603 (L : Nat) : (SH L)[603]? = some (103, 120) := SH_B L (k := 18)
theorem s604 (L : Nat) : (SH L)[604]? = some (10, 60) := SH_B L (k := 19)
theorem s605 (L : Nat) : (SH L)[605]? = some (100, 1200) := SH_B L (k := 20)
theorem s606 (L : Nat) : (SH L)[606]? = some (100, 1200) := SH_B L (k := 21)
theorem s607 (L : Nat) : (SH L)[607]? = some (100, 600) := SH_B L (k := 22)
theorem s608 (L : Nat) : (SH L)[608]? = some (100, 600) := SH_B L (k := 23)
theorem s609 (L : Nat) : (SH L)[609]? = some (100, 10) := SH_B L (k := 24)
theorem s610 (L : Nat) : (SH L)[610]? = some (100, 10) := SH_B L (k := 25)
theorem s611 (L : Nat) : (SH L)[611]? = some (100, 10) := SH_B L (k := 26)
theorem s612 (L : Nat) : (SH L)[612]? = some (100, 80) := SH_B L (k := 27)
theorem s613 (L : Nat) : (SH L)[613]? = some (100, 80) := SH_B L (k := 28)
theorem s614 (L : Nat) : (SH L)[614]? = some (100, 40) := SH_B L (k := 29)
theorem s615 (L : Nat) : (SH L)[615]? = some (100, 40) := SH_B L (k := 30)
theorem s616 (L : Nat) : (SH L)[616]? = some (100, 40) := SH_B L (k := 31)
theorem s617 (L : Nat) : (SH L)[617]? = some (100, 40) := SH_B L (k := 32)
theorem s618 (L : Nat) : (SH L)[618]? = some (100, 40) := SH_B L (k := 33)
theorem s619 (L : Nat) : (SH L)[619]? = some (100, 40) := SH_B L (k := 34)
theorem s620 (L : Nat) : (SH L)[620]? = some (100, 40) := SH_B L (k := 35)
theorem s621 (L : Nat) : (SH L)[621]? = some (103, 40) := SH_B L (k := 36)
theorem s622 (L : Nat) : (SH L)[622]? = some (100, 40) := SH_B L (k := 37)
theorem s623 (L : Nat) : (SH L)[623]? = some (100, 320) := SH_B L (k := 38)
theorem s624 (L : Nat) : (SH L)[624]? = some (100, 320) := SH_B L (k := 39)
theorem s625 (L : Nat) : (SH L)[625]? = some (100, 40) := SH_B L (k := 40)
theorem s626 (L : Nat) : (SH L)[626]? = some (100, 160) := SH_B L (k := 41)
theorem s627 (L : Nat) : (SH L)[627]? = some (100, 160) := SH_B L (k := 42)
theorem s628 (L : Nat) : (SH L)[628]? = some (100, 160) := SH_B L (k := 43)
theorem s629 (L : Nat) : (SH L)[629]? = some (100, 960) := SH_B L (k := 44)
theorem s630 (L : Nat) : (SH L)[630]? = some (100, 960) := SH_B L (k := 45)
theorem s631 (L : Nat) : (SH L)[631]? = some (100, 120) := SH_B L (k := 46)
theorem s632 (L : Nat) : (SH L)[632]? = some (100, 120) := SH_B L (k := 47)
theorem s633 (L : Nat) : (SH L)[633]? = some (100, 140) := SH_B L (k := 48)
theorem s634 (L : Nat) : (SH L)[634]? = some (100, 121) := SH_B L (k := 49)
theorem s635 (L : Nat) : (SH L)[635]? = some (100, 121) := SH_B L (k := 50)
theorem s636 (L : Nat) : (SH L)[636]? = some (100, 121) := SH_B L (k := 51)
theorem s637 (L : Nat) : (SH L)[637]? = some (100, 121) := SH_B L (k := 52)
theorem s638 (L : Nat) : (SH L)[638]? = some (100, 121) := SH_B L (k := 53)
theorem s639 (L : Nat) : (SH L)[639]? = some (100, 121) := SH_B L (k := 54)
theorem s640 (L : Nat) : (SH L)[640]? = some (100, 121) := SH_B L (k := 55)
theorem s641 (L : Nat) : (SH L)[641]? = some (100, 121) := SH_B L (k := 56)
theorem s642 (L : Nat) : (SH L)[642]? = some (100, 121) := SH_B L (k := 57)
theorem s643 (L : Nat) : (SH L)[643]? = some (100, 121) := SH_B L (k := 58)
theorem s644 (L : Nat) : (SH L)[644]? = some (100, 121) := SH_B L (k := 59)
theorem s645 (L : Nat) : (SH L)[645]? = some (100, 121) := SH_B L (k := 60)
theorem s646 (L : Nat) : (SH L)[646]? = some (100, 130) := SH_B L (k := 61)
theorem s647 (L : Nat) : (SH L)[647]? = some (103, 130) := SH_B L (k := 62)
theorem s0 (L : Nat) : (SH L)[0]? = some (900, L) := SH_A L (by decide)
theorem s1 (L : Nat) : (SH L)[1]? = some (901, 0) := SH_A L (by decide)
theorem s2 (L : Nat) : (SH L)[2]? = some (901, 0) := SH_A L (by decide)
theorem s3 (L : Nat) : (SH L)[3]? = some (901, 0) := SH_A L (by decide)
theorem s4 (L : Nat) : (SH L)[4]? = some (901, 0) := SH_A L (by decide)
theorem s5 (L : Nat) : (SH L)[5]? = some (901, 0) := SH_A L (by decide)
theorem s6 (L : Nat) : (SH L)[6]? = some (901, 0) := SH_A L (by decide)
theorem s7 (L : Nat) : (SH L)[7]? = some (901, 0) := SH_A L (by decide)
theorem s8 (L : Nat) : (SH L)[8]? = some (902, 5) := SH_A L (by decide)
theorem s9 (L : Nat) : (SH L)[9]? = some (902, 4) := SH_A L (by decide)
theorem s10 (L : Nat) : (SH L)[10]? = some (902, 3) := SH_A L (by decide)
theorem s11 (L : Nat) : (SH L)[11]? = some (902, 4) := SH_A L (by decide)
theorem s12 (L : Nat) : (SH L)[12]? = some (902, 4) := SH_A L (by decide)
theorem s13 (L : Nat) : (SH L)[13]? = some (902, 4) := SH_A L (by decide)
theorem s14 (L : Nat) : (SH L)[14]? = some (902, 5) := SH_A L (by decide)
/-- case number i, its rows and their codes -/
def CS (i : Nat) : Nat := 25 + 14 * i
theorem sk0 (L : Nat) {i : Nat} (hi : i < 40) : (SH L)[25 + 14 * i + 0]? = some (4, 15) := SH_K L hi (by decide)
theorem sk1 (L : Nat) {i : Nat} (hi : i < 40) : (SH L)[25 + 14 * i + 1]? = some (3, 2) := SH_K L hi (by decide)
theorem sk2 (L : Nat) {i : Nat} (hi : i < 40) : (SH L)[25 + 14 * i + 2]? = some (101, 8) := SH_K L hi (by decide)
theorem sk3 (L : Nat) {i : Nat} (hi : i < 40) : (SH L)[25 + 14 * i + 3]? = some (3, 2) := SH_K L hi (by decide)
theorem sk4 (L : Nat) {i : Nat} (hi : i < 40) : (SH L)[25 + 14 * i + 4]? = some (101, 4) := SH_K L hi (by decide)
theorem sk5 (L : Nat) {i : Nat} (hi : i < 40) : (SH L)[25 + 14 * i + 5]? = some (404, 4) := SH_K L hi (by decide)
theorem sk6 (L : Nat) {i : Nat} (hi : i < 40) : (SH L)[25 + 14 * i + 6]? = some (3, 2) := SH_K L hi (by decide)
theorem sk7 (L : Nat) {i : Nat} (hi : i < 40) : (SH L)[25 + 14 * i + 7]? = some (101, 6) := SH_K L hi (by decide)
theorem sk8 (L : Nat) {i : Nat} (hi : i < 40) : (SH L)[25 + 14 * i + 8]? = some (3, 2) := SH_K L hi (by decide)
theorem sk9 (L : Nat) {i : Nat} (hi : i < 40) : (SH L)[25 + 14 * i + 9]? = some (101, 6) := SH_K L hi (by decide)
theorem sk10 (L : Nat) {i : Nat} (hi : i < 40) : (SH L)[25 + 14 * i + 10]? = some (3, 2) := SH_K L hi (by decide)
theorem sk11 (L : Nat) {i : Nat} (hi : i < 40) : (SH L)[25 + 14 * i + 11]? = some (101, 6) := SH_K L hi (by decide)
theorem sk12 (L : Nat) {i : Nat} (hi : i < 40) : (SH L)[25 + 14 * i + 12]? = some (3, 2) := SH_K L hi (by decide)
theorem sk13 (L : Nat) {i : Nat} (hi : i < 40) : (SH L)[25 + 14 * i + 13]? = some (101, 6) := SH_K L hi (by decide)
theorem SH_length (L : Nat) : (SH L).length = 648 := by unfold SH; simp only [List.length_append, SHKs_len]; rfl
/-- where the fixed references lead; b: which filter is in force -/
def FRl : List (Nat × Nat × Nat) := [(17, 0, 18), (16, 0, 17), (19, 0, 20), (21, 0, 22), (19, 2, 21), (19, 3, 23), (19, 5, 24), (16, 1, 19), (586, 0, 587), (585, 2, 586), (585, 0, 19), (588, 0, 589), (588, 1, 590), (588, 3, 20), (585, 1, 588), (16, 2, 585), (591, 0, 17), (591, 1, 18), (592, 0, 593), (592, 1, 594), (592, 2, 595), (592, 3, 596), (16, 3, 591), (597, 0, 598), (16, 4, 597), (599, 0, 600), (599, 1, 601), (599, 2, 602), (599, 3, 603), (604, 2, 605), (604, 4, 606), (604, 6, 607), (604, 7, 608), (604, 9, 609), (604, 10, 610), (604, 11, 611), (604, 12, 612), (604, 13, 613), (604, 15, 614), (604, 16, 615), (604, 17, 616), (604, 18, 617), (604, 19, 618), (604, 20, 619), (604, 21, 620), (604, 22, 621), (604, 23, 622), (604, 24, 623), (604, 25, 624), (604, 26, 625), (604, 27, 626), (604, 28, 627), (604, 29, 628), (604, 30, 629), (604, 31, 630), (604, 34, 631), (604, 35, 632), (604, 37, 633), (604, 39, 634), (604, 41, 635), (604, 42, 636), (604, 43, 637), (604, 44, 638), (604, 45, 639), (604, 48, 640), (604, 49, 641), (604, 50, 642), (604, 51, 643), (604, 52, 644), (604, 53, 645), (604, 58, 646), (604, 59, 647)]
def FRk : List (Nat × Nat × Nat) := [(1, 0, 2), (0, 12, 1), (3, 0, 4), (0, 13, 3), (0, 14, 5), (6, 0, 7), (5, 0, 6), (8, 0, 9), (5, 1, 8), (10, 0, 11), (5, 2, 10), (12, 0, 13), (5, 3, 12)]
/-- the references are where they are to be; F: the filter in force, G: the other -/
def FRok (F G : Nat) (fr : Nat → Nat → Option Nat) : Prop := (∀ q ∈ FRl, fr q.1 q.2.1 = some q.2.2) ∧ (∀ i, i < 40 → ∀ q ∈ FRk, fr (25 + 14 * i + q.1) q.2.1 = some (25 + 14 * i + q.2.2)) ∧ (∀ i, i < 40 → fr 23 i = some (25 + 14 * i)) ∧ fr 591 4 = some G ∧ fr 16 5 = some F
theorem FRok.l {F G : Nat} {fr : Nat → Nat → Option Nat} (h : FRok F G fr) {a k v : Nat} (i : Nat) (hi : FRl[i]? = some (a, k, v)) : fr a k = some v := h.1 _ (List.mem_of_getElem? hi)
theorem FRok.k {F G : Nat} {fr : Nat → Nat → Option Nat} (h : FRok F G fr) {i a k v : Nat} (hi : i < 40) (j : Nat) (hj : FRk[j]? = some (a, k, v)) : fr (25 + 14 * i + a) k = some (25 + 14 * i + v) := h.2.1 i hi _ (List.mem_of_getElem? hj)
theorem k_0 : am_code 0 = cd_0 := rfl
theorem q_0 : at_tab[0]? = some mt_0 := rfl
theorem k_1 : am_code 1 = cd_1 := rfl
theorem q_1 : at_tab[1]? = some mt_1 := rfl
theorem k_2 : am_code 2 = cd_2 := rfl
theorem q_2 : at_tab[2]? = some mt_2 := rfl
theorem k_3 : am_code 3 = cd_3 := rfl
theorem q_3 : at_tab[3]? = some mt_3 := rfl
theorem k_4 : am_code 4 = cd_4 := rfl
theorem q_4 : at_tab[4]? = some mt_4 := rfl
theorem k_5 : am_code 5 = cd_5 := rfl
theorem q_5 : at_tab[5]? = some mt_5 := rfl
theorem k_6 : am_code 6 = cd_6 := rfl
theorem q_6 : at_tab[6]? = some mt_6 := rfl
theorem k_7 : am_code 7 = cd_7 := rfl
theorem q_7 : at_tab[7]? = some mt_7 := rfl
theorem k_8 : am_code 8 = cd_8 := rfl
theorem q_8 : at_tab[8]? = some mt_8 := rfl
theorem k_9 : am_code 9 = cd_9 := rfl
theorem q_9 : at_tab[9]? = some mt_9 := rfl
theorem k_10 : am_code 10 = cd_10 := rfl
theorem q_10 : at_tab[10]? = some mt_10 := rfl
theorem k_11 : am_code 11 = cd_11 := rfl
theorem q_11 : at_tab[11]? = some mt_11 := rfl
theorem k_12 : am_code 12 = cd_12 := rfl
theorem q_12 : at_tab[12]? = some mt_12 := rfl
theorem k_13 : am_code 13 = cd_13 := rfl
theorem q_13 : at_tab[13]? = some mt_13 := rfl
theorem k_14 : am_code 14 = cd_14 := rfl
theorem q_14 : at_tab[14]? = some mt_14 := rfl
theorem k_15 : am_code 15 = cd_15 := rfl
theorem q_15 : at_tab[15]? = some mt_15 := rfl
theorem k_16 : am_code 16 = cd_16 := rfl
theorem q_16 : at_tab[16]? = some mt_16 := rfl
theorem k_17 : am_code 17 = cd_17 := rfl
theorem q_17 : at_tab[17]? = some mt_17 := rfl
theorem k_18 : am_code 18 = cd_18 := rfl
theorem q_18 : at_tab[18]? = some mt_18 := rfl
theorem k_19 : am_code 19 = cd_19 := rfl
theorem q_19 : at_tab[19]? = some mt_19 := rfl
theorem k_20 : am_code 20 = cd_20 := rfl
theorem q_20 : at_tab[20]? = some mt_20 := rfl
theorem k_21 : am_code 21 = cd_21 := rfl
theorem q_21 : at_tab[21]? = some mt_21 := rfl
theorem k_22 : am_code 22 = cd_22 := rfl
theorem q_22 : at_tab[22]? = some mt_22 := rfl
theorem k_23 : am_code 23 = cd_23 := rfl
theorem q_23 : at_tab[23]? = some mt_23 := rfl
theorem k_24 : am_code 24 = cd_24 := rfl
theorem q_24 : at_tab[24]? = some mt_24 := rfl
theorem k_25 : am_code 25 = cd_25 := rfl
theorem q_25 : at_tab[25]? = some mt_25 := rfl
theorem k_26 : am_code 26 = cd_26 := rfl
theorem q_26 : at_tab[26]? = some mt_26 := rfl
theorem k_27 : am_code 27 = cd_27 := rfl
theorem q_27 : at_tab[27]? = some mt_27 := rfl
theorem k_28 : am_code 28 = cd_28 := rfl
theorem q_28 : at_tab[28]? = some mt_28 := rfl
theorem k_29 : am_code 29 = cd_29 := rfl
theorem q_29 : at_tab[29]? = some mt_29 := rfl
theorem k_30 : am_code 30 = cd_30 := rfl
theorem q_30 : at_tab[30]? = some mt_30 := rfl
theorem k_31 : am_code 31 = cd_31 := rfl
theorem q_31 : at_tab[31]? = some mt_31 := rfl
theorem k_32 : am_code 32 = cd_32 := rfl
theorem q_32 : at_tab[32]? = some mt_32 := rfl
theorem k_33 : am_code 33 = cd_33 := rfl
theorem q_33 : at_tab[33]? = some mt_33 := rfl
theorem k_34 : am_code 34 = cd_34 := rfl
theorem q_34 : at_tab[34]? = some mt_34 := rfl
theorem k_35 : am_code 35 = cd_35 := rfl
theorem q_35 : at_tab[35]? = some mt_35 := rfl
theorem k_36 : am_code 36 = cd_36 := rfl
theorem q_36 : at_tab[36]? = some mt_36 := rfl
theorem k_37 : am_code 37 = cd_37 := rfl
theorem q_37 : at_tab[37]? = some mt_37 := rfl
theorem k_38 : am_code 38 = cd_38 := rfl
theorem q_38 : at_tab[38]? = some mt_38 := rfl
theorem k_39 : am_code 39 = cd_39 := rfl
theorem q_39 : at_tab[39]? = some mt_39 := rfl
theorem k_40 : am_code 40 = cd_40 := rfl
theorem q_40 : at_tab[40]? = some mt_40 := rfl
theorem k_41 : am_code 41 = cd_41 := rfl
theorem q_41 : at_tab[41]? = some mt_41 := rfl
theorem k_42 : am_code 42 = cd_42 := rfl
theorem q_42 : at_tab[42]? = some mt_42 := rfl
theorem k_43 : am_code 43 = cd_43 := rfl
theorem q_43 : at_tab[43]? = some mt_43 := rfl
theorem k_44 : am_code 44 = cd_44 := rfl
theorem q_44 : at_tab[44]? = some mt_44 := rfl
theorem k_45 : am_code 45 = cd_45 := rfl
theorem q_45 : at_tab[45]? = some mt_45 := rfl
theorem k_46 : am_code 46 = cd_46 := rfl
theorem q_46 : at_tab[46]? = some mt_46 := rfl
theorem k_47 : am_code 47 = cd_47 := rfl
theorem q_47 : at_tab[47]? = some mt_47 := rfl
theorem k_48 : am_code 48 = cd_48 := rfl
theorem q_48 : at_tab[48]? = some mt_48 := rfl
theorem k_49 : am_code 49 = cd_49 := rfl
theorem q_49 : at_tab[49]? = some mt_49 := rfl
theorem k_50 : am_code 50 = cd_50 := rfl
theorem q_50 : at_tab[50]? = some mt_50 := rfl
theorem k_51 : am_code 51 = cd_51 := rfl
theorem q_51 : at_tab[51]? = some mt_51 := rfl
theorem k_52 : am_code 52 = cd_52 := rfl
theorem q_52 : at_tab[52]? = some mt_52 := rfl
theorem k_53 : am_code 53 = cd_53 := rfl
theorem q_53 : at_tab[53]? = some mt_53 := rfl
theorem k_54 : am_code 54 = cd_54 := rfl
theorem q_54 : at_tab[54]? = some mt_54 := rfl
theorem k_55 : am_code 55 = cd_55 := rfl
theorem q_55 : at_tab[55]? = some mt_55 := rfl
theorem k_56 : am_code 56 = cd_56 := rfl
theorem q_56 : at_tab[56]? = some mt_56 := rfl
theorem k_57 : am_code 57 = cd_57 := rfl
theorem q_57 : at_tab[57]? = some mt_57 := rfl
theorem k_58 : am_code 58 = cd_58 := rfl
theorem q_58 : at_tab[58]? = some mt_58 := rfl
theorem k_59 : am_code 59 = cd_59 := rfl
theorem q_59 : at_tab[59]? = some mt_59 := rfl
theorem k_60 : am_code 60 = cd_60 := rfl
theorem q_60 : at_tab[60]? = some mt_60 := rfl
theorem k_61 : am_code 61 = cd_61 := rfl
theorem q_61 : at_tab[61]? = some mt_61 := rfl
theorem k_62 : am_code 62 = cd_62 := rfl
theorem q_62 : at_tab[62]? = some mt_62 := rfl
theorem k_63 : am_code 63 = cd_63 := rfl
theorem q_63 : at_tab[63]? = some mt_63 := rfl
theorem k_64 : am_code 64 = cd_64 := rfl
theorem q_64 : at_tab[64]? = some mt_64 := rfl
theorem k_65 : am_code 65 = cd_65 := rfl
theorem q_65 : at_tab[65]? = some mt_65 := rfl
theorem k_66 : am_code 66 = cd_66 := rfl
theorem q_66 : at_tab[66]? = some mt_66 := rfl
theorem k_67 : am_code 67 = cd_67 := rfl
theorem q_67 : at_tab[67]? = some mt_67 := rfl
theorem k_68 : am_code 68 = cd_68 := rfl
theorem q_68 : at_tab[68]? = some mt_68 := rfl
theorem k_69 : am_code 69 = cd_69 := rfl
theorem q_69 : at_tab[69]? = some mt_69 := rfl
theorem k_70 : am_code 70 = cd_70 := rfl
theorem q_70 : at_tab[70]? = some mt_70 := rfl
theorem k_71 : am_code 71 = cd_71 := rfl
theorem q_71 : at_tab[71]? = some mt_71 := rfl
theorem k_72 : am_code 72 = cd_72 := rfl
theorem q_72 : at_tab[72]? = some mt_72 := rfl
theorem k_73 : am_code 73 = cd_73 := rfl
theorem q_73 : at_tab[73]? = some mt_73 := rfl
theorem k_74 : am_code 74 = cd_74 := rfl
theorem q_74 : at_tab[74]? = some mt_74 := rfl
theorem k_75 : am_code 75 = cd_75 := rfl
theorem q_75 : at_tab[75]? = some mt_75 := rfl
theorem k_76 : am_code 76 = cd_76 := rfl
theorem q_76 : at_tab[76]? = some mt_76 := rfl
theorem k_77 : am_code 77 = cd_77 := rfl
theorem q_77 : at_tab[77]? = some mt_77 := rfl
theorem k_78 : am_code 78 = cd_78 := rfl
theorem q_78 : at_tab[78]? = some mt_78 := rfl
theorem k_79 : am_code 79 = cd_79 := rfl
theorem q_79 : at_tab[79]? = some mt_79 := rfl
theorem k_80 : am_code 80 = cd_80 := rfl
theorem q_80 : at_tab[80]? = some mt_80 := rfl
theorem k_81 : am_code 81 = cd_81 := rfl
theorem q_81 : at_tab[81]? = some mt_81 := rfl
theorem k_82 : am_code 82 = cd_82 := rfl
theorem q_82 : at_tab[82]? = some mt_82 := rfl
theorem k_83 : am_code 83 = cd_83 := rfl
theorem q_83 : at_tab[83]? = some mt_83 := rfl
theorem k_84 : am_code 84 = cd_84 := rfl
theorem q_84 : at_tab[84]? = some mt_84 := rfl
theorem k_85 : am_code 85 = cd_85 := rfl
theorem q_85 : at_tab[85]? = some mt_85 := rfl
theorem k_86 : am_code 86 = cd_86 := rfl
theorem q_86 : at_tab[86]? = some mt_86 := rfl
theorem k_87 : am_code 87 = cd_87 := rfl
theorem q_87 : at_tab[87]? = some mt_87 := rfl
theorem k_88 : am_code 88 = cd_88 := rfl
theorem q_88 : at_tab[88]? = some mt_88 := rfl
theorem k_89 : am_code 89 = cd_89 := rfl
theorem q_89 : at_tab[89]? = some mt_89 := rfl
theorem k_90 : am_code 90 = cd_90 := rfl
theorem q_90 : at_tab[90]? = some mt_90 := rfl
theorem k_91 : am_code 91 = cd_91 := rfl
theorem q_91 : at_tab[91]? = some mt_91 := rfl
theorem k_92 : am_code 92 = cd_92 := rfl
theorem q_92 : at_tab[92]? = some mt_92 := rfl
theorem k_93 : am_code 93 = cd_93 := rfl
theorem q_93 : at_tab[93]? = some mt_93 := rfl
theorem k_94 : am_code 94 = cd_94 := rfl
theorem q_94 : at_tab[94]? = some mt_94 := rfl
theorem k_95 : am_code 95 = cd_95 := rfl
theorem q_95 : at_tab[95]? = some mt_95 := rfl
theorem k_96 : am_code 96 = cd_96 := rfl
theorem q_96 : at_tab[96]? = some mt_96 := rfl
theorem k_97 : am_code 97 = cd_97 := rfl
theorem q_97 : at_tab[97]? = some mt_97 := rfl
theorem k_98 : am_code 98 = cd_98 := rfl
theorem q_98 : at_tab[98]? = some mt_98 := rfl
theorem k_99 : am_code 99 = cd_99 := rfl
theorem q_99 : at_tab[99]? = some mt_99 := rfl
theorem k_100 : am_code 100 = cd_100 := rfl
theorem q_100 : at_tab[100]? = some mt_100 := rfl
theorem k_101 : am_code 101 = cd_101 := rfl
theorem q_101 : at_tab[101]? = some mt_101 := rfl
theorem k_102 : am_code 102 = cd_102 := rfl
theorem q_102 : at_tab[102]? = some mt_102 := rfl
theorem k_103 : am_code 103 = cd_103 := rfl
theorem q_103 : at_tab[103]? = some mt_103 := rfl
theorem k_104 : am_code 104 = cd_104 := rfl
theorem q_104 : at_tab[104]? = some mt_104 := rfl
theorem k_105 : am_code 105 = cd_105 := rfl
theorem q_105 : at_tab[105]? = some mt_105 := rfl
theorem k_106 : am_code 106 = cd_106 := rfl
theorem q_106 : at_tab[106]? = some mt_106 := rfl
theorem k_107 : am_code 107 = cd_107 := rfl
theorem q_107 : at_tab[107]? = some mt_107 := rfl
theorem k_108 : am_code 108 = cd_108 := rfl
theorem q_108 : at_tab[108]? = some mt_108 := rfl
theorem k_109 : am_code 109 = cd_109 := rfl
theorem q_109 : at_tab[109]? = some mt_109 := rfl
theorem k_110 : am_code 110 = cd_110 := rfl
theorem q_110 : at_tab[110]? = some mt_110 := rfl
theorem k_111 : am_code 111 = cd_111 := rfl
theorem q_111 : at_tab[111]? = some mt_111 := rfl
theorem k_112 : am_code 112 = cd_112 := rfl
theorem q_112 : at_tab[112]? = some mt_112 := rfl
theorem k_113 : am_code 113 = cd_113 := rfl
theorem q_113 : at_tab[113]? = some mt_113 := rfl
theorem k_114 : am_code 114 = cd_114 := rfl
theorem q_114 : at_tab[114]? = some mt_114 := rfl
theorem k_115 : am_code 115 = cd_115 := rfl
theorem q_115 : at_tab[115]? = some mt_115 := rfl
theorem k_116 : am_code 116 = cd_116 := rfl
theorem q_116 : at_tab[116]? = some mt_116 := rfl
theorem k_117 : am_code 117 = cd_117 := rfl
theorem q_117 : at_tab[117]? = some mt_117 := rfl
theorem k_118 : am_code 118 = cd_118 := rfl
theorem q_118 : at_tab[118]? = some mt_118 := rfl
theorem k_119 : am_code 119 = cd_119 := rfl
theorem q_119 : at_tab[119]? = some mt_119 := rfl
theorem k_120 : am_code 120 = cd_120 := rfl
theorem q_120 : at_tab[120]? = some mt_120 := rfl
theorem k_121 : am_code 121 = cd_121 := rfl
theorem q_121 : at_tab[121]? = some mt_121 := rfl
theorem k_122 : am_code 122 = cd_122 := rfl
theorem q_122 : at_tab[122]? = some mt_122 := rfl
theorem k_123 : am_code 123 = cd_123 := rfl
theorem q_123 : at_tab[123]? = some mt_123 := rfl
theorem k_124 : am_code 124 = cd_124 := rfl
theorem q_124 : at_tab[124]? = some mt_124 := rfl
theorem k_125 : am_code 125 = cd_125 := rfl
theorem q_125 : at_tab[125]? = some mt_125 := rfl
theorem k_126 : am_code 126 = cd_126 := rfl
theorem q_126 : at_tab[126]? = some mt_126 := rfl
theorem k_127 : am_code 127 = cd_127 := rfl
theorem q_127 : at_tab[127]? = some mt_127 := rfl
theorem k_128 : am_code 128 = cd_128 := rfl
theorem q_128 : at_tab[128]? = some mt_128 := rfl
theorem k_129 : am_code 129 = cd_129 := rfl
theorem q_129 : at_tab[129]? = some mt_129 := rfl
theorem k_130 : am_code 130 = cd_130 := rfl
theorem q_130 : at_tab[130]? = some mt_130 := rfl
theorem k_131 : am_code 131 = cd_131 := rfl
theorem q_131 : at_tab[131]? = some mt_131 := rfl
theorem k_132 : am_code 132 = cd_132 := rfl
theorem q_132 : at_tab[132]? = some mt_132 := rfl
theorem k_133 : am_code 133 = cd_133 := rfl
theorem q_133 : at_tab[133]? = some mt_133 := rfl
theorem k_134 : am_code 134 = cd_134 := rfl
theorem q_134 : at_tab[134]? = some mt_134 := rfl
theorem k_135 : am_code 135 = cd_135 := rfl
theorem q_135 : at_tab[135]? = some mt_135 := rfl
theorem k_136 : am_code 136 = cd_136 := rfl
theorem q_136 : at_tab[136]? = some mt_136 := rfl
theorem k_137 : am_code 137 = cd_137 := rfl
theorem q_137 : at_tab[137]? = some mt_137 := rfl
theorem k_138 : am_code 138 = cd_138 := rfl
theorem q_138 : at_tab[138]? = some mt_138 := rfl
theorem k_139 : am_code 139 = cd_139 := rfl
theorem q_139 : at_tab[139]? = some mt_139 := rfl
theorem k_140 : am_code 140 = cd_140 := rfl
theorem q_140 : at_tab[140]? = some mt_140 := rfl
theorem k_141 : am_code 141 = cd_141 := rfl
theorem q_141 : at_tab[141]? = some mt_141 := rfl
theorem k_142 : am_code 142 = cd_142 := rfl
theorem q_142 : at_tab[142]? = some mt_142 := rfl
theorem k_143 : am_code 143 = cd_143 := rfl
theorem q_143 : at_tab[143]? = some mt_143 := rfl
theorem k_144 : am_code 144 = cd_144 := rfl
theorem q_144 : at_tab[144]? = some mt_144 := rfl
theorem k_145 : am_code 145 = cd_145 := rfl
theorem q_145 : at_tab[145]? = some mt_145 := rfl
theorem k_146 : am_code 146 = cd_146 := rfl
theorem q_146 : at_tab[146]? = some mt_146 := rfl
end
section
/-! small rows for the walks -/
/-- an int that tells a truth -/
def bI (b : Bool) : Int32 := if b = true then 1 else 0
theorem bI_fit (b : Bool) : am_fit .boolean (bI b) = true := by cases b <;> rfl
theorem bI_0 (b : Bool) : bI b = 0 ↔ b = false := by cases b <;> simp [bI]
theorem c_lt {a : Nat} (k : Int32) (b : Nat) (hk : k = nI b) (ha : a < 2 ^ 31) (hb : b < 2 ^ 31) : nI a < k ↔ a < b := by rw [hk]; exact nI_ltI ha hb
theorem c_gt {a : Nat} (k : Int32) (b : Nat) (hk : k = nI b) (ha : a < 2 ^ 31) (hb : b < 2 ^ 31) : k < nI a ↔ b < a := by rw [hk]; exact nI_ltI hb ha
theorem c_le {a : Nat} (k : Int32) (b : Nat) (hk : k = nI b) (ha : a < 2 ^ 31) (hb : b < 2 ^ 31) : nI a ≤ k ↔ a ≤ b := by rw [hk]; exact nI_leI ha hb
theorem c_ge {a : Nat} (k : Int32) (b : Nat) (hk : k = nI b) (ha : a < 2 ^ 31) (hb : b < 2 ^ 31) : k ≤ nI a ↔ b ≤ a := by rw [hk]; exact nI_leI hb ha
theorem c_eq {a : Nat} (k : Int32) (b : Nat) (hk : k = nI b) (ha : a < 2 ^ 31) (hb : b < 2 ^ 31) : nI a = k ↔ a = b := by rw [hk]; exact nI_eq ha hb
theorem c_neg {a : Nat} (ha : a < 2 ^ 31) : ¬ nI a < 0 := nI_pos ha
theorem c_m1 {a : Nat} (ha : a < 2 ^ 31) : ¬ nI a = -1 := by
  intro h
  have := nI_toInt ha
  rw [h] at this
  simp at this
theorem c_sub {a : Nat} (k : Int32) (b : Nat) (hk : k = nI b) (h : b ≤ a) : nI a - k = nI (a - b) := by rw [hk]; exact pk_sub h
theorem c_add {a : Nat} (k : Int32) (b : Nat) (hk : k = nI b) : nI a + k = nI (a + b) := by rw [hk]; exact nI_add a b
theorem i2c_id {n : Nat} (h : n < 65536) : ((nI n).toUInt32 % 65536).toInt32 = nI n := by
  rw [pk_char, pk_tn (by omega), Nat.mod_eq_of_lt h]
theorem fit_c {n : Nat} (h : n < 65536) : am_fit .char (nI n) = true := by
  unfold am_fit
  rw [Bool.and_eq_true]
  exact ⟨decide_eq_true (nI_pos' (by omega)), decide_eq_true ((c_le 65535 65535 rfl (by omega) (by decide)).mpr (by omega))⟩
/-! letters and digits of names -/
def isL (c : Nat) : Bool := decide (97 ≤ c) && decide (c ≤ 122)
def isN (c : Nat) : Bool := isL c || (decide (48 ≤ c) && decide (c ≤ 57)) || decide (c = 95)
def dg (c : Nat) : Nat := if 97 ≤ c ∧ c ≤ 122 then c - 96 else if 48 ≤ c ∧ c ≤ 57 then c - 48 + 27 else if c = 95 then 37 else 0
theorem dg_lt (c : Nat) : dg c < 38 := by
  unfold dg
  split
  · omega
  · split
    · omega
    · split <;> omega
theorem dg_0 (c : Nat) : dg c = 0 ↔ isN c = false := by
  unfold dg isN isL
  by_cases h1 : 97 ≤ c ∧ c ≤ 122
  · simp [h1]; omega
  · by_cases h2 : 48 ≤ c ∧ c ≤ 57
    · rw [if_neg h1, if_pos h2]; simp [h2]
    · by_cases h3 : c = 95
      · subst h3; simp
      · rw [if_neg h1, if_neg h2, if_neg h3]
        simp only [true_iff, Bool.or_eq_false_iff, Bool.and_eq_false_iff, decide_eq_false_iff_not]
        omega
/-- the last digit's character -/
def chr (q : Nat) : Nat := if q ≤ 26 then 96 + q else if q = 37 then 95 else 21 + q
theorem chr_dg {c : Nat} (h : isN c = true) : chr (dg c) = c := by
  have h0 : ¬ dg c = 0 := fun q => by rw [dg_0, h] at q; cases q
  unfold dg chr at *
  by_cases h1 : 97 ≤ c ∧ c ≤ 122
  · rw [if_pos h1] at *; rw [if_pos (by omega)]; omega
  · rw [if_neg h1] at *
    by_cases h2 : 48 ≤ c ∧ c ≤ 57
    · rw [if_pos h2] at *; rw [if_neg (by omega), if_neg (by omega)]; omega
    · rw [if_neg h2] at *
      by_cases h3 : c = 95
      · subst h3; rfl
      · rw [if_neg h3] at h0; omega
/-- a word's number -/
def enc (w : List Nat) : Nat := w.foldl (fun a c => a * 38 + dg c) 0
theorem enc_app (w : List Nat) (c : Nat) : enc (w ++ [c]) = enc w * 38 + dg c := by unfold enc; rw [List.foldl_append]; rfl
theorem pow38 : 38 ^ 12 < 2 ^ 63 := by decide
theorem enc_lt : ∀ (w : List Nat), enc w < 38 ^ w.length := by
  intro w
  generalize hn : w.length = n
  induction n generalizing w with
  | zero =>
    have : w = [] := List.eq_nil_of_length_eq_zero hn
    subst this
    decide
  | succ n ih =>
    have hne : w ≠ [] := fun q => by rw [q] at hn; cases hn
    have e := List.dropLast_concat_getLast hne
    have hl : w.dropLast.length = n := by rw [List.length_dropLast, hn]; rfl
    rw [← e, enc_app]
    have := ih w.dropLast hl
    have := dg_lt (w.getLast hne)
    rw [Nat.pow_succ]
    omega
theorem enc_lt63 {w : List Nat} (h : w.length ≤ 12) : enc w < 2 ^ 63 := Nat.lt_of_lt_of_le (enc_lt w) (Nat.le_trans (Nat.pow_le_pow_right (by decide) h) (Nat.le_of_lt pow38))
/-- two words of name characters with one number are one -/
theorem enc_inj : ∀ (n : Nat) (w v : List Nat), w.length ≤ n → (∀ c ∈ w, isN c = true) → (∀ c ∈ v, isN c = true) → enc w = enc v → w = v := by
  intro n
  induction n with
  | zero =>
    intro w v hw h1 h2 e
    have : w = [] := List.eq_nil_of_length_eq_zero (by omega)
    subst this
    by_cases hv : v = []
    · rw [hv]
    · have e2 := List.dropLast_concat_getLast hv
      rw [← e2, enc_app] at e
      have : isN (v.getLast hv) = true := h2 _ (List.getLast_mem hv)
      have h0 : ¬ dg (v.getLast hv) = 0 := fun q => by rw [dg_0, this] at q; cases q
      have : enc [] = 0 := rfl
      omega
  | succ n ih =>
    intro w v hw h1 h2 e
    by_cases hwn : w = []
    · exact ih w v (by rw [hwn]; exact Nat.zero_le _) h1 h2 e
    · have e1 := List.dropLast_concat_getLast hwn
      have d1 : ¬ dg (w.getLast hwn) = 0 := fun q => by rw [dg_0, h1 _ (List.getLast_mem hwn)] at q; cases q
      by_cases hv : v = []
      · rw [hv, ← e1, enc_app] at e
        have : enc [] = 0 := rfl
        omega
      · have e2 := List.dropLast_concat_getLast hv
        have l1 := dg_lt (w.getLast hwn)
        have l2 := dg_lt (v.getLast hv)
        rw [← e1, ← e2, enc_app, enc_app] at e
        have ea : enc w.dropLast = enc v.dropLast := by omega
        have ed : dg (w.getLast hwn) = dg (v.getLast hv) := by omega
        have ec : w.getLast hwn = v.getLast hv := by rw [← chr_dg (h1 _ (List.getLast_mem hwn)), ← chr_dg (h2 _ (List.getLast_mem hv)), ed]
        have := ih w.dropLast v.dropLast (by rw [List.length_dropLast]; omega) (fun c hc => h1 c (List.dropLast_subset _ hc)) (fun c hc => h2 c (List.dropLast_subset _ hc)) ea
        rw [← e1, ← e2, this, ec]
/-- how many digits -/
def dlen : Nat → Nat → Nat
  | 0, _ => 0
  | k + 1, n => if n = 0 then 0 else dlen k (n / 38) + 1
theorem dlen_enc : ∀ (k : Nat) (w : List Nat), w.length ≤ k → (∀ c ∈ w, isN c = true) → dlen k (enc w) = w.length := by
  intro k
  induction k with
  | zero => intro w h _; show 0 = _; omega
  | succ k ih =>
    intro w h h1
    by_cases hwn : w = []
    · subst hwn; rfl
    · have e1 := List.dropLast_concat_getLast hwn
      have d1 : ¬ dg (w.getLast hwn) = 0 := fun q => by rw [dg_0, h1 _ (List.getLast_mem hwn)] at q; cases q
      have l1 := dg_lt (w.getLast hwn)
      have hl : 0 < w.length := List.length_pos_iff.mpr hwn
      have en : enc w = enc w.dropLast * 38 + dg (w.getLast hwn) := by rw [← enc_app, e1]
      show (if enc w = 0 then 0 else dlen k (enc w / 38) + 1) = _
      rw [if_neg (by omega), en, show (enc w.dropLast * 38 + dg (w.getLast hwn)) / 38 = enc w.dropLast by omega, ih w.dropLast (by rw [List.length_dropLast]; omega) (fun c hc => h1 c (List.dropLast_subset _ hc)), List.length_dropLast]
      omega
section N
variable {d L : Nat} {h : am_H}
theorem ct_isLetter {c : Nat} (hc : c < 65536) : Rn d 102 0 [some (.int (nI c))] [] h (Ret h (some (.int (bI (isL c))))) := by
  have no : isL c = false → Rn d 102 16 [some (.int (nI c))] [] h (Ret h (some (.int (bI (isL c))))) := by
    intro e
    refine Rn.iconst (0) k_102 rfl rfl ?_
    refine Rn.reti k_102 rfl q_102 rfl (rfl) ?_
    exact ⟨by rw [e]; rfl, rfl⟩
  refine Rn.iload_n k_102 rfl rfl ?_
  refine Rn.bipush (97) k_102 rfl rfl ?_
  refine Rn.icmp_lt 16 k_102 rfl rfl (fun h1 => ?_) (fun h1 => ?_)
  · rw [c_lt 97 97 rfl (by omega) (by decide)] at h1
    exact no (by simp [isL]; omega)
  · rw [c_lt 97 97 rfl (by omega) (by decide)] at h1
    refine Rn.iload_n k_102 rfl rfl ?_
    refine Rn.bipush (122) k_102 rfl rfl ?_
    refine Rn.icmp_gt 16 k_102 rfl rfl (fun h2 => ?_) (fun h2 => ?_)
    · rw [c_gt 122 122 rfl (by omega) (by decide)] at h2
      exact no (by simp [isL]; omega)
    · rw [c_gt 122 122 rfl (by omega) (by decide)] at h2
      refine Rn.iconst (1) k_102 rfl rfl ?_
      refine Rn.goto 17 k_102 rfl rfl ?_
      refine Rn.reti k_102 rfl q_102 rfl (rfl) ?_
      refine ⟨?_, rfl⟩
      rw [show isL c = true by simp [isL]; omega]
      rfl
theorem ct_digitOf {c : Nat} (hc : c < 65536) : Rn d 103 0 [some (.int (nI c))] [] h (Ret h (some (.int (nI (dg c))))) := by
  have third : ¬ (97 ≤ c ∧ c ≤ 122) → ¬ (48 ≤ c ∧ c ≤ 57) → Rn d 103 39 [some (.int (nI c))] [] h (Ret h (some (.int (nI (dg c))))) := by
    intro z1 z2
    refine Rn.iload_n k_103 rfl rfl ?_
    refine Rn.bipush (95) k_103 rfl rfl ?_
    refine Rn.icmp_ne 50 k_103 rfl rfl (fun h5 => ?_) (fun h5 => ?_)
    · have h5 : ¬ c = 95 := fun q => h5 ((c_eq 95 95 rfl (by omega) (by decide)).mpr q)
      refine Rn.iconst (0) k_103 rfl rfl ?_
      refine Rn.reti k_103 rfl q_103 rfl (rfl) ?_
      exact ⟨by rw [dg, if_neg z1, if_neg z2, if_neg h5]; rfl, rfl⟩
    · rw [c_eq 95 95 rfl (by omega) (by decide)] at h5
      refine Rn.bipush (37) k_103 rfl rfl ?_
      refine Rn.goto 51 k_103 rfl rfl ?_
      refine Rn.reti k_103 rfl q_103 rfl (rfl) ?_
      exact ⟨by rw [dg, if_neg z1, if_neg z2, if_pos h5]; rfl, rfl⟩
  have second : ¬ (97 ≤ c ∧ c ≤ 122) → Rn d 103 19 [some (.int (nI c))] [] h (Ret h (some (.int (nI (dg c))))) := by
    intro z1
    refine Rn.iload_n k_103 rfl rfl ?_
    refine Rn.bipush (48) k_103 rfl rfl ?_
    refine Rn.icmp_lt 39 k_103 rfl rfl (fun h3 => ?_) (fun h3 => ?_)
    · rw [c_lt 48 48 rfl (by omega) (by decide)] at h3
      exact third z1 (by omega)
    · rw [c_lt 48 48 rfl (by omega) (by decide)] at h3
      refine Rn.iload_n k_103 rfl rfl ?_
      refine Rn.bipush (57) k_103 rfl rfl ?_
      refine Rn.icmp_gt 39 k_103 rfl rfl (fun h4 => ?_) (fun h4 => ?_)
      · rw [c_gt 57 57 rfl (by omega) (by decide)] at h4
        exact third z1 (by omega)
      · rw [c_gt 57 57 rfl (by omega) (by decide)] at h4
        refine Rn.iload_n k_103 rfl rfl ?_
        refine Rn.bipush (48) k_103 rfl rfl ?_
        refine Rn.isub k_103 rfl ?_
        refine Rn.bipush (27) k_103 rfl rfl ?_
        refine Rn.iadd k_103 rfl ?_
        refine Rn.reti k_103 rfl q_103 rfl (rfl) ?_
        refine ⟨?_, rfl⟩
        rw [dg, if_neg z1, if_pos (by omega), c_sub 48 48 rfl (by omega), c_add 27 27 rfl]
  refine Rn.iload_n k_103 rfl rfl ?_
  refine Rn.bipush (97) k_103 rfl rfl ?_
  refine Rn.icmp_lt 19 k_103 rfl rfl (fun h1 => ?_) (fun h1 => ?_)
  · rw [c_lt 97 97 rfl (by omega) (by decide)] at h1
    exact second (by omega)
  · rw [c_lt 97 97 rfl (by omega) (by decide)] at h1
    refine Rn.iload_n k_103 rfl rfl ?_
    refine Rn.bipush (122) k_103 rfl rfl ?_
    refine Rn.icmp_gt 19 k_103 rfl rfl (fun h2 => ?_) (fun h2 => ?_)
    · rw [c_gt 122 122 rfl (by omega) (by decide)] at h2
      exact second (by omega)
    · rw [c_gt 122 122 rfl (by omega) (by decide)] at h2
      refine Rn.iload_n k_103 rfl rfl ?_
      refine Rn.bipush (97) k_103 rfl rfl ?_
      refine Rn.isub k_103 rfl ?_
      refine Rn.iconst (1) k_103 rfl rfl ?_
      refine Rn.iadd k_103 rfl ?_
      refine Rn.reti k_103 rfl q_103 rfl (rfl) ?_
      refine ⟨?_, rfl⟩
      rw [dg, if_pos (by omega), c_sub 97 97 rfl (by omega), c_add 1 1 rfl, show c - 97 + 1 = c - 96 by omega]
theorem ct_length {n : Nat} (hn : n < 2 ^ 63) (hk : dlen 12 n < 13) (hz : n < 38 ^ 12) : Rn d 104 0 [some (.long (lN n)), none, none, none, none] [] h (Ret h (some (.int (nI (dlen 12 n))))) := by
  have loop : ∀ (k m q : Nat), m < 38 ^ k → m < 2 ^ 63 → Rn d 104 4 [some (.long (lN n)), none, some (.int (nI q)), some (.long (lN m)), none] [] h (Ret h (some (.int (nI (q + dlen k m))))) := by
    intro k
    induction k with
    | zero =>
      intro m q hm hm2
      have : m = 0 := by simpa using hm
      subst this
      refine Rn.lload_n k_104 rfl rfl ?_
      refine Rn.lconst 0 k_104 rfl rfl ?_
      refine Rn.lcmp k_104 rfl ?_
      refine Rn.if_le 22 k_104 rfl rfl (fun h1 => ?_) (fun h1 => ?_)
      · refine Rn.iload_n k_104 rfl rfl ?_
        refine Rn.reti k_104 rfl q_104 rfl (rfl) ?_
        exact ⟨rfl, rfl⟩
      · exact absurd ((lg_cmp_le _ _).mpr (by decide)) h1
    | succ k ih =>
      intro m q hm hm2
      refine Rn.lload_n k_104 rfl rfl ?_
      refine Rn.lconst 0 k_104 rfl rfl ?_
      refine Rn.lcmp k_104 rfl ?_
      refine Rn.if_le 22 k_104 rfl rfl (fun h1 => ?_) (fun h1 => ?_)
      · have : m = 0 := by
          have := (lg_cmp_le _ _).mp h1
          have e : (0 : Int64) = lN 0 := rfl
          rw [e, pk_lLE hm2 (by decide)] at this
          omega
        subst this
        refine Rn.iload_n k_104 rfl rfl ?_
        refine Rn.reti k_104 rfl q_104 rfl (rfl) ?_
        exact ⟨rfl, rfl⟩
      · have h0 : ¬ m = 0 := fun e => h1 ((lg_cmp_le _ _).mpr (by rw [e]; decide))
        refine Rn.iinc2 (1) k_104 rfl rfl rfl ?_
        refine Rn.lload_n k_104 rfl rfl ?_
        refine Rn.ldc2 38 k_104 rfl rfl ?_
        refine Rn.ldiv k_104 rfl (by decide) ?_
        have e38 : (38 : Int64) = lN 38 := rfl
        rw [e38, pk_lDiv hm2 (by decide) (by decide), c_add 1 1 rfl]
        refine Rn.lstore_n3 k_104 rfl rfl ?_
        refine Rn.goto 4 k_104 rfl rfl ?_
        refine (ih (m / 38) (q + 1) ?_ ?_).mono ?_
        · rw [Nat.pow_succ] at hm; omega
        · omega
        · intro v h' hq
          obtain ⟨e1, e2⟩ := hq
          refine ⟨?_, e2⟩
          rw [e1]
          show _ = some (Value.int (nI (q + (if m = 0 then 0 else dlen k (m / 38) + 1))))
          rw [if_neg h0, show q + 1 + dlen k (m / 38) = q + (dlen k (m / 38) + 1) by omega]
  refine Rn.iconst (0) k_104 rfl rfl ?_
  refine Rn.istore_n2 k_104 rfl rfl ?_
  refine Rn.lload_n k_104 rfl rfl ?_
  refine Rn.lstore_n3 k_104 rfl rfl ?_
  have := loop 12 n 0 hz hn
  rw [Nat.zero_add] at this
  exact this
theorem ct_lastCharacter {n : Nat} (hn : n < 2 ^ 63) : Rn d 105 0 [some (.long (lN n)), none, none] [] h (Ret h (some (.int (nI (chr (n % 38)))))) := by
  refine Rn.lload_n k_105 rfl rfl ?_
  refine Rn.ldc2 38 k_105 rfl rfl ?_
  refine Rn.lrem k_105 rfl (by decide) ?_
  have e38 : (38 : Int64) = lN 38 := rfl
  rw [e38, pk_lRem hn (by decide) (by decide)]
  have hm : n % 38 < 38 := Nat.mod_lt _ (by decide)
  generalize n % 38 = q at hm ⊢
  refine Rn.l2i k_105 rfl ?_
  rw [lN_i]
  refine Rn.istore_n2 k_105 rfl rfl ?_
  refine Rn.iload_n k_105 rfl rfl ?_
  refine Rn.bipush (26) k_105 rfl rfl ?_
  refine Rn.icmp_gt 21 k_105 rfl rfl (fun h1 => ?_) (fun h1 => ?_)
  · rw [c_gt 26 26 rfl (by omega) (by decide)] at h1
    refine Rn.iload_n k_105 rfl rfl ?_
    refine Rn.bipush (37) k_105 rfl rfl ?_
    refine Rn.icmp_ne 32 k_105 rfl rfl (fun h2 => ?_) (fun h2 => ?_)
    · have h2 : ¬ q = 37 := fun z => h2 ((c_eq 37 37 rfl (by omega) (by decide)).mpr z)
      refine Rn.bipush (48) k_105 rfl rfl ?_
      refine Rn.iload_n k_105 rfl rfl ?_
      refine Rn.iadd k_105 rfl ?_
      refine Rn.bipush (27) k_105 rfl rfl ?_
      refine Rn.isub k_105 rfl ?_
      rw [show (48 : Int32) = nI 48 from rfl, nI_add, c_sub 27 27 rfl (by omega)]
      refine Rn.i2c k_105 rfl ?_
      rw [i2c_id (by omega)]
      refine Rn.reti k_105 rfl q_105 rfl (fit_c (by omega)) ?_
      refine ⟨?_, rfl⟩
      rw [chr, if_neg (by omega), if_neg h2, show 48 + q - 27 = 21 + q by omega]
    · rw [c_eq 37 37 rfl (by omega) (by decide)] at h2
      refine Rn.bipush (95) k_105 rfl rfl ?_
      refine Rn.goto 40 k_105 rfl rfl ?_
      refine Rn.reti k_105 rfl q_105 rfl (rfl) ?_
      refine ⟨?_, rfl⟩
      rw [chr, if_neg (by omega), if_pos h2]
      rfl
  · rw [c_gt 26 26 rfl (by omega) (by decide)] at h1
    refine Rn.bipush (97) k_105 rfl rfl ?_
    refine Rn.iload_n k_105 rfl rfl ?_
    refine Rn.iadd k_105 rfl ?_
    refine Rn.iconst (1) k_105 rfl rfl ?_
    refine Rn.isub k_105 rfl ?_
    rw [show (97 : Int32) = nI 97 from rfl, nI_add, c_sub 1 1 rfl (by omega)]
    refine Rn.i2c k_105 rfl ?_
    rw [i2c_id (by omega)]
    refine Rn.reti k_105 rfl q_105 rfl (fit_c (by omega)) ?_
    refine ⟨?_, rfl⟩
    rw [chr, if_pos (by omega), show 97 + q - 1 = 96 + q by omega]
end N
end
section
/-! NameRow: rows of names, by their numbers -/
/-- the row r, whose codes stand in the cell c, holds w -/
def NRr (fi : Nat → Nat → Int32) (fl : Nat → Nat → Int64) (r c : Nat) (w : List Nat) : Prop := fi r 1 = nI w.length ∧ (∀ k, k < w.length → fl c k = lN (w.getD k 0)) ∧ (∀ n ∈ w, n < 2 ^ 63) ∧ w.length < 2 ^ 30
def ixf : List Nat → Nat → Nat → Option Nat
  | [], _, _ => none
  | a :: l, n, k => if a = n then some k else ixf l n (k + 1)
def ixI (o : Option Nat) : Int32 := match o with
  | some k => nI k
  | none => -1
theorem ixf_none : ∀ (w : List Nat) (n k : Nat), ixf w n k = none ↔ n ∉ w
  | [], n, k => by simp [ixf]
  | a :: l, n, k => by
    unfold ixf
    by_cases h : a = n
    · rw [if_pos h]; simp [h]
    · rw [if_neg h, ixf_none l n (k + 1)]
      simp only [List.mem_cons, not_or]
      exact ⟨fun q => ⟨fun z => h z.symm, q⟩, fun q => q.2⟩
theorem ixf_some : ∀ (w : List Nat) (n k j : Nat), ixf w n k = some j → k ≤ j ∧ j < k + w.length ∧ w.getD (j - k) 0 = n
  | [], n, k, j, h => by simp [ixf] at h
  | a :: l, n, k, j, h => by
    unfold ixf at h
    by_cases e : a = n
    · rw [if_pos e] at h
      cases h
      refine ⟨Nat.le_refl _, by simp, ?_⟩
      rw [Nat.sub_self]
      exact e
    · rw [if_neg e] at h
      obtain ⟨h1, h2, h3⟩ := ixf_some l n (k + 1) j h
      refine ⟨by omega, by simp only [List.length_cons]; omega, ?_⟩
      rw [show j - k = (j - (k + 1)) + 1 by omega, List.getD_cons_succ]
      exact h3
theorem getD_mem {w : List Nat} {k : Nat} (h : k < w.length) : w.getD k 0 ∈ w := by
  rw [List.getD_eq_getElem?_getD, List.getElem?_eq_getElem h]
  exact List.getElem_mem h
theorem NRr.keep {fi fi' : Nat → Nat → Int32} {fl fl' : Nat → Nat → Int64} {r c : Nat} {w : List Nat} (h : NRr fi fl r c w) (h1 : fi' r 1 = fi r 1) (h2 : ∀ k, fl' c k = fl c k) : NRr fi' fl' r c w := ⟨h1.trans h.1, fun k hk => (h2 k).trans (h.2.1 k hk), h.2.2⟩
theorem NRr.nil {fi : Nat → Nat → Int32} {fl : Nat → Nat → Int64} {r c : Nat} (h : fi r 1 = 0) : NRr fi fl r c [] := ⟨h, fun k hk => absurd hk (Nat.not_lt_zero k), fun n hn => (by cases hn), by decide⟩
theorem NRr.add {fi : Nat → Nat → Int32} {fl : Nat → Nat → Int64} {r c n : Nat} {w : List Nat} (h : NRr fi fl r c w) (hn : n < 2 ^ 63) (hl : w.length + 1 < 2 ^ 30) : NRr (up2 fi r 1 (nI (w.length + 1))) (up2 fl c w.length (lN n)) r c (w ++ [n]) := by
  refine ⟨by rw [up2_same, List.length_append]; rfl, fun k hk => ?_, fun z hz => ?_, by rw [List.length_append]; exact hl⟩
  · rw [List.length_append] at hk
    have hk : k < w.length + 1 := hk
    by_cases e : k = w.length
    · subst e
      rw [up2_same, List.getD_eq_getElem?_getD, List.getElem?_append_right (Nat.le_refl _), Nat.sub_self]
      rfl
    · rw [up2_col _ _ e, h.2.1 k (by omega), List.getD_eq_getElem?_getD, List.getD_eq_getElem?_getD, List.getElem?_append_left (by omega)]
  · rcases List.mem_append.mp hz with z1 | z1
    · exact h.2.2.1 z z1
    · rw [List.mem_singleton.mp z1]; exact hn
section NR
variable {d L : Nat} {fi : Nat → Nat → Int32} {fl : Nat → Nat → Int64} {fr : Nat → Nat → Option Nat} {r c cap : Nat} {w : List Nat}
theorem ct_indexOf (hr : (SH L)[r]? = some (3, 2)) (hc : (SH L)[c]? = some (101, cap)) (hf : fr r 0 = some c) (hcap : cap < 2 ^ 31) (hN : NRr fi fl r c w) (hl : w.length ≤ cap) {n : Nat} (hn : n < 2 ^ 63) : Rn d 99 0 [some (.ref r), some (.long (lN n)), none, none] [] (SH L, fi, fl, fr) (Ret (SH L, fi, fl, fr) (some (.int (ixI (ixf w n 0))))) := by
  have hs := hN.1
  have hb := hN.2.2.2
  have loop : ∀ (k i : Nat), i + k = w.length → Rn d 99 2 [some (.ref r), some (.long (lN n)), none, some (.int (nI i))] [] (SH L, fi, fl, fr) (Ret (SH L, fi, fl, fr) (some (.int (ixI (ixf (w.drop i) n i))))) := by
    intro k
    induction k with
    | zero =>
      intro i hi
      refine Rn.iload_n k_99 rfl rfl ?_
      refine Rn.aload_n k_99 rfl rfl ?_
      refine Rn.getI k_99 rfl rfl hr ?_
      rw [hs]
      refine Rn.icmp_ge 29 k_99 rfl rfl (fun h1 => ?_) (fun h1 => ?_)
      · refine Rn.iconst (-1) k_99 rfl rfl ?_
        refine Rn.reti k_99 rfl q_99 rfl (rfl) ?_
        rw [List.drop_eq_nil_of_le (by omega)]
        exact ⟨rfl, rfl⟩
      · exact absurd ((nI_leI (by omega) (by omega)).mpr (by omega)) h1
    | succ k ih =>
      intro i hi
      have hil : i < w.length := by omega
      have ed : w.drop i = w.getD i 0 :: w.drop (i + 1) := by
        rw [List.getD_eq_getElem?_getD, List.getElem?_eq_getElem hil]
        exact List.drop_eq_getElem_cons hil
      refine Rn.iload_n k_99 rfl rfl ?_
      refine Rn.aload_n k_99 rfl rfl ?_
      refine Rn.getI k_99 rfl rfl hr ?_
      rw [hs]
      refine Rn.icmp_ge 29 k_99 rfl rfl (fun h1 => ?_) (fun h1 => ?_)
      · exact absurd ((nI_leI (by omega) (by omega)).mp h1) (by omega)
      · refine Rn.aload_n k_99 rfl rfl ?_
        refine Rn.getA k_99 rfl rfl hr hf ?_
        refine Rn.iload_n k_99 rfl rfl ?_
        refine Rn.laload (i) k_99 rfl hc (rfl) (by omega) (hcap) ?_
        refine Rn.lload_n k_99 rfl rfl ?_
        refine Rn.lcmp k_99 rfl ?_
        rw [hN.2.1 i hil]
        refine Rn.if_ne 23 k_99 rfl rfl (fun h2 => ?_) (fun h2 => ?_)
        · have h2 : ¬ w.getD i 0 = n := fun e => h2 ((lg_cmp_eq _ _).mpr (by rw [e]))
          refine Rn.iinc3 (1) k_99 rfl rfl rfl ?_
          rw [c_add 1 1 rfl]
          refine Rn.goto 2 k_99 rfl rfl ?_
          rw [ed, ixf, if_neg h2]
          exact ih (i + 1) (by omega)
        · have h2 := (pk_lEQ (hN.2.2.1 _ (getD_mem hil)) hn).mp ((lg_cmp_eq _ _).mp h2)
          refine Rn.iload_n k_99 rfl rfl ?_
          refine Rn.reti k_99 rfl q_99 rfl (rfl) ?_
          rw [ed, ixf, if_pos h2]
          exact ⟨rfl, rfl⟩
  refine Rn.iconst (0) k_99 rfl rfl ?_
  refine Rn.istore_n3 k_99 rfl rfl ?_
  exact loop w.length 0 (Nat.zero_add _)
theorem ct_at (hr : (SH L)[r]? = some (3, 2)) (hc : (SH L)[c]? = some (101, cap)) (hf : fr r 0 = some c) (hcap : cap < 2 ^ 31) (hN : NRr fi fl r c w) (hl : w.length ≤ cap) {k : Nat} (hk : k < w.length) : Rn d 100 0 [some (.ref r), some (.int (nI k))] [] (SH L, fi, fl, fr) (Ret (SH L, fi, fl, fr) (some (.long (lN (w.getD k 0))))) := by
  have hs := hN.1
  have hb := hN.2.2.2
  refine Rn.iload_n k_100 rfl rfl ?_
  refine Rn.if_lt 21 k_100 rfl rfl (fun h1 => ?_) (fun h1 => ?_)
  · exact absurd h1 (c_neg (by omega))
  · refine Rn.iload_n k_100 rfl rfl ?_
    refine Rn.aload_n k_100 rfl rfl ?_
    refine Rn.getI k_100 rfl rfl hr ?_
    rw [hs]
    refine Rn.icmp_ge 21 k_100 rfl rfl (fun h2 => ?_) (fun h2 => ?_)
    · exact absurd ((nI_leI (by omega) (by omega)).mp h2) (by omega)
    · refine Rn.aload_n k_100 rfl rfl ?_
      refine Rn.getA k_100 rfl rfl hr hf ?_
      refine Rn.iload_n k_100 rfl rfl ?_
      refine Rn.laload (k) k_100 rfl hc (rfl) (by omega) (hcap) ?_
      refine Rn.goto 22 k_100 rfl rfl ?_
      rw [hN.2.1 k hk]
      refine Rn.retl k_100 rfl q_100 rfl ?_
      exact ⟨rfl, rfl⟩
theorem ct_add (hr : (SH L)[r]? = some (3, 2)) (hc : (SH L)[c]? = some (101, cap)) (hf : fr r 0 = some c) (hcap : cap < 2 ^ 30) (hN : NRr fi fl r c w) (hl : w.length ≤ cap) {n : Nat} (hn : n < 2 ^ 63) : Rn (d + 1) 98 0 [some (.ref r), some (.long (lN n)), none] [] (SH L, fi, fl, fr) (fun v h' => if n = 0 ∨ cap ≤ w.length ∨ n ∈ w then v = some (.int 0) ∧ h' = (SH L, fi, fl, fr) else v = some (.int 1) ∧ h' = (SH L, up2 fi r 1 (nI (w.length + 1)), up2 fl c w.length (lN n), fr)) := by
  have hs := hN.1
  have hb := hN.2.2.2
  have no : (n = 0 ∨ cap ≤ w.length ∨ n ∈ w) → Rn (d + 1) 98 27 [some (.ref r), some (.long (lN n)), none] [] (SH L, fi, fl, fr) (fun v h' => if n = 0 ∨ cap ≤ w.length ∨ n ∈ w then v = some (.int 0) ∧ h' = (SH L, fi, fl, fr) else v = some (.int 1) ∧ h' = (SH L, up2 fi r 1 (nI (w.length + 1)), up2 fl c w.length (lN n), fr)) := by
    intro z
    refine Rn.iconst (0) k_98 rfl rfl ?_
    refine Rn.reti k_98 rfl q_98 rfl (rfl) ?_
    rw [if_pos z]
    exact ⟨rfl, rfl⟩
  refine Rn.lload_n k_98 rfl rfl ?_
  refine Rn.lconst 0 k_98 rfl rfl ?_
  refine Rn.lcmp k_98 rfl ?_
  refine Rn.if_eq 27 k_98 rfl rfl (fun h1 => ?_) (fun h1 => ?_)
  · exact no (Or.inl ((pk_lEQ hn (by decide)).mp ((lg_cmp_eq _ _).mp h1)))
  · have h0 : ¬ n = 0 := fun e => h1 ((lg_cmp_eq _ _).mpr (by rw [e]; rfl))
    refine Rn.aload_n k_98 rfl rfl ?_
    refine Rn.getI k_98 rfl rfl hr ?_
    refine Rn.aload_n k_98 rfl rfl ?_
    refine Rn.getA k_98 rfl rfl hr hf ?_
    refine Rn.alen k_98 rfl hc rfl (by omega) ?_
    rw [hs]
    refine Rn.icmp_ge 27 k_98 rfl rfl (fun h2 => ?_) (fun h2 => ?_)
    · exact no (Or.inr (Or.inl ((nI_leI (by omega) (by omega)).mp h2)))
    · rw [nI_leI (by omega) (by omega)] at h2
      refine Rn.aload_n k_98 rfl rfl ?_
      refine Rn.lload_n k_98 rfl rfl ?_
      refine Rn.cV2I k_98 rfl rfl q_99 rfl (Nat.le_of_ble_eq_true rfl) (Nat.le_of_ble_eq_true rfl) hr (ct_indexOf hr hc hf (by omega) hN hl hn) ?_
      refine Rn.iconst (-1) k_98 rfl rfl ?_
      refine Rn.icmp_eq 29 k_98 rfl rfl (fun h3 => ?_) (fun h3 => ?_)
      · have hnot : n ∉ w := by
          rw [← ixf_none w n 0]
          cases hx : ixf w n 0 with
          | none => rfl
          | some j =>
            rw [hx] at h3
            obtain ⟨z1, z2, z3⟩ := ixf_some w n 0 j hx
            exact absurd h3 (c_m1 (by omega))
        refine Rn.aload_n k_98 rfl rfl ?_
        refine Rn.getA k_98 rfl rfl hr hf ?_
        refine Rn.aload_n k_98 rfl rfl ?_
        refine Rn.getI k_98 rfl rfl hr ?_
        refine Rn.lload_n k_98 rfl rfl ?_
        refine Rn.lastore (w.length) k_98 rfl hc (hs) (by omega) (by omega) ?_
        refine Rn.aload_n k_98 rfl rfl ?_
        refine Rn.dupa k_98 rfl ?_
        refine Rn.getI k_98 rfl rfl hr ?_
        refine Rn.iconst (1) k_98 rfl rfl ?_
        refine Rn.iadd k_98 rfl ?_
        rw [hs, c_add 1 1 rfl]
        refine Rn.putI k_98 rfl (rfl) hr ?_
        refine Rn.iconst (1) k_98 rfl rfl ?_
        refine Rn.reti k_98 rfl q_98 rfl (rfl) ?_
        rw [if_neg (fun z => z.elim h0 (fun z => z.elim h2 hnot))]
        exact ⟨rfl, rfl⟩
      · refine no (Or.inr (Or.inr ?_))
        by_cases hm : n ∈ w
        · exact hm
        · rw [(ixf_none w n 0).mpr hm] at h3
          exact absurd rfl h3
/-- all of another row comes behind -/
theorem ct_addAll {r2 c2 cap2 : Nat} {w2 : List Nat} (hr : (SH L)[r]? = some (3, 2)) (hc : (SH L)[c]? = some (101, cap)) (hf : fr r 0 = some c) (hcap : cap < 2 ^ 30) (hr2 : (SH L)[r2]? = some (3, 2)) (hc2 : (SH L)[c2]? = some (101, cap2)) (hf2 : fr r2 0 = some c2) (hcap2 : cap2 < 2 ^ 30) (hne : r ≠ r2) (hnec : c ≠ c2) (hN2 : NRr fi fl r2 c2 w2) (hl2 : w2.length ≤ cap2) (hn2 : ∀ n ∈ w2, n ≠ 0) (hN : NRr fi fl r c w) (hl : w.length + w2.length ≤ cap) (hnd : (w ++ w2).Nodup) :
    Rn (d + 2) 101 0 [some (.ref r), some (.ref r2), none] [] (SH L, fi, fl, fr) (fun v h' => v = none ∧ ∃ fi' fl', h' = (SH L, fi', fl', fr) ∧ NRr fi' fl' r c (w ++ w2) ∧ (∀ a k, a ≠ r → fi' a k = fi a k) ∧ (∀ a k, a ≠ c → fl' a k = fl a k)) := by
  have loop : ∀ (k i : Nat) (gi : Nat → Nat → Int32) (gl : Nat → Nat → Int64), i + k = w2.length → NRr gi gl r c (w ++ w2.take i) → (∀ a k, a ≠ r → gi a k = fi a k) → (∀ a k, a ≠ c → gl a k = fl a k) → Rn (d + 2) 101 2 [some (.ref r), some (.ref r2), some (.int (nI i))] [] (SH L, gi, gl, fr) (fun v h' => v = none ∧ ∃ fi' fl', h' = (SH L, fi', fl', fr) ∧ NRr fi' fl' r c (w ++ w2) ∧ (∀ a k, a ≠ r → fi' a k = fi a k) ∧ (∀ a k, a ≠ c → fl' a k = fl a k)) := by
    intro k
    induction k with
    | zero =>
      intro i gi gl hi hg g1 g2
      have hb := hN2.2.2.2
      refine Rn.iload_n k_101 rfl rfl ?_
      refine Rn.aload_n k_101 rfl rfl ?_
      refine Rn.getI k_101 rfl rfl hr2 ?_
      rw [g1 r2 1 (Ne.symm hne), hN2.1]
      refine Rn.icmp_ge 27 k_101 rfl rfl (fun h1 => ?_) (fun h1 => ?_)
      · refine Rn.retv k_101 rfl q_101 rfl ?_
        rw [List.take_of_length_le (by omega)] at hg
        exact ⟨rfl, gi, gl, rfl, hg, g1, g2⟩
      · exact absurd ((nI_leI (by omega) (by omega)).mpr (by omega)) h1
    | succ k ih =>
      intro i gi gl hi hg g1 g2
      have hb := hN2.2.2.2
      have hil : i < w2.length := by omega
      have et : w2.take (i + 1) = w2.take i ++ [w2.getD i 0] := by
        rw [List.getD_eq_getElem?_getD, List.getElem?_eq_getElem hil]
        exact List.take_succ_eq_append_getElem hil
      have hlen : (w ++ w2.take i).length = w.length + i := by rw [List.length_append, List.length_take]; omega
      have hnot : ¬ (w2.getD i 0 = 0 ∨ cap ≤ (w ++ w2.take i).length ∨ w2.getD i 0 ∈ w ++ w2.take i) := by
        rintro (z | z | z)
        · exact hn2 _ (getD_mem hil) z
        · omega
        · have e2 : w ++ w2 = (w ++ w2.take i) ++ (w2.getD i 0 :: w2.drop (i + 1)) := by
            rw [List.append_assoc]
            congr 1
            rw [List.getD_eq_getElem?_getD, List.getElem?_eq_getElem hil]
            show w2 = w2.take i ++ (w2[i] :: w2.drop (i + 1))
            rw [show w2[i] :: w2.drop (i + 1) = w2.drop i from (List.drop_eq_getElem_cons hil).symm, List.take_append_drop]
          rw [e2, List.nodup_append] at hnd
          exact hnd.2.2 _ z _ List.mem_cons_self rfl
      refine Rn.iload_n k_101 rfl rfl ?_
      refine Rn.aload_n k_101 rfl rfl ?_
      refine Rn.getI k_101 rfl rfl hr2 ?_
      rw [g1 r2 1 (Ne.symm hne), hN2.1]
      refine Rn.icmp_ge 27 k_101 rfl rfl (fun h1 => ?_) (fun h1 => ?_)
      · exact absurd ((nI_leI (by omega) (by omega)).mp h1) (by omega)
      · refine Rn.aload_n k_101 rfl rfl ?_
        refine Rn.aload_n k_101 rfl rfl ?_
        refine Rn.getA k_101 rfl rfl hr2 hf2 ?_
        refine Rn.iload_n k_101 rfl rfl ?_
        refine Rn.laload (i) k_101 rfl hc2 (rfl) (by omega) (by omega) ?_
        rw [g2 c2 i (Ne.symm hnec), hN2.2.1 i hil]
        refine Rn.cV2 k_101 rfl rfl q_98 rfl (Nat.le_of_ble_eq_true rfl) (Nat.le_of_ble_eq_true rfl) hr (ct_add hr hc hf hcap hg (by omega) (hN2.2.2.1 _ (getD_mem hil))) (fun v h1' hq => ?_)
        rw [if_neg hnot] at hq
        obtain ⟨rfl, rfl⟩ := hq
        show Rn _ _ _ _ (Value.int 1 :: []) _ _
        refine Rn.popi k_101 rfl ?_
        refine Rn.iinc2 (1) k_101 rfl rfl rfl ?_
        rw [c_add 1 1 rfl]
        refine Rn.goto 2 k_101 rfl rfl ?_
        refine ih (i + 1) _ _ (by omega) ?_ (fun a k ha => by rw [up2_row _ _ ha]; exact g1 a k ha) (fun a k ha => by rw [up2_row _ _ ha]; exact g2 a k ha)
        rw [et, ← List.append_assoc]
        exact hg.add (hN2.2.2.1 _ (getD_mem hil)) (by omega)
  refine Rn.iconst (0) k_101 rfl rfl ?_
  refine Rn.istore_n2 k_101 rfl rfl ?_
  refine loop w2.length 0 fi fl (Nat.zero_add _) ?_ (fun _ _ _ => rfl) (fun _ _ _ => rfl)
  rw [List.take_zero, List.append_nil]
  exact hN
end NR
end
section
/-! Words: the words of a line -/
/-- the characters from s up to e -/
def sl (x : Nat → Nat) (s e : Nat) : List Nat := (List.range (e - s)).map (fun k => x (s + k))
theorem sl_len (x : Nat → Nat) (s e : Nat) : (sl x s e).length = e - s := by simp [sl]
theorem sl_nil (x : Nat → Nat) {s e : Nat} (h : e ≤ s) : sl x s e = [] := by unfold sl; rw [Nat.sub_eq_zero_of_le h]; rfl
theorem sl_succ (x : Nat → Nat) {s e : Nat} (h : s ≤ e) : sl x s (e + 1) = sl x s e ++ [x e] := by
  unfold sl
  rw [show e + 1 - s = (e - s) + 1 by omega, List.range_succ, List.map_append]
  simp only [List.map_cons, List.map_nil]
  rw [show s + (e - s) = e by omega]
theorem sl_cons (x : Nat → Nat) {s e : Nat} (h : s < e) : sl x s e = x s :: sl x (s + 1) e := by
  unfold sl
  rw [show e - s = (e - (s + 1)) + 1 by omega, List.range_succ_eq_map, List.map_cons, List.map_map]
  congr 1
  apply List.map_congr_left
  intro k _
  show x (s + (k + 1)) = x (s + 1 + k)
  congr 1
  omega
theorem sl_mem {x : Nat → Nat} {s e c : Nat} : c ∈ sl x s e ↔ ∃ k, s ≤ k ∧ k < e ∧ x k = c := by
  unfold sl
  rw [List.mem_map]
  constructor
  · rintro ⟨k, hk, rfl⟩
    rw [List.mem_range] at hk
    exact ⟨s + k, by omega, by omega, rfl⟩
  · rintro ⟨k, h1, h2, rfl⟩
    exact ⟨k - s, List.mem_range.mpr (by omega), by rw [show s + (k - s) = k by omega]⟩
theorem sl_at {x : Nat → Nat} {s e k : Nat} (h : k < e - s) : (sl x s e).getD k 0 = x (s + k) := by
  unfold sl
  rw [List.getD_eq_getElem?_getD, List.getElem?_map, List.getElem?_range h]
  rfl
def okV (w : List Nat) : Bool := decide (w.length ≤ 12) && w.all isN
def okN (w : List Nat) : Bool := okV w && isL (w.getD 0 0)
/-- a value's number, or 0 -/
def vcode (w : List Nat) : Nat := if okV w = true then enc w else 0
def ncode (w : List Nat) : Nat := if okN w = true then enc w else 0
theorem okV_len {w : List Nat} (h : okV w = true) : w.length ≤ 12 := by
  unfold okV at h; rw [Bool.and_eq_true] at h; exact of_decide_eq_true h.1
theorem okV_isN {w : List Nat} (h : okV w = true) : ∀ c ∈ w, isN c = true := by
  unfold okV at h; rw [Bool.and_eq_true] at h; exact List.all_eq_true.mp h.2
theorem okN_okV {w : List Nat} (h : okN w = true) : okV w = true := by
  unfold okN at h; rw [Bool.and_eq_true] at h; exact h.1
theorem vcode_lt (w : List Nat) : vcode w < 2 ^ 63 := by
  unfold vcode
  split
  · rename_i h; exact enc_lt63 (okV_len h)
  · decide
theorem ncode_lt (w : List Nat) : ncode w < 2 ^ 63 := by
  unfold ncode
  split
  · rename_i h; exact enc_lt63 (okV_len (okN_okV h))
  · decide
/-- the text that the class holds: n characters -/
def TXr (fi : Nat → Nat → Int32) (x : Nat → Nat) (n : Nat) : Prop := (∀ k, k < n → fi 20 k = nI (x k) ∧ x k < 128) ∧ n ≤ 1200
/-- the words that the class holds -/
def WDr (fi : Nat → Nat → Int32) (ws : List (Nat × Nat)) : Prop := fi 588 2 = nI ws.length ∧ ∀ k, k < ws.length → fi 589 k = nI (ws.getD k (0, 0)).1 ∧ fi 590 k = nI (ws.getD k (0, 0)).2
def wok (n : Nat) (ws : List (Nat × Nat)) : Prop := (∀ p ∈ ws, p.1 < p.2 ∧ p.2 ≤ n) ∧ ws.length ≤ 600
/-- a word's characters -/
def wd (x : Nat → Nat) (p : Nat × Nat) : List Nat := sl x p.1 p.2
theorem wok_at {n : Nat} {ws : List (Nat × Nat)} (h : wok n ws) {k : Nat} (hk : k < ws.length) : (ws.getD k (0, 0)).1 < (ws.getD k (0, 0)).2 ∧ (ws.getD k (0, 0)).2 ≤ n := by
  refine h.1 _ ?_
  rw [List.getD_eq_getElem?_getD, List.getElem?_eq_getElem hk]
  exact List.getElem_mem hk
section WD
variable {d L : Nat} {fi : Nat → Nat → Int32} {fl : Nat → Nat → Int64} {fr : Nat → Nat → Option Nat} {F G : Nat} {x : Nat → Nat} {n : Nat} {ws : List (Nat × Nat)}
theorem ct_value (hF : FRok F G fr) (hT : TXr fi x n) (hW : WDr fi ws) (hw : wok n ws) {k : Nat} (hk : k < 2 ^ 30) : Rn (d + 1) 138 0 [some (.ref 588), some (.int (nI k)), none, none, none, none] [] (SH L, fi, fl, fr) (Ret (SH L, fi, fl, fr) (some (.long (lN (if k < ws.length then vcode (wd x (ws.getD k (0, 0))) else 0))))) := by
  have hn := hT.2
  have hc := hw.2
  have no : (¬ k < ws.length ∨ vcode (wd x (ws.getD k (0, 0))) = 0) → Rn (d + 1) 138 30 [some (.ref 588), some (.int (nI k)), none, none, none, none] [] (SH L, fi, fl, fr) (Ret (SH L, fi, fl, fr) (some (.long (lN (if k < ws.length then vcode (wd x (ws.getD k (0, 0))) else 0))))) := by
    intro z
    refine Rn.lconst 0 k_138 rfl rfl ?_
    refine Rn.retl k_138 rfl q_138 rfl ?_
    refine ⟨?_, rfl⟩
    rcases z with z | z
    · rw [if_neg z]; rfl
    · rw [z]; split <;> rfl
  refine Rn.iload_n k_138 rfl rfl ?_
  refine Rn.if_lt 30 k_138 rfl rfl (fun h1 => ?_) (fun h1 => ?_)
  · exact absurd h1 (c_neg (by omega))
  · refine Rn.iload_n k_138 rfl rfl ?_
    refine Rn.aload_n k_138 rfl rfl ?_
    refine Rn.getI k_138 rfl rfl (s588 L) ?_
    rw [hW.1]
    refine Rn.icmp_ge 30 k_138 rfl rfl (fun h2 => ?_) (fun h2 => ?_)
    · rw [nI_leI (by omega) (by omega)] at h2
      exact no (Or.inl (by omega))
    · rw [nI_leI (by omega) (by omega)] at h2
      have hkl : k < ws.length := by omega
      obtain ⟨w1, w2⟩ := hW.2 k hkl
      obtain ⟨w3, w4⟩ := wok_at hw hkl
      rw [if_pos hkl]
      rw [if_pos hkl] at no
      unfold wd
      unfold wd at no
      generalize (ws.getD k (0, 0)).1 = s at w1 w3 no ⊢
      generalize (ws.getD k (0, 0)).2 = e at w2 w3 w4 no ⊢
      refine Rn.aload_n k_138 rfl rfl ?_
      refine Rn.getA k_138 rfl rfl (s588 L) (hF.l 12 rfl) ?_
      refine Rn.iload_n k_138 rfl rfl ?_
      refine Rn.iaload (k) k_138 rfl (s590 L) (rfl) (by omega) (by decide) ?_
      refine Rn.aload_n k_138 rfl rfl ?_
      refine Rn.getA k_138 rfl rfl (s588 L) (hF.l 11 rfl) ?_
      refine Rn.iload_n k_138 rfl rfl ?_
      refine Rn.iaload (k) k_138 rfl (s589 L) (rfl) (by omega) (by decide) ?_
      rw [w1, w2]
      refine Rn.isub k_138 rfl ?_
      rw [pk_sub (by omega)]
      refine Rn.bipush (12) k_138 rfl rfl ?_
      refine Rn.icmp_le 32 k_138 rfl rfl (fun h3 => ?_) (fun h3 => ?_)
      · rw [c_le 12 12 rfl (by omega) (by decide)] at h3
        have loop : ∀ (q i : Nat), i + q = e → s ≤ i → (∀ c ∈ sl x s i, isN c = true) → Rn (d + 1) 138 42 [some (.ref 588), some (.int (nI k)), some (.long (lN (enc (sl x s i)))), none, some (.int (nI i)), none] [] (SH L, fi, fl, fr) (Ret (SH L, fi, fl, fr) (some (.long (lN (vcode (sl x s e)))))) ∧ ∀ o : Int32, Rn (d + 1) 138 42 [some (.ref 588), some (.int (nI k)), some (.long (lN (enc (sl x s i)))), none, some (.int (nI i)), some (.int o)] [] (SH L, fi, fl, fr) (Ret (SH L, fi, fl, fr) (some (.long (lN (vcode (sl x s e)))))) := by
          intro q
          induction q with
          | zero =>
            intro i hi hsi hN
            have : i = e := by omega
            subst this
            have ev : vcode (sl x s i) = enc (sl x s i) := by
              unfold vcode
              rw [if_pos]
              unfold okV
              rw [Bool.and_eq_true]
              exact ⟨decide_eq_true (by rw [sl_len]; omega), List.all_eq_true.mpr hN⟩
            have both : ∀ o5, Rn (d + 1) 138 42 [some (.ref 588), some (.int (nI k)), some (.long (lN (enc (sl x s i)))), none, some (.int (nI i)), o5] [] (SH L, fi, fl, fr) (Ret (SH L, fi, fl, fr) (some (.long (lN (vcode (sl x s i)))))) := by
              intro o5
              refine Rn.iload k_138 rfl rfl ?_
              refine Rn.aload_n k_138 rfl rfl ?_
              refine Rn.getA k_138 rfl rfl (s588 L) (hF.l 12 rfl) ?_
              refine Rn.iload_n k_138 rfl rfl ?_
              refine Rn.iaload (k) k_138 rfl (s590 L) (rfl) (by omega) (by decide) ?_
              rw [w2]
              refine Rn.icmp_ge 88 k_138 rfl rfl (fun h4 => ?_) (fun h4 => ?_)
              · refine Rn.lload_n k_138 rfl rfl ?_
                refine Rn.retl k_138 rfl q_138 rfl ?_
                exact ⟨by rw [ev], rfl⟩
              · exact absurd ((nI_leI (by omega) (by omega)).mpr (Nat.le_refl _)) h4
            exact ⟨both none, fun o => both _⟩
          | succ q ih =>
            intro i hi hsi hN
            obtain ⟨t1, t2⟩ := hT.1 i (by omega)
            have both : ∀ o5, Rn (d + 1) 138 42 [some (.ref 588), some (.int (nI k)), some (.long (lN (enc (sl x s i)))), none, some (.int (nI i)), o5] [] (SH L, fi, fl, fr) (Ret (SH L, fi, fl, fr) (some (.long (lN (vcode (sl x s e)))))) := by
              intro o5
              refine Rn.iload k_138 rfl rfl ?_
              refine Rn.aload_n k_138 rfl rfl ?_
              refine Rn.getA k_138 rfl rfl (s588 L) (hF.l 12 rfl) ?_
              refine Rn.iload_n k_138 rfl rfl ?_
              refine Rn.iaload (k) k_138 rfl (s590 L) (rfl) (by omega) (by decide) ?_
              rw [w2]
              refine Rn.icmp_ge 88 k_138 rfl rfl (fun h4 => ?_) (fun h4 => ?_)
              · exact absurd ((nI_leI (by omega) (by omega)).mp h4) (by omega)
              · refine Rn.aload_n k_138 rfl rfl ?_
                refine Rn.getA k_138 rfl rfl (s588 L) (hF.l 13 rfl) ?_
                refine Rn.iload k_138 rfl rfl ?_
                refine Rn.caload (i) k_138 rfl (s20 L) (rfl) (by omega) (by decide) ?_
                rw [t1]
                refine Rn.cS1I k_138 rfl rfl q_103 rfl (Nat.le_of_ble_eq_true rfl) (Nat.le_of_ble_eq_true rfl) (ct_digitOf (by omega)) ?_
                refine Rn.istore5 k_138 rfl rfl ?_
                refine Rn.iload k_138 rfl rfl ?_
                refine Rn.if_ne 72 k_138 rfl rfl (fun h5 => ?_) (fun h5 => ?_)
                · have h5 : ¬ dg (x i) = 0 := fun z => h5 (by rw [z]; rfl)
                  have hl := dg_lt (x i)
                  refine Rn.lload_n k_138 rfl rfl ?_
                  refine Rn.ldc2 38 k_138 rfl rfl ?_
                  refine Rn.lmul k_138 rfl ?_
                  refine Rn.iload k_138 rfl rfl ?_
                  refine Rn.i2l k_138 rfl ?_
                  rw [nI_l (by omega), show (38 : Int64) = lN 38 from rfl, lN_mul]
                  refine Rn.ladd k_138 rfl ?_
                  rw [lN_add, ← enc_app, ← sl_succ x hsi]
                  refine Rn.lstore_n2 k_138 rfl rfl ?_
                  refine Rn.iinc4 (1) k_138 rfl rfl rfl ?_
                  rw [c_add 1 1 rfl]
                  refine Rn.goto 42 k_138 rfl rfl ?_
                  refine (ih (i + 1) (by omega) (by omega) ?_).2 _
                  intro c hc
                  rw [sl_succ x hsi] at hc
                  rcases List.mem_append.mp hc with z | z
                  · exact hN c z
                  · rw [List.mem_singleton.mp z]
                    cases hz : isN (x i) with
                    | true => rfl
                    | false => exact absurd ((dg_0 (x i)).mpr hz) h5
                · refine Rn.lconst 0 k_138 rfl rfl ?_
                  refine Rn.retl k_138 rfl q_138 rfl ?_
                  refine ⟨?_, rfl⟩
                  have h5 : dg (x i) = 0 := by
                    have hl := dg_lt (x i)
                    exact (c_eq 0 0 rfl (by omega) (by decide)).mp h5
                  have : vcode (sl x s e) = 0 := by
                    unfold vcode
                    rw [if_neg]
                    intro z
                    have := okV_isN z (x i) (sl_mem.mpr ⟨i, hsi, by omega, rfl⟩)
                    rw [(dg_0 (x i)).mp h5] at this
                    cases this
                  rw [this]
                  rfl
            exact ⟨both none, fun o => both _⟩
        refine Rn.lconst 0 k_138 rfl rfl ?_
        refine Rn.lstore_n2 k_138 rfl rfl ?_
        refine Rn.aload_n k_138 rfl rfl ?_
        refine Rn.getA k_138 rfl rfl (s588 L) (hF.l 11 rfl) ?_
        refine Rn.iload_n k_138 rfl rfl ?_
        refine Rn.iaload (k) k_138 rfl (s589 L) (rfl) (by omega) (by decide) ?_
        rw [w1]
        refine Rn.istore4 k_138 rfl rfl ?_
        have := (loop (e - s) s (by omega) (Nat.le_refl _) (by rw [sl_nil x (Nat.le_refl s)]; intro c hc; cases hc)).1
        rw [sl_nil x (Nat.le_refl s)] at this
        exact this
      · rw [c_le 12 12 rfl (by omega) (by decide)] at h3
        refine no (Or.inr ?_)
        unfold vcode
        rw [if_neg]
        intro z
        have := okV_len z
        rw [sl_len] at this
        omega
end WD
end
section
/-! the string constants, and what is left of Words -/
/-- the string constant of the cell k has the characters w -/
def STr (L : Nat) (fi : Nat → Nat → Int32) (fr : Nat → Nat → Option Nat) (k : Nat) (w : List Nat) : Prop := (SH L)[k]? = some (901, 0) ∧ (SH L)[k + 7]? = some (902, w.length) ∧ fr k 0 = some (k + 7) ∧ fi k 1 = 0 ∧ (∀ j, j < w.length → fi (k + 7) j = nI (w.getD j 0) ∧ w.getD j 0 < 128) ∧ w.length < 100
section ST
variable {d L : Nat} {fi : Nat → Nat → Int32} {fl : Nat → Nat → Int64} {fr : Nat → Nat → Option Nat} {k : Nat} {w : List Nat}
theorem ct_coder (hS : STr L fi fr k w) : Rn d 141 0 [some (.ref k)] [] (SH L, fi, fl, fr) (Ret (SH L, fi, fl, fr) (some (.int 0))) := by
  refine Rn.gets0 k_141 rfl ?_
  refine Rn.if_eq 13 k_141 rfl rfl (fun h1 => ?_) (fun h1 => ?_)
  · exact absurd h1 (by decide)
  · refine Rn.aload_n k_141 rfl rfl ?_
    refine Rn.getI k_141 rfl rfl hS.1 ?_
    refine Rn.goto 14 k_141 rfl rfl ?_
    rw [hS.2.2.2.1]
    refine Rn.reti k_141 rfl q_141 rfl (rfl) ?_
    exact ⟨rfl, rfl⟩
theorem ct_isLatin1 (hS : STr L fi fr k w) : Rn d 143 0 [some (.ref k)] [] (SH L, fi, fl, fr) (Ret (SH L, fi, fl, fr) (some (.int 1))) := by
  refine Rn.gets0 k_143 rfl ?_
  refine Rn.if_eq 17 k_143 rfl rfl (fun h1 => ?_) (fun h1 => ?_)
  · exact absurd h1 (by decide)
  · refine Rn.aload_n k_143 rfl rfl ?_
    refine Rn.getI k_143 rfl rfl hS.1 ?_
    rw [hS.2.2.2.1]
    refine Rn.if_ne 17 k_143 rfl rfl (fun h2 => ?_) (fun h2 => ?_)
    · exact absurd rfl h2
    · refine Rn.iconst (1) k_143 rfl rfl ?_
      refine Rn.goto 18 k_143 rfl rfl ?_
      refine Rn.reti k_143 rfl q_143 rfl (rfl) ?_
      exact ⟨rfl, rfl⟩
theorem ct_strlen (hS : STr L fi fr k w) : Rn (d + 1) 140 0 [some (.ref k)] [] (SH L, fi, fl, fr) (Ret (SH L, fi, fl, fr) (some (.int (nI w.length)))) := by
  have hl := hS.2.2.2.2.2
  refine Rn.aload_n k_140 rfl rfl ?_
  refine Rn.getA k_140 rfl rfl hS.1 hS.2.2.1 ?_
  refine Rn.alen k_140 rfl hS.2.1 rfl (by omega) ?_
  refine Rn.aload_n k_140 rfl rfl ?_
  refine Rn.cV1I k_140 rfl rfl q_141 rfl (Nat.le_of_ble_eq_true rfl) (Nat.le_of_ble_eq_true rfl) hS.1 (ct_coder hS) ?_
  refine Rn.ishr k_140 rfl ?_
  rw [sc_shr0 (by omega)]
  refine Rn.reti k_140 rfl q_140 rfl (rfl) ?_
  exact ⟨rfl, rfl⟩
theorem ct_preIndex {i n : Nat} (hi : i < n) (hn : n < 2 ^ 31) {h : am_H} : Rn d 146 0 [some (.int (nI i)), some (.int (nI n)), some (.retAddr 0)] [] h (Ret h (some (.int (nI i)))) := by
  refine Rn.iload_n k_146 rfl rfl ?_
  refine Rn.if_lt 9 k_146 rfl rfl (fun h1 => ?_) (fun h1 => ?_)
  · exact absurd h1 (c_neg (by omega))
  · refine Rn.iload_n k_146 rfl rfl ?_
    refine Rn.iload_n k_146 rfl rfl ?_
    refine Rn.icmp_lt 16 k_146 rfl rfl (fun h2 => ?_) (fun h2 => ?_)
    · refine Rn.iload_n k_146 rfl rfl ?_
      refine Rn.reti k_146 rfl q_146 rfl (rfl) ?_
      exact ⟨rfl, rfl⟩
    · exact absurd ((nI_ltI (by omega) hn).mpr hi) h2
theorem ct_strIndex {i n : Nat} (hi : i < n) (hn : n < 2 ^ 31) {h : am_H} : Rn (d + 1) 145 0 [some (.int (nI i)), some (.int (nI n))] [] h (Ret h none) := by
  refine Rn.iload_n k_145 rfl rfl ?_
  refine Rn.iload_n k_145 rfl rfl ?_
  refine Rn.gets1 k_145 rfl ?_
  refine Rn.cS3I k_145 rfl rfl q_146 rfl (Nat.le_of_ble_eq_true rfl) (Nat.le_of_ble_eq_true rfl) (ct_preIndex hi hn) ?_
  refine Rn.popi k_145 rfl ?_
  refine Rn.retv k_145 rfl q_145 rfl ?_
  exact ⟨rfl, rfl⟩
theorem ct_latinChar (hS : STr L fi fr k w) {i : Nat} (hi : i < w.length) : Rn (d + 2) 144 0 [some (.ref (k + 7)), some (.int (nI i))] [] (SH L, fi, fl, fr) (Ret (SH L, fi, fl, fr) (some (.int (nI (w.getD i 0))))) := by
  have hl := hS.2.2.2.2.2
  obtain ⟨e1, e2⟩ := hS.2.2.2.2.1 i hi
  refine Rn.iload_n k_144 rfl rfl ?_
  refine Rn.aload_n k_144 rfl rfl ?_
  refine Rn.alen k_144 rfl hS.2.1 rfl (by omega) ?_
  refine Rn.cS2N k_144 rfl rfl q_145 rfl (Nat.le_of_ble_eq_true rfl) (Nat.le_of_ble_eq_true rfl) (ct_strIndex hi (by omega)) ?_
  refine Rn.aload_n k_144 rfl rfl ?_
  refine Rn.iload_n k_144 rfl rfl ?_
  refine Rn.baload2 (i) k_144 rfl hS.2.1 (rfl) (hi) (by omega) ?_
  refine Rn.sipush (255) k_144 rfl rfl ?_
  rw [e1]
  refine Rn.iand k_144 rfl ?_
  rw [show nI (w.getD i 0) &&& 255 = nI (w.getD i 0) by rw [pk_andN (by omega) 8 rfl, Nat.mod_eq_of_lt (by omega)]]
  refine Rn.i2c k_144 rfl ?_
  rw [i2c_id (by omega)]
  refine Rn.reti k_144 rfl q_144 rfl (fit_c (by omega)) ?_
  exact ⟨rfl, rfl⟩
theorem ct_charAt (hS : STr L fi fr k w) {i : Nat} (hi : i < w.length) : Rn (d + 3) 142 0 [some (.ref k), some (.int (nI i))] [] (SH L, fi, fl, fr) (Ret (SH L, fi, fl, fr) (some (.int (nI (w.getD i 0))))) := by
  obtain ⟨e1, e2⟩ := hS.2.2.2.2.1 i hi
  refine Rn.aload_n k_142 rfl rfl ?_
  refine Rn.cV1I k_142 rfl rfl q_143 rfl (Nat.le_of_ble_eq_true rfl) (Nat.le_of_ble_eq_true rfl) hS.1 (ct_isLatin1 hS) ?_
  refine Rn.if_eq 16 k_142 rfl rfl (fun h1 => ?_) (fun h1 => ?_)
  · exact absurd h1 (by decide)
  · refine Rn.aload_n k_142 rfl rfl ?_
    refine Rn.getA k_142 rfl rfl hS.1 hS.2.2.1 ?_
    refine Rn.iload_n k_142 rfl rfl ?_
    refine Rn.cS2I k_142 rfl rfl q_144 rfl (Nat.le_of_ble_eq_true rfl) (Nat.le_of_ble_eq_true rfl) (ct_latinChar hS hi) ?_
    refine Rn.reti k_142 rfl q_142 rfl (fit_c (by omega)) ?_
    exact ⟨rfl, rfl⟩
end ST
section WD
variable {d L : Nat} {fi : Nat → Nat → Int32} {fl : Nat → Nat → Int64} {fr : Nat → Nat → Option Nat} {F G : Nat} {x : Nat → Nat} {n : Nat} {ws : List (Nat × Nat)}
theorem ct_name (hF : FRok F G fr) (hT : TXr fi x n) (hW : WDr fi ws) (hw : wok n ws) {k : Nat} (hk : k < 2 ^ 30) : Rn (d + 2) 137 0 [some (.ref 588), some (.int (nI k)), none] [] (SH L, fi, fl, fr) (Ret (SH L, fi, fl, fr) (some (.long (lN (if k < ws.length then ncode (wd x (ws.getD k (0, 0))) else 0))))) := by
  have hn := hT.2
  have hc := hw.2
  have no : (¬ k < ws.length ∨ ncode (wd x (ws.getD k (0, 0))) = 0) → Rn (d + 2) 137 33 [some (.ref 588), some (.int (nI k)), none] [] (SH L, fi, fl, fr) (Ret (SH L, fi, fl, fr) (some (.long (lN (if k < ws.length then ncode (wd x (ws.getD k (0, 0))) else 0))))) := by
    intro z
    refine Rn.iconst (0) k_137 rfl rfl ?_
    refine Rn.istore_n2 k_137 rfl rfl ?_
    refine Rn.iload_n k_137 rfl rfl ?_
    refine Rn.if_eq 47 k_137 rfl rfl (fun h4 => ?_) (fun h4 => ?_)
    · refine Rn.lconst 0 k_137 rfl rfl ?_
      refine Rn.retl k_137 rfl q_137 rfl ?_
      refine ⟨?_, rfl⟩
      rcases z with z | z
      · rw [if_neg z]; rfl
      · rw [z]; split <;> rfl
    · exact absurd rfl h4
  refine Rn.iload_n k_137 rfl rfl ?_
  refine Rn.if_lt 33 k_137 rfl rfl (fun h1 => ?_) (fun h1 => ?_)
  · exact absurd h1 (c_neg (by omega))
  · refine Rn.iload_n k_137 rfl rfl ?_
    refine Rn.aload_n k_137 rfl rfl ?_
    refine Rn.getI k_137 rfl rfl (s588 L) ?_
    rw [hW.1]
    refine Rn.icmp_ge 33 k_137 rfl rfl (fun h2 => ?_) (fun h2 => ?_)
    · rw [nI_leI (by omega) (by omega)] at h2
      exact no (Or.inl (by omega))
    · rw [nI_leI (by omega) (by omega)] at h2
      have hkl : k < ws.length := by omega
      obtain ⟨w1, w2⟩ := hW.2 k hkl
      obtain ⟨w3, w4⟩ := wok_at hw hkl
      obtain ⟨t1, t2⟩ := hT.1 _ (Nat.lt_of_lt_of_le w3 w4)
      have e0 : (wd x (ws.getD k (0, 0))).getD 0 0 = x (ws.getD k (0, 0)).1 := by unfold wd; rw [sl_at (by omega)]; rfl
      refine Rn.aload_n k_137 rfl rfl ?_
      refine Rn.getA k_137 rfl rfl (s588 L) (hF.l 13 rfl) ?_
      refine Rn.aload_n k_137 rfl rfl ?_
      refine Rn.getA k_137 rfl rfl (s588 L) (hF.l 11 rfl) ?_
      refine Rn.iload_n k_137 rfl rfl ?_
      refine Rn.iaload (k) k_137 rfl (s589 L) (rfl) (by omega) (by decide) ?_
      refine Rn.caload ((ws.getD k (0, 0)).1) k_137 rfl (s20 L) (w1) (by omega) (by decide) ?_
      rw [t1]
      refine Rn.cS1I k_137 rfl rfl q_102 rfl (Nat.le_of_ble_eq_true rfl) (Nat.le_of_ble_eq_true rfl) (ct_isLetter (by omega)) ?_
      refine Rn.if_eq 33 k_137 rfl rfl (fun h3 => ?_) (fun h3 => ?_)
      · refine no (Or.inr ?_)
        unfold ncode
        rw [if_neg]
        intro z
        unfold okN at z
        rw [Bool.and_eq_true, e0, (bI_0 _).mp h3] at z
        cases z.2
      · have h3 : isL (x (ws.getD k (0, 0)).1) = true := by
          cases hz : isL (x (ws.getD k (0, 0)).1) with
          | true => rfl
          | false => exact absurd ((bI_0 _).mpr hz) h3
        refine Rn.iconst (1) k_137 rfl rfl ?_
        refine Rn.goto 34 k_137 rfl rfl ?_
        refine Rn.istore_n2 k_137 rfl rfl ?_
        refine Rn.iload_n k_137 rfl rfl ?_
        refine Rn.if_eq 47 k_137 rfl rfl (fun h4 => ?_) (fun h4 => ?_)
        · exact absurd h4 (by decide)
        · refine Rn.aload_n k_137 rfl rfl ?_
          refine Rn.iload_n k_137 rfl rfl ?_
          refine Rn.cV2L k_137 rfl rfl q_138 rfl (Nat.le_of_ble_eq_true rfl) (Nat.le_of_ble_eq_true rfl) (s588 L) (ct_value hF hT hW hw hk) ?_
          refine Rn.goto 48 k_137 rfl rfl ?_
          refine Rn.retl k_137 rfl q_137 rfl ?_
          refine ⟨?_, rfl⟩
          rw [if_pos hkl, if_pos hkl]
          unfold vcode ncode okN
          rw [e0, h3, Bool.and_true]
/-- a digit 1 to 9, or 0 -/
def wnum (x : Nat → Nat) (p : Nat × Nat) : Nat := if p.2 - p.1 = 1 ∧ 49 ≤ x p.1 ∧ x p.1 ≤ 57 then x p.1 - 48 else 0
theorem ct_number (hF : FRok F G fr) (hT : TXr fi x n) (hW : WDr fi ws) (hw : wok n ws) {k : Nat} (hk : k < 2 ^ 30) : Rn d 139 0 [some (.ref 588), some (.int (nI k)), none] [] (SH L, fi, fl, fr) (Ret (SH L, fi, fl, fr) (some (.int (nI (if k < ws.length then wnum x (ws.getD k (0, 0)) else 0))))) := by
  have hn := hT.2
  have hc := hw.2
  have no : (¬ k < ws.length ∨ wnum x (ws.getD k (0, 0)) = 0) → Rn d 139 29 [some (.ref 588), some (.int (nI k)), none] [] (SH L, fi, fl, fr) (Ret (SH L, fi, fl, fr) (some (.int (nI (if k < ws.length then wnum x (ws.getD k (0, 0)) else 0))))) := by
    intro z
    refine Rn.iconst (0) k_139 rfl rfl ?_
    refine Rn.reti k_139 rfl q_139 rfl (rfl) ?_
    refine ⟨?_, rfl⟩
    rcases z with z | z
    · rw [if_neg z]; rfl
    · rw [z]; split <;> rfl
  refine Rn.iload_n k_139 rfl rfl ?_
  refine Rn.if_lt 29 k_139 rfl rfl (fun h1 => ?_) (fun h1 => ?_)
  · exact absurd h1 (c_neg (by omega))
  · refine Rn.iload_n k_139 rfl rfl ?_
    refine Rn.aload_n k_139 rfl rfl ?_
    refine Rn.getI k_139 rfl rfl (s588 L) ?_
    rw [hW.1]
    refine Rn.icmp_ge 29 k_139 rfl rfl (fun h2 => ?_) (fun h2 => ?_)
    · rw [nI_leI (by omega) (by omega)] at h2
      exact no (Or.inl (by omega))
    · rw [nI_leI (by omega) (by omega)] at h2
      have hkl : k < ws.length := by omega
      obtain ⟨w1, w2⟩ := hW.2 k hkl
      obtain ⟨w3, w4⟩ := wok_at hw hkl
      rw [if_pos hkl]
      rw [if_pos hkl] at no
      unfold wnum
      unfold wnum at no
      generalize (ws.getD k (0, 0)).1 = s at w1 w3 no ⊢
      generalize (ws.getD k (0, 0)).2 = e at w2 w3 w4 no ⊢
      obtain ⟨t1, t2⟩ := hT.1 s (by omega)
      refine Rn.aload_n k_139 rfl rfl ?_
      refine Rn.getA k_139 rfl rfl (s588 L) (hF.l 12 rfl) ?_
      refine Rn.iload_n k_139 rfl rfl ?_
      refine Rn.iaload (k) k_139 rfl (s590 L) (rfl) (by omega) (by decide) ?_
      refine Rn.aload_n k_139 rfl rfl ?_
      refine Rn.getA k_139 rfl rfl (s588 L) (hF.l 11 rfl) ?_
      refine Rn.iload_n k_139 rfl rfl ?_
      refine Rn.iaload (k) k_139 rfl (s589 L) (rfl) (by omega) (by decide) ?_
      rw [w1, w2]
      refine Rn.isub k_139 rfl ?_
      rw [pk_sub (by omega)]
      refine Rn.iconst (1) k_139 rfl rfl ?_
      refine Rn.icmp_eq 31 k_139 rfl rfl (fun h3 => ?_) (fun h3 => ?_)
      · rw [c_eq 1 1 rfl (by omega) (by decide)] at h3
        refine Rn.aload_n k_139 rfl rfl ?_
        refine Rn.getA k_139 rfl rfl (s588 L) (hF.l 13 rfl) ?_
        refine Rn.aload_n k_139 rfl rfl ?_
        refine Rn.getA k_139 rfl rfl (s588 L) (hF.l 11 rfl) ?_
        refine Rn.iload_n k_139 rfl rfl ?_
        refine Rn.iaload (k) k_139 rfl (s589 L) (rfl) (by omega) (by decide) ?_
        refine Rn.caload (s) k_139 rfl (s20 L) (w1) (by omega) (by decide) ?_
        rw [t1]
        refine Rn.istore_n2 k_139 rfl rfl ?_
        refine Rn.iload_n k_139 rfl rfl ?_
        refine Rn.bipush (49) k_139 rfl rfl ?_
        refine Rn.icmp_lt 62 k_139 rfl rfl (fun h4 => ?_) (fun h4 => ?_)
        · rw [c_lt 49 49 rfl (by omega) (by decide)] at h4
          refine Rn.iconst (0) k_139 rfl rfl ?_
          refine Rn.reti k_139 rfl q_139 rfl (rfl) ?_
          exact ⟨by rw [if_neg (by omega)]; rfl, rfl⟩
        · rw [c_lt 49 49 rfl (by omega) (by decide)] at h4
          refine Rn.iload_n k_139 rfl rfl ?_
          refine Rn.bipush (57) k_139 rfl rfl ?_
          refine Rn.icmp_gt 62 k_139 rfl rfl (fun h5 => ?_) (fun h5 => ?_)
          · rw [c_gt 57 57 rfl (by omega) (by decide)] at h5
            refine Rn.iconst (0) k_139 rfl rfl ?_
            refine Rn.reti k_139 rfl q_139 rfl (rfl) ?_
            exact ⟨by rw [if_neg (by omega)]; rfl, rfl⟩
          · rw [c_gt 57 57 rfl (by omega) (by decide)] at h5
            refine Rn.iload_n k_139 rfl rfl ?_
            refine Rn.bipush (48) k_139 rfl rfl ?_
            refine Rn.isub k_139 rfl ?_
            refine Rn.goto 63 k_139 rfl rfl ?_
            rw [c_sub 48 48 rfl (by omega)]
            refine Rn.reti k_139 rfl q_139 rfl (rfl) ?_
            exact ⟨by rw [if_pos (by omega)], rfl⟩
      · have h3 : ¬ e - s = 1 := fun z => h3 ((c_eq 1 1 rfl (by omega) (by decide)).mpr z)
        exact no (Or.inr (by rw [if_neg (by omega)]))
theorem ct_isComment (hF : FRok F G fr) (hT : TXr fi x n) (hW : WDr fi ws) (hw : wok n ws) : Rn d 135 0 [some (.ref 588)] [] (SH L, fi, fl, fr) (Ret (SH L, fi, fl, fr) (some (.int (bI (decide (0 < ws.length) && decide (x (ws.getD 0 (0, 0)).1 = 35)))))) := by
  have hn := hT.2
  have hc := hw.2
  have no : (decide (0 < ws.length) && decide (x (ws.getD 0 (0, 0)).1 = 35)) = false → Rn d 135 27 [some (.ref 588)] [] (SH L, fi, fl, fr) (Ret (SH L, fi, fl, fr) (some (.int (bI (decide (0 < ws.length) && decide (x (ws.getD 0 (0, 0)).1 = 35)))))) := by
    intro z
    refine Rn.iconst (0) k_135 rfl rfl ?_
    refine Rn.reti k_135 rfl q_135 rfl (rfl) ?_
    exact ⟨by rw [z]; rfl, rfl⟩
  refine Rn.aload_n k_135 rfl rfl ?_
  refine Rn.getI k_135 rfl rfl (s588 L) ?_
  rw [hW.1]
  refine Rn.if_le 27 k_135 rfl rfl (fun h1 => ?_) (fun h1 => ?_)
  · rw [c_le 0 0 rfl (by omega) (by decide)] at h1
    exact no (by rw [decide_eq_false (show ¬ 0 < ws.length by omega)]; rfl)
  · rw [c_le 0 0 rfl (by omega) (by decide)] at h1
    have hkl : 0 < ws.length := by omega
    obtain ⟨w1, w2⟩ := hW.2 0 hkl
    obtain ⟨w3, w4⟩ := wok_at hw hkl
    obtain ⟨t1, t2⟩ := hT.1 _ (Nat.lt_of_lt_of_le w3 w4)
    refine Rn.aload_n k_135 rfl rfl ?_
    refine Rn.getA k_135 rfl rfl (s588 L) (hF.l 13 rfl) ?_
    refine Rn.aload_n k_135 rfl rfl ?_
    refine Rn.getA k_135 rfl rfl (s588 L) (hF.l 11 rfl) ?_
    refine Rn.iconst (0) k_135 rfl rfl ?_
    refine Rn.iaload (0) k_135 rfl (s589 L) (rfl) (by omega) (by decide) ?_
    refine Rn.caload ((ws.getD 0 (0, 0)).1) k_135 rfl (s20 L) (w1) (by omega) (by decide) ?_
    rw [t1]
    refine Rn.bipush (35) k_135 rfl rfl ?_
    refine Rn.icmp_ne 27 k_135 rfl rfl (fun h2 => ?_) (fun h2 => ?_)
    · have h2 : ¬ x (ws.getD 0 (0, 0)).1 = 35 := fun z => h2 ((c_eq 35 35 rfl (by omega) (by decide)).mpr z)
      exact no (by rw [decide_eq_false h2, Bool.and_false])
    · rw [c_eq 35 35 rfl (by omega) (by decide)] at h2
      refine Rn.iconst (1) k_135 rfl rfl ?_
      refine Rn.goto 28 k_135 rfl rfl ?_
      refine Rn.reti k_135 rfl q_135 rfl (rfl) ?_
      exact ⟨by rw [decide_eq_true hkl, decide_eq_true h2]; rfl, rfl⟩
theorem ct_beginWith (hF : FRok F G fr) (hT : TXr fi x n) (hW : WDr fi ws) (hw : wok n ws) (h0 : 0 < ws.length) {k : Nat} {w : List Nat} (hS : STr L fi fr k w) : Rn (d + 4) 136 0 [some (.ref 588), some (.ref k), none] [] (SH L, fi, fl, fr) (Ret (SH L, fi, fl, fr) (some (.int (bI (decide (wd x (ws.getD 0 (0, 0)) = w)))))) := by
  have hn := hT.2
  have hc := hw.2
  have hl := hS.2.2.2.2.2
  obtain ⟨w1, w2⟩ := hW.2 0 h0
  obtain ⟨w3, w4⟩ := wok_at hw h0
  unfold wd
  generalize (ws.getD 0 (0, 0)).1 = s at w1 w3 ⊢
  generalize (ws.getD 0 (0, 0)).2 = e at w2 w3 w4 ⊢
  refine Rn.aload_n k_136 rfl rfl ?_
  refine Rn.getI k_136 rfl rfl (s588 L) ?_
  rw [hW.1]
  refine Rn.if_eq 27 k_136 rfl rfl (fun h1 => ?_) (fun h1 => ?_)
  · exact absurd ((c_eq 0 0 rfl (by omega) (by decide)).mp h1) (by omega)
  · refine Rn.aload_n k_136 rfl rfl ?_
    refine Rn.getA k_136 rfl rfl (s588 L) (hF.l 12 rfl) ?_
    refine Rn.iconst (0) k_136 rfl rfl ?_
    refine Rn.iaload (0) k_136 rfl (s590 L) (rfl) (by omega) (by decide) ?_
    refine Rn.aload_n k_136 rfl rfl ?_
    refine Rn.getA k_136 rfl rfl (s588 L) (hF.l 11 rfl) ?_
    refine Rn.iconst (0) k_136 rfl rfl ?_
    refine Rn.iaload (0) k_136 rfl (s589 L) (rfl) (by omega) (by decide) ?_
    rw [w1, w2]
    refine Rn.isub k_136 rfl ?_
    rw [pk_sub (by omega)]
    refine Rn.aload_n k_136 rfl rfl ?_
    refine Rn.cV1I k_136 rfl rfl q_140 rfl (Nat.le_of_ble_eq_true rfl) (Nat.le_of_ble_eq_true rfl) hS.1 (ct_strlen hS) ?_
    refine Rn.icmp_eq 29 k_136 rfl rfl (fun h2 => ?_) (fun h2 => ?_)
    · rw [nI_eq (by omega) (by omega)] at h2
      have loop : ∀ (q i : Nat), i + q = w.length → (∀ j, j < i → x (s + j) = w.getD j 0) → Rn (d + 4) 136 31 [some (.ref 588), some (.ref k), some (.int (nI i))] [] (SH L, fi, fl, fr) (Ret (SH L, fi, fl, fr) (some (.int (bI (decide (sl x s e = w)))))) := by
        intro q
        induction q with
        | zero =>
          intro i hi hj
          refine Rn.iload_n k_136 rfl rfl ?_
          refine Rn.aload_n k_136 rfl rfl ?_
          refine Rn.cV1I k_136 rfl rfl q_140 rfl (Nat.le_of_ble_eq_true rfl) (Nat.le_of_ble_eq_true rfl) hS.1 (ct_strlen hS) ?_
          refine Rn.icmp_ge 68 k_136 rfl rfl (fun h3 => ?_) (fun h3 => ?_)
          · refine Rn.iconst (1) k_136 rfl rfl ?_
            refine Rn.reti k_136 rfl q_136 rfl (rfl) ?_
            refine ⟨?_, rfl⟩
            have : sl x s e = w := by
              apply List.ext_getElem
              · rw [sl_len, h2]
              · intro j j1 j2
                have := hj j (by omega)
                rw [sl_len] at j1
                have a1 := sl_at (x := x) (s := s) (e := e) j1
                rw [List.getD_eq_getElem?_getD, List.getElem?_eq_getElem (by rw [sl_len]; exact j1)] at a1
                rw [List.getD_eq_getElem?_getD, List.getElem?_eq_getElem j2] at this
                exact a1.trans this
            rw [decide_eq_true this]
            rfl
          · exact absurd ((nI_leI (by omega) (by omega)).mpr (by omega)) h3
        | succ q ih =>
          intro i hi hj
          obtain ⟨t1, t2⟩ := hT.1 (s + i) (by omega)
          obtain ⟨u1, u2⟩ := hS.2.2.2.2.1 i (by omega)
          refine Rn.iload_n k_136 rfl rfl ?_
          refine Rn.aload_n k_136 rfl rfl ?_
          refine Rn.cV1I k_136 rfl rfl q_140 rfl (Nat.le_of_ble_eq_true rfl) (Nat.le_of_ble_eq_true rfl) hS.1 (ct_strlen hS) ?_
          refine Rn.icmp_ge 68 k_136 rfl rfl (fun h3 => ?_) (fun h3 => ?_)
          · exact absurd ((nI_leI (by omega) (by omega)).mp h3) (by omega)
          · refine Rn.aload_n k_136 rfl rfl ?_
            refine Rn.getA k_136 rfl rfl (s588 L) (hF.l 13 rfl) ?_
            refine Rn.aload_n k_136 rfl rfl ?_
            refine Rn.getA k_136 rfl rfl (s588 L) (hF.l 11 rfl) ?_
            refine Rn.iconst (0) k_136 rfl rfl ?_
            refine Rn.iaload (0) k_136 rfl (s589 L) (rfl) (by omega) (by decide) ?_
            refine Rn.iload_n k_136 rfl rfl ?_
            rw [w1]
            refine Rn.iadd k_136 rfl ?_
            rw [nI_add]
            refine Rn.caload (s + i) k_136 rfl (s20 L) (rfl) (by omega) (by decide) ?_
            rw [t1]
            refine Rn.aload_n k_136 rfl rfl ?_
            refine Rn.iload_n k_136 rfl rfl ?_
            refine Rn.cV2I k_136 rfl rfl q_142 rfl (Nat.le_of_ble_eq_true rfl) (Nat.le_of_ble_eq_true rfl) hS.1 (ct_charAt hS (by omega)) ?_
            refine Rn.icmp_eq 62 k_136 rfl rfl (fun h4 => ?_) (fun h4 => ?_)
            · rw [nI_eq (by omega) (by omega)] at h4
              refine Rn.iinc2 (1) k_136 rfl rfl rfl ?_
              rw [c_add 1 1 rfl]
              refine Rn.goto 31 k_136 rfl rfl ?_
              refine ih (i + 1) (by omega) (fun j hji => ?_)
              by_cases e1 : j = i
              · rw [e1]; exact h4
              · exact hj j (by omega)
            · have h4 : ¬ x (s + i) = w.getD i 0 := fun z => h4 (by rw [z])
              refine Rn.iconst (0) k_136 rfl rfl ?_
              refine Rn.reti k_136 rfl q_136 rfl (rfl) ?_
              refine ⟨?_, rfl⟩
              rw [decide_eq_false]
              · rfl
              · intro z
                apply h4
                rw [← z, sl_at (by omega)]
      refine Rn.iconst (0) k_136 rfl rfl ?_
      refine Rn.istore_n2 k_136 rfl rfl ?_
      exact loop w.length 0 (Nat.zero_add _) (fun j hj => absurd hj (Nat.not_lt_zero j))
    · have h2 : ¬ e - s = w.length := fun z => h2 (by rw [z])
      refine Rn.iconst (0) k_136 rfl rfl ?_
      refine Rn.reti k_136 rfl q_136 rfl (rfl) ?_
      refine ⟨?_, rfl⟩
      rw [decide_eq_false]
      · rfl
      · intro z
        apply h2
        rw [← z, sl_len]
end WD
end
section
/-! Words.add, Words.cut -/
/-- the words of what is left, k characters from i on; one that began at s may be open -/
def cw (x : Nat → Nat) : Nat → Nat → Nat → List (Nat × Nat)
  | 0, i, s => if s < i then [(s, i)] else []
  | k + 1, i, s => if x i = 32 then (if s < i then [(s, i)] else []) ++ cw x k (i + 1) (i + 1) else cw x k (i + 1) s
theorem cw_ok (x : Nat → Nat) : ∀ (k i s : Nat), ∀ p ∈ cw x k i s, p.1 < p.2 ∧ p.2 ≤ i + k := by
  intro k
  induction k with
  | zero =>
    intro i s p hp
    unfold cw at hp
    split at hp
    · rw [List.mem_singleton.mp hp]; exact ⟨by assumption, by simp⟩
    · cases hp
  | succ k ih =>
    intro i s p hp
    unfold cw at hp
    split at hp
    · rcases List.mem_append.mp hp with z | z
      · split at z
        · rw [List.mem_singleton.mp z]; exact ⟨by assumption, by simp⟩
        · cases z
      · have := ih _ _ p z
        exact ⟨this.1, by omega⟩
    · have := ih _ _ p hp
      exact ⟨this.1, by omega⟩
theorem cw_len (x : Nat → Nat) : ∀ (k i s : Nat), s ≤ i → 2 * (cw x k i s).length ≤ k + (i - s) + 1 := by
  intro k
  induction k with
  | zero =>
    intro i s h
    unfold cw
    split <;> simp <;> omega
  | succ k ih =>
    intro i s h
    unfold cw
    split
    · rw [List.length_append]
      have := ih (i + 1) (i + 1) (Nat.le_refl _)
      split
      · simp only [List.length_singleton]; omega
      · simp only [List.length_nil]; omega
    · have := ih (i + 1) s (by omega)
      omega
/-- the words from a up to b -/
def cutW (x : Nat → Nat) (a b : Nat) : List (Nat × Nat) := cw x (b - a) a a
theorem cutW_ok (x : Nat → Nat) {a b n : Nat} (h : a ≤ b) (hb : b ≤ n) (hn : n ≤ 1200) : wok n (cutW x a b) := by
  refine ⟨fun p hp => ?_, ?_⟩
  · have := cw_ok x _ _ _ p hp
    exact ⟨this.1, by omega⟩
  · have := cw_len x (b - a) a a (Nat.le_refl _)
    unfold cutW
    omega
def wdF (a : Nat) : Prop := a ≠ 588 ∧ a ≠ 589 ∧ a ≠ 590
theorem WDr.add {fi : Nat → Nat → Int32} {ws : List (Nat × Nat)} (h : WDr fi ws) (s e : Nat) : WDr (up2 (up2 (up2 fi 589 ws.length (nI s)) 590 ws.length (nI e)) 588 2 (nI (ws.length + 1))) (ws ++ [(s, e)]) := by
  refine ⟨by rw [up2_same, List.length_append]; rfl, fun k hk => ?_⟩
  rw [List.length_append] at hk
  have hk : k < ws.length + 1 := hk
  rw [up2_row _ _ (show (589 : Nat) ≠ 588 by decide), up2_row _ _ (show (589 : Nat) ≠ 590 by decide), up2_row _ _ (show (590 : Nat) ≠ 588 by decide)]
  by_cases e1 : k = ws.length
  · subst e1
    rw [up2_same, up2_same, List.getD_eq_getElem?_getD, List.getElem?_append_right (Nat.le_refl _), Nat.sub_self]
    exact ⟨rfl, rfl⟩
  · rw [up2_col _ _ e1, up2_col _ _ e1, up2_row _ _ (show (590 : Nat) ≠ 589 by decide), List.getD_eq_getElem?_getD, List.getElem?_append_left (by omega), ← List.getD_eq_getElem?_getD]
    exact h.2 k (by omega)
section WD
variable {d L : Nat} {fi : Nat → Nat → Int32} {fl : Nat → Nat → Int64} {fr : Nat → Nat → Option Nat} {F G : Nat} {x : Nat → Nat} {n : Nat} {ws : List (Nat × Nat)}
theorem ct_wadd (hF : FRok F G fr) (hW : WDr fi ws) {s e : Nat} (hs : s < 2 ^ 30) (he : e < 2 ^ 30) (hl : s < e → ws.length < 600) (hl2 : ws.length ≤ 600) : Rn d 134 0 [some (.ref 588), some (.int (nI s)), some (.int (nI e))] [] (SH L, fi, fl, fr) (fun v h' => v = none ∧ ∃ fi', h' = (SH L, fi', fl, fr) ∧ WDr fi' (ws ++ (if s < e then [(s, e)] else [])) ∧ ∀ a k, wdF a → fi' a k = fi a k) := by
  refine Rn.iload_n k_134 rfl rfl ?_
  refine Rn.iload_n k_134 rfl rfl ?_
  refine Rn.icmp_ge 47 k_134 rfl rfl (fun h1 => ?_) (fun h1 => ?_)
  · rw [nI_leI (by omega) (by omega)] at h1
    refine Rn.retv k_134 rfl q_134 rfl ?_
    rw [if_neg (by omega), List.append_nil]
    exact ⟨rfl, fi, rfl, hW, fun _ _ _ => rfl⟩
  · rw [nI_leI (by omega) (by omega)] at h1
    have hl := hl (by omega)
    refine Rn.aload_n k_134 rfl rfl ?_
    refine Rn.getI k_134 rfl rfl (s588 L) ?_
    refine Rn.aload_n k_134 rfl rfl ?_
    refine Rn.getA k_134 rfl rfl (s588 L) (hF.l 11 rfl) ?_
    refine Rn.alen k_134 rfl (s589 L) rfl (by decide) ?_
    rw [hW.1]
    refine Rn.icmp_ge 47 k_134 rfl rfl (fun h2 => ?_) (fun h2 => ?_)
    · exact absurd ((nI_leI (by omega) (by omega)).mp h2) (by omega)
    · refine Rn.aload_n k_134 rfl rfl ?_
      refine Rn.getA k_134 rfl rfl (s588 L) (hF.l 11 rfl) ?_
      refine Rn.aload_n k_134 rfl rfl ?_
      refine Rn.getI k_134 rfl rfl (s588 L) ?_
      refine Rn.iload_n k_134 rfl rfl ?_
      refine Rn.iastore (ws.length) k_134 rfl (s589 L) (hW.1) (by omega) (by decide) (rfl) ?_
      refine Rn.aload_n k_134 rfl rfl ?_
      refine Rn.getA k_134 rfl rfl (s588 L) (hF.l 12 rfl) ?_
      refine Rn.aload_n k_134 rfl rfl ?_
      refine Rn.getI k_134 rfl rfl (s588 L) ?_
      refine Rn.iload_n k_134 rfl rfl ?_
      refine Rn.iastore (ws.length) k_134 rfl (s590 L) (hW.1) (by omega) (by decide) (rfl) ?_
      refine Rn.aload_n k_134 rfl rfl ?_
      refine Rn.dupa k_134 rfl ?_
      refine Rn.getI k_134 rfl rfl (s588 L) ?_
      refine Rn.iconst (1) k_134 rfl rfl ?_
      rw [show up2 (up2 fi 589 ws.length (nI s)) 590 ws.length (nI e) 588 2 = nI ws.length from hW.1]
      refine Rn.iadd k_134 rfl ?_
      rw [c_add 1 1 rfl]
      refine Rn.putI k_134 rfl (rfl) (s588 L) ?_
      refine Rn.retv k_134 rfl q_134 rfl ?_
      rw [if_pos (by omega)]
      refine ⟨rfl, _, rfl, hW.add s e, fun a k ha => ?_⟩
      rw [up2_row _ _ ha.1, up2_row _ _ ha.2.2, up2_row _ _ ha.2.1]
theorem ct_cut (hF : FRok F G fr) (hT : TXr fi x n) {a b : Nat} (hab : a ≤ b) (hb : b ≤ n) : Rn (d + 1) 133 0 [some (.ref 588), some (.int (nI a)), some (.int (nI b)), none, none] [] (SH L, fi, fl, fr) (fun v h' => v = none ∧ ∃ fi', h' = (SH L, fi', fl, fr) ∧ WDr fi' (cutW x a b) ∧ ∀ a k, wdF a → fi' a k = fi a k) := by
  have hn := hT.2
  have loop : ∀ (k i s : Nat) (acc : List (Nat × Nat)) (gi : Nat → Nat → Int32), i + k = b → s ≤ i → a ≤ s → 2 * acc.length + (k + (i - s) + 1) ≤ 1201 → WDr gi acc → (∀ a k, wdF a → gi a k = fi a k) → acc ++ cw x k i s = cutW x a b → Rn (d + 1) 133 10 [some (.ref 588), some (.int (nI a)), some (.int (nI b)), some (.int (nI s)), some (.int (nI i))] [] (SH L, gi, fl, fr) (fun v h' => v = none ∧ ∃ fi', h' = (SH L, fi', fl, fr) ∧ WDr fi' (cutW x a b) ∧ ∀ a k, wdF a → fi' a k = fi a k) := by
    intro k
    induction k with
    | zero =>
      intro i s acc gi hi hsi has hq hW hg he
      have : i = b := by omega
      subst this
      refine Rn.iload k_133 rfl rfl ?_
      refine Rn.iload_n k_133 rfl rfl ?_
      refine Rn.icmp_gt 52 k_133 rfl rfl (fun h1 => ?_) (fun h1 => ?_)
      · exact absurd ((nI_ltI (by omega) (by omega)).mp h1) (by omega)
      · refine Rn.iload k_133 rfl rfl ?_
        refine Rn.iload_n k_133 rfl rfl ?_
        refine Rn.icmp_eq 34 k_133 rfl rfl (fun h2 => ?_) (fun h2 => ?_)
        · refine Rn.aload_n k_133 rfl rfl ?_
          refine Rn.iload_n k_133 rfl rfl ?_
          refine Rn.iload k_133 rfl rfl ?_
          refine Rn.cV3 k_133 rfl rfl q_134 rfl (Nat.le_of_ble_eq_true rfl) (Nat.le_of_ble_eq_true rfl) (s588 L) (ct_wadd hF hW (by omega) (by omega) (by omega) (by omega)) (fun v h1' hq' => ?_)
          obtain ⟨rfl, fi', rfl, hW', hg'⟩ := hq'
          show Rn _ _ _ _ [] _ _
          refine Rn.iload k_133 rfl rfl ?_
          refine Rn.iconst (1) k_133 rfl rfl ?_
          refine Rn.iadd k_133 rfl ?_
          rw [c_add 1 1 rfl]
          refine Rn.istore_n3 k_133 rfl rfl ?_
          refine Rn.iinc4 (1) k_133 rfl rfl rfl ?_
          rw [c_add 1 1 rfl]
          refine Rn.goto 10 k_133 rfl rfl ?_
          refine Rn.iload k_133 rfl rfl ?_
          refine Rn.iload_n k_133 rfl rfl ?_
          refine Rn.icmp_gt 52 k_133 rfl rfl (fun h1 => ?_) (fun h1 => ?_)
          · refine Rn.retv k_133 rfl q_133 rfl ?_
            refine ⟨rfl, fi', rfl, ?_, fun a k ha => (hg' a k ha).trans (hg a k ha)⟩
            rw [← he]
            exact hW'
          · exact absurd ((nI_ltI (by omega) (by omega)).mpr (by omega)) h1
        · exact absurd rfl h2
    | succ k ih =>
      intro i s acc gi hi hsi has hq hW hg he
      obtain ⟨t1, t2⟩ := hT.1 i (by omega)
      have t1 : gi 20 i = nI (x i) := (hg 20 i ⟨by decide, by decide, by decide⟩).trans t1
      refine Rn.iload k_133 rfl rfl ?_
      refine Rn.iload_n k_133 rfl rfl ?_
      refine Rn.icmp_gt 52 k_133 rfl rfl (fun h1 => ?_) (fun h1 => ?_)
      · exact absurd ((nI_ltI (by omega) (by omega)).mp h1) (by omega)
      · refine Rn.iload k_133 rfl rfl ?_
        refine Rn.iload_n k_133 rfl rfl ?_
        refine Rn.icmp_eq 34 k_133 rfl rfl (fun h2 => ?_) (fun h2 => ?_)
        · exact absurd ((nI_eq (by omega) (by omega)).mp h2) (by omega)
        · refine Rn.aload_n k_133 rfl rfl ?_
          refine Rn.getA k_133 rfl rfl (s588 L) (hF.l 13 rfl) ?_
          refine Rn.iload k_133 rfl rfl ?_
          refine Rn.caload (i) k_133 rfl (s20 L) (rfl) (by omega) (by decide) ?_
          rw [t1]
          refine Rn.bipush (32) k_133 rfl rfl ?_
          refine Rn.icmp_ne 46 k_133 rfl rfl (fun h3 => ?_) (fun h3 => ?_)
          · have h3 : ¬ x i = 32 := fun z => h3 ((c_eq 32 32 rfl (by omega) (by decide)).mpr z)
            refine Rn.iinc4 (1) k_133 rfl rfl rfl ?_
            rw [c_add 1 1 rfl]
            refine Rn.goto 10 k_133 rfl rfl ?_
            refine ih (i + 1) s acc gi (by omega) (by omega) has (by omega) hW hg ?_
            rw [← he, cw, if_neg h3]
          · rw [c_eq 32 32 rfl (by omega) (by decide)] at h3
            refine Rn.aload_n k_133 rfl rfl ?_
            refine Rn.iload_n k_133 rfl rfl ?_
            refine Rn.iload k_133 rfl rfl ?_
            refine Rn.cV3 k_133 rfl rfl q_134 rfl (Nat.le_of_ble_eq_true rfl) (Nat.le_of_ble_eq_true rfl) (s588 L) (ct_wadd hF hW (by omega) (by omega) (by omega) (by omega)) (fun v h1' hq' => ?_)
            obtain ⟨rfl, fi', rfl, hW', hg'⟩ := hq'
            show Rn _ _ _ _ [] _ _
            refine Rn.iload k_133 rfl rfl ?_
            refine Rn.iconst (1) k_133 rfl rfl ?_
            refine Rn.iadd k_133 rfl ?_
            rw [c_add 1 1 rfl]
            refine Rn.istore_n3 k_133 rfl rfl ?_
            refine Rn.iinc4 (1) k_133 rfl rfl rfl ?_
            rw [c_add 1 1 rfl]
            refine Rn.goto 10 k_133 rfl rfl ?_
            refine ih (i + 1) (i + 1) _ fi' (by omega) (Nat.le_refl _) (by omega) ?_ hW' (fun a k ha => (hg' a k ha).trans (hg a k ha)) ?_
            · rw [List.length_append]
              split
              · simp only [List.length_singleton]; omega
              · simp only [List.length_nil]; omega
            · rw [← he, cw, if_pos h3, List.append_assoc]
  refine Rn.aload_n k_133 rfl rfl ?_
  refine Rn.iconst (0) k_133 rfl rfl ?_
  refine Rn.putI k_133 rfl (rfl) (s588 L) ?_
  refine Rn.iload_n k_133 rfl rfl ?_
  refine Rn.istore_n3 k_133 rfl rfl ?_
  refine Rn.iload_n k_133 rfl rfl ?_
  refine Rn.istore4 k_133 rfl rfl ?_
  refine loop (b - a) a a [] _ (by omega) (Nat.le_refl _) (Nat.le_refl _) (by simp only [List.length_nil]; omega) ?_ ?_ rfl
  · exact ⟨up2_same _ _ _ _, fun k hk => absurd hk (Nat.not_lt_zero k)⟩
  · intro a k ha
    exact up2_row _ _ ha.1
end WD
end
section
/-! WHAT A SCRIPT SAYS, in numbers and lists: the middle to which the class and the reference are both tied -/
abbrev Nm : Type := List Nat
/-- a case: how many suites stand before it (0: it is in none, else its suite is the last of them), name, line, size (0: not said), reason (from, end), expected to fail, its own tags, parameters with values -/
abbrev KS : Type := Nat × Nm × Nat × Nat × Option (Nat × Nat) × Bool × List Nm × List (Nm × List Nm)
def k_su (k : KS) : Nat := k.1
def k_nm (k : KS) : Nm := k.2.1
def k_ln (k : KS) : Nat := k.2.2.1
def k_sz (k : KS) : Nat := k.2.2.2.1
def k_rs (k : KS) : Option (Nat × Nat) := k.2.2.2.2.1
def k_fl (k : KS) : Bool := k.2.2.2.2.2.1
def k_tg (k : KS) : List Nm := k.2.2.2.2.2.2.1
def k_ps (k : KS) : List (Nm × List Nm) := k.2.2.2.2.2.2.2
def ways (ps : List (Nm × List Nm)) : Nat := ps.foldl (fun a p => a * p.2.length) 1
theorem ways_app (ps : List (Nm × List Nm)) (p : Nm × List Nm) : ways (ps ++ [p]) = ways ps * p.2.length := by unfold ways; rw [List.foldl_append]; rfl
/-- suites with their tags, cases, whether a case is open -/
abbrev AS : Type := List (Nm × List Nm) × List KS × Bool
def totW (ks : List KS) : Nat := (ks.map (fun k => ways (k_ps k))).sum
/-- the tags of the suite behind which a case stands -/
def stg (ss : List (Nm × List Nm)) (su : Nat) : List Nm := match su with
  | 0 => []
  | s + 1 => (ss.getD s ([], [])).2
def snm (ss : List (Nm × List Nm)) (su : Nat) : Nm := match su with
  | 0 => []
  | s + 1 => (ss.getD s ([], [])).1
def atg (ss : List (Nm × List Nm)) (k : KS) : List Nm := stg ss (k_su k) ++ k_tg k
/-- one more tag: of the open case, or of the last suite -/
def tagW (A : AS) (t : Nm) : Option AS :=
  if okN t = false then none else
  if A.2.2 = true then
    match A.2.1.getLast? with
    | none => none
    | some k => if t ∈ atg A.1 k ∨ 8 ≤ (atg A.1 k).length then none else
      some (A.1, A.2.1.dropLast ++ [(k_su k, k_nm k, k_ln k, k_sz k, k_rs k, k_fl k, k_tg k ++ [t], k_ps k)], A.2.2)
  else
    match A.1.getLast? with
    | none => none
    | some s => if t ∈ s.2 ∨ 8 ≤ s.2.length then none else some (A.1.dropLast ++ [(s.1, s.2 ++ [t])], A.2.1, A.2.2)
def tagsW (A : AS) : List Nm → Option AS
  | [] => some A
  | t :: ts => match tagW A t with
    | none => none
    | some B => tagsW B ts
/-- the values of a parameter: right, and each once -/
def valsOk : List Nm → List Nm → Bool
  | _, [] => true
  | acc, v :: vs => okV v && decide (v ∉ acc) && valsOk (acc ++ [v]) vs
def onLast (A : AS) (f : KS → Option KS) : Option AS := if A.2.2 = true then
    match A.2.1.getLast? with
    | none => none
    | some k => match f k with
      | none => none
      | some k' => some (A.1, A.2.1.dropLast ++ [k'], A.2.2)
  else none
/-- a line, by its words (the text x): none if it is ill -/
def lineW (x : Nat → Nat) (A : AS) (line : Nat) (ws : List (Nat × Nat)) : Option AS := match ws with
  | [] => some A
  | w0 :: rest => if x w0.1 = 35 then some A else
    let key := wd x w0
    let ts := rest.map (wd x)
    if key = [115, 117, 105, 116, 101] then
      match ts with
      | [t] => if okN t = true ∧ A.1.length < 10 ∧ t ∉ A.1.map (·.1) then some (A.1 ++ [(t, [])], A.2.1, false) else none
      | _ => none
    else if key = [99, 97, 115, 101] then
      match ts with
      | [t] => if okN t = true ∧ A.2.1.length < 40 ∧ totW A.2.1 < 120 ∧ (∀ k ∈ A.2.1, ¬ (k_su k = A.1.length ∧ k_nm k = t)) then some (A.1, A.2.1 ++ [(A.1.length, t, line, 0, none, false, [], [])], true) else none
      | _ => none
    else if key = [116, 97, 103] then
      if ts = [] ∨ (A.2.2 = false ∧ A.1 = []) then none else tagsW A ts
    else if key = [119, 105, 116, 104] then
      match ts with
      | t :: vs => if okN t = true ∧ 1 ≤ vs.length ∧ vs.length ≤ 6 ∧ valsOk [] vs = true then
          match onLast A (fun k => if (k_ps k).length < 4 ∧ t ∉ (k_ps k).map (·.1) ∧ ways (k_ps k) * vs.length ≤ 24 then some (k_su k, k_nm k, k_ln k, k_sz k, k_rs k, k_fl k, k_tg k, k_ps k ++ [(t, vs)]) else none) with
          | none => none
          | some B => if totW B.2.1 ≤ 120 then some B else none
        else none
      | [] => none
    else if key = [115, 105, 122, 101] then
      match rest with
      | [w] => if wnum x w = 0 then none else onLast A (fun k => if k_sz k = 0 then some (k_su k, k_nm k, k_ln k, wnum x w, k_rs k, k_fl k, k_tg k, k_ps k) else none)
      | _ => none
    else if key = [115, 107, 105, 112] then
      match rest with
      | [] => none
      | w :: _ => onLast A (fun k => if k_rs k = none then some (k_su k, k_nm k, k_ln k, k_sz k, some (w.1, (ws.getLastD (0, 0)).2), k_fl k, k_tg k, k_ps k) else none)
    else if key = [102, 97, 105, 108, 115] then
      if rest = [] then onLast A (fun k => if k_fl k = false then some (k_su k, k_nm k, k_ln k, k_sz k, k_rs k, true, k_tg k, k_ps k) else none) else none
    else none
/-- where the line that begins at i ends, k characters being left -/
def eol (x : Nat → Nat) : Nat → Nat → Nat
  | 0, i => i
  | k + 1, i => if x i = 10 then i else eol x k (i + 1)
theorem eol_ge (x : Nat → Nat) : ∀ k i, i ≤ eol x k i ∧ eol x k i ≤ i + k := by
  intro k
  induction k with
  | zero => intro i; exact ⟨Nat.le_refl _, Nat.le_refl _⟩
  | succ k ih =>
    intro i
    unfold eol
    split
    · exact ⟨Nat.le_refl _, by omega⟩
    · have := ih (i + 1); omega
/-- the lines from i on: what all say, or the first that is ill -/
def linesW (x : Nat → Nat) (n : Nat) : Nat → AS → Nat → Nat → AS ⊕ Nat
  | 0, A, _, _ => .inl A
  | f + 1, A, line, i => if n ≤ i then .inl A else
    match lineW x A line (cutW x i (eol x (n - i) i)) with
    | none => .inr line
    | some B => linesW x n f B (line + 1) (eol x (n - i) i + 1)
/-- what is held of all names, numbers and places -/
def KOk (ss : List (Nm × List Nm)) (n : Nat) (k : KS) : Prop := k_su k ≤ ss.length ∧ okN (k_nm k) = true ∧ k_nm k ≠ [] ∧ k_sz k ≤ 9 ∧ (∀ r, k_rs k = some r → r.1 < r.2 ∧ r.2 ≤ n) ∧ (∀ t ∈ k_tg k, okN t = true ∧ t ≠ []) ∧ (atg ss k).length ≤ 8 ∧ (atg ss k).Nodup ∧ (k_ps k).length ≤ 4 ∧ (∀ p ∈ k_ps k, okN p.1 = true ∧ p.1 ≠ [] ∧ 1 ≤ p.2.length ∧ p.2.length ≤ 6 ∧ (∀ v ∈ p.2, okV v = true ∧ v ≠ []) ∧ p.2.Nodup) ∧ ((k_ps k).map (·.1)).Nodup ∧ ways (k_ps k) ≤ 24
def AOk (n : Nat) (A : AS) : Prop := A.1.length ≤ 10 ∧ (∀ s ∈ A.1, okN s.1 = true ∧ s.1 ≠ [] ∧ s.2.length ≤ 8 ∧ s.2.Nodup ∧ ∀ t ∈ s.2, okN t = true ∧ t ≠ []) ∧ (A.1.map (·.1)).Nodup ∧ A.2.1.length ≤ 40 ∧ (∀ k ∈ A.2.1, KOk A.1 n k) ∧ totW A.2.1 ≤ 120 ∧ (A.2.2 = true → A.2.1 ≠ [] ∧ ∀ k, A.2.1.getLast? = some k → k_su k = A.1.length) ∧ (A.2.2 = false → ∀ k ∈ A.2.1, A.1.length = 0 ∨ k_su k < A.1.length)
end
section
/-! how the class holds a script: cases, their rows -/
def dK : KS := (0, [], 0, 0, none, false, [], [])
/-- the Case object number i holds k; sn, st: its suite's name and tags -/
def CKr (fi : Nat → Nat → Int32) (fl : Nat → Nat → Int64) (i : Nat) (k : KS) (sn : Nm) (st : List Nm) : Prop :=
  fl (25 + 14 * i) 0 = lN (enc (k_nm k)) ∧ fl (25 + 14 * i) 1 = lN (enc sn) ∧ fi (25 + 14 * i) 2 = nI (k_su k) - 1 ∧ fi (25 + 14 * i) 3 = nI (k_ln k) ∧ fi (25 + 14 * i) 4 = nI (if k_sz k = 0 then 1 else k_sz k) ∧ fi (25 + 14 * i) 5 = bI (k_rs k).isSome ∧ fi (25 + 14 * i) 6 = bI (k_fl k) ∧ (∀ r, k_rs k = some r → fi (25 + 14 * i) 7 = nI r.1 ∧ fi (25 + 14 * i) 8 = nI r.2) ∧ fi (25 + 14 * i) 10 = nI (ways (k_ps k)) ∧ fi (25 + 14 * i) 11 = bI (decide (k_sz k ≠ 0)) ∧
  NRr fi fl (25 + 14 * i + 1) (25 + 14 * i + 2) ((st ++ k_tg k).map enc) ∧ NRr fi fl (25 + 14 * i + 3) (25 + 14 * i + 4) ((k_ps k).map (fun p => enc p.1)) ∧ ∀ p, p < (k_ps k).length → NRr fi fl (25 + 14 * i + (6 + 2 * p)) (25 + 14 * i + (7 + 2 * p)) (((k_ps k).getD p ([], [])).2.map enc)
theorem CKr.keep {fi fi' : Nat → Nat → Int32} {fl fl' : Nat → Nat → Int64} {i : Nat} {k : KS} {sn : Nm} {st : List Nm} (hps : (k_ps k).length ≤ 4) (h : CKr fi fl i k sn st) (h1 : ∀ a q, 25 + 14 * i ≤ a → a < 25 + 14 * i + 14 → fi' a q = fi a q) (h2 : ∀ a q, 25 + 14 * i ≤ a → a < 25 + 14 * i + 14 → fl' a q = fl a q) : CKr fi' fl' i k sn st := by
  obtain ⟨a1, a2, a3, a4, a5, a6, a7, a8, a9, a10, a11, a12, a13⟩ := h
  have e1 : ∀ q, fi' (25 + 14 * i) q = fi (25 + 14 * i) q := fun q => h1 _ _ (Nat.le_refl _) (by omega)
  have e2 : ∀ q, fl' (25 + 14 * i) q = fl (25 + 14 * i) q := fun q => h2 _ _ (Nat.le_refl _) (by omega)
  refine ⟨(e2 0).trans a1, (e2 1).trans a2, (e1 2).trans a3, (e1 3).trans a4, (e1 4).trans a5, (e1 5).trans a6, (e1 6).trans a7, fun r hr => ⟨(e1 7).trans (a8 r hr).1, (e1 8).trans (a8 r hr).2⟩, (e1 10).trans a9, (e1 11).trans a10, a11.keep (h1 _ _ (by omega) (by omega)) (fun q => h2 _ _ (by omega) (by omega)), a12.keep (h1 _ _ (by omega) (by omega)) (fun q => h2 _ _ (by omega) (by omega)), fun p hp => (a13 p hp).keep (h1 _ _ (by omega) (by omega)) (fun q => h2 _ _ (by omega) (by omega))⟩
/-- the values' rows of a case -/
theorem frV {F G : Nat} {fr : Nat → Nat → Option Nat} (hF : FRok F G fr) {i q : Nat} (hi : i < 40) (hq : q < 4) : fr (25 + 14 * i + 5) q = some (25 + 14 * i + (6 + 2 * q)) := by
  match q, hq with
  | 0, _ => exact hF.k hi 6 rfl
  | 1, _ => exact hF.k hi 8 rfl
  | 2, _ => exact hF.k hi 10 rfl
  | 3, _ => exact hF.k hi 12 rfl
theorem frC {F G : Nat} {fr : Nat → Nat → Option Nat} (hF : FRok F G fr) {i q : Nat} (hi : i < 40) (hq : q < 4) : fr (25 + 14 * i + (6 + 2 * q)) 0 = some (25 + 14 * i + (7 + 2 * q)) := by
  match q, hq with
  | 0, _ => exact hF.k hi 5 rfl
  | 1, _ => exact hF.k hi 7 rfl
  | 2, _ => exact hF.k hi 9 rfl
  | 3, _ => exact hF.k hi 11 rfl
theorem shV (L : Nat) {i q : Nat} (hi : i < 40) (hq : q < 4) : (SH L)[25 + 14 * i + (6 + 2 * q)]? = some (3, 2) := by
  match q, hq with
  | 0, _ => exact sk6 L hi
  | 1, _ => exact sk8 L hi
  | 2, _ => exact sk10 L hi
  | 3, _ => exact sk12 L hi
theorem shC (L : Nat) {i q : Nat} (hi : i < 40) (hq : q < 4) : (SH L)[25 + 14 * i + (7 + 2 * q)]? = some (101, 6) := by
  match q, hq with
  | 0, _ => exact sk7 L hi
  | 1, _ => exact sk9 L hi
  | 2, _ => exact sk11 L hi
  | 3, _ => exact sk13 L hi
/-- which turn of the values of parameter p a way takes -/
def vturn (ps : List (Nm × List Nm)) (way p : Nat) : Nat := (ps.drop (p + 1)).foldr (fun q w => w / q.2.length) way
def vsel (ps : List (Nm × List Nm)) (way p : Nat) : Nm := (ps.getD p ([], [])).2.getD (vturn ps way p % (ps.getD p ([], [])).2.length) []
theorem vturn_le (ps : List (Nm × List Nm)) (way p : Nat) : vturn ps way p ≤ way := by
  unfold vturn
  generalize ps.drop (p + 1) = l
  induction l with
  | nil => exact Nat.le_refl _
  | cons a l ih => exact Nat.le_trans (Nat.div_le_self _ _) ih
section CS
variable {d L : Nat} {fi : Nat → Nat → Int32} {fl : Nat → Nat → Int64} {fr : Nat → Nat → Option Nat} {F G : Nat}
theorem ct_has {t n : Nat} (hn : fi 19 6 = nI n) (hn2 : n < 2 ^ 30) {x : Int32} : Rn d 111 0 [some (.ref 19), some (.int x)] [] (SH L, fi, fl, fr) (Ret (SH L, fi, fl, fr) (some (.int (bI (decide (¬ x < 0 ∧ x < nI n)))))) := by
  refine Rn.iload_n k_111 rfl rfl ?_
  refine Rn.if_lt 16 k_111 rfl rfl (fun h1 => ?_) (fun h1 => ?_)
  · refine Rn.iconst (0) k_111 rfl rfl ?_
    refine Rn.reti k_111 rfl q_111 rfl (rfl) ?_
    exact ⟨by rw [decide_eq_false (fun z => z.1 h1)]; rfl, rfl⟩
  · refine Rn.iload_n k_111 rfl rfl ?_
    refine Rn.aload_n k_111 rfl rfl ?_
    refine Rn.getI k_111 rfl rfl (s19 L) ?_
    rw [hn]
    refine Rn.icmp_ge 16 k_111 rfl rfl (fun h2 => ?_) (fun h2 => ?_)
    · refine Rn.iconst (0) k_111 rfl rfl ?_
      refine Rn.reti k_111 rfl q_111 rfl (rfl) ?_
      exact ⟨by rw [decide_eq_false (fun z => Int32.not_le.mpr z.2 h2)]; rfl, rfl⟩
    · refine Rn.iconst (1) k_111 rfl rfl ?_
      refine Rn.goto 17 k_111 rfl rfl ?_
      refine Rn.reti k_111 rfl q_111 rfl (rfl) ?_
      exact ⟨by rw [decide_eq_true ⟨h1, Int32.not_le.mp h2⟩]; rfl, rfl⟩
theorem ct_caseOf (hF : FRok F G fr) {n t i : Nat} (hn : fi 19 6 = nI n) (hn2 : n ≤ 120) (ht : t < n) (hi : fi 24 t = nI i) (hi2 : i < 40) : Rn (d + 1) 112 0 [some (.ref 19), some (.int (nI t))] [] (SH L, fi, fl, fr) (Ret (SH L, fi, fl, fr) (some (.ref (25 + 14 * i)))) := by
  refine Rn.aload_n k_112 rfl rfl ?_
  refine Rn.getA k_112 rfl rfl (s19 L) (hF.l 5 rfl) ?_
  refine Rn.aload_n k_112 rfl rfl ?_
  refine Rn.iload_n k_112 rfl rfl ?_
  refine Rn.cV2I k_112 rfl rfl q_111 rfl (Nat.le_of_ble_eq_true rfl) (Nat.le_of_ble_eq_true rfl) (s19 L) (ct_has (t := t) hn (by omega)) ?_
  refine Rn.if_eq 21 k_112 rfl rfl (fun h1 => ?_) (fun h1 => ?_)
  · have : ¬ nI t < 0 ∧ nI t < nI n := ⟨c_neg (by omega), (nI_ltI (by omega) (by omega)).mpr ht⟩
    rw [decide_eq_true this] at h1
    exact absurd h1 (by decide)
  · refine Rn.aload_n k_112 rfl rfl ?_
    refine Rn.getA k_112 rfl rfl (s19 L) (hF.l 6 rfl) ?_
    refine Rn.iload_n k_112 rfl rfl ?_
    refine Rn.iaload (t) k_112 rfl (s24 L) (rfl) (by omega) (by decide) ?_
    rw [hi]
    refine Rn.goto 22 k_112 rfl rfl ?_
    refine Rn.aaload (ci := 4) (i) k_112 rfl (s23 L) rfl (by decide) (rfl) (hi2) (by decide) (hF.2.2.1 i hi2) ?_
    refine Rn.reta k_112 rfl q_112 rfl ?_
    exact ⟨rfl, rfl⟩
theorem ct_lineEnd (hF : FRok F G fr) {x : Nat → Nat} {n a : Nat} (hT : TXr fi x n) (hn : fi 19 1 = nI n) (ha : a ≤ n) : Rn d 109 0 [some (.ref 19), some (.int (nI a)), none] [] (SH L, fi, fl, fr) (Ret (SH L, fi, fl, fr) (some (.int (nI (eol x (n - a) a))))) := by
  have hn2 := hT.2
  have loop : ∀ k i, i + k = n → Rn d 109 2 [some (.ref 19), some (.int (nI a)), some (.int (nI i))] [] (SH L, fi, fl, fr) (Ret (SH L, fi, fl, fr) (some (.int (nI (eol x k i))))) := by
    intro k
    induction k with
    | zero =>
      intro i hi
      refine Rn.iload_n k_109 rfl rfl ?_
      refine Rn.aload_n k_109 rfl rfl ?_
      refine Rn.getI k_109 rfl rfl (s19 L) ?_
      rw [hn]
      refine Rn.icmp_ge 27 k_109 rfl rfl (fun h1 => ?_) (fun h1 => ?_)
      · refine Rn.iload_n k_109 rfl rfl ?_
        refine Rn.reti k_109 rfl q_109 rfl (rfl) ?_
        exact ⟨rfl, rfl⟩
      · exact absurd ((nI_leI (by omega) (by omega)).mpr (by omega)) h1
    | succ k ih =>
      intro i hi
      obtain ⟨t1, t2⟩ := hT.1 i (by omega)
      refine Rn.iload_n k_109 rfl rfl ?_
      refine Rn.aload_n k_109 rfl rfl ?_
      refine Rn.getI k_109 rfl rfl (s19 L) ?_
      rw [hn]
      refine Rn.icmp_ge 27 k_109 rfl rfl (fun h1 => ?_) (fun h1 => ?_)
      · exact absurd ((nI_leI (by omega) (by omega)).mp h1) (by omega)
      · refine Rn.aload_n k_109 rfl rfl ?_
        refine Rn.getA k_109 rfl rfl (s19 L) (hF.l 2 rfl) ?_
        refine Rn.iload_n k_109 rfl rfl ?_
        refine Rn.caload (i) k_109 rfl (s20 L) (rfl) (by omega) (by decide) ?_
        rw [t1]
        refine Rn.bipush (10) k_109 rfl rfl ?_
        refine Rn.icmp_eq 27 k_109 rfl rfl (fun h2 => ?_) (fun h2 => ?_)
        · rw [c_eq 10 10 rfl (by omega) (by decide)] at h2
          refine Rn.iload_n k_109 rfl rfl ?_
          refine Rn.reti k_109 rfl q_109 rfl (rfl) ?_
          exact ⟨by rw [eol, if_pos h2], rfl⟩
        · have h2 : ¬ x i = 10 := fun z => h2 ((c_eq 10 10 rfl (by omega) (by decide)).mpr z)
          refine Rn.iinc2 (1) k_109 rfl rfl rfl ?_
          rw [c_add 1 1 rfl]
          refine Rn.goto 2 k_109 rfl rfl ?_
          rw [eol, if_neg h2]
          exact ih (i + 1) (by omega)
  refine Rn.iload_n k_109 rfl rfl ?_
  refine Rn.istore_n2 k_109 rfl rfl ?_
  exact loop (n - a) a (by omega)
/-- nothing is left: the heap's three numbers are 0 -/
def fgt (fi : Nat → Nat → Int32) : Nat → Nat → Int32 := up2 (up2 (up2 fi 21 1 0) 19 4 0) 19 6 0
theorem ct_forget (hF : FRok F G fr) : Rn d 107 0 [some (.ref 19)] [] (SH L, fi, fl, fr) (Ret (SH L, fgt fi, fl, fr) none) := by
  refine Rn.aload_n k_107 rfl rfl ?_
  refine Rn.getA k_107 rfl rfl (s19 L) (hF.l 4 rfl) ?_
  refine Rn.iconst (0) k_107 rfl rfl ?_
  refine Rn.putI k_107 rfl (rfl) (s21 L) ?_
  refine Rn.aload_n k_107 rfl rfl ?_
  refine Rn.iconst (0) k_107 rfl rfl ?_
  refine Rn.putI k_107 rfl (rfl) (s19 L) ?_
  refine Rn.aload_n k_107 rfl rfl ?_
  refine Rn.iconst (0) k_107 rfl rfl ?_
  refine Rn.putI k_107 rfl (rfl) (s19 L) ?_
  refine Rn.retv k_107 rfl q_107 rfl ?_
  exact ⟨rfl, rfl⟩
theorem ct_become (hF : FRok F G fr) {n : Nat} {t : Nat → Nat} (hn : fi 17 1 = nI n) (hn2 : n ≤ 1200) (ht : ∀ k, k < n → fi 18 k = nI (t k) ∧ t k < 128) : Rn (d + 1) 108 0 [some (.ref 19), some (.ref 17)] [] (SH L, fi, fl, fr) (fun v h' => v = none ∧ ∃ fi', h' = (SH L, fi', fl, fr) ∧ TXr fi' t n ∧ fi' 19 1 = nI n ∧ fi' 21 1 = 0 ∧ fi' 19 4 = 0 ∧ fi' 19 6 = 0 ∧ ∀ a k, a ≠ 19 → a ≠ 20 → a ≠ 21 → fi' a k = fi a k) := by
  refine Rn.aload_n k_108 rfl rfl ?_
  refine Rn.cV1 k_108 rfl rfl q_107 rfl (Nat.le_of_ble_eq_true rfl) (Nat.le_of_ble_eq_true rfl) (s19 L) (ct_forget hF) (fun v h1 hq => ?_)
  obtain ⟨rfl, rfl⟩ := hq
  show Rn _ _ _ _ [] _ _
  refine Rn.aload_n k_108 rfl rfl ?_
  refine Rn.aload_n k_108 rfl rfl ?_
  refine Rn.getI k_108 rfl rfl (s17 L) ?_
  rw [show fgt fi 17 1 = nI n from hn]
  refine Rn.putI k_108 rfl (rfl) (s19 L) ?_
  refine Rn.aload_n k_108 rfl rfl ?_
  refine Rn.getA k_108 rfl rfl (s17 L) (hF.l 0 rfl) ?_
  refine Rn.iconst (0) k_108 rfl rfl ?_
  refine Rn.aload_n k_108 rfl rfl ?_
  refine Rn.getA k_108 rfl rfl (s19 L) (hF.l 2 rfl) ?_
  refine Rn.iconst (0) k_108 rfl rfl ?_
  refine Rn.aload_n k_108 rfl rfl ?_
  refine Rn.getI k_108 rfl rfl (s19 L) ?_
  refine Rn.copy0 (n) k_108 rfl (s18 L) (s20 L) (by decide) (Nat.le_of_ble_eq_true rfl) (up2_same _ _ _ _) (by omega) (by omega) (by omega) ?_
  refine Rn.retv k_108 rfl q_108 rfl ?_
  refine ⟨rfl, _, rfl, ⟨fun k hk => ?_, hn2⟩, ?_, rfl, rfl, rfl, fun a k h1 h2 h3 => ?_⟩
  · refine ⟨?_, (ht k hk).2⟩
    show (if (20 : Nat) = 20 then va_cpy _ _ 0 0 n k else _) = _
    rw [if_pos rfl, pk_cpy_in (Nat.zero_le _) (by omega), Nat.zero_add, Nat.sub_zero]
    exact (ht k hk).1
  · show up2 (fgt fi) 19 1 (nI n) 19 1 = nI n
    exact up2_same _ _ _ _
  · show (if a = 20 then _ else _) = _
    rw [if_neg h2, up2_row _ _ h1]
    unfold fgt
    rw [up2_row _ _ h1, up2_row _ _ h1, up2_row _ _ h3]
end CS
end
section
/-! Case.begin, Case.valueIn, Script.numberTests -/
section CS
variable {d L : Nat} {fi : Nat → Nat → Int32} {fl : Nat → Nat → Int64} {fr : Nat → Nat → Option Nat} {F G : Nat}
theorem ct_begin (hF : FRok F G fr) {i : Nat} (hi : i < 40) {nm : Int64} {ln : Int32} : Rn d 74 0 [some (.ref (25 + 14 * i)), some (.long nm), none, some (.int ln)] [] (SH L, fi, fl, fr) (fun v h' => v = none ∧ ∃ fi' fl', h' = (SH L, fi', fl', fr) ∧ fl' (25 + 14 * i) 0 = nm ∧ fl' (25 + 14 * i) 1 = 0 ∧ fi' (25 + 14 * i) 2 = -1 ∧ fi' (25 + 14 * i) 3 = ln ∧ fi' (25 + 14 * i) 4 = 1 ∧ fi' (25 + 14 * i) 5 = 0 ∧ fi' (25 + 14 * i) 6 = 0 ∧ fi' (25 + 14 * i) 10 = 1 ∧ fi' (25 + 14 * i) 11 = 0 ∧ fi' (25 + 14 * i + 1) 1 = 0 ∧ fi' (25 + 14 * i + 3) 1 = 0 ∧ (∀ a k, a ≠ 25 + 14 * i → a ≠ 25 + 14 * i + 1 → a ≠ 25 + 14 * i + 3 → fi' a k = fi a k) ∧ ∀ a k, a ≠ 25 + 14 * i → fl' a k = fl a k) := by
  refine Rn.aload_n k_74 rfl rfl ?_
  refine Rn.lload_n k_74 rfl rfl ?_
  refine Rn.putL k_74 rfl rfl (sk0 L hi) ?_
  refine Rn.aload_n k_74 rfl rfl ?_
  refine Rn.iload_n k_74 rfl rfl ?_
  refine Rn.putI k_74 rfl (rfl) (sk0 L hi) ?_
  refine Rn.aload_n k_74 rfl rfl ?_
  refine Rn.iconst (-1) k_74 rfl rfl ?_
  refine Rn.putI k_74 rfl (rfl) (sk0 L hi) ?_
  refine Rn.aload_n k_74 rfl rfl ?_
  refine Rn.lconst 0 k_74 rfl rfl ?_
  refine Rn.putL k_74 rfl rfl (sk0 L hi) ?_
  refine Rn.aload_n k_74 rfl rfl ?_
  refine Rn.iconst (1) k_74 rfl rfl ?_
  refine Rn.putI k_74 rfl (rfl) (sk0 L hi) ?_
  refine Rn.aload_n k_74 rfl rfl ?_
  refine Rn.iconst (0) k_74 rfl rfl ?_
  refine Rn.putI k_74 rfl (rfl) (sk0 L hi) ?_
  refine Rn.aload_n k_74 rfl rfl ?_
  refine Rn.iconst (0) k_74 rfl rfl ?_
  refine Rn.putI k_74 rfl (rfl) (sk0 L hi) ?_
  refine Rn.aload_n k_74 rfl rfl ?_
  refine Rn.iconst (0) k_74 rfl rfl ?_
  refine Rn.putI k_74 rfl (rfl) (sk0 L hi) ?_
  refine Rn.aload_n k_74 rfl rfl ?_
  refine Rn.iconst (1) k_74 rfl rfl ?_
  refine Rn.putI k_74 rfl (rfl) (sk0 L hi) ?_
  refine Rn.aload_n k_74 rfl rfl ?_
  refine Rn.getA k_74 rfl rfl (sk0 L hi) (hF.k hi 1 rfl) ?_
  refine Rn.iconst (0) k_74 rfl rfl ?_
  refine Rn.putI k_74 rfl (rfl) (sk1 L hi) ?_
  refine Rn.aload_n k_74 rfl rfl ?_
  refine Rn.getA k_74 rfl rfl (sk0 L hi) (hF.k hi 3 rfl) ?_
  refine Rn.iconst (0) k_74 rfl rfl ?_
  refine Rn.putI k_74 rfl (rfl) (sk3 L hi) ?_
  refine Rn.retv k_74 rfl q_74 rfl ?_
  have n1 : 25 + 14 * i + 1 ≠ 25 + 14 * i := by omega
  have n3 : 25 + 14 * i + 3 ≠ 25 + 14 * i := by omega
  have n13 : 25 + 14 * i + 1 ≠ 25 + 14 * i + 3 := by omega
  refine ⟨rfl, _, _, rfl, ?_, ?_, ?_, ?_, ?_, ?_, ?_, ?_, ?_, ?_, ?_, ?_, ?_⟩
  · simp [up2]
  · simp [up2]
  · simp [up2]
  · simp [up2]
  · simp [up2]
  · simp [up2]
  · simp [up2]
  · simp [up2]
  · simp [up2]
  · simp [up2]
  · simp [up2]
  · intro a k h1 h2 h3
    simp [up2, h1, h2, h3]
  · intro a k h1
    simp [up2, h1]
theorem ct_valueIn (hF : FRok F G fr) {i : Nat} (hi : i < 40) {k : KS} {sn : Nm} {st : List Nm} (hC : CKr fi fl i k sn st) (hps : (k_ps k).length ≤ 4) (hv : ∀ p ∈ k_ps k, 1 ≤ p.2.length ∧ p.2.length ≤ 6) {f w p : Nat} (hf : fi (25 + 14 * i) 9 = nI f) (hf2 : f + w < 2 ^ 30) (hp : p < (k_ps k).length) : Rn (d + 1) 75 0 [some (.ref (25 + 14 * i)), some (.int (nI (f + w))), some (.int (nI p)), none, none] [] (SH L, fi, fl, fr) (Ret (SH L, fi, fl, fr) (some (.long (lN (enc (vsel (k_ps k) w p)))))) := by
  obtain ⟨-, -, -, -, -, -, -, -, -, -, -, c12, c13⟩ := hC
  have hs : fi (25 + 14 * i + 3) 1 = nI (k_ps k).length := by rw [c12.1, List.length_map]
  generalize k_ps k = ps at hps hv hp c13 hs ⊢
  have hg : ∀ q, q < ps.length → 1 ≤ (ps.getD q ([], [])).2.length ∧ (ps.getD q ([], [])).2.length ≤ 6 := by
    intro q hq
    refine hv _ ?_
    rw [List.getD_eq_getElem?_getD, List.getElem?_eq_getElem hq]
    exact List.getElem_mem hq
  have hsz : ∀ q, q < ps.length → fi (25 + 14 * i + (6 + 2 * q)) 1 = nI (ps.getD q ([], [])).2.length := by
    intro q hq
    rw [(c13 q hq).1, List.length_map]
  refine Rn.iload_n k_75 rfl rfl ?_
  refine Rn.if_lt 15 k_75 rfl rfl (fun h1 => ?_) (fun h1 => ?_)
  · exact absurd h1 (c_neg (by omega))
  · refine Rn.iload_n k_75 rfl rfl ?_
    refine Rn.aload_n k_75 rfl rfl ?_
    refine Rn.getA k_75 rfl rfl (sk0 L hi) (hF.k hi 3 rfl) ?_
    refine Rn.getI k_75 rfl rfl (sk3 L hi) ?_
    rw [hs]
    refine Rn.icmp_lt 17 k_75 rfl rfl (fun h2 => ?_) (fun h2 => ?_)
    · refine Rn.iload_n k_75 rfl rfl ?_
      refine Rn.aload_n k_75 rfl rfl ?_
      refine Rn.getI k_75 rfl rfl (sk0 L hi) ?_
      rw [hf]
      refine Rn.isub k_75 rfl ?_
      rw [pk_sub (by omega), show f + w - f = w by omega]
      refine Rn.istore_n3 k_75 rfl rfl ?_
      refine Rn.aload_n k_75 rfl rfl ?_
      refine Rn.getA k_75 rfl rfl (sk0 L hi) (hF.k hi 3 rfl) ?_
      refine Rn.getI k_75 rfl rfl (sk3 L hi) ?_
      rw [hs]
      refine Rn.iconst (1) k_75 rfl rfl ?_
      refine Rn.isub k_75 rfl ?_
      rw [c_sub 1 1 rfl (by omega)]
      have loop : ∀ m q, q = p + m → q < ps.length → Rn (d + 1) 75 35 [some (.ref (25 + 14 * i)), some (.int (nI (f + w))), some (.int (nI p)), some (.int (nI (vturn ps w q))), some (.int (nI q))] [] (SH L, fi, fl, fr) (Ret (SH L, fi, fl, fr) (some (.long (lN (enc (vsel ps w p)))))) := by
        intro m
        induction m with
        | zero =>
          intro q hq hql
          have : q = p := by omega
          subst this
          have ht := vturn_le ps w q
          obtain ⟨g1, g2⟩ := hg q hql
          have hz := hsz q hql
          refine Rn.iload k_75 rfl rfl ?_
          refine Rn.iload_n k_75 rfl rfl ?_
          refine Rn.icmp_le 73 k_75 rfl rfl (fun h3 => ?_) (fun h3 => ?_)
          · refine Rn.aload_n k_75 rfl rfl ?_
            refine Rn.getA k_75 rfl rfl (sk0 L hi) (hF.k hi 4 rfl) ?_
            refine Rn.iload_n k_75 rfl rfl ?_
            refine Rn.aaload (ci := 3) (q) k_75 rfl (sk5 L hi) rfl (by decide) (rfl) (by omega) (by decide) (frV hF hi (by omega)) ?_
            refine Rn.getI k_75 rfl rfl (shV L hi (by omega)) ?_
            rw [hz]
            refine Rn.istore4 k_75 rfl rfl ?_
            refine Rn.iload k_75 rfl rfl ?_
            refine Rn.if_le 105 k_75 rfl rfl (fun h5 => ?_) (fun h5 => ?_)
            · exact absurd ((c_le 0 0 rfl (by omega) (by decide)).mp h5) (by omega)
            · refine Rn.aload_n k_75 rfl rfl ?_
              refine Rn.getA k_75 rfl rfl (sk0 L hi) (hF.k hi 4 rfl) ?_
              refine Rn.iload_n k_75 rfl rfl ?_
              refine Rn.aaload (ci := 3) (q) k_75 rfl (sk5 L hi) rfl (by decide) (rfl) (by omega) (by decide) (frV hF hi (by omega)) ?_
              refine Rn.iload_n k_75 rfl rfl ?_
              refine Rn.iload k_75 rfl rfl ?_
              refine Rn.irem k_75 rfl (nI_ne0 (by omega) (by omega)) ?_
              rw [pk_rem (by omega) (by omega) (by omega)]
              refine Rn.cV2L k_75 rfl rfl q_100 rfl (Nat.le_of_ble_eq_true rfl) (Nat.le_of_ble_eq_true rfl) (shV L hi (by omega)) (ct_at (w := (ps.getD q ([], [])).2.map enc) (shV L hi (by omega)) (shC L hi (by omega)) (frC hF hi (by omega)) (by decide) (c13 q hql) (by rw [List.length_map]; omega) (by rw [List.length_map]; exact Nat.mod_lt _ (by omega))) ?_
              refine Rn.goto 106 k_75 rfl rfl ?_
              refine Rn.retl k_75 rfl q_75 rfl ?_
              refine ⟨?_, rfl⟩
              unfold vsel
              have hm : vturn ps w q % (ps.getD q ([], [])).2.length < (ps.getD q ([], [])).2.length := Nat.mod_lt _ (by omega)
              rw [List.getD_eq_getElem?_getD (l := List.map enc _), List.getElem?_map, List.getD_eq_getElem?_getD (l := (ps.getD q ([], [])).2), List.getElem?_eq_getElem hm]
              rfl
          · exact absurd ((nI_leI (by omega) (by omega)).mpr (Nat.le_refl _)) h3
        | succ m ih =>
          intro q hq hql
          have ht := vturn_le ps w q
          obtain ⟨g1, g2⟩ := hg q hql
          have hz := hsz q hql
          refine Rn.iload k_75 rfl rfl ?_
          refine Rn.iload_n k_75 rfl rfl ?_
          refine Rn.icmp_le 73 k_75 rfl rfl (fun h3 => ?_) (fun h3 => ?_)
          · exact absurd ((nI_leI (by omega) (by omega)).mp h3) (by omega)
          · refine Rn.aload_n k_75 rfl rfl ?_
            refine Rn.getA k_75 rfl rfl (sk0 L hi) (hF.k hi 4 rfl) ?_
            refine Rn.iload k_75 rfl rfl ?_
            refine Rn.aaload (ci := 3) (q) k_75 rfl (sk5 L hi) rfl (by decide) (rfl) (by omega) (by decide) (frV hF hi (by omega)) ?_
            refine Rn.getI k_75 rfl rfl (shV L hi (by omega)) ?_
            rw [hz]
            refine Rn.if_le 67 k_75 rfl rfl (fun h4 => ?_) (fun h4 => ?_)
            · exact absurd ((c_le 0 0 rfl (by omega) (by decide)).mp h4) (by omega)
            · refine Rn.iload_n k_75 rfl rfl ?_
              refine Rn.aload_n k_75 rfl rfl ?_
              refine Rn.getA k_75 rfl rfl (sk0 L hi) (hF.k hi 4 rfl) ?_
              refine Rn.iload k_75 rfl rfl ?_
              refine Rn.aaload (ci := 3) (q) k_75 rfl (sk5 L hi) rfl (by decide) (rfl) (by omega) (by decide) (frV hF hi (by omega)) ?_
              refine Rn.getI k_75 rfl rfl (shV L hi (by omega)) ?_
              rw [hz]
              refine Rn.idiv k_75 rfl (nI_ne0 (by omega) (by omega)) ?_
              rw [pk_div (by omega) (by omega) (by omega)]
              refine Rn.istore_n3 k_75 rfl rfl ?_
              refine Rn.iinc4 (-1) k_75 rfl rfl rfl ?_
              rw [show nI q + (-1) = nI (q - 1) from sb_m1 (by omega)]
              refine Rn.goto 35 k_75 rfl rfl ?_
              have := ih (q - 1) (by omega) (by omega)
              have e1 : vturn ps w (q - 1) = vturn ps w q / (ps.getD q ([], [])).2.length := by
                unfold vturn
                rw [show q - 1 + 1 = q by omega, List.drop_eq_getElem_cons hql, List.foldr_cons, List.getD_eq_getElem?_getD, List.getElem?_eq_getElem hql]
                rfl
              rw [e1] at this
              exact this
      refine Rn.istore4 k_75 rfl rfl ?_
      have := loop (ps.length - 1 - p) (ps.length - 1) (by omega) (by omega)
      rw [show vturn ps w (ps.length - 1) = w by unfold vturn; rw [List.drop_eq_nil_of_le (by omega)]; rfl] at this
      exact this
    · exact absurd ((nI_ltI (by omega) (by omega)).mpr hp) h2
theorem totW_succ {ks : List KS} {i : Nat} (h : i < ks.length) : totW (ks.take (i + 1)) = totW (ks.take i) + ways (k_ps (ks.getD i dK)) := by
  unfold totW
  rw [List.take_succ_eq_append_getElem h, List.map_append, List.sum_append, List.getD_eq_getElem?_getD, List.getElem?_eq_getElem h]
  simp
theorem totW_take_le (ks : List KS) : ∀ i, totW (ks.take i) ≤ totW ks := by
  intro i
  have e : totW ks = totW (ks.take i) + totW (ks.drop i) := by
    unfold totW
    rw [← List.sum_append, ← List.map_append, List.take_append_drop]
  omega
/-- the tests have their numbers -/
def NTr (fi : Nat → Nat → Int32) (ks : List KS) : Prop := ∀ i, i < ks.length → fi (25 + 14 * i) 9 = nI (totW (ks.take i)) ∧ ∀ w, w < ways (k_ps (ks.getD i dK)) → fi 24 (totW (ks.take i) + w) = nI i
set_option maxHeartbeats 1000000 in
theorem ct_numberTests (hF : FRok F G fr) {ks : List KS} (hl : ks.length ≤ 40) (hn : fi 19 4 = nI ks.length) (hw : ∀ i, i < ks.length → fi (25 + 14 * i) 10 = nI (ways (k_ps (ks.getD i dK)))) (ht : totW ks ≤ 120) : Rn d 110 0 [some (.ref 19), none, none, none] [] (SH L, fi, fl, fr) (fun v h' => v = none ∧ ∃ fi', h' = (SH L, fi', fl, fr) ∧ NTr fi' ks ∧ ∀ a k, a ≠ 24 → (k ≠ 9 ∨ ∀ i, i < ks.length → a ≠ 25 + 14 * i) → fi' a k = fi a k) := by
  have outer : ∀ (m i : Nat) (o3 : Option Value) (gi : Nat → Nat → Int32), i + m = ks.length → (∀ j, j < i → gi (25 + 14 * j) 9 = nI (totW (ks.take j)) ∧ ∀ w, w < ways (k_ps (ks.getD j dK)) → gi 24 (totW (ks.take j) + w) = nI j) → (∀ a k, a ≠ 24 → (k ≠ 9 ∨ ∀ i, i < ks.length → a ≠ 25 + 14 * i) → gi a k = fi a k) → Rn d 110 4 [some (.ref 19), some (.int (nI (totW (ks.take i)))), some (.int (nI i)), o3] [] (SH L, gi, fl, fr) (fun v h' => v = none ∧ ∃ fi', h' = (SH L, fi', fl, fr) ∧ NTr fi' ks ∧ ∀ a k, a ≠ 24 → (k ≠ 9 ∨ ∀ i, i < ks.length → a ≠ 25 + 14 * i) → fi' a k = fi a k) := by
    intro m
    induction m with
    | zero =>
      intro i o3 gi hi hA hG
      refine Rn.iload_n k_110 rfl rfl ?_
      refine Rn.aload_n k_110 rfl rfl ?_
      refine Rn.getI k_110 rfl rfl (s19 L) ?_
      rw [hG 19 4 (by decide) (Or.inl (by decide)), hn]
      refine Rn.icmp_ge 68 k_110 rfl rfl (fun h1 => ?_) (fun h1 => ?_)
      · refine Rn.retv k_110 rfl q_110 rfl ?_
        refine ⟨rfl, gi, rfl, fun j hj => hA j (by omega), hG⟩
      · exact absurd ((nI_leI (by omega) (by omega)).mpr (by omega)) h1
    | succ m ih =>
      intro i o3 gi hi hA hG
      have hil : i < ks.length := by omega
      have es := totW_succ hil
      have et := totW_take_le ks (i + 1)
      generalize hW : ways (k_ps (ks.getD i dK)) = W at es
      have hwi : fi (25 + 14 * i) 10 = nI W := by rw [hw i hil, hW]
      have inner : ∀ (q t : Nat) (gi : Nat → Nat → Int32), t + q = W → (∀ j, j < i → gi (25 + 14 * j) 9 = nI (totW (ks.take j)) ∧ ∀ w, w < ways (k_ps (ks.getD j dK)) → gi 24 (totW (ks.take j) + w) = nI j) → gi (25 + 14 * i) 9 = nI (totW (ks.take i)) → (∀ w, w < t → gi 24 (totW (ks.take i) + w) = nI i) → (∀ a k, a ≠ 24 → (k ≠ 9 ∨ ∀ i, i < ks.length → a ≠ 25 + 14 * i) → gi a k = fi a k) → Rn d 110 24 [some (.ref 19), some (.int (nI (totW (ks.take i) + t))), some (.int (nI i)), some (.int (nI t))] [] (SH L, gi, fl, fr) (fun v h' => v = none ∧ ∃ fi', h' = (SH L, fi', fl, fr) ∧ NTr fi' ks ∧ ∀ a k, a ≠ 24 → (k ≠ 9 ∨ ∀ i, i < ks.length → a ≠ 25 + 14 * i) → fi' a k = fi a k) := by
        intro q
        induction q with
        | zero =>
          intro t gi htq hA h9 hB hG
          refine Rn.iload_n k_110 rfl rfl ?_
          refine Rn.aload_n k_110 rfl rfl ?_
          refine Rn.getA k_110 rfl rfl (s19 L) (hF.l 5 rfl) ?_
          refine Rn.iload_n k_110 rfl rfl ?_
          refine Rn.aaload (ci := 4) (i) k_110 rfl (s23 L) rfl (by decide) (rfl) (by omega) (by decide) (hF.2.2.1 i (by omega)) ?_
          refine Rn.getI k_110 rfl rfl (sk0 L (by omega)) ?_
          rw [hG (25 + 14 * i) 10 (by omega) (Or.inl (by decide)), hwi]
          refine Rn.icmp_ge 62 k_110 rfl rfl (fun h2 => ?_) (fun h2 => ?_)
          · refine Rn.iinc2 (1) k_110 rfl rfl rfl ?_
            rw [c_add 1 1 rfl]
            refine Rn.goto 4 k_110 rfl rfl ?_
            have : t = W := by omega
            subst this
            rw [← es]
            refine ih (i + 1) _ gi (by omega) (fun j hj => ?_) hG
            by_cases e : j = i
            · subst e
              exact ⟨h9, fun w hw2 => hB w (by omega)⟩
            · exact hA j (by omega)
          · exact absurd ((nI_leI (by omega) (by omega)).mpr (by omega)) h2
        | succ q ihq =>
          intro t gi htq hA h9 hB hG
          refine Rn.iload_n k_110 rfl rfl ?_
          refine Rn.aload_n k_110 rfl rfl ?_
          refine Rn.getA k_110 rfl rfl (s19 L) (hF.l 5 rfl) ?_
          refine Rn.iload_n k_110 rfl rfl ?_
          refine Rn.aaload (ci := 4) (i) k_110 rfl (s23 L) rfl (by decide) (rfl) (by omega) (by decide) (hF.2.2.1 i (by omega)) ?_
          refine Rn.getI k_110 rfl rfl (sk0 L (by omega)) ?_
          rw [hG (25 + 14 * i) 10 (by omega) (Or.inl (by decide)), hwi]
          refine Rn.icmp_ge 62 k_110 rfl rfl (fun h2 => ?_) (fun h2 => ?_)
          · exact absurd ((nI_leI (by omega) (by omega)).mp h2) (by omega)
          · refine Rn.iload_n k_110 rfl rfl ?_
            refine Rn.aload_n k_110 rfl rfl ?_
            refine Rn.getA k_110 rfl rfl (s19 L) (hF.l 6 rfl) ?_
            refine Rn.alen k_110 rfl (s24 L) rfl (by decide) ?_
            refine Rn.icmp_ge 62 k_110 rfl rfl (fun h3 => ?_) (fun h3 => ?_)
            · exact absurd ((nI_leI (by omega) (by omega)).mp h3) (by omega)
            · refine Rn.aload_n k_110 rfl rfl ?_
              refine Rn.getA k_110 rfl rfl (s19 L) (hF.l 6 rfl) ?_
              refine Rn.iload_n k_110 rfl rfl ?_
              refine Rn.iload_n k_110 rfl rfl ?_
              refine Rn.iastore (totW (ks.take i) + t) k_110 rfl (s24 L) (rfl) (by omega) (by decide) (rfl) ?_
              refine Rn.iinc1 (1) k_110 rfl rfl rfl ?_
              rw [c_add 1 1 rfl]
              refine Rn.iinc3 (1) k_110 rfl rfl rfl ?_
              rw [c_add 1 1 rfl]
              refine Rn.goto 24 k_110 rfl rfl ?_
              refine ihq (t + 1) _ (by omega) (fun j hj => ?_) ?_ (fun w hw2 => ?_) (fun a k ha hk => ?_)
              · obtain ⟨z1, z2⟩ := hA j hj
                refine ⟨by rw [up2_row _ _ (by omega)]; exact z1, fun w hw2 => ?_⟩
                have e1 := totW_succ (ks := ks) (i := j) (by omega)
                have e2 : totW (ks.take (j + 1)) ≤ totW (ks.take i) := by
                  have := totW_take_le (ks.take i) (j + 1)
                  rwa [List.take_take, Nat.min_eq_left (by omega)] at this
                rw [up2_col _ _ (by omega)]
                exact z2 w hw2
              · rw [up2_row _ _ (by omega)]; exact h9
              · by_cases e : w = t
                · subst e; exact up2_same _ _ _ _
                · rw [up2_col _ _ (by omega)]; exact hB w (by omega)
              · rw [up2_row _ _ ha]; exact hG a k ha hk
      refine Rn.iload_n k_110 rfl rfl ?_
      refine Rn.aload_n k_110 rfl rfl ?_
      refine Rn.getI k_110 rfl rfl (s19 L) ?_
      rw [hG 19 4 (by decide) (Or.inl (by decide)), hn]
      refine Rn.icmp_ge 68 k_110 rfl rfl (fun h1 => ?_) (fun h1 => ?_)
      · exact absurd ((nI_leI (by omega) (by omega)).mp h1) (by omega)
      · refine Rn.aload_n k_110 rfl rfl ?_
        refine Rn.getA k_110 rfl rfl (s19 L) (hF.l 5 rfl) ?_
        refine Rn.iload_n k_110 rfl rfl ?_
        refine Rn.aaload (ci := 4) (i) k_110 rfl (s23 L) rfl (by decide) (rfl) (by omega) (by decide) (hF.2.2.1 i (by omega)) ?_
        refine Rn.iload_n k_110 rfl rfl ?_
        refine Rn.putI k_110 rfl (rfl) (sk0 L (by omega)) ?_
        refine Rn.iconst (0) k_110 rfl rfl ?_
        refine Rn.istore_n3 k_110 rfl rfl ?_
        refine inner W 0 _ (Nat.zero_add _) (fun j hj => ?_) (up2_same _ _ _ _) (fun w hw2 => absurd hw2 (Nat.not_lt_zero w)) (fun a k ha hk => ?_)
        · obtain ⟨z1, z2⟩ := hA j hj
          exact ⟨by rw [up2_row _ _ (by omega)]; exact z1, fun w hw2 => by rw [up2_row _ _ (by omega)]; exact z2 w hw2⟩
        · rcases hk with hk | hk
          · rw [up2_col _ _ hk]; exact hG a k ha (Or.inl hk)
          · rw [up2_row _ _ (hk i hil)]; exact hG a k ha (Or.inr hk)
  refine Rn.iconst (0) k_110 rfl rfl ?_
  refine Rn.istore_n1 k_110 rfl rfl ?_
  refine Rn.iconst (0) k_110 rfl rfl ?_
  refine Rn.istore_n2 k_110 rfl rfl ?_
  exact outer ks.length 0 none fi (Nat.zero_add _) (fun j hj => absurd hj (Nat.not_lt_zero j)) (fun _ _ _ _ => rfl)
end CS
end
section
/-! ScriptReader: a line is taken in -/
def rdF (a : Nat) : Prop := a < 19 ∨ a = 20 ∨ 588 ≤ a
def SCr (fi : Nat → Nat → Int32) (fl : Nat → Nat → Int64) (x : Nat → Nat) (n : Nat) (A : AS) : Prop :=
  TXr fi x n ∧ fi 19 1 = nI n ∧ NRr fi fl 21 22 (A.1.map (fun s => enc s.1)) ∧ fi 19 4 = nI A.2.1.length ∧ fi 19 6 = nI (totW A.2.1) ∧ (∀ i, i < A.2.1.length → CKr fi fl i (A.2.1.getD i dK) (snm A.1 (k_su (A.2.1.getD i dK))) (stg A.1 (k_su (A.2.1.getD i dK)))) ∧ fi 585 3 = bI A.2.2 ∧ ∀ s, A.1.getLast? = some s → NRr fi fl 586 587 (s.2.map enc)
def AccQ (L : Nat) (fi : Nat → Nat → Int32) (fl : Nat → Nat → Int64) (fr : Nat → Nat → Option Nat) (x : Nat → Nat) (n : Nat) (o : Option AS) : Option Value → am_H → Prop := fun v h' => ∃ fi' fl', h' = (SH L, fi', fl', fr) ∧ (∀ a k, rdF a → fi' a k = fi a k) ∧ (∀ a k, rdF a → fl' a k = fl a k) ∧ v = some (.int (bI o.isSome)) ∧ ∀ B, o = some B → SCr fi' fl' x n B
theorem enc_pos {t : Nm} (h : okV t = true) (ht : t ≠ []) : enc t ≠ 0 := by
  intro e
  exact ht (enc_inj t.length t [] (Nat.le_refl _) (okV_isN h) (fun c hc => by cases hc) e)
theorem mem_enc {l : List Nm} {t : Nm} (hl : ∀ s ∈ l, okV s = true) (ht : okV t = true) : enc t ∈ l.map enc ↔ t ∈ l := by
  constructor
  · intro h
    obtain ⟨s, hs, e⟩ := List.mem_map.mp h
    have := enc_inj s.length s t (Nat.le_refl _) (okV_isN (hl s hs)) (okV_isN ht) e
    rw [← this]; exact hs
  · exact fun h => List.mem_map.mpr ⟨t, h, rfl⟩
theorem nodup_enc {l : List Nm} (hl : ∀ s ∈ l, okV s = true) (h : l.Nodup) : (l.map enc).Nodup := by
  induction l with
  | nil => exact List.nodup_nil
  | cons a l ih =>
    rw [List.nodup_cons] at h
    rw [List.map_cons, List.nodup_cons]
    exact ⟨fun z => h.1 ((mem_enc (fun s hs => hl s (List.mem_cons_of_mem _ hs)) (hl a List.mem_cons_self)).mp z), ih (fun s hs => hl s (List.mem_cons_of_mem _ hs)) h.2⟩
theorem ncode_ok {t : Nm} (h : okN t = true) : ncode t = enc t := by unfold ncode; rw [if_pos h]
theorem ncode_no {t : Nm} (h : okN t = false) : ncode t = 0 := by unfold ncode; rw [if_neg (by rw [h]; decide)]
theorem wd_ne {x : Nat → Nat} {p : Nat × Nat} (h : p.1 < p.2) : wd x p ≠ [] := by
  intro e
  have := sl_len x p.1 p.2
  unfold wd at e
  rw [e] at this
  simp at this
  omega
theorem stg_app (ss : List (Nm × List Nm)) (s : Nm × List Nm) {su : Nat} (h : su ≤ ss.length) : stg (ss ++ [s]) su = stg ss su := by
  cases su with
  | zero => rfl
  | succ k => unfold stg; dsimp only; rw [List.getD_eq_getElem?_getD, List.getD_eq_getElem?_getD, List.getElem?_append_left (by omega)]
theorem snm_app (ss : List (Nm × List Nm)) (s : Nm × List Nm) {su : Nat} (h : su ≤ ss.length) : snm (ss ++ [s]) su = snm ss su := by
  cases su with
  | zero => rfl
  | succ k => unfold snm; dsimp only; rw [List.getD_eq_getElem?_getD, List.getD_eq_getElem?_getD, List.getElem?_append_left (by omega)]
theorem AOk.k {n : Nat} {A : AS} (h : AOk n A) {i : Nat} (hi : i < A.2.1.length) : KOk A.1 n (A.2.1.getD i dK) := by
  refine h.2.2.2.2.1 _ ?_
  rw [List.getD_eq_getElem?_getD, List.getElem?_eq_getElem hi]
  exact List.getElem_mem hi
section RD
variable {d L : Nat} {fi : Nat → Nat → Int32} {fl : Nat → Nat → Int64} {fr : Nat → Nat → Option Nat} {F G : Nat} {x : Nat → Nat} {n : Nat} {A : AS} {ws : List (Nat × Nat)}
def suiteL (x : Nat → Nat) (A : AS) (ts : List Nm) : Option AS := match ts with
  | [t] => if okN t = true ∧ A.1.length < 10 ∧ t ∉ A.1.map (·.1) then some (A.1 ++ [(t, [])], A.2.1, false) else none
  | _ => none
set_option maxHeartbeats 1000000 in
theorem ct_openSuite (hF : FRok F G fr) (hS : SCr fi fl x n A) (hA : AOk n A) (hW : WDr fi ws) (hw : wok n ws) {w0 : Nat × Nat} {rest : List (Nat × Nat)} (hws : ws = w0 :: rest) : Rn (d + 3) 116 0 [some (.ref 585)] [] (SH L, fi, fl, fr) (AccQ L fi fl fr x n (suiteL x A (rest.map (wd x)))) := by
  obtain ⟨s1, s2, s3, s4, s5, s6, s7, s8⟩ := hS
  have hl : ws.length = rest.length + 1 := by rw [hws]; rfl
  have hl6 := hw.2
  have fr1 : ∀ a k, rdF a → up2 (up2 fi 585 3 0) 586 1 0 a k = fi a k := by
    intro a k ha
    unfold rdF at ha
    rw [up2_row _ _ (by omega), up2_row _ _ (by omega)]
  have no : ∀ gi : Nat → Nat → Int32, (∀ a k, rdF a → gi a k = fi a k) → ∀ gl : Nat → Nat → Int64, (∀ a k, rdF a → gl a k = fl a k) → suiteL x A (rest.map (wd x)) = none → Rn (d + 3) 116 49 [some (.ref 585)] [] (SH L, gi, gl, fr) (AccQ L fi fl fr x n (suiteL x A (rest.map (wd x)))) := by
    intro gi hg gl hg2 e
    refine Rn.iconst (0) k_116 rfl rfl ?_
    refine Rn.reti k_116 rfl q_116 rfl (rfl) ?_
    rw [e]
    exact ⟨gi, gl, rfl, hg, hg2, rfl, fun B hB => by cases hB⟩
  refine Rn.aload_n k_116 rfl rfl ?_
  refine Rn.iconst (0) k_116 rfl rfl ?_
  refine Rn.putI k_116 rfl (rfl) (s585 L) ?_
  refine Rn.aload_n k_116 rfl rfl ?_
  refine Rn.getA k_116 rfl rfl (s585 L) (hF.l 9 rfl) ?_
  refine Rn.iconst (0) k_116 rfl rfl ?_
  refine Rn.putI k_116 rfl (rfl) (s586 L) ?_
  refine Rn.aload_n k_116 rfl rfl ?_
  refine Rn.getA k_116 rfl rfl (s585 L) (hF.l 14 rfl) ?_
  refine Rn.getI k_116 rfl rfl (s588 L) ?_
  rw [show up2 (up2 fi 585 3 0) 586 1 0 588 2 = nI ws.length from hW.1]
  refine Rn.iconst (2) k_116 rfl rfl ?_
  refine Rn.icmp_ne 49 k_116 rfl rfl (fun h1 => ?_) (fun h1 => ?_)
  · have h1 : ¬ ws.length = 2 := fun z => h1 ((c_eq 2 2 rfl (by omega) (by decide)).mpr z)
    refine no _ fr1 _ (fun _ _ _ => rfl) ?_
    match rest, hl with
    | [], _ => rfl
    | [w], hl => exact absurd hl h1
    | w :: w' :: r, _ => rfl
  · rw [c_eq 2 2 rfl (by omega) (by decide)] at h1
    match rest, hl, hws with
    | [w], hl, hws =>
      have hg : ws.getD 1 (0, 0) = w := by rw [hws]; rfl
      have hww := wok_at hw (show 1 < ws.length by omega)
      rw [hg] at hww
      have hne := wd_ne (x := x) hww.1
      refine Rn.aload_n k_116 rfl rfl ?_
      refine Rn.getA k_116 rfl rfl (s585 L) (hF.l 10 rfl) ?_
      refine Rn.getA k_116 rfl rfl (s19 L) (hF.l 4 rfl) ?_
      refine Rn.aload_n k_116 rfl rfl ?_
      refine Rn.getA k_116 rfl rfl (s585 L) (hF.l 14 rfl) ?_
      refine Rn.iconst (1) k_116 rfl rfl ?_
      refine Rn.cV2L k_116 rfl rfl q_137 rfl (Nat.le_of_ble_eq_true rfl) (Nat.le_of_ble_eq_true rfl) (s588 L) (ct_name (fi := up2 (up2 fi 585 3 0) 586 1 0) (k := 1) hF s1 hW hw (by decide)) ?_
      rw [if_pos (show 1 < ws.length by omega), hg]
      have hlen : (A.1.map (fun s => enc s.1)).length = A.1.length := List.length_map ..
      have h10 := hA.1
      refine Rn.cV2 k_116 rfl rfl q_98 rfl (Nat.le_of_ble_eq_true rfl) (Nat.le_of_ble_eq_true rfl) (s21 L) (ct_add (fi := up2 (up2 fi 585 3 0) 586 1 0) (s21 L) (s22 L) (hF.l 3 rfl) (by decide) s3 (by omega) (ncode_lt _)) (fun v h3 hq => ?_)
      have eqv : (ncode (wd x w) = 0 ∨ 10 ≤ (A.1.map (fun s => enc s.1)).length ∨ ncode (wd x w) ∈ A.1.map (fun s => enc s.1)) ↔ ¬ (okN (wd x w) = true ∧ A.1.length < 10 ∧ wd x w ∉ A.1.map (·.1)) := by
        rw [hlen]
        cases hok : okN (wd x w) with
        | false => rw [ncode_no hok]; simp
        | true =>
          rw [ncode_ok hok]
          have h0 := enc_pos (okN_okV hok) hne
          have hm : enc (wd x w) ∈ A.1.map (fun s => enc s.1) ↔ wd x w ∈ A.1.map (·.1) := by
            rw [show A.1.map (fun s => enc s.1) = (A.1.map (·.1)).map enc by rw [List.map_map]; rfl]
            exact mem_enc (fun s hs => by
              obtain ⟨q, hq, rfl⟩ := List.mem_map.mp hs
              exact okN_okV (hA.2.1 q hq).1) (okN_okV hok)
          rw [hm]
          constructor
          · rintro (z | z | z) ⟨-, z1, z2⟩
            · exact h0 z
            · omega
            · exact z2 z
          · intro z
            by_cases h10 : 10 ≤ A.1.length
            · exact Or.inr (Or.inl h10)
            · refine Or.inr (Or.inr ?_)
              by_cases hm2 : wd x w ∈ A.1.map (·.1)
              · exact hm2
              · exact absurd ⟨rfl, by omega, hm2⟩ z
      by_cases hgood : okN (wd x w) = true ∧ A.1.length < 10 ∧ wd x w ∉ A.1.map (·.1)
      · rw [if_neg (fun z => eqv.mp z hgood)] at hq
        obtain ⟨rfl, rfl⟩ := hq
        show Rn _ _ _ _ (Value.int 1 :: []) _ _
        refine Rn.if_eq 49 k_116 rfl rfl (fun h2 => ?_) (fun h2 => ?_)
        · exact absurd h2 (by decide)
        · refine Rn.iconst (1) k_116 rfl rfl ?_
          refine Rn.goto 50 k_116 rfl rfl ?_
          refine Rn.reti k_116 rfl q_116 rfl (rfl) ?_
          have e : suiteL x A ([w].map (wd x)) = some (A.1 ++ [(wd x w, [])], A.2.1, false) := by
            show (if _ then _ else _) = _
            rw [if_pos hgood]
          rw [e]
          refine ⟨_, _, rfl, fun a k ha => ?_, fun a k ha => ?_, rfl, fun B hB => ?_⟩
          · unfold rdF at ha
            rw [up2_row _ _ (by omega), up2_row _ _ (by omega), up2_row _ _ (by omega)]
          · unfold rdF at ha
            rw [up2_row _ _ (by omega)]
          · cases hB
            have s3' : NRr (up2 (up2 fi 585 3 0) 586 1 0) fl 21 22 (A.1.map (fun s => enc s.1)) := s3
            have s3'' := s3'.add (ncode_lt (wd x w)) (by omega)
            refine ⟨s1, s2, ?_, s4, s5, fun i hi => ?_, rfl, fun s hs => ?_⟩
            · rw [List.map_append]
              rw [ncode_ok hgood.1] at s3'' ⊢
              exact s3''
            · have hi : i < A.2.1.length := hi
              have hk := hA.k hi
              show CKr _ _ i (A.2.1.getD i dK) (snm (A.1 ++ [(wd x w, [])]) (k_su (A.2.1.getD i dK))) (stg (A.1 ++ [(wd x w, [])]) (k_su (A.2.1.getD i dK)))
              rw [stg_app _ _ hk.1, snm_app _ _ hk.1]
              have hA4 := hA.2.2.2.1
              exact (s6 i hi).keep hk.2.2.2.2.2.2.2.2.1 (fun a q h1 h2 => by rw [up2_row _ _ (by omega), up2_row _ _ (by omega), up2_row _ _ (by omega)]) (fun a q h1 h2 => by rw [up2_row _ _ (by omega)])
            · have hs : (A.1 ++ [(wd x w, ([] : List Nm))]).getLast? = some s := hs
              rw [List.getLast?_append] at hs
              cases hs
              exact NRr.nil rfl
      · rw [if_pos (eqv.mpr hgood)] at hq
        obtain ⟨rfl, rfl⟩ := hq
        show Rn _ _ _ _ (Value.int 0 :: []) _ _
        refine Rn.if_eq 49 k_116 rfl rfl (fun h2 => ?_) (fun h2 => ?_)
        · refine no _ fr1 _ (fun _ _ _ => rfl) ?_
          show (if _ then _ else _) = _
          rw [if_neg hgood]
        · exact absurd rfl h2
    | [], hl, _ => exact absurd hl (by simp; omega)
    | w :: w' :: r, hl, _ => exact absurd hl (by simp only [List.length_cons]; omega)
end RD
end
section
/-! ScriptReader: size, skip, fails of the open case -/
theorem getD_app_lt {ks : List KS} {k : KS} {i : Nat} (h : i < ks.length) : (ks ++ [k]).getD i dK = ks.getD i dK := by
  rw [List.getD_eq_getElem?_getD, List.getD_eq_getElem?_getD, List.getElem?_append_left h]
theorem getD_app_last (ks : List KS) (k : KS) : (ks ++ [k]).getD ks.length dK = k := by
  rw [List.getD_eq_getElem?_getD, List.getElem?_append_right (Nat.le_refl _), Nat.sub_self]; rfl
theorem totW_app (ks : List KS) (k : KS) : totW (ks ++ [k]) = totW ks + ways (k_ps k) := by
  unfold totW; rw [List.map_append, List.sum_append]; simp
/-- the last case changes -/
theorem SCr.last {fi fi' : Nat → Nat → Int32} {fl fl' : Nat → Nat → Int64} {x : Nat → Nat} {n : Nat} {ss : List (Nm × List Nm)} {ks : List KS} {k k' : KS} {c : Bool} (hS : SCr fi fl x n (ss, ks ++ [k], c)) (hA : AOk n (ss, ks ++ [k], c)) (h1 : ∀ a q, (a < 25 + 14 * ks.length ∨ 25 + 14 * ks.length + 14 ≤ a) → (a ≠ 19 ∨ q ≠ 6) → fi' a q = fi a q) (h2 : ∀ a q, (a < 25 + 14 * ks.length ∨ 25 + 14 * ks.length + 14 ≤ a) → fl' a q = fl a q) (h6 : fi' 19 6 = nI (totW (ks ++ [k']))) (hsu : k_su k' = k_su k) (hC : CKr fi' fl' ks.length k' (snm ss (k_su k)) (stg ss (k_su k))) : SCr fi' fl' x n (ss, ks ++ [k'], c) := by
  obtain ⟨s1, s2, s3, s4, s5, s6, s7, s8⟩ := hS
  have hl : ks.length < 40 := by
    have := hA.2.2.2.1
    have e : (ks ++ [k]).length = ks.length + 1 := by simp
    have this : (ks ++ [k]).length ≤ 40 := this
    omega
  refine ⟨⟨fun j hj => ?_, s1.2⟩, ?_, ?_, ?_, h6, fun i hi => ?_, ?_, fun s hs => ?_⟩
  · rw [h1 20 j (by omega) (Or.inl (by decide))]; exact s1.1 j hj
  · rw [h1 19 1 (by omega) (Or.inr (by decide))]; exact s2
  · exact NRr.keep s3 (h1 21 1 (by omega) (Or.inl (by decide))) (fun q => h2 22 q (by omega))
  · rw [h1 19 4 (by omega) (Or.inr (by decide)), s4]
    show nI (ks ++ [k]).length = nI (ks ++ [k']).length
    simp
  · have hi : i < (ks ++ [k']).length := hi
    rw [List.length_append] at hi
    have hi : i < ks.length + 1 := hi
    show CKr fi' fl' i ((ks ++ [k']).getD i dK) (snm ss (k_su ((ks ++ [k']).getD i dK))) (stg ss (k_su ((ks ++ [k']).getD i dK)))
    by_cases e : i = ks.length
    · subst e
      rw [getD_app_last, hsu]
      exact hC
    · have hi2 : i < ks.length := by omega
      have hk := hA.k (i := i) (by show i < (ks ++ [k]).length; simp; omega)
      have := s6 i (by show i < (ks ++ [k]).length; simp; omega)
      have this : CKr fi fl i ((ks ++ [k]).getD i dK) (snm ss (k_su ((ks ++ [k]).getD i dK))) (stg ss (k_su ((ks ++ [k]).getD i dK))) := this
      have hk : KOk ss n ((ks ++ [k]).getD i dK) := hk
      rw [getD_app_lt hi2] at this hk
      rw [getD_app_lt hi2]
      exact this.keep hk.2.2.2.2.2.2.2.2.1 (fun a q z1 z2 => h1 a q (by omega) (Or.inl (by omega))) (fun a q z1 z2 => h2 a q (by omega))
  · rw [h1 585 3 (by omega) (Or.inl (by decide))]; exact s7
  · exact (s8 s hs).keep (h1 586 1 (by omega) (Or.inl (by decide))) (fun q => h2 587 q (by omega))
/-- a case's head changes, its rows don't -/
theorem CKr.head {fi fi' : Nat → Nat → Int32} {fl : Nat → Nat → Int64} {i : Nat} {k k' : KS} {sn : Nm} {st : List Nm} (h : CKr fi fl i k sn st) (hps : (k_ps k).length ≤ 4) (e1 : k_nm k' = k_nm k) (e2 : k_su k' = k_su k) (e3 : k_ln k' = k_ln k) (e4 : k_tg k' = k_tg k) (e5 : k_ps k' = k_ps k) (hrow : ∀ a q, 25 + 14 * i < a → a < 25 + 14 * i + 14 → fi' a q = fi a q) (g2 : fi' (25 + 14 * i) 2 = fi (25 + 14 * i) 2) (g3 : fi' (25 + 14 * i) 3 = fi (25 + 14 * i) 3) (g10 : fi' (25 + 14 * i) 10 = fi (25 + 14 * i) 10) (f4 : fi' (25 + 14 * i) 4 = nI (if k_sz k' = 0 then 1 else k_sz k')) (f5 : fi' (25 + 14 * i) 5 = bI (k_rs k').isSome) (f6 : fi' (25 + 14 * i) 6 = bI (k_fl k')) (f78 : ∀ r, k_rs k' = some r → fi' (25 + 14 * i) 7 = nI r.1 ∧ fi' (25 + 14 * i) 8 = nI r.2) (f11 : fi' (25 + 14 * i) 11 = bI (decide (k_sz k' ≠ 0))) : CKr fi' fl i k' sn st := by
  obtain ⟨a1, a2, a3, a4, a5, a6, a7, a8, a9, a10, a11, a12, a13⟩ := h
  refine ⟨by rw [e1]; exact a1, a2, by rw [g2, e2]; exact a3, by rw [g3, e3]; exact a4, f4, f5, f6, f78, by rw [g10, e5]; exact a9, f11, ?_, ?_, ?_⟩
  · rw [e4]; exact a11.keep (hrow _ _ (by omega) (by omega)) (fun _ => rfl)
  · rw [e5]; exact a12.keep (hrow _ _ (by omega) (by omega)) (fun _ => rfl)
  · rw [e5]; exact fun p hp => (a13 p hp).keep (hrow _ _ (by omega) (by omega)) (fun _ => rfl)
theorem onLast_app (ss : List (Nm × List Nm)) (ks : List KS) (k : KS) (f : KS → Option KS) : onLast (ss, ks ++ [k], true) f = (match f k with
  | none => none
  | some k' => some (ss, ks ++ [k'], true)) := by
  unfold onLast
  simp
  cases f k <;> rfl
section RD
variable {d L : Nat} {fi : Nat → Nat → Int32} {fl : Nat → Nat → Int64} {fr : Nat → Nat → Option Nat} {F G : Nat} {x : Nat → Nat} {n : Nat} {ss : List (Nm × List Nm)} {ks : List KS} {k : KS} {ws : List (Nat × Nat)}
def sizeL (x : Nat → Nat) (A : AS) (rest : List (Nat × Nat)) : Option AS := match rest with
  | [w] => if wnum x w = 0 then none else onLast A (fun k => if k_sz k = 0 then some (k_su k, k_nm k, k_ln k, wnum x w, k_rs k, k_fl k, k_tg k, k_ps k) else none)
  | _ => none
def skipL (A : AS) (ws rest : List (Nat × Nat)) : Option AS := match rest with
  | [] => none
  | w :: _ => onLast A (fun k => if k_rs k = none then some (k_su k, k_nm k, k_ln k, k_sz k, some (w.1, (ws.getLastD (0, 0)).2), k_fl k, k_tg k, k_ps k) else none)
def failL (A : AS) (rest : List (Nat × Nat)) : Option AS := if rest = [] then onLast A (fun k => if k_fl k = false then some (k_su k, k_nm k, k_ln k, k_sz k, k_rs k, true, k_tg k, k_ps k) else none) else none
theorem ckl (hA : AOk n (ss, ks ++ [k], true)) : ks.length < 40 ∧ KOk ss n k := by
  refine ⟨?_, hA.2.2.2.2.1 k (by show k ∈ ks ++ [k]; simp)⟩
  have h1 : (ks ++ [k]).length ≤ 40 := hA.2.2.2.1
  rw [List.length_append] at h1
  exact h1
theorem wnum_le (x : Nat → Nat) (w : Nat × Nat) : wnum x w ≤ 9 := by unfold wnum; split <;> omega
theorem ct_setSize (hF : FRok F G fr) (hS : SCr fi fl x n (ss, ks ++ [k], true)) (hA : AOk n (ss, ks ++ [k], true)) (hW : WDr fi ws) (hw : wok n ws) {w0 : Nat × Nat} {rest : List (Nat × Nat)} (hws : ws = w0 :: rest) : Rn (d + 3) 121 0 [some (.ref 585), some (.ref (25 + 14 * ks.length)), none] [] (SH L, fi, fl, fr) (AccQ L fi fl fr x n (sizeL x (ss, ks ++ [k], true) rest)) := by
  obtain ⟨hi, hk⟩ := ckl hA
  have s6 := hS.2.2.2.2.2.1 ks.length (by show ks.length < (ks ++ [k]).length; simp)
  have s6 : CKr fi fl ks.length ((ks ++ [k]).getD ks.length dK) (snm ss (k_su ((ks ++ [k]).getD ks.length dK))) (stg ss (k_su ((ks ++ [k]).getD ks.length dK))) := s6
  rw [getD_app_last] at s6
  have hl : ws.length = rest.length + 1 := by rw [hws]; rfl
  have hl6 := hw.2
  have no : ∀ o2, sizeL x (ss, ks ++ [k], true) rest = none → Rn (d + 3) 121 31 [some (.ref 585), some (.ref (25 + 14 * ks.length)), o2] [] (SH L, fi, fl, fr) (AccQ L fi fl fr x n (sizeL x (ss, ks ++ [k], true) rest)) := by
    intro o2 e
    refine Rn.iconst (0) k_121 rfl rfl ?_
    refine Rn.reti k_121 rfl q_121 rfl (rfl) ?_
    rw [e]
    exact ⟨fi, fl, rfl, fun _ _ _ => rfl, fun _ _ _ => rfl, rfl, fun B hB => by cases hB⟩
  refine Rn.aload_n k_121 rfl rfl ?_
  refine Rn.getA k_121 rfl rfl (s585 L) (hF.l 14 rfl) ?_
  refine Rn.iconst (1) k_121 rfl rfl ?_
  refine Rn.cV2I k_121 rfl rfl q_139 rfl (Nat.le_of_ble_eq_true rfl) (Nat.le_of_ble_eq_true rfl) (s588 L) (ct_number (k := 1) hF hS.1 hW hw (by decide)) ?_
  refine Rn.istore_n2 k_121 rfl rfl ?_
  refine Rn.aload_n k_121 rfl rfl ?_
  refine Rn.getA k_121 rfl rfl (s585 L) (hF.l 14 rfl) ?_
  refine Rn.getI k_121 rfl rfl (s588 L) ?_
  rw [hW.1]
  refine Rn.iconst (2) k_121 rfl rfl ?_
  refine Rn.icmp_ne 31 k_121 rfl rfl (fun h1 => ?_) (fun h1 => ?_)
  · have h1 : ¬ ws.length = 2 := fun z => h1 ((c_eq 2 2 rfl (by omega) (by decide)).mpr z)
    refine no _ ?_
    match rest, hl with
    | [], _ => rfl
    | [w], hl => exact absurd hl h1
    | w :: w' :: r, _ => rfl
  · rw [c_eq 2 2 rfl (by omega) (by decide)] at h1
    match rest, hl, hws, no with
    | [w], hl, hws, no =>
      have hg : ws.getD 1 (0, 0) = w := by rw [hws]; rfl
      rw [if_pos (show 1 < ws.length by omega), hg]
      have h9 := wnum_le x w
      refine Rn.iload_n k_121 rfl rfl ?_
      refine Rn.if_eq 31 k_121 rfl rfl (fun h2 => ?_) (fun h2 => ?_)
      · have h2 := (c_eq 0 0 rfl (by omega) (by decide)).mp h2
        exact no _ (by show (if _ then _ else _) = _; rw [if_pos h2])
      · have h2 : ¬ wnum x w = 0 := fun z => h2 (by rw [z]; rfl)
        have e : sizeL x (ss, ks ++ [k], true) [w] = (match (if k_sz k = 0 then some (k_su k, k_nm k, k_ln k, wnum x w, k_rs k, k_fl k, k_tg k, k_ps k) else none : Option KS) with
          | none => none
          | some k' => some (ss, ks ++ [k'], true)) := by
          show (if _ then _ else _) = _
          rw [if_neg h2, onLast_app]
        refine Rn.aload_n k_121 rfl rfl ?_
        refine Rn.getI k_121 rfl rfl (sk0 L hi) ?_
        rw [s6.2.2.2.2.2.2.2.2.2.1]
        refine Rn.if_eq 33 k_121 rfl rfl (fun h3 => ?_) (fun h3 => ?_)
        · have h3 := (bI_0 _).mp h3
          have h3 : k_sz k = 0 := by simpa using h3
          rw [if_pos h3] at e
          refine Rn.aload_n k_121 rfl rfl ?_
          refine Rn.iconst (1) k_121 rfl rfl ?_
          refine Rn.putI k_121 rfl (rfl) (sk0 L hi) ?_
          refine Rn.aload_n k_121 rfl rfl ?_
          refine Rn.iload_n k_121 rfl rfl ?_
          refine Rn.putI k_121 rfl (rfl) (sk0 L hi) ?_
          refine Rn.iconst (1) k_121 rfl rfl ?_
          refine Rn.reti k_121 rfl q_121 rfl (rfl) ?_
          rw [e]
          refine ⟨_, fl, rfl, fun a q ha => ?_, fun _ _ _ => rfl, rfl, fun B hB => ?_⟩
          · unfold rdF at ha
            rw [up2_row _ _ (by omega), up2_row _ _ (by omega)]
          · cases hB
            refine SCr.last hS hA (fun a q h1 h2 => by rw [up2_row _ _ (by omega), up2_row _ _ (by omega)]) (fun _ _ _ => rfl) ?_ rfl (s6.head hk.2.2.2.2.2.2.2.2.1 rfl rfl rfl rfl rfl (fun a q z1 z2 => by rw [up2_row _ _ (by omega), up2_row _ _ (by omega)]) ?_ ?_ ?_ ?_ ?_ ?_ ?_ ?_)
            · rw [up2_row _ _ (by omega), up2_row _ _ (by omega), hS.2.2.2.2.1]
              show nI (totW (ks ++ [k])) = _
              rw [totW_app, totW_app]
              rfl
            · simp [up2]
            · simp [up2]
            · simp [up2]
            · rw [up2_same]
              show _ = nI (if wnum x w = 0 then 1 else wnum x w)
              rw [if_neg h2]
            · rw [up2_col _ _ (by decide), up2_col _ _ (by decide)]; exact s6.2.2.2.2.2.1
            · rw [up2_col _ _ (by decide), up2_col _ _ (by decide)]; exact s6.2.2.2.2.2.2.1
            · intro r hr
              rw [up2_col _ _ (by decide), up2_col _ _ (by decide), up2_col _ _ (by decide), up2_col _ _ (by decide)]
              exact s6.2.2.2.2.2.2.2.1 r hr
            · rw [up2_col _ _ (by decide), up2_same]
              show _ = bI (decide (wnum x w ≠ 0))
              rw [decide_eq_true h2]
              rfl
        · have h3 : ¬ k_sz k = 0 := fun z => h3 ((bI_0 _).mpr (by simp [z]))
          rw [if_neg h3] at e
          exact no _ e
    | [], hl, _, _ => exact absurd hl (by simp; omega)
    | w :: w' :: r, hl, _, _ => exact absurd hl (by simp only [List.length_cons]; omega)
theorem ct_expectFailure (hF : FRok F G fr) (hS : SCr fi fl x n (ss, ks ++ [k], true)) (hA : AOk n (ss, ks ++ [k], true)) (hW : WDr fi ws) (hw : wok n ws) {w0 : Nat × Nat} {rest : List (Nat × Nat)} (hws : ws = w0 :: rest) : Rn d 123 0 [some (.ref 585), some (.ref (25 + 14 * ks.length))] [] (SH L, fi, fl, fr) (AccQ L fi fl fr x n (failL (ss, ks ++ [k], true) rest)) := by
  obtain ⟨hi, hk⟩ := ckl hA
  have s6 := hS.2.2.2.2.2.1 ks.length (by show ks.length < (ks ++ [k]).length; simp)
  have s6 : CKr fi fl ks.length ((ks ++ [k]).getD ks.length dK) (snm ss (k_su ((ks ++ [k]).getD ks.length dK))) (stg ss (k_su ((ks ++ [k]).getD ks.length dK))) := s6
  rw [getD_app_last] at s6
  have hl : ws.length = rest.length + 1 := by rw [hws]; rfl
  have hl6 := hw.2
  have no : failL (ss, ks ++ [k], true) rest = none → Rn d 123 18 [some (.ref 585), some (.ref (25 + 14 * ks.length))] [] (SH L, fi, fl, fr) (AccQ L fi fl fr x n (failL (ss, ks ++ [k], true) rest)) := by
    intro e
    refine Rn.iconst (0) k_123 rfl rfl ?_
    refine Rn.reti k_123 rfl q_123 rfl (rfl) ?_
    rw [e]
    exact ⟨fi, fl, rfl, fun _ _ _ => rfl, fun _ _ _ => rfl, rfl, fun B hB => by cases hB⟩
  refine Rn.aload_n k_123 rfl rfl ?_
  refine Rn.getA k_123 rfl rfl (s585 L) (hF.l 14 rfl) ?_
  refine Rn.getI k_123 rfl rfl (s588 L) ?_
  rw [hW.1]
  refine Rn.iconst (1) k_123 rfl rfl ?_
  refine Rn.icmp_ne 18 k_123 rfl rfl (fun h1 => ?_) (fun h1 => ?_)
  · have h1 : ¬ ws.length = 1 := fun z => h1 ((c_eq 1 1 rfl (by omega) (by decide)).mpr z)
    refine no ?_
    unfold failL
    rw [if_neg]
    intro z
    rw [z] at hl
    exact h1 hl
  · rw [c_eq 1 1 rfl (by omega) (by decide)] at h1
    have hr : rest = [] := List.eq_nil_of_length_eq_zero (by omega)
    have e : failL (ss, ks ++ [k], true) rest = (match (if k_fl k = false then some (k_su k, k_nm k, k_ln k, k_sz k, k_rs k, true, k_tg k, k_ps k) else none : Option KS) with
          | none => none
          | some k' => some (ss, ks ++ [k'], true)) := by
      unfold failL
      rw [if_pos hr, onLast_app]
    refine Rn.aload_n k_123 rfl rfl ?_
    refine Rn.getI k_123 rfl rfl (sk0 L hi) ?_
    rw [s6.2.2.2.2.2.2.1]
    refine Rn.if_eq 20 k_123 rfl rfl (fun h3 => ?_) (fun h3 => ?_)
    · have h3 := (bI_0 _).mp h3
      rw [if_pos h3] at e
      refine Rn.aload_n k_123 rfl rfl ?_
      refine Rn.iconst (1) k_123 rfl rfl ?_
      refine Rn.putI k_123 rfl (rfl) (sk0 L hi) ?_
      refine Rn.iconst (1) k_123 rfl rfl ?_
      refine Rn.reti k_123 rfl q_123 rfl (rfl) ?_
      rw [e]
      refine ⟨_, fl, rfl, fun a q ha => ?_, fun _ _ _ => rfl, rfl, fun B hB => ?_⟩
      · unfold rdF at ha
        rw [up2_row _ _ (by omega)]
      · cases hB
        refine SCr.last hS hA (fun a q h1 h2 => by rw [up2_row _ _ (by omega)]) (fun _ _ _ => rfl) ?_ rfl (s6.head hk.2.2.2.2.2.2.2.2.1 rfl rfl rfl rfl rfl (fun a q z1 z2 => by rw [up2_row _ _ (by omega)]) ?_ ?_ ?_ ?_ ?_ ?_ ?_ ?_)
        · rw [up2_row _ _ (by omega), hS.2.2.2.2.1]
          show nI (totW (ks ++ [k])) = _
          rw [totW_app, totW_app]
          rfl
        · simp [up2]
        · simp [up2]
        · simp [up2]
        · rw [up2_col _ _ (by decide)]; exact s6.2.2.2.2.1
        · rw [up2_col _ _ (by decide)]; exact s6.2.2.2.2.2.1
        · rw [up2_same]; rfl
        · intro r hr
          rw [up2_col _ _ (by decide), up2_col _ _ (by decide)]
          exact s6.2.2.2.2.2.2.2.1 r hr
        · rw [up2_col _ _ (by decide)]; exact s6.2.2.2.2.2.2.2.2.2.1
    · have h3 : ¬ k_fl k = false := fun z => h3 ((bI_0 _).mpr z)
      rw [if_neg h3] at e
      exact no e
theorem ct_skip (hF : FRok F G fr) (hS : SCr fi fl x n (ss, ks ++ [k], true)) (hA : AOk n (ss, ks ++ [k], true)) (hW : WDr fi ws) (hw : wok n ws) {w0 : Nat × Nat} {rest : List (Nat × Nat)} (hws : ws = w0 :: rest) : Rn d 122 0 [some (.ref 585), some (.ref (25 + 14 * ks.length))] [] (SH L, fi, fl, fr) (AccQ L fi fl fr x n (skipL (ss, ks ++ [k], true) ws rest)) := by
  obtain ⟨hi, hk⟩ := ckl hA
  have s6 := hS.2.2.2.2.2.1 ks.length (by show ks.length < (ks ++ [k]).length; simp)
  have s6 : CKr fi fl ks.length ((ks ++ [k]).getD ks.length dK) (snm ss (k_su ((ks ++ [k]).getD ks.length dK))) (stg ss (k_su ((ks ++ [k]).getD ks.length dK))) := s6
  rw [getD_app_last] at s6
  have hl : ws.length = rest.length + 1 := by rw [hws]; rfl
  have hl6 := hw.2
  have no : skipL (ss, ks ++ [k], true) ws rest = none → Rn d 122 18 [some (.ref 585), some (.ref (25 + 14 * ks.length))] [] (SH L, fi, fl, fr) (AccQ L fi fl fr x n (skipL (ss, ks ++ [k], true) ws rest)) := by
    intro e
    refine Rn.iconst (0) k_122 rfl rfl ?_
    refine Rn.reti k_122 rfl q_122 rfl (rfl) ?_
    rw [e]
    exact ⟨fi, fl, rfl, fun _ _ _ => rfl, fun _ _ _ => rfl, rfl, fun B hB => by cases hB⟩
  refine Rn.aload_n k_122 rfl rfl ?_
  refine Rn.getA k_122 rfl rfl (s585 L) (hF.l 14 rfl) ?_
  refine Rn.getI k_122 rfl rfl (s588 L) ?_
  rw [hW.1]
  refine Rn.iconst (2) k_122 rfl rfl ?_
  refine Rn.icmp_lt 18 k_122 rfl rfl (fun h1 => ?_) (fun h1 => ?_)
  · rw [c_lt 2 2 rfl (by omega) (by decide)] at h1
    refine no ?_
    have hr : rest = [] := List.eq_nil_of_length_eq_zero (by omega)
    rw [hr]
    rfl
  · rw [c_lt 2 2 rfl (by omega) (by decide)] at h1
    match rest, hl, hws, no with
    | [], hl, _, _ => exact absurd hl (by simp; omega)
    | w :: r0, hl, hws, no =>
      have hg : ws.getD 1 (0, 0) = w := by rw [hws]; rfl
      have hlast : ws.getLastD (0, 0) = ws.getD (ws.length - 1) (0, 0) := by
        rw [List.getLastD_eq_getLast?, List.getLast?_eq_getElem?, List.getD_eq_getElem?_getD]
      have e : skipL (ss, ks ++ [k], true) ws (w :: r0) = (match (if k_rs k = none then some (k_su k, k_nm k, k_ln k, k_sz k, some (w.1, (ws.getLastD (0, 0)).2), k_fl k, k_tg k, k_ps k) else none : Option KS) with
          | none => none
          | some k' => some (ss, ks ++ [k'], true)) := by
        show onLast _ _ = _
        rw [onLast_app]
      refine Rn.aload_n k_122 rfl rfl ?_
      refine Rn.getI k_122 rfl rfl (sk0 L hi) ?_
      rw [s6.2.2.2.2.2.1]
      refine Rn.if_eq 20 k_122 rfl rfl (fun h3 => ?_) (fun h3 => ?_)
      · have h3 := (bI_0 _).mp h3
        have h3 : k_rs k = none := by
          cases hz : k_rs k with
          | none => rfl
          | some r => rw [hz] at h3; cases h3
        rw [if_pos h3] at e
        obtain ⟨v1, v2⟩ := hW.2 1 (by omega)
        obtain ⟨v3, v4⟩ := hW.2 (ws.length - 1) (by omega)
        refine Rn.aload_n k_122 rfl rfl ?_
        refine Rn.iconst (1) k_122 rfl rfl ?_
        refine Rn.putI k_122 rfl (rfl) (sk0 L hi) ?_
        refine Rn.aload_n k_122 rfl rfl ?_
        refine Rn.aload_n k_122 rfl rfl ?_
        refine Rn.getA k_122 rfl rfl (s585 L) (hF.l 14 rfl) ?_
        refine Rn.getA k_122 rfl rfl (s588 L) (hF.l 11 rfl) ?_
        refine Rn.iconst (1) k_122 rfl rfl ?_
        refine Rn.iaload (1) k_122 rfl (s589 L) (rfl) (by omega) (by decide) ?_
        rw [up2_row _ _ (show (589 : Nat) ≠ 25 + 14 * ks.length by omega), v1, hg]
        refine Rn.putI k_122 rfl (rfl) (sk0 L hi) ?_
        refine Rn.aload_n k_122 rfl rfl ?_
        refine Rn.aload_n k_122 rfl rfl ?_
        refine Rn.getA k_122 rfl rfl (s585 L) (hF.l 14 rfl) ?_
        refine Rn.getA k_122 rfl rfl (s588 L) (hF.l 12 rfl) ?_
        refine Rn.aload_n k_122 rfl rfl ?_
        refine Rn.getA k_122 rfl rfl (s585 L) (hF.l 14 rfl) ?_
        refine Rn.getI k_122 rfl rfl (s588 L) ?_
        rw [up2_row _ _ (show (588 : Nat) ≠ 25 + 14 * ks.length by omega), up2_row _ _ (show (588 : Nat) ≠ 25 + 14 * ks.length by omega), hW.1]
        refine Rn.iconst (1) k_122 rfl rfl ?_
        refine Rn.isub k_122 rfl ?_
        rw [c_sub 1 1 rfl (by omega)]
        refine Rn.iaload (ws.length - 1) k_122 rfl (s590 L) (rfl) (by omega) (by decide) ?_
        rw [up2_row _ _ (show (590 : Nat) ≠ 25 + 14 * ks.length by omega), up2_row _ _ (show (590 : Nat) ≠ 25 + 14 * ks.length by omega), v4]
        refine Rn.putI k_122 rfl (rfl) (sk0 L hi) ?_
        refine Rn.iconst (1) k_122 rfl rfl ?_
        refine Rn.reti k_122 rfl q_122 rfl (rfl) ?_
        rw [e]
        refine ⟨_, fl, rfl, fun a q ha => ?_, fun _ _ _ => rfl, rfl, fun B hB => ?_⟩
        · unfold rdF at ha
          rw [up2_row _ _ (by omega), up2_row _ _ (by omega), up2_row _ _ (by omega)]
        · cases hB
          refine SCr.last hS hA (fun a q h1 h2 => by rw [up2_row _ _ (by omega), up2_row _ _ (by omega), up2_row _ _ (by omega)]) (fun _ _ _ => rfl) ?_ rfl (s6.head hk.2.2.2.2.2.2.2.2.1 rfl rfl rfl rfl rfl (fun a q z1 z2 => by rw [up2_row _ _ (by omega), up2_row _ _ (by omega), up2_row _ _ (by omega)]) ?_ ?_ ?_ ?_ ?_ ?_ ?_ ?_)
          · rw [up2_row _ _ (by omega), up2_row _ _ (by omega), up2_row _ _ (by omega), hS.2.2.2.2.1]
            show nI (totW (ks ++ [k])) = _
            rw [totW_app, totW_app]
            rfl
          · simp [up2]
          · simp [up2]
          · simp [up2]
          · rw [up2_col _ _ (by decide), up2_col _ _ (by decide), up2_col _ _ (by decide)]; exact s6.2.2.2.2.1
          · rw [up2_col _ _ (by decide), up2_col _ _ (by decide), up2_same]; rfl
          · rw [up2_col _ _ (by decide), up2_col _ _ (by decide), up2_col _ _ (by decide)]; exact s6.2.2.2.2.2.2.1
          · intro r hr
            cases hr
            refine ⟨by rw [up2_col _ _ (by decide), up2_same], by rw [up2_same, hlast]⟩
          · rw [up2_col _ _ (by decide), up2_col _ _ (by decide), up2_col _ _ (by decide)]; exact s6.2.2.2.2.2.2.2.2.2.1
      · have h3 : ¬ k_rs k = none := fun z => h3 ((bI_0 _).mpr (by rw [z]; rfl))
        rw [if_neg h3] at e
        exact no e
end RD
end
section
/-! ScriptReader: tags -/
theorem eqvN {w : List Nm} {t : Nm} {cap : Nat} (hok : ∀ s ∈ w, okV s = true) (hne : t ≠ []) : (ncode t = 0 ∨ cap ≤ (w.map enc).length ∨ ncode t ∈ w.map enc) ↔ ¬ (okN t = true ∧ t ∉ w ∧ w.length < cap) := by
  rw [List.length_map]
  cases h : okN t with
  | false => rw [ncode_no h]; simp
  | true =>
    rw [ncode_ok h, mem_enc hok (okN_okV h)]
    have h0 := enc_pos (okN_okV h) hne
    constructor
    · rintro (z | z | z) ⟨-, z1, z2⟩
      · exact h0 z
      · omega
      · exact z1 z
    · intro z
      by_cases h10 : cap ≤ w.length
      · exact Or.inr (Or.inl h10)
      · refine Or.inr (Or.inr ?_)
        by_cases hm2 : t ∈ w
        · exact hm2
        · exact absurd ⟨rfl, hm2, by omega⟩ z
theorem TXr.keep {fi fi' : Nat → Nat → Int32} {x : Nat → Nat} {n : Nat} (h : TXr fi x n) (e : ∀ k, fi' 20 k = fi 20 k) : TXr fi' x n := ⟨fun k hk => by rw [e]; exact h.1 k hk, h.2⟩
theorem WDr.keep {fi fi' : Nat → Nat → Int32} {ws : List (Nat × Nat)} (h : WDr fi ws) (e : ∀ a k, 588 ≤ a → fi' a k = fi a k) : WDr fi' ws := ⟨by rw [e 588 2 (by decide)]; exact h.1, fun k hk => by rw [e 589 k (by decide), e 590 k (by decide)]; exact h.2 k hk⟩
section RD
variable {d L : Nat} {fi : Nat → Nat → Int32} {fl : Nat → Nat → Int64} {fr : Nat → Nat → Option Nat} {F G : Nat} {x : Nat → Nat} {n : Nat} {ws : List (Nat × Nat)}
/-- names come into a row, one behind another, each right, none twice, no more than eight -/
def addNs : List Nm → List Nm → Option (List Nm)
  | w, [] => some w
  | w, t :: ts => if okN t = true ∧ t ∉ w ∧ w.length < 8 then addNs (w ++ [t]) ts else none
/-- the loop of addTags, over whatever row r -/
theorem ct_tagLoop (hF : FRok F G fr) {r c : Nat} (hr : (SH L)[r]? = some (3, 2)) (hc : (SH L)[c]? = some (101, 8)) (hf : fr r 0 = some c) (hrn : ¬ rdF r) (hcn : ¬ rdF c) (hw : wok n ws) : ∀ (m i : Nat) (w : List Nm) (gi : Nat → Nat → Int32) (gl : Nat → Nat → Int64), i + m = ws.length → 1 ≤ i → TXr gi x n → WDr gi ws → NRr gi gl r c (w.map enc) → (∀ t ∈ w, okV t = true) → w.length ≤ 8 → ∀ Q : Option Value → am_H → Prop,
    (∀ gi' gl', (∀ a k, a ≠ r → gi' a k = gi a k) → (∀ a k, a ≠ c → gl' a k = gl a k) → addNs w ((ws.drop i).map (wd x)) = none → Q (some (.int 0)) (SH L, gi', gl', fr)) →
    (∀ gi' gl' w', (∀ a k, a ≠ r → gi' a k = gi a k) → (∀ k, k ≠ 1 → gi' r k = gi r k) → (∀ a k, a ≠ c → gl' a k = gl a k) → addNs w ((ws.drop i).map (wd x)) = some w' → NRr gi' gl' r c (w'.map enc) → Q (some (.int 1)) (SH L, gi', gl', fr)) →
    Rn (d + 3) 119 78 [some (.ref 585), some (.ref r), some (.int (nI i))] [] (SH L, gi, gl, fr) Q := by
  intro m
  induction m with
  | zero =>
    intro i w gi gl hi h1i hT hW hN hok hlen Q kf kt
    have hl6 := hw.2
    refine Rn.iload_n k_119 rfl rfl ?_
    refine Rn.aload_n k_119 rfl rfl ?_
    refine Rn.getA k_119 rfl rfl (s585 L) (hF.l 14 rfl) ?_
    refine Rn.getI k_119 rfl rfl (s588 L) ?_
    rw [hW.1]
    refine Rn.icmp_ge 112 k_119 rfl rfl (fun h1 => ?_) (fun h1 => ?_)
    · refine Rn.iconst (1) k_119 rfl rfl ?_
      refine Rn.reti k_119 rfl q_119 rfl (rfl) ?_
      refine kt gi gl w (fun _ _ _ => rfl) (fun _ _ => rfl) (fun _ _ _ => rfl) ?_ hN
      rw [List.drop_eq_nil_of_le (by omega)]
      rfl
    · exact absurd ((nI_leI (by omega) (by omega)).mpr (by omega)) h1
  | succ m ih =>
    intro i w gi gl hi h1i hT hW hN hok hlen Q kf kt
    have hl6 := hw.2
    have hil : i < ws.length := by omega
    have hww := wok_at hw hil
    have hne := wd_ne (x := x) hww.1
    have ed : (ws.drop i).map (wd x) = wd x (ws.getD i (0, 0)) :: (ws.drop (i + 1)).map (wd x) := by
      rw [List.drop_eq_getElem_cons hil, List.map_cons, List.getD_eq_getElem?_getD, List.getElem?_eq_getElem hil]
      rfl
    rw [ed] at kf kt
    have hr1 : r ≠ 20 ∧ r < 588 := by
      refine ⟨fun z => hrn (Or.inr (Or.inl z)), ?_⟩
      rcases Nat.lt_or_ge r 588 with z | z
      · exact z
      · exact absurd (Or.inr (Or.inr z)) hrn
    refine Rn.iload_n k_119 rfl rfl ?_
    refine Rn.aload_n k_119 rfl rfl ?_
    refine Rn.getA k_119 rfl rfl (s585 L) (hF.l 14 rfl) ?_
    refine Rn.getI k_119 rfl rfl (s588 L) ?_
    rw [hW.1]
    refine Rn.icmp_ge 112 k_119 rfl rfl (fun h1 => ?_) (fun h1 => ?_)
    · exact absurd ((nI_leI (by omega) (by omega)).mp h1) (by omega)
    · refine Rn.aload_n k_119 rfl rfl ?_
      refine Rn.aload_n k_119 rfl rfl ?_
      refine Rn.getA k_119 rfl rfl (s585 L) (hF.l 14 rfl) ?_
      refine Rn.iload_n k_119 rfl rfl ?_
      refine Rn.cV2L k_119 rfl rfl q_137 rfl (Nat.le_of_ble_eq_true rfl) (Nat.le_of_ble_eq_true rfl) (s588 L) (ct_name (k := i) hF hT hW hw (by omega)) ?_
      rw [if_pos hil]
      refine Rn.cV2 k_119 rfl rfl q_98 rfl (Nat.le_of_ble_eq_true rfl) (Nat.le_of_ble_eq_true rfl) hr (ct_add hr hc hf (by decide) hN (by rw [List.length_map]; exact hlen) (ncode_lt _)) (fun v h3 hq => ?_)
      generalize wd x (ws.getD i (0, 0)) = t at hne ed kf kt hq
      have eqv := eqvN (cap := 8) hok hne
      by_cases hgood : okN t = true ∧ t ∉ w ∧ w.length < 8
      · rw [if_neg (fun z => eqv.mp z hgood)] at hq
        obtain ⟨rfl, rfl⟩ := hq
        show Rn _ _ _ _ (Value.int 1 :: []) _ _
        refine Rn.if_ne 106 k_119 rfl rfl (fun h2 => ?_) (fun h2 => ?_)
        · refine Rn.iinc2 (1) k_119 rfl rfl rfl ?_
          rw [c_add 1 1 rfl]
          refine Rn.goto 78 k_119 rfl rfl ?_
          have e2 : addNs w (t :: (ws.drop (i + 1)).map (wd x)) = addNs (w ++ [t]) ((ws.drop (i + 1)).map (wd x)) := by
            rw [addNs, if_pos hgood]
          rw [e2] at kf kt
          refine ih (i + 1) (w ++ [t]) _ _ (by omega) (by omega) (hT.keep (fun k => up2_row _ _ (Ne.symm hr1.1))) (hW.keep (fun a k ha => up2_row _ _ (by omega))) ?_ ?_ ?_ Q ?_ ?_
          · have := hN.add (ncode_lt t) (by rw [List.length_map]; omega)
            rw [ncode_ok hgood.1] at this ⊢
            rw [List.map_append]
            exact this
          · intro s hs
            rcases List.mem_append.mp hs with z | z
            · exact hok s z
            · rw [List.mem_singleton.mp z]; exact okN_okV hgood.1
          · rw [List.length_append]; exact hgood.2.2
          · intro gi' gl' z1 z2 z3
            exact kf gi' gl' (fun a k ha => (z1 a k ha).trans (up2_row _ _ ha)) (fun a k ha => (z2 a k ha).trans (up2_row _ _ ha)) z3
          · intro gi' gl' w' z1 z1' z2 z3 z4
            exact kt gi' gl' w' (fun a k ha => (z1 a k ha).trans (up2_row _ _ ha)) (fun k hk => (z1' k hk).trans (up2_col _ _ hk)) (fun a k ha => (z2 a k ha).trans (up2_row _ _ ha)) z3 z4
        · exact absurd h2 (by decide)
      · rw [if_pos (eqv.mpr hgood)] at hq
        obtain ⟨rfl, rfl⟩ := hq
        show Rn _ _ _ _ (Value.int 0 :: []) _ _
        refine Rn.if_ne 106 k_119 rfl rfl (fun h2 => ?_) (fun h2 => ?_)
        · exact absurd rfl h2
        · refine Rn.iconst (0) k_119 rfl rfl ?_
          refine Rn.reti k_119 rfl q_119 rfl (rfl) ?_
          exact kf gi gl (fun _ _ _ => rfl) (fun _ _ _ => rfl) (by rw [addNs, if_neg hgood])
/-- tags into the open case -/
theorem tagsW_case (ss : List (Nm × List Nm)) (ks : List KS) : ∀ (ts : List Nm) (k : KS), tagsW (ss, ks ++ [k], true) ts = (match addNs (atg ss k) ts with
  | none => none
  | some w => some (ss, ks ++ [(k_su k, k_nm k, k_ln k, k_sz k, k_rs k, k_fl k, w.drop (stg ss (k_su k)).length, k_ps k)], true)) := by
  intro ts
  induction ts with
  | nil =>
    intro k
    show some _ = some _
    congr 4
    show [k] = [(k_su k, k_nm k, k_ln k, k_sz k, k_rs k, k_fl k, (atg ss k).drop (stg ss (k_su k)).length, k_ps k)]
    unfold atg
    rw [List.drop_append_of_le_length (Nat.le_refl _), List.drop_length, List.nil_append]
    rfl
  | cons t ts ih =>
    intro k
    show (match tagW (ss, ks ++ [k], true) t with
      | none => none
      | some B => tagsW B ts) = _
    unfold tagW addNs
    by_cases h1 : okN t = false
    · rw [if_pos h1, if_neg (by rw [h1]; simp)]
    · rw [if_neg h1]
      have h1 : okN t = true := by simpa using h1
      simp only [if_true, List.getLast?_concat, List.dropLast_concat]
      by_cases h2 : t ∈ atg ss k ∨ 8 ≤ (atg ss k).length
      · rw [if_pos h2, if_neg]
        rintro ⟨-, z1, z2⟩
        rcases h2 with h2 | h2
        · exact z1 h2
        · omega
      · rw [if_neg h2, if_pos ⟨h1, fun z => h2 (Or.inl z), by omega⟩]
        dsimp only
        rw [ih]
        have e : atg ss (k_su k, k_nm k, k_ln k, k_sz k, k_rs k, k_fl k, k_tg k ++ [t], k_ps k) = atg ss k ++ [t] := by
          show stg ss (k_su k) ++ (k_tg k ++ [t]) = stg ss (k_su k) ++ k_tg k ++ [t]
          rw [List.append_assoc]
        rw [e]
        rfl
/-- tags into the last suite -/
theorem tagsW_suite (ss : List (Nm × List Nm)) (ks : List KS) : ∀ (ts : List Nm) (s : Nm × List Nm), tagsW (ss ++ [s], ks, false) ts = (match addNs s.2 ts with
  | none => none
  | some w => some (ss ++ [(s.1, w)], ks, false)) := by
  intro ts
  induction ts with
  | nil => intro s; rfl
  | cons t ts ih =>
    intro s
    show (match tagW (ss ++ [s], ks, false) t with
      | none => none
      | some B => tagsW B ts) = _
    unfold tagW addNs
    by_cases h1 : okN t = false
    · rw [if_pos h1, if_neg (by rw [h1]; simp)]
    · rw [if_neg h1]
      have h1 : okN t = true := by simpa using h1
      simp only [Bool.false_eq_true, if_false, List.getLast?_concat, List.dropLast_concat]
      by_cases h2 : t ∈ s.2 ∨ 8 ≤ s.2.length
      · rw [if_pos h2, if_neg]
        rintro ⟨-, z1, z2⟩
        rcases h2 with h2 | h2
        · exact z1 h2
        · omega
      · rw [if_neg h2, if_pos ⟨h1, fun z => h2 (Or.inl z), by omega⟩]
        dsimp only
        rw [ih]
end RD
end
section
/-! ScriptReader: addTags, isTaken, openCase -/
theorem addNs_pre : ∀ (ts w w' : List Nm), addNs w ts = some w' → ∃ u, w' = w ++ u ∧ ∀ t ∈ u, okV t = true
  | [], w, w', h => ⟨[], by cases h; simp, fun t ht => by cases ht⟩
  | t :: ts, w, w', h => by
    unfold addNs at h
    split at h
    · rename_i hg
      obtain ⟨u, rfl, hu⟩ := addNs_pre ts _ _ h
      refine ⟨t :: u, by simp, fun s hs => ?_⟩
      rcases List.mem_cons.mp hs with z | z
      · rw [z]; exact okN_okV hg.1
      · exact hu s z
    · cases h
section RD
variable {d L : Nat} {fi : Nat → Nat → Int32} {fl : Nat → Nat → Int64} {fr : Nat → Nat → Option Nat} {F G : Nat} {x : Nat → Nat} {n : Nat} {A : AS} {ws : List (Nat × Nat)}
def tagL (A : AS) (ts : List Nm) : Option AS := if ts = [] ∨ (A.2.2 = false ∧ A.1 = []) then none else tagsW A ts
theorem AOk.inK {n : Nat} {A : AS} (hA : AOk n A) (h : A.2.2 = true) : ∃ ss ks k, A = (ss, ks ++ [k], true) ∧ k_su k = ss.length := by
  obtain ⟨ss, kk, c⟩ := A
  have h : c = true := h
  subst h
  obtain ⟨h1, h2⟩ := hA.2.2.2.2.2.2.1 rfl
  have h1 : kk ≠ [] := h1
  refine ⟨ss, kk.dropLast, kk.getLast h1, ?_, h2 _ (List.getLast?_eq_some_getLast h1)⟩
  rw [List.dropLast_concat_getLast h1]
theorem AOk.noK {A : AS} (h : A.2.2 = false) (h2 : A.1 ≠ []) : ∃ ss s ks, A = (ss ++ [s], ks, false) := by
  obtain ⟨ss, kk, c⟩ := A
  have h : c = false := h
  subst h
  have h2 : ss ≠ [] := h2
  exact ⟨ss.dropLast, ss.getLast h2, kk, by rw [List.dropLast_concat_getLast h2]⟩
set_option maxHeartbeats 1000000 in
theorem ct_addTags (hF : FRok F G fr) (hS : SCr fi fl x n A) (hA : AOk n A) (hW : WDr fi ws) (hw : wok n ws) {w0 : Nat × Nat} {rest : List (Nat × Nat)} (hws : ws = w0 :: rest) : Rn (d + 3) 119 0 [some (.ref 585), none, none] [] (SH L, fi, fl, fr) (AccQ L fi fl fr x n (tagL A (rest.map (wd x)))) := by
  have hl : ws.length = rest.length + 1 := by rw [hws]; rfl
  have hl6 := hw.2
  have hd : ws.drop 1 = rest := by rw [hws]; rfl
  have s3 : fi 21 1 = nI A.1.length := by rw [hS.2.2.1.1, List.length_map]
  have hA1 := hA.1
  have no : tagL A (rest.map (wd x)) = none → Rn (d + 3) 119 31 [some (.ref 585), none, none] [] (SH L, fi, fl, fr) (AccQ L fi fl fr x n (tagL A (rest.map (wd x)))) := by
    intro e
    refine Rn.iconst (0) k_119 rfl rfl ?_
    refine Rn.reti k_119 rfl q_119 rfl (rfl) ?_
    rw [e]
    exact ⟨fi, fl, rfl, fun _ _ _ => rfl, fun _ _ _ => rfl, rfl, fun B hB => by cases hB⟩
  refine Rn.aload_n k_119 rfl rfl ?_
  refine Rn.getA k_119 rfl rfl (s585 L) (hF.l 14 rfl) ?_
  refine Rn.getI k_119 rfl rfl (s588 L) ?_
  rw [hW.1]
  refine Rn.iconst (2) k_119 rfl rfl ?_
  refine Rn.icmp_lt 31 k_119 rfl rfl (fun h1 => ?_) (fun h1 => ?_)
  · rw [c_lt 2 2 rfl (by omega) (by decide)] at h1
    refine no ?_
    unfold tagL
    rw [if_pos (Or.inl (by rw [List.eq_nil_of_length_eq_zero (show rest.length = 0 by omega)]; rfl))]
  · rw [c_lt 2 2 rfl (by omega) (by decide)] at h1
    have hr : rest.map (wd x) ≠ [] := by
      intro z
      have := congrArg List.length z
      rw [List.length_map] at this
      have this : rest.length = 0 := this
      omega
    refine Rn.aload_n k_119 rfl rfl ?_
    refine Rn.getI k_119 rfl rfl (s585 L) ?_
    rw [hS.2.2.2.2.2.2.1]
    refine Rn.if_ne 33 k_119 rfl rfl (fun h2 => ?_) (fun h2 => ?_)
    · (try rw [bI_0] at h2)
      (try rw [Bool.not_eq_false] at h2)
      obtain ⟨ss, ks, k, rfl, hsu⟩ := hA.inK h2
      have eL : tagL (ss, ks ++ [k], true) (rest.map (wd x)) = tagsW (ss, ks ++ [k], true) (rest.map (wd x)) := by
        unfold tagL
        rw [if_neg]
        rintro (z | z)
        · exact hr z
        · cases z.1
      rw [eL, tagsW_case]
      obtain ⟨hi, hk⟩ := ckl hA
      have s6 := hS.2.2.2.2.2.1 ks.length (by show ks.length < (ks ++ [k]).length; simp)
      have s6 : CKr fi fl ks.length ((ks ++ [k]).getD ks.length dK) (snm ss (k_su ((ks ++ [k]).getD ks.length dK))) (stg ss (k_su ((ks ++ [k]).getD ks.length dK))) := s6
      rw [getD_app_last] at s6
      have s4 : fi 19 4 = nI (ks.length + 1) := by rw [hS.2.2.2.1]; show nI (ks ++ [k]).length = _; simp
      refine Rn.aload_n k_119 rfl rfl ?_
      refine Rn.getA k_119 rfl rfl (s585 L) (hF.l 9 rfl) ?_
      refine Rn.astore_n1 k_119 rfl rfl ?_
      refine Rn.aload_n k_119 rfl rfl ?_
      refine Rn.getI k_119 rfl rfl (s585 L) ?_
      rw [hS.2.2.2.2.2.2.1]
      refine Rn.if_eq 76 k_119 rfl rfl (fun h4 => ?_) (fun h4 => ?_)
      · exact absurd (show bI true = 0 from h4) (by decide)
      · refine Rn.aload_n k_119 rfl rfl ?_
        refine Rn.getA k_119 rfl rfl (s585 L) (hF.l 10 rfl) ?_
        refine Rn.getI k_119 rfl rfl (s19 L) ?_
        rw [s4]
        refine Rn.if_le 76 k_119 rfl rfl (fun h5 => ?_) (fun h5 => ?_)
        · rw [c_le 0 0 rfl (by omega) (by decide)] at h5
          omega
        · refine Rn.aload_n k_119 rfl rfl ?_
          refine Rn.getA k_119 rfl rfl (s585 L) (hF.l 10 rfl) ?_
          refine Rn.getA k_119 rfl rfl (s19 L) (hF.l 5 rfl) ?_
          refine Rn.aload_n k_119 rfl rfl ?_
          refine Rn.getA k_119 rfl rfl (s585 L) (hF.l 10 rfl) ?_
          refine Rn.getI k_119 rfl rfl (s19 L) ?_
          rw [s4]
          refine Rn.iconst (1) k_119 rfl rfl ?_
          refine Rn.isub k_119 rfl ?_
          rw [c_sub 1 1 rfl (by omega), Nat.add_sub_cancel]
          refine Rn.aaload (ci := 4) (ks.length) k_119 rfl (s23 L) rfl (by decide) (rfl) (by omega) (by decide) (hF.2.2.1 _ hi) ?_
          refine Rn.getA k_119 rfl rfl (sk0 L hi) (hF.k hi 1 rfl) ?_
          refine Rn.astore_n1 k_119 rfl rfl ?_
          refine Rn.iconst (1) k_119 rfl rfl ?_
          refine Rn.istore_n2 k_119 rfl rfl ?_
          refine ct_tagLoop hF (sk1 L hi) (sk2 L hi) (hF.k hi 0 rfl) (by unfold rdF; omega) (by unfold rdF; omega) hw rest.length 1 (atg ss k) fi fl (by omega) (by decide) hS.1 hW s6.2.2.2.2.2.2.2.2.2.2.1 ?_ hk.2.2.2.2.2.2.1 _ ?_ ?_
          · intro t ht
            rcases List.mem_append.mp ht with z | z
            · unfold stg at z
              split at z
              · cases z
              · rename_i q _
                have hq : q < ss.length ∨ ss.length ≤ q := by omega
                rcases hq with hq | hq
                · rw [List.getD_eq_getElem?_getD, List.getElem?_eq_getElem hq] at z
                  exact okN_okV ((hA.2.1 _ (List.getElem_mem hq)).2.2.2.2 t z).1
                · rw [List.getD_eq_getElem?_getD, List.getElem?_eq_none hq] at z
                  cases z
            · exact okN_okV (hk.2.2.2.2.2.1 t z).1
          · intro gi' gl' z1 z2 z3
            rw [hd] at z3
            rw [z3]
            refine ⟨gi', gl', rfl, fun a q ha => z1 a q ?_, fun a q ha => z2 a q ?_, rfl, fun B hB => by cases hB⟩
            · unfold rdF at ha; omega
            · unfold rdF at ha; omega
          · intro gi' gl' w' z1 z1' z2 z3 z4
            rw [hd] at z3
            rw [z3]
            refine ⟨gi', gl', rfl, fun a q ha => z1 a q ?_, fun a q ha => z2 a q ?_, rfl, fun B hB => ?_⟩
            · unfold rdF at ha; omega
            · unfold rdF at ha; omega
            · cases hB
              obtain ⟨u, rfl, hu⟩ := addNs_pre _ _ _ z3
              have e5 : (stg ss (k_su k)) ++ ((atg ss k ++ u).drop (stg ss (k_su k)).length) = atg ss k ++ u := by
                unfold atg
                rw [List.append_assoc, List.drop_left]
              obtain ⟨a1, a2, a3, a4, a5, a6, a7, a8, a9, a10, a11, a12, a13⟩ := s6
              have g0 : ∀ q, gi' (25 + 14 * ks.length) q = fi (25 + 14 * ks.length) q := fun q => z1 _ q (by omega)
              refine SCr.last hS hA (fun a q y1 y2 => z1 a q (by omega)) (fun a q y1 => z2 a q (by omega)) ?_ rfl ⟨?_, ?_, (g0 2).trans a3, (g0 3).trans a4, (g0 4).trans a5, (g0 5).trans a6, (g0 6).trans a7, fun r hr => ⟨(g0 7).trans (a8 r hr).1, (g0 8).trans (a8 r hr).2⟩, (g0 10).trans a9, (g0 11).trans a10, ?_, ?_, ?_⟩
              · rw [z1 19 6 (by omega), hS.2.2.2.2.1]
                show nI (totW (ks ++ [k])) = _
                rw [totW_app, totW_app]
                rfl
              · rw [z2 _ _ (by omega)]; exact a1
              · rw [z2 _ _ (by omega)]; exact a2
              · show NRr gi' gl' _ _ (((stg ss (k_su k)) ++ ((atg ss k ++ u).drop (stg ss (k_su k)).length)).map enc)
                rw [e5]
                exact z4
              · exact a12.keep (z1 _ _ (by omega)) (fun q => z2 _ _ (by omega))
              · exact fun p hp => (a13 p hp).keep (z1 _ _ (by omega)) (fun q => z2 _ _ (by omega))
    · (try rw [bI_0] at h2)
      (try rw [Bool.not_eq_false] at h2)
      refine Rn.aload_n k_119 rfl rfl ?_
      refine Rn.getA k_119 rfl rfl (s585 L) (hF.l 10 rfl) ?_
      refine Rn.getA k_119 rfl rfl (s19 L) (hF.l 4 rfl) ?_
      refine Rn.getI k_119 rfl rfl (s21 L) ?_
      rw [s3]
      refine Rn.if_ne 33 k_119 rfl rfl (fun h3 => ?_) (fun h3 => ?_)
      · rw [c_eq 0 0 rfl (by omega) (by decide)] at h3
        obtain ⟨ss, s, ks, rfl⟩ := AOk.noK h2 (fun z => h3 (by rw [z]; rfl))
        have eL : tagL (ss ++ [s], ks, false) (rest.map (wd x)) = tagsW (ss ++ [s], ks, false) (rest.map (wd x)) := by
          unfold tagL
          rw [if_neg]
          rintro (z | z)
          · exact hr z
          · have := z.2
            simp at this
        rw [eL, tagsW_suite]
        have hs := hA.2.1 s (by show s ∈ ss ++ [s]; simp)
        refine Rn.aload_n k_119 rfl rfl ?_
        refine Rn.getA k_119 rfl rfl (s585 L) (hF.l 9 rfl) ?_
        refine Rn.astore_n1 k_119 rfl rfl ?_
        refine Rn.aload_n k_119 rfl rfl ?_
        refine Rn.getI k_119 rfl rfl (s585 L) ?_
        rw [hS.2.2.2.2.2.2.1]
        refine Rn.if_eq 76 k_119 rfl rfl (fun h4 => ?_) (fun h4 => ?_)
        · refine Rn.iconst (1) k_119 rfl rfl ?_
          refine Rn.istore_n2 k_119 rfl rfl ?_
          refine ct_tagLoop hF (s586 L) (s587 L) (hF.l 8 rfl) (by unfold rdF; omega) (by unfold rdF; omega) hw rest.length 1 s.2 fi fl (by omega) (by decide) hS.1 hW (hS.2.2.2.2.2.2.2 s (by show (ss ++ [s]).getLast? = some s; simp)) (fun t ht => okN_okV (hs.2.2.2.2 t ht).1) hs.2.2.1 _ ?_ ?_
          · intro gi' gl' z1 z2 z3
            rw [hd] at z3
            rw [z3]
            refine ⟨gi', gl', rfl, fun a q ha => z1 a q ?_, fun a q ha => z2 a q ?_, rfl, fun B hB => by cases hB⟩
            · unfold rdF at ha; omega
            · unfold rdF at ha; omega
          · intro gi' gl' w' z1 z1' z2 z3 z4
            rw [hd] at z3
            rw [z3]
            refine ⟨gi', gl', rfl, fun a q ha => z1 a q ?_, fun a q ha => z2 a q ?_, rfl, fun B hB => ?_⟩
            · unfold rdF at ha; omega
            · unfold rdF at ha; omega
            · cases hB
              obtain ⟨y1, y2, y3, y4, y5, y6, y7, y8⟩ := hS
              refine ⟨y1.keep (fun k => z1 20 k (by decide)), (z1 19 1 (by decide)).trans y2, ?_, (z1 19 4 (by decide)).trans y4, (z1 19 6 (by decide)).trans y5, fun i hi => ?_, (z1 585 3 (by decide)).trans y7, fun s' hs' => ?_⟩
              · rw [List.map_append] at y3 ⊢
                exact y3.keep (z1 _ _ (by decide)) (fun q => z2 _ _ (by decide))
              · have hi : i < ks.length := hi
                have hk40 : ks.length ≤ 40 := hA.2.2.2.1
                have y6 : CKr fi fl i (ks.getD i dK) (snm (ss ++ [s]) (k_su (ks.getD i dK))) (stg (ss ++ [s]) (k_su (ks.getD i dK))) := y6 i hi
                have hm : ks.getD i dK ∈ ks := by rw [List.getD_eq_getElem?_getD, List.getElem?_eq_getElem hi]; exact List.getElem_mem hi
                have hlt := hA.2.2.2.2.2.2.2 rfl _ hm
                have hlt : (ss ++ [s]).length = 0 ∨ k_su (ks.getD i dK) < (ss ++ [s]).length := hlt
                rw [List.length_append] at hlt
                have hlt : k_su (ks.getD i dK) ≤ ss.length := by
                  rcases hlt with z | z
                  · simp at z
                  · have z : _ < ss.length + 1 := z; omega
                rw [snm_app _ _ hlt, stg_app _ _ hlt] at y6
                show CKr gi' gl' i (ks.getD i dK) (snm (ss ++ [(s.1, w')]) (k_su (ks.getD i dK))) (stg (ss ++ [(s.1, w')]) (k_su (ks.getD i dK)))
                rw [snm_app _ _ hlt, stg_app _ _ hlt]
                exact y6.keep (hA.2.2.2.2.1 _ hm).2.2.2.2.2.2.2.2.1 (fun a q u1 u2 => z1 a q (by omega)) (fun a q u1 u2 => z2 a q (by omega))
              · have : s' = (s.1, w') := by
                  have : (ss ++ [(s.1, w')]).getLast? = some s' := hs'
                  simpa using this.symm
                subst this
                exact z4
        · exact absurd (show bI false = 0 from rfl) h4
      · rw [c_eq 0 0 rfl (by omega) (by decide)] at h3
        refine no ?_
        unfold tagL
        rw [if_pos (Or.inr ⟨h2, List.eq_nil_of_length_eq_zero h3⟩)]
end RD
end
section
/-! ScriptReader: isTaken, openCase -/
theorem sub1_inj {a b : Nat} (ha : a < 2 ^ 31) (hb : b < 2 ^ 31) : nI a - 1 = nI b - 1 ↔ a = b := by
  constructor
  · intro h
    have := congrArg (· + (1 : Int32)) h
    simp only [Int32.sub_add_cancel] at this
    exact (nI_eq ha hb).mp this
  · intro h; rw [h]
theorem sub1_m1 {a : Nat} (ha : a < 2 ^ 31) : nI a - 1 = -1 ↔ a = 0 := by
  have := sub1_inj (a := a) (b := 0) ha (by decide)
  rw [show nI 0 - 1 = (-1 : Int32) from rfl] at this
  exact this
/-- one more case -/
theorem SCr.push {fi fi' : Nat → Nat → Int32} {fl fl' : Nat → Nat → Int64} {x : Nat → Nat} {n : Nat} {A : AS} {k' : KS} (hS : SCr fi fl x n A) (hA : AOk n A) (hl : A.2.1.length < 40) (h1 : ∀ a q, (a < 25 + 14 * A.2.1.length ∨ 25 + 14 * A.2.1.length + 14 ≤ a) → (a ≠ 19 ∨ (q ≠ 4 ∧ q ≠ 6)) → (a ≠ 585 ∨ q ≠ 3) → fi' a q = fi a q) (h2 : ∀ a q, (a < 25 + 14 * A.2.1.length ∨ 25 + 14 * A.2.1.length + 14 ≤ a) → fl' a q = fl a q) (h4 : fi' 19 4 = nI (A.2.1.length + 1)) (h6 : fi' 19 6 = nI (totW A.2.1 + 1)) (h7 : fi' 585 3 = 1) (hC : CKr fi' fl' A.2.1.length k' (snm A.1 (k_su k')) (stg A.1 (k_su k'))) (hps : ways (k_ps k') = 1) : SCr fi' fl' x n (A.1, A.2.1 ++ [k'], true) := by
  obtain ⟨s1, s2, s3, s4, s5, s6, s7, s8⟩ := hS
  refine ⟨⟨fun j hj => ?_, s1.2⟩, ?_, ?_, ?_, ?_, fun i hi => ?_, h7, fun s hs => ?_⟩
  · rw [h1 20 j (by omega) (Or.inl (by decide)) (Or.inl (by decide))]; exact s1.1 j hj
  · rw [h1 19 1 (by omega) (Or.inr (by decide)) (Or.inl (by decide))]; exact s2
  · exact NRr.keep s3 (h1 21 1 (by omega) (Or.inl (by decide)) (Or.inl (by decide))) (fun q => h2 22 q (by omega))
  · rw [h4]; show _ = nI (A.2.1 ++ [k']).length; simp
  · rw [h6]; show _ = nI (totW (A.2.1 ++ [k'])); rw [totW_app, hps]
  · have hi : i < (A.2.1 ++ [k']).length := hi
    rw [List.length_append] at hi
    have hi : i < A.2.1.length + 1 := hi
    show CKr fi' fl' i ((A.2.1 ++ [k']).getD i dK) (snm A.1 (k_su ((A.2.1 ++ [k']).getD i dK))) (stg A.1 (k_su ((A.2.1 ++ [k']).getD i dK)))
    by_cases e : i = A.2.1.length
    · subst e
      rw [getD_app_last]
      exact hC
    · rw [getD_app_lt (by omega)]
      exact (s6 i (by omega)).keep (hA.k (by omega)).2.2.2.2.2.2.2.2.1 (fun a q u1 u2 => h1 a q (by omega) (by omega) (by omega)) (fun a q u1 u2 => h2 a q (by omega))
  · exact (s8 s hs).keep (h1 586 1 (by omega) (Or.inl (by decide)) (Or.inl (by decide))) (fun q => h2 587 q (by omega))
section RD
variable {d L : Nat} {fi : Nat → Nat → Int32} {fl : Nat → Nat → Int64} {fr : Nat → Nat → Option Nat} {F G : Nat} {x : Nat → Nat} {n : Nat} {A : AS} {ws : List (Nat × Nat)}
def tkn (ks : List KS) (su : Nat) (t : Nm) : Bool := ks.any (fun k => decide (k_su k = su ∧ k_nm k = t))
theorem ct_isTaken (hF : FRok F G fr) (hS : SCr fi fl x n A) (hA : AOk n A) {t : Nm} (ht : okN t = true) {su : Nat} (hsu : su ≤ 10) : Rn d 118 0 [some (.ref 585), some (.long (lN (enc t))), none, some (.int (nI su - 1)), none] [] (SH L, fi, fl, fr) (Ret (SH L, fi, fl, fr) (some (.int (bI (tkn A.2.1 su t))))) := by
  have hl := hA.2.2.2.1
  have loop : ∀ m i, i + m = A.2.1.length → Rn d 118 3 [some (.ref 585), some (.long (lN (enc t))), none, some (.int (nI su - 1)), some (.int (nI i))] [] (SH L, fi, fl, fr) (Ret (SH L, fi, fl, fr) (some (.int (bI (tkn (A.2.1.drop i) su t))))) := by
    intro m
    induction m with
    | zero =>
      intro i hi
      refine Rn.iload k_118 rfl rfl ?_
      refine Rn.aload_n k_118 rfl rfl ?_
      refine Rn.getA k_118 rfl rfl (s585 L) (hF.l 10 rfl) ?_
      refine Rn.getI k_118 rfl rfl (s19 L) ?_
      rw [hS.2.2.2.1]
      refine Rn.icmp_ge 58 k_118 rfl rfl (fun h1 => ?_) (fun h1 => ?_)
      · refine Rn.iconst (0) k_118 rfl rfl ?_
        refine Rn.reti k_118 rfl q_118 rfl (rfl) ?_
        rw [List.drop_eq_nil_of_le (by omega)]
        exact ⟨rfl, rfl⟩
      · rw [nI_leI (by omega) (by omega)] at h1
        omega
    | succ m ih =>
      intro i hi
      have hil : i < A.2.1.length := by omega
      have hC := hS.2.2.2.2.2.1 i hil
      have hk := hA.k hil
      have hA1 := hA.1
      have ed : A.2.1.drop i = A.2.1.getD i dK :: A.2.1.drop (i + 1) := by
        rw [List.getD_eq_getElem?_getD, List.getElem?_eq_getElem hil]
        exact List.drop_eq_getElem_cons hil
      rw [ed]
      generalize A.2.1.getD i dK = k at hC hk ⊢
      have hk1 := hk.1
      have ek : tkn (k :: A.2.1.drop (i + 1)) su t = (decide (k_su k = su ∧ k_nm k = t) || tkn (A.2.1.drop (i + 1)) su t) := rfl
      have go : decide (k_su k = su ∧ k_nm k = t) = false → Rn d 118 52 [some (.ref 585), some (.long (lN (enc t))), none, some (.int (nI su - 1)), some (.int (nI i))] [] (SH L, fi, fl, fr) (Ret (SH L, fi, fl, fr) (some (.int (bI (tkn (k :: A.2.1.drop (i + 1)) su t))))) := by
        intro e
        refine Rn.iinc4 (1) k_118 rfl rfl rfl ?_
        rw [c_add 1 1 rfl]
        refine Rn.goto 3 k_118 rfl rfl ?_
        rw [ek, e, Bool.false_or]
        exact ih (i + 1) (by omega)
      refine Rn.iload k_118 rfl rfl ?_
      refine Rn.aload_n k_118 rfl rfl ?_
      refine Rn.getA k_118 rfl rfl (s585 L) (hF.l 10 rfl) ?_
      refine Rn.getI k_118 rfl rfl (s19 L) ?_
      rw [hS.2.2.2.1]
      refine Rn.icmp_ge 58 k_118 rfl rfl (fun h1 => ?_) (fun h1 => ?_)
      · rw [nI_leI (by omega) (by omega)] at h1
        omega
      · refine Rn.aload_n k_118 rfl rfl ?_
        refine Rn.getA k_118 rfl rfl (s585 L) (hF.l 10 rfl) ?_
        refine Rn.getA k_118 rfl rfl (s19 L) (hF.l 5 rfl) ?_
        refine Rn.iload k_118 rfl rfl ?_
        refine Rn.aaload (ci := 4) (i) k_118 rfl (s23 L) rfl (by decide) (rfl) (by omega) (by decide) (hF.2.2.1 _ (by omega)) ?_
        refine Rn.getI k_118 rfl rfl (sk0 L (by omega)) ?_
        rw [hC.2.2.1]
        refine Rn.iload_n k_118 rfl rfl ?_
        refine Rn.icmp_ne 52 k_118 rfl rfl (fun h2 => ?_) (fun h2 => ?_)
        · rw [sub1_inj (by omega) (by omega)] at h2
          exact go (decide_eq_false (fun z => h2 z.1))
        · rw [sub1_inj (by omega) (by omega)] at h2
          refine Rn.aload_n k_118 rfl rfl ?_
          refine Rn.getA k_118 rfl rfl (s585 L) (hF.l 10 rfl) ?_
          refine Rn.getA k_118 rfl rfl (s19 L) (hF.l 5 rfl) ?_
          refine Rn.iload k_118 rfl rfl ?_
          refine Rn.aaload (ci := 4) (i) k_118 rfl (s23 L) rfl (by decide) (rfl) (by omega) (by decide) (hF.2.2.1 _ (by omega)) ?_
          refine Rn.getL k_118 rfl rfl (sk0 L (by omega)) ?_
          rw [hC.1]
          refine Rn.lload_n k_118 rfl rfl ?_
          refine Rn.lcmp k_118 rfl ?_
          refine Rn.if_ne 52 k_118 rfl rfl (fun h3 => ?_) (fun h3 => ?_)
          · have h3 : ¬ k_nm k = t := fun e => h3 ((lg_cmp_eq _ _).mpr (by rw [e]))
            exact go (decide_eq_false (fun z => h3 z.2))
          · have h3 := (pk_lEQ (enc_lt63 (okV_len (okN_okV hk.2.1))) (enc_lt63 (okV_len (okN_okV ht)))).mp ((lg_cmp_eq _ _).mp h3)
            have h3 := enc_inj (k_nm k).length (k_nm k) t (Nat.le_refl _) (okV_isN (okN_okV hk.2.1)) (okV_isN (okN_okV ht)) h3
            refine Rn.iconst (1) k_118 rfl rfl ?_
            refine Rn.reti k_118 rfl q_118 rfl (rfl) ?_
            rw [ek, decide_eq_true ⟨h2, h3⟩]
            exact ⟨rfl, rfl⟩
  refine Rn.iconst (0) k_118 rfl rfl ?_
  refine Rn.istore4 k_118 rfl rfl ?_
  exact loop A.2.1.length 0 (Nat.zero_add _)
def caseL (A : AS) (line : Nat) (ts : List Nm) : Option AS := match ts with
  | [t] => if okN t = true ∧ A.2.1.length < 40 ∧ totW A.2.1 < 120 ∧ (∀ k ∈ A.2.1, ¬ (k_su k = A.1.length ∧ k_nm k = t)) then some (A.1, A.2.1 ++ [(A.1.length, t, line, 0, none, false, [], [])], true) else none
  | _ => none
theorem tkn_no {ks : List KS} {su : Nat} {t : Nm} : tkn ks su t = false ↔ ∀ k ∈ ks, ¬ (k_su k = su ∧ k_nm k = t) := by
  unfold tkn
  rw [List.any_eq_false]
  simp
set_option maxHeartbeats 2000000 in
theorem ct_openCase (hF : FRok F G fr) (hS : SCr fi fl x n A) (hA : AOk n A) (hW : WDr fi ws) (hw : wok n ws) {w0 : Nat × Nat} {rest : List (Nat × Nat)} (hws : ws = w0 :: rest) {line : Nat} : Rn (d + 3) 117 0 [some (.ref 585), some (.int (nI line)), none, none, none, none] [] (SH L, fi, fl, fr) (AccQ L fi fl fr x n (caseL A line (rest.map (wd x)))) := by
  have hl : ws.length = rest.length + 1 := by rw [hws]; rfl
  have hl6 := hw.2
  have s3 : fi 21 1 = nI A.1.length := by rw [hS.2.2.1.1, List.length_map]
  have hA1 := hA.1
  have hA4 := hA.2.2.2.1
  have hA6 := hA.2.2.2.2.2.1
  have no1 : ∀ o2 o4, caseL A line (rest.map (wd x)) = none → Rn (d + 3) 117 50 [some (.ref 585), some (.int (nI line)), o2, none, o4, none] [] (SH L, fi, fl, fr) (AccQ L fi fl fr x n (caseL A line (rest.map (wd x)))) := by
    intro o2 o4 e
    refine Rn.iconst (0) k_117 rfl rfl ?_
    refine Rn.reti k_117 rfl q_117 rfl (rfl) ?_
    rw [e]
    exact ⟨fi, fl, rfl, fun _ _ _ => rfl, fun _ _ _ => rfl, rfl, fun B hB => by cases hB⟩
  have no2 : ∀ o2 o4, caseL A line (rest.map (wd x)) = none → Rn (d + 3) 117 82 [some (.ref 585), some (.int (nI line)), o2, none, o4, none] [] (SH L, fi, fl, fr) (AccQ L fi fl fr x n (caseL A line (rest.map (wd x)))) := by
    intro o2 o4 e
    refine Rn.iconst (0) k_117 rfl rfl ?_
    refine Rn.reti k_117 rfl q_117 rfl (rfl) ?_
    rw [e]
    exact ⟨fi, fl, rfl, fun _ _ _ => rfl, fun _ _ _ => rfl, rfl, fun B hB => by cases hB⟩
  refine Rn.aload_n k_117 rfl rfl ?_
  refine Rn.getA k_117 rfl rfl (s585 L) (hF.l 14 rfl) ?_
  refine Rn.iconst (1) k_117 rfl rfl ?_
  refine Rn.cV2L k_117 rfl rfl q_137 rfl (Nat.le_of_ble_eq_true rfl) (Nat.le_of_ble_eq_true rfl) (s588 L) (ct_name (k := 1) hF hS.1 hW hw (by decide)) ?_
  refine Rn.lstore_n2 k_117 rfl rfl ?_
  refine Rn.aload_n k_117 rfl rfl ?_
  refine Rn.getA k_117 rfl rfl (s585 L) (hF.l 10 rfl) ?_
  refine Rn.getA k_117 rfl rfl (s19 L) (hF.l 4 rfl) ?_
  refine Rn.getI k_117 rfl rfl (s21 L) ?_
  rw [s3]
  refine Rn.iconst (1) k_117 rfl rfl ?_
  refine Rn.isub k_117 rfl ?_
  refine Rn.istore4 k_117 rfl rfl ?_
  refine Rn.aload_n k_117 rfl rfl ?_
  refine Rn.getA k_117 rfl rfl (s585 L) (hF.l 14 rfl) ?_
  refine Rn.getI k_117 rfl rfl (s588 L) ?_
  rw [hW.1]
  refine Rn.iconst (2) k_117 rfl rfl ?_
  refine Rn.icmp_ne 50 k_117 rfl rfl (fun h1 => ?_) (fun h1 => ?_)
  · rw [c_eq 2 2 rfl (by omega) (by decide)] at h1
    refine no1 _ _ ?_
    match rest, hl with
    | [], _ => rfl
    | [w], hl => exact absurd hl h1
    | w :: w' :: r, _ => rfl
  · rw [c_eq 2 2 rfl (by omega) (by decide)] at h1
    match rest, hl, hws, no1, no2 with
    | [], hl, _, _, _ => exact absurd hl (by simp; omega)
    | w :: w' :: r, hl, _, _, _ => exact absurd hl (by simp only [List.length_cons]; omega)
    | [w], hl, hws, no1, no2 =>
      have hg : ws.getD 1 (0, 0) = w := by rw [hws]; rfl
      have hww := wok_at hw (show 1 < ws.length by omega)
      rw [hg] at hww
      have hne := wd_ne (x := x) hww.1
      rw [if_pos (show 1 < ws.length by omega), hg]
      have eL : caseL A line ([w].map (wd x)) = if okN (wd x w) = true ∧ A.2.1.length < 40 ∧ totW A.2.1 < 120 ∧ (∀ k ∈ A.2.1, ¬ (k_su k = A.1.length ∧ k_nm k = wd x w)) then some (A.1, A.2.1 ++ [(A.1.length, wd x w, line, 0, none, false, [], [])], true) else none := rfl
      generalize wd x w = t at hne eL ⊢
      rw [eL] at no1 no2 ⊢
      refine Rn.lload_n k_117 rfl rfl ?_
      refine Rn.lconst 0 k_117 rfl rfl ?_
      refine Rn.lcmp k_117 rfl ?_
      refine Rn.if_eq 50 k_117 rfl rfl (fun h2 => ?_) (fun h2 => ?_)
      · have h2 := (pk_lEQ (ncode_lt t) (by decide)).mp ((lg_cmp_eq _ _).mp h2)
        refine no1 _ _ (if_neg (fun z => ?_))
        rw [ncode_ok z.1] at h2
        exact enc_pos (okN_okV z.1) hne h2
      · have h2 : okN t = true := by
          cases hz : okN t with
          | true => rfl
          | false => rw [ncode_no hz] at h2; exact absurd rfl h2
        rw [ncode_ok h2]
        refine Rn.aload_n k_117 rfl rfl ?_
        refine Rn.lload_n k_117 rfl rfl ?_
        refine Rn.iload k_117 rfl rfl ?_
        refine Rn.cV3I k_117 rfl rfl q_118 rfl (Nat.le_of_ble_eq_true rfl) (Nat.le_of_ble_eq_true rfl) (s585 L) (ct_isTaken hF hS hA h2 hA1) ?_
        refine Rn.if_eq 52 k_117 rfl rfl (fun h3 => ?_) (fun h3 => ?_)
        · (try rw [bI_0] at h3)
          (try rw [Bool.not_eq_false] at h3)
          have h3' := tkn_no.mp h3
          refine Rn.aload_n k_117 rfl rfl ?_
          refine Rn.getA k_117 rfl rfl (s585 L) (hF.l 10 rfl) ?_
          refine Rn.getI k_117 rfl rfl (s19 L) ?_
          rw [hS.2.2.2.1]
          refine Rn.aload_n k_117 rfl rfl ?_
          refine Rn.getA k_117 rfl rfl (s585 L) (hF.l 10 rfl) ?_
          refine Rn.getA k_117 rfl rfl (s19 L) (hF.l 5 rfl) ?_
          refine Rn.alen k_117 rfl (s23 L) rfl (by decide) ?_
          refine Rn.icmp_ge 82 k_117 rfl rfl (fun h4 => ?_) (fun h4 => ?_)
          · rw [nI_leI (by omega) (by omega)] at h4
            exact no2 _ _ (if_neg (fun z => by omega))
          · rw [nI_leI (by omega) (by omega)] at h4
            have h4 : A.2.1.length < 40 := by omega
            refine Rn.aload_n k_117 rfl rfl ?_
            refine Rn.getA k_117 rfl rfl (s585 L) (hF.l 10 rfl) ?_
            refine Rn.getI k_117 rfl rfl (s19 L) ?_
            rw [hS.2.2.2.2.1]
            refine Rn.bipush (120) k_117 rfl rfl ?_
            refine Rn.icmp_lt 84 k_117 rfl rfl (fun h5 => ?_) (fun h5 => ?_)
            · rw [c_lt 120 120 rfl (by omega) (by decide)] at h5
              rw [if_pos ⟨h2, h4, h5, h3'⟩]
              refine Rn.aload_n k_117 rfl rfl ?_
              refine Rn.getA k_117 rfl rfl (s585 L) (hF.l 10 rfl) ?_
              refine Rn.getA k_117 rfl rfl (s19 L) (hF.l 5 rfl) ?_
              refine Rn.aload_n k_117 rfl rfl ?_
              refine Rn.getA k_117 rfl rfl (s585 L) (hF.l 10 rfl) ?_
              refine Rn.getI k_117 rfl rfl (s19 L) ?_
              refine Rn.aaload (ci := 4) (A.2.1.length) k_117 rfl (s23 L) rfl (by decide) (hS.2.2.2.1) (by omega) (by decide) (hF.2.2.1 _ h4) ?_
              refine Rn.astore5 k_117 rfl rfl ?_
              refine Rn.aload k_117 rfl rfl ?_
              refine Rn.lload_n k_117 rfl rfl ?_
              refine Rn.iload_n k_117 rfl rfl ?_
              refine Rn.cV3 k_117 rfl rfl q_74 rfl (Nat.le_of_ble_eq_true rfl) (Nat.le_of_ble_eq_true rfl) (sk0 L h4) (ct_begin hF h4) (fun v h' hq => ?_)
              obtain ⟨rfl, gi, gl, rfl, b1, b2, b3, b4, b5, b6, b7, b8, b9, b10, b11, b12, b13⟩ := hq
              show Rn _ _ _ _ [] _ _
              have fin : ∀ (gi' : Nat → Nat → Int32) (gl' : Nat → Nat → Int64), (∀ a q, (a < 25 + 14 * A.2.1.length ∨ 25 + 14 * A.2.1.length + 14 ≤ a) → gi' a q = fi a q) → (∀ a q, (a < 25 + 14 * A.2.1.length ∨ 25 + 14 * A.2.1.length + 14 ≤ a) → gl' a q = fl a q) → CKr gi' gl' A.2.1.length (A.1.length, t, line, 0, none, false, [], []) (snm A.1 A.1.length) (stg A.1 A.1.length) → Rn (d + 3) 117 150 [some (.ref 585), some (.int (nI line)), some (.long (lN (enc t))), none, some (.int (nI A.1.length - 1)), some (.ref (25 + 14 * A.2.1.length))] [] (SH L, gi', gl', fr) (AccQ L fi fl fr x n (some (A.1, A.2.1 ++ [(A.1.length, t, line, 0, none, false, [], [])], true))) := by
                intro gi' gl' g1 g2 hC
                refine Rn.aload_n k_117 rfl rfl ?_
                refine Rn.getA k_117 rfl rfl (s585 L) (hF.l 10 rfl) ?_
                refine Rn.dupa k_117 rfl ?_
                refine Rn.getI k_117 rfl rfl (s19 L) ?_
                rw [g1 19 4 (by omega), hS.2.2.2.1]
                refine Rn.iconst (1) k_117 rfl rfl ?_
                refine Rn.iadd k_117 rfl ?_
                rw [c_add 1 1 rfl]
                refine Rn.putI k_117 rfl (rfl) (s19 L) ?_
                refine Rn.aload_n k_117 rfl rfl ?_
                refine Rn.getA k_117 rfl rfl (s585 L) (hF.l 10 rfl) ?_
                refine Rn.dupa k_117 rfl ?_
                refine Rn.getI k_117 rfl rfl (s19 L) ?_
                rw [up2_col _ _ (by decide), g1 19 6 (by omega), hS.2.2.2.2.1]
                refine Rn.iconst (1) k_117 rfl rfl ?_
                refine Rn.iadd k_117 rfl ?_
                rw [c_add 1 1 rfl]
                refine Rn.putI k_117 rfl (rfl) (s19 L) ?_
                refine Rn.aload_n k_117 rfl rfl ?_
                refine Rn.iconst (1) k_117 rfl rfl ?_
                refine Rn.putI k_117 rfl (rfl) (s585 L) ?_
                refine Rn.iconst (1) k_117 rfl rfl ?_
                refine Rn.reti k_117 rfl q_117 rfl (rfl) ?_
                refine ⟨_, _, rfl, fun a q ha => ?_, fun a q ha => ?_, rfl, fun B hB => ?_⟩
                · unfold rdF at ha
                  rw [up2_row _ _ (by omega), up2_row _ _ (by omega), up2_row _ _ (by omega)]
                  exact g1 a q (by omega)
                · unfold rdF at ha
                  exact g2 a q (by omega)
                · cases hB
                  refine hS.push hA h4 (fun a q y1 y2 y3 => ?_) g2 ?_ ?_ (up2_same _ _ _ _) ?_ rfl
                  · refine Eq.trans ?_ (g1 a q y1)
                    unfold up2
                    rcases y2 with y2 | y2
                    · rcases y3 with y3 | y3
                      · rw [if_neg y3, if_neg y2, if_neg y2]
                      · rw [if_neg y3, if_neg y2, if_neg y2]; split <;> rfl
                    · rcases y3 with y3 | y3
                      · rw [if_neg y3, if_neg y2.2, if_neg y2.1]; split <;> rfl
                      · rw [if_neg y3, if_neg y2.2, if_neg y2.1]; split <;> split <;> rfl
                  · rfl
                  · rfl
                  · exact hC.keep (Nat.zero_le 4) (fun a q u1 u2 => by rw [up2_row _ _ (by omega), up2_row _ _ (by omega), up2_row _ _ (by omega)]) (fun a q u1 u2 => rfl)
              refine Rn.iload k_117 rfl rfl ?_
              refine Rn.iconst (-1) k_117 rfl rfl ?_
              refine Rn.icmp_eq 150 k_117 rfl rfl (fun h6 => ?_) (fun h6 => ?_)
              · rw [sub1_m1 (by omega)] at h6
                refine fin gi gl (fun a q y => b12 a q (by omega) (by omega) (by omega)) (fun a q y => b13 a q (by omega)) ?_
                rw [h6]
                refine ⟨b1, b2, b3, b4, b5, b6, b7, (fun r hr => by cases hr), b8, b9, NRr.nil b10, NRr.nil b11, fun p hp => absurd hp (Nat.not_lt_zero p)⟩
              · rw [sub1_m1 (by omega)] at h6
                have hsz : nI A.1.length - 1 = nI (A.1.length - 1) := c_sub 1 1 rfl (by omega)
                have hss : A.1 ≠ [] := fun z => h6 (by rw [z]; rfl)
                have hsl := hS.2.2.2.2.2.2.2 _ (List.getLast?_eq_some_getLast hss)
                have hsA := hA.2.1 _ (List.getLast_mem hss)
                have esn : snm A.1 A.1.length = (A.1.getLast hss).1 := by
                  rw [show A.1.length = (A.1.length - 1) + 1 by omega]
                  show (A.1.getD (A.1.length - 1) ([], [])).1 = _
                  rw [List.getD_eq_getElem?_getD, List.getElem?_eq_getElem (by omega), List.getLast_eq_getElem]
                  rfl
                have est : stg A.1 A.1.length = (A.1.getLast hss).2 := by
                  rw [show A.1.length = (A.1.length - 1) + 1 by omega]
                  show (A.1.getD (A.1.length - 1) ([], [])).2 = _
                  rw [List.getD_eq_getElem?_getD, List.getElem?_eq_getElem (by omega), List.getLast_eq_getElem]
                  rfl
                have hN : NRr (up2 gi (25 + 14 * A.2.1.length) 2 (nI A.1.length - 1)) gl 21 22 (A.1.map (fun s => enc s.1)) := hS.2.2.1.keep (by rw [up2_row _ _ (by omega)]; exact b12 _ _ (by omega) (by omega) (by omega)) (fun q => b13 _ _ (by omega))
                refine Rn.aload k_117 rfl rfl ?_
                refine Rn.iload k_117 rfl rfl ?_
                refine Rn.putI k_117 rfl (rfl) (sk0 L h4) ?_
                refine Rn.aload k_117 rfl rfl ?_
                refine Rn.aload_n k_117 rfl rfl ?_
                refine Rn.getA k_117 rfl rfl (s585 L) (hF.l 10 rfl) ?_
                refine Rn.getA k_117 rfl rfl (s19 L) (hF.l 4 rfl) ?_
                refine Rn.iload k_117 rfl rfl ?_
                rw [hsz]
                refine Rn.cV2L k_117 rfl rfl q_100 rfl (Nat.le_of_ble_eq_true rfl) (Nat.le_of_ble_eq_true rfl) (s21 L) (ct_at (fi := up2 gi (25 + 14 * A.2.1.length) 2 (nI (A.1.length - 1))) (s21 L) (s22 L) (hF.l 3 rfl) (by decide) (hsz ▸ hN) (by rw [List.length_map]; exact hA1) (by rw [List.length_map]; omega)) ?_
                refine Rn.putL k_117 rfl rfl (sk0 L h4) ?_
                refine Rn.aload k_117 rfl rfl ?_
                refine Rn.getA k_117 rfl rfl (sk0 L h4) (hF.k h4 1 rfl) ?_
                refine Rn.aload_n k_117 rfl rfl ?_
                refine Rn.getA k_117 rfl rfl (s585 L) (hF.l 9 rfl) ?_
                have hv : (A.1.map (fun s => enc s.1)).getD (A.1.length - 1) 0 = enc (snm A.1 A.1.length) := by
                  rw [List.getD_eq_getElem?_getD, List.getElem?_map, List.getElem?_eq_getElem (show A.1.length - 1 < A.1.length by omega), esn, List.getLast_eq_getElem]
                  rfl
                rw [hv]
                refine Rn.cV2 k_117 rfl rfl q_101 rfl (Nat.le_of_ble_eq_true rfl) (Nat.le_of_ble_eq_true rfl) (sk1 L h4) (ct_addAll (fi := up2 gi (25 + 14 * A.2.1.length) 2 (nI (A.1.length - 1))) (fl := up2 gl (25 + 14 * A.2.1.length) 1 (lN (enc (snm A.1 A.1.length)))) (w := []) (w2 := (A.1.getLast hss).2.map enc) (sk1 L h4) (sk2 L h4) (hF.k h4 0 rfl) (by decide) (s586 L) (s587 L) (hF.l 8 rfl) (by decide) (by omega) (by omega) ?_ ?_ ?_ ?_ ?_ ?_) (fun v h' hq => ?_)
                · exact hsl.keep (by rw [up2_row _ _ (by omega)]; exact b12 _ _ (by omega) (by omega) (by omega)) (fun q => by rw [up2_row _ _ (by omega)]; exact b13 _ _ (by omega))
                · rw [List.length_map]; exact hsA.2.2.1
                · intro z hz
                  obtain ⟨q, hq, rfl⟩ := List.mem_map.mp hz
                  exact enc_pos (okN_okV (hsA.2.2.2.2 q hq).1) (hsA.2.2.2.2 q hq).2
                · exact NRr.nil (by rw [up2_row _ _ (by omega)]; exact b10)
                · rw [List.length_map]; show 0 + _ ≤ 8; rw [Nat.zero_add]; exact hsA.2.2.1
                · rw [List.nil_append]
                  exact nodup_enc (fun s hs => okN_okV (hsA.2.2.2.2 s hs).1) hsA.2.2.2.1
                · obtain ⟨rfl, gi2, gl2, rfl, c1, c2, c3⟩ := hq
                  show Rn _ _ _ _ [] _ _
                  rw [← hsz]
                  refine fin gi2 gl2 (fun a q y => ?_) (fun a q y => ?_) ?_
                  · rw [c2 _ _ (by omega), up2_row _ _ (by omega)]
                    exact b12 a q (by omega) (by omega) (by omega)
                  · rw [c3 _ _ (by omega), up2_row _ _ (by omega)]
                    exact b13 a q (by omega)
                  · have e0 : ∀ q, q ≠ 2 → gi2 (25 + 14 * A.2.1.length) q = gi (25 + 14 * A.2.1.length) q := fun q hq => by rw [c2 _ _ (by omega), up2_col _ _ hq]
                    refine ⟨?_, ?_, ?_, (e0 3 (by decide)).trans b4, (e0 4 (by decide)).trans b5, (e0 5 (by decide)).trans b6, (e0 6 (by decide)).trans b7, (fun r hr => by cases hr), (e0 10 (by decide)).trans b8, (e0 11 (by decide)).trans b9, ?_, NRr.nil ?_, fun p hp => absurd hp (Nat.not_lt_zero p)⟩
                    · rw [c3 _ _ (by omega), up2_col _ _ (by decide)]; exact b1
                    · rw [c3 _ _ (by omega), up2_same]
                    · rw [c2 _ _ (by omega), up2_same, ← hsz]; rfl
                    · rw [est]
                      show NRr gi2 gl2 _ _ (((A.1.getLast hss).2 ++ []).map enc)
                      rw [List.append_nil]
                      exact c1
                    · rw [c2 _ _ (by omega), up2_row _ _ (by omega)]; exact b11
            · rw [c_lt 120 120 rfl (by omega) (by decide)] at h5
              exact no2 _ _ (if_neg (fun z => h5 z.2.2.1))
        · (try rw [bI_0] at h3)
          (try rw [Bool.not_eq_false] at h3)
          refine no1 _ _ (if_neg (fun z => ?_))
          rw [tkn_no.mpr z.2.2.2] at h3
          cases h3
end RD
end
section
/-! ScriptReader: addParameter -/
theorem vcode_ok {t : Nm} (h : okV t = true) : vcode t = enc t := by unfold vcode; rw [if_pos h]
theorem vcode_no {t : Nm} (h : okV t = false) : vcode t = 0 := by unfold vcode; rw [if_neg (by rw [h]; decide)]
theorem eqvV {w : List Nm} {t : Nm} {cap : Nat} (hok : ∀ s ∈ w, okV s = true) (hne : t ≠ []) : (vcode t = 0 ∨ cap ≤ (w.map enc).length ∨ vcode t ∈ w.map enc) ↔ ¬ (okV t = true ∧ t ∉ w ∧ w.length < cap) := by
  rw [List.length_map]
  cases h : okV t with
  | false => rw [vcode_no h]; simp
  | true =>
    rw [vcode_ok h, mem_enc hok h]
    have h0 := enc_pos h hne
    constructor
    · rintro (z | z | z) ⟨-, z1, z2⟩
      · exact h0 z
      · omega
      · exact z1 z
    · intro z
      by_cases h10 : cap ≤ w.length
      · exact Or.inr (Or.inl h10)
      · refine Or.inr (Or.inr ?_)
        by_cases hm2 : t ∈ w
        · exact hm2
        · exact absurd ⟨rfl, hm2, by omega⟩ z
def addVs : List Nm → List Nm → Option (List Nm)
  | w, [] => some w
  | w, t :: ts => if okV t = true ∧ t ∉ w ∧ w.length < 6 then addVs (w ++ [t]) ts else none
theorem addVs_eq : ∀ (ts w : List Nm), w.length ≤ 6 → addVs w ts = if w.length + ts.length ≤ 6 ∧ valsOk w ts = true then some (w ++ ts) else none
  | [], w, h => by
    unfold addVs
    rw [if_pos ⟨h, rfl⟩, List.append_nil]
  | t :: ts, w, h => by
    unfold addVs valsOk
    by_cases hg : okV t = true ∧ t ∉ w ∧ w.length < 6
    · rw [if_pos hg, addVs_eq ts (w ++ [t]) (by rw [List.length_append]; exact hg.2.2)]
      rw [hg.1, decide_eq_true hg.2.1, Bool.and_self, Bool.true_and, List.length_append, List.append_assoc, List.length_singleton, List.length_cons, show w.length + 1 + ts.length = w.length + (ts.length + 1) by omega]
      rfl
    · rw [if_neg hg, if_neg]
      rintro ⟨z1, z2⟩
      rw [Bool.and_eq_true, Bool.and_eq_true] at z2
      rw [List.length_cons] at z1
      exact hg ⟨z2.1.1, of_decide_eq_true z2.1.2, by omega⟩
section RD
variable {d L : Nat} {fi : Nat → Nat → Int32} {fl : Nat → Nat → Int64} {fr : Nat → Nat → Option Nat} {F G : Nat} {x : Nat → Nat} {n : Nat} {ss : List (Nm × List Nm)} {ks : List KS} {k : KS} {ws : List (Nat × Nat)}
/-- the loop of addParameter, over whatever row r -/
theorem ct_valLoop (hF : FRok F G fr) {r c cs : Nat} {o2 : Option Value} (hr : (SH L)[r]? = some (3, 2)) (hc : (SH L)[c]? = some (101, 6)) (hf : fr r 0 = some c) (hrn : r ≠ 20 ∧ r < 588) (hw : wok n ws) {Q : Option Value → am_H → Prop} : ∀ (m i : Nat) (w : List Nm) (gi : Nat → Nat → Int32) (gl : Nat → Nat → Int64), i + m = ws.length → TXr gi x n → WDr gi ws → NRr gi gl r c (w.map enc) → (∀ t ∈ w, okV t = true) → w.length ≤ 6 →
    (∀ gi' gl', (∀ a k, a ≠ r → gi' a k = gi a k) → (∀ a k, a ≠ c → gl' a k = gl a k) → addVs w ((ws.drop i).map (wd x)) = none → Q (some (.int 0)) (SH L, gi', gl', fr)) →
    (∀ gi' gl' w', (∀ a k, a ≠ r → gi' a k = gi a k) → (∀ a k, a ≠ c → gl' a k = gl a k) → addVs w ((ws.drop i).map (wd x)) = some w' → NRr gi' gl' r c (w'.map enc) → ∀ o4, Rn (d + 2) 120 99 [some (.ref 585), some (.ref cs), o2, some (.ref r), o4] [] (SH L, gi', gl', fr) Q) →
    Rn (d + 2) 120 63 [some (.ref 585), some (.ref cs), o2, some (.ref r), some (.int (nI i))] [] (SH L, gi, gl, fr) Q := by
  intro m
  induction m with
  | zero =>
    intro i w gi gl hi hT hW hN hok hlen kf kt
    have hl6 := hw.2
    refine Rn.iload k_120 rfl rfl ?_
    refine Rn.aload_n k_120 rfl rfl ?_
    refine Rn.getA k_120 rfl rfl (s585 L) (hF.l 14 rfl) ?_
    refine Rn.getI k_120 rfl rfl (s588 L) ?_
    rw [hW.1]
    refine Rn.icmp_ge 99 k_120 rfl rfl (fun h1 => ?_) (fun h1 => ?_)
    · refine kt gi gl w (fun _ _ _ => rfl) (fun _ _ _ => rfl) ?_ hN _
      rw [List.drop_eq_nil_of_le (by omega)]
      rfl
    · rw [nI_leI (by omega) (by omega)] at h1
      omega
  | succ m ih =>
    intro i w gi gl hi hT hW hN hok hlen kf kt
    have hl6 := hw.2
    have hil : i < ws.length := by omega
    have hww := wok_at hw hil
    have hne := wd_ne (x := x) hww.1
    have ed : (ws.drop i).map (wd x) = wd x (ws.getD i (0, 0)) :: (ws.drop (i + 1)).map (wd x) := by
      rw [List.drop_eq_getElem_cons hil, List.map_cons, List.getD_eq_getElem?_getD, List.getElem?_eq_getElem hil]
      rfl
    rw [ed] at kf kt
    refine Rn.iload k_120 rfl rfl ?_
    refine Rn.aload_n k_120 rfl rfl ?_
    refine Rn.getA k_120 rfl rfl (s585 L) (hF.l 14 rfl) ?_
    refine Rn.getI k_120 rfl rfl (s588 L) ?_
    rw [hW.1]
    refine Rn.icmp_ge 99 k_120 rfl rfl (fun h1 => ?_) (fun h1 => ?_)
    · rw [nI_leI (by omega) (by omega)] at h1
      omega
    · refine Rn.aload_n k_120 rfl rfl ?_
      refine Rn.aload_n k_120 rfl rfl ?_
      refine Rn.getA k_120 rfl rfl (s585 L) (hF.l 14 rfl) ?_
      refine Rn.iload k_120 rfl rfl ?_
      refine Rn.cV2L k_120 rfl rfl q_138 rfl (Nat.le_of_ble_eq_true rfl) (Nat.le_of_ble_eq_true rfl) (s588 L) (ct_value (k := i) hF hT hW hw (by omega)) ?_
      rw [if_pos hil]
      refine Rn.cV2 k_120 rfl rfl q_98 rfl (Nat.le_of_ble_eq_true rfl) (Nat.le_of_ble_eq_true rfl) hr (ct_add hr hc hf (by decide) hN (by rw [List.length_map]; exact hlen) (vcode_lt _)) (fun v h3 hq => ?_)
      generalize wd x (ws.getD i (0, 0)) = t at hne ed kf kt hq
      have eqv := eqvV (cap := 6) hok hne
      by_cases hgood : okV t = true ∧ t ∉ w ∧ w.length < 6
      · rw [if_neg (fun z => eqv.mp z hgood)] at hq
        obtain ⟨rfl, rfl⟩ := hq
        show Rn _ _ _ _ (Value.int 1 :: []) _ _
        refine Rn.if_ne 93 k_120 rfl rfl (fun h2 => ?_) (fun h2 => ?_)
        · refine Rn.iinc4 (1) k_120 rfl rfl rfl ?_
          rw [c_add 1 1 rfl]
          refine Rn.goto 63 k_120 rfl rfl ?_
          have e2 : addVs w (t :: (ws.drop (i + 1)).map (wd x)) = addVs (w ++ [t]) ((ws.drop (i + 1)).map (wd x)) := by
            rw [addVs, if_pos hgood]
          rw [e2] at kf kt
          refine ih (i + 1) (w ++ [t]) _ _ (by omega) (hT.keep (fun k => up2_row _ _ (Ne.symm hrn.1))) (hW.keep (fun a k ha => up2_row _ _ (by omega))) ?_ ?_ ?_ ?_ ?_
          · have := hN.add (vcode_lt t) (by rw [List.length_map]; omega)
            rw [vcode_ok hgood.1] at this ⊢
            rw [List.map_append]
            exact this
          · intro s hs
            rcases List.mem_append.mp hs with z | z
            · exact hok s z
            · rw [List.mem_singleton.mp z]; exact hgood.1
          · rw [List.length_append]; exact hgood.2.2
          · intro gi' gl' z1 z2 z3
            exact kf gi' gl' (fun a k ha => (z1 a k ha).trans (up2_row _ _ ha)) (fun a k ha => (z2 a k ha).trans (up2_row _ _ ha)) z3
          · intro gi' gl' w' z1 z2 z3 z4
            exact kt gi' gl' w' (fun a k ha => (z1 a k ha).trans (up2_row _ _ ha)) (fun a k ha => (z2 a k ha).trans (up2_row _ _ ha)) z3 z4
        · exact absurd h2 (by decide)
      · rw [if_pos (eqv.mpr hgood)] at hq
        obtain ⟨rfl, rfl⟩ := hq
        show Rn _ _ _ _ (Value.int 0 :: []) _ _
        refine Rn.if_ne 93 k_120 rfl rfl (fun h2 => ?_) (fun h2 => ?_)
        · exact absurd rfl h2
        · refine Rn.iconst (0) k_120 rfl rfl ?_
          refine Rn.reti k_120 rfl q_120 rfl (rfl) ?_
          exact kf gi gl (fun _ _ _ => rfl) (fun _ _ _ => rfl) (by rw [addVs, if_neg hgood])
def withL (A : AS) (ts : List Nm) : Option AS := match ts with
  | t :: vs => if okN t = true ∧ 1 ≤ vs.length ∧ vs.length ≤ 6 ∧ valsOk [] vs = true then
      match onLast A (fun k => if (k_ps k).length < 4 ∧ t ∉ (k_ps k).map (·.1) ∧ ways (k_ps k) * vs.length ≤ 24 then some (k_su k, k_nm k, k_ln k, k_sz k, k_rs k, k_fl k, k_tg k, k_ps k ++ [(t, vs)]) else none) with
      | none => none
      | some B => if totW B.2.1 ≤ 120 then some B else none
    else none
  | [] => none
theorem withL_eq (ss : List (Nm × List Nm)) (ks : List KS) (k : KS) (t : Nm) (vs : List Nm) : withL (ss, ks ++ [k], true) (t :: vs) = if (okN t = true ∧ 1 ≤ vs.length ∧ vs.length ≤ 6 ∧ valsOk [] vs = true) ∧ ((k_ps k).length < 4 ∧ t ∉ (k_ps k).map (·.1) ∧ ways (k_ps k) * vs.length ≤ 24) ∧ totW ks + ways (k_ps k) * vs.length ≤ 120 then some (ss, ks ++ [(k_su k, k_nm k, k_ln k, k_sz k, k_rs k, k_fl k, k_tg k, k_ps k ++ [(t, vs)])], true) else none := by
  unfold withL
  dsimp only
  by_cases h1 : okN t = true ∧ 1 ≤ vs.length ∧ vs.length ≤ 6 ∧ valsOk [] vs = true
  · rw [if_pos h1, onLast_app]
    by_cases h2 : (k_ps k).length < 4 ∧ t ∉ (k_ps k).map (·.1) ∧ ways (k_ps k) * vs.length ≤ 24
    · rw [if_pos h2]
      dsimp only
      rw [totW_app]
      have e : ways (k_ps (k_su k, k_nm k, k_ln k, k_sz k, k_rs k, k_fl k, k_tg k, k_ps k ++ [(t, vs)])) = ways (k_ps k) * vs.length := ways_app _ _
      rw [e]
      by_cases h3 : totW ks + ways (k_ps k) * vs.length ≤ 120
      · rw [if_pos h3, if_pos ⟨h1, h2, h3⟩]
      · rw [if_neg h3, if_neg (fun z => h3 z.2.2)]
    · rw [if_neg h2, if_neg (fun z => h2 z.2.1)]
  · rw [if_neg h1, if_neg (fun z => h1 z.1)]
theorem NRr.len {fi : Nat → Nat → Int32} {fl : Nat → Nat → Int64} {r c : Nat} {w : List Nm} (h : NRr fi fl r c (w.map enc)) : fi r 1 = nI w.length := by rw [h.1, List.length_map]
set_option maxHeartbeats 2000000 in
theorem ct_addParameter (hF : FRok F G fr) (hS : SCr fi fl x n (ss, ks ++ [k], true)) (hA : AOk n (ss, ks ++ [k], true)) (hW : WDr fi ws) (hw : wok n ws) {w0 : Nat × Nat} {rest : List (Nat × Nat)} (hws : ws = w0 :: rest) : Rn (d + 3) 120 0 [some (.ref 585), some (.ref (25 + 14 * ks.length)), none, none, none] [] (SH L, fi, fl, fr) (AccQ L fi fl fr x n (withL (ss, ks ++ [k], true) (rest.map (wd x)))) := by
  obtain ⟨hi, hk⟩ := ckl hA
  have s6 := hS.2.2.2.2.2.1 ks.length (by show ks.length < (ks ++ [k]).length; simp)
  have s6 : CKr fi fl ks.length ((ks ++ [k]).getD ks.length dK) (snm ss (k_su ((ks ++ [k]).getD ks.length dK))) (stg ss (k_su ((ks ++ [k]).getD ks.length dK))) := s6
  rw [getD_app_last] at s6
  have hl : ws.length = rest.length + 1 := by rw [hws]; rfl
  have hl6 := hw.2
  have hps := hk.2.2.2.2.2.2.2.2.1
  have hpr : fi (25 + 14 * ks.length + 3) 1 = nI (k_ps k).length := by rw [s6.2.2.2.2.2.2.2.2.2.2.2.1.1, List.length_map]
  have no : ∀ (gi : Nat → Nat → Int32) (gl : Nat → Nat → Int64) (o2 o3 o4 : Option Value), (∀ a q, rdF a → gi a q = fi a q) → (∀ a q, rdF a → gl a q = fl a q) → withL (ss, ks ++ [k], true) (rest.map (wd x)) = none → Rn (d + 3) 120 46 [some (.ref 585), some (.ref (25 + 14 * ks.length)), o2, o3, o4] [] (SH L, gi, gl, fr) (AccQ L fi fl fr x n (withL (ss, ks ++ [k], true) (rest.map (wd x)))) := by
    intro gi gl o2 o3 o4 g1 g2 e
    refine Rn.iconst (0) k_120 rfl rfl ?_
    refine Rn.reti k_120 rfl q_120 rfl (rfl) ?_
    rw [e]
    exact ⟨gi, gl, rfl, g1, g2, rfl, fun B hB => by cases hB⟩
  refine Rn.aload_n k_120 rfl rfl ?_
  refine Rn.getA k_120 rfl rfl (sk0 L hi) (hF.k hi 3 rfl) ?_
  refine Rn.getI k_120 rfl rfl (sk3 L hi) ?_
  rw [hpr]
  refine Rn.istore_n2 k_120 rfl rfl ?_
  refine Rn.aload_n k_120 rfl rfl ?_
  refine Rn.getA k_120 rfl rfl (s585 L) (hF.l 14 rfl) ?_
  refine Rn.getI k_120 rfl rfl (s588 L) ?_
  rw [hW.1]
  refine Rn.iconst (3) k_120 rfl rfl ?_
  refine Rn.icmp_lt 46 k_120 rfl rfl (fun h1 => ?_) (fun h1 => ?_)
  · rw [c_lt 3 3 rfl (by omega) (by decide)] at h1
    refine no _ _ _ _ _ (fun _ _ _ => rfl) (fun _ _ _ => rfl) ?_
    match rest, hl with
    | [], _ => rfl
    | [w], _ =>
      show withL _ [wd x w] = none
      rw [withL_eq, if_neg]
      intro z
      exact absurd z.1.2.1 (by decide)
    | w :: w' :: r, hl => exact absurd hl (by simp only [List.length_cons]; omega)
  · rw [c_lt 3 3 rfl (by omega) (by decide)] at h1
    match rest, hl, hws, no with
    | [], hl, _, _ => exact absurd hl (by simp; omega)
    | w :: vr, hl, hws, no =>
      have hg : ws.getD 1 (0, 0) = w := by rw [hws]; rfl
      have hd2 : ws.drop 2 = vr := by rw [hws]; rfl
      have hvl : ws.length = vr.length + 2 := by rw [hl, List.length_cons]
      have hww := wok_at hw (show 1 < ws.length by omega)
      rw [hg] at hww
      have hne := wd_ne (x := x) hww.1
      have eL : withL (ss, ks ++ [k], true) ((w :: vr).map (wd x)) = withL (ss, ks ++ [k], true) (wd x w :: vr.map (wd x)) := rfl
      rw [eL, withL_eq] at no
      rw [eL, withL_eq]
      have hvs : (vr.map (wd x)).length = vr.length := List.length_map ..
      refine Rn.aload_n k_120 rfl rfl ?_
      refine Rn.getA k_120 rfl rfl (sk0 L hi) (hF.k hi 3 rfl) ?_
      refine Rn.aload_n k_120 rfl rfl ?_
      refine Rn.getA k_120 rfl rfl (s585 L) (hF.l 14 rfl) ?_
      refine Rn.iconst (1) k_120 rfl rfl ?_
      refine Rn.cV2L k_120 rfl rfl q_137 rfl (Nat.le_of_ble_eq_true rfl) (Nat.le_of_ble_eq_true rfl) (s588 L) (ct_name (k := 1) hF hS.1 hW hw (by decide)) ?_
      rw [if_pos (show 1 < ws.length by omega), hg]
      have emap : (k_ps k).map (fun p => enc p.1) = ((k_ps k).map (·.1)).map enc := by rw [List.map_map]; rfl
      have hN3 := s6.2.2.2.2.2.2.2.2.2.2.2.1
      rw [emap] at hN3
      have hplen : ((k_ps k).map (·.1)).length = (k_ps k).length := List.length_map ..
      have hpok : ∀ s ∈ (k_ps k).map (·.1), okV s = true := by
        intro s hs
        obtain ⟨q, hq, rfl⟩ := List.mem_map.mp hs
        exact okN_okV (hk.2.2.2.2.2.2.2.2.2.1 q hq).1
      refine Rn.cV2 k_120 rfl rfl q_98 rfl (Nat.le_of_ble_eq_true rfl) (Nat.le_of_ble_eq_true rfl) (sk3 L hi) (ct_add (sk3 L hi) (sk4 L hi) (hF.k hi 2 rfl) (by decide) hN3 (by rw [List.length_map, hplen]; exact hps) (ncode_lt _)) (fun v h' hq => ?_)
      generalize wd x w = t at hne hq no ⊢
      have eqv := eqvN (cap := 4) hpok hne
      by_cases hgood : okN t = true ∧ t ∉ (k_ps k).map (·.1) ∧ ((k_ps k).map (·.1)).length < 4
      · rw [if_neg (fun z => eqv.mp z hgood)] at hq
        obtain ⟨rfl, rfl⟩ := hq
        show Rn _ _ _ _ (Value.int 1 :: []) _ _
        have hadd := hN3.add (ncode_lt t) (by rw [List.length_map]; omega)
        rw [ncode_ok hgood.1] at hadd ⊢
        rw [List.length_map, hplen] at hadd ⊢
        rw [hplen] at hgood
        have g4 := hgood.2.2
        refine Rn.if_eq 46 k_120 rfl rfl (fun h2 => ?_) (fun h2 => ?_)
        · exact absurd h2 (by decide)
        · refine Rn.iload_n k_120 rfl rfl ?_
          refine Rn.aload_n k_120 rfl rfl ?_
          refine Rn.getA k_120 rfl rfl (sk0 L hi) (hF.k hi 4 rfl) ?_
          refine Rn.alen k_120 rfl (sk5 L hi) rfl (by decide) ?_
          refine Rn.icmp_lt 48 k_120 rfl rfl (fun h3 => ?_) (fun h3 => ?_)
          · refine Rn.aload_n k_120 rfl rfl ?_
            refine Rn.getA k_120 rfl rfl (sk0 L hi) (hF.k hi 4 rfl) ?_
            refine Rn.iload_n k_120 rfl rfl ?_
            refine Rn.aaload (ci := 3) ((k_ps k).length) k_120 rfl (sk5 L hi) rfl (by decide) (rfl) (by omega) (by decide) (frV hF hi g4) ?_
            refine Rn.astore_n3 k_120 rfl rfl ?_
            refine Rn.aload_n k_120 rfl rfl ?_
            refine Rn.iconst (0) k_120 rfl rfl ?_
            refine Rn.putI k_120 rfl (rfl) (shV L hi g4) ?_
            refine Rn.iconst (2) k_120 rfl rfl ?_
            refine Rn.istore4 k_120 rfl rfl ?_
            refine ct_valLoop (x := x) (n := n) (ws := ws) hF (shV L hi g4) (shC L hi g4) (frC hF hi g4) (by omega) hw vr.length 2 [] _ _ (by omega) (hS.1.keep (fun q => by rw [up2_row _ _ (by omega), up2_row _ _ (by omega)])) (hW.keep (fun a q ha => by rw [up2_row _ _ (by omega), up2_row _ _ (by omega)])) (NRr.nil (up2_same _ _ _ _)) (fun t ht => by cases ht) (by decide) ?_ ?_
            · intro gi' gl' z1 z2 z3
              rw [hd2, addVs_eq _ _ (by decide), List.length_nil, Nat.zero_add] at z3
              rw [if_neg]
              · refine ⟨gi', gl', rfl, fun a q ha => ?_, fun a q ha => ?_, rfl, fun B hB => by cases hB⟩
                · unfold rdF at ha
                  rw [z1 _ _ (by omega), up2_row _ _ (by omega), up2_row _ _ (by omega)]
                · unfold rdF at ha
                  rw [z2 _ _ (by omega), up2_row _ _ (by omega)]
              · rintro ⟨⟨-, -, y3, y4⟩, -⟩
                rw [if_pos ⟨y3, y4⟩] at z3
                cases z3
            · intro gi' gl' w' z1 z2 z3 z4 o4
              rw [hd2, addVs_eq _ _ (by decide), List.length_nil, Nat.zero_add, List.nil_append] at z3
              by_cases hv : (vr.map (wd x)).length ≤ 6 ∧ valsOk [] (vr.map (wd x)) = true
              · rw [if_pos hv] at z3
                cases z3
                have hv6 := hv.1
                rw [hvs] at hv6
                have hways := hk.2.2.2.2.2.2.2.2.2.2.2
                have htc : gi' (25 + 14 * ks.length) 10 = nI (ways (k_ps k)) := by
                  rw [z1 _ _ (by omega), up2_row _ _ (by omega), up2_row _ _ (by omega)]
                  exact s6.2.2.2.2.2.2.2.2.1
                have htot : gi' 19 6 = nI (totW ks + ways (k_ps k)) := by
                  rw [z1 _ _ (by omega), up2_row _ _ (by omega), up2_row _ _ (by omega), hS.2.2.2.2.1]
                  show nI (totW (ks ++ [k])) = _
                  rw [totW_app]
                have htot2 : totW ks + ways (k_ps k) ≤ 120 := by
                  have := hA.2.2.2.2.2.1
                  have this : totW (ks ++ [k]) ≤ 120 := this
                  rwa [totW_app] at this
                have hsz := z4.len
                rw [hvs] at hsz
                have hge : ways (k_ps k) ≤ ways (k_ps k) * vr.length := Nat.le_mul_of_pos_right _ (by omega)
                have hle : ways (k_ps k) * vr.length ≤ 24 * 6 := Nat.mul_le_mul hways hv6
                refine Rn.aload_n k_120 rfl rfl ?_
                refine Rn.getI k_120 rfl rfl (sk0 L hi) ?_
                rw [htc]
                refine Rn.istore4 k_120 rfl rfl ?_
                refine Rn.aload_n k_120 rfl rfl ?_
                refine Rn.iload k_120 rfl rfl ?_
                refine Rn.aload_n k_120 rfl rfl ?_
                refine Rn.getI k_120 rfl rfl (shV L hi g4) ?_
                rw [hsz]
                refine Rn.imul k_120 rfl ?_
                rw [pk_mul]
                refine Rn.putI k_120 rfl (rfl) (sk0 L hi) ?_
                refine Rn.aload_n k_120 rfl rfl ?_
                refine Rn.getA k_120 rfl rfl (s585 L) (hF.l 10 rfl) ?_
                refine Rn.dupa k_120 rfl ?_
                refine Rn.getI k_120 rfl rfl (s19 L) ?_
                rw [up2_row _ _ (show (19 : Nat) ≠ 25 + 14 * ks.length by omega), htot]
                refine Rn.aload_n k_120 rfl rfl ?_
                refine Rn.getI k_120 rfl rfl (sk0 L hi) ?_
                rw [up2_same]
                refine Rn.iload k_120 rfl rfl ?_
                refine Rn.isub k_120 rfl ?_
                rw [pk_sub hge]
                refine Rn.iadd k_120 rfl ?_
                rw [nI_add, show totW ks + ways (k_ps k) + (ways (k_ps k) * vr.length - ways (k_ps k)) = totW ks + ways (k_ps k) * vr.length by omega]
                refine Rn.putI k_120 rfl (rfl) (s19 L) ?_
                refine Rn.aload_n k_120 rfl rfl ?_
                refine Rn.getI k_120 rfl rfl (sk0 L hi) ?_
                rw [up2_row _ _ (show 25 + 14 * ks.length ≠ 19 by omega), up2_same]
                refine Rn.bipush (24) k_120 rfl rfl ?_
                have fin0 : ∀ (c1 : ¬ (ways (k_ps k) * vr.length ≤ 24 ∧ totW ks + ways (k_ps k) * vr.length ≤ 120)), Rn (d + 2 + 1) 120 160 [some (.ref 585), some (.ref (25 + 14 * ks.length)), some (.int (nI (k_ps k).length)), some (.ref (25 + 14 * ks.length + (6 + 2 * (k_ps k).length))), some (.int (nI (ways (k_ps k))))] [] (SH L, up2 (up2 gi' (25 + 14 * ks.length) 10 (nI (ways (k_ps k) * vr.length))) 19 6 (nI (totW ks + ways (k_ps k) * vr.length)), gl', fr) (AccQ L fi fl fr x n (if (okN t = true ∧ 1 ≤ (vr.map (wd x)).length ∧ (vr.map (wd x)).length ≤ 6 ∧ valsOk [] (vr.map (wd x)) = true) ∧ ((k_ps k).length < 4 ∧ t ∉ (k_ps k).map (·.1) ∧ ways (k_ps k) * (vr.map (wd x)).length ≤ 24) ∧ totW ks + ways (k_ps k) * (vr.map (wd x)).length ≤ 120 then some (ss, ks ++ [(k_su k, k_nm k, k_ln k, k_sz k, k_rs k, k_fl k, k_tg k, k_ps k ++ [(t, (vr.map (wd x)))])], true) else none)) := by
                  intro c1
                  rw [if_neg (fun z => c1 (by rw [hvs] at z; exact ⟨z.2.1.2.2, z.2.2⟩))]
                  refine Rn.iconst (0) k_120 rfl rfl ?_
                  refine Rn.reti k_120 rfl q_120 rfl (rfl) ?_
                  refine ⟨_, gl', rfl, fun a q ha => ?_, fun a q ha => ?_, rfl, fun B hB => by cases hB⟩
                  · unfold rdF at ha
                    rw [up2_row _ _ (by omega), up2_row _ _ (by omega), z1 _ _ (by omega), up2_row _ _ (by omega), up2_row _ _ (by omega)]
                  · unfold rdF at ha
                    rw [z2 _ _ (by omega), up2_row _ _ (by omega)]
                refine Rn.icmp_gt 160 k_120 rfl rfl (fun h4 => ?_) (fun h4 => ?_)
                · rw [c_gt 24 24 rfl (by omega) (by decide)] at h4
                  exact fin0 (fun z => by omega)
                · rw [c_gt 24 24 rfl (by omega) (by decide)] at h4
                  refine Rn.aload_n k_120 rfl rfl ?_
                  refine Rn.getA k_120 rfl rfl (s585 L) (hF.l 10 rfl) ?_
                  refine Rn.getI k_120 rfl rfl (s19 L) ?_
                  rw [up2_same]
                  refine Rn.bipush (120) k_120 rfl rfl ?_
                  refine Rn.icmp_gt 160 k_120 rfl rfl (fun h5 => ?_) (fun h5 => ?_)
                  · rw [c_gt 120 120 rfl (by omega) (by decide)] at h5
                    exact fin0 (fun z => by omega)
                  · rw [c_gt 120 120 rfl (by omega) (by decide)] at h5
                    rw [if_pos ⟨⟨hgood.1, by omega, hv.1, hv.2⟩, ⟨g4, hgood.2.1, by rw [hvs]; omega⟩, by rw [hvs]; omega⟩]
                    refine Rn.iconst (1) k_120 rfl rfl ?_
                    refine Rn.goto 161 k_120 rfl rfl ?_
                    refine Rn.reti k_120 rfl q_120 rfl (rfl) ?_
                    refine ⟨_, gl', rfl, fun a q ha => ?_, fun a q ha => ?_, rfl, fun B hB => ?_⟩
                    · unfold rdF at ha
                      rw [up2_row _ _ (by omega), up2_row _ _ (by omega), z1 _ _ (by omega), up2_row _ _ (by omega), up2_row _ _ (by omega)]
                    · unfold rdF at ha
                      rw [z2 _ _ (by omega), up2_row _ _ (by omega)]
                    · cases hB
                      obtain ⟨a1, a2, a3, a4, a5, a6, a7, a8, a9, a10, a11, a12, a13⟩ := s6
                      have g0 : ∀ q, q ≠ 10 → up2 (up2 gi' (25 + 14 * ks.length) 10 (nI (ways (k_ps k) * vr.length))) 19 6 (nI (totW ks + ways (k_ps k) * vr.length)) (25 + 14 * ks.length) q = fi (25 + 14 * ks.length) q := by
                        intro q hq
                        rw [up2_row _ _ (by omega), up2_col _ _ hq, z1 _ _ (by omega), up2_row _ _ (by omega), up2_row _ _ (by omega)]
                      have ewy : ways (k_ps (k_su k, k_nm k, k_ln k, k_sz k, k_rs k, k_fl k, k_tg k, k_ps k ++ [(t, vr.map (wd x))])) = ways (k_ps k) * vr.length := by
                        have := ways_app (k_ps k) (t, vr.map (wd x))
                        rw [hvs] at this
                        exact this
                      refine SCr.last hS hA (fun a q y1 y2 => ?_) (fun a q y1 => ?_) ?_ rfl ⟨?_, ?_, (g0 2 (by decide)).trans a3, (g0 3 (by decide)).trans a4, (g0 4 (by decide)).trans a5, (g0 5 (by decide)).trans a6, (g0 6 (by decide)).trans a7, fun r hr => ⟨(g0 7 (by decide)).trans (a8 r hr).1, (g0 8 (by decide)).trans (a8 r hr).2⟩, ?_, (g0 11 (by decide)).trans a10, ?_, ?_, ?_⟩
                      · have : up2 (up2 gi' (25 + 14 * ks.length) 10 (nI (ways (k_ps k) * vr.length))) 19 6 (nI (totW ks + ways (k_ps k) * vr.length)) a q = gi' a q := by
                          unfold up2
                          rcases y2 with y2 | y2
                          · rw [if_neg y2, if_neg (by omega)]
                          · rw [if_neg y2, if_neg (show ¬ a = 25 + 14 * ks.length by omega)]; split <;> rfl
                        rw [this, z1 _ _ (by omega), up2_row _ _ (by omega), up2_row _ _ (by omega)]
                      · rw [z2 _ _ (by omega), up2_row _ _ (by omega)]
                      · rw [up2_same, totW_app, ewy]
                      · rw [z2 _ _ (by omega), up2_row _ _ (by omega)]; exact a1
                      · rw [z2 _ _ (by omega), up2_row _ _ (by omega)]; exact a2
                      · rw [up2_row _ _ (by omega), up2_same, ewy]
                      · refine a11.keep ?_ (fun q => ?_)
                        · rw [up2_row _ _ (by omega), up2_row _ _ (by omega), z1 _ _ (by omega), up2_row _ _ (by omega), up2_row _ _ (by omega)]
                        · rw [z2 _ _ (by omega), up2_row _ _ (by omega)]
                      · have e9 : (k_ps (k_su k, k_nm k, k_ln k, k_sz k, k_rs k, k_fl k, k_tg k, k_ps k ++ [(t, vr.map (wd x))])).map (fun p => enc p.1) = ((k_ps k).map (·.1)).map enc ++ [enc t] := by
                          show (k_ps k ++ [(t, vr.map (wd x))]).map (fun p => enc p.1) = _
                          rw [List.map_append, emap]
                          rfl
                        rw [e9]
                        refine hadd.keep ?_ (fun q => ?_)
                        · rw [up2_row _ _ (by omega), up2_row _ _ (by omega), z1 _ _ (by omega), up2_row _ _ (by omega)]
                        · rw [z2 _ _ (by omega)]
                      · intro p hp
                        have hp : p < (k_ps k ++ [(t, vr.map (wd x))]).length := hp
                        rw [List.length_append] at hp
                        have hp : p < (k_ps k).length + 1 := hp
                        show NRr _ _ _ _ (((k_ps k ++ [(t, vr.map (wd x))]).getD p ([], [])).2.map enc)
                        by_cases e : p = (k_ps k).length
                        · subst e
                          rw [List.getD_eq_getElem?_getD, List.getElem?_append_right (Nat.le_refl _), Nat.sub_self]
                          exact z4.keep (by rw [up2_row _ _ (by omega), up2_row _ _ (by omega)]) (fun q => rfl)
                        · rw [List.getD_eq_getElem?_getD, List.getElem?_append_left (by omega), ← List.getD_eq_getElem?_getD]
                          refine (a13 p (by omega)).keep ?_ (fun q => ?_)
                          · rw [up2_row _ _ (by omega), up2_row _ _ (by omega), z1 _ _ (by omega), up2_row _ _ (by omega), up2_row _ _ (by omega)]
                          · rw [z2 _ _ (by omega), up2_row _ _ (by omega)]
              · rw [if_neg hv] at z3
                cases z3
          · rw [nI_ltI (by omega) (by omega)] at h3
            omega
      · rw [if_pos (eqv.mpr hgood)] at hq
        obtain ⟨rfl, rfl⟩ := hq
        show Rn _ _ _ _ (Value.int 0 :: []) _ _
        refine Rn.if_eq 46 k_120 rfl rfl (fun h2 => ?_) (fun h2 => ?_)
        · refine no _ _ _ _ _ (fun _ _ _ => rfl) (fun _ _ _ => rfl) (if_neg (fun z => hgood ?_))
          rw [hplen]
          exact ⟨z.1.1, z.2.1.2.1, z.2.1.1⟩
        · exact absurd rfl h2
end RD
end
section
/-! a line keeps what is held -/
/-- words in their order -/
def wsrt (ws : List (Nat × Nat)) : Prop := ws.Pairwise (fun p q => p.2 ≤ q.1)
theorem cw_srt (x : Nat → Nat) : ∀ (k i s : Nat), s ≤ i → wsrt (cw x k i s) ∧ ∀ p ∈ cw x k i s, s ≤ p.1 := by
  intro k
  induction k with
  | zero =>
    intro i s h
    unfold cw wsrt
    split
    · exact ⟨List.pairwise_singleton _ _, fun p hp => by rw [List.mem_singleton.mp hp]; exact Nat.le_refl _⟩
    · exact ⟨List.Pairwise.nil, fun p hp => by cases hp⟩
  | succ k ih =>
    intro i s h
    unfold cw
    split
    · obtain ⟨i1, i2⟩ := ih (i + 1) (i + 1) (Nat.le_refl _)
      split
      · refine ⟨List.pairwise_cons.mpr ⟨fun q hq => ?_, i1⟩, fun p hp => ?_⟩
        · have := i2 q hq
          show i ≤ q.1
          omega
        · rcases List.mem_cons.mp hp with z | z
          · rw [z]; exact Nat.le_refl _
          · have := i2 p z; omega
      · exact ⟨i1, fun p hp => by have := i2 p hp; omega⟩
    · exact ih (i + 1) s (by omega)
theorem cutW_srt (x : Nat → Nat) (a b : Nat) : wsrt (cutW x a b) := (cw_srt x _ _ _ (Nat.le_refl _)).1
theorem onLast_shut {A : AS} (h : A.2.2 = false) (f : KS → Option KS) : onLast A f = none := by unfold onLast; rw [if_neg (by rw [h]; decide)]
theorem lineW_nil (x : Nat → Nat) (A : AS) (line : Nat) : lineW x A line [] = some A := rfl
theorem lineW_eq (x : Nat → Nat) (A : AS) (line : Nat) (w0 : Nat × Nat) (rest : List (Nat × Nat)) : lineW x A line (w0 :: rest) = if x w0.1 = 35 then some A else
    if wd x w0 = [115, 117, 105, 116, 101] then suiteL x A (rest.map (wd x)) else if wd x w0 = [99, 97, 115, 101] then caseL A line (rest.map (wd x)) else
    if wd x w0 = [116, 97, 103] then tagL A (rest.map (wd x)) else if wd x w0 = [119, 105, 116, 104] then withL A (rest.map (wd x)) else
    if wd x w0 = [115, 105, 122, 101] then sizeL x A rest else if wd x w0 = [115, 107, 105, 112] then skipL A (w0 :: rest) rest else
    if wd x w0 = [102, 97, 105, 108, 115] then failL A rest else none := rfl
theorem withL_shut {A : AS} (h : A.2.2 = false) (ts : List Nm) : withL A ts = none := by
  unfold withL
  split
  · rw [onLast_shut h]
    split <;> rfl
  · rfl
theorem sizeL_shut {A : AS} (h : A.2.2 = false) (x : Nat → Nat) (r : List (Nat × Nat)) : sizeL x A r = none := by
  unfold sizeL
  split
  · rw [onLast_shut h]; split <;> rfl
  · rfl
theorem skipL_shut {A : AS} (h : A.2.2 = false) (ws r : List (Nat × Nat)) : skipL A ws r = none := by
  unfold skipL
  split
  · rfl
  · rw [onLast_shut h]
theorem failL_shut {A : AS} (h : A.2.2 = false) (r : List (Nat × Nat)) : failL A r = none := by
  unfold failL
  rw [onLast_shut h]
  split <;> rfl
section AK
variable {n : Nat} {ss : List (Nm × List Nm)} {ks : List KS} {k k' : KS} {A B : AS} {x : Nat → Nat}
theorem AOk.setLast (hA : AOk n (ss, ks ++ [k], true)) (hk : KOk ss n k') (hsu : k_su k' = k_su k) (ht : totW (ks ++ [k']) ≤ 120) : AOk n (ss, ks ++ [k'], true) := by
  obtain ⟨a1, a2, a3, a4, a5, a6, a7, a8⟩ := hA
  refine ⟨a1, a2, a3, ?_, ?_, ht, fun _ => ⟨by show ks ++ [k'] ≠ []; simp, fun q hq => ?_⟩, fun z => by cases z⟩
  · have a4 : (ks ++ [k]).length ≤ 40 := a4
    show (ks ++ [k']).length ≤ 40
    rw [List.length_append] at a4 ⊢
    exact a4
  · intro q hq
    rcases List.mem_append.mp hq with z | z
    · exact a5 q (List.mem_append.mpr (Or.inl z))
    · rw [List.mem_singleton.mp z]; exact hk
  · have hq : (ks ++ [k']).getLast? = some q := hq
    rw [List.getLast?_concat] at hq
    cases hq
    rw [hsu]
    exact (a7 rfl).2 k (by show (ks ++ [k]).getLast? = some k; simp)
theorem KOk.grow {s : Nm × List Nm} (h : KOk ss n k) : KOk (ss ++ [s]) n k := by
  obtain ⟨h1, h2, h3, h4, h5, h6, h7, h8, h9⟩ := h
  have e : atg (ss ++ [s]) k = atg ss k := by unfold atg; rw [stg_app _ _ h1]
  exact ⟨by rw [List.length_append]; omega, h2, h3, h4, h5, h6, by rw [e]; exact h7, by rw [e]; exact h8, h9⟩
theorem KOk.ungrow {s s' : Nm × List Nm} (h : KOk (ss ++ [s]) n k) (hl : k_su k ≤ ss.length) : KOk (ss ++ [s']) n k := by
  obtain ⟨h1, h2, h3, h4, h5, h6, h7, h8, h9⟩ := h
  have e : atg (ss ++ [s']) k = atg (ss ++ [s]) k := by unfold atg; rw [stg_app _ _ hl, stg_app _ _ hl]
  exact ⟨by rw [List.length_append]; omega, h2, h3, h4, h5, h6, by rw [e]; exact h7, by rw [e]; exact h8, h9⟩
theorem suiteL_ok (hA : AOk n A) {ts : List Nm} (ht : ∀ t ∈ ts, t ≠ []) (h : suiteL x A ts = some B) : AOk n B := by
  unfold suiteL at h
  split at h
  · rename_i t
    split at h
    · rename_i hg
      cases h
      obtain ⟨a1, a2, a3, a4, a5, a6, a7, a8⟩ := hA
      refine ⟨?_, ?_, ?_, a4, fun q hq => (a5 q hq).grow, a6, (fun z => by cases z), fun _ q hq => Or.inr ?_⟩
      · show (A.1 ++ [(t, ([] : List Nm))]).length ≤ 10
        rw [List.length_append]; exact hg.2.1
      · intro s hs
        rcases List.mem_append.mp hs with z | z
        · exact a2 s z
        · rw [List.mem_singleton.mp z]
          exact ⟨hg.1, ht t (by simp), Nat.zero_le _, List.nodup_nil, fun u hu => by cases hu⟩
      · show ((A.1 ++ [(t, ([] : List Nm))]).map (·.1)).Nodup
        rw [List.map_append, List.nodup_append]
        refine ⟨a3, by simp, fun u hu v hv => ?_⟩
        have : v = t := by simpa using hv
        rw [this]
        exact fun z => hg.2.2 (z ▸ hu)
      · have := (a5 q hq).1
        show k_su q < (A.1 ++ [(t, ([] : List Nm))]).length
        rw [List.length_append]
        exact Nat.lt_succ_of_le this
    · cases h
  · cases h
theorem caseL_ok (hA : AOk n A) {ts : List Nm} {line : Nat} (ht : ∀ t ∈ ts, t ≠ []) (h : caseL A line ts = some B) : AOk n B := by
  unfold caseL at h
  split at h
  · rename_i t
    split at h
    · rename_i hg
      cases h
      obtain ⟨a1, a2, a3, a4, a5, a6, a7, a8⟩ := hA
      refine ⟨a1, a2, a3, ?_, ?_, ?_, fun _ => ⟨by show A.2.1 ++ _ ≠ []; simp, fun q hq => ?_⟩, fun z => by cases z⟩
      · show (A.2.1 ++ [_]).length ≤ 40
        rw [List.length_append]; exact hg.2.1
      · intro q hq
        rcases List.mem_append.mp hq with z | z
        · exact a5 q z
        · rw [List.mem_singleton.mp z]
          have e : (stg A.1 A.1.length).length ≤ 8 ∧ (stg A.1 A.1.length).Nodup := by
            cases hl : A.1.length with
            | zero => exact ⟨Nat.zero_le _, List.nodup_nil⟩
            | succ q =>
              show (A.1.getD q ([], [])).2.length ≤ 8 ∧ (A.1.getD q ([], [])).2.Nodup
              rw [List.getD_eq_getElem?_getD, List.getElem?_eq_getElem (show q < A.1.length by omega)]
              have := a2 _ (List.getElem_mem (show q < A.1.length by omega))
              exact ⟨this.2.2.1, this.2.2.2.1⟩
          refine ⟨Nat.le_refl _, hg.1, ht t (by simp), Nat.zero_le _, (fun r hr => by cases hr), (fun u hu => by cases hu), ?_, ?_, Nat.zero_le _, (fun u hu => by cases hu), List.nodup_nil, by show (1 : Nat) ≤ 24; decide⟩
          · show (stg A.1 A.1.length ++ []).length ≤ 8
            rw [List.append_nil]; exact e.1
          · show (stg A.1 A.1.length ++ []).Nodup
            rw [List.append_nil]; exact e.2
      · show totW (A.2.1 ++ [_]) ≤ 120
        rw [totW_app]
        exact hg.2.2.1
      · have hq : (A.2.1 ++ [_]).getLast? = some q := hq
        rw [List.getLast?_concat] at hq
        cases hq
        rfl
    · cases h
  · cases h
theorem tagW_ok (hA : AOk n A) {t : Nm} (ht : t ≠ []) (h : tagW A t = some B) : AOk n B := by
  unfold tagW at h
  split at h
  · cases h
  · rename_i hok
    have hok : okN t = true := by simpa using hok
    split at h
    · rename_i hc
      obtain ⟨ss, ks, k, rfl, hsu⟩ := hA.inK hc
      simp only [List.getLast?_concat, List.dropLast_concat] at h
      split at h
      · cases h
      · rename_i hg
        cases h
        have hk := hA.2.2.2.2.1 k (by show k ∈ ks ++ [k]; simp)
        obtain ⟨h1, h2, h3, h4, h5, h6, h7, h8, h9⟩ := hk
        have e : atg ss (k_su k, k_nm k, k_ln k, k_sz k, k_rs k, k_fl k, k_tg k ++ [t], k_ps k) = atg ss k ++ [t] := by
          show stg ss (k_su k) ++ (k_tg k ++ [t]) = stg ss (k_su k) ++ k_tg k ++ [t]
          rw [List.append_assoc]
        refine hA.setLast ⟨h1, h2, h3, h4, h5, ?_, ?_, ?_, h9⟩ rfl ?_
        · intro u hu
          rcases List.mem_append.mp hu with z | z
          · exact h6 u z
          · rw [List.mem_singleton.mp z]; exact ⟨hok, ht⟩
        · rw [e, List.length_append]
          have : ¬ 8 ≤ (atg ss k).length := fun z => hg (Or.inr z)
          show _ + 1 ≤ 8
          omega
        · rw [e, List.nodup_append]
          refine ⟨h8, by simp, fun u hu v hv => ?_⟩
          have : v = t := by simpa using hv
          rw [this]
          exact fun z => hg (Or.inl (z ▸ hu))
        · have := hA.2.2.2.2.2.1
          have this : totW (ks ++ [k]) ≤ 120 := this
          rw [totW_app] at this ⊢
          exact this
    · rename_i hc
      have hc : A.2.2 = false := by simpa using hc
      by_cases hn : A.1 = []
      · rw [hn] at h
        cases h
      · obtain ⟨ss, s, ks, rfl⟩ := AOk.noK hc hn
        simp only [List.getLast?_concat, List.dropLast_concat] at h
        split at h
        · cases h
        · rename_i hg
          cases h
          obtain ⟨a1, a2, a3, a4, a5, a6, a7, a8⟩ := hA
          have hs := a2 s (by show s ∈ ss ++ [s]; simp)
          refine ⟨?_, ?_, ?_, a4, fun q hq => ?_, a6, (fun z => by cases z), fun _ q hq => ?_⟩
          · have a1 : (ss ++ [s]).length ≤ 10 := a1
            show (ss ++ [_]).length ≤ 10
            rw [List.length_append] at a1 ⊢
            exact a1
          · intro u hu
            rcases List.mem_append.mp hu with z | z
            · exact a2 u (List.mem_append.mpr (Or.inl z))
            · rw [List.mem_singleton.mp z]
              refine ⟨hs.1, hs.2.1, ?_, ?_, ?_⟩
              · rw [List.length_append]
                have : ¬ 8 ≤ s.2.length := fun z => hg (Or.inr z)
                show _ + 1 ≤ 8
                omega
              · rw [List.nodup_append]
                refine ⟨hs.2.2.2.1, by simp, fun u hu v hv => ?_⟩
                have : v = t := by simpa using hv
                rw [this]
                exact fun z => hg (Or.inl (z ▸ hu))
              · intro v hv
                rcases List.mem_append.mp hv with z | z
                · exact hs.2.2.2.2 v z
                · rw [List.mem_singleton.mp z]; exact ⟨hok, ht⟩
          · have a3 : ((ss ++ [s]).map (·.1)).Nodup := a3
            show ((ss ++ [(s.1, s.2 ++ [t])]).map (·.1)).Nodup
            rw [List.map_append] at a3 ⊢
            exact a3
          · have := a8 rfl q hq
            have this : (ss ++ [s]).length = 0 ∨ k_su q < (ss ++ [s]).length := this
            rw [List.length_append] at this
            refine (a5 q hq).ungrow ?_
            rcases this with z | z
            · exact absurd z (by simp)
            · exact Nat.lt_succ_iff.mp z
          · have := a8 rfl q hq
            have this : (ss ++ [s]).length = 0 ∨ k_su q < (ss ++ [s]).length := this
            show (ss ++ [(s.1, s.2 ++ [t])]).length = 0 ∨ k_su q < (ss ++ [(s.1, s.2 ++ [t])]).length
            rw [List.length_append] at this ⊢
            exact this
theorem tagsW_ok : ∀ {ts : List Nm} {A B : AS}, AOk n A → (∀ t ∈ ts, t ≠ []) → tagsW A ts = some B → AOk n B
  | [], A, B, hA, _, h => by cases h; exact hA
  | t :: ts, A, B, hA, ht, h => by
    unfold tagsW at h
    split at h
    · cases h
    · rename_i C hC
      exact tagsW_ok (tagW_ok hA (ht t (by simp)) hC) (fun u hu => ht u (List.mem_cons_of_mem _ hu)) h
theorem valsOk_ok : ∀ (vs acc : List Nm), valsOk acc vs = true → (∀ v ∈ vs, okV v = true ∧ v ∉ acc) ∧ vs.Nodup
  | [], acc, _ => ⟨(fun v hv => by cases hv), List.nodup_nil⟩
  | v :: vs, acc, h => by
    unfold valsOk at h
    rw [Bool.and_eq_true, Bool.and_eq_true] at h
    obtain ⟨i1, i2⟩ := valsOk_ok vs (acc ++ [v]) h.2
    refine ⟨fun u hu => ?_, List.nodup_cons.mpr ⟨fun z => ?_, i2⟩⟩
    · rcases List.mem_cons.mp hu with z | z
      · rw [z]; exact ⟨h.1.1, of_decide_eq_true h.1.2⟩
      · exact ⟨(i1 u z).1, fun y => (i1 u z).2 (List.mem_append.mpr (Or.inl y))⟩
    · exact (i1 v z).2 (by simp)
theorem withL_ok (hA : AOk n A) {ts : List Nm} (ht : ∀ t ∈ ts, t ≠ []) (h : withL A ts = some B) : AOk n B := by
  by_cases hc : A.2.2 = true
  · obtain ⟨ss, ks, k, rfl, hsu⟩ := hA.inK hc
    match ts, ht, h with
    | [], _, h => cases h
    | t :: vs, ht, h =>
      rw [withL_eq] at h
      split at h
      · rename_i hg
        cases h
        obtain ⟨⟨g1, g2, g3, g4⟩, ⟨g5, g6, g7⟩, g8⟩ := hg
        obtain ⟨h1, h2, h3, h4, h5, h6, h7, h8, h9, h10, h11, h12⟩ := hA.2.2.2.2.1 k (by show k ∈ ks ++ [k]; simp)
        obtain ⟨v1, v2⟩ := valsOk_ok vs [] g4
        have ew : ways (k_ps k ++ [(t, vs)]) = ways (k_ps k) * vs.length := ways_app _ _
        refine hA.setLast ⟨h1, h2, h3, h4, h5, h6, h7, h8, ?_, ?_, ?_, ?_⟩ rfl ?_
        · show (k_ps k ++ [(t, vs)]).length ≤ 4
          rw [List.length_append]; exact g5
        · intro p hp
          rcases List.mem_append.mp hp with z | z
          · exact h10 p z
          · rw [List.mem_singleton.mp z]
            exact ⟨g1, ht t (by simp), g2, g3, fun v hv => ⟨(v1 v hv).1, ht v (List.mem_cons_of_mem _ hv)⟩, v2⟩
        · show ((k_ps k ++ [(t, vs)]).map (·.1)).Nodup
          rw [List.map_append, List.nodup_append]
          refine ⟨h11, by simp, fun u hu v hv => ?_⟩
          have : v = t := by simpa using hv
          rw [this]
          exact fun z => g6 (z ▸ hu)
        · show ways (k_ps k ++ [(t, vs)]) ≤ 24
          rw [ew]; exact g7
        · rw [totW_app]
          show totW ks + ways (k_ps k ++ [(t, vs)]) ≤ 120
          rw [ew]; exact g8
      · cases h
  · rw [withL_shut (by simpa using hc)] at h
    cases h
theorem totW_same (ks : List KS) {k k' : KS} (h : k_ps k' = k_ps k) : totW (ks ++ [k']) = totW (ks ++ [k]) := by rw [totW_app, totW_app, h]
theorem sizeL_ok (hA : AOk n A) {r : List (Nat × Nat)} (h : sizeL x A r = some B) : AOk n B := by
  by_cases hc : A.2.2 = true
  · obtain ⟨ss, ks, k, rfl, hsu⟩ := hA.inK hc
    unfold sizeL at h
    split at h
    · rename_i w
      split at h
      · cases h
      · rw [onLast_app] at h
        by_cases hz : k_sz k = 0
        · rw [if_pos hz] at h
          cases h
          obtain ⟨h1, h2, h3, h4, h5⟩ := hA.2.2.2.2.1 k (by show k ∈ ks ++ [k]; simp)
          exact hA.setLast ⟨h1, h2, h3, wnum_le x w, h5⟩ rfl (Nat.le_trans (Nat.le_of_eq (totW_same ks (k := k) rfl)) hA.2.2.2.2.2.1)
        · rw [if_neg hz] at h; cases h
    · cases h
  · rw [sizeL_shut (by simpa using hc)] at h
    cases h
theorem skipL_ok (hA : AOk n A) {w0 : Nat × Nat} {r : List (Nat × Nat)} (hw : wok n (w0 :: r)) (hs : wsrt (w0 :: r)) (h : skipL A (w0 :: r) r = some B) : AOk n B := by
  by_cases hc : A.2.2 = true
  · obtain ⟨ss, ks, k, rfl, hsu⟩ := hA.inK hc
    unfold skipL at h
    split at h
    · cases h
    · rename_i w r'
      rw [onLast_app] at h
      by_cases hz : k_rs k = none
      · rw [if_pos hz] at h
        cases h
        obtain ⟨h1, h2, h3, h4, h5, h6⟩ := hA.2.2.2.2.1 k (by show k ∈ ks ++ [k]; simp)
        refine hA.setLast ⟨h1, h2, h3, h4, fun q hq => ?_, h6⟩ rfl (Nat.le_trans (Nat.le_of_eq (totW_same ks (k := k) rfl)) hA.2.2.2.2.2.1)
        cases hq
        have hlast : (w0 :: w :: r').getLastD (0, 0) = (w :: r').getLast (by simp) := by
          simp [List.getLastD]
        rw [hlast]
        have hm := List.getLast_mem (l := w :: r') (by simp)
        refine ⟨?_, (hw.1 _ (List.mem_cons_of_mem _ hm)).2⟩
        have hw1 := hw.1 w (by simp)
        unfold wsrt at hs
        rw [List.pairwise_cons, List.pairwise_cons] at hs
        rcases List.mem_cons.mp hm with z | z
        · rw [z]; exact hw1.1
        · have := hs.2.1 _ z
          have h9 := (hw.1 _ (List.mem_cons_of_mem _ hm)).1
          show w.1 < _
          omega
      · rw [if_neg hz] at h; cases h
  · rw [skipL_shut (by simpa using hc)] at h
    cases h
theorem failL_ok (hA : AOk n A) {r : List (Nat × Nat)} (h : failL A r = some B) : AOk n B := by
  by_cases hc : A.2.2 = true
  · obtain ⟨ss, ks, k, rfl, hsu⟩ := hA.inK hc
    unfold failL at h
    split at h
    · rw [onLast_app] at h
      by_cases hz : k_fl k = false
      · rw [if_pos hz] at h
        cases h
        obtain ⟨h1, h2, h3, h4, h5⟩ := hA.2.2.2.2.1 k (by show k ∈ ks ++ [k]; simp)
        exact hA.setLast ⟨h1, h2, h3, h4, h5⟩ rfl (Nat.le_trans (Nat.le_of_eq (totW_same ks (k := k) rfl)) hA.2.2.2.2.2.1)
      · rw [if_neg hz] at h; cases h
    · cases h
  · rw [failL_shut (by simpa using hc)] at h
    cases h
theorem lineW_ok (hA : AOk n A) {ws : List (Nat × Nat)} {line : Nat} (hw : wok n ws) (hs : wsrt ws) (h : lineW x A line ws = some B) : AOk n B := by
  match ws, hw, hs, h with
  | [], _, _, h => cases h; exact hA
  | w0 :: rest, hw, hs, h =>
    have ht : ∀ t ∈ rest.map (wd x), t ≠ [] := by
      intro t ht
      obtain ⟨w, hw2, rfl⟩ := List.mem_map.mp ht
      exact wd_ne (hw.1 w (List.mem_cons_of_mem _ hw2)).1
    rw [lineW_eq] at h
    split at h
    · cases h; exact hA
    · split at h
      · exact suiteL_ok hA ht h
      · split at h
        · exact caseL_ok hA ht h
        · split at h
          · unfold tagL at h
            split at h
            · cases h
            · exact tagsW_ok hA ht h
          · split at h
            · exact withL_ok hA ht h
            · split at h
              · exact sizeL_ok hA h
              · split at h
                · exact skipL_ok hA hw hs h
                · split at h
                  · exact failL_ok hA h
                  · cases h
end AK
end
section
/-! ScriptReader: accept, read; TestFinder.script -/
/-- the seven string constants -/
def STs (L : Nat) (fi : Nat → Nat → Int32) (fr : Nat → Nat → Option Nat) : Prop := STr L fi fr 1 [115, 117, 105, 116, 101] ∧ STr L fi fr 2 [99, 97, 115, 101] ∧ STr L fi fr 3 [116, 97, 103] ∧ STr L fi fr 4 [119, 105, 116, 104] ∧ STr L fi fr 5 [115, 105, 122, 101] ∧ STr L fi fr 6 [115, 107, 105, 112] ∧ STr L fi fr 7 [102, 97, 105, 108, 115]
theorem STr.keep {L : Nat} {fi fi' : Nat → Nat → Int32} {fr : Nat → Nat → Option Nat} {k : Nat} {w : List Nat} (h : STr L fi fr k w) (hk : k < 8) (e : ∀ a q, a < 16 → fi' a q = fi a q) : STr L fi' fr k w := by
  obtain ⟨h1, h2, h3, h4, h5, h6⟩ := h
  exact ⟨h1, h2, h3, (e _ _ (by omega)).trans h4, fun j hj => ⟨(e _ _ (by omega)).trans (h5 j hj).1, (h5 j hj).2⟩, h6⟩
theorem STs.keep {L : Nat} {fi fi' : Nat → Nat → Int32} {fr : Nat → Nat → Option Nat} (h : STs L fi fr) (e : ∀ a q, a < 16 → fi' a q = fi a q) : STs L fi' fr := by
  obtain ⟨h1, h2, h3, h4, h5, h6, h7⟩ := h
  exact ⟨h1.keep (by decide) e, h2.keep (by decide) e, h3.keep (by decide) e, h4.keep (by decide) e, h5.keep (by decide) e, h6.keep (by decide) e, h7.keep (by decide) e⟩
section RD
variable {d L : Nat} {fi : Nat → Nat → Int32} {fl : Nat → Nat → Int64} {fr : Nat → Nat → Option Nat} {F G : Nat} {x : Nat → Nat} {n : Nat} {A : AS} {ws : List (Nat × Nat)}
set_option maxHeartbeats 2000000 in
theorem ct_accept (hF : FRok F G fr) (hSt : STs L fi fr) (hS : SCr fi fl x n A) (hA : AOk n A) (hW : WDr fi ws) (hw : wok n ws) {line : Nat} : Rn (d + 5) 115 0 [some (.ref 585), some (.int (nI line)), none] [] (SH L, fi, fl, fr) (AccQ L fi fl fr x n (lineW x A line ws)) := by
  have hl6 := hw.2
  have yes : lineW x A line ws = some A → Rn (d + 5) 115 20 [some (.ref 585), some (.int (nI line)), none] [] (SH L, fi, fl, fr) (AccQ L fi fl fr x n (lineW x A line ws)) := by
    intro e
    refine Rn.iconst (1) k_115 rfl rfl ?_
    refine Rn.reti k_115 rfl q_115 rfl (rfl) ?_
    rw [e]
    exact ⟨fi, fl, rfl, fun _ _ _ => rfl, fun _ _ _ => rfl, rfl, fun B hB => by cases hB; exact hS⟩
  refine Rn.aload_n k_115 rfl rfl ?_
  refine Rn.getA k_115 rfl rfl (s585 L) (hF.l 14 rfl) ?_
  refine Rn.getI k_115 rfl rfl (s588 L) ?_
  rw [hW.1]
  refine Rn.if_eq 20 k_115 rfl rfl (fun h1 => ?_) (fun h1 => ?_)
  · rw [c_eq 0 0 rfl (by omega) (by decide)] at h1
    refine yes ?_
    rw [List.eq_nil_of_length_eq_zero h1]
    rfl
  · rw [c_eq 0 0 rfl (by omega) (by decide)] at h1
    match ws, hW, hw, h1, hl6, yes with
    | [], _, _, h1, _, _ => exact absurd rfl h1
    | w0 :: rest, hW, hw, h1, hl6, yes =>
      refine Rn.aload_n k_115 rfl rfl ?_
      refine Rn.getA k_115 rfl rfl (s585 L) (hF.l 14 rfl) ?_
      refine Rn.cV1I k_115 rfl rfl q_135 rfl (Nat.le_of_ble_eq_true rfl) (Nat.le_of_ble_eq_true rfl) (s588 L) (ct_isComment hF hS.1 hW hw) ?_
      have e0 : (decide (0 < (w0 :: rest).length) && decide (x ((w0 :: rest).getD 0 (0, 0)).1 = 35)) = decide (x w0.1 = 35) := by
        rw [decide_eq_true (by simp), Bool.true_and]
        rfl
      rw [e0]
      refine Rn.if_eq 22 k_115 rfl rfl (fun h2 => ?_) (fun h2 => ?_)
      · (try rw [bI_0] at h2)
        (try rw [Bool.not_eq_false] at h2)
        have h2 := of_decide_eq_false h2
        have bw : ∀ {k : Nat} {w : List Nat}, STr L fi fr k w → Rn (d + 4) 136 0 [some (.ref 588), some (.ref k), none] [] (SH L, fi, fl, fr) (Ret (SH L, fi, fl, fr) (some (.int (bI (decide (wd x w0 = w)))))) := fun hk => ct_beginWith hF hS.1 hW hw (by simp) hk
        rw [lineW_eq, if_neg h2]
        refine Rn.aload_n k_115 rfl rfl ?_
        refine Rn.getA k_115 rfl rfl (s585 L) (hF.l 14 rfl) ?_
        refine Rn.ldc k_115 rfl ?_
        refine Rn.cV2I k_115 rfl rfl q_136 rfl (Nat.le_of_ble_eq_true rfl) (Nat.le_of_ble_eq_true rfl) (s588 L) (bw hSt.1) ?_
        refine Rn.if_eq 39 k_115 rfl rfl (fun h3 => ?_) (fun h3 => ?_)
        · (try rw [bI_0] at h3)
          (try rw [Bool.not_eq_false] at h3)
          have h3 := of_decide_eq_false h3
          rw [if_neg h3]
          refine Rn.aload_n k_115 rfl rfl ?_
          refine Rn.getA k_115 rfl rfl (s585 L) (hF.l 14 rfl) ?_
          refine Rn.ldc k_115 rfl ?_
          refine Rn.cV2I k_115 rfl rfl q_136 rfl (Nat.le_of_ble_eq_true rfl) (Nat.le_of_ble_eq_true rfl) (s588 L) (bw hSt.2.1) ?_
          refine Rn.if_eq 57 k_115 rfl rfl (fun h4 => ?_) (fun h4 => ?_)
          · (try rw [bI_0] at h4)
            (try rw [Bool.not_eq_false] at h4)
            have h4 := of_decide_eq_false h4
            rw [if_neg h4]
            refine Rn.aload_n k_115 rfl rfl ?_
            refine Rn.getA k_115 rfl rfl (s585 L) (hF.l 14 rfl) ?_
            refine Rn.ldc k_115 rfl ?_
            refine Rn.cV2I k_115 rfl rfl q_136 rfl (Nat.le_of_ble_eq_true rfl) (Nat.le_of_ble_eq_true rfl) (s588 L) (bw hSt.2.2.1) ?_
            refine Rn.if_eq 74 k_115 rfl rfl (fun h5 => ?_) (fun h5 => ?_)
            · (try rw [bI_0] at h5)
              (try rw [Bool.not_eq_false] at h5)
              have h5 := of_decide_eq_false h5
              rw [if_neg h5]
              refine Rn.aload_n k_115 rfl rfl ?_
              refine Rn.getI k_115 rfl rfl (s585 L) ?_
              rw [hS.2.2.2.2.2.2.1]
              refine Rn.if_eq 92 k_115 rfl rfl (fun h6 => ?_) (fun h6 => ?_)
              · (try rw [bI_0] at h6)
                (try rw [Bool.not_eq_false] at h6)
                refine Rn.iconst (0) k_115 rfl rfl ?_
                refine Rn.reti k_115 rfl q_115 rfl (rfl) ?_
                rw [withL_shut h6, sizeL_shut h6, skipL_shut h6, failL_shut h6]
                simp only [ite_self]
                exact ⟨fi, fl, rfl, fun _ _ _ => rfl, fun _ _ _ => rfl, rfl, fun B hB => by cases hB⟩
              · (try rw [bI_0] at h6)
                (try rw [Bool.not_eq_false] at h6)
                obtain ⟨ss, ks, k, rfl, hsu⟩ := hA.inK h6
                obtain ⟨hi, hk⟩ := ckl hA
                have s4 : fi 19 4 = nI (ks.length + 1) := by rw [hS.2.2.2.1]; show nI (ks ++ [k]).length = _; simp
                refine Rn.aload_n k_115 rfl rfl ?_
                refine Rn.getA k_115 rfl rfl (s585 L) (hF.l 10 rfl) ?_
                refine Rn.getI k_115 rfl rfl (s19 L) ?_
                rw [s4]
                refine Rn.iconst (1) k_115 rfl rfl ?_
                refine Rn.icmp_ge 94 k_115 rfl rfl (fun h7 => ?_) (fun h7 => ?_)
                · refine Rn.aload_n k_115 rfl rfl ?_
                  refine Rn.getA k_115 rfl rfl (s585 L) (hF.l 10 rfl) ?_
                  refine Rn.getA k_115 rfl rfl (s19 L) (hF.l 5 rfl) ?_
                  refine Rn.aload_n k_115 rfl rfl ?_
                  refine Rn.getA k_115 rfl rfl (s585 L) (hF.l 10 rfl) ?_
                  refine Rn.getI k_115 rfl rfl (s19 L) ?_
                  rw [s4]
                  refine Rn.iconst (1) k_115 rfl rfl ?_
                  refine Rn.isub k_115 rfl ?_
                  rw [c_sub 1 1 rfl (by omega), Nat.add_sub_cancel]
                  refine Rn.aaload (ci := 4) (ks.length) k_115 rfl (s23 L) rfl (by decide) (rfl) (by omega) (by decide) (hF.2.2.1 _ hi) ?_
                  refine Rn.astore_n2 k_115 rfl rfl ?_
                  refine Rn.aload_n k_115 rfl rfl ?_
                  refine Rn.getA k_115 rfl rfl (s585 L) (hF.l 14 rfl) ?_
                  refine Rn.ldc k_115 rfl ?_
                  refine Rn.cV2I k_115 rfl rfl q_136 rfl (Nat.le_of_ble_eq_true rfl) (Nat.le_of_ble_eq_true rfl) (s588 L) (bw hSt.2.2.2.1) ?_
                  refine Rn.if_eq 130 k_115 rfl rfl (fun h8 => ?_) (fun h8 => ?_)
                  · (try rw [bI_0] at h8)
                    (try rw [Bool.not_eq_false] at h8)
                    have h8 := of_decide_eq_false h8
                    rw [if_neg h8]
                    refine Rn.aload_n k_115 rfl rfl ?_
                    refine Rn.getA k_115 rfl rfl (s585 L) (hF.l 14 rfl) ?_
                    refine Rn.ldc k_115 rfl ?_
                    refine Rn.cV2I k_115 rfl rfl q_136 rfl (Nat.le_of_ble_eq_true rfl) (Nat.le_of_ble_eq_true rfl) (s588 L) (bw hSt.2.2.2.2.1) ?_
                    refine Rn.if_eq 148 k_115 rfl rfl (fun h9 => ?_) (fun h9 => ?_)
                    · (try rw [bI_0] at h9)
                      (try rw [Bool.not_eq_false] at h9)
                      have h9 := of_decide_eq_false h9
                      rw [if_neg h9]
                      refine Rn.aload_n k_115 rfl rfl ?_
                      refine Rn.getA k_115 rfl rfl (s585 L) (hF.l 14 rfl) ?_
                      refine Rn.ldc k_115 rfl ?_
                      refine Rn.cV2I k_115 rfl rfl q_136 rfl (Nat.le_of_ble_eq_true rfl) (Nat.le_of_ble_eq_true rfl) (s588 L) (bw hSt.2.2.2.2.2.1) ?_
                      refine Rn.if_eq 166 k_115 rfl rfl (fun h10 => ?_) (fun h10 => ?_)
                      · (try rw [bI_0] at h10)
                        (try rw [Bool.not_eq_false] at h10)
                        have h10 := of_decide_eq_false h10
                        rw [if_neg h10]
                        refine Rn.aload_n k_115 rfl rfl ?_
                        refine Rn.getA k_115 rfl rfl (s585 L) (hF.l 14 rfl) ?_
                        refine Rn.ldc k_115 rfl ?_
                        refine Rn.cV2I k_115 rfl rfl q_136 rfl (Nat.le_of_ble_eq_true rfl) (Nat.le_of_ble_eq_true rfl) (s588 L) (bw hSt.2.2.2.2.2.2) ?_
                        refine Rn.if_eq 190 k_115 rfl rfl (fun h11 => ?_) (fun h11 => ?_)
                        · (try rw [bI_0] at h11)
                          (try rw [Bool.not_eq_false] at h11)
                          have h11 := of_decide_eq_false h11
                          rw [if_neg h11]
                          refine Rn.iconst (0) k_115 rfl rfl ?_
                          refine Rn.reti k_115 rfl q_115 rfl (rfl) ?_
                          exact ⟨fi, fl, rfl, fun _ _ _ => rfl, fun _ _ _ => rfl, rfl, fun B hB => by cases hB⟩
                        · (try rw [bI_0] at h11)
                          (try rw [Bool.not_eq_false] at h11)
                          have h11 := of_decide_eq_true h11
                          rw [if_pos h11]
                          refine Rn.aload_n k_115 rfl rfl ?_
                          refine Rn.aload_n k_115 rfl rfl ?_
                          refine Rn.cV2 k_115 rfl rfl q_123 rfl (Nat.le_of_ble_eq_true rfl) (Nat.le_of_ble_eq_true rfl) (s585 L) (ct_expectFailure hF hS hA hW hw rfl) (fun v h' hq => ?_)
                          obtain ⟨fi', fl', rfl, z1, z2, rfl, z4⟩ := hq
                          show Rn _ _ _ _ (Value.int _ :: []) _ _
                          refine Rn.if_eq 190 k_115 rfl rfl (fun h12 => ?_) (fun h12 => ?_)
                          · (try rw [bI_0] at h12)
                            (try rw [Bool.not_eq_false] at h12)
                            refine Rn.iconst (0) k_115 rfl rfl ?_
                            refine Rn.reti k_115 rfl q_115 rfl (rfl) ?_
                            exact ⟨fi', fl', rfl, z1, z2, by rw [h12]; rfl, z4⟩
                          · (try rw [bI_0] at h12)
                            (try rw [Bool.not_eq_false] at h12)
                            refine Rn.iconst (1) k_115 rfl rfl ?_
                            refine Rn.goto 191 k_115 rfl rfl ?_
                            refine Rn.reti k_115 rfl q_115 rfl (rfl) ?_
                            exact ⟨fi', fl', rfl, z1, z2, by rw [h12]; rfl, z4⟩
                      · (try rw [bI_0] at h10)
                        (try rw [Bool.not_eq_false] at h10)
                        have h10 := of_decide_eq_true h10
                        rw [if_pos h10]
                        refine Rn.aload_n k_115 rfl rfl ?_
                        refine Rn.aload_n k_115 rfl rfl ?_
                        refine Rn.cV2 k_115 rfl rfl q_122 rfl (Nat.le_of_ble_eq_true rfl) (Nat.le_of_ble_eq_true rfl) (s585 L) (ct_skip hF hS hA hW hw rfl) (fun v h' hq => ?_)
                        obtain ⟨fi', fl', rfl, z1, z2, rfl, z4⟩ := hq
                        show Rn _ _ _ _ (Value.int _ :: []) _ _
                        refine Rn.reti k_115 rfl q_115 rfl (bI_fit _) ?_
                        exact ⟨fi', fl', rfl, z1, z2, rfl, z4⟩
                    · (try rw [bI_0] at h9)
                      (try rw [Bool.not_eq_false] at h9)
                      have h9 := of_decide_eq_true h9
                      rw [if_pos h9]
                      refine Rn.aload_n k_115 rfl rfl ?_
                      refine Rn.aload_n k_115 rfl rfl ?_
                      refine Rn.cV2 k_115 rfl rfl q_121 rfl (Nat.le_of_ble_eq_true rfl) (Nat.le_of_ble_eq_true rfl) (s585 L) (ct_setSize hF hS hA hW hw rfl) (fun v h' hq => ?_)
                      obtain ⟨fi', fl', rfl, z1, z2, rfl, z4⟩ := hq
                      show Rn _ _ _ _ (Value.int _ :: []) _ _
                      refine Rn.reti k_115 rfl q_115 rfl (bI_fit _) ?_
                      exact ⟨fi', fl', rfl, z1, z2, rfl, z4⟩
                  · (try rw [bI_0] at h8)
                    (try rw [Bool.not_eq_false] at h8)
                    have h8 := of_decide_eq_true h8
                    rw [if_pos h8]
                    refine Rn.aload_n k_115 rfl rfl ?_
                    refine Rn.aload_n k_115 rfl rfl ?_
                    refine Rn.cV2 k_115 rfl rfl q_120 rfl (Nat.le_of_ble_eq_true rfl) (Nat.le_of_ble_eq_true rfl) (s585 L) (ct_addParameter hF hS hA hW hw rfl) (fun v h' hq => ?_)
                    obtain ⟨fi', fl', rfl, z1, z2, rfl, z4⟩ := hq
                    show Rn _ _ _ _ (Value.int _ :: []) _ _
                    refine Rn.reti k_115 rfl q_115 rfl (bI_fit _) ?_
                    exact ⟨fi', fl', rfl, z1, z2, rfl, z4⟩
                · rw [c_ge 1 1 rfl (by omega) (by decide)] at h7
                  omega
            · (try rw [bI_0] at h5)
              (try rw [Bool.not_eq_false] at h5)
              have h5 := of_decide_eq_true h5
              rw [if_pos h5]
              refine Rn.aload_n k_115 rfl rfl ?_
              refine Rn.cV1 k_115 rfl rfl q_119 rfl (Nat.le_of_ble_eq_true rfl) (Nat.le_of_ble_eq_true rfl) (s585 L) (ct_addTags hF hS hA hW hw rfl) (fun v h' hq => ?_)
              obtain ⟨fi', fl', rfl, z1, z2, rfl, z4⟩ := hq
              show Rn _ _ _ _ (Value.int _ :: []) _ _
              refine Rn.reti k_115 rfl q_115 rfl (bI_fit _) ?_
              exact ⟨fi', fl', rfl, z1, z2, rfl, z4⟩
          · (try rw [bI_0] at h4)
            (try rw [Bool.not_eq_false] at h4)
            have h4 := of_decide_eq_true h4
            rw [if_pos h4]
            refine Rn.aload_n k_115 rfl rfl ?_
            refine Rn.iload_n k_115 rfl rfl ?_
            refine Rn.cV2 k_115 rfl rfl q_117 rfl (Nat.le_of_ble_eq_true rfl) (Nat.le_of_ble_eq_true rfl) (s585 L) (ct_openCase hF hS hA hW hw rfl) (fun v h' hq => ?_)
            obtain ⟨fi', fl', rfl, z1, z2, rfl, z4⟩ := hq
            show Rn _ _ _ _ (Value.int _ :: []) _ _
            refine Rn.reti k_115 rfl q_115 rfl (bI_fit _) ?_
            exact ⟨fi', fl', rfl, z1, z2, rfl, z4⟩
        · (try rw [bI_0] at h3)
          (try rw [Bool.not_eq_false] at h3)
          have h3 := of_decide_eq_true h3
          rw [if_pos h3]
          refine Rn.aload_n k_115 rfl rfl ?_
          refine Rn.cV1 k_115 rfl rfl q_116 rfl (Nat.le_of_ble_eq_true rfl) (Nat.le_of_ble_eq_true rfl) (s585 L) (ct_openSuite hF hS hA hW hw rfl) (fun v h' hq => ?_)
          obtain ⟨fi', fl', rfl, z1, z2, rfl, z4⟩ := hq
          show Rn _ _ _ _ (Value.int _ :: []) _ _
          refine Rn.reti k_115 rfl q_115 rfl (bI_fit _) ?_
          exact ⟨fi', fl', rfl, z1, z2, rfl, z4⟩
      · (try rw [bI_0] at h2)
        (try rw [Bool.not_eq_false] at h2)
        have h2 := of_decide_eq_true h2
        refine yes ?_
        rw [lineW_eq, if_pos h2]
end RD
end
section
/-! ScriptReader.read; TestFinder.script -/
/-- the script as it stays: text, suites, cases, tests -/
def FSr (fi : Nat → Nat → Int32) (fl : Nat → Nat → Int64) (x : Nat → Nat) (n : Nat) (A : AS) : Prop :=
  TXr fi x n ∧ NRr fi fl 21 22 (A.1.map (fun s => enc s.1)) ∧ fi 19 4 = nI A.2.1.length ∧ fi 19 6 = nI (totW A.2.1) ∧ (∀ i, i < A.2.1.length → CKr fi fl i (A.2.1.getD i dK) (snm A.1 (k_su (A.2.1.getD i dK))) (stg A.1 (k_su (A.2.1.getD i dK)))) ∧ NTr fi A.2.1
def A0 : AS := ([], [], false)
theorem A0_ok (n : Nat) : AOk n A0 := ⟨Nat.zero_le _, (fun s hs => by cases hs), List.nodup_nil, Nat.zero_le _, (fun s hs => by cases hs), Nat.zero_le _, (fun z => by cases z), (fun _ k hk => by cases hk)⟩
/-- what the script says that is read: NONE and what it holds, or the line that is ill and nothing -/
def scrW (x : Nat → Nat) (n : Nat) : AS ⊕ Nat := linesW x n (n + 1) A0 0 0
def scrI (r : AS ⊕ Nat) : Int32 := match r with
  | .inl _ => -1
  | .inr l => nI l
def scrA (r : AS ⊕ Nat) : AS := match r with
  | .inl A => A
  | .inr _ => A0
theorem CKr.keep9 {fi fi' : Nat → Nat → Int32} {fl : Nat → Nat → Int64} {i : Nat} {k : KS} {sn : Nm} {st : List Nm} (hps : (k_ps k).length ≤ 4) (h : CKr fi fl i k sn st) (h1 : ∀ a q, 25 + 14 * i ≤ a → a < 25 + 14 * i + 14 → q ≠ 9 → fi' a q = fi a q) : CKr fi' fl i k sn st := by
  obtain ⟨a1, a2, a3, a4, a5, a6, a7, a8, a9, a10, a11, a12, a13⟩ := h
  have e1 : ∀ q, q ≠ 9 → fi' (25 + 14 * i) q = fi (25 + 14 * i) q := fun q hq => h1 _ _ (Nat.le_refl _) (by omega) hq
  exact ⟨a1, a2, (e1 2 (by decide)).trans a3, (e1 3 (by decide)).trans a4, (e1 4 (by decide)).trans a5, (e1 5 (by decide)).trans a6, (e1 6 (by decide)).trans a7, fun r hr => ⟨(e1 7 (by decide)).trans (a8 r hr).1, (e1 8 (by decide)).trans (a8 r hr).2⟩, (e1 10 (by decide)).trans a9, (e1 11 (by decide)).trans a10, a11.keep (h1 _ _ (by omega) (by omega) (by decide)) (fun _ => rfl), a12.keep (h1 _ _ (by omega) (by omega) (by decide)) (fun _ => rfl), fun p hp => (a13 p hp).keep (h1 _ _ (by omega) (by omega) (by decide)) (fun _ => rfl)⟩
theorem SCr.keepW {fi fi' : Nat → Nat → Int32} {fl : Nat → Nat → Int64} {x : Nat → Nat} {n : Nat} {A : AS} (hA : AOk n A) (hS : SCr fi fl x n A) (e : ∀ a q, wdF a → fi' a q = fi a q) : SCr fi' fl x n A := by
  obtain ⟨s1, s2, s3, s4, s5, s6, s7, s8⟩ := hS
  have w : ∀ a, (a < 588 ∨ 590 < a) → wdF a := fun a ha => ⟨by omega, by omega, by omega⟩
  have hl := hA.2.2.2.1
  exact ⟨s1.keep (fun q => e _ _ (w _ (by omega))), (e _ _ (w _ (by omega))).trans s2, s3.keep (e _ _ (w _ (by omega))) (fun _ => rfl), (e _ _ (w _ (by omega))).trans s4, (e _ _ (w _ (by omega))).trans s5, fun i hi => (s6 i hi).keep (hA.k hi).2.2.2.2.2.2.2.2.1 (fun a q u1 u2 => e _ _ (w _ (by omega))) (fun _ _ _ _ => rfl), (e _ _ (w _ (by omega))).trans s7, fun s hs => (s8 s hs).keep (e _ _ (w _ (by omega))) (fun _ => rfl)⟩
def rdQ (L : Nat) (fi : Nat → Nat → Int32) (fl : Nat → Nat → Int64) (fr : Nat → Nat → Option Nat) (x : Nat → Nat) (n : Nat) (r : AS ⊕ Nat) : Option Value → am_H → Prop := fun v h' => v = some (.int (scrI r)) ∧ ∃ fi' fl', h' = (SH L, fi', fl', fr) ∧ FSr fi' fl' x n (scrA r) ∧ (∀ a k, (a < 19 ∨ 591 ≤ a) → fi' a k = fi a k) ∧ ∀ a k, (a < 19 ∨ 591 ≤ a) → fl' a k = fl a k
theorem FSr.keep {fi fi' : Nat → Nat → Int32} {fl fl' : Nat → Nat → Int64} {x : Nat → Nat} {n : Nat} {A : AS} (hA : AOk n A) (h : FSr fi fl x n A) (h1 : ∀ a q, 19 ≤ a → a < 585 → fi' a q = fi a q) (h2 : ∀ a q, 19 ≤ a → a < 585 → fl' a q = fl a q) : FSr fi' fl' x n A := by
  obtain ⟨s1, s2, s3, s4, s5, s6⟩ := h
  have hl := hA.2.2.2.1
  refine ⟨s1.keep (fun q => h1 _ _ (by decide) (by decide)), s2.keep (h1 _ _ (by decide) (by decide)) (fun q => h2 _ _ (by decide) (by decide)), (h1 _ _ (by decide) (by decide)).trans s3, (h1 _ _ (by decide) (by decide)).trans s4, fun i hi => (s5 i hi).keep (hA.k hi).2.2.2.2.2.2.2.2.1 (fun a q u1 u2 => h1 _ _ (by omega) (by omega)) (fun a q u1 u2 => h2 _ _ (by omega) (by omega)), fun i hi => ⟨(h1 _ _ (by omega) (by omega)).trans (s6 i hi).1, fun w hw => (h1 _ _ (by decide) (by decide)).trans ((s6 i hi).2 w hw)⟩⟩
theorem linesW_ok (x : Nat → Nat) {n : Nat} (hn : n ≤ 1200) : ∀ (f : Nat) (A : AS) (line i : Nat), AOk n A → AOk n (scrA (linesW x n f A line i)) := by
  intro f
  induction f with
  | zero => intro A line i hA; exact hA
  | succ f ih =>
    intro A line i hA
    unfold linesW
    split
    · exact hA
    · rename_i hge
      have he := eol_ge x (n - i) i
      split
      · exact A0_ok n
      · rename_i B hB
        exact ih B _ _ (lineW_ok hA (cutW_ok x he.1 (by omega) hn) (cutW_srt x _ _) hB)
theorem scrA_ok (x : Nat → Nat) {n : Nat} (hn : n ≤ 1200) : AOk n (scrA (scrW x n)) := linesW_ok x hn _ _ _ _ (A0_ok n)
section RD
variable {d L : Nat} {fi : Nat → Nat → Int32} {fl : Nat → Nat → Int64} {fr : Nat → Nat → Option Nat} {F G : Nat} {x : Nat → Nat} {n : Nat}
set_option maxHeartbeats 2000000 in
theorem ct_read (hF : FRok F G fr) (hSt : STs L fi fr) (hm : fi 17 1 = nI n) (hn : n ≤ 1200) (ht : ∀ k, k < n → fi 18 k = nI (x k) ∧ x k < 128) : Rn (d + 6) 114 0 [some (.ref 585), some (.ref 17), none, none, none] [] (SH L, fi, fl, fr) (rdQ L fi fl fr x n (scrW x n)) := by
  have loop : ∀ (f i line : Nat) (A : AS) (gi : Nat → Nat → Int32) (gl : Nat → Nat → Int64) (o4 : Option Value), n < i + f → i ≤ n + 1 → SCr gi gl x n A → AOk n A → (∀ a k, (a < 19 ∨ 591 ≤ a) → gi a k = fi a k) → (∀ a k, (a < 19 ∨ 591 ≤ a) → gl a k = fl a k) → Rn (d + 6) 114 17 [some (.ref 585), some (.ref 17), some (.int (nI i)), some (.int (nI line)), o4] [] (SH L, gi, gl, fr) (rdQ L fi fl fr x n (linesW x n f A line i)) := by
    have exit : ∀ (i line : Nat) (A : AS) (gi : Nat → Nat → Int32) (gl : Nat → Nat → Int64) (o4 : Option Value), n ≤ i → i ≤ n + 1 → SCr gi gl x n A → AOk n A → (∀ a k, (a < 19 ∨ 591 ≤ a) → gi a k = fi a k) → (∀ a k, (a < 19 ∨ 591 ≤ a) → gl a k = fl a k) → Rn (d + 6) 114 17 [some (.ref 585), some (.ref 17), some (.int (nI i)), some (.int (nI line)), o4] [] (SH L, gi, gl, fr) (rdQ L fi fl fr x n (.inl A)) := by
      intro i line A gi gl o4 hi hi2 hS hA g1 g2
      have hl := hA.2.2.2.1
      refine Rn.iload_n k_114 rfl rfl ?_
      refine Rn.aload_n k_114 rfl rfl ?_
      refine Rn.getA k_114 rfl rfl (s585 L) (hF.l 10 rfl) ?_
      refine Rn.getI k_114 rfl rfl (s19 L) ?_
      rw [hS.2.1]
      refine Rn.icmp_ge 76 k_114 rfl rfl (fun h1 => ?_) (fun h1 => ?_)
      · refine Rn.aload_n k_114 rfl rfl ?_
        refine Rn.getA k_114 rfl rfl (s585 L) (hF.l 10 rfl) ?_
        refine Rn.cV1 k_114 rfl rfl q_110 rfl (Nat.le_of_ble_eq_true rfl) (Nat.le_of_ble_eq_true rfl) (s19 L) (ct_numberTests hF hl hS.2.2.2.1 (fun i hi => (hS.2.2.2.2.2.1 i hi).2.2.2.2.2.2.2.2.1) hA.2.2.2.2.2.1) (fun v h' hq => ?_)
        obtain ⟨rfl, gi', rfl, hN, hk⟩ := hq
        show Rn _ _ _ _ [] _ _
        refine Rn.iconst (-1) k_114 rfl rfl ?_
        refine Rn.reti k_114 rfl q_114 rfl (rfl) ?_
        obtain ⟨s1, s2, s3, s4, s5, s6, s7, s8⟩ := hS
        refine ⟨rfl, gi', gl, rfl, ⟨s1.keep (fun q => hk _ _ (by decide) (Or.inr (fun i hi => by omega))), s3.keep (hk _ _ (by decide) (Or.inl (by decide))) (fun _ => rfl), (hk _ _ (by decide) (Or.inl (by decide))).trans s4, (hk _ _ (by decide) (Or.inl (by decide))).trans s5, fun i hi => ?_, hN⟩, fun a k ha => ?_, g2⟩
        · exact (s6 i hi).keep9 (hA.k hi).2.2.2.2.2.2.2.2.1 (fun a q u1 u2 hq => hk _ _ (by omega) (Or.inl hq))
        · rw [hk a k (by omega) (Or.inr (fun i hi => by omega))]
          exact g1 a k ha
      · rw [nI_leI (by omega) (by omega)] at h1
        omega
    intro f
    induction f with
    | zero =>
      intro i line A gi gl o4 hf hi hS hA g1 g2
      exact exit i line A gi gl o4 (by omega) hi hS hA g1 g2
    | succ f ih =>
      intro i line A gi gl o4 hf hi hS hA g1 g2
      unfold linesW
      by_cases hge : n ≤ i
      · rw [if_pos hge]
        exact exit i line A gi gl o4 hge hi hS hA g1 g2
      · rw [if_neg hge]
        have he := eol_ge x (n - i) i
        refine Rn.iload_n k_114 rfl rfl ?_
        refine Rn.aload_n k_114 rfl rfl ?_
        refine Rn.getA k_114 rfl rfl (s585 L) (hF.l 10 rfl) ?_
        refine Rn.getI k_114 rfl rfl (s19 L) ?_
        rw [hS.2.1]
        refine Rn.icmp_ge 76 k_114 rfl rfl (fun h1 => ?_) (fun h1 => ?_)
        · rw [nI_leI (by omega) (by omega)] at h1
          omega
        · refine Rn.aload_n k_114 rfl rfl ?_
          refine Rn.getA k_114 rfl rfl (s585 L) (hF.l 10 rfl) ?_
          refine Rn.iload_n k_114 rfl rfl ?_
          refine Rn.cV2I k_114 rfl rfl q_109 rfl (Nat.le_of_ble_eq_true rfl) (Nat.le_of_ble_eq_true rfl) (s19 L) (ct_lineEnd hF hS.1 hS.2.1 (by omega)) ?_
          refine Rn.istore4 k_114 rfl rfl ?_
          refine Rn.aload_n k_114 rfl rfl ?_
          refine Rn.getA k_114 rfl rfl (s585 L) (hF.l 14 rfl) ?_
          refine Rn.iload_n k_114 rfl rfl ?_
          refine Rn.iload k_114 rfl rfl ?_
          generalize hE : eol x (n - i) i = e at he
          refine Rn.cV3 k_114 rfl rfl q_133 rfl (Nat.le_of_ble_eq_true rfl) (Nat.le_of_ble_eq_true rfl) (s588 L) (ct_cut hF hS.1 (show i ≤ e by omega) (show e ≤ n by omega)) (fun v h' hq => ?_)
          obtain ⟨rfl, gi1, rfl, hW, k1⟩ := hq
          show Rn _ _ _ _ [] _ _
          have hS1 := hS.keepW hA k1
          have hw := cutW_ok x (show i ≤ e by omega) (show e ≤ n by omega) hn
          have k2 : ∀ a k, (a < 19 ∨ 591 ≤ a) → gi1 a k = fi a k := fun a k ha => (k1 a k ⟨by omega, by omega, by omega⟩).trans (g1 a k ha)
          refine Rn.aload_n k_114 rfl rfl ?_
          refine Rn.iload_n k_114 rfl rfl ?_
          refine Rn.cV2 k_114 rfl rfl q_115 rfl (Nat.le_of_ble_eq_true rfl) (Nat.le_of_ble_eq_true rfl) (s585 L) (ct_accept hF (hSt.keep (fun a q ha => k2 a q (by omega))) hS1 hA hW hw) (fun v h' hq => ?_)
          obtain ⟨gi2, gl2, rfl, z1, z2, rfl, z4⟩ := hq
          show Rn _ _ _ _ (Value.int _ :: []) _ _
          have k3 : ∀ a k, (a < 19 ∨ 591 ≤ a) → gi2 a k = fi a k := fun a k ha => (z1 a k (by unfold rdF; omega)).trans (k2 a k ha)
          have k4 : ∀ a k, (a < 19 ∨ 591 ≤ a) → gl2 a k = fl a k := fun a k ha => (z2 a k (by unfold rdF; omega)).trans (g2 a k ha)
          cases hL : lineW x A line (cutW x i e) with
          | none =>
            rw [hL] at z4
            show Rn _ _ _ _ (Value.int 0 :: []) _ _
            refine Rn.if_ne 65 k_114 rfl rfl (fun h2 => ?_) (fun h2 => ?_)
            · exact absurd rfl h2
            · refine Rn.aload_n k_114 rfl rfl ?_
              refine Rn.getA k_114 rfl rfl (s585 L) (hF.l 10 rfl) ?_
              refine Rn.cV1 k_114 rfl rfl q_107 rfl (Nat.le_of_ble_eq_true rfl) (Nat.le_of_ble_eq_true rfl) (s19 L) (ct_forget hF) (fun v h' hq => ?_)
              obtain ⟨rfl, rfl⟩ := hq
              show Rn _ _ _ _ [] _ _
              refine Rn.iload_n k_114 rfl rfl ?_
              refine Rn.reti k_114 rfl q_114 rfl (rfl) ?_
              have ef : ∀ a k, (a ≠ 19 ∧ a ≠ 21) → fgt gi2 a k = gi2 a k := by
                intro a k ha
                unfold fgt
                rw [up2_row _ _ ha.1, up2_row _ _ ha.1, up2_row _ _ ha.2]
              have k5 : ∀ k, gi2 20 k = gi1 20 k := fun k => z1 20 k (Or.inr (Or.inl rfl))
              refine ⟨rfl, _, _, rfl, ⟨hS1.1.keep (fun q => (ef 20 q (by decide)).trans (k5 q)), NRr.nil rfl, rfl, rfl, fun i hi => absurd hi (Nat.not_lt_zero i), fun i hi => absurd hi (Nat.not_lt_zero i)⟩, fun a k ha => ?_, k4⟩
              rw [ef a k (by omega)]
              exact k3 a k ha
          | some B =>
            rw [hL] at z4
            show Rn _ _ _ _ (Value.int 1 :: []) _ _
            refine Rn.if_ne 65 k_114 rfl rfl (fun h2 => ?_) (fun h2 => ?_)
            · refine Rn.iload k_114 rfl rfl ?_
              refine Rn.iconst (1) k_114 rfl rfl ?_
              refine Rn.iadd k_114 rfl ?_
              rw [c_add 1 1 rfl]
              refine Rn.istore_n2 k_114 rfl rfl ?_
              refine Rn.iinc3 (1) k_114 rfl rfl rfl ?_
              rw [c_add 1 1 rfl]
              refine Rn.goto 17 k_114 rfl rfl ?_
              exact ih (e + 1) (line + 1) B gi2 gl2 _ (by omega) (by omega) (z4 B rfl) (lineW_ok hA hw (cutW_srt x i e) hL) k3 k4
            · exact absurd h2 (by decide)
  refine Rn.aload_n k_114 rfl rfl ?_
  refine Rn.getA k_114 rfl rfl (s585 L) (hF.l 10 rfl) ?_
  refine Rn.aload_n k_114 rfl rfl ?_
  refine Rn.cV2 k_114 rfl rfl q_108 rfl (Nat.le_of_ble_eq_true rfl) (Nat.le_of_ble_eq_true rfl) (s19 L) (ct_become hF hm hn ht) (fun v h' hq => ?_)
  obtain ⟨rfl, gi, rfl, b1, b2, b3, b4, b5, b6⟩ := hq
  show Rn _ _ _ _ [] _ _
  refine Rn.aload_n k_114 rfl rfl ?_
  refine Rn.iconst (0) k_114 rfl rfl ?_
  refine Rn.putI k_114 rfl (rfl) (s585 L) ?_
  refine Rn.iconst (0) k_114 rfl rfl ?_
  refine Rn.istore_n2 k_114 rfl rfl ?_
  refine Rn.iconst (0) k_114 rfl rfl ?_
  refine Rn.istore_n3 k_114 rfl rfl ?_
  refine loop (n + 1) 0 0 A0 _ fl none (by omega) (by omega) ⟨b1, b2, NRr.nil b3, b4, b5, fun i hi => absurd hi (Nat.not_lt_zero i), rfl, fun s hs => by cases hs⟩ (A0_ok n) (fun a k ha => ?_) (fun _ _ _ => rfl)
  rw [up2_row _ _ (by omega)]
  exact b6 a k (by omega) (by omega) (by omega)
/-- which of the two filters is in force -/
def FG (F G : Nat) : Prop := (F = 592 ∧ G = 599) ∨ (F = 599 ∧ G = 592)
theorem FG.sF {F G : Nat} (h : FG F G) (L : Nat) : (SH L)[F]? = some (8, 5) := by
  rcases h with ⟨rfl, rfl⟩ | ⟨rfl, rfl⟩
  · exact s592 L
  · exact s599 L
theorem FG.sG {F G : Nat} (h : FG F G) (L : Nat) : (SH L)[G]? = some (8, 5) := by
  rcases h with ⟨rfl, rfl⟩ | ⟨rfl, rfl⟩
  · exact s599 L
  · exact s592 L
theorem ct_script (hF : FRok F G fr) (hFG : FG F G) (hSt : STs L fi fr) (hm : fi 17 1 = nI n) (hn : n ≤ 1200) (ht : ∀ k, k < n → fi 18 k = nI (x k) ∧ x k < 128) : Rn (d + 7) 3 0 [some (.ref 16), none] [] (SH L, fi, fl, fr) (fun v h' => v = some (.int (scrI (scrW x n))) ∧ ∃ fi' fl', h' = (SH L, fi', fl', fr) ∧ FSr fi' fl' x n (scrA (scrW x n)) ∧ fi' 17 1 = 0 ∧ fi' F 4 = 0 ∧ (∀ a k, (a < 19 ∨ 591 ≤ a) → (a ≠ 17 ∨ k ≠ 1) → (a ≠ F ∨ k ≠ 4) → fi' a k = fi a k) ∧ ∀ a k, (a < 19 ∨ 591 ≤ a) → fl' a k = fl a k) := by
  refine Rn.aload_n k_3 rfl rfl ?_
  refine Rn.getA k_3 rfl rfl (s16 L) (hF.l 15 rfl) ?_
  refine Rn.aload_n k_3 rfl rfl ?_
  refine Rn.getA k_3 rfl rfl (s16 L) (hF.l 1 rfl) ?_
  refine Rn.cV2 k_3 rfl rfl q_114 rfl (Nat.le_of_ble_eq_true rfl) (Nat.le_of_ble_eq_true rfl) (s585 L) (ct_read hF hSt hm hn ht) (fun v h' hq => ?_)
  obtain ⟨rfl, gi, gl, rfl, q1, q2, q3⟩ := hq
  show Rn _ _ _ _ (Value.int _ :: []) _ _
  refine Rn.istore_n1 k_3 rfl rfl ?_
  refine Rn.aload_n k_3 rfl rfl ?_
  refine Rn.getA k_3 rfl rfl (s16 L) (hF.l 1 rfl) ?_
  refine Rn.iconst (0) k_3 rfl rfl ?_
  refine Rn.putI k_3 rfl (rfl) (s17 L) ?_
  refine Rn.aload_n k_3 rfl rfl ?_
  refine Rn.getA k_3 rfl rfl (s16 L) hF.2.2.2.2 ?_
  refine Rn.iconst (0) k_3 rfl rfl ?_
  refine Rn.putI k_3 rfl (rfl) (hFG.sF L) ?_
  refine Rn.iload_n k_3 rfl rfl ?_
  refine Rn.reti k_3 rfl q_3 rfl (rfl) ?_
  have hF2 : F = 592 ∨ F = 599 := hFG.elim (fun z => Or.inl z.1) (fun z => Or.inr z.1)
  have e : ∀ a k, a < 591 → a ≠ 17 → up2 (up2 gi 17 1 0) F 4 0 a k = gi a k := fun a k h1 h2 => by rw [up2_row _ _ (by omega), up2_row _ _ h2]
  refine ⟨rfl, _, gl, rfl, ?_, ?_, ?_, fun a k h1 h2 h3 => ?_, q3⟩
  · exact q1.keep (scrA_ok x hn) (fun a q u1 u2 => e a q (by omega) (by omega)) (fun _ _ _ _ => rfl)
  · rw [up2_row _ _ (by omega), up2_same]
  · exact up2_same _ _ _ _
  · refine Eq.trans ?_ (q2 a k h1)
    unfold up2
    rcases h3 with h3 | h3
    · rw [if_neg h3]
      rcases h2 with h2 | h2
      · rw [if_neg h2]
      · rw [if_neg h2]; split <;> rfl
    · rw [if_neg h3]
      rcases h2 with h2 | h2
      · rw [if_neg h2]; split <;> rfl
      · rw [if_neg h2]; split <;> split <;> rfl
end RD
end
section
theorem wb_tb (n : Nat) : (lN n).toBitVec = BitVec.ofNat 64 n := rfl
theorem wb_inj {a b : Int64} (h : a.toBitVec = b.toBitVec) : a = b := Int64.toBitVec_inj.mp h
theorem wb_tn {n : Nat} (h : n < 2 ^ 64) : (lN n).toBitVec.toNat = n := by rw [wb_tb, BitVec.toNat_ofNat, Nat.mod_eq_of_lt h]
theorem wb_of (x : Int64) : ∃ n, n < 2 ^ 64 ∧ x = lN n := ⟨x.toBitVec.toNat, x.toBitVec.isLt, wb_inj (by rw [wb_tb]; simp)⟩
theorem wb_of32 (x : Int32) : ∃ n, n < 2 ^ 32 ∧ x = nI n := ⟨x.toBitVec.toNat, x.toBitVec.isLt, Int32.toBitVec_inj.mp (by show _ = BitVec.ofNat 32 _; simp)⟩
theorem wb_c : ∀ k, k < 64 → ((nI k).toInt64 &&& 63) = lN k := by decide +kernel
theorem wb_cu : ∀ k, k < 64 → ((nI k).toInt64.toUInt64 &&& Int64.toUInt64 63) = UInt64.ofNat k := by decide +kernel
theorem wb_sm : ∀ k, k < 64 → (BitVec.ofNat 64 k).smod 64 = BitVec.ofNat 64 k := by decide +kernel
theorem wb_pw {a b : Nat} (h : a ≤ b) : 2 ^ b = 2 ^ a * 2 ^ (b - a) := by rw [← Nat.pow_add]; congr 1; omega
theorem wb_lt2 {a b : Nat} (h : a < b) : 2 ^ a < 2 ^ b := Nat.pow_lt_pow_right (by decide) h
theorem wb_mod (n : Nat) : lN n = lN (n % 2 ^ 64) := wb_inj (by rw [wb_tb, wb_tb]; apply BitVec.eq_of_toNat_eq; rw [BitVec.toNat_ofNat, BitVec.toNat_ofNat, Nat.mod_mod])
theorem wb_shr {n k : Nat} (hn : n < 2 ^ 64) (hk : k < 64) : ((lN n).toUInt64 >>> ((nI k).toInt64.toUInt64 &&& Int64.toUInt64 63)).toInt64 = lN (n / 2 ^ k) := by
  rw [wb_cu k hk]
  apply wb_inj
  apply BitVec.eq_of_toNat_eq
  show ((lN n).toUInt64 >>> UInt64.ofNat k).toNat = (BitVec.ofNat 64 _).toNat
  have h1 : (UInt64.ofNat k).toNat = k := by
    show (BitVec.ofNat 64 k).toNat = k
    rw [BitVec.toNat_ofNat, Nat.mod_eq_of_lt (by omega)]
  have h2 : (lN n).toUInt64.toNat = n := wb_tn hn
  rw [UInt64.toNat_shiftRight, h1, h2, Nat.mod_eq_of_lt hk, Nat.shiftRight_eq_div_pow, BitVec.toNat_ofNat, Nat.mod_eq_of_lt (Nat.lt_of_le_of_lt (Nat.div_le_self _ _) hn)]
theorem wb_shl (n : Nat) {k : Nat} (hk : k < 64) : lN n <<< ((nI k).toInt64 &&& 63) = lN (n * 2 ^ k) := by
  rw [wb_c k hk]
  apply wb_inj
  rw [Int64.toBitVec_shiftLeft, wb_tb, wb_tb, wb_tb, wb_sm k hk]
  apply BitVec.eq_of_toNat_eq
  rw [BitVec.shiftLeft_eq', BitVec.toNat_shiftLeft, BitVec.toNat_ofNat, BitVec.toNat_ofNat, BitVec.toNat_ofNat, Nat.mod_eq_of_lt (show k < 2 ^ 64 by omega), Nat.shiftLeft_eq, Nat.mul_mod, Nat.mod_mod, ← Nat.mul_mod]
theorem wb_and {a b : Nat} (ha : a < 2 ^ 64) (hb : b < 2 ^ 64) : lN a &&& lN b = lN (a &&& b) := by
  apply wb_inj
  rw [Int64.toBitVec_and, wb_tb, wb_tb, wb_tb]
  apply BitVec.eq_of_toNat_eq
  rw [BitVec.toNat_and, BitVec.toNat_ofNat, BitVec.toNat_ofNat, BitVec.toNat_ofNat, Nat.mod_eq_of_lt ha, Nat.mod_eq_of_lt hb, Nat.mod_eq_of_lt (Nat.and_lt_two_pow _ hb)]
theorem wb_or {a b : Nat} (ha : a < 2 ^ 64) (hb : b < 2 ^ 64) : lN a ||| lN b = lN (a ||| b) := by
  apply wb_inj
  rw [Int64.toBitVec_or, wb_tb, wb_tb, wb_tb]
  apply BitVec.eq_of_toNat_eq
  rw [BitVec.toNat_or, BitVec.toNat_ofNat, BitVec.toNat_ofNat, BitVec.toNat_ofNat, Nat.mod_eq_of_lt ha, Nat.mod_eq_of_lt hb, Nat.mod_eq_of_lt (Nat.or_lt_two_pow ha hb)]
theorem wb_mask {n k : Nat} (hn : n < 2 ^ 64) (hk : k < 64) : lN n &&& lN (2 ^ k - 1) = lN (n % 2 ^ k) := by
  rw [wb_and hn (by have := wb_lt2 hk; omega), Nat.and_two_pow_sub_one_eq_mod]
/-! Tape: text comes in -/
def ok_c (c : Nat) : Bool := c == 10 || (decide (32 ≤ c) && decide (c ≤ 126))
/-- eight bits of a long, k up -/
def bt (w : Int64) (k : Nat) : Nat := w.toBitVec.toNat / 2 ^ k % 256
theorem bt_lt (w : Int64) (k : Nat) : bt w k < 256 := Nat.mod_lt _ (by decide)
theorem bt_cls (w : Int64) {k : Nat} (hk : k < 64) : (w.toUInt64 >>> ((nI k).toInt64.toUInt64 &&& Int64.toUInt64 63)).toInt64.toInt32 &&& 255 = nI (bt w k) := by
  obtain ⟨n, hn, rfl⟩ := wb_of w
  rw [wb_shr hn hk, lN_i, pk_and _ 8 rfl]
  unfold bt
  rw [wb_tn hn]
  congr 1
  show (BitVec.ofNat 32 (n / 2 ^ k)).toNat % 256 = _
  rw [BitVec.toNat_ofNat]
  omega
theorem bt_mod (w : Int64) {k : Nat} (hk : k ≤ 56) : ((w >>> ((nI k).toInt64 &&& 63)) &&& 255).toInt32 = nI (bt w k) := by
  obtain ⟨m, hm, e⟩ := wb_of (w >>> ((nI k).toInt64 &&& 63))
  have h5 : m % 256 = bt w k := by
    have e2 : (w >>> ((nI k).toInt64 &&& 63)).toBitVec = w.toBitVec.sshiftRight k := by
      rw [wb_c k (by omega), Int64.toBitVec_shiftRight, wb_tb, wb_sm k (by omega)]
      show w.toBitVec.sshiftRight (BitVec.ofNat 64 k).toNat = _
      rw [BitVec.toNat_ofNat, Nat.mod_eq_of_lt (by omega)]
    rw [e] at e2
    have e3 := congrArg BitVec.toNat e2
    rw [wb_tn hm] at e3
    rw [e3]
    unfold bt
    apply Nat.eq_of_testBit_eq
    intro j
    rw [show (256 : Nat) = 2 ^ 8 from rfl, Nat.testBit_mod_two_pow, Nat.testBit_mod_two_pow, Nat.testBit_div_two_pow]
    by_cases hj : j < 8
    · rw [decide_eq_true hj, Bool.true_and, Bool.true_and]
      show (w.toBitVec.sshiftRight k).getLsbD j = w.toBitVec.getLsbD (j + k)
      rw [BitVec.getLsbD_sshiftRight, decide_eq_false (show ¬ 64 ≤ j by omega), if_pos (show k + j < 64 by omega), Nat.add_comm k j]
      rfl
    · rw [decide_eq_false hj, Bool.false_and, Bool.false_and]
  rw [e, show (255 : Int64) = lN (2 ^ 8 - 1) from rfl, wb_mask hm (by decide), lN_i]
  rw [← h5]
/-- the characters of a long's lower j bytes -/
def bys (w : Int64) : Nat → List Nat
  | 0 => []
  | j + 1 => (if bt w (8 * j) = 0 then [] else [bt w (8 * j)]) ++ bys w j
theorem bys_len (w : Int64) : ∀ j, (bys w j).length ≤ j
  | 0 => Nat.le_refl _
  | j + 1 => by
    unfold bys
    rw [List.length_append]
    have := bys_len w j
    split
    · simp only [List.length_nil]; omega
    · simp only [List.length_singleton]; omega
theorem bys_lt (w : Int64) : ∀ j, ∀ c ∈ bys w j, c < 256 ∧ c ≠ 0
  | 0, c, h => by cases h
  | j + 1, c, h => by
    unfold bys at h
    rcases List.mem_append.mp h with z | z
    · split at z
      · cases z
      · rename_i hz
        rw [List.mem_singleton.mp z]; exact ⟨bt_lt _ _, hz⟩
    · exact bys_lt w j c z
/-- the tape -/
def TPr (fi : Nat → Nat → Int32) (T : List Nat) : Prop := fi 17 1 = nI T.length ∧ ∀ k, k < T.length → fi 18 k = nI (T.getD k 0)
def TOk (T : List Nat) : Prop := T.length ≤ 1200 ∧ ∀ c ∈ T, c < 128 ∧ ok_c c = true
def txtOk (w : Int64) (T : List Nat) : Prop := (∀ c ∈ bys w 8, ok_c c = true) ∧ T.length + (bys w 8).length ≤ 1200
theorem ok_c_lt {c : Nat} (h : ok_c c = true) : c < 128 := by
  unfold ok_c at h
  rw [Bool.or_eq_true, Bool.and_eq_true] at h
  rcases h with h | h
  · have := of_decide_eq_true h; omega
  · have := of_decide_eq_true h.2; omega
theorem m8 (j : Nat) : nI (8 * (j + 1)) + (-8) = nI (8 * j) := by
  rw [show 8 * (j + 1) = 8 * j + 8 by omega, ← nI_add, show nI 8 = (8 : Int32) from rfl, Int32.add_assoc, show (8 : Int32) + -8 = 0 from rfl, Int32.add_zero]
theorem TPr.add {fi : Nat → Nat → Int32} {T : List Nat} (h : TPr fi T) (c : Nat) : TPr (up2 (up2 fi 18 T.length (nI c)) 17 1 (nI (T.length + 1))) (T ++ [c]) := by
  refine ⟨by rw [up2_same, List.length_append]; rfl, fun k hk => ?_⟩
  rw [List.length_append] at hk
  have hk : k < T.length + 1 := hk
  rw [up2_row _ _ (by decide)]
  by_cases e : k = T.length
  · subst e
    rw [up2_same, List.getD_eq_getElem?_getD, List.getElem?_append_right (Nat.le_refl _), Nat.sub_self]
    rfl
  · rw [up2_col _ _ e, List.getD_eq_getElem?_getD, List.getElem?_append_left (by omega), ← List.getD_eq_getElem?_getD]
    exact h.2 k (by omega)
section TP
variable {d L : Nat} {fi : Nat → Nat → Int32} {fl : Nat → Nat → Int64} {fr : Nat → Nat → Option Nat} {F G : Nat}
theorem ct_mayCome {h : am_H} {c : Nat} (hc : c < 256) : Rn d 126 0 [some (.int (nI c))] [] h (Ret h (some (.int (bI (ok_c c))))) := by
  have yes : ok_c c = true → Rn d 126 18 [some (.int (nI c))] [] h (Ret h (some (.int (bI (ok_c c))))) := by
    intro z
    refine Rn.iconst (1) k_126 rfl rfl ?_
    refine Rn.goto 23 k_126 rfl rfl ?_
    refine Rn.reti k_126 rfl q_126 rfl (rfl) ?_
    exact ⟨by rw [z]; rfl, rfl⟩
  have no : ok_c c = false → Rn d 126 22 [some (.int (nI c))] [] h (Ret h (some (.int (bI (ok_c c))))) := by
    intro z
    refine Rn.iconst (0) k_126 rfl rfl ?_
    refine Rn.reti k_126 rfl q_126 rfl (rfl) ?_
    exact ⟨by rw [z]; rfl, rfl⟩
  refine Rn.iload_n k_126 rfl rfl ?_
  refine Rn.bipush (10) k_126 rfl rfl ?_
  refine Rn.icmp_eq 18 k_126 rfl rfl (fun h1 => ?_) (fun h1 => ?_)
  · rw [c_eq 10 10 rfl (by omega) (by decide)] at h1
    exact yes (by simp [ok_c, h1])
  · rw [c_eq 10 10 rfl (by omega) (by decide)] at h1
    refine Rn.iload_n k_126 rfl rfl ?_
    refine Rn.bipush (32) k_126 rfl rfl ?_
    refine Rn.icmp_lt 22 k_126 rfl rfl (fun h2 => ?_) (fun h2 => ?_)
    · rw [c_lt 32 32 rfl (by omega) (by decide)] at h2
      exact no (by simp [ok_c]; omega)
    · rw [c_lt 32 32 rfl (by omega) (by decide)] at h2
      refine Rn.iload_n k_126 rfl rfl ?_
      refine Rn.bipush (126) k_126 rfl rfl ?_
      refine Rn.icmp_gt 22 k_126 rfl rfl (fun h3 => ?_) (fun h3 => ?_)
      · rw [c_gt 126 126 rfl (by omega) (by decide)] at h3
        exact no (by simp [ok_c]; omega)
      · rw [c_gt 126 126 rfl (by omega) (by decide)] at h3
        exact yes (by simp [ok_c]; omega)
def takeQ (L : Nat) (fi : Nat → Nat → Int32) (fl : Nat → Nat → Int64) (fr : Nat → Nat → Option Nat) (w : Int64) (T : List Nat) : Option Value → am_H → Prop := fun v h' => (txtOk w T ∧ v = some (.int 1) ∧ ∃ fi', h' = (SH L, fi', fl, fr) ∧ TPr fi' (T ++ bys w 8) ∧ ∀ a k, a ≠ 17 → a ≠ 18 → fi' a k = fi a k) ∨ (¬ txtOk w T ∧ v = some (.int 0) ∧ h' = (SH L, fi, fl, fr))
set_option maxHeartbeats 1000000 in
theorem ct_take (hF : FRok F G fr) {T : List Nat} (hT : TPr fi T) (hO : T.length ≤ 1200) {w : Int64} : Rn (d + 1) 125 0 [some (.ref 17), some (.long w), none, none, none, none] [] (SH L, fi, fl, fr) (takeQ L fi fl fr w T) := by
  -- the second loop
  have loop2 : ∀ (j : Nat), j ≤ 8 → ∀ (U : List Nat) (gi : Nat → Nat → Int32) (sh o3 : Int32) (o5 : Option Value), (∀ q, j = q + 1 → sh = nI (8 * q)) → (j = 0 → sh = -8) → U ++ bys w j = T ++ bys w 8 → (T ++ bys w 8).length ≤ 1200 → TPr gi U → (∀ a k, a ≠ 17 → a ≠ 18 → gi a k = fi a k) → txtOk w T → Rn (d + 1) 125 76 [some (.ref 17), some (.long w), none, some (.int o3), some (.int sh), o5] [] (SH L, gi, fl, fr) (takeQ L fi fl fr w T) := by
    intro j
    induction j with
    | zero =>
      intro hj U gi sh o3 o5 hs hs0 hU hl hT g1 hok
      rw [hs0 rfl]
      refine Rn.iload k_125 rfl rfl ?_
      refine Rn.if_lt 137 k_125 rfl rfl (fun h6 => ?_) (fun h6 => ?_)
      · refine Rn.iconst (1) k_125 rfl rfl ?_
        refine Rn.reti k_125 rfl q_125 rfl (rfl) ?_
        rw [show bys w 0 = [] from rfl, List.append_nil] at hU
        exact Or.inl ⟨hok, rfl, gi, rfl, hU ▸ hT, g1⟩
      · exact absurd (by decide) h6
    | succ j ih =>
      intro hj U gi sh o3 o5 hs hs0 hU hl hT g1 hok
      rw [hs j rfl]
      have hlen := congrArg List.length hU
      rw [List.length_append] at hlen
      have e1 : bys w (j + 1) = (if bt w (8 * j) = 0 then [] else [bt w (8 * j)]) ++ bys w j := rfl
      have hb := bt_lt w (8 * j)
      have step : ∀ (U : List Nat) (gi : Nat → Nat → Int32), U ++ bys w j = T ++ bys w 8 → TPr gi U → (∀ a k, a ≠ 17 → a ≠ 18 → gi a k = fi a k) → Rn (d + 1) 125 131 [some (.ref 17), some (.long w), none, some (.int o3), some (.int (nI (8 * j))), some (.int (nI (bt w (8 * j))))] [] (SH L, gi, fl, fr) (takeQ L fi fl fr w T) := by
        intro U gi hU hT g1
        refine Rn.iinc4 (-8) k_125 rfl rfl rfl ?_
        refine Rn.goto 76 k_125 rfl rfl ?_
        refine ih (by omega) U gi _ _ _ (fun q hq => ?_) (fun h0 => ?_) hU hl hT g1 hok
        · rw [hq]; exact m8 q
        · rw [h0]; decide
      refine Rn.iload k_125 rfl rfl ?_
      refine Rn.if_lt 137 k_125 rfl rfl (fun h6 => ?_) (fun h6 => ?_)
      · exact absurd h6 (c_neg (by omega))
      · refine Rn.lload_n k_125 rfl rfl ?_
        refine Rn.iload k_125 rfl rfl ?_
        refine Rn.lushr k_125 rfl ?_
        refine Rn.l2i k_125 rfl ?_
        refine Rn.sipush (255) k_125 rfl rfl ?_
        refine Rn.iand k_125 rfl ?_
        rw [bt_cls w (by omega)]
        refine Rn.istore5 k_125 rfl rfl ?_
        refine Rn.iload k_125 rfl rfl ?_
        refine Rn.if_eq 131 k_125 rfl rfl (fun h7 => ?_) (fun h7 => ?_)
        · rw [c_eq 0 0 rfl (by omega) (by decide)] at h7
          rw [e1, if_pos h7, List.nil_append] at hU
          exact step U gi hU hT g1
        · rw [c_eq 0 0 rfl (by omega) (by decide)] at h7
          rw [e1, if_neg h7] at hU hlen
          rw [List.length_append] at hlen
          simp only [List.length_singleton] at hlen
          refine Rn.aload_n k_125 rfl rfl ?_
          refine Rn.getI k_125 rfl rfl (s17 L) ?_
          rw [hT.1]
          refine Rn.aload_n k_125 rfl rfl ?_
          refine Rn.getA k_125 rfl rfl (s17 L) (hF.l 0 rfl) ?_
          refine Rn.alen k_125 rfl (s18 L) rfl (by decide) ?_
          refine Rn.icmp_ge 131 k_125 rfl rfl (fun h8 => ?_) (fun h8 => ?_)
          · rw [nI_leI (by omega) (by omega)] at h8
            omega
          · refine Rn.aload_n k_125 rfl rfl ?_
            refine Rn.getA k_125 rfl rfl (s17 L) (hF.l 0 rfl) ?_
            refine Rn.aload_n k_125 rfl rfl ?_
            refine Rn.getI k_125 rfl rfl (s17 L) ?_
            refine Rn.iload k_125 rfl rfl ?_
            refine Rn.i2c k_125 rfl ?_
            rw [i2c_id (by omega)]
            refine Rn.castore (U.length) k_125 rfl (s18 L) (hT.1) (by omega) (by decide) (fit_c (by omega)) ?_
            refine Rn.aload_n k_125 rfl rfl ?_
            refine Rn.dupa k_125 rfl ?_
            refine Rn.getI k_125 rfl rfl (s17 L) ?_
            rw [show up2 gi 18 U.length (nI (bt w (8 * j))) 17 1 = nI U.length from hT.1]
            refine Rn.iconst (1) k_125 rfl rfl ?_
            refine Rn.iadd k_125 rfl ?_
            rw [c_add 1 1 rfl]
            refine Rn.putI k_125 rfl (rfl) (s17 L) ?_
            refine step (U ++ [bt w (8 * j)]) _ ?_ (hT.add _) (fun a k h1 h2 => ?_)
            · rw [List.append_assoc]; exact hU
            · rw [up2_row _ _ h1, up2_row _ _ h2]; exact g1 a k h1 h2
  -- the first loop
  have loop1 : ∀ (j : Nat), j ≤ 8 → ∀ (q : Nat) (sh : Int32) (o5 : Option Value), (∀ q, j = q + 1 → sh = nI (8 * q)) → (j = 0 → sh = -8) → q + (bys w j).length = (bys w 8).length → ((∀ c ∈ bys w 8, ok_c c = true) ↔ ∀ c ∈ bys w j, ok_c c = true) → Rn (d + 1) 125 6 [some (.ref 17), some (.long w), none, some (.int (nI q)), some (.int sh), o5] [] (SH L, fi, fl, fr) (takeQ L fi fl fr w T) := by
    have h8 := bys_len w 8
    intro j
    induction j with
    | zero =>
      intro hj q sh o5 hs hs0 hq hok
      rw [hs0 rfl]
      have hq : q = (bys w 8).length := hq
      have hok := hok.mpr (fun c hc => by cases hc)
      refine Rn.iload k_125 rfl rfl ?_
      refine Rn.if_lt 56 k_125 rfl rfl (fun h1 => ?_) (fun h1 => ?_)
      · refine Rn.iload_n k_125 rfl rfl ?_
        refine Rn.aload_n k_125 rfl rfl ?_
        refine Rn.getA k_125 rfl rfl (s17 L) (hF.l 0 rfl) ?_
        refine Rn.alen k_125 rfl (s18 L) rfl (by decide) ?_
        refine Rn.aload_n k_125 rfl rfl ?_
        refine Rn.getI k_125 rfl rfl (s17 L) ?_
        rw [hT.1]
        refine Rn.isub k_125 rfl ?_
        rw [pk_sub hO]
        refine Rn.icmp_le 72 k_125 rfl rfl (fun h5 => ?_) (fun h5 => ?_)
        · rw [nI_leI (by omega) (by omega)] at h5
          refine Rn.bipush (56) k_125 rfl rfl ?_
          refine Rn.istore4 k_125 rfl rfl ?_
          refine loop2 8 (Nat.le_refl _) T fi _ _ _ (fun q hq => ?_) (fun h0 => absurd h0 (by decide)) rfl ?_ hT (fun _ _ _ _ => rfl) ⟨hok, by omega⟩
          · have : q = 7 := by omega
            rw [this]; rfl
          · rw [List.length_append]; omega
        · rw [nI_leI (by omega) (by omega)] at h5
          refine Rn.iconst (0) k_125 rfl rfl ?_
          refine Rn.reti k_125 rfl q_125 rfl (rfl) ?_
          exact Or.inr ⟨fun z => by have := z.2; omega, rfl, rfl⟩
      · exact absurd (by decide) h1
    | succ j ih =>
      intro hj q sh o5 hs hs0 hq hok
      rw [hs j rfl]
      have e1 : bys w (j + 1) = (if bt w (8 * j) = 0 then [] else [bt w (8 * j)]) ++ bys w j := rfl
      have hb := bt_lt w (8 * j)
      have step : ∀ q, q + (bys w j).length = (bys w 8).length → ((∀ c ∈ bys w 8, ok_c c = true) ↔ ∀ c ∈ bys w j, ok_c c = true) → Rn (d + 1) 125 50 [some (.ref 17), some (.long w), none, some (.int (nI q)), some (.int (nI (8 * j))), some (.int (nI (bt w (8 * j))))] [] (SH L, fi, fl, fr) (takeQ L fi fl fr w T) := by
        intro q hq hok
        refine Rn.iinc4 (-8) k_125 rfl rfl rfl ?_
        refine Rn.goto 6 k_125 rfl rfl ?_
        refine ih (by omega) q _ _ (fun q hq => ?_) (fun h0 => ?_) hq hok
        · rw [hq]; exact m8 q
        · rw [h0]; decide
      refine Rn.iload k_125 rfl rfl ?_
      refine Rn.if_lt 56 k_125 rfl rfl (fun h1 => ?_) (fun h1 => ?_)
      · exact absurd h1 (c_neg (by omega))
      · refine Rn.lload_n k_125 rfl rfl ?_
        refine Rn.iload k_125 rfl rfl ?_
        refine Rn.lushr k_125 rfl ?_
        refine Rn.l2i k_125 rfl ?_
        refine Rn.sipush (255) k_125 rfl rfl ?_
        refine Rn.iand k_125 rfl ?_
        rw [bt_cls w (by omega)]
        refine Rn.istore5 k_125 rfl rfl ?_
        refine Rn.iload k_125 rfl rfl ?_
        refine Rn.if_eq 37 k_125 rfl rfl (fun h2 => ?_) (fun h2 => ?_)
        · rw [c_eq 0 0 rfl (by omega) (by decide)] at h2
          rw [e1, if_pos h2, List.nil_append] at hq hok
          refine Rn.iload_n k_125 rfl rfl ?_
          refine Rn.iload k_125 rfl rfl ?_
          refine Rn.if_ne 47 k_125 rfl rfl (fun h4 => ?_) (fun h4 => ?_)
          · rw [h2] at h4; exact absurd rfl h4
          · refine Rn.iconst (0) k_125 rfl rfl ?_
            refine Rn.goto 48 k_125 rfl rfl ?_
            refine Rn.iadd k_125 rfl ?_
            rw [Int32.add_zero]
            refine Rn.istore_n3 k_125 rfl rfl ?_
            exact step q hq hok
        · rw [c_eq 0 0 rfl (by omega) (by decide)] at h2
          rw [e1, if_neg h2] at hq hok
          rw [List.length_append] at hq
          simp only [List.length_singleton] at hq
          refine Rn.iload k_125 rfl rfl ?_
          refine Rn.cS1I k_125 rfl rfl q_126 rfl (Nat.le_of_ble_eq_true rfl) (Nat.le_of_ble_eq_true rfl) (ct_mayCome hb) ?_
          refine Rn.if_ne 37 k_125 rfl rfl (fun h3 => ?_) (fun h3 => ?_)
          · (try rw [bI_0] at h3)
            (try rw [Bool.not_eq_false] at h3)
            refine Rn.iload_n k_125 rfl rfl ?_
            refine Rn.iload k_125 rfl rfl ?_
            refine Rn.if_ne 47 k_125 rfl rfl (fun h4 => ?_) (fun h4 => ?_)
            · refine Rn.iconst (1) k_125 rfl rfl ?_
              refine Rn.iadd k_125 rfl ?_
              rw [c_add 1 1 rfl]
              refine Rn.istore_n3 k_125 rfl rfl ?_
              refine step (q + 1) (by omega) (hok.trans ⟨fun z c hc => z c (List.mem_append.mpr (Or.inr hc)), fun z c hc => ?_⟩)
              rcases List.mem_append.mp hc with y | y
              · rw [List.mem_singleton.mp y]; exact h3
              · exact z c y
            · exact absurd ((c_eq 0 0 rfl (by omega) (by decide)).mp h4) h2
          · (try rw [bI_0] at h3)
            (try rw [Bool.not_eq_false] at h3)
            refine Rn.iconst (0) k_125 rfl rfl ?_
            refine Rn.reti k_125 rfl q_125 rfl (rfl) ?_
            refine Or.inr ⟨fun z => ?_, rfl, rfl⟩
            have := hok.mp z.1 (bt w (8 * j)) (by simp)
            rw [h3] at this
            cases this
  refine Rn.iconst (0) k_125 rfl rfl ?_
  refine Rn.istore_n3 k_125 rfl rfl ?_
  refine Rn.bipush (56) k_125 rfl rfl ?_
  refine Rn.istore4 k_125 rfl rfl ?_
  exact loop1 8 (Nat.le_refl _) 0 _ _ (fun q hq => by have : q = 7 := by omega
                                                      rw [this]; rfl) (fun h0 => absurd h0 (by decide)) (Nat.zero_add _) Iff.rfl
theorem ct_text (hF : FRok F G fr) {T : List Nat} (hT : TPr fi T) (hO : T.length ≤ 1200) {w : Int64} : Rn (d + 2) 2 0 [some (.ref 16), some (.long w), none] [] (SH L, fi, fl, fr) (takeQ L fi fl fr w T) := by
  refine Rn.aload_n k_2 rfl rfl ?_
  refine Rn.getA k_2 rfl rfl (s16 L) (hF.l 1 rfl) ?_
  refine Rn.lload_n k_2 rfl rfl ?_
  refine Rn.cV2 k_2 rfl rfl q_125 rfl (Nat.le_of_ble_eq_true rfl) (Nat.le_of_ble_eq_true rfl) (s17 L) (ct_take hF hT hO) (fun v h' hq => ?_)
  rcases hq with ⟨z1, rfl, z2⟩ | ⟨z1, rfl, z2⟩
  · show Rn _ _ _ _ (Value.int 1 :: []) _ _
    refine Rn.reti k_2 rfl q_2 rfl (rfl) ?_
    exact Or.inl ⟨z1, rfl, z2⟩
  · show Rn _ _ _ _ (Value.int 0 :: []) _ _
    refine Rn.reti k_2 rfl q_2 rfl (rfl) ?_
    exact Or.inr ⟨z1, rfl, z2⟩
end TP
end
section
/-! TestName: the name of a test -/
def pseg (ps : List (Nm × List Nm)) (w p : Nat) : List Nat := (if p = 0 then 91 else 44) :: ((ps.getD p ([], [])).1 ++ 61 :: vsel ps w p)
def psegs (ps : List (Nm × List Nm)) (w : Nat) : Nat → List Nat
  | 0 => []
  | p + 1 => psegs ps w p ++ pseg ps w p
/-- the name of the test that is way w of the case k -/
def tnm (ss : List (Nm × List Nm)) (k : KS) (w : Nat) : List Nat := (if k_su k = 0 then [] else snm ss (k_su k) ++ [46]) ++ k_nm k ++ psegs (k_ps k) w (k_ps k).length ++ (if (k_ps k).length = 0 then [] else [93])
/-- the written name -/
def NMr (fi : Nat → Nat → Int32) (U : List Nat) : Prop := fi 597 1 = nI U.length ∧ ∀ k, k < U.length → fi 598 k = nI (U.getD k 0)
def nmF (a : Nat) : Prop := a ≠ 597 ∧ a ≠ 598
theorem NMr.add {fi : Nat → Nat → Int32} {T : List Nat} (h : NMr fi T) (c : Nat) : NMr (up2 (up2 fi 598 T.length (nI c)) 597 1 (nI (T.length + 1))) (T ++ [c]) := by
  refine ⟨by rw [up2_same, List.length_append]; rfl, fun k hk => ?_⟩
  rw [List.length_append] at hk
  have hk : k < T.length + 1 := hk
  rw [up2_row _ _ (by decide)]
  by_cases e : k = T.length
  · subst e
    rw [up2_same, List.getD_eq_getElem?_getD, List.getElem?_append_right (Nat.le_refl _), Nat.sub_self]
    rfl
  · rw [up2_col _ _ e, List.getD_eq_getElem?_getD, List.getElem?_append_left (by omega), ← List.getD_eq_getElem?_getD]
    exact h.2 k (by omega)
def namQ (L : Nat) (fi : Nat → Nat → Int32) (fl : Nat → Nat → Int64) (fr : Nat → Nat → Option Nat) (U : List Nat) : Option Value → am_H → Prop := fun v h' => v = none ∧ ∃ fi', h' = (SH L, fi', fl, fr) ∧ NMr fi' U ∧ ∀ a k, nmF a → fi' a k = fi a k
theorem getD_appL {l m : List Nat} {k : Nat} (h : k < l.length) : (l ++ m).getD k 0 = l.getD k 0 := by
  rw [List.getD_eq_getElem?_getD, List.getElem?_append_left h, ← List.getD_eq_getElem?_getD]
theorem getD_appR {l m : List Nat} {k : Nat} (h : l.length ≤ k) : (l ++ m).getD k 0 = m.getD (k - l.length) 0 := by
  rw [List.getD_eq_getElem?_getD, List.getElem?_append_right h, ← List.getD_eq_getElem?_getD]
theorem i_m1 (x : Int32) : x + (-1) = x - 1 := (Int32.sub_eq_add_neg x 1).symm
section NM
variable {d L : Nat} {fi : Nat → Nat → Int32} {fl : Nat → Nat → Int64} {fr : Nat → Nat → Option Nat} {F G : Nat}
theorem ct_addMark (hF : FRok F G fr) {U : List Nat} (hU : NMr fi U) (hl : U.length < 130) {c : Nat} (hc : c < 65536) : Rn d 129 0 [some (.ref 597), some (.int (nI c))] [] (SH L, fi, fl, fr) (namQ L fi fl fr (U ++ [c])) := by
  refine Rn.aload_n k_129 rfl rfl ?_
  refine Rn.getI k_129 rfl rfl (s597 L) ?_
  rw [hU.1]
  refine Rn.aload_n k_129 rfl rfl ?_
  refine Rn.getA k_129 rfl rfl (s597 L) (hF.l 23 rfl) ?_
  refine Rn.alen k_129 rfl (s598 L) rfl (by decide) ?_
  refine Rn.icmp_ge 32 k_129 rfl rfl (fun h1 => ?_) (fun h1 => ?_)
  · rw [nI_leI (by omega) (by omega)] at h1
    omega
  · refine Rn.aload_n k_129 rfl rfl ?_
    refine Rn.getA k_129 rfl rfl (s597 L) (hF.l 23 rfl) ?_
    refine Rn.aload_n k_129 rfl rfl ?_
    refine Rn.getI k_129 rfl rfl (s597 L) ?_
    refine Rn.iload_n k_129 rfl rfl ?_
    refine Rn.castore (U.length) k_129 rfl (s598 L) (hU.1) (by omega) (by decide) (fit_c hc) ?_
    refine Rn.aload_n k_129 rfl rfl ?_
    refine Rn.dupa k_129 rfl ?_
    refine Rn.getI k_129 rfl rfl (s597 L) ?_
    rw [show up2 fi 598 U.length (nI c) 597 1 = nI U.length from hU.1]
    refine Rn.iconst (1) k_129 rfl rfl ?_
    refine Rn.iadd k_129 rfl ?_
    rw [c_add 1 1 rfl]
    refine Rn.putI k_129 rfl (rfl) (s597 L) ?_
    refine Rn.retv k_129 rfl q_129 rfl ?_
    exact ⟨rfl, _, rfl, hU.add c, fun a k ha => by rw [up2_row _ _ ha.1, up2_row _ _ ha.2]⟩
theorem ct_addName (hF : FRok F G fr) {U : List Nat} (hU : NMr fi U) {w : Nm} (hw : okV w = true) (hl : U.length + w.length ≤ 130) : Rn (d + 1) 130 0 [some (.ref 597), some (.long (lN (enc w))), none, none, none, none, none] [] (SH L, fi, fl, fr) (namQ L fi fl fr (U ++ w)) := by
  have hwl := okV_len hw
  have hwn := okV_isN hw
  have h63 := enc_lt63 hwl
  have hdl := dlen_enc 12 w hwl hwn
  have h38 : enc w < 38 ^ 12 := Nat.lt_of_lt_of_le (enc_lt w) (Nat.pow_le_pow_right (by decide) hwl)
  refine Rn.lload_n k_130 rfl rfl ?_
  refine Rn.cS1I k_130 rfl rfl q_104 rfl (Nat.le_of_ble_eq_true rfl) (Nat.le_of_ble_eq_true rfl) (ct_length h63 (by rw [hdl]; omega) h38) ?_
  refine Rn.istore_n3 k_130 rfl rfl ?_
  refine Rn.iload_n k_130 rfl rfl ?_
  refine Rn.aload_n k_130 rfl rfl ?_
  refine Rn.getA k_130 rfl rfl (s597 L) (hF.l 23 rfl) ?_
  refine Rn.alen k_130 rfl (s598 L) rfl (by decide) ?_
  refine Rn.aload_n k_130 rfl rfl ?_
  refine Rn.getI k_130 rfl rfl (s597 L) ?_
  rw [hdl, hU.1]
  refine Rn.isub k_130 rfl ?_
  rw [pk_sub (by omega)]
  refine Rn.icmp_le 20 k_130 rfl rfl (fun h1 => ?_) (fun h1 => ?_)
  · refine Rn.lload_n k_130 rfl rfl ?_
    refine Rn.lstore4 k_130 rfl rfl ?_
    refine Rn.aload_n k_130 rfl rfl ?_
    refine Rn.getI k_130 rfl rfl (s597 L) ?_
    refine Rn.iload_n k_130 rfl rfl ?_
    rw [hU.1]
    refine Rn.iadd k_130 rfl ?_
    rw [nI_add]
    refine Rn.iconst (1) k_130 rfl rfl ?_
    refine Rn.isub k_130 rfl ?_
    have loop : ∀ (m : Nat) (v : Nm), v.length = m → (∃ u, w = v ++ u) → ∀ (gi : Nat → Nat → Int32), gi 597 1 = nI U.length → (∀ k, k < U.length → gi 598 k = nI (U.getD k 0)) → (∀ k, v.length ≤ k → k < w.length → gi 598 (U.length + k) = nI (w.getD k 0)) → (∀ a k, nmF a → gi a k = fi a k) → Rn (d + 1) 130 33 [some (.ref 597), some (.long (lN (enc w))), none, some (.int (nI w.length)), some (.long (lN (enc v))), none, some (.int (nI (U.length + v.length) - 1))] [] (SH L, gi, fl, fr) (namQ L fi fl fr (U ++ w)) := by
      intro m
      induction m with
      | zero =>
        intro v hv hvu gi g0 g1 g2 g3
        have : v = [] := List.eq_nil_of_length_eq_zero hv
        subst this
        refine Rn.iload k_130 rfl rfl ?_
        refine Rn.aload_n k_130 rfl rfl ?_
        refine Rn.getI k_130 rfl rfl (s597 L) ?_
        rw [g0]
        refine Rn.icmp_lt 68 k_130 rfl rfl (fun h2 => ?_) (fun h2 => ?_)
        · refine Rn.aload_n k_130 rfl rfl ?_
          refine Rn.dupa k_130 rfl ?_
          refine Rn.getI k_130 rfl rfl (s597 L) ?_
          rw [g0]
          refine Rn.iload_n k_130 rfl rfl ?_
          refine Rn.iadd k_130 rfl ?_
          rw [nI_add]
          refine Rn.putI k_130 rfl (rfl) (s597 L) ?_
          refine Rn.retv k_130 rfl q_130 rfl ?_
          refine ⟨rfl, _, rfl, ⟨by rw [up2_same, List.length_append], fun k hk => ?_⟩, fun a k ha => by rw [up2_row _ _ ha.1]; exact g3 a k ha⟩
          rw [up2_row _ _ (by decide)]
          rw [List.length_append] at hk
          by_cases e : k < U.length
          · rw [getD_appL e]; exact g1 k e
          · rw [getD_appR (by omega)]
            have := g2 (k - U.length) (Nat.zero_le _) (by omega)
            rw [show U.length + (k - U.length) = k by omega] at this
            exact this
        · refine absurd ?_ h2
          rw [List.length_nil, Nat.add_zero]
          cases hz : U.length with
          | zero => decide
          | succ q =>
            rw [show nI (q + 1) - 1 = nI q from nI_pred q]
            exact (nI_ltI (by omega) (by omega)).mpr (by omega)
      | succ m ih =>
        intro v hv hvu gi g0 g1 g2 g3
        obtain ⟨u, hu⟩ := hvu
        have hwv : w.length = v.length + u.length := by rw [hu, List.length_append]
        have hne : v ≠ [] := fun z => by rw [z] at hv; cases hv
        have hvd := List.dropLast_concat_getLast hne
        have hvl : v.dropLast.length = m := by rw [List.length_dropLast]; omega
        generalize v.dropLast = v' at hvd hvl
        generalize v.getLast hne = c at hvd
        subst hvd
        have hvN : ∀ y ∈ v' ++ [c], isN y = true := fun y hy => hwn y (by rw [hu]; exact List.mem_append.mpr (Or.inl hy))
        have hcN : isN c = true := hvN c (by simp)
        have henc : enc (v' ++ [c]) < 2 ^ 63 := enc_lt63 (by omega)
        have hap : (v' ++ [c]).length = v'.length + 1 := by rw [List.length_append]; rfl
        have hdg := dg_lt c
        have hcc : c < 128 := by
          have := chr_dg hcN
          unfold chr at this
          split at this
          · omega
          · split at this <;> omega
        rw [hap, show nI (U.length + (v'.length + 1)) - 1 = nI (U.length + v'.length) from nI_pred _]
        refine Rn.iload k_130 rfl rfl ?_
        refine Rn.aload_n k_130 rfl rfl ?_
        refine Rn.getI k_130 rfl rfl (s597 L) ?_
        rw [g0]
        refine Rn.icmp_lt 68 k_130 rfl rfl (fun h2 => ?_) (fun h2 => ?_)
        · rw [nI_ltI (by omega) (by omega)] at h2
          omega
        · refine Rn.aload_n k_130 rfl rfl ?_
          refine Rn.getA k_130 rfl rfl (s597 L) (hF.l 23 rfl) ?_
          refine Rn.iload k_130 rfl rfl ?_
          refine Rn.lload k_130 rfl rfl ?_
          refine Rn.cS1I k_130 rfl rfl q_105 rfl (Nat.le_of_ble_eq_true rfl) (Nat.le_of_ble_eq_true rfl) (ct_lastCharacter henc) ?_
          rw [enc_app, show (enc v' * 38 + dg c) % 38 = dg c by omega, chr_dg hcN]
          refine Rn.castore (U.length + v'.length) k_130 rfl (s598 L) (rfl) (by omega) (by decide) (fit_c (by omega)) ?_
          refine Rn.lload k_130 rfl rfl ?_
          refine Rn.ldc2 38 k_130 rfl rfl ?_
          refine Rn.ldiv k_130 rfl (by decide) ?_
          rw [← enc_app, show (38 : Int64) = lN 38 from rfl, pk_lDiv henc (by decide) (by decide), enc_app, show (enc v' * 38 + dg c) / 38 = enc v' by omega]
          refine Rn.lstore4 k_130 rfl rfl ?_
          refine Rn.iinc6 (-1) k_130 rfl rfl rfl ?_
          refine Rn.goto 33 k_130 rfl rfl ?_
          rw [i_m1]
          refine ih v' hvl ⟨c :: u, by rw [hu, List.append_assoc]; rfl⟩ _ g0 (fun k hk => ?_) (fun k hk1 hk2 => ?_) (fun a k ha => ?_)
          · rw [up2_col _ _ (by omega)]; exact g1 k hk
          · by_cases e : k = v'.length
            · subst e
              rw [up2_same, hu, List.append_assoc, getD_appR (Nat.le_refl _), Nat.sub_self]
              rfl
            · rw [up2_col _ _ (by omega)]
              exact g2 k (by omega) hk2
          · rw [up2_row _ _ ha.2]; exact g3 a k ha
    refine Rn.istore6 k_130 rfl rfl ?_
    exact loop w.length w rfl ⟨[], by simp⟩ fi hU.1 hU.2 (fun k h1 h2 => by omega) (fun _ _ _ => rfl)
  · rw [nI_leI (by omega) (by omega)] at h1
    omega
end NM
end
section
/-! TestName.write, isOn -/
theorem psegs_len {ps : List (Nm × List Nm)} {w : Nat} (h1 : ∀ p ∈ ps, okV p.1 = true) (h2 : ∀ p, p < ps.length → okV (vsel ps w p) = true) : ∀ p, p ≤ ps.length → (psegs ps w p).length ≤ 26 * p
  | 0, _ => Nat.zero_le _
  | p + 1, h => by
    have i := psegs_len h1 h2 p (by omega)
    have e1 : okV (ps.getD p ([], [])).1 = true := by
      refine h1 _ ?_
      rw [List.getD_eq_getElem?_getD, List.getElem?_eq_getElem (by omega)]
      exact List.getElem_mem _
    have e1 := okV_len e1
    have e2 := okV_len (h2 p (by omega))
    show (psegs ps w p ++ pseg ps w p).length ≤ _
    rw [List.length_append]
    unfold pseg
    rw [List.length_cons, List.length_append, List.length_cons]
    omega
theorem vsel_ok {ss : List (Nm × List Nm)} {n : Nat} {k : KS} (hk : KOk ss n k) (w : Nat) {p : Nat} (hp : p < (k_ps k).length) : okV (vsel (k_ps k) w p) = true ∧ vsel (k_ps k) w p ≠ [] := by
  have hm : (k_ps k).getD p ([], []) ∈ k_ps k := by
    rw [List.getD_eq_getElem?_getD, List.getElem?_eq_getElem hp]
    exact List.getElem_mem _
  obtain ⟨-, -, h3, -, h5, -⟩ := hk.2.2.2.2.2.2.2.2.2.1 _ hm
  unfold vsel
  have hl : vturn (k_ps k) w p % ((k_ps k).getD p ([], [])).2.length < ((k_ps k).getD p ([], [])).2.length := Nat.mod_lt _ (by omega)
  rw [List.getD_eq_getElem?_getD (l := ((k_ps k).getD p ([], [])).2), List.getElem?_eq_getElem hl]
  exact h5 _ (List.getElem_mem hl)
theorem snm_ok {n : Nat} {A : AS} (hA : AOk n A) {su : Nat} (h : su ≤ A.1.length) (h0 : su ≠ 0) : okN (snm A.1 su) = true ∧ snm A.1 su ≠ [] := by
  match su, h, h0 with
  | 0, _, h0 => exact absurd rfl h0
  | s + 1, h, _ =>
    show okN (A.1.getD s ([], [])).1 = true ∧ (A.1.getD s ([], [])).1 ≠ []
    rw [List.getD_eq_getElem?_getD, List.getElem?_eq_getElem h]
    have := hA.2.1 _ (List.getElem_mem h)
    exact ⟨this.1, this.2.1⟩
section NM
variable {d L : Nat} {fi : Nat → Nat → Int32} {fl : Nat → Nat → Int64} {fr : Nat → Nat → Option Nat} {F G : Nat} {x : Nat → Nat} {n : Nat} {A : AS}
set_option maxHeartbeats 1000000 in
theorem ct_write (hF : FRok F G fr) (hS : FSr fi fl x n A) (hA : AOk n A) {i : Nat} (hi : i < A.2.1.length) {w : Nat} (hw : w < ways (k_ps (A.2.1.getD i dK))) : Rn (d + 2) 128 0 [some (.ref 597), some (.ref (25 + 14 * i)), some (.int (nI (totW (A.2.1.take i) + w))), none] [] (SH L, fi, fl, fr) (namQ L fi fl fr (tnm A.1 (A.2.1.getD i dK) w)) := by
  have hi4 : i < 40 := Nat.lt_of_lt_of_le hi hA.2.2.2.1
  have hC := hS.2.2.2.2.1 i hi
  have hk := hA.k hi
  have h9 := (hS.2.2.2.2.2 i hi).1
  have htw := Nat.le_trans (totW_take_le A.2.1 i) hA.2.2.2.2.2.1
  have hA1 := hA.1
  generalize A.2.1.getD i dK = k at hC hk hw ⊢
  have hways := hk.2.2.2.2.2.2.2.2.2.2.2
  have hsu := hk.1
  have hps := hk.2.2.2.2.2.2.2.2.1
  have hnm := okN_okV hk.2.1
  have hnl := okV_len hnm
  have hpn : ∀ p ∈ k_ps k, okV p.1 = true := fun p hp => okN_okV (hk.2.2.2.2.2.2.2.2.2.1 p hp).1
  have hvs : ∀ p, p < (k_ps k).length → okV (vsel (k_ps k) w p) = true := fun p hp => (vsel_ok hk w hp).1
  have pl := psegs_len hpn hvs
  have hpr : fi (25 + 14 * i + 3) 1 = nI (k_ps k).length := by rw [hC.2.2.2.2.2.2.2.2.2.2.2.1.1, List.length_map]
  generalize hB : (if k_su k = 0 then [] else snm A.1 (k_su k) ++ [46]) ++ k_nm k = B
  have hBl : B.length ≤ 25 := by
    rw [← hB, List.length_append]
    split
    · simp only [List.length_nil]; omega
    · rename_i h0
      have := okV_len (okN_okV (snm_ok hA hsu h0).1)
      rw [List.length_append]
      simp only [List.length_singleton]
      omega
  have frm : ∀ {gi : Nat → Nat → Int32}, (∀ a k, nmF a → gi a k = fi a k) → ∀ a q, a < 585 → gi a q = fi a q := fun h a q ha => h a q ⟨by omega, by omega⟩
  -- the loop over the parameters
  have loop : ∀ (m p : Nat) (gi : Nat → Nat → Int32), p + m = (k_ps k).length → NMr gi (B ++ psegs (k_ps k) w p) → (∀ a k, nmF a → gi a k = fi a k) → Rn (d + 2) 128 37 [some (.ref 597), some (.ref (25 + 14 * i)), some (.int (nI (totW (A.2.1.take i) + w))), some (.int (nI p))] [] (SH L, gi, fl, fr) (namQ L fi fl fr (tnm A.1 k w)) := by
    intro m
    induction m with
    | zero =>
      intro p gi hp hN hg
      have : p = (k_ps k).length := by omega
      subst this
      have ple := pl _ (Nat.le_refl _)
      refine Rn.iload_n k_128 rfl rfl ?_
      refine Rn.aload_n k_128 rfl rfl ?_
      refine Rn.getA k_128 rfl rfl (sk0 L hi4) (hF.k hi4 3 rfl) ?_
      refine Rn.getI k_128 rfl rfl (sk3 L hi4) ?_
      rw [frm hg _ _ (by omega), hpr]
      refine Rn.icmp_ge 97 k_128 rfl rfl (fun h2 => ?_) (fun h2 => ?_)
      · refine Rn.aload_n k_128 rfl rfl ?_
        refine Rn.getA k_128 rfl rfl (sk0 L hi4) (hF.k hi4 3 rfl) ?_
        refine Rn.getI k_128 rfl rfl (sk3 L hi4) ?_
        rw [frm hg _ _ (by omega), hpr]
        refine Rn.if_le 113 k_128 rfl rfl (fun h4 => ?_) (fun h4 => ?_)
        · rw [c_le 0 0 rfl (by omega) (by decide)] at h4
          refine Rn.retv k_128 rfl q_128 rfl ?_
          refine ⟨rfl, gi, rfl, ?_, hg⟩
          unfold tnm
          rw [if_pos (show (k_ps k).length = 0 by omega), List.append_nil, hB]
          exact hN
        · rw [c_le 0 0 rfl (by omega) (by decide)] at h4
          refine Rn.aload_n k_128 rfl rfl ?_
          refine Rn.bipush (93) k_128 rfl rfl ?_
          refine Rn.cV2 k_128 rfl rfl q_129 rfl (Nat.le_of_ble_eq_true rfl) (Nat.le_of_ble_eq_true rfl) (s597 L) (ct_addMark (c := 93) hF hN (by rw [List.length_append]; omega) (by decide)) (fun v h' hq => ?_)
          obtain ⟨rfl, g1, rfl, n1, f1⟩ := hq
          show Rn _ _ _ _ [] _ _
          refine Rn.retv k_128 rfl q_128 rfl ?_
          refine ⟨rfl, g1, rfl, ?_, fun a q ha => (f1 a q ha).trans (hg a q ha)⟩
          unfold tnm
          rw [if_neg (show ¬ (k_ps k).length = 0 by omega), hB]
          exact n1
      · rw [nI_leI (by omega) (by omega)] at h2
        omega
    | succ m ih =>
      intro p gi hp hN hg
      have hpl : p < (k_ps k).length := by omega
      have ple := pl p (by omega)
      have hm : (k_ps k).getD p ([], []) ∈ k_ps k := by
        rw [List.getD_eq_getElem?_getD, List.getElem?_eq_getElem hpl]
        exact List.getElem_mem _
      have hpo := hpn _ hm
      have hpo2 := okV_len hpo
      have hvo := hvs p hpl
      have hvo2 := okV_len hvo
      refine Rn.iload_n k_128 rfl rfl ?_
      refine Rn.aload_n k_128 rfl rfl ?_
      refine Rn.getA k_128 rfl rfl (sk0 L hi4) (hF.k hi4 3 rfl) ?_
      refine Rn.getI k_128 rfl rfl (sk3 L hi4) ?_
      rw [frm hg _ _ (by omega), hpr]
      refine Rn.icmp_ge 97 k_128 rfl rfl (fun h2 => ?_) (fun h2 => ?_)
      · rw [nI_leI (by omega) (by omega)] at h2
        omega
      · have mark : Rn (d + 2) 128 60 [some (.ref 597), some (.ref (25 + 14 * i)), some (.int (nI (totW (A.2.1.take i) + w))), some (.int (nI p))] [.int (nI (if p = 0 then 91 else 44)), .ref 597] (SH L, gi, fl, fr) (namQ L fi fl fr (tnm A.1 k w)) := by
          refine Rn.cV2 k_128 rfl rfl q_129 rfl (Nat.le_of_ble_eq_true rfl) (Nat.le_of_ble_eq_true rfl) (s597 L) (ct_addMark hF hN (by rw [List.length_append]; omega) (by split <;> decide)) (fun v h' hq => ?_)
          obtain ⟨rfl, g1, rfl, n1, f1⟩ := hq
          show Rn _ _ _ _ [] _ _
          have f1 : ∀ a q, nmF a → g1 a q = fi a q := fun a q ha => (f1 a q ha).trans (hg a q ha)
          have c12 : NRr g1 fl (25 + 14 * i + 3) (25 + 14 * i + 4) ((k_ps k).map (fun p => enc p.1)) := hC.2.2.2.2.2.2.2.2.2.2.2.1.keep (frm f1 _ _ (by omega)) (fun _ => rfl)
          refine Rn.aload_n k_128 rfl rfl ?_
          refine Rn.aload_n k_128 rfl rfl ?_
          refine Rn.getA k_128 rfl rfl (sk0 L hi4) (hF.k hi4 3 rfl) ?_
          refine Rn.iload_n k_128 rfl rfl ?_
          refine Rn.cV2L k_128 rfl rfl q_100 rfl (Nat.le_of_ble_eq_true rfl) (Nat.le_of_ble_eq_true rfl) (sk3 L hi4) (ct_at (sk3 L hi4) (sk4 L hi4) (hF.k hi4 2 rfl) (by decide) c12 (by rw [List.length_map]; exact hps) (by rw [List.length_map]; exact hpl)) ?_
          have ev : ((k_ps k).map (fun p => enc p.1)).getD p 0 = enc ((k_ps k).getD p ([], [])).1 := by
            rw [List.getD_eq_getElem?_getD, List.getElem?_map, List.getD_eq_getElem?_getD, List.getElem?_eq_getElem hpl]
            rfl
          rw [ev]
          refine Rn.cV2 k_128 rfl rfl q_130 rfl (Nat.le_of_ble_eq_true rfl) (Nat.le_of_ble_eq_true rfl) (s597 L) (ct_addName hF n1 hpo (by rw [List.length_append, List.length_append, List.length_singleton]; omega)) (fun v h' hq => ?_)
          obtain ⟨rfl, g2, rfl, n2, f2⟩ := hq
          show Rn _ _ _ _ [] _ _
          have f2 : ∀ a q, nmF a → g2 a q = fi a q := fun a q ha => (f2 a q ha).trans (f1 a q ha)
          refine Rn.aload_n k_128 rfl rfl ?_
          refine Rn.bipush (61) k_128 rfl rfl ?_
          refine Rn.cV2 k_128 rfl rfl q_129 rfl (Nat.le_of_ble_eq_true rfl) (Nat.le_of_ble_eq_true rfl) (s597 L) (ct_addMark (c := 61) hF n2 (by rw [List.length_append, List.length_append, List.length_append, List.length_singleton]; omega) (by decide)) (fun v h' hq => ?_)
          obtain ⟨rfl, g3, rfl, n3, f3⟩ := hq
          show Rn _ _ _ _ [] _ _
          have f3 : ∀ a q, nmF a → g3 a q = fi a q := fun a q ha => (f3 a q ha).trans (f2 a q ha)
          have hC3 : CKr g3 fl i k (snm A.1 (k_su k)) (stg A.1 (k_su k)) := hC.keep hps (fun a q u1 u2 => frm f3 a q (by omega)) (fun _ _ _ _ => rfl)
          refine Rn.aload_n k_128 rfl rfl ?_
          refine Rn.aload_n k_128 rfl rfl ?_
          refine Rn.iload_n k_128 rfl rfl ?_
          refine Rn.iload_n k_128 rfl rfl ?_
          refine Rn.cV3L k_128 rfl rfl q_75 rfl (Nat.le_of_ble_eq_true rfl) (Nat.le_of_ble_eq_true rfl) (sk0 L hi4) (ct_valueIn hF hi4 hC3 hps (fun p hp => ⟨(hk.2.2.2.2.2.2.2.2.2.1 p hp).2.2.1, (hk.2.2.2.2.2.2.2.2.2.1 p hp).2.2.2.1⟩) ((frm f3 _ _ (by omega)).trans h9) (by omega) hpl) ?_
          refine Rn.cV2 k_128 rfl rfl q_130 rfl (Nat.le_of_ble_eq_true rfl) (Nat.le_of_ble_eq_true rfl) (s597 L) (ct_addName hF n3 hvo (by simp only [List.length_append, List.length_singleton]; omega)) (fun v h' hq => ?_)
          obtain ⟨rfl, g4, rfl, n4, f4⟩ := hq
          show Rn _ _ _ _ [] _ _
          have f4 : ∀ a q, nmF a → g4 a q = fi a q := fun a q ha => (f4 a q ha).trans (f3 a q ha)
          refine Rn.iinc3 (1) k_128 rfl rfl rfl ?_
          rw [c_add 1 1 rfl]
          refine Rn.goto 37 k_128 rfl rfl ?_
          refine ih (p + 1) g4 (by omega) ?_ f4
          have : B ++ psegs (k_ps k) w (p + 1) = B ++ psegs (k_ps k) w p ++ [if p = 0 then 91 else 44] ++ ((k_ps k).getD p ([], [])).1 ++ [61] ++ vsel (k_ps k) w p := by
            show B ++ (psegs (k_ps k) w p ++ pseg (k_ps k) w p) = _
            unfold pseg
            simp only [List.append_assoc, List.cons_append, List.nil_append]
          rw [this]
          exact n4
        refine Rn.aload_n k_128 rfl rfl ?_
        refine Rn.iload_n k_128 rfl rfl ?_
        refine Rn.if_ne 58 k_128 rfl rfl (fun h3 => ?_) (fun h3 => ?_)
        · rw [c_eq 0 0 rfl (by omega) (by decide)] at h3
          rw [if_neg h3] at mark
          refine Rn.bipush (44) k_128 rfl rfl ?_
          exact mark
        · rw [c_eq 0 0 rfl (by omega) (by decide)] at h3
          rw [if_pos h3] at mark
          refine Rn.bipush (91) k_128 rfl rfl ?_
          refine Rn.goto 60 k_128 rfl rfl ?_
          exact mark
  have n0 : NMr (up2 fi 597 1 0) [] := ⟨rfl, fun k hk => absurd hk (Nat.not_lt_zero k)⟩
  have f0 : ∀ a q, nmF a → up2 fi 597 1 0 a q = fi a q := fun a q ha => up2_row _ _ ha.1
  -- behind the suite's name
  have second : ∀ (gi : Nat → Nat → Int32), NMr gi (if k_su k = 0 then [] else snm A.1 (k_su k) ++ [46]) → (∀ a k, nmF a → gi a k = fi a k) → Rn (d + 2) 128 27 [some (.ref 597), some (.ref (25 + 14 * i)), some (.int (nI (totW (A.2.1.take i) + w))), none] [] (SH L, gi, fl, fr) (namQ L fi fl fr (tnm A.1 k w)) := by
    intro gi hN hg
    refine Rn.aload_n k_128 rfl rfl ?_
    refine Rn.aload_n k_128 rfl rfl ?_
    refine Rn.getL k_128 rfl rfl (sk0 L hi4) ?_
    rw [hC.1]
    refine Rn.cV2 k_128 rfl rfl q_130 rfl (Nat.le_of_ble_eq_true rfl) (Nat.le_of_ble_eq_true rfl) (s597 L) (ct_addName hF hN hnm (by have := congrArg List.length hB; rw [List.length_append] at this; omega)) (fun v h' hq => ?_)
    obtain ⟨rfl, g1, rfl, n1, f1⟩ := hq
    show Rn _ _ _ _ [] _ _
    refine Rn.iconst (0) k_128 rfl rfl ?_
    refine Rn.istore_n3 k_128 rfl rfl ?_
    refine loop (k_ps k).length 0 g1 (Nat.zero_add _) ?_ (fun a q ha => (f1 a q ha).trans (hg a q ha))
    rw [hB] at n1
    show NMr g1 (B ++ [])
    rw [List.append_nil]
    exact n1
  refine Rn.aload_n k_128 rfl rfl ?_
  refine Rn.iconst (0) k_128 rfl rfl ?_
  refine Rn.putI k_128 rfl (rfl) (s597 L) ?_
  refine Rn.aload_n k_128 rfl rfl ?_
  refine Rn.getI k_128 rfl rfl (sk0 L hi4) ?_
  rw [frm f0 _ _ (by omega), hC.2.2.1]
  refine Rn.iconst (-1) k_128 rfl rfl ?_
  refine Rn.icmp_eq 27 k_128 rfl rfl (fun h1 => ?_) (fun h1 => ?_)
  · rw [sub1_m1 (by omega)] at h1
    exact second _ (by rw [if_pos h1]; exact n0) f0
  · rw [sub1_m1 (by omega)] at h1
    have hsn := okN_okV (snm_ok hA hsu h1).1
    have hsl := okV_len hsn
    refine Rn.aload_n k_128 rfl rfl ?_
    refine Rn.aload_n k_128 rfl rfl ?_
    refine Rn.getL k_128 rfl rfl (sk0 L hi4) ?_
    rw [hC.2.1]
    refine Rn.cV2 k_128 rfl rfl q_130 rfl (Nat.le_of_ble_eq_true rfl) (Nat.le_of_ble_eq_true rfl) (s597 L) (ct_addName (fi := up2 fi 597 1 0) hF n0 hsn (by simp only [List.length_nil]; omega)) (fun v h' hq => ?_)
    obtain ⟨rfl, g1, rfl, n1, f1⟩ := hq
    show Rn _ _ _ _ [] _ _
    refine Rn.aload_n k_128 rfl rfl ?_
    refine Rn.bipush (46) k_128 rfl rfl ?_
    refine Rn.cV2 k_128 rfl rfl q_129 rfl (Nat.le_of_ble_eq_true rfl) (Nat.le_of_ble_eq_true rfl) (s597 L) (ct_addMark (c := 46) hF n1 (by rw [List.nil_append]; omega) (by decide)) (fun v h' hq => ?_)
    obtain ⟨rfl, g2, rfl, n2, f2⟩ := hq
    show Rn _ _ _ _ [] _ _
    refine second g2 ?_ (fun a q ha => (f2 a q ha).trans ((f1 a q ha).trans (f0 a q ha)))
    rw [if_neg h1]
    rw [List.nil_append] at n2
    exact n2
theorem ct_isOn (hF : FRok F G fr) {U T : List Nat} (hU : NMr fi U) (hUl : U.length ≤ 130) (hUc : ∀ c ∈ U, c < 128) (hT : TPr fi T) (hO : TOk T) : Rn d 131 0 [some (.ref 597), some (.ref 17), none] [] (SH L, fi, fl, fr) (Ret (SH L, fi, fl, fr) (some (.int (bI (decide (U = T)))))) := by
  have hTl := hO.1
  refine Rn.aload_n k_131 rfl rfl ?_
  refine Rn.getI k_131 rfl rfl (s17 L) ?_
  refine Rn.aload_n k_131 rfl rfl ?_
  refine Rn.getI k_131 rfl rfl (s597 L) ?_
  rw [hT.1, hU.1]
  refine Rn.icmp_eq 13 k_131 rfl rfl (fun h1 => ?_) (fun h1 => ?_)
  · rw [nI_eq (by omega) (by omega)] at h1
    have loop : ∀ (m j : Nat), j + m = U.length → (∀ q, q < j → U.getD q 0 = T.getD q 0) → Rn d 131 15 [some (.ref 597), some (.ref 17), some (.int (nI j))] [] (SH L, fi, fl, fr) (Ret (SH L, fi, fl, fr) (some (.int (bI (decide (U = T)))))) := by
      intro m
      induction m with
      | zero =>
        intro j hj hq
        refine Rn.iload_n k_131 rfl rfl ?_
        refine Rn.aload_n k_131 rfl rfl ?_
        refine Rn.getI k_131 rfl rfl (s597 L) ?_
        rw [hU.1]
        refine Rn.icmp_ge 46 k_131 rfl rfl (fun h2 => ?_) (fun h2 => ?_)
        · refine Rn.iconst (1) k_131 rfl rfl ?_
          refine Rn.reti k_131 rfl q_131 rfl (rfl) ?_
          have : U = T := by
            apply List.ext_getElem h1.symm
            intro q q1 q2
            have := hq q (by omega)
            rw [List.getD_eq_getElem?_getD, List.getD_eq_getElem?_getD, List.getElem?_eq_getElem q1, List.getElem?_eq_getElem q2] at this
            exact this
          rw [decide_eq_true this]
          exact ⟨rfl, rfl⟩
        · rw [nI_leI (by omega) (by omega)] at h2
          omega
      | succ m ih =>
        intro j hj hq
        have hjl : j < U.length := by omega
        have hjt : j < T.length := by omega
        have c1 := hUc _ (getD_mem hjl)
        have c2 := (hO.2 _ (getD_mem hjt)).1
        refine Rn.iload_n k_131 rfl rfl ?_
        refine Rn.aload_n k_131 rfl rfl ?_
        refine Rn.getI k_131 rfl rfl (s597 L) ?_
        rw [hU.1]
        refine Rn.icmp_ge 46 k_131 rfl rfl (fun h2 => ?_) (fun h2 => ?_)
        · rw [nI_leI (by omega) (by omega)] at h2
          omega
        · refine Rn.aload_n k_131 rfl rfl ?_
          refine Rn.getA k_131 rfl rfl (s17 L) (hF.l 0 rfl) ?_
          refine Rn.iload_n k_131 rfl rfl ?_
          refine Rn.caload (j) k_131 rfl (s18 L) (rfl) (by omega) (by decide) ?_
          refine Rn.aload_n k_131 rfl rfl ?_
          refine Rn.getA k_131 rfl rfl (s597 L) (hF.l 23 rfl) ?_
          refine Rn.iload_n k_131 rfl rfl ?_
          refine Rn.caload (j) k_131 rfl (s598 L) (rfl) (by omega) (by decide) ?_
          rw [hU.2 j hjl, hT.2 j hjt]
          refine Rn.icmp_eq 40 k_131 rfl rfl (fun h3 => ?_) (fun h3 => ?_)
          · rw [nI_eq (by omega) (by omega)] at h3
            refine Rn.iinc2 (1) k_131 rfl rfl rfl ?_
            rw [c_add 1 1 rfl]
            refine Rn.goto 15 k_131 rfl rfl ?_
            refine ih (j + 1) (by omega) (fun q hq2 => ?_)
            by_cases e : q = j
            · rw [e]; exact h3.symm
            · exact hq q (by omega)
          · rw [nI_eq (by omega) (by omega)] at h3
            refine Rn.iconst (0) k_131 rfl rfl ?_
            refine Rn.reti k_131 rfl q_131 rfl (rfl) ?_
            rw [decide_eq_false (fun z => h3 (by rw [z]))]
            exact ⟨rfl, rfl⟩
    refine Rn.iconst (0) k_131 rfl rfl ?_
    refine Rn.istore_n2 k_131 rfl rfl ?_
    exact loop U.length 0 (Nat.zero_add _) (fun q hq => absurd hq (Nat.not_lt_zero q))
  · rw [nI_eq (by omega) (by omega)] at h1
    refine Rn.iconst (0) k_131 rfl rfl ?_
    refine Rn.reti k_131 rfl q_131 rfl (rfl) ?_
    rw [decide_eq_false (fun z => h1 (by rw [z]))]
    exact ⟨rfl, rfl⟩
end NM
end
section
/-! count, test, letter, reason, find, judge of the class -/
section SW
variable {d mid pc : Nat} {l : am_L} {r : List Value} {h : am_H} {Q : Option Value → am_H → Prop} {c : am_C} {r1 r2 : Nat}
theorem Rn.tsw {df lo hi : Int} {offs : Array Int} {x : Int32} (t j : Nat) (hc : am_code mid = c) (hf : am_find c pc = some (.tableswitch df lo hi offs, r1, r2)) (hj : j < 2 ^ 31) (hx : x = nI j) (ht : (if (j : Int) < lo ∨ hi < (j : Int) then am_tg pc df else am_tg pc (offs.getD ((j : Int) - lo).toNat 0)) = t) (k : Rn d mid t l r h Q) : Rn d mid pc l (.int x :: r) h Q := by
  subst hx
  refine Rn.go hc hf rfl ?_ k
  show some (if (nI j).toInt < lo ∨ hi < (nI j).toInt then am_tg pc df else am_tg pc (offs.getD ((nI j).toInt - lo).toNat 0), l, r, h) = _
  rw [nI_toInt hj, ht]
theorem Rn.tswo {df lo hi : Int} {offs : Array Int} {x : Int32} (t : Nat) (hc : am_code mid = c) (hf : am_find c pc = some (.tableswitch df lo hi offs, r1, r2)) (hx : x.toInt < lo ∨ hi < x.toInt) (ht : am_tg pc df = t) (k : Rn d mid t l r h Q) : Rn d mid pc l (.int x :: r) h Q := by
  refine Rn.go hc hf rfl ?_ k
  show some (if x.toInt < lo ∨ hi < x.toInt then am_tg pc df else am_tg pc (offs.getD (x.toInt - lo).toNat 0), l, r, h) = _
  rw [if_pos hx, ht]
theorem Rn.lks {df : Int} {ps : Array (Int × Int)} {x : Int32} (t j : Nat) (hc : am_code mid = c) (hf : am_find c pc = some (.lookupswitch df ps, r1, r2)) (hj : j < 2 ^ 31) (hx : x = nI j) (ht : am_tg pc (Op.lookupswitch.offset ps.toList df (j : Int)) = t) (k : Rn d mid t l r h Q) : Rn d mid pc l (.int x :: r) h Q := by
  subst hx
  refine Rn.go hc hf rfl ?_ k
  show some (am_tg pc (Op.lookupswitch.offset ps.toList df (nI j).toInt), l, r, h) = _
  rw [nI_toInt hj, ht]
theorem lks_no {df k : Int} : ∀ {ps : List (Int × Int)}, (∀ q ∈ ps, q.1 ≠ k) → Op.lookupswitch.offset ps df k = df
  | [], _ => rfl
  | (a, o) :: ps, h => by
    rw [Op.lookupswitch.offset_cons, if_neg (h (a, o) (by simp))]
    exact lks_no (fun q hq => h q (List.mem_cons_of_mem _ hq))
theorem Rn.lkso {df : Int} {ps : Array (Int × Int)} {x : Int32} (t : Nat) (hc : am_code mid = c) (hf : am_find c pc = some (.lookupswitch df ps, r1, r2)) (hx : ∀ q ∈ ps.toList, q.1 ≠ x.toInt) (ht : am_tg pc df = t) (k : Rn d mid t l r h Q) : Rn d mid pc l (.int x :: r) h Q := by
  refine Rn.go hc hf rfl ?_ k
  show some (am_tg pc (Op.lookupswitch.offset ps.toList df x.toInt), l, r, h) = _
  rw [lks_no hx, ht]
end SW
/-- an int as a choice -/
def wt (x : Int32) : Nat := if x < 0 then 99 else x.toNatClampNeg
theorem wt_of (x : Int32) : (∃ j, j < 2 ^ 31 ∧ x = nI j ∧ wt x = j) ∨ (x < 0 ∧ wt x = 99 ∧ x.toInt < 0) := by
  by_cases h : x < 0
  · right
    refine ⟨h, if_pos h, ?_⟩
    have := Int32.lt_iff_toInt_lt.mp h
    simpa using this
  · left
    obtain ⟨j, hj, rfl⟩ := nI_of h
    exact ⟨j, hj, rfl, by unfold wt; rw [if_neg h, nI_clamp hj]⟩
/-- which case and which way a test is -/
def tix : List KS → Nat → Nat × Nat
  | [], t => (0, t)
  | k :: ks, t => if t < ways (k_ps k) then (0, t) else ((tix ks (t - ways (k_ps k))).1 + 1, (tix ks (t - ways (k_ps k))).2)
theorem tix_ok : ∀ (ks : List KS) (t : Nat), t < totW ks → (tix ks t).1 < ks.length ∧ (tix ks t).2 < ways (k_ps (ks.getD (tix ks t).1 dK)) ∧ totW (ks.take (tix ks t).1) + (tix ks t).2 = t
  | [], t, h => absurd h (Nat.not_lt_zero t)
  | k :: ks, t, h => by
    unfold tix
    have e : totW (k :: ks) = ways (k_ps k) + totW ks := by unfold totW; simp
    by_cases hl : t < ways (k_ps k)
    · rw [if_pos hl]
      exact ⟨by simp, hl, by show totW [] + t = t; exact Nat.zero_add t⟩
    · rw [if_neg hl]
      obtain ⟨i1, i2, i3⟩ := tix_ok ks (t - ways (k_ps k)) (by omega)
      refine ⟨by simp only [List.length_cons]; omega, ?_, ?_⟩
      · rw [List.getD_cons_succ]; exact i2
      · rw [List.take_succ_cons]
        have e2 : totW (k :: ks.take (tix ks (t - ways (k_ps k))).1) = ways (k_ps k) + totW (ks.take (tix ks (t - ways (k_ps k))).1) := by unfold totW; simp
        rw [e2]
        show ways (k_ps k) + _ + _ = t
        omega
def tno (A : AS) (x : Int32) : Option Nat := if x < 0 then none else if x.toNatClampNeg < totW A.2.1 then some x.toNatClampNeg else none
theorem tno_of (A : AS) (h : totW A.2.1 < 2 ^ 31) (x : Int32) : (tno A x = none ∧ decide (¬ x < 0 ∧ x < nI (totW A.2.1)) = false) ∨ ∃ t, t < totW A.2.1 ∧ x = nI t ∧ tno A x = some t ∧ decide (¬ x < 0 ∧ x < nI (totW A.2.1)) = true := by
  unfold tno
  by_cases h0 : x < 0
  · left
    rw [if_pos h0]
    exact ⟨rfl, decide_eq_false (fun z => z.1 h0)⟩
  · rw [if_neg h0]
    obtain ⟨j, hj, rfl⟩ := nI_of h0
    rw [nI_clamp hj]
    by_cases hl : j < totW A.2.1
    · right
      rw [if_pos hl]
      exact ⟨j, hl, rfl, rfl, decide_eq_true ⟨h0, (nI_ltI hj h).mpr hl⟩⟩
    · left
      rw [if_neg hl]
      exact ⟨rfl, decide_eq_false (fun z => hl ((nI_ltI hj h).mp z.2))⟩
/-- what is told of a test -/
def tstW (A : AS) (x y : Int32) : Int32 := match tno A x with
  | none => -1
  | some t => match wt y with
    | 0 => nI (tix A.2.1 t).1
    | 1 => nI (k_su (A.2.1.getD (tix A.2.1 t).1 dK)) - 1
    | 2 => nI (if k_sz (A.2.1.getD (tix A.2.1 t).1 dK) = 0 then 1 else k_sz (A.2.1.getD (tix A.2.1 t).1 dK))
    | 3 => bI (k_rs (A.2.1.getD (tix A.2.1 t).1 dK)).isSome
    | 4 => bI (k_fl (A.2.1.getD (tix A.2.1 t).1 dK))
    | 5 => nI (atg A.1 (A.2.1.getD (tix A.2.1 t).1 dK)).length
    | 6 => nI (k_ps (A.2.1.getD (tix A.2.1 t).1 dK)).length
    | 7 => nI (tnm A.1 (A.2.1.getD (tix A.2.1 t).1 dK) (tix A.2.1 t).2).length
    | 8 => nI (k_ln (A.2.1.getD (tix A.2.1 t).1 dK))
    | _ => -1
def cntW (A : AS) (y : Int32) : Int32 := match wt y with
  | 0 => nI A.1.length
  | 1 => nI A.2.1.length
  | 2 => nI (totW A.2.1)
  | _ => -1
def ltrW (A : AS) (x y : Int32) : Int32 := match tno A x with
  | none => -1
  | some t => if y < 0 then -1 else if y.toNatClampNeg < (tnm A.1 (A.2.1.getD (tix A.2.1 t).1 dK) (tix A.2.1 t).2).length then nI ((tnm A.1 (A.2.1.getD (tix A.2.1 t).1 dK) (tix A.2.1 t).2).getD y.toNatClampNeg 0) else -1
def rsnW (x : Nat → Nat) (A : AS) (t y : Int32) : Int32 := match tno A t with
  | none => -1
  | some t => match k_rs (A.2.1.getD (tix A.2.1 t).1 dK) with
    | none => -1
    | some r => if y < 0 then -1 else if y.toNatClampNeg < r.2 - r.1 then nI (x (r.1 + y.toNatClampNeg)) else -1
def jdgW (A : AS) (t y : Int32) : Int32 := match tno A t with
  | none => -1
  | some t => if (k_rs (A.2.1.getD (tix A.2.1 t).1 dK)).isSome = true then 3 else if k_fl (A.2.1.getD (tix A.2.1 t).1 dK) = true then (if y = 0 then 1 else 4) else (if y = 0 then 2 else 0)
/-- the first test from t on whose name is T, m tests being left -/
def fndW (A : AS) (T : List Nat) : Nat → Nat → Int32
  | 0, _ => -1
  | m + 1, t => if tnm A.1 (A.2.1.getD (tix A.2.1 t).1 dK) (tix A.2.1 t).2 = T then nI t else fndW A T m (t + 1)
section QY
variable {d L : Nat} {fi : Nat → Nat → Int32} {fl : Nat → Nat → Int64} {fr : Nat → Nat → Option Nat} {F G : Nat} {x : Nat → Nat} {n : Nat} {A : AS}
theorem tnm_len (hA : AOk n A) {i : Nat} (hi : i < A.2.1.length) (w : Nat) : (tnm A.1 (A.2.1.getD i dK) w).length ≤ 130 := by
  have hk := hA.k hi
  generalize A.2.1.getD i dK = k at hk
  have hps := hk.2.2.2.2.2.2.2.2.1
  have hnl := okV_len (okN_okV hk.2.1)
  have pl := psegs_len (w := w) (fun p hp => okN_okV (hk.2.2.2.2.2.2.2.2.2.1 p hp).1) (fun p hp => (vsel_ok hk w hp).1) _ (Nat.le_refl _)
  unfold tnm
  rw [List.length_append, List.length_append, List.length_append]
  have h1 : (if k_su k = 0 then [] else snm A.1 (k_su k) ++ [46]).length ≤ 13 := by
    split
    · exact Nat.zero_le _
    · rename_i h0
      have := okV_len (okN_okV (snm_ok hA hk.1 h0).1)
      rw [List.length_append]
      exact Nat.succ_le_succ this
  have h2 : (if (k_ps k).length = 0 then [] else [93]).length ≤ 1 := by split <;> simp
  omega
theorem isN_lt {c : Nat} (h : isN c = true) : c < 128 := by
  have := chr_dg h
  have hd := dg_lt c
  unfold chr at this
  split at this
  · omega
  · split at this <;> omega
theorem psegs_chr {ps : List (Nm × List Nm)} {w : Nat} (h1 : ∀ p ∈ ps, okV p.1 = true) (h2 : ∀ p, p < ps.length → okV (vsel ps w p) = true) : ∀ p, p ≤ ps.length → ∀ c ∈ psegs ps w p, c < 128
  | 0, _, c, hc => by cases hc
  | p + 1, h, c, hc => by
    rcases List.mem_append.mp hc with z | z
    · exact psegs_chr h1 h2 p (by omega) c z
    · have e1 : okV (ps.getD p ([], [])).1 = true := by
        refine h1 _ ?_
        rw [List.getD_eq_getElem?_getD, List.getElem?_eq_getElem (by omega)]
        exact List.getElem_mem _
      unfold pseg at z
      rcases List.mem_cons.mp z with z | z
      · rw [z]; split <;> decide
      · rcases List.mem_append.mp z with z | z
        · exact isN_lt (okV_isN e1 c z)
        · rcases List.mem_cons.mp z with z | z
          · rw [z]; decide
          · exact isN_lt (okV_isN (h2 p (by omega)) c z)
theorem tnm_chr (hA : AOk n A) {i : Nat} (hi : i < A.2.1.length) (w : Nat) : ∀ c ∈ tnm A.1 (A.2.1.getD i dK) w, c < 128 := by
  have hk := hA.k hi
  generalize A.2.1.getD i dK = k at hk
  intro c hc
  unfold tnm at hc
  rcases List.mem_append.mp hc with hc | hc
  · rcases List.mem_append.mp hc with hc | hc
    · rcases List.mem_append.mp hc with hc | hc
      · split at hc
        · cases hc
        · rename_i h0
          rcases List.mem_append.mp hc with hc | hc
          · exact isN_lt (okV_isN (okN_okV (snm_ok hA hk.1 h0).1) c hc)
          · rw [List.mem_singleton.mp hc]; decide
      · exact isN_lt (okV_isN (okN_okV hk.2.1) c hc)
    · exact psegs_chr (fun p hp => okN_okV (hk.2.2.2.2.2.2.2.2.2.1 p hp).1) (fun p hp => (vsel_ok hk w hp).1) _ (Nat.le_refl _) c hc
  · split at hc
    · cases hc
    · rw [List.mem_singleton.mp hc]; decide
theorem ct_count (hF : FRok F G fr) (hS : FSr fi fl x n A) {y : Int32} : Rn d 4 0 [some (.ref 16), some (.int y)] [] (SH L, fi, fl, fr) (Ret (SH L, fi, fl, fr) (some (.int (cntW A y)))) := by
  have hs : fi 21 1 = nI A.1.length := by rw [hS.2.1.1, List.length_map]
  have out : (y.toInt < 0 ∨ 2 < y.toInt) → cntW A y = -1 → Rn d 4 0 [some (.ref 16), some (.int y)] [] (SH L, fi, fl, fr) (Ret (SH L, fi, fl, fr) (some (.int (cntW A y)))) := by
    intro h1 h2
    refine Rn.iload_n k_4 rfl rfl ?_
    refine Rn.tswo 55 k_4 rfl (h1) rfl ?_
    refine Rn.iconst (-1) k_4 rfl rfl ?_
    refine Rn.reti k_4 rfl q_4 rfl (rfl) ?_
    exact ⟨by rw [h2], rfl⟩
  rcases wt_of y with ⟨j, hj, rfl, hw⟩ | ⟨h1, h2, h3⟩
  · match j, hj, hw, out with
    | 0, _, _, _ =>
      refine Rn.iload_n k_4 rfl rfl ?_
      refine Rn.tsw 28 (0) k_4 rfl (by decide) (rfl) rfl ?_
      refine Rn.aload_n k_4 rfl rfl ?_
      refine Rn.getA k_4 rfl rfl (s16 L) (hF.l 7 rfl) ?_
      refine Rn.getA k_4 rfl rfl (s19 L) (hF.l 4 rfl) ?_
      refine Rn.getI k_4 rfl rfl (s21 L) ?_
      rw [hs]
      refine Rn.reti k_4 rfl q_4 rfl (rfl) ?_
      exact ⟨rfl, rfl⟩
    | 1, _, _, _ =>
      refine Rn.iload_n k_4 rfl rfl ?_
      refine Rn.tsw 39 (1) k_4 rfl (by decide) (rfl) rfl ?_
      refine Rn.aload_n k_4 rfl rfl ?_
      refine Rn.getA k_4 rfl rfl (s16 L) (hF.l 7 rfl) ?_
      refine Rn.getI k_4 rfl rfl (s19 L) ?_
      rw [hS.2.2.1]
      refine Rn.reti k_4 rfl q_4 rfl (rfl) ?_
      exact ⟨rfl, rfl⟩
    | 2, _, _, _ =>
      refine Rn.iload_n k_4 rfl rfl ?_
      refine Rn.tsw 47 (2) k_4 rfl (by decide) (rfl) rfl ?_
      refine Rn.aload_n k_4 rfl rfl ?_
      refine Rn.getA k_4 rfl rfl (s16 L) (hF.l 7 rfl) ?_
      refine Rn.getI k_4 rfl rfl (s19 L) ?_
      rw [hS.2.2.2.1]
      refine Rn.reti k_4 rfl q_4 rfl (rfl) ?_
      exact ⟨rfl, rfl⟩
    | j + 3, hj, hw, out => exact out (Or.inr (by rw [nI_toInt hj]; omega)) (by unfold cntW; rw [hw]; rfl)
  · exact out (Or.inl h3) (by unfold cntW; rw [h2]; rfl)
end QY
end
