section
-- ===== PART A: goes FIRST, ahead of the names: the tables' words, and 'selects' of the private methods out of them =====
/-- a private method of a class that the tables say can be made, by its rows of tables_1 -/
def lw_okq (q : MethodName × Nat) : Prop := (q.1.cls ≠ "java/lang/invoke/MethodHandle" ∧ q.1.cls ≠ "java/lang/invoke/VarHandle") ∧ Cond.instantiable q.1.cls q.2 ∈ tables_1 ∧ Cond.privateMethod q.1 ∈ tables_1 ∧ Cond.instanceMethod q.1 ∈ tables_1
theorem lw_p0 : lw_okq (⟨"LawWorlds$History", "dropOldest", "()V"⟩, 4) := ⟨⟨by decide +kernel, by decide +kernel⟩, List.mem_of_getElem? (i := 54) (by decide +kernel), List.mem_of_getElem? (i := 269) (by decide +kernel), List.mem_of_getElem? (i := 270) (by decide +kernel)⟩
theorem lw_p1 : lw_okq (⟨"LawWorlds", "isThing", "(I)Z"⟩, 8) := ⟨⟨by decide +kernel, by decide +kernel⟩, List.mem_of_getElem? (i := 15) (by decide +kernel), List.mem_of_getElem? (i := 281) (by decide +kernel), List.mem_of_getElem? (i := 282) (by decide +kernel)⟩
theorem lw_p2 : lw_okq (⟨"LawWorlds", "changeTo", "(I)I"⟩, 8) := ⟨⟨by decide +kernel, by decide +kernel⟩, List.mem_of_getElem? (i := 15) (by decide +kernel), List.mem_of_getElem? (i := 294) (by decide +kernel), List.mem_of_getElem? (i := 295) (by decide +kernel)⟩
theorem lw_p3 : lw_okq (⟨"LawWorlds$Reader", "beginSide", "(Z)V"⟩, 8) := ⟨⟨by decide +kernel, by decide +kernel⟩, List.mem_of_getElem? (i := 193) (by decide +kernel), List.mem_of_getElem? (i := 329) (by decide +kernel), List.mem_of_getElem? (i := 330) (by decide +kernel)⟩
theorem lw_p4 : lw_okq (⟨"LawWorlds$Reader", "accept", "(C)Z"⟩, 8) := ⟨⟨by decide +kernel, by decide +kernel⟩, List.mem_of_getElem? (i := 193) (by decide +kernel), List.mem_of_getElem? (i := 333) (by decide +kernel), List.mem_of_getElem? (i := 334) (by decide +kernel)⟩
theorem lw_p5 : lw_okq (⟨"LawWorlds$Reader", "addLetter", "(I)Z"⟩, 8) := ⟨⟨by decide +kernel, by decide +kernel⟩, List.mem_of_getElem? (i := 193) (by decide +kernel), List.mem_of_getElem? (i := 337) (by decide +kernel), List.mem_of_getElem? (i := 338) (by decide +kernel)⟩
theorem lw_p6 : lw_okq (⟨"LawWorlds$Reader", "addStep", "(I)V"⟩, 8) := ⟨⟨by decide +kernel, by decide +kernel⟩, List.mem_of_getElem? (i := 193) (by decide +kernel), List.mem_of_getElem? (i := 341) (by decide +kernel), List.mem_of_getElem? (i := 342) (by decide +kernel)⟩
theorem lw_p7 : lw_okq (⟨"LawWorlds$Reader", "endPart", "()V"⟩, 8) := ⟨⟨by decide +kernel, by decide +kernel⟩, List.mem_of_getElem? (i := 193) (by decide +kernel), List.mem_of_getElem? (i := 345) (by decide +kernel), List.mem_of_getElem? (i := 346) (by decide +kernel)⟩
theorem lw_p8 : lw_okq (⟨"LawWorlds$Reader", "openBracket", "()Z"⟩, 8) := ⟨⟨by decide +kernel, by decide +kernel⟩, List.mem_of_getElem? (i := 193) (by decide +kernel), List.mem_of_getElem? (i := 349) (by decide +kernel), List.mem_of_getElem? (i := 350) (by decide +kernel)⟩
theorem lw_p9 : lw_okq (⟨"LawWorlds$Reader", "closeBracket", "()Z"⟩, 8) := ⟨⟨by decide +kernel, by decide +kernel⟩, List.mem_of_getElem? (i := 193) (by decide +kernel), List.mem_of_getElem? (i := 353) (by decide +kernel), List.mem_of_getElem? (i := 354) (by decide +kernel)⟩
theorem lw_p10 : lw_okq (⟨"LawWorlds$Reader", "endLeft", "()Z"⟩, 8) := ⟨⟨by decide +kernel, by decide +kernel⟩, List.mem_of_getElem? (i := 193) (by decide +kernel), List.mem_of_getElem? (i := 357) (by decide +kernel), List.mem_of_getElem? (i := 358) (by decide +kernel)⟩
theorem lw_p11 : lw_okq (⟨"LawWorlds$Reader", "isSideWhole", "()Z"⟩, 8) := ⟨⟨by decide +kernel, by decide +kernel⟩, List.mem_of_getElem? (i := 193) (by decide +kernel), List.mem_of_getElem? (i := 361) (by decide +kernel), List.mem_of_getElem? (i := 362) (by decide +kernel)⟩
theorem lw_p12 : lw_okq (⟨"LawWorlds$Reader", "endLaw", "()Z"⟩, 8) := ⟨⟨by decide +kernel, by decide +kernel⟩, List.mem_of_getElem? (i := 193) (by decide +kernel), List.mem_of_getElem? (i := 365) (by decide +kernel), List.mem_of_getElem? (i := 366) (by decide +kernel)⟩
theorem lw_p13 : lw_okq (⟨"LawWorlds$PlainWorlds", "add", "(II[J)V"⟩, 4) := ⟨⟨by decide +kernel, by decide +kernel⟩, List.mem_of_getElem? (i := 150) (by decide +kernel), List.mem_of_getElem? (i := 444) (by decide +kernel), List.mem_of_getElem? (i := 445) (by decide +kernel)⟩
theorem lw_p14 : lw_okq (⟨"LawWorlds$Search", "demand", "(LLawWorlds$State;I)V"⟩, 7) := ⟨⟨by decide +kernel, by decide +kernel⟩, List.mem_of_getElem? (i := 142) (by decide +kernel), List.mem_of_getElem? (i := 452) (by decide +kernel), List.mem_of_getElem? (i := 453) (by decide +kernel)⟩
theorem lw_p15 : lw_okq (⟨"LawWorlds$Search", "countBroken", "(LLawWorlds$Law;)V"⟩, 7) := ⟨⟨by decide +kernel, by decide +kernel⟩, List.mem_of_getElem? (i := 142) (by decide +kernel), List.mem_of_getElem? (i := 456) (by decide +kernel), List.mem_of_getElem? (i := 457) (by decide +kernel)⟩
def lw_privs_1 : List (MethodName × Nat) := [(⟨"LawWorlds$History", "dropOldest", "()V"⟩, 4), (⟨"LawWorlds", "isThing", "(I)Z"⟩, 8), (⟨"LawWorlds", "changeTo", "(I)I"⟩, 8), (⟨"LawWorlds$Reader", "beginSide", "(Z)V"⟩, 8), (⟨"LawWorlds$Reader", "accept", "(C)Z"⟩, 8), (⟨"LawWorlds$Reader", "addLetter", "(I)Z"⟩, 8), (⟨"LawWorlds$Reader", "addStep", "(I)V"⟩, 8), (⟨"LawWorlds$Reader", "endPart", "()V"⟩, 8), (⟨"LawWorlds$Reader", "openBracket", "()Z"⟩, 8), (⟨"LawWorlds$Reader", "closeBracket", "()Z"⟩, 8), (⟨"LawWorlds$Reader", "endLeft", "()Z"⟩, 8), (⟨"LawWorlds$Reader", "isSideWhole", "()Z"⟩, 8), (⟨"LawWorlds$Reader", "endLaw", "()Z"⟩, 8), (⟨"LawWorlds$PlainWorlds", "add", "(II[J)V"⟩, 4), (⟨"LawWorlds$Search", "demand", "(LLawWorlds$State;I)V"⟩, 7), (⟨"LawWorlds$Search", "countBroken", "(LLawWorlds$Law;)V"⟩, 7)]
theorem lw_r1 : ∀ q ∈ lw_privs_1, lw_okq q := List.forall_mem_cons.mpr ⟨lw_p0, List.forall_mem_cons.mpr ⟨lw_p1, List.forall_mem_cons.mpr ⟨lw_p2, List.forall_mem_cons.mpr ⟨lw_p3, List.forall_mem_cons.mpr ⟨lw_p4, List.forall_mem_cons.mpr ⟨lw_p5, List.forall_mem_cons.mpr ⟨lw_p6, List.forall_mem_cons.mpr ⟨lw_p7, List.forall_mem_cons.mpr ⟨lw_p8, List.forall_mem_cons.mpr ⟨lw_p9, List.forall_mem_cons.mpr ⟨lw_p10, List.forall_mem_cons.mpr ⟨lw_p11, List.forall_mem_cons.mpr ⟨lw_p12, List.forall_mem_cons.mpr ⟨lw_p13, List.forall_mem_cons.mpr ⟨lw_p14, List.forall_mem_cons.mpr ⟨lw_p15, fun _ h => absurd h List.not_mem_nil⟩⟩⟩⟩⟩⟩⟩⟩⟩⟩⟩⟩⟩⟩⟩⟩
theorem lw_p16 : lw_okq (⟨"LawWorlds$Bench", "fillLetters", "()V"⟩, 5) := ⟨⟨by decide +kernel, by decide +kernel⟩, List.mem_of_getElem? (i := 120) (by decide +kernel), List.mem_of_getElem? (i := 473) (by decide +kernel), List.mem_of_getElem? (i := 474) (by decide +kernel)⟩
theorem lw_p17 : lw_okq (⟨"LawWorlds$Bench", "join", "(II)V"⟩, 5) := ⟨⟨by decide +kernel, by decide +kernel⟩, List.mem_of_getElem? (i := 120) (by decide +kernel), List.mem_of_getElem? (i := 481) (by decide +kernel), List.mem_of_getElem? (i := 482) (by decide +kernel)⟩
theorem lw_p18 : lw_okq (⟨"LawWorlds$Search", "isAmongFirst", "(I)Z"⟩, 7) := ⟨⟨by decide +kernel, by decide +kernel⟩, List.mem_of_getElem? (i := 142) (by decide +kernel), List.mem_of_getElem? (i := 499) (by decide +kernel), List.mem_of_getElem? (i := 500) (by decide +kernel)⟩
theorem lw_p19 : lw_okq (⟨"LawWorlds$Search", "isModel", "(I)Z"⟩, 7) := ⟨⟨by decide +kernel, by decide +kernel⟩, List.mem_of_getElem? (i := 142) (by decide +kernel), List.mem_of_getElem? (i := 503) (by decide +kernel), List.mem_of_getElem? (i := 504) (by decide +kernel)⟩
theorem lw_p20 : lw_okq (⟨"LawWorlds$Search", "tell", "(II)V"⟩, 7) := ⟨⟨by decide +kernel, by decide +kernel⟩, List.mem_of_getElem? (i := 142) (by decide +kernel), List.mem_of_getElem? (i := 507) (by decide +kernel), List.mem_of_getElem? (i := 508) (by decide +kernel)⟩
theorem lw_p21 : lw_okq (⟨"LawWorlds", "countHolding", "(Z)I"⟩, 8) := ⟨⟨by decide +kernel, by decide +kernel⟩, List.mem_of_getElem? (i := 15) (by decide +kernel), List.mem_of_getElem? (i := 574) (by decide +kernel), List.mem_of_getElem? (i := 575) (by decide +kernel)⟩
theorem lw_p22 : lw_okq (⟨"LawWorlds", "brokenNow", "(LLawWorlds$Law;)I"⟩, 8) := ⟨⟨by decide +kernel, by decide +kernel⟩, List.mem_of_getElem? (i := 15) (by decide +kernel), List.mem_of_getElem? (i := 579) (by decide +kernel), List.mem_of_getElem? (i := 580) (by decide +kernel)⟩
theorem lw_p23 : lw_okq (⟨"LawWorlds", "sameCases", "(IILLawWorlds$Law;)I"⟩, 8) := ⟨⟨by decide +kernel, by decide +kernel⟩, List.mem_of_getElem? (i := 15) (by decide +kernel), List.mem_of_getElem? (i := 651) (by decide +kernel), List.mem_of_getElem? (i := 652) (by decide +kernel)⟩
theorem lw_p24 : lw_okq (⟨"LawWorlds", "countFollowing", "()I"⟩, 8) := ⟨⟨by decide +kernel, by decide +kernel⟩, List.mem_of_getElem? (i := 15) (by decide +kernel), List.mem_of_getElem? (i := 663) (by decide +kernel), List.mem_of_getElem? (i := 664) (by decide +kernel)⟩
theorem lw_p25 : lw_okq (⟨"LawWorldsModel", "plainOf", "(II)I"⟩, 23) := ⟨⟨by decide +kernel, by decide +kernel⟩, List.mem_of_getElem? (i := 667) (by decide +kernel), List.mem_of_getElem? (i := 679) (by decide +kernel), List.mem_of_getElem? (i := 680) (by decide +kernel)⟩
theorem lw_p26 : lw_okq (⟨"LawWorldsModel", "unfolds", "(II)V"⟩, 23) := ⟨⟨by decide +kernel, by decide +kernel⟩, List.mem_of_getElem? (i := 667) (by decide +kernel), List.mem_of_getElem? (i := 683) (by decide +kernel), List.mem_of_getElem? (i := 684) (by decide +kernel)⟩
theorem lw_p27 : lw_okq (⟨"LawWorldsModel", "codeBy", "(II)I"⟩, 23) := ⟨⟨by decide +kernel, by decide +kernel⟩, List.mem_of_getElem? (i := 667) (by decide +kernel), List.mem_of_getElem? (i := 690) (by decide +kernel), List.mem_of_getElem? (i := 691) (by decide +kernel)⟩
theorem lw_p28 : lw_okq (⟨"LawWorldsModel", "remember", "()V"⟩, 23) := ⟨⟨by decide +kernel, by decide +kernel⟩, List.mem_of_getElem? (i := 667) (by decide +kernel), List.mem_of_getElem? (i := 778) (by decide +kernel), List.mem_of_getElem? (i := 779) (by decide +kernel)⟩
theorem lw_p29 : lw_okq (⟨"LawWorldsModel", "acted", "(I)I"⟩, 23) := ⟨⟨by decide +kernel, by decide +kernel⟩, List.mem_of_getElem? (i := 667) (by decide +kernel), List.mem_of_getElem? (i := 782) (by decide +kernel), List.mem_of_getElem? (i := 783) (by decide +kernel)⟩
theorem lw_p30 : lw_okq (⟨"LawWorldsModel", "isThing", "(I)Z"⟩, 23) := ⟨⟨by decide +kernel, by decide +kernel⟩, List.mem_of_getElem? (i := 667) (by decide +kernel), List.mem_of_getElem? (i := 790) (by decide +kernel), List.mem_of_getElem? (i := 791) (by decide +kernel)⟩
theorem lw_p31 : lw_okq (⟨"LawWorldsModel", "becomes", "(I)I"⟩, 23) := ⟨⟨by decide +kernel, by decide +kernel⟩, List.mem_of_getElem? (i := 667) (by decide +kernel), List.mem_of_getElem? (i := 797) (by decide +kernel), List.mem_of_getElem? (i := 798) (by decide +kernel)⟩
def lw_privs_2 : List (MethodName × Nat) := [(⟨"LawWorlds$Bench", "fillLetters", "()V"⟩, 5), (⟨"LawWorlds$Bench", "join", "(II)V"⟩, 5), (⟨"LawWorlds$Search", "isAmongFirst", "(I)Z"⟩, 7), (⟨"LawWorlds$Search", "isModel", "(I)Z"⟩, 7), (⟨"LawWorlds$Search", "tell", "(II)V"⟩, 7), (⟨"LawWorlds", "countHolding", "(Z)I"⟩, 8), (⟨"LawWorlds", "brokenNow", "(LLawWorlds$Law;)I"⟩, 8), (⟨"LawWorlds", "sameCases", "(IILLawWorlds$Law;)I"⟩, 8), (⟨"LawWorlds", "countFollowing", "()I"⟩, 8), (⟨"LawWorldsModel", "plainOf", "(II)I"⟩, 23), (⟨"LawWorldsModel", "unfolds", "(II)V"⟩, 23), (⟨"LawWorldsModel", "codeBy", "(II)I"⟩, 23), (⟨"LawWorldsModel", "remember", "()V"⟩, 23), (⟨"LawWorldsModel", "acted", "(I)I"⟩, 23), (⟨"LawWorldsModel", "isThing", "(I)Z"⟩, 23), (⟨"LawWorldsModel", "becomes", "(I)I"⟩, 23)]
theorem lw_r2 : ∀ q ∈ lw_privs_2, lw_okq q := List.forall_mem_cons.mpr ⟨lw_p16, List.forall_mem_cons.mpr ⟨lw_p17, List.forall_mem_cons.mpr ⟨lw_p18, List.forall_mem_cons.mpr ⟨lw_p19, List.forall_mem_cons.mpr ⟨lw_p20, List.forall_mem_cons.mpr ⟨lw_p21, List.forall_mem_cons.mpr ⟨lw_p22, List.forall_mem_cons.mpr ⟨lw_p23, List.forall_mem_cons.mpr ⟨lw_p24, List.forall_mem_cons.mpr ⟨lw_p25, List.forall_mem_cons.mpr ⟨lw_p26, List.forall_mem_cons.mpr ⟨lw_p27, List.forall_mem_cons.mpr ⟨lw_p28, List.forall_mem_cons.mpr ⟨lw_p29, List.forall_mem_cons.mpr ⟨lw_p30, List.forall_mem_cons.mpr ⟨lw_p31, fun _ h => absurd h List.not_mem_nil⟩⟩⟩⟩⟩⟩⟩⟩⟩⟩⟩⟩⟩⟩⟩⟩
theorem lw_p32 : lw_okq (⟨"LawWorldsModel", "fault", "()I"⟩, 23) := ⟨⟨by decide +kernel, by decide +kernel⟩, List.mem_of_getElem? (i := 667) (by decide +kernel), List.mem_of_getElem? (i := 824) (by decide +kernel), List.mem_of_getElem? (i := 825) (by decide +kernel)⟩
theorem lw_p33 : lw_okq (⟨"LawWorldsModel", "beginsSide", "(I)V"⟩, 23) := ⟨⟨by decide +kernel, by decide +kernel⟩, List.mem_of_getElem? (i := 667) (by decide +kernel), List.mem_of_getElem? (i := 828) (by decide +kernel), List.mem_of_getElem? (i := 829) (by decide +kernel)⟩
theorem lw_p34 : lw_okq (⟨"LawWorldsModel", "isWhole", "()Z"⟩, 23) := ⟨⟨by decide +kernel, by decide +kernel⟩, List.mem_of_getElem? (i := 667) (by decide +kernel), List.mem_of_getElem? (i := 832) (by decide +kernel), List.mem_of_getElem? (i := 833) (by decide +kernel)⟩
theorem lw_p35 : lw_okq (⟨"LawWorldsModel", "takesInSide", "(I)Z"⟩, 23) := ⟨⟨by decide +kernel, by decide +kernel⟩, List.mem_of_getElem? (i := 667) (by decide +kernel), List.mem_of_getElem? (i := 836) (by decide +kernel), List.mem_of_getElem? (i := 837) (by decide +kernel)⟩
theorem lw_p36 : lw_okq (⟨"LawWorldsModel", "adds", "(I)V"⟩, 23) := ⟨⟨by decide +kernel, by decide +kernel⟩, List.mem_of_getElem? (i := 667) (by decide +kernel), List.mem_of_getElem? (i := 842) (by decide +kernel), List.mem_of_getElem? (i := 843) (by decide +kernel)⟩
theorem lw_p37 : lw_okq (⟨"LawWorldsModel", "hasPart", "()V"⟩, 23) := ⟨⟨by decide +kernel, by decide +kernel⟩, List.mem_of_getElem? (i := 667) (by decide +kernel), List.mem_of_getElem? (i := 846) (by decide +kernel), List.mem_of_getElem? (i := 847) (by decide +kernel)⟩
theorem lw_p38 : lw_okq (⟨"LawWorldsModel", "isLaw", "(I)Z"⟩, 23) := ⟨⟨by decide +kernel, by decide +kernel⟩, List.mem_of_getElem? (i := 667) (by decide +kernel), List.mem_of_getElem? (i := 857) (by decide +kernel), List.mem_of_getElem? (i := 858) (by decide +kernel)⟩
theorem lw_p39 : lw_okq (⟨"LawWorldsModel", "isOn", "(I)Z"⟩, 23) := ⟨⟨by decide +kernel, by decide +kernel⟩, List.mem_of_getElem? (i := 667) (by decide +kernel), List.mem_of_getElem? (i := 865) (by decide +kernel), List.mem_of_getElem? (i := 866) (by decide +kernel)⟩
theorem lw_p40 : lw_okq (⟨"LawWorldsModel", "lawsOn", "()I"⟩, 23) := ⟨⟨by decide +kernel, by decide +kernel⟩, List.mem_of_getElem? (i := 667) (by decide +kernel), List.mem_of_getElem? (i := 869) (by decide +kernel), List.mem_of_getElem? (i := 870) (by decide +kernel)⟩
theorem lw_p41 : lw_okq (⟨"LawWorldsModel", "findsWitnesses", "(I)V"⟩, 23) := ⟨⟨by decide +kernel, by decide +kernel⟩, List.mem_of_getElem? (i := 667) (by decide +kernel), List.mem_of_getElem? (i := 877) (by decide +kernel), List.mem_of_getElem? (i := 878) (by decide +kernel)⟩
theorem lw_p42 : lw_okq (⟨"LawWorldsModel", "learns", "()V"⟩, 23) := ⟨⟨by decide +kernel, by decide +kernel⟩, List.mem_of_getElem? (i := 667) (by decide +kernel), List.mem_of_getElem? (i := 881) (by decide +kernel), List.mem_of_getElem? (i := 882) (by decide +kernel)⟩
theorem lw_p43 : lw_okq (⟨"LawWorldsModel", "isKnown", "(I)Z"⟩, 23) := ⟨⟨by decide +kernel, by decide +kernel⟩, List.mem_of_getElem? (i := 667) (by decide +kernel), List.mem_of_getElem? (i := 885) (by decide +kernel), List.mem_of_getElem? (i := 886) (by decide +kernel)⟩
theorem lw_p44 : lw_okq (⟨"LawWorldsModel", "brokenIn", "(III)I"⟩, 23) := ⟨⟨by decide +kernel, by decide +kernel⟩, List.mem_of_getElem? (i := 667) (by decide +kernel), List.mem_of_getElem? (i := 892) (by decide +kernel), List.mem_of_getElem? (i := 893) (by decide +kernel)⟩
theorem lw_p45 : lw_okq (⟨"LawWorldsModel", "isBroken", "(III)Z"⟩, 23) := ⟨⟨by decide +kernel, by decide +kernel⟩, List.mem_of_getElem? (i := 667) (by decide +kernel), List.mem_of_getElem? (i := 896) (by decide +kernel), List.mem_of_getElem? (i := 897) (by decide +kernel)⟩
theorem lw_p46 : lw_okq (⟨"LawWorldsModel", "comesOf", "(III)I"⟩, 23) := ⟨⟨by decide +kernel, by decide +kernel⟩, List.mem_of_getElem? (i := 667) (by decide +kernel), List.mem_of_getElem? (i := 900) (by decide +kernel), List.mem_of_getElem? (i := 901) (by decide +kernel)⟩
theorem lw_p47 : lw_okq (⟨"LawWorldsModel", "hold", "(II)Z"⟩, 23) := ⟨⟨by decide +kernel, by decide +kernel⟩, List.mem_of_getElem? (i := 667) (by decide +kernel), List.mem_of_getElem? (i := 904) (by decide +kernel), List.mem_of_getElem? (i := 905) (by decide +kernel)⟩
def lw_privs_3 : List (MethodName × Nat) := [(⟨"LawWorldsModel", "fault", "()I"⟩, 23), (⟨"LawWorldsModel", "beginsSide", "(I)V"⟩, 23), (⟨"LawWorldsModel", "isWhole", "()Z"⟩, 23), (⟨"LawWorldsModel", "takesInSide", "(I)Z"⟩, 23), (⟨"LawWorldsModel", "adds", "(I)V"⟩, 23), (⟨"LawWorldsModel", "hasPart", "()V"⟩, 23), (⟨"LawWorldsModel", "isLaw", "(I)Z"⟩, 23), (⟨"LawWorldsModel", "isOn", "(I)Z"⟩, 23), (⟨"LawWorldsModel", "lawsOn", "()I"⟩, 23), (⟨"LawWorldsModel", "findsWitnesses", "(I)V"⟩, 23), (⟨"LawWorldsModel", "learns", "()V"⟩, 23), (⟨"LawWorldsModel", "isKnown", "(I)Z"⟩, 23), (⟨"LawWorldsModel", "brokenIn", "(III)I"⟩, 23), (⟨"LawWorldsModel", "isBroken", "(III)Z"⟩, 23), (⟨"LawWorldsModel", "comesOf", "(III)I"⟩, 23), (⟨"LawWorldsModel", "hold", "(II)Z"⟩, 23)]
theorem lw_r3 : ∀ q ∈ lw_privs_3, lw_okq q := List.forall_mem_cons.mpr ⟨lw_p32, List.forall_mem_cons.mpr ⟨lw_p33, List.forall_mem_cons.mpr ⟨lw_p34, List.forall_mem_cons.mpr ⟨lw_p35, List.forall_mem_cons.mpr ⟨lw_p36, List.forall_mem_cons.mpr ⟨lw_p37, List.forall_mem_cons.mpr ⟨lw_p38, List.forall_mem_cons.mpr ⟨lw_p39, List.forall_mem_cons.mpr ⟨lw_p40, List.forall_mem_cons.mpr ⟨lw_p41, List.forall_mem_cons.mpr ⟨lw_p42, List.forall_mem_cons.mpr ⟨lw_p43, List.forall_mem_cons.mpr ⟨lw_p44, List.forall_mem_cons.mpr ⟨lw_p45, List.forall_mem_cons.mpr ⟨lw_p46, List.forall_mem_cons.mpr ⟨lw_p47, fun _ h => absurd h List.not_mem_nil⟩⟩⟩⟩⟩⟩⟩⟩⟩⟩⟩⟩⟩⟩⟩⟩
theorem lw_p48 : lw_okq (⟨"LawWorldsModel", "alikeTo", "(II)I"⟩, 23) := ⟨⟨by decide +kernel, by decide +kernel⟩, List.mem_of_getElem? (i := 667) (by decide +kernel), List.mem_of_getElem? (i := 928) (by decide +kernel), List.mem_of_getElem? (i := 929) (by decide +kernel)⟩
theorem lw_p49 : lw_okq (⟨"LawWorldsModel", "things", "(I)I"⟩, 23) := ⟨⟨by decide +kernel, by decide +kernel⟩, List.mem_of_getElem? (i := 667) (by decide +kernel), List.mem_of_getElem? (i := 932) (by decide +kernel), List.mem_of_getElem? (i := 933) (by decide +kernel)⟩
theorem lw_p50 : lw_okq (⟨"LawWorldsModel", "lawsThatHold", "(Z)I"⟩, 23) := ⟨⟨by decide +kernel, by decide +kernel⟩, List.mem_of_getElem? (i := 667) (by decide +kernel), List.mem_of_getElem? (i := 936) (by decide +kernel), List.mem_of_getElem? (i := 937) (by decide +kernel)⟩
theorem lw_p51 : lw_okq (⟨"LawWorldsModel", "brokenNow", "(I)I"⟩, 23) := ⟨⟨by decide +kernel, by decide +kernel⟩, List.mem_of_getElem? (i := 667) (by decide +kernel), List.mem_of_getElem? (i := 940) (by decide +kernel), List.mem_of_getElem? (i := 941) (by decide +kernel)⟩
theorem lw_p52 : lw_okq (⟨"LawWorldsModel", "lettersOf", "(IZ)I"⟩, 23) := ⟨⟨by decide +kernel, by decide +kernel⟩, List.mem_of_getElem? (i := 667) (by decide +kernel), List.mem_of_getElem? (i := 952) (by decide +kernel), List.mem_of_getElem? (i := 953) (by decide +kernel)⟩
theorem lw_p53 : lw_okq (⟨"LawWorldsModel", "follows", "(I)Z"⟩, 23) := ⟨⟨by decide +kernel, by decide +kernel⟩, List.mem_of_getElem? (i := 667) (by decide +kernel), List.mem_of_getElem? (i := 956) (by decide +kernel), List.mem_of_getElem? (i := 957) (by decide +kernel)⟩
theorem lw_p54 : lw_okq (⟨"LawWorldsModel", "toldWitnesses", "(I)I"⟩, 23) := ⟨⟨by decide +kernel, by decide +kernel⟩, List.mem_of_getElem? (i := 667) (by decide +kernel), List.mem_of_getElem? (i := 960) (by decide +kernel), List.mem_of_getElem? (i := 961) (by decide +kernel)⟩
theorem lw_p55 : lw_okq (⟨"LawWorldsModel", "firstBroken", "(I)I"⟩, 23) := ⟨⟨by decide +kernel, by decide +kernel⟩, List.mem_of_getElem? (i := 667) (by decide +kernel), List.mem_of_getElem? (i := 964) (by decide +kernel), List.mem_of_getElem? (i := 965) (by decide +kernel)⟩
theorem lw_p56 : lw_okq (⟨"LawWorldsModel", "lawsThatFollow", "()I"⟩, 23) := ⟨⟨by decide +kernel, by decide +kernel⟩, List.mem_of_getElem? (i := 667) (by decide +kernel), List.mem_of_getElem? (i := 997) (by decide +kernel), List.mem_of_getElem? (i := 998) (by decide +kernel)⟩
def lw_privs_4 : List (MethodName × Nat) := [(⟨"LawWorldsModel", "alikeTo", "(II)I"⟩, 23), (⟨"LawWorldsModel", "things", "(I)I"⟩, 23), (⟨"LawWorldsModel", "lawsThatHold", "(Z)I"⟩, 23), (⟨"LawWorldsModel", "brokenNow", "(I)I"⟩, 23), (⟨"LawWorldsModel", "lettersOf", "(IZ)I"⟩, 23), (⟨"LawWorldsModel", "follows", "(I)Z"⟩, 23), (⟨"LawWorldsModel", "toldWitnesses", "(I)I"⟩, 23), (⟨"LawWorldsModel", "firstBroken", "(I)I"⟩, 23), (⟨"LawWorldsModel", "lawsThatFollow", "()I"⟩, 23)]
theorem lw_r4 : ∀ q ∈ lw_privs_4, lw_okq q := List.forall_mem_cons.mpr ⟨lw_p48, List.forall_mem_cons.mpr ⟨lw_p49, List.forall_mem_cons.mpr ⟨lw_p50, List.forall_mem_cons.mpr ⟨lw_p51, List.forall_mem_cons.mpr ⟨lw_p52, List.forall_mem_cons.mpr ⟨lw_p53, List.forall_mem_cons.mpr ⟨lw_p54, List.forall_mem_cons.mpr ⟨lw_p55, List.forall_mem_cons.mpr ⟨lw_p56, fun _ h => absurd h List.not_mem_nil⟩⟩⟩⟩⟩⟩⟩⟩⟩
def lw_privs : List (MethodName × Nat) := lw_privs_1 ++ (lw_privs_2 ++ (lw_privs_3 ++ (lw_privs_4)))
def lw_tbl : List Cond := k2_sels lw_privs ++ tables_1
theorem lw_privs_ok : ∀ q ∈ lw_privs, lw_okq q := by
  show ∀ q ∈ lw_privs_1 ++ (lw_privs_2 ++ (lw_privs_3 ++ (lw_privs_4))), lw_okq q
  exact List.forall_mem_append.mpr ⟨lw_r1, List.forall_mem_append.mpr ⟨lw_r2, List.forall_mem_append.mpr ⟨lw_r3, lw_r4⟩⟩⟩
end
section
/-! names: classes, fields, methods, words; written by wip/gen/names.py -/
def zT : List Cond := lw_tbl.filter goodWord
theorem zT_in {w : Cond} (i : Nat) (h : lw_tbl[i]? = some w) (g : goodWord w = true) : w ∈ zT := List.mem_filter.mpr ⟨List.mem_of_getElem? h, g⟩
def R_X : String := "LawWorlds"
def F_X : u_T := fun k => match k with
  | 0 => ("LawWorlds", "now", "LLawWorlds$State;", true)
  | 1 => ("LawWorlds", "history", "LLawWorlds$History;", true)
  | 2 => ("LawWorlds", "shelf", "LLawWorlds$Shelf;", true)
  | 3 => ("LawWorlds", "bench", "LLawWorlds$Bench;", true)
  | 4 => ("LawWorlds", "search", "LLawWorlds$Search;", true)
  | 5 => ("LawWorlds", "reader", "LLawWorlds$Reader;", true)
  | 6 => ("LawWorlds", "text", "[C", true)
  | _ => ("LawWorlds", "typed", "I", false)
def t_X : Nat → FieldType := fun k => match k with
  | 0 => .object "LawWorlds$State"
  | 1 => .object "LawWorlds$History"
  | 2 => .object "LawWorlds$Shelf"
  | 3 => .object "LawWorlds$Bench"
  | 4 => .object "LawWorlds$Search"
  | 5 => .object "LawWorlds$Reader"
  | 6 => .array .char
  | _ => .int
def R_S : String := "LawWorlds$State"
def F_S : u_T := fun k => match k with
  | 0 => ("LawWorlds$State", "laws", "[LLawWorlds$Law;", true)
  | 1 => ("LawWorlds$State", "on", "[Z", true)
  | 2 => ("LawWorlds$State", "lawCount", "I", false)
  | 3 => ("LawWorlds$State", "size", "I", false)
  | _ => ("LawWorlds$State", "code", "I", false)
def t_S : Nat → FieldType := fun k => match k with
  | 0 => .array (.object "LawWorlds$Law")
  | 1 => .array .boolean
  | 2 => .int
  | 3 => .int
  | _ => .int
def R_H : String := "LawWorlds$History"
def F_H : u_T := fun k => match k with
  | 0 => ("LawWorlds$History", "past", "[LLawWorlds$State;", true)
  | 1 => ("LawWorlds$History", "snapshot", "LLawWorlds$State;", true)
  | 2 => ("LawWorlds$History", "stateCount", "I", false)
  | _ => ("LawWorlds$History", "hasSnapshot", "Z", false)
def t_H : Nat → FieldType := fun k => match k with
  | 0 => .array (.object "LawWorlds$State")
  | 1 => .object "LawWorlds$State"
  | 2 => .int
  | _ => .boolean
def R_F : String := "LawWorlds$Shelf"
def F_F : u_T := fun k => match k with
  | _ => ("LawWorlds$Shelf", "places", "[LLawWorlds$Law;", true)
def t_F : Nat → FieldType := fun k => match k with
  | _ => .array (.object "LawWorlds$Law")
def R_L : String := "LawWorlds$Law"
def F_L : u_T := fun k => match k with
  | 0 => ("LawWorlds$Law", "steps", "[I", true)
  | 1 => ("LawWorlds$Law", "stepCount", "I", false)
  | 2 => ("LawWorlds$Law", "letterCount", "I", false)
  | 3 => ("LawWorlds$Law", "letterSet", "I", false)
  | 4 => ("LawWorlds$Law", "brokenIn", "[B", false)
  | _ => ("LawWorlds$Law", "isCounted", "Z", false)
def t_L : Nat → FieldType := fun k => match k with
  | 0 => .array .int
  | 1 => .int
  | 2 => .int
  | 3 => .int
  | 4 => .array .byte
  | _ => .boolean
def R_B : String := "LawWorlds$Bench"
def F_B : u_T := fun k => match k with
  | 0 => ("LawWorlds$Bench", "table", "[I", true)
  | 1 => ("LawWorlds$Bench", "letters", "[I", true)
  | 2 => ("LawWorlds$Bench", "parts", "[I", true)
  | 3 => ("LawWorlds$Bench", "joined", "[I", true)
  | _ => ("LawWorlds$Bench", "size", "I", false)
def t_B : Nat → FieldType := fun k => match k with
  | 0 => .array .int
  | 1 => .array .int
  | 2 => .array .int
  | 3 => .array .int
  | _ => .int
def R_E : String := "LawWorlds$Search"
def F_E : u_T := fun k => match k with
  | 0 => ("LawWorlds$Search", "bench", "LLawWorlds$Bench;", true)
  | 1 => ("LawWorlds$Search", "plainWorlds", "LLawWorlds$PlainWorlds;", true)
  | 2 => ("LawWorlds$Search", "demanded", "[LLawWorlds$Law;", true)
  | 3 => ("LawWorlds$Search", "demandedCount", "I", false)
  | 4 => ("LawWorlds$Search", "told", "[I", true)
  | 5 => ("LawWorlds$Search", "toldBroken", "[I", true)
  | _ => ("LawWorlds$Search", "toldCount", "I", false)
def t_E : Nat → FieldType := fun k => match k with
  | 0 => .object "LawWorlds$Bench"
  | 1 => .object "LawWorlds$PlainWorlds"
  | 2 => .array (.object "LawWorlds$Law")
  | 3 => .int
  | 4 => .array .int
  | 5 => .array .int
  | _ => .int
def R_P : String := "LawWorlds$PlainWorlds"
def F_P : u_T := fun k => match k with
  | 0 => ("LawWorlds$PlainWorlds", "codes", "[I", true)
  | 1 => ("LawWorlds$PlainWorlds", "alikeCounts", "[B", true)
  | 2 => ("LawWorlds$PlainWorlds", "starts", "[I", true)
  | _ => ("LawWorlds$PlainWorlds", "listed", "I", false)
def t_P : Nat → FieldType := fun k => match k with
  | 0 => .array .int
  | 1 => .array .byte
  | 2 => .array .int
  | _ => .int
def R_D : String := "LawWorlds$Reader"
def F_D : u_T := fun k => match k with
  | 0 => ("LawWorlds$Reader", "steps", "[I", true)
  | 1 => ("LawWorlds$Reader", "lawCount", "I", false)
  | 2 => ("LawWorlds$Reader", "ends", "[I", true)
  | 3 => ("LawWorlds$Reader", "isBegun", "[Z", true)
  | 4 => ("LawWorlds$Reader", "stepCount", "I", false)
  | 5 => ("LawWorlds$Reader", "depth", "I", false)
  | 6 => ("LawWorlds$Reader", "letters", "I", false)
  | _ => ("LawWorlds$Reader", "isRight", "Z", false)
def t_D : Nat → FieldType := fun k => match k with
  | 0 => .array .int
  | 1 => .int
  | 2 => .array .int
  | 3 => .array .boolean
  | 4 => .int
  | 5 => .int
  | 6 => .int
  | _ => .boolean
def R_M : String := "LawWorldsModel"
def F_M : u_T := fun k => match k with
  | 0 => ("LawWorldsModel", "all", "[I", true)
  | 1 => ("LawWorldsModel", "kept", "[I", true)
  | 2 => ("LawWorldsModel", "history", "[I", true)
  | 3 => ("LawWorldsModel", "historyLong", "I", false)
  | 4 => ("LawWorldsModel", "snapshot", "[I", true)
  | 5 => ("LawWorldsModel", "isTaken", "I", false)
  | 6 => ("LawWorldsModel", "plain", "[I", true)
  | 7 => ("LawWorldsModel", "firstOf", "[I", true)
  | 8 => ("LawWorldsModel", "table", "[I", true)
  | 9 => ("LawWorldsModel", "stack", "[I", true)
  | 10 => ("LawWorldsModel", "broken", "[I", true)
  | 11 => ("LawWorldsModel", "known", "[I", true)
  | 12 => ("LawWorldsModel", "knownLaws", "I", false)
  | 13 => ("LawWorldsModel", "witnesses", "[I", true)
  | 14 => ("LawWorldsModel", "manyWitnesses", "I", false)
  | 15 => ("LawWorldsModel", "text", "[I", true)
  | 16 => ("LawWorldsModel", "textLong", "I", false)
  | 17 => ("LawWorldsModel", "read", "[I", true)
  | 18 => ("LawWorldsModel", "readMany", "I", false)
  | 19 => ("LawWorldsModel", "side", "I", false)
  | 20 => ("LawWorldsModel", "letters", "I", false)
  | 21 => ("LawWorldsModel", "depth", "I", false)
  | _ => ("LawWorldsModel", "has", "[I", true)
def t_M : Nat → FieldType := fun k => match k with
  | 0 => .array .int
  | 1 => .array .int
  | 2 => .array .int
  | 3 => .int
  | 4 => .array .int
  | 5 => .int
  | 6 => .array .int
  | 7 => .array .int
  | 8 => .array .int
  | 9 => .array .int
  | 10 => .array .int
  | 11 => .array .int
  | 12 => .int
  | 13 => .array .int
  | 14 => .int
  | 15 => .array .int
  | 16 => .int
  | 17 => .array .int
  | 18 => .int
  | 19 => .int
  | 20 => .int
  | 21 => .int
  | _ => .array .int
abbrev classes : List vw_C := [(R_X, F_X, 8), (R_S, F_S, 5), (R_H, F_H, 4), (R_F, F_F, 1), (R_L, F_L, 6), (R_B, F_B, 5), (R_E, F_E, 7), (R_P, F_P, 4), (R_D, F_D, 8), (R_M, F_M, 23)]
def fT : Nat → u_T := fun ci => match ci with
  | 0 => F_X
  | 1 => F_S
  | 2 => F_H
  | 3 => F_F
  | 4 => F_L
  | 5 => F_B
  | 6 => F_E
  | 7 => F_P
  | 8 => F_D
  | _ => F_M
def fN : Nat → Nat := fun ci => match ci with
  | 0 => 8
  | 1 => 5
  | 2 => 4
  | 3 => 1
  | 4 => 6
  | 5 => 5
  | 6 => 7
  | 7 => 4
  | 8 => 8
  | _ => 23
def fC : Nat → String := fun ci => match ci with
  | 0 => R_X
  | 1 => R_S
  | 2 => R_H
  | 3 => R_F
  | 4 => R_L
  | 5 => R_B
  | 6 => R_E
  | 7 => R_P
  | 8 => R_D
  | _ => R_M
def fY : Nat → Nat → FieldType := fun ci => match ci with
  | 0 => t_X
  | 1 => t_S
  | 2 => t_H
  | 3 => t_F
  | 4 => t_L
  | 5 => t_B
  | 6 => t_E
  | 7 => t_P
  | 8 => t_D
  | _ => t_M
/-- whether a field is a reference -/
def fk (ci k : Nat) : Bool := match fY ci k with | .object _ => true | .array _ => true | _ => false
theorem fc_ok : ∀ ci, ci < 10 → classes[ci]? = some (fC ci, fT ci, fN ci) := by
  intro ci h
  match ci, h with
  | 0, _ => exact rfl
  | 1, _ => exact rfl
  | 2, _ => exact rfl
  | 3, _ => exact rfl
  | 4, _ => exact rfl
  | 5, _ => exact rfl
  | 6, _ => exact rfl
  | 7, _ => exact rfl
  | 8, _ => exact rfl
  | 9, _ => exact rfl
  | n + 10, h => exact absurd h (by omega)
theorem n_X : ∀ a, a < 8 → ∀ b, b < 8 → a ≠ b → (F_X a).2.1 ≠ (F_X b).2.1 := by decide +kernel
theorem ty_X : ∀ k, k < 8 → parseFieldDescriptor (F_X k).2.2.1 = some (t_X k) := by decide +kernel
theorem la_X_0 : u_lay R_X F_X 0 ∈ zT := zT_in 290 (by decide +kernel) rfl
theorem la_X_1 : u_lay R_X F_X 1 ∈ zT := zT_in 292 (by decide +kernel) rfl
theorem la_X_2 : u_lay R_X F_X 2 ∈ zT := zT_in 294 (by decide +kernel) rfl
theorem la_X_3 : u_lay R_X F_X 3 ∈ zT := zT_in 296 (by decide +kernel) rfl
theorem la_X_4 : u_lay R_X F_X 4 ∈ zT := zT_in 298 (by decide +kernel) rfl
theorem la_X_5 : u_lay R_X F_X 5 ∈ zT := zT_in 300 (by decide +kernel) rfl
theorem la_X_6 : u_lay R_X F_X 6 ∈ zT := zT_in 302 (by decide +kernel) rfl
theorem la_X_7 : u_lay R_X F_X 7 ∈ zT := zT_in 304 (by decide +kernel) rfl
theorem i_X : ∀ w ∈ u_ws R_X F_X 8, w ∈ zT := by
  intro w hw
  obtain ⟨k, hk, rfl⟩ := List.mem_map.mp hw
  have hk := List.mem_range.mp hk
  match k, hk with
  | 0, _ => exact la_X_0
  | 1, _ => exact la_X_1
  | 2, _ => exact la_X_2
  | 3, _ => exact la_X_3
  | 4, _ => exact la_X_4
  | 5, _ => exact la_X_5
  | 6, _ => exact la_X_6
  | 7, _ => exact la_X_7
  | k + 8, h => exact absurd h (by omega)
theorem n_S : ∀ a, a < 5 → ∀ b, b < 5 → a ≠ b → (F_S a).2.1 ≠ (F_S b).2.1 := by decide +kernel
theorem ty_S : ∀ k, k < 5 → parseFieldDescriptor (F_S k).2.2.1 = some (t_S k) := by decide +kernel
theorem la_S_0 : u_lay R_S F_S 0 ∈ zT := zT_in 98 (by decide +kernel) rfl
theorem la_S_1 : u_lay R_S F_S 1 ∈ zT := zT_in 100 (by decide +kernel) rfl
theorem la_S_2 : u_lay R_S F_S 2 ∈ zT := zT_in 102 (by decide +kernel) rfl
theorem la_S_3 : u_lay R_S F_S 3 ∈ zT := zT_in 104 (by decide +kernel) rfl
theorem la_S_4 : u_lay R_S F_S 4 ∈ zT := zT_in 106 (by decide +kernel) rfl
theorem i_S : ∀ w ∈ u_ws R_S F_S 5, w ∈ zT := by
  intro w hw
  obtain ⟨k, hk, rfl⟩ := List.mem_map.mp hw
  have hk := List.mem_range.mp hk
  match k, hk with
  | 0, _ => exact la_S_0
  | 1, _ => exact la_S_1
  | 2, _ => exact la_S_2
  | 3, _ => exact la_S_3
  | 4, _ => exact la_S_4
  | k + 5, h => exact absurd h (by omega)
theorem n_H : ∀ a, a < 4 → ∀ b, b < 4 → a ≠ b → (F_H a).2.1 ≠ (F_H b).2.1 := by decide +kernel
theorem ty_H : ∀ k, k < 4 → parseFieldDescriptor (F_H k).2.2.1 = some (t_H k) := by decide +kernel
theorem la_H_0 : u_lay R_H F_H 0 ∈ zT := zT_in 125 (by decide +kernel) rfl
theorem la_H_1 : u_lay R_H F_H 1 ∈ zT := zT_in 127 (by decide +kernel) rfl
theorem la_H_2 : u_lay R_H F_H 2 ∈ zT := zT_in 129 (by decide +kernel) rfl
theorem la_H_3 : u_lay R_H F_H 3 ∈ zT := zT_in 131 (by decide +kernel) rfl
theorem i_H : ∀ w ∈ u_ws R_H F_H 4, w ∈ zT := by
  intro w hw
  obtain ⟨k, hk, rfl⟩ := List.mem_map.mp hw
  have hk := List.mem_range.mp hk
  match k, hk with
  | 0, _ => exact la_H_0
  | 1, _ => exact la_H_1
  | 2, _ => exact la_H_2
  | 3, _ => exact la_H_3
  | k + 4, h => exact absurd h (by omega)
theorem n_F : ∀ a, a < 1 → ∀ b, b < 1 → a ≠ b → (F_F a).2.1 ≠ (F_F b).2.1 := by decide +kernel
theorem ty_F : ∀ k, k < 1 → parseFieldDescriptor (F_F k).2.2.1 = some (t_F k) := by decide +kernel
theorem la_F_0 : u_lay R_F F_F 0 ∈ zT := zT_in 173 (by decide +kernel) rfl
theorem i_F : ∀ w ∈ u_ws R_F F_F 1, w ∈ zT := by
  intro w hw
  obtain ⟨k, hk, rfl⟩ := List.mem_map.mp hw
  have hk := List.mem_range.mp hk
  match k, hk with
  | 0, _ => exact la_F_0
  | k + 1, h => exact absurd h (by omega)
theorem n_L : ∀ a, a < 6 → ∀ b, b < 6 → a ≠ b → (F_L a).2.1 ≠ (F_L b).2.1 := by decide +kernel
theorem ty_L : ∀ k, k < 6 → parseFieldDescriptor (F_L k).2.2.1 = some (t_L k) := by decide +kernel
theorem la_L_0 : u_lay R_L F_L 0 ∈ zT := zT_in 158 (by decide +kernel) rfl
theorem la_L_1 : u_lay R_L F_L 1 ∈ zT := zT_in 160 (by decide +kernel) rfl
theorem la_L_2 : u_lay R_L F_L 2 ∈ zT := zT_in 162 (by decide +kernel) rfl
theorem la_L_3 : u_lay R_L F_L 3 ∈ zT := zT_in 164 (by decide +kernel) rfl
theorem la_L_4 : u_lay R_L F_L 4 ∈ zT := zT_in 166 (by decide +kernel) rfl
theorem la_L_5 : u_lay R_L F_L 5 ∈ zT := zT_in 168 (by decide +kernel) rfl
theorem i_L : ∀ w ∈ u_ws R_L F_L 6, w ∈ zT := by
  intro w hw
  obtain ⟨k, hk, rfl⟩ := List.mem_map.mp hw
  have hk := List.mem_range.mp hk
  match k, hk with
  | 0, _ => exact la_L_0
  | 1, _ => exact la_L_1
  | 2, _ => exact la_L_2
  | 3, _ => exact la_L_3
  | 4, _ => exact la_L_4
  | 5, _ => exact la_L_5
  | k + 6, h => exact absurd h (by omega)
theorem n_B : ∀ a, a < 5 → ∀ b, b < 5 → a ≠ b → (F_B a).2.1 ≠ (F_B b).2.1 := by decide +kernel
theorem ty_B : ∀ k, k < 5 → parseFieldDescriptor (F_B k).2.2.1 = some (t_B k) := by decide +kernel
theorem la_B_0 : u_lay R_B F_B 0 ∈ zT := zT_in 187 (by decide +kernel) rfl
theorem la_B_1 : u_lay R_B F_B 1 ∈ zT := zT_in 189 (by decide +kernel) rfl
theorem la_B_2 : u_lay R_B F_B 2 ∈ zT := zT_in 191 (by decide +kernel) rfl
theorem la_B_3 : u_lay R_B F_B 3 ∈ zT := zT_in 193 (by decide +kernel) rfl
theorem la_B_4 : u_lay R_B F_B 4 ∈ zT := zT_in 195 (by decide +kernel) rfl
theorem i_B : ∀ w ∈ u_ws R_B F_B 5, w ∈ zT := by
  intro w hw
  obtain ⟨k, hk, rfl⟩ := List.mem_map.mp hw
  have hk := List.mem_range.mp hk
  match k, hk with
  | 0, _ => exact la_B_0
  | 1, _ => exact la_B_1
  | 2, _ => exact la_B_2
  | 3, _ => exact la_B_3
  | 4, _ => exact la_B_4
  | k + 5, h => exact absurd h (by omega)
theorem n_E : ∀ a, a < 7 → ∀ b, b < 7 → a ≠ b → (F_E a).2.1 ≠ (F_E b).2.1 := by decide +kernel
theorem ty_E : ∀ k, k < 7 → parseFieldDescriptor (F_E k).2.2.1 = some (t_E k) := by decide +kernel
theorem la_E_0 : u_lay R_E F_E 0 ∈ zT := zT_in 234 (by decide +kernel) rfl
theorem la_E_1 : u_lay R_E F_E 1 ∈ zT := zT_in 236 (by decide +kernel) rfl
theorem la_E_2 : u_lay R_E F_E 2 ∈ zT := zT_in 238 (by decide +kernel) rfl
theorem la_E_3 : u_lay R_E F_E 3 ∈ zT := zT_in 240 (by decide +kernel) rfl
theorem la_E_4 : u_lay R_E F_E 4 ∈ zT := zT_in 242 (by decide +kernel) rfl
theorem la_E_5 : u_lay R_E F_E 5 ∈ zT := zT_in 244 (by decide +kernel) rfl
theorem la_E_6 : u_lay R_E F_E 6 ∈ zT := zT_in 246 (by decide +kernel) rfl
theorem i_E : ∀ w ∈ u_ws R_E F_E 7, w ∈ zT := by
  intro w hw
  obtain ⟨k, hk, rfl⟩ := List.mem_map.mp hw
  have hk := List.mem_range.mp hk
  match k, hk with
  | 0, _ => exact la_E_0
  | 1, _ => exact la_E_1
  | 2, _ => exact la_E_2
  | 3, _ => exact la_E_3
  | 4, _ => exact la_E_4
  | 5, _ => exact la_E_5
  | 6, _ => exact la_E_6
  | k + 7, h => exact absurd h (by omega)
theorem n_P : ∀ a, a < 4 → ∀ b, b < 4 → a ≠ b → (F_P a).2.1 ≠ (F_P b).2.1 := by decide +kernel
theorem ty_P : ∀ k, k < 4 → parseFieldDescriptor (F_P k).2.2.1 = some (t_P k) := by decide +kernel
theorem la_P_0 : u_lay R_P F_P 0 ∈ zT := zT_in 216 (by decide +kernel) rfl
theorem la_P_1 : u_lay R_P F_P 1 ∈ zT := zT_in 218 (by decide +kernel) rfl
theorem la_P_2 : u_lay R_P F_P 2 ∈ zT := zT_in 220 (by decide +kernel) rfl
theorem la_P_3 : u_lay R_P F_P 3 ∈ zT := zT_in 222 (by decide +kernel) rfl
theorem i_P : ∀ w ∈ u_ws R_P F_P 4, w ∈ zT := by
  intro w hw
  obtain ⟨k, hk, rfl⟩ := List.mem_map.mp hw
  have hk := List.mem_range.mp hk
  match k, hk with
  | 0, _ => exact la_P_0
  | 1, _ => exact la_P_1
  | 2, _ => exact la_P_2
  | 3, _ => exact la_P_3
  | k + 4, h => exact absurd h (by omega)
theorem n_D : ∀ a, a < 8 → ∀ b, b < 8 → a ≠ b → (F_D a).2.1 ≠ (F_D b).2.1 := by decide +kernel
theorem ty_D : ∀ k, k < 8 → parseFieldDescriptor (F_D k).2.2.1 = some (t_D k) := by decide +kernel
theorem la_D_0 : u_lay R_D F_D 0 ∈ zT := zT_in 265 (by decide +kernel) rfl
theorem la_D_1 : u_lay R_D F_D 1 ∈ zT := zT_in 267 (by decide +kernel) rfl
theorem la_D_2 : u_lay R_D F_D 2 ∈ zT := zT_in 269 (by decide +kernel) rfl
theorem la_D_3 : u_lay R_D F_D 3 ∈ zT := zT_in 271 (by decide +kernel) rfl
theorem la_D_4 : u_lay R_D F_D 4 ∈ zT := zT_in 273 (by decide +kernel) rfl
theorem la_D_5 : u_lay R_D F_D 5 ∈ zT := zT_in 275 (by decide +kernel) rfl
theorem la_D_6 : u_lay R_D F_D 6 ∈ zT := zT_in 277 (by decide +kernel) rfl
theorem la_D_7 : u_lay R_D F_D 7 ∈ zT := zT_in 279 (by decide +kernel) rfl
theorem i_D : ∀ w ∈ u_ws R_D F_D 8, w ∈ zT := by
  intro w hw
  obtain ⟨k, hk, rfl⟩ := List.mem_map.mp hw
  have hk := List.mem_range.mp hk
  match k, hk with
  | 0, _ => exact la_D_0
  | 1, _ => exact la_D_1
  | 2, _ => exact la_D_2
  | 3, _ => exact la_D_3
  | 4, _ => exact la_D_4
  | 5, _ => exact la_D_5
  | 6, _ => exact la_D_6
  | 7, _ => exact la_D_7
  | k + 8, h => exact absurd h (by omega)
theorem n_M : ∀ a, a < 23 → ∀ b, b < 23 → a ≠ b → (F_M a).2.1 ≠ (F_M b).2.1 := by decide +kernel
theorem ty_M : ∀ k, k < 23 → parseFieldDescriptor (F_M k).2.2.1 = some (t_M k) := by decide +kernel
theorem la_M_0 : u_lay R_M F_M 0 ∈ zT := zT_in 776 (by decide +kernel) rfl
theorem la_M_1 : u_lay R_M F_M 1 ∈ zT := zT_in 778 (by decide +kernel) rfl
theorem la_M_2 : u_lay R_M F_M 2 ∈ zT := zT_in 780 (by decide +kernel) rfl
theorem la_M_3 : u_lay R_M F_M 3 ∈ zT := zT_in 782 (by decide +kernel) rfl
theorem la_M_4 : u_lay R_M F_M 4 ∈ zT := zT_in 784 (by decide +kernel) rfl
theorem la_M_5 : u_lay R_M F_M 5 ∈ zT := zT_in 786 (by decide +kernel) rfl
theorem la_M_6 : u_lay R_M F_M 6 ∈ zT := zT_in 788 (by decide +kernel) rfl
theorem la_M_7 : u_lay R_M F_M 7 ∈ zT := zT_in 790 (by decide +kernel) rfl
theorem la_M_8 : u_lay R_M F_M 8 ∈ zT := zT_in 792 (by decide +kernel) rfl
theorem la_M_9 : u_lay R_M F_M 9 ∈ zT := zT_in 794 (by decide +kernel) rfl
theorem la_M_10 : u_lay R_M F_M 10 ∈ zT := zT_in 796 (by decide +kernel) rfl
theorem la_M_11 : u_lay R_M F_M 11 ∈ zT := zT_in 798 (by decide +kernel) rfl
theorem la_M_12 : u_lay R_M F_M 12 ∈ zT := zT_in 800 (by decide +kernel) rfl
theorem la_M_13 : u_lay R_M F_M 13 ∈ zT := zT_in 802 (by decide +kernel) rfl
theorem la_M_14 : u_lay R_M F_M 14 ∈ zT := zT_in 804 (by decide +kernel) rfl
theorem la_M_15 : u_lay R_M F_M 15 ∈ zT := zT_in 806 (by decide +kernel) rfl
theorem la_M_16 : u_lay R_M F_M 16 ∈ zT := zT_in 808 (by decide +kernel) rfl
theorem la_M_17 : u_lay R_M F_M 17 ∈ zT := zT_in 810 (by decide +kernel) rfl
theorem la_M_18 : u_lay R_M F_M 18 ∈ zT := zT_in 812 (by decide +kernel) rfl
theorem la_M_19 : u_lay R_M F_M 19 ∈ zT := zT_in 814 (by decide +kernel) rfl
theorem la_M_20 : u_lay R_M F_M 20 ∈ zT := zT_in 816 (by decide +kernel) rfl
theorem la_M_21 : u_lay R_M F_M 21 ∈ zT := zT_in 818 (by decide +kernel) rfl
theorem la_M_22 : u_lay R_M F_M 22 ∈ zT := zT_in 820 (by decide +kernel) rfl
theorem i_M : ∀ w ∈ u_ws R_M F_M 23, w ∈ zT := by
  intro w hw
  obtain ⟨k, hk, rfl⟩ := List.mem_map.mp hw
  have hk := List.mem_range.mp hk
  match k, hk with
  | 0, _ => exact la_M_0
  | 1, _ => exact la_M_1
  | 2, _ => exact la_M_2
  | 3, _ => exact la_M_3
  | 4, _ => exact la_M_4
  | 5, _ => exact la_M_5
  | 6, _ => exact la_M_6
  | 7, _ => exact la_M_7
  | 8, _ => exact la_M_8
  | 9, _ => exact la_M_9
  | 10, _ => exact la_M_10
  | 11, _ => exact la_M_11
  | 12, _ => exact la_M_12
  | 13, _ => exact la_M_13
  | 14, _ => exact la_M_14
  | 15, _ => exact la_M_15
  | 16, _ => exact la_M_16
  | 17, _ => exact la_M_17
  | 18, _ => exact la_M_18
  | 19, _ => exact la_M_19
  | 20, _ => exact la_M_20
  | 21, _ => exact la_M_21
  | 22, _ => exact la_M_22
  | k + 23, h => exact absurd h (by omega)
theorem cl_ok : ∀ ci, ci < 10 → (∀ w ∈ u_ws (fC ci) (fT ci) (fN ci), w ∈ zT) ∧ (∀ k, k < fN ci → parseFieldDescriptor (fT ci k).2.2.1 = some (fY ci k)) ∧ (∀ a, a < fN ci → ∀ b, b < fN ci → a ≠ b → (fT ci a).2.1 ≠ (fT ci b).2.1) := by
  intro ci h
  match ci, h with
  | 0, _ => exact ⟨i_X, ty_X, n_X⟩
  | 1, _ => exact ⟨i_S, ty_S, n_S⟩
  | 2, _ => exact ⟨i_H, ty_H, n_H⟩
  | 3, _ => exact ⟨i_F, ty_F, n_F⟩
  | 4, _ => exact ⟨i_L, ty_L, n_L⟩
  | 5, _ => exact ⟨i_B, ty_B, n_B⟩
  | 6, _ => exact ⟨i_E, ty_E, n_E⟩
  | 7, _ => exact ⟨i_P, ty_P, n_P⟩
  | 8, _ => exact ⟨i_D, ty_D, n_D⟩
  | 9, _ => exact ⟨i_M, ty_M, n_M⟩
  | n + 10, h => exact absurd h (by omega)
/-- a field link of a class, as the tables have it -/
def Fdk (own : String) (index ci k : Nat) : Prop := ci < 10 ∧ k < fN ci ∧ (fT ci k).1 = fC ci ∧ Cond.fieldLink own index (fC ci) (fT ci k).2.1 (fT ci k).2.2.1 ∈ zT
theorem fl_S_11 : Fdk "LawWorlds$State" 11 1 0 := ⟨by decide, by decide, rfl, zT_in 87 (by decide +kernel) rfl⟩
theorem fl_S_17 : Fdk "LawWorlds$State" 17 1 1 := ⟨by decide, by decide, rfl, zT_in 88 (by decide +kernel) rfl⟩
theorem fl_E_95 : Fdk "LawWorlds$Search" 95 1 1 := ⟨by decide, by decide, rfl, zT_in 89 (by decide +kernel) rfl⟩
theorem fl_X_124 : Fdk "LawWorlds" 124 1 1 := ⟨by decide, by decide, rfl, zT_in 90 (by decide +kernel) rfl⟩
theorem fl_S_28 : Fdk "LawWorlds$State" 28 1 2 := ⟨by decide, by decide, rfl, zT_in 91 (by decide +kernel) rfl⟩
theorem fl_E_92 : Fdk "LawWorlds$Search" 92 1 2 := ⟨by decide, by decide, rfl, zT_in 92 (by decide +kernel) rfl⟩
theorem fl_X_105 : Fdk "LawWorlds" 105 1 2 := ⟨by decide, by decide, rfl, zT_in 93 (by decide +kernel) rfl⟩
theorem fl_S_21 : Fdk "LawWorlds$State" 21 1 3 := ⟨by decide, by decide, rfl, zT_in 94 (by decide +kernel) rfl⟩
theorem fl_X_61 : Fdk "LawWorlds" 61 1 3 := ⟨by decide, by decide, rfl, zT_in 95 (by decide +kernel) rfl⟩
theorem fl_S_25 : Fdk "LawWorlds$State" 25 1 4 := ⟨by decide, by decide, rfl, zT_in 96 (by decide +kernel) rfl⟩
theorem fl_X_65 : Fdk "LawWorlds" 65 1 4 := ⟨by decide, by decide, rfl, zT_in 97 (by decide +kernel) rfl⟩
theorem fl_H_12 : Fdk "LawWorlds$History" 12 2 0 := ⟨by decide, by decide, rfl, zT_in 119 (by decide +kernel) rfl⟩
theorem fl_H_18 : Fdk "LawWorlds$History" 18 2 1 := ⟨by decide, by decide, rfl, zT_in 120 (by decide +kernel) rfl⟩
theorem fl_H_22 : Fdk "LawWorlds$History" 22 2 2 := ⟨by decide, by decide, rfl, zT_in 121 (by decide +kernel) rfl⟩
theorem fl_X_143 : Fdk "LawWorlds" 143 2 2 := ⟨by decide, by decide, rfl, zT_in 122 (by decide +kernel) rfl⟩
theorem fl_H_33 : Fdk "LawWorlds$History" 33 2 3 := ⟨by decide, by decide, rfl, zT_in 123 (by decide +kernel) rfl⟩
theorem fl_X_149 : Fdk "LawWorlds" 149 2 3 := ⟨by decide, by decide, rfl, zT_in 124 (by decide +kernel) rfl⟩
theorem fl_L_11 : Fdk "LawWorlds$Law" 11 4 0 := ⟨by decide, by decide, rfl, zT_in 146 (by decide +kernel) rfl⟩
theorem fl_B_42 : Fdk "LawWorlds$Bench" 42 4 0 := ⟨by decide, by decide, rfl, zT_in 147 (by decide +kernel) rfl⟩
theorem fl_L_15 : Fdk "LawWorlds$Law" 15 4 1 := ⟨by decide, by decide, rfl, zT_in 148 (by decide +kernel) rfl⟩
theorem fl_B_37 : Fdk "LawWorlds$Bench" 37 4 1 := ⟨by decide, by decide, rfl, zT_in 149 (by decide +kernel) rfl⟩
theorem fl_L_19 : Fdk "LawWorlds$Law" 19 4 2 := ⟨by decide, by decide, rfl, zT_in 150 (by decide +kernel) rfl⟩
theorem fl_X_188 : Fdk "LawWorlds" 188 4 2 := ⟨by decide, by decide, rfl, zT_in 151 (by decide +kernel) rfl⟩
theorem fl_L_22 : Fdk "LawWorlds$Law" 22 4 3 := ⟨by decide, by decide, rfl, zT_in 152 (by decide +kernel) rfl⟩
theorem fl_X_193 : Fdk "LawWorlds" 193 4 3 := ⟨by decide, by decide, rfl, zT_in 153 (by decide +kernel) rfl⟩
theorem fl_L_29 : Fdk "LawWorlds$Law" 29 4 4 := ⟨by decide, by decide, rfl, zT_in 154 (by decide +kernel) rfl⟩
theorem fl_E_103 : Fdk "LawWorlds$Search" 103 4 4 := ⟨by decide, by decide, rfl, zT_in 155 (by decide +kernel) rfl⟩
theorem fl_L_25 : Fdk "LawWorlds$Law" 25 4 5 := ⟨by decide, by decide, rfl, zT_in 156 (by decide +kernel) rfl⟩
theorem fl_E_99 : Fdk "LawWorlds$Search" 99 4 5 := ⟨by decide, by decide, rfl, zT_in 157 (by decide +kernel) rfl⟩
theorem fl_F_13 : Fdk "LawWorlds$Shelf" 13 3 0 := ⟨by decide, by decide, rfl, zT_in 172 (by decide +kernel) rfl⟩
theorem fl_B_9 : Fdk "LawWorlds$Bench" 9 5 0 := ⟨by decide, by decide, rfl, zT_in 182 (by decide +kernel) rfl⟩
theorem fl_B_15 : Fdk "LawWorlds$Bench" 15 5 1 := ⟨by decide, by decide, rfl, zT_in 183 (by decide +kernel) rfl⟩
theorem fl_B_18 : Fdk "LawWorlds$Bench" 18 5 2 := ⟨by decide, by decide, rfl, zT_in 184 (by decide +kernel) rfl⟩
theorem fl_B_21 : Fdk "LawWorlds$Bench" 21 5 3 := ⟨by decide, by decide, rfl, zT_in 185 (by decide +kernel) rfl⟩
theorem fl_B_30 : Fdk "LawWorlds$Bench" 30 5 4 := ⟨by decide, by decide, rfl, zT_in 186 (by decide +kernel) rfl⟩
theorem fl_P_9 : Fdk "LawWorlds$PlainWorlds" 9 7 0 := ⟨by decide, by decide, rfl, zT_in 212 (by decide +kernel) rfl⟩
theorem fl_P_15 : Fdk "LawWorlds$PlainWorlds" 15 7 1 := ⟨by decide, by decide, rfl, zT_in 213 (by decide +kernel) rfl⟩
theorem fl_P_19 : Fdk "LawWorlds$PlainWorlds" 19 7 2 := ⟨by decide, by decide, rfl, zT_in 214 (by decide +kernel) rfl⟩
theorem fl_P_22 : Fdk "LawWorlds$PlainWorlds" 22 7 3 := ⟨by decide, by decide, rfl, zT_in 215 (by decide +kernel) rfl⟩
theorem fl_E_12 : Fdk "LawWorlds$Search" 12 6 0 := ⟨by decide, by decide, rfl, zT_in 227 (by decide +kernel) rfl⟩
theorem fl_E_21 : Fdk "LawWorlds$Search" 21 6 1 := ⟨by decide, by decide, rfl, zT_in 228 (by decide +kernel) rfl⟩
theorem fl_E_27 : Fdk "LawWorlds$Search" 27 6 2 := ⟨by decide, by decide, rfl, zT_in 229 (by decide +kernel) rfl⟩
theorem fl_E_89 : Fdk "LawWorlds$Search" 89 6 3 := ⟨by decide, by decide, rfl, zT_in 230 (by decide +kernel) rfl⟩
theorem fl_E_31 : Fdk "LawWorlds$Search" 31 6 4 := ⟨by decide, by decide, rfl, zT_in 231 (by decide +kernel) rfl⟩
theorem fl_E_35 : Fdk "LawWorlds$Search" 35 6 5 := ⟨by decide, by decide, rfl, zT_in 232 (by decide +kernel) rfl⟩
theorem fl_E_62 : Fdk "LawWorlds$Search" 62 6 6 := ⟨by decide, by decide, rfl, zT_in 233 (by decide +kernel) rfl⟩
theorem fl_D_11 : Fdk "LawWorlds$Reader" 11 8 0 := ⟨by decide, by decide, rfl, zT_in 255 (by decide +kernel) rfl⟩
theorem fl_F_27 : Fdk "LawWorlds$Shelf" 27 8 0 := ⟨by decide, by decide, rfl, zT_in 256 (by decide +kernel) rfl⟩
theorem fl_D_22 : Fdk "LawWorlds$Reader" 22 8 1 := ⟨by decide, by decide, rfl, zT_in 257 (by decide +kernel) rfl⟩
theorem fl_X_108 : Fdk "LawWorlds" 108 8 1 := ⟨by decide, by decide, rfl, zT_in 258 (by decide +kernel) rfl⟩
theorem fl_D_15 : Fdk "LawWorlds$Reader" 15 8 2 := ⟨by decide, by decide, rfl, zT_in 259 (by decide +kernel) rfl⟩
theorem fl_D_18 : Fdk "LawWorlds$Reader" 18 8 3 := ⟨by decide, by decide, rfl, zT_in 260 (by decide +kernel) rfl⟩
theorem fl_D_26 : Fdk "LawWorlds$Reader" 26 8 4 := ⟨by decide, by decide, rfl, zT_in 261 (by decide +kernel) rfl⟩
theorem fl_D_29 : Fdk "LawWorlds$Reader" 29 8 5 := ⟨by decide, by decide, rfl, zT_in 262 (by decide +kernel) rfl⟩
theorem fl_D_65 : Fdk "LawWorlds$Reader" 65 8 6 := ⟨by decide, by decide, rfl, zT_in 263 (by decide +kernel) rfl⟩
theorem fl_D_61 : Fdk "LawWorlds$Reader" 61 8 7 := ⟨by decide, by decide, rfl, zT_in 264 (by decide +kernel) rfl⟩
theorem fl_X_10 : Fdk "LawWorlds" 10 0 0 := ⟨by decide, by decide, rfl, zT_in 282 (by decide +kernel) rfl⟩
theorem fl_X_19 : Fdk "LawWorlds" 19 0 1 := ⟨by decide, by decide, rfl, zT_in 283 (by decide +kernel) rfl⟩
theorem fl_X_26 : Fdk "LawWorlds" 26 0 2 := ⟨by decide, by decide, rfl, zT_in 284 (by decide +kernel) rfl⟩
theorem fl_X_33 : Fdk "LawWorlds" 33 0 3 := ⟨by decide, by decide, rfl, zT_in 285 (by decide +kernel) rfl⟩
theorem fl_X_40 : Fdk "LawWorlds" 40 0 4 := ⟨by decide, by decide, rfl, zT_in 286 (by decide +kernel) rfl⟩
theorem fl_X_47 : Fdk "LawWorlds" 47 0 5 := ⟨by decide, by decide, rfl, zT_in 287 (by decide +kernel) rfl⟩
theorem fl_X_51 : Fdk "LawWorlds" 51 0 6 := ⟨by decide, by decide, rfl, zT_in 288 (by decide +kernel) rfl⟩
theorem fl_X_98 : Fdk "LawWorlds" 98 0 7 := ⟨by decide, by decide, rfl, zT_in 289 (by decide +kernel) rfl⟩
theorem fl_M_7 : Fdk "LawWorldsModel" 7 9 0 := ⟨by decide, by decide, rfl, zT_in 753 (by decide +kernel) rfl⟩
theorem fl_M_13 : Fdk "LawWorldsModel" 13 9 1 := ⟨by decide, by decide, rfl, zT_in 754 (by decide +kernel) rfl⟩
theorem fl_M_16 : Fdk "LawWorldsModel" 16 9 2 := ⟨by decide, by decide, rfl, zT_in 755 (by decide +kernel) rfl⟩
theorem fl_M_60 : Fdk "LawWorldsModel" 60 9 3 := ⟨by decide, by decide, rfl, zT_in 756 (by decide +kernel) rfl⟩
theorem fl_M_19 : Fdk "LawWorldsModel" 19 9 4 := ⟨by decide, by decide, rfl, zT_in 757 (by decide +kernel) rfl⟩
theorem fl_M_195 : Fdk "LawWorldsModel" 195 9 5 := ⟨by decide, by decide, rfl, zT_in 758 (by decide +kernel) rfl⟩
theorem fl_M_22 : Fdk "LawWorldsModel" 22 9 6 := ⟨by decide, by decide, rfl, zT_in 759 (by decide +kernel) rfl⟩
theorem fl_M_25 : Fdk "LawWorldsModel" 25 9 7 := ⟨by decide, by decide, rfl, zT_in 760 (by decide +kernel) rfl⟩
theorem fl_M_28 : Fdk "LawWorldsModel" 28 9 8 := ⟨by decide, by decide, rfl, zT_in 761 (by decide +kernel) rfl⟩
theorem fl_M_31 : Fdk "LawWorldsModel" 31 9 9 := ⟨by decide, by decide, rfl, zT_in 762 (by decide +kernel) rfl⟩
theorem fl_M_34 : Fdk "LawWorldsModel" 34 9 10 := ⟨by decide, by decide, rfl, zT_in 763 (by decide +kernel) rfl⟩
theorem fl_M_37 : Fdk "LawWorldsModel" 37 9 11 := ⟨by decide, by decide, rfl, zT_in 764 (by decide +kernel) rfl⟩
theorem fl_M_100 : Fdk "LawWorldsModel" 100 9 12 := ⟨by decide, by decide, rfl, zT_in 765 (by decide +kernel) rfl⟩
theorem fl_M_40 : Fdk "LawWorldsModel" 40 9 13 := ⟨by decide, by decide, rfl, zT_in 766 (by decide +kernel) rfl⟩
theorem fl_M_117 : Fdk "LawWorldsModel" 117 9 14 := ⟨by decide, by decide, rfl, zT_in 767 (by decide +kernel) rfl⟩
theorem fl_M_43 : Fdk "LawWorldsModel" 43 9 15 := ⟨by decide, by decide, rfl, zT_in 768 (by decide +kernel) rfl⟩
theorem fl_M_150 : Fdk "LawWorldsModel" 150 9 16 := ⟨by decide, by decide, rfl, zT_in 769 (by decide +kernel) rfl⟩
theorem fl_M_46 : Fdk "LawWorldsModel" 46 9 17 := ⟨by decide, by decide, rfl, zT_in 770 (by decide +kernel) rfl⟩
theorem fl_M_172 : Fdk "LawWorldsModel" 172 9 18 := ⟨by decide, by decide, rfl, zT_in 771 (by decide +kernel) rfl⟩
theorem fl_M_153 : Fdk "LawWorldsModel" 153 9 19 := ⟨by decide, by decide, rfl, zT_in 772 (by decide +kernel) rfl⟩
theorem fl_M_156 : Fdk "LawWorldsModel" 156 9 20 := ⟨by decide, by decide, rfl, zT_in 773 (by decide +kernel) rfl⟩
theorem fl_M_159 : Fdk "LawWorldsModel" 159 9 21 := ⟨by decide, by decide, rfl, zT_in 774 (by decide +kernel) rfl⟩
theorem fl_M_49 : Fdk "LawWorldsModel" 49 9 22 := ⟨by decide, by decide, rfl, zT_in 775 (by decide +kernel) rfl⟩
/-- a method as the tables have it -/
def Mk (y : MethodName) (b : ByteArray) (maxL : Nat) (ret : Option FieldType) (n : Nat) : Prop := Cond.code y b maxL ret ∈ zT ∧ Cond.initialized y.cls ∈ zT ∧ y.cls ≠ "java/lang/invoke/MethodHandle" ∧ y.cls ≠ "java/lang/invoke/VarHandle" ∧ (parseMethodDescriptor y.desc).map (fun d => d.parameters.length) = some n
abbrev b_X_init : ByteArray := prog_1_method_1_code
def y_X_init : MethodName := ⟨"LawWorlds", "<init>", "()V"⟩
theorem mk_X_init : Mk y_X_init b_X_init 1 none 0 := ⟨zT_in 75 (by decide +kernel) rfl, zT_in 58 (by decide +kernel) rfl, by decide +kernel, by decide +kernel, by decide +kernel⟩
theorem mi_X_init : Cond.instanceMethod y_X_init ∈ zT := zT_in 74 (by decide +kernel) rfl
abbrev b_S_init : ByteArray := prog_10_method_1_code
def y_S_init : MethodName := ⟨"LawWorlds$State", "<init>", "()V"⟩
theorem mk_S_init : Mk y_S_init b_S_init 1 none 0 := ⟨zT_in 83 (by decide +kernel) rfl, zT_in 59 (by decide +kernel) rfl, by decide +kernel, by decide +kernel, by decide +kernel⟩
theorem mi_S_init : Cond.instanceMethod y_S_init ∈ zT := zT_in 82 (by decide +kernel) rfl
abbrev b_H_init : ByteArray := prog_4_method_1_code
def y_H_init : MethodName := ⟨"LawWorlds$History", "<init>", "()V"⟩
theorem mk_H_init : Mk y_H_init b_H_init 1 none 0 := ⟨zT_in 114 (by decide +kernel) rfl, zT_in 60 (by decide +kernel) rfl, by decide +kernel, by decide +kernel, by decide +kernel⟩
theorem mi_H_init : Cond.instanceMethod y_H_init ∈ zT := zT_in 113 (by decide +kernel) rfl
abbrev b_F_init : ByteArray := prog_9_method_1_code
def y_F_init : MethodName := ⟨"LawWorlds$Shelf", "<init>", "()V"⟩
theorem mk_F_init : Mk y_F_init b_F_init 2 none 0 := ⟨zT_in 138 (by decide +kernel) rfl, zT_in 61 (by decide +kernel) rfl, by decide +kernel, by decide +kernel, by decide +kernel⟩
theorem mi_F_init : Cond.instanceMethod y_F_init ∈ zT := zT_in 137 (by decide +kernel) rfl
abbrev b_L_init : ByteArray := prog_5_method_1_code
def y_L_init : MethodName := ⟨"LawWorlds$Law", "<init>", "()V"⟩
theorem mk_L_init : Mk y_L_init b_L_init 1 none 0 := ⟨zT_in 144 (by decide +kernel) rfl, zT_in 62 (by decide +kernel) rfl, by decide +kernel, by decide +kernel, by decide +kernel⟩
theorem mi_L_init : Cond.instanceMethod y_L_init ∈ zT := zT_in 143 (by decide +kernel) rfl
abbrev b_B_init : ByteArray := prog_2_method_1_code
def y_B_init : MethodName := ⟨"LawWorlds$Bench", "<init>", "()V"⟩
theorem mk_B_init : Mk y_B_init b_B_init 1 none 0 := ⟨zT_in 180 (by decide +kernel) rfl, zT_in 63 (by decide +kernel) rfl, by decide +kernel, by decide +kernel, by decide +kernel⟩
theorem mi_B_init : Cond.instanceMethod y_B_init ∈ zT := zT_in 179 (by decide +kernel) rfl
abbrev b_E_init : ByteArray := prog_8_method_1_code
def y_E_init : MethodName := ⟨"LawWorlds$Search", "<init>", "()V"⟩
theorem mk_E_init : Mk y_E_init b_E_init 1 none 0 := ⟨zT_in 202 (by decide +kernel) rfl, zT_in 64 (by decide +kernel) rfl, by decide +kernel, by decide +kernel, by decide +kernel⟩
theorem mi_E_init : Cond.instanceMethod y_E_init ∈ zT := zT_in 201 (by decide +kernel) rfl
abbrev b_P_init : ByteArray := prog_6_method_1_code
def y_P_init : MethodName := ⟨"LawWorlds$PlainWorlds", "<init>", "()V"⟩
theorem mk_P_init : Mk y_P_init b_P_init 1 none 0 := ⟨zT_in 210 (by decide +kernel) rfl, zT_in 65 (by decide +kernel) rfl, by decide +kernel, by decide +kernel, by decide +kernel⟩
theorem mi_P_init : Cond.instanceMethod y_P_init ∈ zT := zT_in 209 (by decide +kernel) rfl
abbrev b_D_init : ByteArray := prog_7_method_1_code
def y_D_init : MethodName := ⟨"LawWorlds$Reader", "<init>", "()V"⟩
theorem mk_D_init : Mk y_D_init b_D_init 1 none 0 := ⟨zT_in 253 (by decide +kernel) rfl, zT_in 66 (by decide +kernel) rfl, by decide +kernel, by decide +kernel, by decide +kernel⟩
theorem mi_D_init : Cond.instanceMethod y_D_init ∈ zT := zT_in 252 (by decide +kernel) rfl
abbrev b_X_take : ByteArray := prog_1_method_2_code
def y_X_take : MethodName := ⟨"LawWorlds", "take", "(II)I"⟩
theorem mk_X_take : Mk y_X_take b_X_take 4 (some (.int)) 2 := ⟨zT_in 311 (by decide +kernel) rfl, zT_in 58 (by decide +kernel) rfl, by decide +kernel, by decide +kernel, by decide +kernel⟩
theorem mi_X_take : Cond.instanceMethod y_X_take ∈ zT := zT_in 309 (by decide +kernel) rfl
theorem ms_X_take : Cond.selects "LawWorlds" y_X_take y_X_take ∈ zT := zT_in 310 (by decide +kernel) rfl
abbrev b_C_isCode : ByteArray := prog_3_method_3_code
def y_C_isCode : MethodName := ⟨"LawWorlds$Codes", "isCode", "(II)Z"⟩
theorem mk_C_isCode : Mk y_C_isCode b_C_isCode 2 (some (.boolean)) 2 := ⟨zT_in 314 (by decide +kernel) rfl, zT_in 68 (by decide +kernel) rfl, by decide +kernel, by decide +kernel, by decide +kernel⟩
theorem mt_C_isCode : Cond.static y_C_isCode ∈ zT := zT_in 313 (by decide +kernel) rfl
abbrev b_C_isSize : ByteArray := prog_3_method_2_code
def y_C_isSize : MethodName := ⟨"LawWorlds$Codes", "isSize", "(I)Z"⟩
theorem mk_C_isSize : Mk y_C_isSize b_C_isSize 1 (some (.boolean)) 1 := ⟨zT_in 317 (by decide +kernel) rfl, zT_in 68 (by decide +kernel) rfl, by decide +kernel, by decide +kernel, by decide +kernel⟩
theorem mt_C_isSize : Cond.static y_C_isSize ∈ zT := zT_in 316 (by decide +kernel) rfl
abbrev b_C_worldCount : ByteArray := prog_3_method_4_code
def y_C_worldCount : MethodName := ⟨"LawWorlds$Codes", "worldCount", "(I)I"⟩
theorem mk_C_worldCount : Mk y_C_worldCount b_C_worldCount 1 (some (.int)) 1 := ⟨zT_in 320 (by decide +kernel) rfl, zT_in 68 (by decide +kernel) rfl, by decide +kernel, by decide +kernel, by decide +kernel⟩
theorem mt_C_worldCount : Cond.static y_C_worldCount ∈ zT := zT_in 319 (by decide +kernel) rfl
abbrev b_H_record : ByteArray := prog_4_method_2_code
def y_H_record : MethodName := ⟨"LawWorlds$History", "record", "(LLawWorlds$State;)V"⟩
theorem mk_H_record : Mk y_H_record b_H_record 2 none 1 := ⟨zT_in 324 (by decide +kernel) rfl, zT_in 60 (by decide +kernel) rfl, by decide +kernel, by decide +kernel, by decide +kernel⟩
theorem mi_H_record : Cond.instanceMethod y_H_record ∈ zT := zT_in 322 (by decide +kernel) rfl
theorem ms_H_record : Cond.selects "LawWorlds$History" y_H_record y_H_record ∈ zT := zT_in 323 (by decide +kernel) rfl
abbrev b_H_dropOldest : ByteArray := prog_4_method_3_code
def y_H_dropOldest : MethodName := ⟨"LawWorlds$History", "dropOldest", "()V"⟩
theorem mk_H_dropOldest : Mk y_H_dropOldest b_H_dropOldest 3 none 0 := ⟨zT_in 328 (by decide +kernel) rfl, zT_in 60 (by decide +kernel) rfl, by decide +kernel, by decide +kernel, by decide +kernel⟩
theorem mi_H_dropOldest : Cond.instanceMethod y_H_dropOldest ∈ zT := zT_in 327 (by decide +kernel) rfl
theorem ms_H_dropOldest : Cond.selects "LawWorlds$History" y_H_dropOldest y_H_dropOldest ∈ zT := zT_in 0 (by decide +kernel) rfl
abbrev b_S_copyFrom : ByteArray := prog_10_method_2_code
def y_S_copyFrom : MethodName := ⟨"LawWorlds$State", "copyFrom", "(LLawWorlds$State;)V"⟩
theorem mk_S_copyFrom : Mk y_S_copyFrom b_S_copyFrom 3 none 1 := ⟨zT_in 332 (by decide +kernel) rfl, zT_in 59 (by decide +kernel) rfl, by decide +kernel, by decide +kernel, by decide +kernel⟩
theorem mi_S_copyFrom : Cond.instanceMethod y_S_copyFrom ∈ zT := zT_in 330 (by decide +kernel) rfl
theorem ms_S_copyFrom : Cond.selects "LawWorlds$State" y_S_copyFrom y_S_copyFrom ∈ zT := zT_in 331 (by decide +kernel) rfl
abbrev b_X_put : ByteArray := prog_1_method_3_code
def y_X_put : MethodName := ⟨"LawWorlds", "put", "(III)I"⟩
theorem mk_X_put : Mk y_X_put b_X_put 5 (some (.int)) 3 := ⟨zT_in 336 (by decide +kernel) rfl, zT_in 58 (by decide +kernel) rfl, by decide +kernel, by decide +kernel, by decide +kernel⟩
theorem mi_X_put : Cond.instanceMethod y_X_put ∈ zT := zT_in 334 (by decide +kernel) rfl
theorem ms_X_put : Cond.selects "LawWorlds" y_X_put y_X_put ∈ zT := zT_in 335 (by decide +kernel) rfl
abbrev b_X_isThing : ByteArray := prog_1_method_6_code
def y_X_isThing : MethodName := ⟨"LawWorlds", "isThing", "(I)Z"⟩
theorem mk_X_isThing : Mk y_X_isThing b_X_isThing 2 (some (.boolean)) 1 := ⟨zT_in 340 (by decide +kernel) rfl, zT_in 58 (by decide +kernel) rfl, by decide +kernel, by decide +kernel, by decide +kernel⟩
theorem mi_X_isThing : Cond.instanceMethod y_X_isThing ∈ zT := zT_in 339 (by decide +kernel) rfl
theorem ms_X_isThing : Cond.selects "LawWorlds" y_X_isThing y_X_isThing ∈ zT := zT_in 1 (by decide +kernel) rfl
abbrev b_C_product : ByteArray := prog_3_method_7_code
def y_C_product : MethodName := ⟨"LawWorlds$Codes", "product", "(IIII)I"⟩
theorem mk_C_product : Mk y_C_product b_C_product 5 (some (.int)) 4 := ⟨zT_in 343 (by decide +kernel) rfl, zT_in 68 (by decide +kernel) rfl, by decide +kernel, by decide +kernel, by decide +kernel⟩
theorem mt_C_product : Cond.static y_C_product ∈ zT := zT_in 342 (by decide +kernel) rfl
abbrev b_C_power : ByteArray := prog_3_method_6_code
def y_C_power : MethodName := ⟨"LawWorlds$Codes", "power", "(II)I"⟩
theorem mk_C_power : Mk y_C_power b_C_power 2 (some (.int)) 2 := ⟨zT_in 346 (by decide +kernel) rfl, zT_in 68 (by decide +kernel) rfl, by decide +kernel, by decide +kernel, by decide +kernel⟩
theorem mt_C_power : Cond.static y_C_power ∈ zT := zT_in 345 (by decide +kernel) rfl
abbrev b_X_changeTo : ByteArray := prog_1_method_7_code
def y_X_changeTo : MethodName := ⟨"LawWorlds", "changeTo", "(I)I"⟩
theorem mk_X_changeTo : Mk y_X_changeTo b_X_changeTo 2 (some (.int)) 1 := ⟨zT_in 353 (by decide +kernel) rfl, zT_in 58 (by decide +kernel) rfl, by decide +kernel, by decide +kernel, by decide +kernel⟩
theorem mi_X_changeTo : Cond.instanceMethod y_X_changeTo ∈ zT := zT_in 352 (by decide +kernel) rfl
theorem ms_X_changeTo : Cond.selects "LawWorlds" y_X_changeTo y_X_changeTo ∈ zT := zT_in 2 (by decide +kernel) rfl
abbrev b_X_rename : ByteArray := prog_1_method_4_code
def y_X_rename : MethodName := ⟨"LawWorlds", "rename", "(II)I"⟩
theorem mk_X_rename : Mk y_X_rename b_X_rename 3 (some (.int)) 2 := ⟨zT_in 357 (by decide +kernel) rfl, zT_in 58 (by decide +kernel) rfl, by decide +kernel, by decide +kernel, by decide +kernel⟩
theorem mi_X_rename : Cond.instanceMethod y_X_rename ∈ zT := zT_in 355 (by decide +kernel) rfl
theorem ms_X_rename : Cond.selects "LawWorlds" y_X_rename y_X_rename ∈ zT := zT_in 356 (by decide +kernel) rfl
abbrev b_C_exchange : ByteArray := prog_3_method_8_code
def y_C_exchange : MethodName := ⟨"LawWorlds$Codes", "exchange", "(II)I"⟩
theorem mk_C_exchange : Mk y_C_exchange b_C_exchange 2 (some (.int)) 2 := ⟨zT_in 360 (by decide +kernel) rfl, zT_in 68 (by decide +kernel) rfl, by decide +kernel, by decide +kernel, by decide +kernel⟩
theorem mt_C_exchange : Cond.static y_C_exchange ∈ zT := zT_in 359 (by decide +kernel) rfl
abbrev b_C_renamed : ByteArray := prog_3_method_10_code
def y_C_renamed : MethodName := ⟨"LawWorlds$Codes", "renamed", "(III)I"⟩
theorem mk_C_renamed : Mk y_C_renamed b_C_renamed 9 (some (.int)) 3 := ⟨zT_in 363 (by decide +kernel) rfl, zT_in 68 (by decide +kernel) rfl, by decide +kernel, by decide +kernel, by decide +kernel⟩
theorem mt_C_renamed : Cond.static y_C_renamed ∈ zT := zT_in 362 (by decide +kernel) rfl
abbrev b_C_newName : ByteArray := prog_3_method_9_code
def y_C_newName : MethodName := ⟨"LawWorlds$Codes", "newName", "(II)I"⟩
theorem mk_C_newName : Mk y_C_newName b_C_newName 3 (some (.int)) 2 := ⟨zT_in 366 (by decide +kernel) rfl, zT_in 68 (by decide +kernel) rfl, by decide +kernel, by decide +kernel, by decide +kernel⟩
theorem mt_C_newName : Cond.static y_C_newName ∈ zT := zT_in 365 (by decide +kernel) rfl
abbrev b_X_mirror : ByteArray := prog_1_method_5_code
def y_X_mirror : MethodName := ⟨"LawWorlds", "mirror", "()I"⟩
theorem mk_X_mirror : Mk y_X_mirror b_X_mirror 1 (some (.int)) 0 := ⟨zT_in 372 (by decide +kernel) rfl, zT_in 58 (by decide +kernel) rfl, by decide +kernel, by decide +kernel, by decide +kernel⟩
theorem mi_X_mirror : Cond.instanceMethod y_X_mirror ∈ zT := zT_in 370 (by decide +kernel) rfl
theorem ms_X_mirror : Cond.selects "LawWorlds" y_X_mirror y_X_mirror ∈ zT := zT_in 371 (by decide +kernel) rfl
abbrev b_C_mirrored : ByteArray := prog_3_method_11_code
def y_C_mirrored : MethodName := ⟨"LawWorlds$Codes", "mirrored", "(II)I"⟩
theorem mk_C_mirrored : Mk y_C_mirrored b_C_mirrored 5 (some (.int)) 2 := ⟨zT_in 375 (by decide +kernel) rfl, zT_in 68 (by decide +kernel) rfl, by decide +kernel, by decide +kernel, by decide +kernel⟩
theorem mt_C_mirrored : Cond.static y_C_mirrored ∈ zT := zT_in 374 (by decide +kernel) rfl
abbrev b_X_addLaws : ByteArray := prog_1_method_8_code
def y_X_addLaws : MethodName := ⟨"LawWorlds", "addLaws", "()I"⟩
theorem mk_X_addLaws : Mk y_X_addLaws b_X_addLaws 3 (some (.int)) 0 := ⟨zT_in 380 (by decide +kernel) rfl, zT_in 58 (by decide +kernel) rfl, by decide +kernel, by decide +kernel, by decide +kernel⟩
theorem mi_X_addLaws : Cond.instanceMethod y_X_addLaws ∈ zT := zT_in 378 (by decide +kernel) rfl
theorem ms_X_addLaws : Cond.selects "LawWorlds" y_X_addLaws y_X_addLaws ∈ zT := zT_in 379 (by decide +kernel) rfl
abbrev b_D_read : ByteArray := prog_7_method_2_code
def y_D_read : MethodName := ⟨"LawWorlds$Reader", "read", "([CI)I"⟩
theorem mk_D_read : Mk y_D_read b_D_read 4 (some (.int)) 2 := ⟨zT_in 384 (by decide +kernel) rfl, zT_in 66 (by decide +kernel) rfl, by decide +kernel, by decide +kernel, by decide +kernel⟩
theorem mi_D_read : Cond.instanceMethod y_D_read ∈ zT := zT_in 382 (by decide +kernel) rfl
theorem ms_D_read : Cond.selects "LawWorlds$Reader" y_D_read y_D_read ∈ zT := zT_in 383 (by decide +kernel) rfl
abbrev b_D_beginSide : ByteArray := prog_7_method_6_code
def y_D_beginSide : MethodName := ⟨"LawWorlds$Reader", "beginSide", "(Z)V"⟩
theorem mk_D_beginSide : Mk y_D_beginSide b_D_beginSide 2 none 1 := ⟨zT_in 388 (by decide +kernel) rfl, zT_in 66 (by decide +kernel) rfl, by decide +kernel, by decide +kernel, by decide +kernel⟩
theorem mi_D_beginSide : Cond.instanceMethod y_D_beginSide ∈ zT := zT_in 387 (by decide +kernel) rfl
theorem ms_D_beginSide : Cond.selects "LawWorlds$Reader" y_D_beginSide y_D_beginSide ∈ zT := zT_in 3 (by decide +kernel) rfl
abbrev b_D_accept : ByteArray := prog_7_method_5_code
def y_D_accept : MethodName := ⟨"LawWorlds$Reader", "accept", "(C)Z"⟩
theorem mk_D_accept : Mk y_D_accept b_D_accept 2 (some (.boolean)) 1 := ⟨zT_in 392 (by decide +kernel) rfl, zT_in 66 (by decide +kernel) rfl, by decide +kernel, by decide +kernel, by decide +kernel⟩
theorem mi_D_accept : Cond.instanceMethod y_D_accept ∈ zT := zT_in 391 (by decide +kernel) rfl
theorem ms_D_accept : Cond.selects "LawWorlds$Reader" y_D_accept y_D_accept ∈ zT := zT_in 4 (by decide +kernel) rfl
abbrev b_D_addLetter : ByteArray := prog_7_method_8_code
def y_D_addLetter : MethodName := ⟨"LawWorlds$Reader", "addLetter", "(I)Z"⟩
theorem mk_D_addLetter : Mk y_D_addLetter b_D_addLetter 2 (some (.boolean)) 1 := ⟨zT_in 396 (by decide +kernel) rfl, zT_in 66 (by decide +kernel) rfl, by decide +kernel, by decide +kernel, by decide +kernel⟩
theorem mi_D_addLetter : Cond.instanceMethod y_D_addLetter ∈ zT := zT_in 395 (by decide +kernel) rfl
theorem ms_D_addLetter : Cond.selects "LawWorlds$Reader" y_D_addLetter y_D_addLetter ∈ zT := zT_in 5 (by decide +kernel) rfl
abbrev b_D_addStep : ByteArray := prog_7_method_14_code
def y_D_addStep : MethodName := ⟨"LawWorlds$Reader", "addStep", "(I)V"⟩
theorem mk_D_addStep : Mk y_D_addStep b_D_addStep 2 none 1 := ⟨zT_in 400 (by decide +kernel) rfl, zT_in 66 (by decide +kernel) rfl, by decide +kernel, by decide +kernel, by decide +kernel⟩
theorem mi_D_addStep : Cond.instanceMethod y_D_addStep ∈ zT := zT_in 399 (by decide +kernel) rfl
theorem ms_D_addStep : Cond.selects "LawWorlds$Reader" y_D_addStep y_D_addStep ∈ zT := zT_in 6 (by decide +kernel) rfl
abbrev b_D_endPart : ByteArray := prog_7_method_13_code
def y_D_endPart : MethodName := ⟨"LawWorlds$Reader", "endPart", "()V"⟩
theorem mk_D_endPart : Mk y_D_endPart b_D_endPart 1 none 0 := ⟨zT_in 404 (by decide +kernel) rfl, zT_in 66 (by decide +kernel) rfl, by decide +kernel, by decide +kernel, by decide +kernel⟩
theorem mi_D_endPart : Cond.instanceMethod y_D_endPart ∈ zT := zT_in 403 (by decide +kernel) rfl
theorem ms_D_endPart : Cond.selects "LawWorlds$Reader" y_D_endPart y_D_endPart ∈ zT := zT_in 7 (by decide +kernel) rfl
abbrev b_D_openBracket : ByteArray := prog_7_method_9_code
def y_D_openBracket : MethodName := ⟨"LawWorlds$Reader", "openBracket", "()Z"⟩
theorem mk_D_openBracket : Mk y_D_openBracket b_D_openBracket 1 (some (.boolean)) 0 := ⟨zT_in 408 (by decide +kernel) rfl, zT_in 66 (by decide +kernel) rfl, by decide +kernel, by decide +kernel, by decide +kernel⟩
theorem mi_D_openBracket : Cond.instanceMethod y_D_openBracket ∈ zT := zT_in 407 (by decide +kernel) rfl
theorem ms_D_openBracket : Cond.selects "LawWorlds$Reader" y_D_openBracket y_D_openBracket ∈ zT := zT_in 8 (by decide +kernel) rfl
abbrev b_D_closeBracket : ByteArray := prog_7_method_10_code
def y_D_closeBracket : MethodName := ⟨"LawWorlds$Reader", "closeBracket", "()Z"⟩
theorem mk_D_closeBracket : Mk y_D_closeBracket b_D_closeBracket 1 (some (.boolean)) 0 := ⟨zT_in 412 (by decide +kernel) rfl, zT_in 66 (by decide +kernel) rfl, by decide +kernel, by decide +kernel, by decide +kernel⟩
theorem mi_D_closeBracket : Cond.instanceMethod y_D_closeBracket ∈ zT := zT_in 411 (by decide +kernel) rfl
theorem ms_D_closeBracket : Cond.selects "LawWorlds$Reader" y_D_closeBracket y_D_closeBracket ∈ zT := zT_in 9 (by decide +kernel) rfl
abbrev b_D_endLeft : ByteArray := prog_7_method_11_code
def y_D_endLeft : MethodName := ⟨"LawWorlds$Reader", "endLeft", "()Z"⟩
theorem mk_D_endLeft : Mk y_D_endLeft b_D_endLeft 1 (some (.boolean)) 0 := ⟨zT_in 416 (by decide +kernel) rfl, zT_in 66 (by decide +kernel) rfl, by decide +kernel, by decide +kernel, by decide +kernel⟩
theorem mi_D_endLeft : Cond.instanceMethod y_D_endLeft ∈ zT := zT_in 415 (by decide +kernel) rfl
theorem ms_D_endLeft : Cond.selects "LawWorlds$Reader" y_D_endLeft y_D_endLeft ∈ zT := zT_in 10 (by decide +kernel) rfl
abbrev b_D_isSideWhole : ByteArray := prog_7_method_7_code
def y_D_isSideWhole : MethodName := ⟨"LawWorlds$Reader", "isSideWhole", "()Z"⟩
theorem mk_D_isSideWhole : Mk y_D_isSideWhole b_D_isSideWhole 1 (some (.boolean)) 0 := ⟨zT_in 420 (by decide +kernel) rfl, zT_in 66 (by decide +kernel) rfl, by decide +kernel, by decide +kernel, by decide +kernel⟩
theorem mi_D_isSideWhole : Cond.instanceMethod y_D_isSideWhole ∈ zT := zT_in 419 (by decide +kernel) rfl
theorem ms_D_isSideWhole : Cond.selects "LawWorlds$Reader" y_D_isSideWhole y_D_isSideWhole ∈ zT := zT_in 11 (by decide +kernel) rfl
abbrev b_D_endLaw : ByteArray := prog_7_method_12_code
def y_D_endLaw : MethodName := ⟨"LawWorlds$Reader", "endLaw", "()Z"⟩
theorem mk_D_endLaw : Mk y_D_endLaw b_D_endLaw 1 (some (.boolean)) 0 := ⟨zT_in 424 (by decide +kernel) rfl, zT_in 66 (by decide +kernel) rfl, by decide +kernel, by decide +kernel, by decide +kernel⟩
theorem mi_D_endLaw : Cond.instanceMethod y_D_endLaw ∈ zT := zT_in 423 (by decide +kernel) rfl
theorem ms_D_endLaw : Cond.selects "LawWorlds$Reader" y_D_endLaw y_D_endLaw ∈ zT := zT_in 12 (by decide +kernel) rfl
abbrev b_F_bring : ByteArray := prog_9_method_2_code
def y_F_bring : MethodName := ⟨"LawWorlds$Shelf", "bring", "(LLawWorlds$Reader;ILLawWorlds$State;LLawWorlds$History;)LLawWorlds$Law;"⟩
theorem mk_F_bring : Mk y_F_bring b_F_bring 8 (some (.object "LawWorlds$Law")) 4 := ⟨zT_in 428 (by decide +kernel) rfl, zT_in 61 (by decide +kernel) rfl, by decide +kernel, by decide +kernel, by decide +kernel⟩
theorem mi_F_bring : Cond.instanceMethod y_F_bring ∈ zT := zT_in 426 (by decide +kernel) rfl
theorem ms_F_bring : Cond.selects "LawWorlds$Shelf" y_F_bring y_F_bring ∈ zT := zT_in 427 (by decide +kernel) rfl
abbrev b_D_lawStart : ByteArray := prog_7_method_3_code
def y_D_lawStart : MethodName := ⟨"LawWorlds$Reader", "lawStart", "(I)I"⟩
theorem mk_D_lawStart : Mk y_D_lawStart b_D_lawStart 2 (some (.int)) 1 := ⟨zT_in 432 (by decide +kernel) rfl, zT_in 66 (by decide +kernel) rfl, by decide +kernel, by decide +kernel, by decide +kernel⟩
theorem mi_D_lawStart : Cond.instanceMethod y_D_lawStart ∈ zT := zT_in 430 (by decide +kernel) rfl
theorem ms_D_lawStart : Cond.selects "LawWorlds$Reader" y_D_lawStart y_D_lawStart ∈ zT := zT_in 431 (by decide +kernel) rfl
abbrev b_D_lawEnd : ByteArray := prog_7_method_4_code
def y_D_lawEnd : MethodName := ⟨"LawWorlds$Reader", "lawEnd", "(I)I"⟩
theorem mk_D_lawEnd : Mk y_D_lawEnd b_D_lawEnd 2 (some (.int)) 1 := ⟨zT_in 436 (by decide +kernel) rfl, zT_in 66 (by decide +kernel) rfl, by decide +kernel, by decide +kernel, by decide +kernel⟩
theorem mi_D_lawEnd : Cond.instanceMethod y_D_lawEnd ∈ zT := zT_in 434 (by decide +kernel) rfl
theorem ms_D_lawEnd : Cond.selects "LawWorlds$Reader" y_D_lawEnd y_D_lawEnd ∈ zT := zT_in 435 (by decide +kernel) rfl
abbrev b_L_hasSteps : ByteArray := prog_5_method_3_code
def y_L_hasSteps : MethodName := ⟨"LawWorlds$Law", "hasSteps", "([III)Z"⟩
theorem mk_L_hasSteps : Mk y_L_hasSteps b_L_hasSteps 5 (some (.boolean)) 3 := ⟨zT_in 441 (by decide +kernel) rfl, zT_in 62 (by decide +kernel) rfl, by decide +kernel, by decide +kernel, by decide +kernel⟩
theorem mi_L_hasSteps : Cond.instanceMethod y_L_hasSteps ∈ zT := zT_in 439 (by decide +kernel) rfl
theorem ms_L_hasSteps : Cond.selects "LawWorlds$Law" y_L_hasSteps y_L_hasSteps ∈ zT := zT_in 440 (by decide +kernel) rfl
abbrev b_S_uses : ByteArray := prog_10_method_8_code
def y_S_uses : MethodName := ⟨"LawWorlds$State", "uses", "(LLawWorlds$Law;)Z"⟩
theorem mk_S_uses : Mk y_S_uses b_S_uses 3 (some (.boolean)) 1 := ⟨zT_in 445 (by decide +kernel) rfl, zT_in 59 (by decide +kernel) rfl, by decide +kernel, by decide +kernel, by decide +kernel⟩
theorem mi_S_uses : Cond.instanceMethod y_S_uses ∈ zT := zT_in 443 (by decide +kernel) rfl
theorem ms_S_uses : Cond.selects "LawWorlds$State" y_S_uses y_S_uses ∈ zT := zT_in 444 (by decide +kernel) rfl
abbrev b_H_uses : ByteArray := prog_4_method_7_code
def y_H_uses : MethodName := ⟨"LawWorlds$History", "uses", "(LLawWorlds$Law;)Z"⟩
theorem mk_H_uses : Mk y_H_uses b_H_uses 3 (some (.boolean)) 1 := ⟨zT_in 449 (by decide +kernel) rfl, zT_in 60 (by decide +kernel) rfl, by decide +kernel, by decide +kernel, by decide +kernel⟩
theorem mi_H_uses : Cond.instanceMethod y_H_uses ∈ zT := zT_in 447 (by decide +kernel) rfl
theorem ms_H_uses : Cond.selects "LawWorlds$History" y_H_uses y_H_uses ∈ zT := zT_in 448 (by decide +kernel) rfl
abbrev b_L_become : ByteArray := prog_5_method_2_code
def y_L_become : MethodName := ⟨"LawWorlds$Law", "become", "([III)V"⟩
theorem mk_L_become : Mk y_L_become b_L_become 5 none 3 := ⟨zT_in 454 (by decide +kernel) rfl, zT_in 62 (by decide +kernel) rfl, by decide +kernel, by decide +kernel, by decide +kernel⟩
theorem mi_L_become : Cond.instanceMethod y_L_become ∈ zT := zT_in 452 (by decide +kernel) rfl
theorem ms_L_become : Cond.selects "LawWorlds$Law" y_L_become y_L_become ∈ zT := zT_in 453 (by decide +kernel) rfl
abbrev b_S_add : ByteArray := prog_10_method_5_code
def y_S_add : MethodName := ⟨"LawWorlds$State", "add", "(LLawWorlds$Law;)V"⟩
theorem mk_S_add : Mk y_S_add b_S_add 2 none 1 := ⟨zT_in 458 (by decide +kernel) rfl, zT_in 59 (by decide +kernel) rfl, by decide +kernel, by decide +kernel, by decide +kernel⟩
theorem mi_S_add : Cond.instanceMethod y_S_add ∈ zT := zT_in 456 (by decide +kernel) rfl
theorem ms_S_add : Cond.selects "LawWorlds$State" y_S_add y_S_add ∈ zT := zT_in 457 (by decide +kernel) rfl
abbrev b_X_removeLaw : ByteArray := prog_1_method_9_code
def y_X_removeLaw : MethodName := ⟨"LawWorlds", "removeLaw", "(I)I"⟩
theorem mk_X_removeLaw : Mk y_X_removeLaw b_X_removeLaw 2 (some (.int)) 1 := ⟨zT_in 462 (by decide +kernel) rfl, zT_in 58 (by decide +kernel) rfl, by decide +kernel, by decide +kernel, by decide +kernel⟩
theorem mi_X_removeLaw : Cond.instanceMethod y_X_removeLaw ∈ zT := zT_in 460 (by decide +kernel) rfl
theorem ms_X_removeLaw : Cond.selects "LawWorlds" y_X_removeLaw y_X_removeLaw ∈ zT := zT_in 461 (by decide +kernel) rfl
abbrev b_S_hasLaw : ByteArray := prog_10_method_3_code
def y_S_hasLaw : MethodName := ⟨"LawWorlds$State", "hasLaw", "(I)Z"⟩
theorem mk_S_hasLaw : Mk y_S_hasLaw b_S_hasLaw 2 (some (.boolean)) 1 := ⟨zT_in 466 (by decide +kernel) rfl, zT_in 59 (by decide +kernel) rfl, by decide +kernel, by decide +kernel, by decide +kernel⟩
theorem mi_S_hasLaw : Cond.instanceMethod y_S_hasLaw ∈ zT := zT_in 464 (by decide +kernel) rfl
theorem ms_S_hasLaw : Cond.selects "LawWorlds$State" y_S_hasLaw y_S_hasLaw ∈ zT := zT_in 465 (by decide +kernel) rfl
abbrev b_S_remove : ByteArray := prog_10_method_6_code
def y_S_remove : MethodName := ⟨"LawWorlds$State", "remove", "(I)V"⟩
theorem mk_S_remove : Mk y_S_remove b_S_remove 3 none 1 := ⟨zT_in 470 (by decide +kernel) rfl, zT_in 59 (by decide +kernel) rfl, by decide +kernel, by decide +kernel, by decide +kernel⟩
theorem mi_S_remove : Cond.instanceMethod y_S_remove ∈ zT := zT_in 468 (by decide +kernel) rfl
theorem ms_S_remove : Cond.selects "LawWorlds$State" y_S_remove y_S_remove ∈ zT := zT_in 469 (by decide +kernel) rfl
abbrev b_X_turnLaw : ByteArray := prog_1_method_10_code
def y_X_turnLaw : MethodName := ⟨"LawWorlds", "turnLaw", "(IZ)I"⟩
theorem mk_X_turnLaw : Mk y_X_turnLaw b_X_turnLaw 3 (some (.int)) 2 := ⟨zT_in 475 (by decide +kernel) rfl, zT_in 58 (by decide +kernel) rfl, by decide +kernel, by decide +kernel, by decide +kernel⟩
theorem mi_X_turnLaw : Cond.instanceMethod y_X_turnLaw ∈ zT := zT_in 473 (by decide +kernel) rfl
theorem ms_X_turnLaw : Cond.selects "LawWorlds" y_X_turnLaw y_X_turnLaw ∈ zT := zT_in 474 (by decide +kernel) rfl
abbrev b_S_onCount : ByteArray := prog_10_method_7_code
def y_S_onCount : MethodName := ⟨"LawWorlds$State", "onCount", "()I"⟩
theorem mk_S_onCount : Mk y_S_onCount b_S_onCount 3 (some (.int)) 0 := ⟨zT_in 479 (by decide +kernel) rfl, zT_in 59 (by decide +kernel) rfl, by decide +kernel, by decide +kernel, by decide +kernel⟩
theorem mi_S_onCount : Cond.instanceMethod y_S_onCount ∈ zT := zT_in 477 (by decide +kernel) rfl
theorem ms_S_onCount : Cond.selects "LawWorlds$State" y_S_onCount y_S_onCount ∈ zT := zT_in 478 (by decide +kernel) rfl
abbrev b_X_refute : ByteArray := prog_1_method_11_code
def y_X_refute : MethodName := ⟨"LawWorlds", "refute", "(I)I"⟩
theorem mk_X_refute : Mk y_X_refute b_X_refute 2 (some (.int)) 1 := ⟨zT_in 483 (by decide +kernel) rfl, zT_in 58 (by decide +kernel) rfl, by decide +kernel, by decide +kernel, by decide +kernel⟩
theorem mi_X_refute : Cond.instanceMethod y_X_refute ∈ zT := zT_in 481 (by decide +kernel) rfl
theorem ms_X_refute : Cond.selects "LawWorlds" y_X_refute y_X_refute ∈ zT := zT_in 482 (by decide +kernel) rfl
abbrev b_E_findWitnesses : ByteArray := prog_8_method_4_code
def y_E_findWitnesses : MethodName := ⟨"LawWorlds$Search", "findWitnesses", "(LLawWorlds$State;I)I"⟩
theorem mk_E_findWitnesses : Mk y_E_findWitnesses b_E_findWitnesses 6 (some (.int)) 2 := ⟨zT_in 487 (by decide +kernel) rfl, zT_in 64 (by decide +kernel) rfl, by decide +kernel, by decide +kernel, by decide +kernel⟩
theorem mi_E_findWitnesses : Cond.instanceMethod y_E_findWitnesses ∈ zT := zT_in 485 (by decide +kernel) rfl
theorem ms_E_findWitnesses : Cond.selects "LawWorlds$Search" y_E_findWitnesses y_E_findWitnesses ∈ zT := zT_in 486 (by decide +kernel) rfl
abbrev b_S_lawAt : ByteArray := prog_10_method_4_code
def y_S_lawAt : MethodName := ⟨"LawWorlds$State", "lawAt", "(I)LLawWorlds$Law;"⟩
theorem mk_S_lawAt : Mk y_S_lawAt b_S_lawAt 2 (some (.object "LawWorlds$Law")) 1 := ⟨zT_in 491 (by decide +kernel) rfl, zT_in 59 (by decide +kernel) rfl, by decide +kernel, by decide +kernel, by decide +kernel⟩
theorem mi_S_lawAt : Cond.instanceMethod y_S_lawAt ∈ zT := zT_in 489 (by decide +kernel) rfl
theorem ms_S_lawAt : Cond.selects "LawWorlds$State" y_S_lawAt y_S_lawAt ∈ zT := zT_in 490 (by decide +kernel) rfl
abbrev b_P_list : ByteArray := prog_6_method_2_code
def y_P_list : MethodName := ⟨"LawWorlds$PlainWorlds", "list", "()V"⟩
theorem mk_P_list : Mk y_P_list b_P_list 4 none 0 := ⟨zT_in 495 (by decide +kernel) rfl, zT_in 65 (by decide +kernel) rfl, by decide +kernel, by decide +kernel, by decide +kernel⟩
theorem mi_P_list : Cond.instanceMethod y_P_list ∈ zT := zT_in 493 (by decide +kernel) rfl
theorem ms_P_list : Cond.selects "LawWorlds$PlainWorlds" y_P_list y_P_list ∈ zT := zT_in 494 (by decide +kernel) rfl
abbrev b_P_isIn : ByteArray := prog_6_method_4_code
def y_P_isIn : MethodName := ⟨"LawWorlds$PlainWorlds", "isIn", "([JI)Z"⟩
theorem mk_P_isIn : Mk y_P_isIn b_P_isIn 3 (some (.boolean)) 2 := ⟨zT_in 499 (by decide +kernel) rfl, zT_in 65 (by decide +kernel) rfl, by decide +kernel, by decide +kernel, by decide +kernel⟩
theorem mt_P_isIn : Cond.static y_P_isIn ∈ zT := zT_in 498 (by decide +kernel) rfl
abbrev b_P_add : ByteArray := prog_6_method_3_code
def y_P_add : MethodName := ⟨"LawWorlds$PlainWorlds", "add", "(II[J)V"⟩
theorem mk_P_add : Mk y_P_add b_P_add 8 none 3 := ⟨zT_in 503 (by decide +kernel) rfl, zT_in 65 (by decide +kernel) rfl, by decide +kernel, by decide +kernel, by decide +kernel⟩
theorem mi_P_add : Cond.instanceMethod y_P_add ∈ zT := zT_in 502 (by decide +kernel) rfl
theorem ms_P_add : Cond.selects "LawWorlds$PlainWorlds" y_P_add y_P_add ∈ zT := zT_in 13 (by decide +kernel) rfl
abbrev b_C_renamingCount : ByteArray := prog_3_method_5_code
def y_C_renamingCount : MethodName := ⟨"LawWorlds$Codes", "renamingCount", "(I)I"⟩
theorem mk_C_renamingCount : Mk y_C_renamingCount b_C_renamingCount 1 (some (.int)) 1 := ⟨zT_in 506 (by decide +kernel) rfl, zT_in 68 (by decide +kernel) rfl, by decide +kernel, by decide +kernel, by decide +kernel⟩
theorem mt_C_renamingCount : Cond.static y_C_renamingCount ∈ zT := zT_in 505 (by decide +kernel) rfl
abbrev b_E_demand : ByteArray := prog_8_method_6_code
def y_E_demand : MethodName := ⟨"LawWorlds$Search", "demand", "(LLawWorlds$State;I)V"⟩
theorem mk_E_demand : Mk y_E_demand b_E_demand 5 none 2 := ⟨zT_in 511 (by decide +kernel) rfl, zT_in 64 (by decide +kernel) rfl, by decide +kernel, by decide +kernel, by decide +kernel⟩
theorem mi_E_demand : Cond.instanceMethod y_E_demand ∈ zT := zT_in 510 (by decide +kernel) rfl
theorem ms_E_demand : Cond.selects "LawWorlds$Search" y_E_demand y_E_demand ∈ zT := zT_in 14 (by decide +kernel) rfl
abbrev b_E_countBroken : ByteArray := prog_8_method_7_code
def y_E_countBroken : MethodName := ⟨"LawWorlds$Search", "countBroken", "(LLawWorlds$Law;)V"⟩
theorem mk_E_countBroken : Mk y_E_countBroken b_E_countBroken 3 none 1 := ⟨zT_in 515 (by decide +kernel) rfl, zT_in 64 (by decide +kernel) rfl, by decide +kernel, by decide +kernel, by decide +kernel⟩
theorem mi_E_countBroken : Cond.instanceMethod y_E_countBroken ∈ zT := zT_in 514 (by decide +kernel) rfl
theorem ms_E_countBroken : Cond.selects "LawWorlds$Search" y_E_countBroken y_E_countBroken ∈ zT := zT_in 15 (by decide +kernel) rfl
abbrev b_P_sizeAt : ByteArray := prog_6_method_7_code
def y_P_sizeAt : MethodName := ⟨"LawWorlds$PlainWorlds", "sizeAt", "(I)I"⟩
theorem mk_P_sizeAt : Mk y_P_sizeAt b_P_sizeAt 2 (some (.int)) 1 := ⟨zT_in 519 (by decide +kernel) rfl, zT_in 65 (by decide +kernel) rfl, by decide +kernel, by decide +kernel, by decide +kernel⟩
theorem mi_P_sizeAt : Cond.instanceMethod y_P_sizeAt ∈ zT := zT_in 517 (by decide +kernel) rfl
theorem ms_P_sizeAt : Cond.selects "LawWorlds$PlainWorlds" y_P_sizeAt y_P_sizeAt ∈ zT := zT_in 518 (by decide +kernel) rfl
abbrev b_P_codeAt : ByteArray := prog_6_method_8_code
def y_P_codeAt : MethodName := ⟨"LawWorlds$PlainWorlds", "codeAt", "(I)I"⟩
theorem mk_P_codeAt : Mk y_P_codeAt b_P_codeAt 2 (some (.int)) 1 := ⟨zT_in 523 (by decide +kernel) rfl, zT_in 65 (by decide +kernel) rfl, by decide +kernel, by decide +kernel, by decide +kernel⟩
theorem mi_P_codeAt : Cond.instanceMethod y_P_codeAt ∈ zT := zT_in 521 (by decide +kernel) rfl
theorem ms_P_codeAt : Cond.selects "LawWorlds$PlainWorlds" y_P_codeAt y_P_codeAt ∈ zT := zT_in 522 (by decide +kernel) rfl
abbrev b_B_open : ByteArray := prog_2_method_2_code
def y_B_open : MethodName := ⟨"LawWorlds$Bench", "open", "(II)V"⟩
theorem mk_B_open : Mk y_B_open b_B_open 5 none 2 := ⟨zT_in 527 (by decide +kernel) rfl, zT_in 63 (by decide +kernel) rfl, by decide +kernel, by decide +kernel, by decide +kernel⟩
theorem mi_B_open : Cond.instanceMethod y_B_open ∈ zT := zT_in 525 (by decide +kernel) rfl
theorem ms_B_open : Cond.selects "LawWorlds$Bench" y_B_open y_B_open ∈ zT := zT_in 526 (by decide +kernel) rfl
abbrev b_B_fillLetters : ByteArray := prog_2_method_3_code
def y_B_fillLetters : MethodName := ⟨"LawWorlds$Bench", "fillLetters", "()V"⟩
theorem mk_B_fillLetters : Mk y_B_fillLetters b_B_fillLetters 3 none 0 := ⟨zT_in 532 (by decide +kernel) rfl, zT_in 63 (by decide +kernel) rfl, by decide +kernel, by decide +kernel, by decide +kernel⟩
theorem mi_B_fillLetters : Cond.instanceMethod y_B_fillLetters ∈ zT := zT_in 531 (by decide +kernel) rfl
theorem ms_B_fillLetters : Cond.selects "LawWorlds$Bench" y_B_fillLetters y_B_fillLetters ∈ zT := zT_in 16 (by decide +kernel) rfl
abbrev b_B_run : ByteArray := prog_2_method_4_code
def y_B_run : MethodName := ⟨"LawWorlds$Bench", "run", "(LLawWorlds$Law;)V"⟩
theorem mk_B_run : Mk y_B_run b_B_run 6 none 1 := ⟨zT_in 536 (by decide +kernel) rfl, zT_in 63 (by decide +kernel) rfl, by decide +kernel, by decide +kernel, by decide +kernel⟩
theorem mi_B_run : Cond.instanceMethod y_B_run ∈ zT := zT_in 534 (by decide +kernel) rfl
theorem ms_B_run : Cond.selects "LawWorlds$Bench" y_B_run y_B_run ∈ zT := zT_in 535 (by decide +kernel) rfl
abbrev b_B_join : ByteArray := prog_2_method_5_code
def y_B_join : MethodName := ⟨"LawWorlds$Bench", "join", "(II)V"⟩
theorem mk_B_join : Mk y_B_join b_B_join 6 none 2 := ⟨zT_in 540 (by decide +kernel) rfl, zT_in 63 (by decide +kernel) rfl, by decide +kernel, by decide +kernel, by decide +kernel⟩
theorem mi_B_join : Cond.instanceMethod y_B_join ∈ zT := zT_in 539 (by decide +kernel) rfl
theorem ms_B_join : Cond.selects "LawWorlds$Bench" y_B_join y_B_join ∈ zT := zT_in 17 (by decide +kernel) rfl
abbrev b_B_brokenCases : ByteArray := prog_2_method_6_code
def y_B_brokenCases : MethodName := ⟨"LawWorlds$Bench", "brokenCases", "()I"⟩
theorem mk_B_brokenCases : Mk y_B_brokenCases b_B_brokenCases 3 (some (.int)) 0 := ⟨zT_in 544 (by decide +kernel) rfl, zT_in 63 (by decide +kernel) rfl, by decide +kernel, by decide +kernel, by decide +kernel⟩
theorem mi_B_brokenCases : Cond.instanceMethod y_B_brokenCases ∈ zT := zT_in 542 (by decide +kernel) rfl
theorem ms_B_brokenCases : Cond.selects "LawWorlds$Bench" y_B_brokenCases y_B_brokenCases ∈ zT := zT_in 543 (by decide +kernel) rfl
abbrev b_I_bitCount : ByteArray := prog_13_method_49_code
def y_I_bitCount : MethodName := ⟨"java/lang/Integer", "bitCount", "(I)I"⟩
theorem mk_I_bitCount : Mk y_I_bitCount b_I_bitCount 1 (some (.int)) 1 := ⟨zT_in 547 (by decide +kernel) rfl, zT_in 69 (by decide +kernel) rfl, by decide +kernel, by decide +kernel, by decide +kernel⟩
theorem mt_I_bitCount : Cond.static y_I_bitCount ∈ zT := zT_in 546 (by decide +kernel) rfl
abbrev b_L_brokenAt : ByteArray := prog_5_method_4_code
def y_L_brokenAt : MethodName := ⟨"LawWorlds$Law", "brokenAt", "(I)I"⟩
theorem mk_L_brokenAt : Mk y_L_brokenAt b_L_brokenAt 2 (some (.int)) 1 := ⟨zT_in 554 (by decide +kernel) rfl, zT_in 62 (by decide +kernel) rfl, by decide +kernel, by decide +kernel, by decide +kernel⟩
theorem mi_L_brokenAt : Cond.instanceMethod y_L_brokenAt ∈ zT := zT_in 552 (by decide +kernel) rfl
theorem ms_L_brokenAt : Cond.selects "LawWorlds$Law" y_L_brokenAt y_L_brokenAt ∈ zT := zT_in 553 (by decide +kernel) rfl
abbrev b_E_isAmongFirst : ByteArray := prog_8_method_9_code
def y_E_isAmongFirst : MethodName := ⟨"LawWorlds$Search", "isAmongFirst", "(I)Z"⟩
theorem mk_E_isAmongFirst : Mk y_E_isAmongFirst b_E_isAmongFirst 2 (some (.boolean)) 1 := ⟨zT_in 558 (by decide +kernel) rfl, zT_in 64 (by decide +kernel) rfl, by decide +kernel, by decide +kernel, by decide +kernel⟩
theorem mi_E_isAmongFirst : Cond.instanceMethod y_E_isAmongFirst ∈ zT := zT_in 557 (by decide +kernel) rfl
theorem ms_E_isAmongFirst : Cond.selects "LawWorlds$Search" y_E_isAmongFirst y_E_isAmongFirst ∈ zT := zT_in 18 (by decide +kernel) rfl
abbrev b_E_isModel : ByteArray := prog_8_method_8_code
def y_E_isModel : MethodName := ⟨"LawWorlds$Search", "isModel", "(I)Z"⟩
theorem mk_E_isModel : Mk y_E_isModel b_E_isModel 4 (some (.boolean)) 1 := ⟨zT_in 562 (by decide +kernel) rfl, zT_in 64 (by decide +kernel) rfl, by decide +kernel, by decide +kernel, by decide +kernel⟩
theorem mi_E_isModel : Cond.instanceMethod y_E_isModel ∈ zT := zT_in 561 (by decide +kernel) rfl
theorem ms_E_isModel : Cond.selects "LawWorlds$Search" y_E_isModel y_E_isModel ∈ zT := zT_in 19 (by decide +kernel) rfl
abbrev b_E_tell : ByteArray := prog_8_method_10_code
def y_E_tell : MethodName := ⟨"LawWorlds$Search", "tell", "(II)V"⟩
theorem mk_E_tell : Mk y_E_tell b_E_tell 4 none 2 := ⟨zT_in 566 (by decide +kernel) rfl, zT_in 64 (by decide +kernel) rfl, by decide +kernel, by decide +kernel, by decide +kernel⟩
theorem mi_E_tell : Cond.instanceMethod y_E_tell ∈ zT := zT_in 565 (by decide +kernel) rfl
theorem ms_E_tell : Cond.selects "LawWorlds$Search" y_E_tell y_E_tell ∈ zT := zT_in 20 (by decide +kernel) rfl
abbrev b_J_min : ByteArray := prog_14_method_69_code
def y_J_min : MethodName := ⟨"java/lang/Math", "min", "(II)I"⟩
theorem mk_J_min : Mk y_J_min b_J_min 2 (some (.int)) 2 := ⟨zT_in 569 (by decide +kernel) rfl, zT_in 70 (by decide +kernel) rfl, by decide +kernel, by decide +kernel, by decide +kernel⟩
theorem mt_J_min : Cond.static y_J_min ∈ zT := zT_in 568 (by decide +kernel) rfl
abbrev b_E_witnessNumber : ByteArray := prog_8_method_5_code
def y_E_witnessNumber : MethodName := ⟨"LawWorlds$Search", "witnessNumber", "(II)I"⟩
theorem mk_E_witnessNumber : Mk y_E_witnessNumber b_E_witnessNumber 3 (some (.int)) 2 := ⟨zT_in 573 (by decide +kernel) rfl, zT_in 64 (by decide +kernel) rfl, by decide +kernel, by decide +kernel, by decide +kernel⟩
theorem mi_E_witnessNumber : Cond.instanceMethod y_E_witnessNumber ∈ zT := zT_in 571 (by decide +kernel) rfl
theorem ms_E_witnessNumber : Cond.selects "LawWorlds$Search" y_E_witnessNumber y_E_witnessNumber ∈ zT := zT_in 572 (by decide +kernel) rfl
abbrev b_X_type : ByteArray := prog_1_method_12_code
def y_X_type : MethodName := ⟨"LawWorlds", "type", "(C)I"⟩
theorem mk_X_type : Mk y_X_type b_X_type 2 (some (.int)) 1 := ⟨zT_in 578 (by decide +kernel) rfl, zT_in 58 (by decide +kernel) rfl, by decide +kernel, by decide +kernel, by decide +kernel⟩
theorem mi_X_type : Cond.instanceMethod y_X_type ∈ zT := zT_in 576 (by decide +kernel) rfl
theorem ms_X_type : Cond.selects "LawWorlds" y_X_type y_X_type ∈ zT := zT_in 577 (by decide +kernel) rfl
abbrev b_X_clearText : ByteArray := prog_1_method_13_code
def y_X_clearText : MethodName := ⟨"LawWorlds", "clearText", "()I"⟩
theorem mk_X_clearText : Mk y_X_clearText b_X_clearText 2 (some (.int)) 0 := ⟨zT_in 582 (by decide +kernel) rfl, zT_in 58 (by decide +kernel) rfl, by decide +kernel, by decide +kernel, by decide +kernel⟩
theorem mi_X_clearText : Cond.instanceMethod y_X_clearText ∈ zT := zT_in 580 (by decide +kernel) rfl
theorem ms_X_clearText : Cond.selects "LawWorlds" y_X_clearText y_X_clearText ∈ zT := zT_in 581 (by decide +kernel) rfl
abbrev b_X_undo : ByteArray := prog_1_method_14_code
def y_X_undo : MethodName := ⟨"LawWorlds", "undo", "()I"⟩
theorem mk_X_undo : Mk y_X_undo b_X_undo 1 (some (.int)) 0 := ⟨zT_in 586 (by decide +kernel) rfl, zT_in 58 (by decide +kernel) rfl, by decide +kernel, by decide +kernel, by decide +kernel⟩
theorem mi_X_undo : Cond.instanceMethod y_X_undo ∈ zT := zT_in 584 (by decide +kernel) rfl
theorem ms_X_undo : Cond.selects "LawWorlds" y_X_undo y_X_undo ∈ zT := zT_in 585 (by decide +kernel) rfl
abbrev b_H_goBack : ByteArray := prog_4_method_4_code
def y_H_goBack : MethodName := ⟨"LawWorlds$History", "goBack", "(LLawWorlds$State;)Z"⟩
theorem mk_H_goBack : Mk y_H_goBack b_H_goBack 2 (some (.boolean)) 1 := ⟨zT_in 590 (by decide +kernel) rfl, zT_in 60 (by decide +kernel) rfl, by decide +kernel, by decide +kernel, by decide +kernel⟩
theorem mi_H_goBack : Cond.instanceMethod y_H_goBack ∈ zT := zT_in 588 (by decide +kernel) rfl
theorem ms_H_goBack : Cond.selects "LawWorlds$History" y_H_goBack y_H_goBack ∈ zT := zT_in 589 (by decide +kernel) rfl
abbrev b_X_keep : ByteArray := prog_1_method_15_code
def y_X_keep : MethodName := ⟨"LawWorlds", "keep", "()I"⟩
theorem mk_X_keep : Mk y_X_keep b_X_keep 1 (some (.int)) 0 := ⟨zT_in 594 (by decide +kernel) rfl, zT_in 58 (by decide +kernel) rfl, by decide +kernel, by decide +kernel, by decide +kernel⟩
theorem mi_X_keep : Cond.instanceMethod y_X_keep ∈ zT := zT_in 592 (by decide +kernel) rfl
theorem ms_X_keep : Cond.selects "LawWorlds" y_X_keep y_X_keep ∈ zT := zT_in 593 (by decide +kernel) rfl
abbrev b_H_takeSnapshot : ByteArray := prog_4_method_5_code
def y_H_takeSnapshot : MethodName := ⟨"LawWorlds$History", "takeSnapshot", "(LLawWorlds$State;)V"⟩
theorem mk_H_takeSnapshot : Mk y_H_takeSnapshot b_H_takeSnapshot 2 none 1 := ⟨zT_in 598 (by decide +kernel) rfl, zT_in 60 (by decide +kernel) rfl, by decide +kernel, by decide +kernel, by decide +kernel⟩
theorem mi_H_takeSnapshot : Cond.instanceMethod y_H_takeSnapshot ∈ zT := zT_in 596 (by decide +kernel) rfl
theorem ms_H_takeSnapshot : Cond.selects "LawWorlds$History" y_H_takeSnapshot y_H_takeSnapshot ∈ zT := zT_in 597 (by decide +kernel) rfl
abbrev b_X_restore : ByteArray := prog_1_method_16_code
def y_X_restore : MethodName := ⟨"LawWorlds", "restore", "()I"⟩
theorem mk_X_restore : Mk y_X_restore b_X_restore 1 (some (.int)) 0 := ⟨zT_in 602 (by decide +kernel) rfl, zT_in 58 (by decide +kernel) rfl, by decide +kernel, by decide +kernel, by decide +kernel⟩
theorem mi_X_restore : Cond.instanceMethod y_X_restore ∈ zT := zT_in 600 (by decide +kernel) rfl
theorem ms_X_restore : Cond.selects "LawWorlds" y_X_restore y_X_restore ∈ zT := zT_in 601 (by decide +kernel) rfl
abbrev b_H_bringSnapshot : ByteArray := prog_4_method_6_code
def y_H_bringSnapshot : MethodName := ⟨"LawWorlds$History", "bringSnapshot", "(LLawWorlds$State;)V"⟩
theorem mk_H_bringSnapshot : Mk y_H_bringSnapshot b_H_bringSnapshot 2 none 1 := ⟨zT_in 606 (by decide +kernel) rfl, zT_in 60 (by decide +kernel) rfl, by decide +kernel, by decide +kernel, by decide +kernel⟩
theorem mi_H_bringSnapshot : Cond.instanceMethod y_H_bringSnapshot ∈ zT := zT_in 604 (by decide +kernel) rfl
theorem ms_H_bringSnapshot : Cond.selects "LawWorlds$History" y_H_bringSnapshot y_H_bringSnapshot ∈ zT := zT_in 605 (by decide +kernel) rfl
abbrev b_X_of : ByteArray := prog_1_method_17_code
def y_X_of : MethodName := ⟨"LawWorlds", "of", "(II)I"⟩
theorem mk_X_of : Mk y_X_of b_X_of 3 (some (.int)) 2 := ⟨zT_in 610 (by decide +kernel) rfl, zT_in 58 (by decide +kernel) rfl, by decide +kernel, by decide +kernel, by decide +kernel⟩
theorem mi_X_of : Cond.instanceMethod y_X_of ∈ zT := zT_in 608 (by decide +kernel) rfl
theorem ms_X_of : Cond.selects "LawWorlds" y_X_of y_X_of ∈ zT := zT_in 609 (by decide +kernel) rfl
abbrev b_X_world : ByteArray := prog_1_method_18_code
def y_X_world : MethodName := ⟨"LawWorlds", "world", "(I)I"⟩
theorem mk_X_world : Mk y_X_world b_X_world 2 (some (.int)) 1 := ⟨zT_in 614 (by decide +kernel) rfl, zT_in 58 (by decide +kernel) rfl, by decide +kernel, by decide +kernel, by decide +kernel⟩
theorem mi_X_world : Cond.instanceMethod y_X_world ∈ zT := zT_in 612 (by decide +kernel) rfl
theorem ms_X_world : Cond.selects "LawWorlds" y_X_world y_X_world ∈ zT := zT_in 613 (by decide +kernel) rfl
abbrev b_C_plainCode : ByteArray := prog_3_method_12_code
def y_C_plainCode : MethodName := ⟨"LawWorlds$Codes", "plainCode", "(II)I"⟩
theorem mk_C_plainCode : Mk y_C_plainCode b_C_plainCode 4 (some (.int)) 2 := ⟨zT_in 617 (by decide +kernel) rfl, zT_in 68 (by decide +kernel) rfl, by decide +kernel, by decide +kernel, by decide +kernel⟩
theorem mt_C_plainCode : Cond.static y_C_plainCode ∈ zT := zT_in 616 (by decide +kernel) rfl
abbrev b_C_alikeCount : ByteArray := prog_3_method_13_code
def y_C_alikeCount : MethodName := ⟨"LawWorlds$Codes", "alikeCount", "(II)I"⟩
theorem mk_C_alikeCount : Mk y_C_alikeCount b_C_alikeCount 4 (some (.int)) 2 := ⟨zT_in 623 (by decide +kernel) rfl, zT_in 68 (by decide +kernel) rfl, by decide +kernel, by decide +kernel, by decide +kernel⟩
theorem mt_C_alikeCount : Cond.static y_C_alikeCount ∈ zT := zT_in 622 (by decide +kernel) rfl
abbrev b_C_stayingThings : ByteArray := prog_3_method_14_code
def y_C_stayingThings : MethodName := ⟨"LawWorlds$Codes", "stayingThings", "(II)I"⟩
theorem mk_C_stayingThings : Mk y_C_stayingThings b_C_stayingThings 4 (some (.int)) 2 := ⟨zT_in 626 (by decide +kernel) rfl, zT_in 68 (by decide +kernel) rfl, by decide +kernel, by decide +kernel, by decide +kernel⟩
theorem mt_C_stayingThings : Cond.static y_C_stayingThings ∈ zT := zT_in 625 (by decide +kernel) rfl
abbrev b_C_leftLeavers : ByteArray := prog_3_method_15_code
def y_C_leftLeavers : MethodName := ⟨"LawWorlds$Codes", "leftLeavers", "(II)I"⟩
theorem mk_C_leftLeavers : Mk y_C_leftLeavers b_C_leftLeavers 6 (some (.int)) 2 := ⟨zT_in 629 (by decide +kernel) rfl, zT_in 68 (by decide +kernel) rfl, by decide +kernel, by decide +kernel, by decide +kernel⟩
theorem mt_C_leftLeavers : Cond.static y_C_leftLeavers ∈ zT := zT_in 628 (by decide +kernel) rfl
abbrev b_X_countHolding : ByteArray := prog_1_method_31_code
def y_X_countHolding : MethodName := ⟨"LawWorlds", "countHolding", "(Z)I"⟩
theorem mk_X_countHolding : Mk y_X_countHolding b_X_countHolding 5 (some (.int)) 1 := ⟨zT_in 633 (by decide +kernel) rfl, zT_in 58 (by decide +kernel) rfl, by decide +kernel, by decide +kernel, by decide +kernel⟩
theorem mi_X_countHolding : Cond.instanceMethod y_X_countHolding ∈ zT := zT_in 632 (by decide +kernel) rfl
theorem ms_X_countHolding : Cond.selects "LawWorlds" y_X_countHolding y_X_countHolding ∈ zT := zT_in 21 (by decide +kernel) rfl
abbrev b_X_brokenNow : ByteArray := prog_1_method_28_code
def y_X_brokenNow : MethodName := ⟨"LawWorlds", "brokenNow", "(LLawWorlds$Law;)I"⟩
theorem mk_X_brokenNow : Mk y_X_brokenNow b_X_brokenNow 2 (some (.int)) 1 := ⟨zT_in 638 (by decide +kernel) rfl, zT_in 58 (by decide +kernel) rfl, by decide +kernel, by decide +kernel, by decide +kernel⟩
theorem mi_X_brokenNow : Cond.instanceMethod y_X_brokenNow ∈ zT := zT_in 637 (by decide +kernel) rfl
theorem ms_X_brokenNow : Cond.selects "LawWorlds" y_X_brokenNow y_X_brokenNow ∈ zT := zT_in 22 (by decide +kernel) rfl
abbrev b_X_closed : ByteArray := prog_1_method_19_code
def y_X_closed : MethodName := ⟨"LawWorlds", "closed", "(I)I"⟩
theorem mk_X_closed : Mk y_X_closed b_X_closed 4 (some (.int)) 1 := ⟨zT_in 645 (by decide +kernel) rfl, zT_in 58 (by decide +kernel) rfl, by decide +kernel, by decide +kernel, by decide +kernel⟩
theorem mi_X_closed : Cond.instanceMethod y_X_closed ∈ zT := zT_in 643 (by decide +kernel) rfl
theorem ms_X_closed : Cond.selects "LawWorlds" y_X_closed y_X_closed ∈ zT := zT_in 644 (by decide +kernel) rfl
abbrev b_C_withProducts : ByteArray := prog_3_method_17_code
def y_C_withProducts : MethodName := ⟨"LawWorlds$Codes", "withProducts", "(III)I"⟩
theorem mk_C_withProducts : Mk y_C_withProducts b_C_withProducts 6 (some (.int)) 3 := ⟨zT_in 648 (by decide +kernel) rfl, zT_in 68 (by decide +kernel) rfl, by decide +kernel, by decide +kernel, by decide +kernel⟩
theorem mt_C_withProducts : Cond.static y_C_withProducts ∈ zT := zT_in 647 (by decide +kernel) rfl
abbrev b_C_isIn : ByteArray := prog_3_method_16_code
def y_C_isIn : MethodName := ⟨"LawWorlds$Codes", "isIn", "(II)Z"⟩
theorem mk_C_isIn : Mk y_C_isIn b_C_isIn 2 (some (.boolean)) 2 := ⟨zT_in 651 (by decide +kernel) rfl, zT_in 68 (by decide +kernel) rfl, by decide +kernel, by decide +kernel, by decide +kernel⟩
theorem mt_C_isIn : Cond.static y_C_isIn ∈ zT := zT_in 650 (by decide +kernel) rfl
abbrev b_X_law : ByteArray := prog_1_method_20_code
def y_X_law : MethodName := ⟨"LawWorlds", "law", "(II)I"⟩
theorem mk_X_law : Mk y_X_law b_X_law 4 (some (.int)) 2 := ⟨zT_in 655 (by decide +kernel) rfl, zT_in 58 (by decide +kernel) rfl, by decide +kernel, by decide +kernel, by decide +kernel⟩
theorem mi_X_law : Cond.instanceMethod y_X_law ∈ zT := zT_in 653 (by decide +kernel) rfl
theorem ms_X_law : Cond.selects "LawWorlds" y_X_law y_X_law ∈ zT := zT_in 654 (by decide +kernel) rfl
abbrev b_X_firstCase : ByteArray := prog_1_method_30_code
def y_X_firstCase : MethodName := ⟨"LawWorlds", "firstCase", "(I)I"⟩
theorem mk_X_firstCase : Mk y_X_firstCase b_X_firstCase 1 (some (.int)) 1 := ⟨zT_in 659 (by decide +kernel) rfl, zT_in 58 (by decide +kernel) rfl, by decide +kernel, by decide +kernel, by decide +kernel⟩
theorem mt_X_firstCase : Cond.static y_X_firstCase ∈ zT := zT_in 658 (by decide +kernel) rfl
abbrev b_X_side : ByteArray := prog_1_method_21_code
def y_X_side : MethodName := ⟨"LawWorlds", "side", "(IZI)I"⟩
theorem mk_X_side : Mk y_X_side b_X_side 5 (some (.int)) 3 := ⟨zT_in 663 (by decide +kernel) rfl, zT_in 58 (by decide +kernel) rfl, by decide +kernel, by decide +kernel, by decide +kernel⟩
theorem mi_X_side : Cond.instanceMethod y_X_side ∈ zT := zT_in 661 (by decide +kernel) rfl
theorem ms_X_side : Cond.selects "LawWorlds" y_X_side y_X_side ∈ zT := zT_in 662 (by decide +kernel) rfl
abbrev b_B_thingOf : ByteArray := prog_2_method_7_code
def y_B_thingOf : MethodName := ⟨"LawWorlds$Bench", "thingOf", "(ZI)I"⟩
theorem mk_B_thingOf : Mk y_B_thingOf b_B_thingOf 5 (some (.int)) 2 := ⟨zT_in 667 (by decide +kernel) rfl, zT_in 63 (by decide +kernel) rfl, by decide +kernel, by decide +kernel, by decide +kernel⟩
theorem mi_B_thingOf : Cond.instanceMethod y_B_thingOf ∈ zT := zT_in 665 (by decide +kernel) rfl
theorem ms_B_thingOf : Cond.selects "LawWorlds$Bench" y_B_thingOf y_B_thingOf ∈ zT := zT_in 666 (by decide +kernel) rfl
abbrev b_X_witness : ByteArray := prog_1_method_22_code
def y_X_witness : MethodName := ⟨"LawWorlds", "witness", "(III)I"⟩
theorem mk_X_witness : Mk y_X_witness b_X_witness 4 (some (.int)) 3 := ⟨zT_in 672 (by decide +kernel) rfl, zT_in 58 (by decide +kernel) rfl, by decide +kernel, by decide +kernel, by decide +kernel⟩
theorem mi_X_witness : Cond.instanceMethod y_X_witness ∈ zT := zT_in 670 (by decide +kernel) rfl
theorem ms_X_witness : Cond.selects "LawWorlds" y_X_witness y_X_witness ∈ zT := zT_in 671 (by decide +kernel) rfl
abbrev b_X_model : ByteArray := prog_1_method_23_code
def y_X_model : MethodName := ⟨"LawWorlds", "model", "(II)I"⟩
theorem mk_X_model : Mk y_X_model b_X_model 3 (some (.int)) 2 := ⟨zT_in 676 (by decide +kernel) rfl, zT_in 58 (by decide +kernel) rfl, by decide +kernel, by decide +kernel, by decide +kernel⟩
theorem mi_X_model : Cond.instanceMethod y_X_model ∈ zT := zT_in 674 (by decide +kernel) rfl
theorem ms_X_model : Cond.selects "LawWorlds" y_X_model y_X_model ∈ zT := zT_in 675 (by decide +kernel) rfl
abbrev b_E_modelCode : ByteArray := prog_8_method_3_code
def y_E_modelCode : MethodName := ⟨"LawWorlds$Search", "modelCode", "(LLawWorlds$State;II)I"⟩
theorem mk_E_modelCode : Mk y_E_modelCode b_E_modelCode 6 (some (.int)) 3 := ⟨zT_in 681 (by decide +kernel) rfl, zT_in 64 (by decide +kernel) rfl, by decide +kernel, by decide +kernel, by decide +kernel⟩
theorem mi_E_modelCode : Cond.instanceMethod y_E_modelCode ∈ zT := zT_in 679 (by decide +kernel) rfl
theorem ms_E_modelCode : Cond.selects "LawWorlds$Search" y_E_modelCode y_E_modelCode ∈ zT := zT_in 680 (by decide +kernel) rfl
abbrev b_P_start : ByteArray := prog_6_method_5_code
def y_P_start : MethodName := ⟨"LawWorlds$PlainWorlds", "start", "(I)I"⟩
theorem mk_P_start : Mk y_P_start b_P_start 2 (some (.int)) 1 := ⟨zT_in 685 (by decide +kernel) rfl, zT_in 65 (by decide +kernel) rfl, by decide +kernel, by decide +kernel, by decide +kernel⟩
theorem mi_P_start : Cond.instanceMethod y_P_start ∈ zT := zT_in 683 (by decide +kernel) rfl
theorem ms_P_start : Cond.selects "LawWorlds$PlainWorlds" y_P_start y_P_start ∈ zT := zT_in 684 (by decide +kernel) rfl
abbrev b_P_end : ByteArray := prog_6_method_6_code
def y_P_end : MethodName := ⟨"LawWorlds$PlainWorlds", "end", "(I)I"⟩
theorem mk_P_end : Mk y_P_end b_P_end 2 (some (.int)) 1 := ⟨zT_in 690 (by decide +kernel) rfl, zT_in 65 (by decide +kernel) rfl, by decide +kernel, by decide +kernel, by decide +kernel⟩
theorem mi_P_end : Cond.instanceMethod y_P_end ∈ zT := zT_in 688 (by decide +kernel) rfl
theorem ms_P_end : Cond.selects "LawWorlds$PlainWorlds" y_P_end y_P_end ∈ zT := zT_in 689 (by decide +kernel) rfl
abbrev b_X_models : ByteArray := prog_1_method_24_code
def y_X_models : MethodName := ⟨"LawWorlds", "models", "(IZ)I"⟩
theorem mk_X_models : Mk y_X_models b_X_models 3 (some (.int)) 2 := ⟨zT_in 694 (by decide +kernel) rfl, zT_in 58 (by decide +kernel) rfl, by decide +kernel, by decide +kernel, by decide +kernel⟩
theorem mi_X_models : Cond.instanceMethod y_X_models ∈ zT := zT_in 692 (by decide +kernel) rfl
theorem ms_X_models : Cond.selects "LawWorlds" y_X_models y_X_models ∈ zT := zT_in 693 (by decide +kernel) rfl
abbrev b_E_countModels : ByteArray := prog_8_method_2_code
def y_E_countModels : MethodName := ⟨"LawWorlds$Search", "countModels", "(LLawWorlds$State;IZ)I"⟩
theorem mk_E_countModels : Mk y_E_countModels b_E_countModels 6 (some (.int)) 3 := ⟨zT_in 698 (by decide +kernel) rfl, zT_in 64 (by decide +kernel) rfl, by decide +kernel, by decide +kernel, by decide +kernel⟩
theorem mi_E_countModels : Cond.instanceMethod y_E_countModels ∈ zT := zT_in 696 (by decide +kernel) rfl
theorem ms_E_countModels : Cond.selects "LawWorlds$Search" y_E_countModels y_E_countModels ∈ zT := zT_in 697 (by decide +kernel) rfl
abbrev b_P_alikesAt : ByteArray := prog_6_method_9_code
def y_P_alikesAt : MethodName := ⟨"LawWorlds$PlainWorlds", "alikesAt", "(I)I"⟩
theorem mk_P_alikesAt : Mk y_P_alikesAt b_P_alikesAt 2 (some (.int)) 1 := ⟨zT_in 702 (by decide +kernel) rfl, zT_in 65 (by decide +kernel) rfl, by decide +kernel, by decide +kernel, by decide +kernel⟩
theorem mi_P_alikesAt : Cond.instanceMethod y_P_alikesAt ∈ zT := zT_in 700 (by decide +kernel) rfl
theorem ms_P_alikesAt : Cond.selects "LawWorlds$PlainWorlds" y_P_alikesAt y_P_alikesAt ∈ zT := zT_in 701 (by decide +kernel) rfl
abbrev b_X_paired : ByteArray := prog_1_method_25_code
def y_X_paired : MethodName := ⟨"LawWorlds", "paired", "(III)I"⟩
theorem mk_X_paired : Mk y_X_paired b_X_paired 7 (some (.int)) 3 := ⟨zT_in 706 (by decide +kernel) rfl, zT_in 58 (by decide +kernel) rfl, by decide +kernel, by decide +kernel, by decide +kernel⟩
theorem mi_X_paired : Cond.instanceMethod y_X_paired ∈ zT := zT_in 704 (by decide +kernel) rfl
theorem ms_X_paired : Cond.selects "LawWorlds" y_X_paired y_X_paired ∈ zT := zT_in 705 (by decide +kernel) rfl
abbrev b_X_sameCases : ByteArray := prog_1_method_29_code
def y_X_sameCases : MethodName := ⟨"LawWorlds", "sameCases", "(IILLawWorlds$Law;)I"⟩
theorem mk_X_sameCases : Mk y_X_sameCases b_X_sameCases 4 (some (.int)) 3 := ⟨zT_in 710 (by decide +kernel) rfl, zT_in 58 (by decide +kernel) rfl, by decide +kernel, by decide +kernel, by decide +kernel⟩
theorem mi_X_sameCases : Cond.instanceMethod y_X_sameCases ∈ zT := zT_in 709 (by decide +kernel) rfl
theorem ms_X_sameCases : Cond.selects "LawWorlds" y_X_sameCases y_X_sameCases ∈ zT := zT_in 23 (by decide +kernel) rfl
abbrev b_X_alike : ByteArray := prog_1_method_26_code
def y_X_alike : MethodName := ⟨"LawWorlds", "alike", "(III)I"⟩
theorem mk_X_alike : Mk y_X_alike b_X_alike 4 (some (.int)) 3 := ⟨zT_in 714 (by decide +kernel) rfl, zT_in 58 (by decide +kernel) rfl, by decide +kernel, by decide +kernel, by decide +kernel⟩
theorem mi_X_alike : Cond.instanceMethod y_X_alike ∈ zT := zT_in 712 (by decide +kernel) rfl
theorem ms_X_alike : Cond.selects "LawWorlds" y_X_alike y_X_alike ∈ zT := zT_in 713 (by decide +kernel) rfl
abbrev b_X_count : ByteArray := prog_1_method_27_code
def y_X_count : MethodName := ⟨"LawWorlds", "count", "(I)I"⟩
theorem mk_X_count : Mk y_X_count b_X_count 2 (some (.int)) 1 := ⟨zT_in 718 (by decide +kernel) rfl, zT_in 58 (by decide +kernel) rfl, by decide +kernel, by decide +kernel, by decide +kernel⟩
theorem mi_X_count : Cond.instanceMethod y_X_count ∈ zT := zT_in 716 (by decide +kernel) rfl
theorem ms_X_count : Cond.selects "LawWorlds" y_X_count y_X_count ∈ zT := zT_in 717 (by decide +kernel) rfl
abbrev b_X_countFollowing : ByteArray := prog_1_method_32_code
def y_X_countFollowing : MethodName := ⟨"LawWorlds", "countFollowing", "()I"⟩
theorem mk_X_countFollowing : Mk y_X_countFollowing b_X_countFollowing 3 (some (.int)) 0 := ⟨zT_in 722 (by decide +kernel) rfl, zT_in 58 (by decide +kernel) rfl, by decide +kernel, by decide +kernel, by decide +kernel⟩
theorem mi_X_countFollowing : Cond.instanceMethod y_X_countFollowing ∈ zT := zT_in 721 (by decide +kernel) rfl
theorem ms_X_countFollowing : Cond.selects "LawWorlds" y_X_countFollowing y_X_countFollowing ∈ zT := zT_in 24 (by decide +kernel) rfl
abbrev b_M_init : ByteArray := prog_12_method_1_code
def y_M_init : MethodName := ⟨"LawWorldsModel", "<init>", "()V"⟩
theorem mk_M_init : Mk y_M_init b_M_init 4 none 0 := ⟨zT_in 727 (by decide +kernel) rfl, zT_in 67 (by decide +kernel) rfl, by decide +kernel, by decide +kernel, by decide +kernel⟩
theorem mi_M_init : Cond.instanceMethod y_M_init ∈ zT := zT_in 726 (by decide +kernel) rfl
abbrev b_M_codes : ByteArray := prog_12_method_7_code
def y_M_codes : MethodName := ⟨"LawWorldsModel", "codes", "(I)I"⟩
theorem mk_M_codes : Mk y_M_codes b_M_codes 1 (some (.int)) 1 := ⟨zT_in 731 (by decide +kernel) rfl, zT_in 67 (by decide +kernel) rfl, by decide +kernel, by decide +kernel, by decide +kernel⟩
theorem mt_M_codes : Cond.static y_M_codes ∈ zT := zT_in 730 (by decide +kernel) rfl
abbrev b_M_power : ByteArray := prog_12_method_6_code
def y_M_power : MethodName := ⟨"LawWorldsModel", "power", "(II)I"⟩
theorem mk_M_power : Mk y_M_power b_M_power 4 (some (.int)) 2 := ⟨zT_in 734 (by decide +kernel) rfl, zT_in 67 (by decide +kernel) rfl, by decide +kernel, by decide +kernel, by decide +kernel⟩
theorem mt_M_power : Cond.static y_M_power ∈ zT := zT_in 733 (by decide +kernel) rfl
abbrev b_M_plainOf : ByteArray := prog_12_method_14_code
def y_M_plainOf : MethodName := ⟨"LawWorldsModel", "plainOf", "(II)I"⟩
theorem mk_M_plainOf : Mk y_M_plainOf b_M_plainOf 6 (some (.int)) 2 := ⟨zT_in 738 (by decide +kernel) rfl, zT_in 67 (by decide +kernel) rfl, by decide +kernel, by decide +kernel, by decide +kernel⟩
theorem mi_M_plainOf : Cond.instanceMethod y_M_plainOf ∈ zT := zT_in 737 (by decide +kernel) rfl
theorem ms_M_plainOf : Cond.selects "LawWorldsModel" y_M_plainOf y_M_plainOf ∈ zT := zT_in 25 (by decide +kernel) rfl
abbrev b_M_unfolds : ByteArray := prog_12_method_10_code
def y_M_unfolds : MethodName := ⟨"LawWorldsModel", "unfolds", "(II)V"⟩
theorem mk_M_unfolds : Mk y_M_unfolds b_M_unfolds 5 none 2 := ⟨zT_in 742 (by decide +kernel) rfl, zT_in 67 (by decide +kernel) rfl, by decide +kernel, by decide +kernel, by decide +kernel⟩
theorem mi_M_unfolds : Cond.instanceMethod y_M_unfolds ∈ zT := zT_in 741 (by decide +kernel) rfl
theorem ms_M_unfolds : Cond.selects "LawWorldsModel" y_M_unfolds y_M_unfolds ∈ zT := zT_in 26 (by decide +kernel) rfl
abbrev b_M_waysOf : ByteArray := prog_12_method_12_code
def y_M_waysOf : MethodName := ⟨"LawWorldsModel", "waysOf", "(I)I"⟩
theorem mk_M_waysOf : Mk y_M_waysOf b_M_waysOf 1 (some (.int)) 1 := ⟨zT_in 745 (by decide +kernel) rfl, zT_in 67 (by decide +kernel) rfl, by decide +kernel, by decide +kernel, by decide +kernel⟩
theorem mt_M_waysOf : Cond.static y_M_waysOf ∈ zT := zT_in 744 (by decide +kernel) rfl
abbrev b_M_codeBy : ByteArray := prog_12_method_13_code
def y_M_codeBy : MethodName := ⟨"LawWorldsModel", "codeBy", "(II)I"⟩
theorem mk_M_codeBy : Mk y_M_codeBy b_M_codeBy 6 (some (.int)) 2 := ⟨zT_in 749 (by decide +kernel) rfl, zT_in 67 (by decide +kernel) rfl, by decide +kernel, by decide +kernel, by decide +kernel⟩
theorem mi_M_codeBy : Cond.instanceMethod y_M_codeBy ∈ zT := zT_in 748 (by decide +kernel) rfl
theorem ms_M_codeBy : Cond.selects "LawWorldsModel" y_M_codeBy y_M_codeBy ∈ zT := zT_in 27 (by decide +kernel) rfl
abbrev b_M_renamed : ByteArray := prog_12_method_11_code
def y_M_renamed : MethodName := ⟨"LawWorldsModel", "renamed", "(II)I"⟩
theorem mk_M_renamed : Mk y_M_renamed b_M_renamed 2 (some (.int)) 2 := ⟨zT_in 752 (by decide +kernel) rfl, zT_in 67 (by decide +kernel) rfl, by decide +kernel, by decide +kernel, by decide +kernel⟩
theorem mt_M_renamed : Cond.static y_M_renamed ∈ zT := zT_in 751 (by decide +kernel) rfl
abbrev b_M_take : ByteArray := prog_12_method_30_code
def y_M_take : MethodName := ⟨"LawWorldsModel", "take", "(II)I"⟩
theorem mk_M_take : Mk y_M_take b_M_take 3 (some (.int)) 2 := ⟨zT_in 826 (by decide +kernel) rfl, zT_in 67 (by decide +kernel) rfl, by decide +kernel, by decide +kernel, by decide +kernel⟩
theorem mi_M_take : Cond.instanceMethod y_M_take ∈ zT := zT_in 824 (by decide +kernel) rfl
theorem ms_M_take : Cond.selects "LawWorldsModel" y_M_take y_M_take ∈ zT := zT_in 825 (by decide +kernel) rfl
abbrev b_M_isWorld : ByteArray := prog_12_method_8_code
def y_M_isWorld : MethodName := ⟨"LawWorldsModel", "isWorld", "(II)Z"⟩
theorem mk_M_isWorld : Mk y_M_isWorld b_M_isWorld 2 (some (.boolean)) 2 := ⟨zT_in 829 (by decide +kernel) rfl, zT_in 67 (by decide +kernel) rfl, by decide +kernel, by decide +kernel, by decide +kernel⟩
theorem mt_M_isWorld : Cond.static y_M_isWorld ∈ zT := zT_in 828 (by decide +kernel) rfl
abbrev b_M_in : ByteArray := prog_12_method_3_code
def y_M_in : MethodName := ⟨"LawWorldsModel", "in", "(JJJ)Z"⟩
theorem mk_M_in : Mk y_M_in b_M_in 6 (some (.boolean)) 3 := ⟨zT_in 833 (by decide +kernel) rfl, zT_in 67 (by decide +kernel) rfl, by decide +kernel, by decide +kernel, by decide +kernel⟩
theorem mt_M_in : Cond.static y_M_in ∈ zT := zT_in 832 (by decide +kernel) rfl
abbrev b_M_remember : ByteArray := prog_12_method_4_code
def y_M_remember : MethodName := ⟨"LawWorldsModel", "remember", "()V"⟩
theorem mk_M_remember : Mk y_M_remember b_M_remember 2 none 0 := ⟨zT_in 837 (by decide +kernel) rfl, zT_in 67 (by decide +kernel) rfl, by decide +kernel, by decide +kernel, by decide +kernel⟩
theorem mi_M_remember : Cond.instanceMethod y_M_remember ∈ zT := zT_in 836 (by decide +kernel) rfl
theorem ms_M_remember : Cond.selects "LawWorldsModel" y_M_remember y_M_remember ∈ zT := zT_in 28 (by decide +kernel) rfl
abbrev b_M_acted : ByteArray := prog_12_method_5_code
def y_M_acted : MethodName := ⟨"LawWorldsModel", "acted", "(I)I"⟩
theorem mk_M_acted : Mk y_M_acted b_M_acted 3 (some (.int)) 1 := ⟨zT_in 841 (by decide +kernel) rfl, zT_in 67 (by decide +kernel) rfl, by decide +kernel, by decide +kernel, by decide +kernel⟩
theorem mi_M_acted : Cond.instanceMethod y_M_acted ∈ zT := zT_in 840 (by decide +kernel) rfl
theorem ms_M_acted : Cond.selects "LawWorldsModel" y_M_acted y_M_acted ∈ zT := zT_in 29 (by decide +kernel) rfl
abbrev b_M_put : ByteArray := prog_12_method_32_code
def y_M_put : MethodName := ⟨"LawWorldsModel", "put", "(III)I"⟩
theorem mk_M_put : Mk y_M_put b_M_put 5 (some (.int)) 3 := ⟨zT_in 845 (by decide +kernel) rfl, zT_in 67 (by decide +kernel) rfl, by decide +kernel, by decide +kernel, by decide +kernel⟩
theorem mi_M_put : Cond.instanceMethod y_M_put ∈ zT := zT_in 843 (by decide +kernel) rfl
theorem ms_M_put : Cond.selects "LawWorldsModel" y_M_put y_M_put ∈ zT := zT_in 844 (by decide +kernel) rfl
abbrev b_M_isThing : ByteArray := prog_12_method_31_code
def y_M_isThing : MethodName := ⟨"LawWorldsModel", "isThing", "(I)Z"⟩
theorem mk_M_isThing : Mk y_M_isThing b_M_isThing 2 (some (.boolean)) 1 := ⟨zT_in 849 (by decide +kernel) rfl, zT_in 67 (by decide +kernel) rfl, by decide +kernel, by decide +kernel, by decide +kernel⟩
theorem mi_M_isThing : Cond.instanceMethod y_M_isThing ∈ zT := zT_in 848 (by decide +kernel) rfl
theorem ms_M_isThing : Cond.selects "LawWorldsModel" y_M_isThing y_M_isThing ∈ zT := zT_in 30 (by decide +kernel) rfl
abbrev b_M_comes : ByteArray := prog_12_method_9_code
def y_M_comes : MethodName := ⟨"LawWorldsModel", "comes", "(IIII)I"⟩
theorem mk_M_comes : Mk y_M_comes b_M_comes 4 (some (.int)) 4 := ⟨zT_in 852 (by decide +kernel) rfl, zT_in 67 (by decide +kernel) rfl, by decide +kernel, by decide +kernel, by decide +kernel⟩
theorem mt_M_comes : Cond.static y_M_comes ∈ zT := zT_in 851 (by decide +kernel) rfl
abbrev b_M_becomes : ByteArray := prog_12_method_29_code
def y_M_becomes : MethodName := ⟨"LawWorldsModel", "becomes", "(I)I"⟩
theorem mk_M_becomes : Mk y_M_becomes b_M_becomes 2 (some (.int)) 1 := ⟨zT_in 856 (by decide +kernel) rfl, zT_in 67 (by decide +kernel) rfl, by decide +kernel, by decide +kernel, by decide +kernel⟩
theorem mi_M_becomes : Cond.instanceMethod y_M_becomes ∈ zT := zT_in 855 (by decide +kernel) rfl
theorem ms_M_becomes : Cond.selects "LawWorldsModel" y_M_becomes y_M_becomes ∈ zT := zT_in 31 (by decide +kernel) rfl
abbrev b_M_rename : ByteArray := prog_12_method_34_code
def y_M_rename : MethodName := ⟨"LawWorldsModel", "rename", "(II)I"⟩
theorem mk_M_rename : Mk y_M_rename b_M_rename 6 (some (.int)) 2 := ⟨zT_in 860 (by decide +kernel) rfl, zT_in 67 (by decide +kernel) rfl, by decide +kernel, by decide +kernel, by decide +kernel⟩
theorem mi_M_rename : Cond.instanceMethod y_M_rename ∈ zT := zT_in 858 (by decide +kernel) rfl
theorem ms_M_rename : Cond.selects "LawWorldsModel" y_M_rename y_M_rename ∈ zT := zT_in 859 (by decide +kernel) rfl
abbrev b_M_exchanged : ByteArray := prog_12_method_33_code
def y_M_exchanged : MethodName := ⟨"LawWorldsModel", "exchanged", "(III)I"⟩
theorem mk_M_exchanged : Mk y_M_exchanged b_M_exchanged 3 (some (.int)) 3 := ⟨zT_in 863 (by decide +kernel) rfl, zT_in 67 (by decide +kernel) rfl, by decide +kernel, by decide +kernel, by decide +kernel⟩
theorem mt_M_exchanged : Cond.static y_M_exchanged ∈ zT := zT_in 862 (by decide +kernel) rfl
abbrev b_M_mirror : ByteArray := prog_12_method_35_code
def y_M_mirror : MethodName := ⟨"LawWorldsModel", "mirror", "()I"⟩
theorem mk_M_mirror : Mk y_M_mirror b_M_mirror 4 (some (.int)) 0 := ⟨zT_in 867 (by decide +kernel) rfl, zT_in 67 (by decide +kernel) rfl, by decide +kernel, by decide +kernel, by decide +kernel⟩
theorem mi_M_mirror : Cond.instanceMethod y_M_mirror ∈ zT := zT_in 865 (by decide +kernel) rfl
theorem ms_M_mirror : Cond.selects "LawWorldsModel" y_M_mirror y_M_mirror ∈ zT := zT_in 866 (by decide +kernel) rfl
abbrev b_M_type : ByteArray := prog_12_method_36_code
def y_M_type : MethodName := ⟨"LawWorldsModel", "type", "(C)I"⟩
theorem mk_M_type : Mk y_M_type b_M_type 2 (some (.int)) 1 := ⟨zT_in 871 (by decide +kernel) rfl, zT_in 67 (by decide +kernel) rfl, by decide +kernel, by decide +kernel, by decide +kernel⟩
theorem mi_M_type : Cond.instanceMethod y_M_type ∈ zT := zT_in 869 (by decide +kernel) rfl
theorem ms_M_type : Cond.selects "LawWorldsModel" y_M_type y_M_type ∈ zT := zT_in 870 (by decide +kernel) rfl
abbrev b_M_clearText : ByteArray := prog_12_method_37_code
def y_M_clearText : MethodName := ⟨"LawWorldsModel", "clearText", "()I"⟩
theorem mk_M_clearText : Mk y_M_clearText b_M_clearText 2 (some (.int)) 0 := ⟨zT_in 875 (by decide +kernel) rfl, zT_in 67 (by decide +kernel) rfl, by decide +kernel, by decide +kernel, by decide +kernel⟩
theorem mi_M_clearText : Cond.instanceMethod y_M_clearText ∈ zT := zT_in 873 (by decide +kernel) rfl
theorem ms_M_clearText : Cond.selects "LawWorldsModel" y_M_clearText y_M_clearText ∈ zT := zT_in 874 (by decide +kernel) rfl
abbrev b_M_addLaws : ByteArray := prog_12_method_44_code
def y_M_addLaws : MethodName := ⟨"LawWorldsModel", "addLaws", "()I"⟩
theorem mk_M_addLaws : Mk y_M_addLaws b_M_addLaws 3 (some (.int)) 0 := ⟨zT_in 879 (by decide +kernel) rfl, zT_in 67 (by decide +kernel) rfl, by decide +kernel, by decide +kernel, by decide +kernel⟩
theorem mi_M_addLaws : Cond.instanceMethod y_M_addLaws ∈ zT := zT_in 877 (by decide +kernel) rfl
theorem ms_M_addLaws : Cond.selects "LawWorldsModel" y_M_addLaws y_M_addLaws ∈ zT := zT_in 878 (by decide +kernel) rfl
abbrev b_M_fault : ByteArray := prog_12_method_43_code
def y_M_fault : MethodName := ⟨"LawWorldsModel", "fault", "()I"⟩
theorem mk_M_fault : Mk y_M_fault b_M_fault 4 (some (.int)) 0 := ⟨zT_in 883 (by decide +kernel) rfl, zT_in 67 (by decide +kernel) rfl, by decide +kernel, by decide +kernel, by decide +kernel⟩
theorem mi_M_fault : Cond.instanceMethod y_M_fault ∈ zT := zT_in 882 (by decide +kernel) rfl
theorem ms_M_fault : Cond.selects "LawWorldsModel" y_M_fault y_M_fault ∈ zT := zT_in 32 (by decide +kernel) rfl
abbrev b_M_beginsSide : ByteArray := prog_12_method_38_code
def y_M_beginsSide : MethodName := ⟨"LawWorldsModel", "beginsSide", "(I)V"⟩
theorem mk_M_beginsSide : Mk y_M_beginsSide b_M_beginsSide 2 none 1 := ⟨zT_in 887 (by decide +kernel) rfl, zT_in 67 (by decide +kernel) rfl, by decide +kernel, by decide +kernel, by decide +kernel⟩
theorem mi_M_beginsSide : Cond.instanceMethod y_M_beginsSide ∈ zT := zT_in 886 (by decide +kernel) rfl
theorem ms_M_beginsSide : Cond.selects "LawWorldsModel" y_M_beginsSide y_M_beginsSide ∈ zT := zT_in 33 (by decide +kernel) rfl
abbrev b_M_isWhole : ByteArray := prog_12_method_41_code
def y_M_isWhole : MethodName := ⟨"LawWorldsModel", "isWhole", "()Z"⟩
theorem mk_M_isWhole : Mk y_M_isWhole b_M_isWhole 1 (some (.boolean)) 0 := ⟨zT_in 891 (by decide +kernel) rfl, zT_in 67 (by decide +kernel) rfl, by decide +kernel, by decide +kernel, by decide +kernel⟩
theorem mi_M_isWhole : Cond.instanceMethod y_M_isWhole ∈ zT := zT_in 890 (by decide +kernel) rfl
theorem ms_M_isWhole : Cond.selects "LawWorldsModel" y_M_isWhole y_M_isWhole ∈ zT := zT_in 34 (by decide +kernel) rfl
abbrev b_M_takesInSide : ByteArray := prog_12_method_42_code
def y_M_takesInSide : MethodName := ⟨"LawWorldsModel", "takesInSide", "(I)Z"⟩
theorem mk_M_takesInSide : Mk y_M_takesInSide b_M_takesInSide 2 (some (.boolean)) 1 := ⟨zT_in 895 (by decide +kernel) rfl, zT_in 67 (by decide +kernel) rfl, by decide +kernel, by decide +kernel, by decide +kernel⟩
theorem mi_M_takesInSide : Cond.instanceMethod y_M_takesInSide ∈ zT := zT_in 894 (by decide +kernel) rfl
theorem ms_M_takesInSide : Cond.selects "LawWorldsModel" y_M_takesInSide y_M_takesInSide ∈ zT := zT_in 35 (by decide +kernel) rfl
abbrev b_M_adds : ByteArray := prog_12_method_39_code
def y_M_adds : MethodName := ⟨"LawWorldsModel", "adds", "(I)V"⟩
theorem mk_M_adds : Mk y_M_adds b_M_adds 2 none 1 := ⟨zT_in 901 (by decide +kernel) rfl, zT_in 67 (by decide +kernel) rfl, by decide +kernel, by decide +kernel, by decide +kernel⟩
theorem mi_M_adds : Cond.instanceMethod y_M_adds ∈ zT := zT_in 900 (by decide +kernel) rfl
theorem ms_M_adds : Cond.selects "LawWorldsModel" y_M_adds y_M_adds ∈ zT := zT_in 36 (by decide +kernel) rfl
abbrev b_M_hasPart : ByteArray := prog_12_method_40_code
def y_M_hasPart : MethodName := ⟨"LawWorldsModel", "hasPart", "()V"⟩
theorem mk_M_hasPart : Mk y_M_hasPart b_M_hasPart 1 none 0 := ⟨zT_in 905 (by decide +kernel) rfl, zT_in 67 (by decide +kernel) rfl, by decide +kernel, by decide +kernel, by decide +kernel⟩
theorem mi_M_hasPart : Cond.instanceMethod y_M_hasPart ∈ zT := zT_in 904 (by decide +kernel) rfl
theorem ms_M_hasPart : Cond.selects "LawWorldsModel" y_M_hasPart y_M_hasPart ∈ zT := zT_in 37 (by decide +kernel) rfl
abbrev b_M_lawAt : ByteArray := prog_12_method_17_code
def y_M_lawAt : MethodName := ⟨"LawWorldsModel", "lawAt", "(I)I"⟩
theorem mk_M_lawAt : Mk y_M_lawAt b_M_lawAt 1 (some (.int)) 1 := ⟨zT_in 908 (by decide +kernel) rfl, zT_in 67 (by decide +kernel) rfl, by decide +kernel, by decide +kernel, by decide +kernel⟩
theorem mt_M_lawAt : Cond.static y_M_lawAt ∈ zT := zT_in 907 (by decide +kernel) rfl
abbrev b_M_removeLaw : ByteArray := prog_12_method_45_code
def y_M_removeLaw : MethodName := ⟨"LawWorldsModel", "removeLaw", "(I)I"⟩
theorem mk_M_removeLaw : Mk y_M_removeLaw b_M_removeLaw 3 (some (.int)) 1 := ⟨zT_in 912 (by decide +kernel) rfl, zT_in 67 (by decide +kernel) rfl, by decide +kernel, by decide +kernel, by decide +kernel⟩
theorem mi_M_removeLaw : Cond.instanceMethod y_M_removeLaw ∈ zT := zT_in 910 (by decide +kernel) rfl
theorem ms_M_removeLaw : Cond.selects "LawWorldsModel" y_M_removeLaw y_M_removeLaw ∈ zT := zT_in 911 (by decide +kernel) rfl
abbrev b_M_isLaw : ByteArray := prog_12_method_16_code
def y_M_isLaw : MethodName := ⟨"LawWorldsModel", "isLaw", "(I)Z"⟩
theorem mk_M_isLaw : Mk y_M_isLaw b_M_isLaw 2 (some (.boolean)) 1 := ⟨zT_in 916 (by decide +kernel) rfl, zT_in 67 (by decide +kernel) rfl, by decide +kernel, by decide +kernel, by decide +kernel⟩
theorem mi_M_isLaw : Cond.instanceMethod y_M_isLaw ∈ zT := zT_in 915 (by decide +kernel) rfl
theorem ms_M_isLaw : Cond.selects "LawWorldsModel" y_M_isLaw y_M_isLaw ∈ zT := zT_in 38 (by decide +kernel) rfl
abbrev b_M_turnLaw : ByteArray := prog_12_method_47_code
def y_M_turnLaw : MethodName := ⟨"LawWorldsModel", "turnLaw", "(IZ)I"⟩
theorem mk_M_turnLaw : Mk y_M_turnLaw b_M_turnLaw 3 (some (.int)) 2 := ⟨zT_in 920 (by decide +kernel) rfl, zT_in 67 (by decide +kernel) rfl, by decide +kernel, by decide +kernel, by decide +kernel⟩
theorem mi_M_turnLaw : Cond.instanceMethod y_M_turnLaw ∈ zT := zT_in 918 (by decide +kernel) rfl
theorem ms_M_turnLaw : Cond.selects "LawWorldsModel" y_M_turnLaw y_M_turnLaw ∈ zT := zT_in 919 (by decide +kernel) rfl
abbrev b_M_isOn : ByteArray := prog_12_method_18_code
def y_M_isOn : MethodName := ⟨"LawWorldsModel", "isOn", "(I)Z"⟩
theorem mk_M_isOn : Mk y_M_isOn b_M_isOn 2 (some (.boolean)) 1 := ⟨zT_in 924 (by decide +kernel) rfl, zT_in 67 (by decide +kernel) rfl, by decide +kernel, by decide +kernel, by decide +kernel⟩
theorem mi_M_isOn : Cond.instanceMethod y_M_isOn ∈ zT := zT_in 923 (by decide +kernel) rfl
theorem ms_M_isOn : Cond.selects "LawWorldsModel" y_M_isOn y_M_isOn ∈ zT := zT_in 39 (by decide +kernel) rfl
abbrev b_M_lawsOn : ByteArray := prog_12_method_46_code
def y_M_lawsOn : MethodName := ⟨"LawWorldsModel", "lawsOn", "()I"⟩
theorem mk_M_lawsOn : Mk y_M_lawsOn b_M_lawsOn 3 (some (.int)) 0 := ⟨zT_in 928 (by decide +kernel) rfl, zT_in 67 (by decide +kernel) rfl, by decide +kernel, by decide +kernel, by decide +kernel⟩
theorem mi_M_lawsOn : Cond.instanceMethod y_M_lawsOn ∈ zT := zT_in 927 (by decide +kernel) rfl
theorem ms_M_lawsOn : Cond.selects "LawWorldsModel" y_M_lawsOn y_M_lawsOn ∈ zT := zT_in 40 (by decide +kernel) rfl
abbrev b_M_refute : ByteArray := prog_12_method_48_code
def y_M_refute : MethodName := ⟨"LawWorldsModel", "refute", "(I)I"⟩
theorem mk_M_refute : Mk y_M_refute b_M_refute 2 (some (.int)) 1 := ⟨zT_in 932 (by decide +kernel) rfl, zT_in 67 (by decide +kernel) rfl, by decide +kernel, by decide +kernel, by decide +kernel⟩
theorem mi_M_refute : Cond.instanceMethod y_M_refute ∈ zT := zT_in 930 (by decide +kernel) rfl
theorem ms_M_refute : Cond.selects "LawWorldsModel" y_M_refute y_M_refute ∈ zT := zT_in 931 (by decide +kernel) rfl
abbrev b_M_findsWitnesses : ByteArray := prog_12_method_27_code
def y_M_findsWitnesses : MethodName := ⟨"LawWorldsModel", "findsWitnesses", "(I)V"⟩
theorem mk_M_findsWitnesses : Mk y_M_findsWitnesses b_M_findsWitnesses 4 none 1 := ⟨zT_in 936 (by decide +kernel) rfl, zT_in 67 (by decide +kernel) rfl, by decide +kernel, by decide +kernel, by decide +kernel⟩
theorem mi_M_findsWitnesses : Cond.instanceMethod y_M_findsWitnesses ∈ zT := zT_in 935 (by decide +kernel) rfl
theorem ms_M_findsWitnesses : Cond.selects "LawWorldsModel" y_M_findsWitnesses y_M_findsWitnesses ∈ zT := zT_in 41 (by decide +kernel) rfl
abbrev b_M_learns : ByteArray := prog_12_method_25_code
def y_M_learns : MethodName := ⟨"LawWorldsModel", "learns", "()V"⟩
theorem mk_M_learns : Mk y_M_learns b_M_learns 3 none 0 := ⟨zT_in 940 (by decide +kernel) rfl, zT_in 67 (by decide +kernel) rfl, by decide +kernel, by decide +kernel, by decide +kernel⟩
theorem mi_M_learns : Cond.instanceMethod y_M_learns ∈ zT := zT_in 939 (by decide +kernel) rfl
theorem ms_M_learns : Cond.selects "LawWorldsModel" y_M_learns y_M_learns ∈ zT := zT_in 42 (by decide +kernel) rfl
abbrev b_M_isKnown : ByteArray := prog_12_method_23_code
def y_M_isKnown : MethodName := ⟨"LawWorldsModel", "isKnown", "(I)Z"⟩
theorem mk_M_isKnown : Mk y_M_isKnown b_M_isKnown 4 (some (.boolean)) 1 := ⟨zT_in 944 (by decide +kernel) rfl, zT_in 67 (by decide +kernel) rfl, by decide +kernel, by decide +kernel, by decide +kernel⟩
theorem mi_M_isKnown : Cond.instanceMethod y_M_isKnown ∈ zT := zT_in 943 (by decide +kernel) rfl
theorem ms_M_isKnown : Cond.selects "LawWorldsModel" y_M_isKnown y_M_isKnown ∈ zT := zT_in 43 (by decide +kernel) rfl
abbrev b_M_sizeAt : ByteArray := prog_12_method_24_code
def y_M_sizeAt : MethodName := ⟨"LawWorldsModel", "sizeAt", "([II)I"⟩
theorem mk_M_sizeAt : Mk y_M_sizeAt b_M_sizeAt 2 (some (.int)) 2 := ⟨zT_in 947 (by decide +kernel) rfl, zT_in 67 (by decide +kernel) rfl, by decide +kernel, by decide +kernel, by decide +kernel⟩
theorem mt_M_sizeAt : Cond.static y_M_sizeAt ∈ zT := zT_in 946 (by decide +kernel) rfl
abbrev b_M_brokenIn : ByteArray := prog_12_method_21_code
def y_M_brokenIn : MethodName := ⟨"LawWorldsModel", "brokenIn", "(III)I"⟩
theorem mk_M_brokenIn : Mk y_M_brokenIn b_M_brokenIn 6 (some (.int)) 3 := ⟨zT_in 951 (by decide +kernel) rfl, zT_in 67 (by decide +kernel) rfl, by decide +kernel, by decide +kernel, by decide +kernel⟩
theorem mi_M_brokenIn : Cond.instanceMethod y_M_brokenIn ∈ zT := zT_in 950 (by decide +kernel) rfl
theorem ms_M_brokenIn : Cond.selects "LawWorldsModel" y_M_brokenIn y_M_brokenIn ∈ zT := zT_in 44 (by decide +kernel) rfl
abbrev b_M_isBroken : ByteArray := prog_12_method_20_code
def y_M_isBroken : MethodName := ⟨"LawWorldsModel", "isBroken", "(III)Z"⟩
theorem mk_M_isBroken : Mk y_M_isBroken b_M_isBroken 4 (some (.boolean)) 3 := ⟨zT_in 955 (by decide +kernel) rfl, zT_in 67 (by decide +kernel) rfl, by decide +kernel, by decide +kernel, by decide +kernel⟩
theorem mi_M_isBroken : Cond.instanceMethod y_M_isBroken ∈ zT := zT_in 954 (by decide +kernel) rfl
theorem ms_M_isBroken : Cond.selects "LawWorldsModel" y_M_isBroken y_M_isBroken ∈ zT := zT_in 45 (by decide +kernel) rfl
abbrev b_M_comesOf : ByteArray := prog_12_method_19_code
def y_M_comesOf : MethodName := ⟨"LawWorldsModel", "comesOf", "(III)I"⟩
theorem mk_M_comesOf : Mk y_M_comesOf b_M_comesOf 7 (some (.int)) 3 := ⟨zT_in 959 (by decide +kernel) rfl, zT_in 67 (by decide +kernel) rfl, by decide +kernel, by decide +kernel, by decide +kernel⟩
theorem mi_M_comesOf : Cond.instanceMethod y_M_comesOf ∈ zT := zT_in 958 (by decide +kernel) rfl
theorem ms_M_comesOf : Cond.selects "LawWorldsModel" y_M_comesOf y_M_comesOf ∈ zT := zT_in 46 (by decide +kernel) rfl
abbrev b_M_hold : ByteArray := prog_12_method_26_code
def y_M_hold : MethodName := ⟨"LawWorldsModel", "hold", "(II)Z"⟩
theorem mk_M_hold : Mk y_M_hold b_M_hold 5 (some (.boolean)) 2 := ⟨zT_in 963 (by decide +kernel) rfl, zT_in 67 (by decide +kernel) rfl, by decide +kernel, by decide +kernel, by decide +kernel⟩
theorem mi_M_hold : Cond.instanceMethod y_M_hold ∈ zT := zT_in 962 (by decide +kernel) rfl
theorem ms_M_hold : Cond.selects "LawWorldsModel" y_M_hold y_M_hold ∈ zT := zT_in 47 (by decide +kernel) rfl
abbrev b_M_undo : ByteArray := prog_12_method_49_code
def y_M_undo : MethodName := ⟨"LawWorldsModel", "undo", "()I"⟩
theorem mk_M_undo : Mk y_M_undo b_M_undo 2 (some (.int)) 0 := ⟨zT_in 967 (by decide +kernel) rfl, zT_in 67 (by decide +kernel) rfl, by decide +kernel, by decide +kernel, by decide +kernel⟩
theorem mi_M_undo : Cond.instanceMethod y_M_undo ∈ zT := zT_in 965 (by decide +kernel) rfl
theorem ms_M_undo : Cond.selects "LawWorldsModel" y_M_undo y_M_undo ∈ zT := zT_in 966 (by decide +kernel) rfl
abbrev b_M_keep : ByteArray := prog_12_method_50_code
def y_M_keep : MethodName := ⟨"LawWorldsModel", "keep", "()I"⟩
theorem mk_M_keep : Mk y_M_keep b_M_keep 2 (some (.int)) 0 := ⟨zT_in 971 (by decide +kernel) rfl, zT_in 67 (by decide +kernel) rfl, by decide +kernel, by decide +kernel, by decide +kernel⟩
theorem mi_M_keep : Cond.instanceMethod y_M_keep ∈ zT := zT_in 969 (by decide +kernel) rfl
theorem ms_M_keep : Cond.selects "LawWorldsModel" y_M_keep y_M_keep ∈ zT := zT_in 970 (by decide +kernel) rfl
abbrev b_M_restore : ByteArray := prog_12_method_51_code
def y_M_restore : MethodName := ⟨"LawWorldsModel", "restore", "()I"⟩
theorem mk_M_restore : Mk y_M_restore b_M_restore 2 (some (.int)) 0 := ⟨zT_in 975 (by decide +kernel) rfl, zT_in 67 (by decide +kernel) rfl, by decide +kernel, by decide +kernel, by decide +kernel⟩
theorem mi_M_restore : Cond.instanceMethod y_M_restore ∈ zT := zT_in 973 (by decide +kernel) rfl
theorem ms_M_restore : Cond.selects "LawWorldsModel" y_M_restore y_M_restore ∈ zT := zT_in 974 (by decide +kernel) rfl
abbrev b_M_of : ByteArray := prog_12_method_52_code
def y_M_of : MethodName := ⟨"LawWorldsModel", "of", "(II)I"⟩
theorem mk_M_of : Mk y_M_of b_M_of 3 (some (.int)) 2 := ⟨zT_in 979 (by decide +kernel) rfl, zT_in 67 (by decide +kernel) rfl, by decide +kernel, by decide +kernel, by decide +kernel⟩
theorem mi_M_of : Cond.instanceMethod y_M_of ∈ zT := zT_in 977 (by decide +kernel) rfl
theorem ms_M_of : Cond.selects "LawWorldsModel" y_M_of y_M_of ∈ zT := zT_in 978 (by decide +kernel) rfl
abbrev b_M_world : ByteArray := prog_12_method_55_code
def y_M_world : MethodName := ⟨"LawWorldsModel", "world", "(I)I"⟩
theorem mk_M_world : Mk y_M_world b_M_world 2 (some (.int)) 1 := ⟨zT_in 983 (by decide +kernel) rfl, zT_in 67 (by decide +kernel) rfl, by decide +kernel, by decide +kernel, by decide +kernel⟩
theorem mi_M_world : Cond.instanceMethod y_M_world ∈ zT := zT_in 981 (by decide +kernel) rfl
theorem ms_M_world : Cond.selects "LawWorldsModel" y_M_world y_M_world ∈ zT := zT_in 982 (by decide +kernel) rfl
abbrev b_M_alikeTo : ByteArray := prog_12_method_15_code
def y_M_alikeTo : MethodName := ⟨"LawWorldsModel", "alikeTo", "(II)I"⟩
theorem mk_M_alikeTo : Mk y_M_alikeTo b_M_alikeTo 5 (some (.int)) 2 := ⟨zT_in 987 (by decide +kernel) rfl, zT_in 67 (by decide +kernel) rfl, by decide +kernel, by decide +kernel, by decide +kernel⟩
theorem mi_M_alikeTo : Cond.instanceMethod y_M_alikeTo ∈ zT := zT_in 986 (by decide +kernel) rfl
theorem ms_M_alikeTo : Cond.selects "LawWorldsModel" y_M_alikeTo y_M_alikeTo ∈ zT := zT_in 48 (by decide +kernel) rfl
abbrev b_M_things : ByteArray := prog_12_method_53_code
def y_M_things : MethodName := ⟨"LawWorldsModel", "things", "(I)I"⟩
theorem mk_M_things : Mk y_M_things b_M_things 7 (some (.int)) 1 := ⟨zT_in 991 (by decide +kernel) rfl, zT_in 67 (by decide +kernel) rfl, by decide +kernel, by decide +kernel, by decide +kernel⟩
theorem mi_M_things : Cond.instanceMethod y_M_things ∈ zT := zT_in 990 (by decide +kernel) rfl
theorem ms_M_things : Cond.selects "LawWorldsModel" y_M_things y_M_things ∈ zT := zT_in 49 (by decide +kernel) rfl
abbrev b_M_lawsThatHold : ByteArray := prog_12_method_54_code
def y_M_lawsThatHold : MethodName := ⟨"LawWorldsModel", "lawsThatHold", "(Z)I"⟩
theorem mk_M_lawsThatHold : Mk y_M_lawsThatHold b_M_lawsThatHold 4 (some (.int)) 1 := ⟨zT_in 995 (by decide +kernel) rfl, zT_in 67 (by decide +kernel) rfl, by decide +kernel, by decide +kernel, by decide +kernel⟩
theorem mi_M_lawsThatHold : Cond.instanceMethod y_M_lawsThatHold ∈ zT := zT_in 994 (by decide +kernel) rfl
theorem ms_M_lawsThatHold : Cond.selects "LawWorldsModel" y_M_lawsThatHold y_M_lawsThatHold ∈ zT := zT_in 50 (by decide +kernel) rfl
abbrev b_M_brokenNow : ByteArray := prog_12_method_22_code
def y_M_brokenNow : MethodName := ⟨"LawWorldsModel", "brokenNow", "(I)I"⟩
theorem mk_M_brokenNow : Mk y_M_brokenNow b_M_brokenNow 2 (some (.int)) 1 := ⟨zT_in 999 (by decide +kernel) rfl, zT_in 67 (by decide +kernel) rfl, by decide +kernel, by decide +kernel, by decide +kernel⟩
theorem mi_M_brokenNow : Cond.instanceMethod y_M_brokenNow ∈ zT := zT_in 998 (by decide +kernel) rfl
theorem ms_M_brokenNow : Cond.selects "LawWorldsModel" y_M_brokenNow y_M_brokenNow ∈ zT := zT_in 51 (by decide +kernel) rfl
abbrev b_M_closed : ByteArray := prog_12_method_56_code
def y_M_closed : MethodName := ⟨"LawWorldsModel", "closed", "(I)I"⟩
theorem mk_M_closed : Mk y_M_closed b_M_closed 7 (some (.int)) 1 := ⟨zT_in 1003 (by decide +kernel) rfl, zT_in 67 (by decide +kernel) rfl, by decide +kernel, by decide +kernel, by decide +kernel⟩
theorem mi_M_closed : Cond.instanceMethod y_M_closed ∈ zT := zT_in 1001 (by decide +kernel) rfl
theorem ms_M_closed : Cond.selects "LawWorldsModel" y_M_closed y_M_closed ∈ zT := zT_in 1002 (by decide +kernel) rfl
abbrev b_M_law : ByteArray := prog_12_method_60_code
def y_M_law : MethodName := ⟨"LawWorldsModel", "law", "(II)I"⟩
theorem mk_M_law : Mk y_M_law b_M_law 3 (some (.int)) 2 := ⟨zT_in 1007 (by decide +kernel) rfl, zT_in 67 (by decide +kernel) rfl, by decide +kernel, by decide +kernel, by decide +kernel⟩
theorem mi_M_law : Cond.instanceMethod y_M_law ∈ zT := zT_in 1005 (by decide +kernel) rfl
theorem ms_M_law : Cond.selects "LawWorldsModel" y_M_law y_M_law ∈ zT := zT_in 1006 (by decide +kernel) rfl
abbrev b_M_lettersOf : ByteArray := prog_12_method_57_code
def y_M_lettersOf : MethodName := ⟨"LawWorldsModel", "lettersOf", "(IZ)I"⟩
theorem mk_M_lettersOf : Mk y_M_lettersOf b_M_lettersOf 8 (some (.int)) 2 := ⟨zT_in 1011 (by decide +kernel) rfl, zT_in 67 (by decide +kernel) rfl, by decide +kernel, by decide +kernel, by decide +kernel⟩
theorem mi_M_lettersOf : Cond.instanceMethod y_M_lettersOf ∈ zT := zT_in 1010 (by decide +kernel) rfl
theorem ms_M_lettersOf : Cond.selects "LawWorldsModel" y_M_lettersOf y_M_lettersOf ∈ zT := zT_in 52 (by decide +kernel) rfl
abbrev b_M_follows : ByteArray := prog_12_method_28_code
def y_M_follows : MethodName := ⟨"LawWorldsModel", "follows", "(I)Z"⟩
theorem mk_M_follows : Mk y_M_follows b_M_follows 2 (some (.boolean)) 1 := ⟨zT_in 1015 (by decide +kernel) rfl, zT_in 67 (by decide +kernel) rfl, by decide +kernel, by decide +kernel, by decide +kernel⟩
theorem mi_M_follows : Cond.instanceMethod y_M_follows ∈ zT := zT_in 1014 (by decide +kernel) rfl
theorem ms_M_follows : Cond.selects "LawWorldsModel" y_M_follows y_M_follows ∈ zT := zT_in 53 (by decide +kernel) rfl
abbrev b_M_toldWitnesses : ByteArray := prog_12_method_59_code
def y_M_toldWitnesses : MethodName := ⟨"LawWorldsModel", "toldWitnesses", "(I)I"⟩
theorem mk_M_toldWitnesses : Mk y_M_toldWitnesses b_M_toldWitnesses 2 (some (.int)) 1 := ⟨zT_in 1019 (by decide +kernel) rfl, zT_in 67 (by decide +kernel) rfl, by decide +kernel, by decide +kernel, by decide +kernel⟩
theorem mi_M_toldWitnesses : Cond.instanceMethod y_M_toldWitnesses ∈ zT := zT_in 1018 (by decide +kernel) rfl
theorem ms_M_toldWitnesses : Cond.selects "LawWorldsModel" y_M_toldWitnesses y_M_toldWitnesses ∈ zT := zT_in 54 (by decide +kernel) rfl
abbrev b_M_firstBroken : ByteArray := prog_12_method_58_code
def y_M_firstBroken : MethodName := ⟨"LawWorldsModel", "firstBroken", "(I)I"⟩
theorem mk_M_firstBroken : Mk y_M_firstBroken b_M_firstBroken 3 (some (.int)) 1 := ⟨zT_in 1023 (by decide +kernel) rfl, zT_in 67 (by decide +kernel) rfl, by decide +kernel, by decide +kernel, by decide +kernel⟩
theorem mi_M_firstBroken : Cond.instanceMethod y_M_firstBroken ∈ zT := zT_in 1022 (by decide +kernel) rfl
theorem ms_M_firstBroken : Cond.selects "LawWorldsModel" y_M_firstBroken y_M_firstBroken ∈ zT := zT_in 55 (by decide +kernel) rfl
abbrev b_M_side : ByteArray := prog_12_method_61_code
def y_M_side : MethodName := ⟨"LawWorldsModel", "side", "(IZI)I"⟩
theorem mk_M_side : Mk y_M_side b_M_side 5 (some (.int)) 3 := ⟨zT_in 1027 (by decide +kernel) rfl, zT_in 67 (by decide +kernel) rfl, by decide +kernel, by decide +kernel, by decide +kernel⟩
theorem mi_M_side : Cond.instanceMethod y_M_side ∈ zT := zT_in 1025 (by decide +kernel) rfl
theorem ms_M_side : Cond.selects "LawWorldsModel" y_M_side y_M_side ∈ zT := zT_in 1026 (by decide +kernel) rfl
abbrev b_M_witness : ByteArray := prog_12_method_62_code
def y_M_witness : MethodName := ⟨"LawWorldsModel", "witness", "(III)I"⟩
theorem mk_M_witness : Mk y_M_witness b_M_witness 5 (some (.int)) 3 := ⟨zT_in 1031 (by decide +kernel) rfl, zT_in 67 (by decide +kernel) rfl, by decide +kernel, by decide +kernel, by decide +kernel⟩
theorem mi_M_witness : Cond.instanceMethod y_M_witness ∈ zT := zT_in 1029 (by decide +kernel) rfl
theorem ms_M_witness : Cond.selects "LawWorldsModel" y_M_witness y_M_witness ∈ zT := zT_in 1030 (by decide +kernel) rfl
abbrev b_M_model : ByteArray := prog_12_method_63_code
def y_M_model : MethodName := ⟨"LawWorldsModel", "model", "(II)I"⟩
theorem mk_M_model : Mk y_M_model b_M_model 5 (some (.int)) 2 := ⟨zT_in 1036 (by decide +kernel) rfl, zT_in 67 (by decide +kernel) rfl, by decide +kernel, by decide +kernel, by decide +kernel⟩
theorem mi_M_model : Cond.instanceMethod y_M_model ∈ zT := zT_in 1034 (by decide +kernel) rfl
theorem ms_M_model : Cond.selects "LawWorldsModel" y_M_model y_M_model ∈ zT := zT_in 1035 (by decide +kernel) rfl
abbrev b_M_models : ByteArray := prog_12_method_64_code
def y_M_models : MethodName := ⟨"LawWorldsModel", "models", "(IZ)I"⟩
theorem mk_M_models : Mk y_M_models b_M_models 5 (some (.int)) 2 := ⟨zT_in 1040 (by decide +kernel) rfl, zT_in 67 (by decide +kernel) rfl, by decide +kernel, by decide +kernel, by decide +kernel⟩
theorem mi_M_models : Cond.instanceMethod y_M_models ∈ zT := zT_in 1038 (by decide +kernel) rfl
theorem ms_M_models : Cond.selects "LawWorldsModel" y_M_models y_M_models ∈ zT := zT_in 1039 (by decide +kernel) rfl
abbrev b_M_paired : ByteArray := prog_12_method_65_code
def y_M_paired : MethodName := ⟨"LawWorldsModel", "paired", "(III)I"⟩
theorem mk_M_paired : Mk y_M_paired b_M_paired 6 (some (.int)) 3 := ⟨zT_in 1044 (by decide +kernel) rfl, zT_in 67 (by decide +kernel) rfl, by decide +kernel, by decide +kernel, by decide +kernel⟩
theorem mi_M_paired : Cond.instanceMethod y_M_paired ∈ zT := zT_in 1042 (by decide +kernel) rfl
theorem ms_M_paired : Cond.selects "LawWorldsModel" y_M_paired y_M_paired ∈ zT := zT_in 1043 (by decide +kernel) rfl
abbrev b_M_alike : ByteArray := prog_12_method_66_code
def y_M_alike : MethodName := ⟨"LawWorldsModel", "alike", "(III)I"⟩
theorem mk_M_alike : Mk y_M_alike b_M_alike 4 (some (.int)) 3 := ⟨zT_in 1048 (by decide +kernel) rfl, zT_in 67 (by decide +kernel) rfl, by decide +kernel, by decide +kernel, by decide +kernel⟩
theorem mi_M_alike : Cond.instanceMethod y_M_alike ∈ zT := zT_in 1046 (by decide +kernel) rfl
theorem ms_M_alike : Cond.selects "LawWorldsModel" y_M_alike y_M_alike ∈ zT := zT_in 1047 (by decide +kernel) rfl
abbrev b_M_count : ByteArray := prog_12_method_68_code
def y_M_count : MethodName := ⟨"LawWorldsModel", "count", "(I)I"⟩
theorem mk_M_count : Mk y_M_count b_M_count 2 (some (.int)) 1 := ⟨zT_in 1052 (by decide +kernel) rfl, zT_in 67 (by decide +kernel) rfl, by decide +kernel, by decide +kernel, by decide +kernel⟩
theorem mi_M_count : Cond.instanceMethod y_M_count ∈ zT := zT_in 1050 (by decide +kernel) rfl
theorem ms_M_count : Cond.selects "LawWorldsModel" y_M_count y_M_count ∈ zT := zT_in 1051 (by decide +kernel) rfl
abbrev b_M_lawsThatFollow : ByteArray := prog_12_method_67_code
def y_M_lawsThatFollow : MethodName := ⟨"LawWorldsModel", "lawsThatFollow", "()I"⟩
theorem mk_M_lawsThatFollow : Mk y_M_lawsThatFollow b_M_lawsThatFollow 3 (some (.int)) 0 := ⟨zT_in 1056 (by decide +kernel) rfl, zT_in 67 (by decide +kernel) rfl, by decide +kernel, by decide +kernel, by decide +kernel⟩
theorem mi_M_lawsThatFollow : Cond.instanceMethod y_M_lawsThatFollow ∈ zT := zT_in 1055 (by decide +kernel) rfl
theorem ms_M_lawsThatFollow : Cond.selects "LawWorldsModel" y_M_lawsThatFollow y_M_lawsThatFollow ∈ zT := zT_in 56 (by decide +kernel) rfl
theorem kl_law_7 : Cond.classLink "LawWorldsLaw" 7 "LawWorlds" ∈ zT := zT_in 71 (by decide +kernel) rfl
theorem in_X : Cond.instantiable "LawWorlds" 8 ∈ zT := zT_in 72 (by decide +kernel) rfl
theorem ml_law_9 : Cond.methodLink "LawWorldsLaw" 9 y_X_init ∈ zT := zT_in 73 (by decide +kernel) rfl
theorem ml_X_1 : Cond.methodLink "LawWorlds" 1 objectInit ∈ zT := zT_in 76 (by decide +kernel) rfl
theorem kl_X_7 : Cond.classLink "LawWorlds" 7 "LawWorlds$State" ∈ zT := zT_in 79 (by decide +kernel) rfl
theorem in_S : Cond.instantiable "LawWorlds$State" 5 ∈ zT := zT_in 80 (by decide +kernel) rfl
theorem ml_S_3 : Cond.methodLink "LawWorlds$State" 3 objectInit ∈ zT := zT_in 84 (by decide +kernel) rfl
theorem kl_S_9 : Cond.classLink "LawWorlds$State" 9 "LawWorlds$Law" ∈ zT := zT_in 85 (by decide +kernel) rfl
theorem ac_boolean : Cond.arrayClass .boolean ∈ zT := zT_in 109 (by decide +kernel) rfl
theorem kl_X_16 : Cond.classLink "LawWorlds" 16 "LawWorlds$History" ∈ zT := zT_in 110 (by decide +kernel) rfl
theorem in_H : Cond.instantiable "LawWorlds$History" 4 ∈ zT := zT_in 111 (by decide +kernel) rfl
theorem ml_H_3 : Cond.methodLink "LawWorlds$History" 3 objectInit ∈ zT := zT_in 115 (by decide +kernel) rfl
theorem kl_H_9 : Cond.classLink "LawWorlds$History" 9 "LawWorlds$State" ∈ zT := zT_in 116 (by decide +kernel) rfl
theorem kl_X_23 : Cond.classLink "LawWorlds" 23 "LawWorlds$Shelf" ∈ zT := zT_in 134 (by decide +kernel) rfl
theorem in_F : Cond.instantiable "LawWorlds$Shelf" 1 ∈ zT := zT_in 135 (by decide +kernel) rfl
theorem ml_X_25 : Cond.methodLink "LawWorlds" 25 y_F_init ∈ zT := zT_in 136 (by decide +kernel) rfl
theorem ml_F_3 : Cond.methodLink "LawWorlds$Shelf" 3 objectInit ∈ zT := zT_in 139 (by decide +kernel) rfl
theorem kl_F_11 : Cond.classLink "LawWorlds$Shelf" 11 "LawWorlds$Law" ∈ zT := zT_in 140 (by decide +kernel) rfl
theorem in_L : Cond.instantiable "LawWorlds$Law" 6 ∈ zT := zT_in 141 (by decide +kernel) rfl
theorem ml_L_3 : Cond.methodLink "LawWorlds$Law" 3 objectInit ∈ zT := zT_in 145 (by decide +kernel) rfl
theorem ac_int : Cond.arrayClass .int ∈ zT := zT_in 171 (by decide +kernel) rfl
theorem kl_X_30 : Cond.classLink "LawWorlds" 30 "LawWorlds$Bench" ∈ zT := zT_in 176 (by decide +kernel) rfl
theorem in_B : Cond.instantiable "LawWorlds$Bench" 5 ∈ zT := zT_in 177 (by decide +kernel) rfl
theorem ml_B_3 : Cond.methodLink "LawWorlds$Bench" 3 objectInit ∈ zT := zT_in 181 (by decide +kernel) rfl
theorem kl_X_37 : Cond.classLink "LawWorlds" 37 "LawWorlds$Search" ∈ zT := zT_in 198 (by decide +kernel) rfl
theorem in_E : Cond.instantiable "LawWorlds$Search" 7 ∈ zT := zT_in 199 (by decide +kernel) rfl
theorem ml_E_3 : Cond.methodLink "LawWorlds$Search" 3 objectInit ∈ zT := zT_in 203 (by decide +kernel) rfl
theorem kl_E_9 : Cond.classLink "LawWorlds$Search" 9 "LawWorlds$Bench" ∈ zT := zT_in 204 (by decide +kernel) rfl
theorem kl_E_18 : Cond.classLink "LawWorlds$Search" 18 "LawWorlds$PlainWorlds" ∈ zT := zT_in 206 (by decide +kernel) rfl
theorem in_P : Cond.instantiable "LawWorlds$PlainWorlds" 4 ∈ zT := zT_in 207 (by decide +kernel) rfl
theorem ml_P_3 : Cond.methodLink "LawWorlds$PlainWorlds" 3 objectInit ∈ zT := zT_in 211 (by decide +kernel) rfl
theorem ac_byte : Cond.arrayClass .byte ∈ zT := zT_in 225 (by decide +kernel) rfl
theorem kl_E_25 : Cond.classLink "LawWorlds$Search" 25 "LawWorlds$Law" ∈ zT := zT_in 226 (by decide +kernel) rfl
theorem kl_X_44 : Cond.classLink "LawWorlds" 44 "LawWorlds$Reader" ∈ zT := zT_in 249 (by decide +kernel) rfl
theorem in_D : Cond.instantiable "LawWorlds$Reader" 8 ∈ zT := zT_in 250 (by decide +kernel) rfl
theorem ml_D_3 : Cond.methodLink "LawWorlds$Reader" 3 objectInit ∈ zT := zT_in 254 (by decide +kernel) rfl
theorem ac_char : Cond.arrayClass .char ∈ zT := zT_in 307 (by decide +kernel) rfl
theorem ml_law_13 : Cond.methodLink "LawWorldsLaw" 13 y_X_take ∈ zT := zT_in 308 (by decide +kernel) rfl
theorem ml_X_55 : Cond.methodLink "LawWorlds" 55 y_C_isCode ∈ zT := zT_in 312 (by decide +kernel) rfl
theorem ml_C_9 : Cond.methodLink "LawWorlds$Codes" 9 y_C_isSize ∈ zT := zT_in 315 (by decide +kernel) rfl
theorem ml_C_15 : Cond.methodLink "LawWorlds$Codes" 15 y_C_worldCount ∈ zT := zT_in 318 (by decide +kernel) rfl
theorem ml_X_68 : Cond.methodLink "LawWorlds" 68 y_H_record ∈ zT := zT_in 321 (by decide +kernel) rfl
theorem ml_H_26 : Cond.methodLink "LawWorlds$History" 26 y_H_dropOldest ∈ zT := zT_in 325 (by decide +kernel) rfl
theorem ml_H_29 : Cond.methodLink "LawWorlds$History" 29 y_S_copyFrom ∈ zT := zT_in 329 (by decide +kernel) rfl
theorem ml_law_18 : Cond.methodLink "LawWorldsLaw" 18 y_X_put ∈ zT := zT_in 333 (by decide +kernel) rfl
theorem ml_X_72 : Cond.methodLink "LawWorlds" 72 y_X_isThing ∈ zT := zT_in 337 (by decide +kernel) rfl
theorem ml_X_76 : Cond.methodLink "LawWorlds" 76 y_C_product ∈ zT := zT_in 341 (by decide +kernel) rfl
theorem ml_C_23 : Cond.methodLink "LawWorlds$Codes" 23 y_C_power ∈ zT := zT_in 344 (by decide +kernel) rfl
theorem ml_X_80 : Cond.methodLink "LawWorlds" 80 y_C_power ∈ zT := zT_in 349 (by decide +kernel) rfl
theorem ml_X_84 : Cond.methodLink "LawWorlds" 84 y_X_changeTo ∈ zT := zT_in 350 (by decide +kernel) rfl
theorem ml_law_23 : Cond.methodLink "LawWorldsLaw" 23 y_X_rename ∈ zT := zT_in 354 (by decide +kernel) rfl
theorem ml_X_88 : Cond.methodLink "LawWorlds" 88 y_C_exchange ∈ zT := zT_in 358 (by decide +kernel) rfl
theorem ml_X_91 : Cond.methodLink "LawWorlds" 91 y_C_renamed ∈ zT := zT_in 361 (by decide +kernel) rfl
theorem ml_C_30 : Cond.methodLink "LawWorlds$Codes" 30 y_C_newName ∈ zT := zT_in 364 (by decide +kernel) rfl
theorem ml_law_27 : Cond.methodLink "LawWorldsLaw" 27 y_X_mirror ∈ zT := zT_in 369 (by decide +kernel) rfl
theorem ml_X_95 : Cond.methodLink "LawWorlds" 95 y_C_mirrored ∈ zT := zT_in 373 (by decide +kernel) rfl
theorem ml_C_33 : Cond.methodLink "LawWorlds$Codes" 33 y_C_product ∈ zT := zT_in 376 (by decide +kernel) rfl
theorem ml_law_32 : Cond.methodLink "LawWorldsLaw" 32 y_X_addLaws ∈ zT := zT_in 377 (by decide +kernel) rfl
theorem ml_X_101 : Cond.methodLink "LawWorlds" 101 y_D_read ∈ zT := zT_in 381 (by decide +kernel) rfl
theorem ml_D_32 : Cond.methodLink "LawWorlds$Reader" 32 y_D_beginSide ∈ zT := zT_in 385 (by decide +kernel) rfl
theorem ml_D_36 : Cond.methodLink "LawWorlds$Reader" 36 y_D_accept ∈ zT := zT_in 389 (by decide +kernel) rfl
theorem ml_D_48 : Cond.methodLink "LawWorlds$Reader" 48 y_D_addLetter ∈ zT := zT_in 393 (by decide +kernel) rfl
theorem ml_D_68 : Cond.methodLink "LawWorlds$Reader" 68 y_D_addStep ∈ zT := zT_in 397 (by decide +kernel) rfl
theorem ml_D_72 : Cond.methodLink "LawWorlds$Reader" 72 y_D_endPart ∈ zT := zT_in 401 (by decide +kernel) rfl
theorem ml_D_52 : Cond.methodLink "LawWorlds$Reader" 52 y_D_openBracket ∈ zT := zT_in 405 (by decide +kernel) rfl
theorem ml_D_55 : Cond.methodLink "LawWorlds$Reader" 55 y_D_closeBracket ∈ zT := zT_in 409 (by decide +kernel) rfl
theorem ml_D_58 : Cond.methodLink "LawWorlds$Reader" 58 y_D_endLeft ∈ zT := zT_in 413 (by decide +kernel) rfl
theorem ml_D_75 : Cond.methodLink "LawWorlds$Reader" 75 y_D_isSideWhole ∈ zT := zT_in 417 (by decide +kernel) rfl
theorem ml_D_40 : Cond.methodLink "LawWorlds$Reader" 40 y_D_endLaw ∈ zT := zT_in 421 (by decide +kernel) rfl
theorem ml_X_109 : Cond.methodLink "LawWorlds" 109 y_F_bring ∈ zT := zT_in 425 (by decide +kernel) rfl
theorem ml_F_18 : Cond.methodLink "LawWorlds$Shelf" 18 y_D_lawStart ∈ zT := zT_in 429 (by decide +kernel) rfl
theorem ml_D_44 : Cond.methodLink "LawWorlds$Reader" 44 y_D_lawEnd ∈ zT := zT_in 433 (by decide +kernel) rfl
theorem ml_F_24 : Cond.methodLink "LawWorlds$Shelf" 24 y_D_lawEnd ∈ zT := zT_in 437 (by decide +kernel) rfl
theorem ml_F_31 : Cond.methodLink "LawWorlds$Shelf" 31 y_L_hasSteps ∈ zT := zT_in 438 (by decide +kernel) rfl
theorem ml_F_35 : Cond.methodLink "LawWorlds$Shelf" 35 y_S_uses ∈ zT := zT_in 442 (by decide +kernel) rfl
theorem ml_F_41 : Cond.methodLink "LawWorlds$Shelf" 41 y_H_uses ∈ zT := zT_in 446 (by decide +kernel) rfl
theorem ml_H_37 : Cond.methodLink "LawWorlds$History" 37 y_S_uses ∈ zT := zT_in 450 (by decide +kernel) rfl
theorem ml_F_44 : Cond.methodLink "LawWorlds$Shelf" 44 y_L_become ∈ zT := zT_in 451 (by decide +kernel) rfl
theorem ml_X_113 : Cond.methodLink "LawWorlds" 113 y_S_add ∈ zT := zT_in 455 (by decide +kernel) rfl
theorem ml_law_36 : Cond.methodLink "LawWorldsLaw" 36 y_X_removeLaw ∈ zT := zT_in 459 (by decide +kernel) rfl
theorem ml_X_117 : Cond.methodLink "LawWorlds" 117 y_S_hasLaw ∈ zT := zT_in 463 (by decide +kernel) rfl
theorem ml_X_120 : Cond.methodLink "LawWorlds" 120 y_S_remove ∈ zT := zT_in 467 (by decide +kernel) rfl
theorem ml_S_31 : Cond.methodLink "LawWorlds$State" 31 y_S_hasLaw ∈ zT := zT_in 471 (by decide +kernel) rfl
theorem ml_law_41 : Cond.methodLink "LawWorldsLaw" 41 y_X_turnLaw ∈ zT := zT_in 472 (by decide +kernel) rfl
theorem ml_X_128 : Cond.methodLink "LawWorlds" 128 y_S_onCount ∈ zT := zT_in 476 (by decide +kernel) rfl
theorem ml_law_46 : Cond.methodLink "LawWorldsLaw" 46 y_X_refute ∈ zT := zT_in 480 (by decide +kernel) rfl
theorem ml_X_132 : Cond.methodLink "LawWorlds" 132 y_E_findWitnesses ∈ zT := zT_in 484 (by decide +kernel) rfl
theorem ml_E_66 : Cond.methodLink "LawWorlds$Search" 66 y_S_lawAt ∈ zT := zT_in 488 (by decide +kernel) rfl
theorem ml_E_38 : Cond.methodLink "LawWorlds$Search" 38 y_P_list ∈ zT := zT_in 492 (by decide +kernel) rfl
theorem ml_P_26 : Cond.methodLink "LawWorlds$PlainWorlds" 26 y_C_worldCount ∈ zT := zT_in 496 (by decide +kernel) rfl
theorem ml_P_32 : Cond.methodLink "LawWorlds$PlainWorlds" 32 y_P_isIn ∈ zT := zT_in 497 (by decide +kernel) rfl
theorem ml_P_36 : Cond.methodLink "LawWorlds$PlainWorlds" 36 y_P_add ∈ zT := zT_in 500 (by decide +kernel) rfl
theorem ml_P_40 : Cond.methodLink "LawWorlds$PlainWorlds" 40 y_C_renamingCount ∈ zT := zT_in 504 (by decide +kernel) rfl
theorem ml_P_43 : Cond.methodLink "LawWorlds$PlainWorlds" 43 y_C_renamed ∈ zT := zT_in 507 (by decide +kernel) rfl
theorem ml_E_41 : Cond.methodLink "LawWorlds$Search" 41 y_E_demand ∈ zT := zT_in 508 (by decide +kernel) rfl
theorem ml_E_72 : Cond.methodLink "LawWorlds$Search" 72 y_E_countBroken ∈ zT := zT_in 512 (by decide +kernel) rfl
theorem ml_E_86 : Cond.methodLink "LawWorlds$Search" 86 y_P_sizeAt ∈ zT := zT_in 516 (by decide +kernel) rfl
theorem ml_E_59 : Cond.methodLink "LawWorlds$Search" 59 y_P_codeAt ∈ zT := zT_in 520 (by decide +kernel) rfl
theorem ml_E_107 : Cond.methodLink "LawWorlds$Search" 107 y_B_open ∈ zT := zT_in 524 (by decide +kernel) rfl
theorem ml_B_24 : Cond.methodLink "LawWorlds$Bench" 24 y_C_isSize ∈ zT := zT_in 528 (by decide +kernel) rfl
theorem ml_B_34 : Cond.methodLink "LawWorlds$Bench" 34 y_B_fillLetters ∈ zT := zT_in 529 (by decide +kernel) rfl
theorem ml_E_110 : Cond.methodLink "LawWorlds$Search" 110 y_B_run ∈ zT := zT_in 533 (by decide +kernel) rfl
theorem ml_B_45 : Cond.methodLink "LawWorlds$Bench" 45 y_B_join ∈ zT := zT_in 537 (by decide +kernel) rfl
theorem ml_E_113 : Cond.methodLink "LawWorlds$Search" 113 y_B_brokenCases ∈ zT := zT_in 541 (by decide +kernel) rfl
theorem ml_E_117 : Cond.methodLink "LawWorlds$Search" 117 y_I_bitCount ∈ zT := zT_in 545 (by decide +kernel) rfl
theorem kc_I_265 : Cond.constant "java/lang/Integer" 265 1431655765 ∈ zT := zT_in 548 (by decide +kernel) rfl
theorem kc_I_266 : Cond.constant "java/lang/Integer" 266 858993459 ∈ zT := zT_in 549 (by decide +kernel) rfl
theorem kc_I_267 : Cond.constant "java/lang/Integer" 267 252645135 ∈ zT := zT_in 550 (by decide +kernel) rfl
theorem ml_E_76 : Cond.methodLink "LawWorlds$Search" 76 y_L_brokenAt ∈ zT := zT_in 551 (by decide +kernel) rfl
theorem ml_E_79 : Cond.methodLink "LawWorlds$Search" 79 y_E_isAmongFirst ∈ zT := zT_in 555 (by decide +kernel) rfl
theorem ml_E_52 : Cond.methodLink "LawWorlds$Search" 52 y_E_isModel ∈ zT := zT_in 559 (by decide +kernel) rfl
theorem ml_E_82 : Cond.methodLink "LawWorlds$Search" 82 y_E_tell ∈ zT := zT_in 563 (by decide +kernel) rfl
theorem ml_E_122 : Cond.methodLink "LawWorlds$Search" 122 y_J_min ∈ zT := zT_in 567 (by decide +kernel) rfl
theorem ml_X_136 : Cond.methodLink "LawWorlds" 136 y_E_witnessNumber ∈ zT := zT_in 570 (by decide +kernel) rfl
theorem ac_long : Cond.arrayClass .long ∈ zT := zT_in 574 (by decide +kernel) rfl
theorem ml_law_50 : Cond.methodLink "LawWorldsLaw" 50 y_X_type ∈ zT := zT_in 575 (by decide +kernel) rfl
theorem ml_law_55 : Cond.methodLink "LawWorldsLaw" 55 y_X_clearText ∈ zT := zT_in 579 (by decide +kernel) rfl
theorem ml_law_59 : Cond.methodLink "LawWorldsLaw" 59 y_X_undo ∈ zT := zT_in 583 (by decide +kernel) rfl
theorem ml_X_139 : Cond.methodLink "LawWorlds" 139 y_H_goBack ∈ zT := zT_in 587 (by decide +kernel) rfl
theorem ml_law_63 : Cond.methodLink "LawWorldsLaw" 63 y_X_keep ∈ zT := zT_in 591 (by decide +kernel) rfl
theorem ml_X_146 : Cond.methodLink "LawWorlds" 146 y_H_takeSnapshot ∈ zT := zT_in 595 (by decide +kernel) rfl
theorem ml_law_67 : Cond.methodLink "LawWorldsLaw" 67 y_X_restore ∈ zT := zT_in 599 (by decide +kernel) rfl
theorem ml_X_153 : Cond.methodLink "LawWorlds" 153 y_H_bringSnapshot ∈ zT := zT_in 603 (by decide +kernel) rfl
theorem ml_law_71 : Cond.methodLink "LawWorldsLaw" 71 y_X_of ∈ zT := zT_in 607 (by decide +kernel) rfl
theorem ml_law_75 : Cond.methodLink "LawWorldsLaw" 75 y_X_world ∈ zT := zT_in 611 (by decide +kernel) rfl
theorem ml_X_156 : Cond.methodLink "LawWorlds" 156 y_C_plainCode ∈ zT := zT_in 615 (by decide +kernel) rfl
theorem ml_C_37 : Cond.methodLink "LawWorlds$Codes" 37 y_C_renamingCount ∈ zT := zT_in 618 (by decide +kernel) rfl
theorem ml_C_40 : Cond.methodLink "LawWorlds$Codes" 40 y_C_renamed ∈ zT := zT_in 619 (by decide +kernel) rfl
theorem ml_C_44 : Cond.methodLink "LawWorlds$Codes" 44 y_J_min ∈ zT := zT_in 620 (by decide +kernel) rfl
theorem ml_X_159 : Cond.methodLink "LawWorlds" 159 y_C_alikeCount ∈ zT := zT_in 621 (by decide +kernel) rfl
theorem ml_X_162 : Cond.methodLink "LawWorlds" 162 y_C_stayingThings ∈ zT := zT_in 624 (by decide +kernel) rfl
theorem ml_X_165 : Cond.methodLink "LawWorlds" 165 y_C_leftLeavers ∈ zT := zT_in 627 (by decide +kernel) rfl
theorem ml_X_168 : Cond.methodLink "LawWorlds" 168 y_X_countHolding ∈ zT := zT_in 630 (by decide +kernel) rfl
theorem ml_X_175 : Cond.methodLink "LawWorlds" 175 y_S_lawAt ∈ zT := zT_in 634 (by decide +kernel) rfl
theorem ml_X_179 : Cond.methodLink "LawWorlds" 179 y_X_brokenNow ∈ zT := zT_in 635 (by decide +kernel) rfl
theorem ml_X_199 : Cond.methodLink "LawWorlds" 199 y_B_open ∈ zT := zT_in 639 (by decide +kernel) rfl
theorem ml_X_203 : Cond.methodLink "LawWorlds" 203 y_B_run ∈ zT := zT_in 640 (by decide +kernel) rfl
theorem ml_X_228 : Cond.methodLink "LawWorlds" 228 y_B_brokenCases ∈ zT := zT_in 641 (by decide +kernel) rfl
theorem ml_law_79 : Cond.methodLink "LawWorldsLaw" 79 y_X_closed ∈ zT := zT_in 642 (by decide +kernel) rfl
theorem ml_X_172 : Cond.methodLink "LawWorlds" 172 y_C_withProducts ∈ zT := zT_in 646 (by decide +kernel) rfl
theorem ml_C_49 : Cond.methodLink "LawWorlds$Codes" 49 y_C_isIn ∈ zT := zT_in 649 (by decide +kernel) rfl
theorem ml_law_83 : Cond.methodLink "LawWorldsLaw" 83 y_X_law ∈ zT := zT_in 652 (by decide +kernel) rfl
theorem ml_X_183 : Cond.methodLink "LawWorlds" 183 y_I_bitCount ∈ zT := zT_in 656 (by decide +kernel) rfl
theorem ml_X_196 : Cond.methodLink "LawWorlds" 196 y_X_firstCase ∈ zT := zT_in 657 (by decide +kernel) rfl
theorem ml_law_87 : Cond.methodLink "LawWorldsLaw" 87 y_X_side ∈ zT := zT_in 660 (by decide +kernel) rfl
theorem ml_X_206 : Cond.methodLink "LawWorlds" 206 y_B_thingOf ∈ zT := zT_in 664 (by decide +kernel) rfl
theorem ml_B_49 : Cond.methodLink "LawWorlds$Bench" 49 y_C_isIn ∈ zT := zT_in 668 (by decide +kernel) rfl
theorem ml_law_92 : Cond.methodLink "LawWorldsLaw" 92 y_X_witness ∈ zT := zT_in 669 (by decide +kernel) rfl
theorem ml_law_96 : Cond.methodLink "LawWorldsLaw" 96 y_X_model ∈ zT := zT_in 673 (by decide +kernel) rfl
theorem ml_X_210 : Cond.methodLink "LawWorlds" 210 y_C_isSize ∈ zT := zT_in 677 (by decide +kernel) rfl
theorem ml_X_213 : Cond.methodLink "LawWorlds" 213 y_E_modelCode ∈ zT := zT_in 678 (by decide +kernel) rfl
theorem ml_E_45 : Cond.methodLink "LawWorlds$Search" 45 y_P_start ∈ zT := zT_in 682 (by decide +kernel) rfl
theorem ml_P_47 : Cond.methodLink "LawWorlds$PlainWorlds" 47 y_C_isSize ∈ zT := zT_in 686 (by decide +kernel) rfl
theorem ml_E_49 : Cond.methodLink "LawWorlds$Search" 49 y_P_end ∈ zT := zT_in 687 (by decide +kernel) rfl
theorem ml_law_100 : Cond.methodLink "LawWorldsLaw" 100 y_X_models ∈ zT := zT_in 691 (by decide +kernel) rfl
theorem ml_X_217 : Cond.methodLink "LawWorlds" 217 y_E_countModels ∈ zT := zT_in 695 (by decide +kernel) rfl
theorem ml_E_56 : Cond.methodLink "LawWorlds$Search" 56 y_P_alikesAt ∈ zT := zT_in 699 (by decide +kernel) rfl
theorem ml_law_104 : Cond.methodLink "LawWorldsLaw" 104 y_X_paired ∈ zT := zT_in 703 (by decide +kernel) rfl
theorem ml_X_221 : Cond.methodLink "LawWorlds" 221 y_X_sameCases ∈ zT := zT_in 707 (by decide +kernel) rfl
theorem ml_law_108 : Cond.methodLink "LawWorldsLaw" 108 y_X_alike ∈ zT := zT_in 711 (by decide +kernel) rfl
theorem ml_law_112 : Cond.methodLink "LawWorldsLaw" 112 y_X_count ∈ zT := zT_in 715 (by decide +kernel) rfl
theorem ml_X_225 : Cond.methodLink "LawWorlds" 225 y_X_countFollowing ∈ zT := zT_in 719 (by decide +kernel) rfl
theorem kl_law_10 : Cond.classLink "LawWorldsLaw" 10 "LawWorldsModel" ∈ zT := zT_in 723 (by decide +kernel) rfl
theorem in_M : Cond.instantiable "LawWorldsModel" 23 ∈ zT := zT_in 724 (by decide +kernel) rfl
theorem ml_law_12 : Cond.methodLink "LawWorldsLaw" 12 y_M_init ∈ zT := zT_in 725 (by decide +kernel) rfl
theorem ml_M_1 : Cond.methodLink "LawWorldsModel" 1 objectInit ∈ zT := zT_in 728 (by decide +kernel) rfl
theorem ml_M_52 : Cond.methodLink "LawWorldsModel" 52 y_M_codes ∈ zT := zT_in 729 (by decide +kernel) rfl
theorem ml_M_64 : Cond.methodLink "LawWorldsModel" 64 y_M_power ∈ zT := zT_in 732 (by decide +kernel) rfl
theorem ml_M_56 : Cond.methodLink "LawWorldsModel" 56 y_M_plainOf ∈ zT := zT_in 735 (by decide +kernel) rfl
theorem ml_M_76 : Cond.methodLink "LawWorldsModel" 76 y_M_unfolds ∈ zT := zT_in 739 (by decide +kernel) rfl
theorem ml_M_80 : Cond.methodLink "LawWorldsModel" 80 y_M_waysOf ∈ zT := zT_in 743 (by decide +kernel) rfl
theorem ml_M_83 : Cond.methodLink "LawWorldsModel" 83 y_M_codeBy ∈ zT := zT_in 746 (by decide +kernel) rfl
theorem ml_M_73 : Cond.methodLink "LawWorldsModel" 73 y_M_renamed ∈ zT := zT_in 750 (by decide +kernel) rfl
theorem ml_law_17 : Cond.methodLink "LawWorldsLaw" 17 y_M_take ∈ zT := zT_in 823 (by decide +kernel) rfl
theorem ml_M_134 : Cond.methodLink "LawWorldsModel" 134 y_M_isWorld ∈ zT := zT_in 827 (by decide +kernel) rfl
theorem kc_M_67 : Cond.constantLong "LawWorldsModel" 67 3 ∈ zT := zT_in 830 (by decide +kernel) rfl
theorem ml_M_69 : Cond.methodLink "LawWorldsModel" 69 y_M_in ∈ zT := zT_in 831 (by decide +kernel) rfl
theorem ml_M_128 : Cond.methodLink "LawWorldsModel" 128 y_M_remember ∈ zT := zT_in 834 (by decide +kernel) rfl
theorem ml_M_131 : Cond.methodLink "LawWorldsModel" 131 y_M_acted ∈ zT := zT_in 838 (by decide +kernel) rfl
theorem ml_law_22 : Cond.methodLink "LawWorldsLaw" 22 y_M_put ∈ zT := zT_in 842 (by decide +kernel) rfl
theorem ml_M_137 : Cond.methodLink "LawWorldsModel" 137 y_M_isThing ∈ zT := zT_in 846 (by decide +kernel) rfl
theorem ml_M_140 : Cond.methodLink "LawWorldsModel" 140 y_M_comes ∈ zT := zT_in 850 (by decide +kernel) rfl
theorem ml_M_144 : Cond.methodLink "LawWorldsModel" 144 y_M_becomes ∈ zT := zT_in 853 (by decide +kernel) rfl
theorem ml_law_26 : Cond.methodLink "LawWorldsLaw" 26 y_M_rename ∈ zT := zT_in 857 (by decide +kernel) rfl
theorem ml_M_147 : Cond.methodLink "LawWorldsModel" 147 y_M_exchanged ∈ zT := zT_in 861 (by decide +kernel) rfl
theorem ml_law_31 : Cond.methodLink "LawWorldsLaw" 31 y_M_mirror ∈ zT := zT_in 864 (by decide +kernel) rfl
theorem ml_law_54 : Cond.methodLink "LawWorldsLaw" 54 y_M_type ∈ zT := zT_in 868 (by decide +kernel) rfl
theorem ml_law_58 : Cond.methodLink "LawWorldsLaw" 58 y_M_clearText ∈ zT := zT_in 872 (by decide +kernel) rfl
theorem ml_law_35 : Cond.methodLink "LawWorldsLaw" 35 y_M_addLaws ∈ zT := zT_in 876 (by decide +kernel) rfl
theorem ml_M_185 : Cond.methodLink "LawWorldsModel" 185 y_M_fault ∈ zT := zT_in 880 (by decide +kernel) rfl
theorem ml_M_175 : Cond.methodLink "LawWorldsModel" 175 y_M_beginsSide ∈ zT := zT_in 884 (by decide +kernel) rfl
theorem ml_M_178 : Cond.methodLink "LawWorldsModel" 178 y_M_isWhole ∈ zT := zT_in 888 (by decide +kernel) rfl
theorem ml_M_182 : Cond.methodLink "LawWorldsModel" 182 y_M_takesInSide ∈ zT := zT_in 892 (by decide +kernel) rfl
theorem kc_M_165 : Cond.constantLong "LawWorldsModel" 165 120 ∈ zT := zT_in 896 (by decide +kernel) rfl
theorem kc_M_167 : Cond.constantLong "LawWorldsModel" 167 122 ∈ zT := zT_in 897 (by decide +kernel) rfl
theorem ml_M_162 : Cond.methodLink "LawWorldsModel" 162 y_M_adds ∈ zT := zT_in 898 (by decide +kernel) rfl
theorem ml_M_169 : Cond.methodLink "LawWorldsModel" 169 y_M_hasPart ∈ zT := zT_in 902 (by decide +kernel) rfl
theorem ml_M_86 : Cond.methodLink "LawWorldsModel" 86 y_M_lawAt ∈ zT := zT_in 906 (by decide +kernel) rfl
theorem ml_law_40 : Cond.methodLink "LawWorldsLaw" 40 y_M_removeLaw ∈ zT := zT_in 909 (by decide +kernel) rfl
theorem ml_M_189 : Cond.methodLink "LawWorldsModel" 189 y_M_isLaw ∈ zT := zT_in 913 (by decide +kernel) rfl
theorem ml_law_45 : Cond.methodLink "LawWorldsLaw" 45 y_M_turnLaw ∈ zT := zT_in 917 (by decide +kernel) rfl
theorem ml_M_111 : Cond.methodLink "LawWorldsModel" 111 y_M_isOn ∈ zT := zT_in 921 (by decide +kernel) rfl
theorem ml_M_192 : Cond.methodLink "LawWorldsModel" 192 y_M_lawsOn ∈ zT := zT_in 925 (by decide +kernel) rfl
theorem ml_law_49 : Cond.methodLink "LawWorldsLaw" 49 y_M_refute ∈ zT := zT_in 929 (by decide +kernel) rfl
theorem ml_M_124 : Cond.methodLink "LawWorldsModel" 124 y_M_findsWitnesses ∈ zT := zT_in 933 (by decide +kernel) rfl
theorem ml_M_114 : Cond.methodLink "LawWorldsModel" 114 y_M_learns ∈ zT := zT_in 937 (by decide +kernel) rfl
theorem ml_M_103 : Cond.methodLink "LawWorldsModel" 103 y_M_isKnown ∈ zT := zT_in 941 (by decide +kernel) rfl
theorem ml_M_107 : Cond.methodLink "LawWorldsModel" 107 y_M_sizeAt ∈ zT := zT_in 945 (by decide +kernel) rfl
theorem ml_M_97 : Cond.methodLink "LawWorldsModel" 97 y_M_brokenIn ∈ zT := zT_in 948 (by decide +kernel) rfl
theorem ml_M_93 : Cond.methodLink "LawWorldsModel" 93 y_M_isBroken ∈ zT := zT_in 952 (by decide +kernel) rfl
theorem ml_M_89 : Cond.methodLink "LawWorldsModel" 89 y_M_comesOf ∈ zT := zT_in 956 (by decide +kernel) rfl
theorem ml_M_120 : Cond.methodLink "LawWorldsModel" 120 y_M_hold ∈ zT := zT_in 960 (by decide +kernel) rfl
theorem ml_law_62 : Cond.methodLink "LawWorldsLaw" 62 y_M_undo ∈ zT := zT_in 964 (by decide +kernel) rfl
theorem ml_law_66 : Cond.methodLink "LawWorldsLaw" 66 y_M_keep ∈ zT := zT_in 968 (by decide +kernel) rfl
theorem ml_law_70 : Cond.methodLink "LawWorldsLaw" 70 y_M_restore ∈ zT := zT_in 972 (by decide +kernel) rfl
theorem ml_law_74 : Cond.methodLink "LawWorldsLaw" 74 y_M_of ∈ zT := zT_in 976 (by decide +kernel) rfl
theorem ml_law_78 : Cond.methodLink "LawWorldsLaw" 78 y_M_world ∈ zT := zT_in 980 (by decide +kernel) rfl
theorem ml_M_201 : Cond.methodLink "LawWorldsModel" 201 y_M_alikeTo ∈ zT := zT_in 984 (by decide +kernel) rfl
theorem ml_M_204 : Cond.methodLink "LawWorldsModel" 204 y_M_things ∈ zT := zT_in 988 (by decide +kernel) rfl
theorem ml_M_207 : Cond.methodLink "LawWorldsModel" 207 y_M_lawsThatHold ∈ zT := zT_in 992 (by decide +kernel) rfl
theorem ml_M_198 : Cond.methodLink "LawWorldsModel" 198 y_M_brokenNow ∈ zT := zT_in 996 (by decide +kernel) rfl
theorem ml_law_82 : Cond.methodLink "LawWorldsLaw" 82 y_M_closed ∈ zT := zT_in 1000 (by decide +kernel) rfl
theorem ml_law_86 : Cond.methodLink "LawWorldsLaw" 86 y_M_law ∈ zT := zT_in 1004 (by decide +kernel) rfl
theorem ml_M_211 : Cond.methodLink "LawWorldsModel" 211 y_M_lettersOf ∈ zT := zT_in 1008 (by decide +kernel) rfl
theorem ml_M_215 : Cond.methodLink "LawWorldsModel" 215 y_M_follows ∈ zT := zT_in 1012 (by decide +kernel) rfl
theorem ml_M_218 : Cond.methodLink "LawWorldsModel" 218 y_M_toldWitnesses ∈ zT := zT_in 1016 (by decide +kernel) rfl
theorem ml_M_221 : Cond.methodLink "LawWorldsModel" 221 y_M_firstBroken ∈ zT := zT_in 1020 (by decide +kernel) rfl
theorem ml_law_91 : Cond.methodLink "LawWorldsLaw" 91 y_M_side ∈ zT := zT_in 1024 (by decide +kernel) rfl
theorem ml_law_95 : Cond.methodLink "LawWorldsLaw" 95 y_M_witness ∈ zT := zT_in 1028 (by decide +kernel) rfl
theorem kc_M_224 : Cond.constantLong "LawWorldsModel" 224 2 ∈ zT := zT_in 1032 (by decide +kernel) rfl
theorem ml_law_99 : Cond.methodLink "LawWorldsLaw" 99 y_M_model ∈ zT := zT_in 1033 (by decide +kernel) rfl
theorem ml_law_103 : Cond.methodLink "LawWorldsLaw" 103 y_M_models ∈ zT := zT_in 1037 (by decide +kernel) rfl
theorem ml_law_107 : Cond.methodLink "LawWorldsLaw" 107 y_M_paired ∈ zT := zT_in 1041 (by decide +kernel) rfl
theorem ml_law_111 : Cond.methodLink "LawWorldsLaw" 111 y_M_alike ∈ zT := zT_in 1045 (by decide +kernel) rfl
theorem ml_law_115 : Cond.methodLink "LawWorldsLaw" 115 y_M_count ∈ zT := zT_in 1049 (by decide +kernel) rfl
theorem ml_M_226 : Cond.methodLink "LawWorldsModel" 226 y_M_lawsThatFollow ∈ zT := zT_in 1053 (by decide +kernel) rfl
theorem k_oi : Cond.instanceMethod objectInit ∈ zT := zT_in 77 (by decide +kernel) rfl
theorem k_oc : Cond.code objectInit ⟨#[0xb1]⟩ 1 none ∈ zT := zT_in 78 (by decide +kernel) rfl
def zN : List Cond := [(Jvm.Cond.methodLinkNest "LawWorlds" (9 : Nat) ({ cls := "LawWorlds$State", name := "<init>", desc := "()V" } : Jvm.MethodName) "LawWorlds"), (Jvm.Cond.methodLinkNest "LawWorlds" (18 : Nat) ({ cls := "LawWorlds$History", name := "<init>", desc := "()V" } : Jvm.MethodName) "LawWorlds"), (Jvm.Cond.methodLinkNest "LawWorlds$History" (11 : Nat) ({ cls := "LawWorlds$State", name := "<init>", desc := "()V" } : Jvm.MethodName) "LawWorlds"), (Jvm.Cond.methodLinkNest "LawWorlds$Shelf" (17 : Nat) ({ cls := "LawWorlds$Law", name := "<init>", desc := "()V" } : Jvm.MethodName) "LawWorlds"), (Jvm.Cond.methodLinkNest "LawWorlds" (32 : Nat) ({ cls := "LawWorlds$Bench", name := "<init>", desc := "()V" } : Jvm.MethodName) "LawWorlds"), (Jvm.Cond.methodLinkNest "LawWorlds" (39 : Nat) ({ cls := "LawWorlds$Search", name := "<init>", desc := "()V" } : Jvm.MethodName) "LawWorlds"), (Jvm.Cond.methodLinkNest "LawWorlds$Search" (11 : Nat) ({ cls := "LawWorlds$Bench", name := "<init>", desc := "()V" } : Jvm.MethodName) "LawWorlds"), (Jvm.Cond.methodLinkNest "LawWorlds$Search" (20 : Nat) ({ cls := "LawWorlds$PlainWorlds", name := "<init>", desc := "()V" } : Jvm.MethodName) "LawWorlds"), (Jvm.Cond.methodLinkNest "LawWorlds" (46 : Nat) ({ cls := "LawWorlds$Reader", name := "<init>", desc := "()V" } : Jvm.MethodName) "LawWorlds")]
theorem nl_X_9 : Cond.methodLinkNest "LawWorlds" 9 y_S_init "LawWorlds" ∈ zN := List.mem_of_getElem? (i := 0) rfl
theorem nl_X_18 : Cond.methodLinkNest "LawWorlds" 18 y_H_init "LawWorlds" ∈ zN := List.mem_of_getElem? (i := 1) rfl
theorem nl_H_11 : Cond.methodLinkNest "LawWorlds$History" 11 y_S_init "LawWorlds" ∈ zN := List.mem_of_getElem? (i := 2) rfl
theorem nl_F_17 : Cond.methodLinkNest "LawWorlds$Shelf" 17 y_L_init "LawWorlds" ∈ zN := List.mem_of_getElem? (i := 3) rfl
theorem nl_X_32 : Cond.methodLinkNest "LawWorlds" 32 y_B_init "LawWorlds" ∈ zN := List.mem_of_getElem? (i := 4) rfl
theorem nl_X_39 : Cond.methodLinkNest "LawWorlds" 39 y_E_init "LawWorlds" ∈ zN := List.mem_of_getElem? (i := 5) rfl
theorem nl_E_11 : Cond.methodLinkNest "LawWorlds$Search" 11 y_B_init "LawWorlds" ∈ zN := List.mem_of_getElem? (i := 6) rfl
theorem nl_E_20 : Cond.methodLinkNest "LawWorlds$Search" 20 y_P_init "LawWorlds" ∈ zN := List.mem_of_getElem? (i := 7) rfl
theorem nl_X_46 : Cond.methodLinkNest "LawWorlds" 46 y_D_init "LawWorlds" ∈ zN := List.mem_of_getElem? (i := 8) rfl
theorem zN_in : ∀ w ∈ zN, w ∈ lw_tbl := by
  intro w hw
  simp only [zN, List.mem_cons, List.not_mem_nil, or_false] at hw
  rcases hw with rfl | rfl | rfl | rfl | rfl | rfl | rfl | rfl | rfl
  · exact List.mem_of_getElem? (i := 81) (by decide +kernel)
  · exact List.mem_of_getElem? (i := 112) (by decide +kernel)
  · exact List.mem_of_getElem? (i := 118) (by decide +kernel)
  · exact List.mem_of_getElem? (i := 142) (by decide +kernel)
  · exact List.mem_of_getElem? (i := 178) (by decide +kernel)
  · exact List.mem_of_getElem? (i := 200) (by decide +kernel)
  · exact List.mem_of_getElem? (i := 205) (by decide +kernel)
  · exact List.mem_of_getElem? (i := 208) (by decide +kernel)
  · exact List.mem_of_getElem? (i := 251) (by decide +kernel)
theorem ao_Law : (Jvm.Cond.arrayOver (Jvm.ClassFile.FieldType.object "LawWorlds$Law")) ∈ lw_tbl := List.mem_of_getElem? (i := 86) (by decide +kernel)
theorem ao_State : (Jvm.Cond.arrayOver (Jvm.ClassFile.FieldType.object "LawWorlds$State")) ∈ lw_tbl := List.mem_of_getElem? (i := 117) (by decide +kernel)
theorem ls_POWERS_OF_THREE : (Jvm.Cond.laysStatic "LawWorlds$Codes" "POWERS_OF_THREE" "[I") ∈ lw_tbl := List.mem_of_getElem? (i := 348) (by decide +kernel)
theorem ls_RENAMINGS : (Jvm.Cond.laysStatic "LawWorlds$Codes" "RENAMINGS" "[I") ∈ lw_tbl := List.mem_of_getElem? (i := 368) (by decide +kernel)
theorem fl_C_19 : Cond.fieldLink "LawWorlds$Codes" 19 "LawWorlds$Codes" "POWERS_OF_THREE" "[I" ∈ zT := zT_in 347 (by decide +kernel) rfl
theorem fl_C_27 : Cond.fieldLink "LawWorlds$Codes" 27 "LawWorlds$Codes" "RENAMINGS" "[I" ∈ zT := zT_in 367 (by decide +kernel) rfl
end
section
/-! The abstract state: cells by address, with a shape each; ints, references and longs by address and place; and the rows over it. -/
abbrev Shp : Type := Nat ⊕ (Nat × Nat)
abbrev St : Type := Nat × (Nat → Option Shp) × (Nat → Nat → Int32) × (Nat → Nat → Option Nat) × (Nat → Nat → Int64)
def s_n (σ : St) : Nat := σ.1
def s_s (σ : St) : Nat → Option Shp := σ.2.1
def s_i (σ : St) : Nat → Nat → Int32 := σ.2.2.1
def s_r (σ : St) : Nat → Nat → Option Nat := σ.2.2.2.1
def s_l (σ : St) : Nat → Nat → Int64 := σ.2.2.2.2
def up2 {α : Type} (f : Nat → Nat → α) (q k : Nat) (v : α) : Nat → Nat → α := fun a b => if a = q ∧ b = k then v else f a b
def w_i (σ : St) (q k : Nat) (v : Int32) : St := (σ.1, σ.2.1, up2 σ.2.2.1 q k v, σ.2.2.2.1, σ.2.2.2.2)
def w_r (σ : St) (q k : Nat) (v : Option Nat) : St := (σ.1, σ.2.1, σ.2.2.1, up2 σ.2.2.2.1 q k v, σ.2.2.2.2)
def w_l (σ : St) (q k : Nat) (v : Int64) : St := (σ.1, σ.2.1, σ.2.2.1, σ.2.2.2.1, up2 σ.2.2.2.2 q k v)
def w_new (σ : St) (sp : Shp) : St := (σ.1 + 1, fun a => if a = σ.1 then some sp else σ.2.1 a, fun a b => if a = σ.1 then 0 else σ.2.2.1 a b, fun a b => if a = σ.1 then none else σ.2.2.2.1 a b, fun a b => if a = σ.1 then 0 else σ.2.2.2.2 a b)
/-- the kinds of arrays -/
def aty : Nat → FieldType := fun t => match t with
  | 0 => .int
  | 1 => .boolean
  | 2 => .byte
  | 3 => .char
  | 4 => .long
  | 5 => .object "LawWorlds$Law"
  | _ => .object "LawWorlds$State"
def vy (ty : FieldType) (i : Int32) (r : Option Nat) (l : Int64) : Value := match ty with
  | .object _ => va_rf r
  | .array _ => va_rf r
  | .long => .long l
  | _ => .int i
def ev (t : Nat) (σ : St) (q j : Nat) : Value := vy (aty t) (s_i σ q j) (s_r σ q j) (s_l σ q j)
def fv (ci : Nat) (σ : St) (q k : Nat) : Value := vy (fY ci k) (s_i σ q k) (s_r σ q k) (s_l σ q k)
def wc (D : va_G) (σ : St) (U : State) (H : Heap) (q : Nat) (sp : Shp) : Prop := match sp with
  | .inl ci => ci < 10 ∧ t_OB q (D.1 ci) (fN ci) (D.2 ci) H (fv ci σ q)
  | .inr (t, n) => ∃ cA, H[q]? = some (arrV cA n (ev t σ q)) ∧ ArrOfT U cA (aty t) ∧ va_RA U cA (aty t)
def wh (D : va_G) (B : Nat) (σ : St) (U : State) (H : Heap) : Prop := H.size = s_n σ ∧ ∀ (q : Nat) (sp : Shp), s_s σ q = some sp → B ≤ q ∧ wc D σ U H q sp
def zA (B : Nat) : Nat → Prop := fun q => B ≤ q
def zE (D : va_G) (B : Nat) : St → State → Prop := fun σ t => wh D B σ t t.heap
/-- the two static tables -/
def pw3 : Nat → Int32 := fun j => nI (3 ^ j)
def rnm : Nat → Int32 := fun j => nI ([0, 1, 2, 1, 0, 2, 2, 1, 0, 0, 2, 1, 1, 2, 0, 2, 0, 1].getD j 0)
def zs (B tP tR : Nat) (U : State) (H : Heap) : Prop := va_Z "LawWorlds$Codes" "POWERS_OF_THREE" "[I" (.ref tP) (zA B) U H ∧ va_T .int tP 9 (fun j => .int (pw3 j)) (zA B) U H ∧ va_Z "LawWorlds$Codes" "RENAMINGS" "[I" (.ref tR) (zA B) U H ∧ va_T .int tR 18 (fun j => .int (rnm j)) (zA B) U H
def wk (D : va_G) (B : Nat) (U : State) : Prop := B ≤ U.heap.size ∧ va_K D classes [] U ∧ (∀ w ∈ zN, va_Nw w U) ∧ va_AO "LawWorlds$Law" U ∧ va_AO "LawWorlds$State" U ∧ ∃ tP tR, zs B tP tR U U.heap
def zP (D : va_G) (B : Nat) (σ : St) (U : State) : Prop := wk D B U ∧ wh D B σ U U.heap
theorem wc.moved {D : va_G} {σ : St} {u U : State} {H : Heap} {q : Nat} {sp : Shp} (hvm : u.vm.Alike U.vm) (h : wc D σ u H q sp) : wc D σ U H q sp := by
  rcases sp with ci | ⟨t, n⟩
  · exact h
  · obtain ⟨cA, h1, h2, h3⟩ := h
    exact ⟨cA, h1, arrOfT_moved hvm h2, h3.moved hvm⟩
theorem wh.moved {D : va_G} {B : Nat} {σ : St} {u U : State} {H : Heap} (hvm : u.vm.Alike U.vm) (h : wh D B σ u H) : wh D B σ U H := ⟨h.1, fun q sp hq => ⟨(h.2 q sp hq).1, (h.2 q sp hq).2.moved hvm⟩⟩
theorem zN_ok : ∀ w ∈ zN, w.onTables = true := by
  have h : zN.all (fun w => w.onTables) = true := by decide +kernel
  exact List.all_eq_true.mp h
theorem wk.blind {D : va_G} {B : Nat} {U : State} {g : JFrame} {mk : MethodId} {a : Array Value} (h : wk D B U) : wk D B (U.calling g mk a) := by
  obtain ⟨h1, h2, h3, h4, h5, tP, tR, h6, h7, h8, h9⟩ := h
  have hv : U.vm.Alike (U.calling g mk a).vm := Vm.Alike.refl U.vm
  exact ⟨h1, va_K.moved hv h2, fun w hw => va_Nw.same (zN_ok w hw) (rfl : U.vm = (U.calling g mk a).vm) (h3 w hw), va_AO.moved hv h4, va_AO.moved hv h5, tP, tR, h6.moved hv, h7.moved hv, h8.moved hv, h9.moved hv⟩
theorem zP.blind {D : va_G} {B : Nat} {σ : St} {av : List Value} : FrameBlind (va_Pc av (zP D B σ)) := fun _ U _ _ q => ⟨q.1, q.2.1.blind, q.2.2.moved (Vm.Alike.refl U.vm)⟩
theorem zN_warm {s U : State} (hW : s.WarmedH U.vm) (h : ∀ w ∈ zN, va_Nw w s) : ∀ w ∈ zN, va_Nw w U := by
  intro w hw
  have h0 := h w hw
  simp only [zN, List.mem_cons, List.not_mem_nil, or_false] at hw
  rcases hw with rfl | rfl | rfl | rfl | rfl | rfl | rfl | rfl | rfl <;> exact va_Nw.warmM hW h0
theorem zs.kept {B tP tR : Nat} {U : State} {H H1 : Heap} (h : zs B tP tR U H) (hq : ∀ a : Nat, a < H.size → ¬ zA B a → H1[a]? = H[a]?) : zs B tP tR U H1 := ⟨h.1.kept hq, h.2.1.kept hq, h.2.2.1.kept hq, h.2.2.2.kept hq⟩
theorem zs.moved {B tP tR : Nat} {u U : State} {H : Heap} (hvm : u.vm.Alike U.vm) (h : zs B tP tR u H) : zs B tP tR U H := ⟨h.1.moved hvm, h.2.1.moved hvm, h.2.2.1.moved hvm, h.2.2.2.moved hvm⟩
theorem zP.enter {D : va_G} {B : Nat} {σ : St} {s U : State} {H : Heap} {locs : List Loc} (hk : wk D B s) (hw : wh D B σ s H) (hS : va_S (zA B) s.heap H locs) (hU : U.heap = H) (hW : s.WarmedH U.vm) : zP D B σ U := by
  obtain ⟨h1, h2, h3, h4, h5, tP, tR, h6⟩ := hk
  have hv := hW.alike
  refine ⟨⟨by rw [hU]; exact Nat.le_trans h1 hS.1, va_K.moved hv h2, zN_warm hW h3, va_AO.moved hv h4, va_AO.moved hv h5, tP, tR, ?_⟩, by rw [hU]; exact hw.moved hv⟩
  rw [hU]
  exact (h6.kept (fun a h1 h2 => hS.2.1 a h1 h2)).moved hv
/-! what a step does to the world -/
theorem wc.congr {D : va_G} {σ σ' : St} {U : State} {H H' : Heap} {q : Nat} {sp : Shp} (h : wc D σ U H q sp) (hi : s_i σ' q = s_i σ q) (hr : s_r σ' q = s_r σ q) (hl : s_l σ' q = s_l σ q) (hq : H'[q]? = H[q]?) : wc D σ' U H' q sp := by
  rcases sp with ci | ⟨t, n⟩
  · exact ⟨h.1, (h.2.kept hq).to (fun k _ => by unfold fv; rw [hi, hr, hl])⟩
  · obtain ⟨cA, h1, h2⟩ := h
    refine ⟨cA, ?_, h2⟩
    rw [hq, h1]
    congr 2
    funext j
    unfold ev
    rw [hi, hr, hl]
theorem up2_ne {α : Type} {f : Nat → Nat → α} {q k : Nat} {v : α} {a : Nat} (h : a ≠ q) : up2 f q k v a = f a := by
  funext b
  simp [up2, h]
theorem up2_eq {α : Type} {f : Nat → Nat → α} {q k : Nat} {v : α} : up2 f q k v q = fun b => if b = k then v else f q b := by
  funext b
  simp [up2]
theorem wh.set {D : va_G} {B : Nat} {σ σ' : St} {U : State} {H H' : Heap} {q : Nat} {sp : Shp} (h : wh D B σ U H) (hs : s_s σ q = some sp) (hn : s_n σ' = s_n σ) (hss : s_s σ' = s_s σ) (ho : ∀ a, a ≠ q → s_i σ' a = s_i σ a ∧ s_r σ' a = s_r σ a ∧ s_l σ' a = s_l σ a) (hz : H'.size = H.size) (hq : ∀ a, a ≠ q → H'[a]? = H[a]?) (hc : wc D σ' U H' q sp) : wh D B σ' U H' := by
  refine ⟨by rw [hz, hn]; exact h.1, fun a sp' ha => ?_⟩
  rw [hss] at ha
  by_cases e : a = q
  · subst e
    cases hs.symm.trans ha
    exact ⟨(h.2 _ _ hs).1, hc⟩
  · exact ⟨(h.2 a sp' ha).1, (h.2 a sp' ha).2.congr (ho a e).1 (ho a e).2.1 (ho a e).2.2 (hq a e)⟩
/-- an array's place is written -/
theorem wh.seta {D : va_G} {B : Nat} {σ σ' : St} {U : State} {H H' : Heap} {q t n j : Nat} {v : Value} {cA : ClassId} (h : wh D B σ U H) (hs : s_s σ q = some (.inr (t, n))) (hn : s_n σ' = s_n σ) (hss : s_s σ' = s_s σ) (ho : ∀ a, a ≠ q → s_i σ' a = s_i σ a ∧ s_r σ' a = s_r σ a ∧ s_l σ' a = s_l σ a)
    (hA : ArrOfT U cA (aty t) ∧ va_RA U cA (aty t)) (he : H'[q]? = some ((arrV cA n (ev t σ q)).setSlot j v)) (hv : ∀ b, ev t σ' q b = updV (ev t σ q) j v b) (hz : H'.size = H.size) (hq : ∀ a, a ≠ q → H'[a]? = H[a]?) : wh D B σ' U H' := by
  refine h.set hs hn hss ho hz hq ⟨cA, ?_, hA⟩
  rw [he, arrV_store]
  congr 2
  funext b
  exact (hv b).symm
theorem ev_wi {t : Nat} (ht : ∀ i r l, vy (aty t) i r l = .int i) (σ : St) (q j : Nat) (x : Int32) (b : Nat) : ev t (w_i σ q j x) q b = updV (ev t σ q) j (.int x) b := by
  unfold ev
  rw [ht, updV, ht]
  show Value.int (up2 σ.2.2.1 q j x q b) = _
  rw [up2_eq]
  by_cases h : b = j
  · simp [h]
  · simp [h, s_i]
theorem ev_wr {t : Nat} (ht : ∀ i r l, vy (aty t) i r l = va_rf r) (σ : St) (q j : Nat) (x : Option Nat) (b : Nat) : ev t (w_r σ q j x) q b = updV (ev t σ q) j (va_rf x) b := by
  unfold ev
  rw [ht, updV, ht]
  show va_rf (up2 σ.2.2.2.1 q j x q b) = _
  rw [up2_eq]
  by_cases h : b = j
  · simp [h]
  · simp [h, s_r]
theorem ev_wl {t : Nat} (ht : ∀ i r l, vy (aty t) i r l = .long l) (σ : St) (q j : Nat) (x : Int64) (b : Nat) : ev t (w_l σ q j x) q b = updV (ev t σ q) j (.long x) b := by
  unfold ev
  rw [ht, updV, ht]
  show Value.long (up2 σ.2.2.2.2 q j x q b) = _
  rw [up2_eq]
  by_cases h : b = j
  · simp [h]
  · simp [h, s_l]
theorem wi_o (σ : St) (q j : Nat) (x : Int32) : ∀ a, a ≠ q → s_i (w_i σ q j x) a = s_i σ a ∧ s_r (w_i σ q j x) a = s_r σ a ∧ s_l (w_i σ q j x) a = s_l σ a := fun _ h => ⟨up2_ne h, rfl, rfl⟩
theorem wr_o (σ : St) (q j : Nat) (x : Option Nat) : ∀ a, a ≠ q → s_i (w_r σ q j x) a = s_i σ a ∧ s_r (w_r σ q j x) a = s_r σ a ∧ s_l (w_r σ q j x) a = s_l σ a := fun _ h => ⟨rfl, up2_ne h, rfl⟩
theorem wl_o (σ : St) (q j : Nat) (x : Int64) : ∀ a, a ≠ q → s_i (w_l σ q j x) a = s_i σ a ∧ s_r (w_l σ q j x) a = s_r σ a ∧ s_l (w_l σ q j x) a = s_l σ a := fun _ h => ⟨rfl, rfl, up2_ne h⟩
theorem wh.cell {D : va_G} {B : Nat} {σ : St} {U : State} {H : Heap} {q : Nat} {t n : Nat} (h : wh D B σ U H) (hs : s_s σ q = some (.inr (t, n))) : ∃ cA, H[q]? = some (arrV cA n (ev t σ q)) ∧ ArrOfT U cA (aty t) ∧ va_RA U cA (aty t) := (h.2 q _ hs).2
theorem wh.obj {D : va_G} {B : Nat} {σ : St} {U : State} {H : Heap} {q : Nat} {ci : Nat} (h : wh D B σ U H) (hs : s_s σ q = some (.inl ci)) : ci < 10 ∧ t_OB q (D.1 ci) (fN ci) (D.2 ci) H (fv ci σ q) := (h.2 q _ hs).2
theorem wh.lt {D : va_G} {B : Nat} {σ : St} {U : State} {H : Heap} {q : Nat} {sp : Shp} (h : wh D B σ U H) (hs : s_s σ q = some sp) : q < H.size := by
  have h1 := (h.2 q sp hs).2
  rcases sp with ci | ⟨t, n⟩
  · obtain ⟨-, cell, h2, -⟩ := h1
    exact (Array.getElem?_eq_some_iff.mp h2).1
  · obtain ⟨cA, h2, -⟩ := h1
    exact (Array.getElem?_eq_some_iff.mp h2).1
/-- a field is written -/
theorem wh.setf {D : va_G} {B : Nat} {σ σ' : St} {U : State} {H H' : Heap} {q ci k : Nat} {v : Value} (h : wh D B σ U H) (hs : s_s σ q = some (.inl ci)) (hn : s_n σ' = s_n σ) (hss : s_s σ' = s_s σ) (ho : ∀ a, a ≠ q → s_i σ' a = s_i σ a ∧ s_r σ' a = s_r σ a ∧ s_l σ' a = s_l σ a)
    (he : t_OB q (D.1 ci) (fN ci) (D.2 ci) H' (updV (fv ci σ q) k v)) (hv : ∀ b, fv ci σ' q b = updV (fv ci σ q) k v b) (hz : H'.size = H.size) (hq : ∀ a, a ≠ q → H'[a]? = H[a]?) : wh D B σ' U H' :=
  h.set hs hn hss ho hz hq ⟨(h.obj hs).1, he.to (fun b _ => (hv b).symm)⟩
theorem fv_wi {ci k : Nat} (ht : ∀ i r l, vy (fY ci k) i r l = .int i) (σ : St) (q : Nat) (x : Int32) (b : Nat) : fv ci (w_i σ q k x) q b = updV (fv ci σ q) k (.int x) b := by
  unfold fv
  rw [updV]
  by_cases h : b = k
  · subst h
    rw [if_pos rfl, ht]
    show Value.int (up2 σ.2.2.1 q b x q b) = _
    simp [up2]
  · rw [if_neg h]
    show vy _ (up2 σ.2.2.1 q k x q b) _ _ = _
    rw [up2_eq]
    simp only [h, if_false]
    rfl
theorem fv_wr {ci k : Nat} (ht : ∀ i r l, vy (fY ci k) i r l = va_rf r) (σ : St) (q : Nat) (x : Option Nat) (b : Nat) : fv ci (w_r σ q k x) q b = updV (fv ci σ q) k (va_rf x) b := by
  unfold fv
  rw [updV]
  by_cases h : b = k
  · subst h
    rw [if_pos rfl, ht]
    show va_rf (up2 σ.2.2.2.1 q b x q b) = _
    simp [up2]
  · rw [if_neg h]
    show vy _ _ (up2 σ.2.2.2.1 q k x q b) _ = _
    rw [up2_eq]
    simp only [h, if_false]
    rfl
/-- a cell is born -/
theorem wh.new {D : va_G} {B : Nat} {σ : St} {U : State} {H H' : Heap} {sp : Shp} (h : wh D B σ U H) (hB : B ≤ H.size) (hz : H'.size = H.size + 1) (hq : ∀ a, a < H.size → H'[a]? = H[a]?) (hc : wc D (w_new σ sp) U H' H.size sp) : wh D B (w_new σ sp) U H' := by
  have e : s_n σ = H.size := h.1.symm
  refine ⟨by rw [hz, ← e]; rfl, fun a sp' ha => ?_⟩
  have ha' : (if a = s_n σ then some sp else s_s σ a) = some sp' := ha
  by_cases g : a = s_n σ
  · rw [if_pos g] at ha'
    cases ha'
    rw [g, e]
    exact ⟨hB, hc⟩
  · rw [if_neg g] at ha'
    have hlt := h.lt ha'
    refine ⟨(h.2 a sp' ha').1, (h.2 a sp' ha').2.congr ?_ ?_ ?_ (hq a hlt)⟩
    · funext b
      show (if a = s_n σ then _ else _) = _
      rw [if_neg g]; rfl
    · funext b
      show (if a = s_n σ then _ else _) = _
      rw [if_neg g]; rfl
    · funext b
      show (if a = s_n σ then _ else _) = _
      rw [if_neg g]; rfl
end
section
/-! Rows over the abstract state. -/
/-- what stays the same in a method -/
def zC (D : va_G) (s : State) (m : MethodId) (args : Array Value) (own : String) : Prop := s.vm.findClass own = some m.cls ∧ (∀ w ∈ zT, w.before args s = true) ∧ va_K D classes [] s
def irem (x y : Int32) : Int32 := x - x / y * y
def shl (x y : Int32) : Int32 := x <<< (y &&& 31)
def shr (x y : Int32) : Int32 := x >>> (y &&& 31)
def ushr (x y : Int32) : Int32 := (x.toUInt32 >>> (y.toUInt32 &&& Int32.toUInt32 31)).toInt32
def lshl (x : Int64) (y : Int32) : Int64 := x <<< (y.toInt64 &&& 63)
def chr (x : Int32) : Int32 := (x.toUInt32 % 65536).toInt32
def byt (x : Int32) : Int32 := x.toInt8.toInt32
section ZR
variable {p : Program} {l : Launch} {e : Env} {R : Room} {s : State} {m : MethodId} {args : Array Value} {below : List Frame} {meth : Method} {c : Code} {H : Heap} {locs : List Loc} {cells slots : Nat} {Q : State → Prop}
variable {cc : ByteArray} {pc : Nat} {ls : Array Slot} {rest : List Value} {D : va_G} {B : Nat} {σ : St} {own : String}
theorem zr_aload_n (hexec : p.tables.exec = Jvm.exec) (hb : c.code = cc) {k : Fin 4} {i : Nat} {o : Option Nat} (hdg : decode cc pc = .ok (.aload_n k, 1)) (hi : (k : Nat) = i) (hl : ls[i]? = some (.val (va_rf o)))
    (kk : W p l e R s m args below meth c H locs cells slots Q (F0 m (pc + 1) ls (va_rf o :: rest))) : W p l e R s m args below meth c H locs cells slots Q (F0 m pc ls rest) := by
  cases o with
  | none => exact lv_aload_nN hexec hb hdg hi hl kk
  | some x => exact lv_aload_n hexec hb hdg hi hl kk
theorem zr_aload (hexec : p.tables.exec = Jvm.exec) (hb : c.code = cc) {i : Nat} {o : Option Nat} (hdg : decode cc pc = .ok (.aload i, 2)) (hl : ls[i]? = some (.val (va_rf o)))
    (kk : W p l e R s m args below meth c H locs cells slots Q (F0 m (pc + 2) ls (va_rf o :: rest))) : W p l e R s m args below meth c H locs cells slots Q (F0 m pc ls rest) := by
  cases o with
  | none => exact lv_aloadN hexec hb hdg hl kk
  | some x => exact lv_aload hexec hb hdg hl kk
theorem zr_astore_n (hexec : p.tables.exec = Jvm.exec) (hb : c.code = cc) {k : Fin 4} {i nL : Nat} {o : Option Nat} {lv lv' : List (Nat × Value)} (hdg : decode cc pc = .ok (.astore_n k, 1)) (hi : (k : Nat) = i) (h : lv_has ls nL lv) (hn : i < nL) (hl : (i, va_rf o) :: lv.filter (fun q => !(q.1 == i) && !(q.1 + 1 == i && q.2.category == 2)) = lv')
    (kk : ∀ ls' : Array Slot, lv_has ls' nL lv' → W p l e R s m args below meth c H locs cells slots Q (F0 m (pc + 1) ls' rest)) : W p l e R s m args below meth c H locs cells slots Q (F0 m pc ls (va_rf o :: rest)) := by
  cases o with
  | none => exact lv_astore_nN hexec hb hdg hi h hn hl kk
  | some x => exact lv_astore_n hexec hb hdg hi h hn hl kk
theorem zr_astore (hexec : p.tables.exec = Jvm.exec) (hb : c.code = cc) {i nL : Nat} {o : Option Nat} {lv lv' : List (Nat × Value)} (hdg : decode cc pc = .ok (.astore i, 2)) (h : lv_has ls nL lv) (hn : i < nL) (hl : (i, va_rf o) :: lv.filter (fun q => !(q.1 == i) && !(q.1 + 1 == i && q.2.category == 2)) = lv')
    (kk : ∀ ls' : Array Slot, lv_has ls' nL lv' → W p l e R s m args below meth c H locs cells slots Q (F0 m (pc + 2) ls' rest)) : W p l e R s m args below meth c H locs cells slots Q (F0 m pc ls (va_rf o :: rest)) := by
  cases o with
  | none => exact lv_astoreN hexec hb hdg h hn hl kk
  | some x => exact lv_astore hexec hb hdg h hn hl kk
theorem zr_null (hexec : p.tables.exec = Jvm.exec) (hb : c.code = cc) (hdg : decode cc pc = .ok (.aconst_null, 1)) (kk : W p l e R s m args below meth c H locs cells slots Q (F0 m (pc + 1) ls (va_rf none :: rest))) : W p l e R s m args below meth c H locs cells slots Q (F0 m pc ls rest) := lv_null hexec hb hdg kk
theorem zr_ifnull (hexec : p.tables.exec = Jvm.exec) (hb : c.code = cc) {o : Option Nat} {off : Int} {tgt : Nat} (hdg : decode cc pc = .ok (.ifnull off, 3)) (ht : (pc : Int) + off = (tgt : Int))
    (kt : o = none → W p l e R s m args below meth c H locs cells slots Q (F0 m tgt ls rest)) (kf : ¬ o = none → W p l e R s m args below meth c H locs cells slots Q (F0 m (pc + 3) ls rest)) : W p l e R s m args below meth c H locs cells slots Q (F0 m pc ls (va_rf o :: rest)) := by
  cases o with
  | none => exact lv_ifnullN hexec hb hdg ht (kt rfl)
  | some x => exact lv_ifnull hexec hb hdg (kf (fun h => by cases h))
theorem zr_ifnonnull (hexec : p.tables.exec = Jvm.exec) (hb : c.code = cc) {o : Option Nat} {off : Int} {tgt : Nat} (hdg : decode cc pc = .ok (.ifnonnull off, 3)) (ht : (pc : Int) + off = (tgt : Int))
    (kt : ¬ o = none → W p l e R s m args below meth c H locs cells slots Q (F0 m tgt ls rest)) (kf : o = none → W p l e R s m args below meth c H locs cells slots Q (F0 m (pc + 3) ls rest)) : W p l e R s m args below meth c H locs cells slots Q (F0 m pc ls (va_rf o :: rest)) := by
  cases o with
  | none => exact lv_ifnonnullN hexec hb hdg (kf rfl)
  | some x => exact lv_ifnonnull hexec hb hdg ht (kt (fun h => by cases h))
theorem zr_irem (hexec : p.tables.exec = Jvm.exec) (hb : c.code = cc) {x y : Int32} (hdg : decode cc pc = .ok (.irem, 1)) (hne : ¬ y = 0)
    (k : W p l e R s m args below meth c H locs cells slots Q (F0 m (pc + 1) ls (.int (irem x y) :: rest))) : W p l e R s m args below meth c H locs cells slots Q (F0 m pc ls (.int y :: .int x :: rest)) := lv_irem hexec hb hdg hne k
theorem zr_ishl (hexec : p.tables.exec = Jvm.exec) (hb : c.code = cc) {x y : Int32} (hdg : decode cc pc = .ok (.ishl, 1))
    (k : W p l e R s m args below meth c H locs cells slots Q (F0 m (pc + 1) ls (.int (shl x y) :: rest))) : W p l e R s m args below meth c H locs cells slots Q (F0 m pc ls (.int y :: .int x :: rest)) := lv_ishl hexec hb hdg k
theorem zr_ishr (hexec : p.tables.exec = Jvm.exec) (hb : c.code = cc) {x y : Int32} (hdg : decode cc pc = .ok (.ishr, 1))
    (k : W p l e R s m args below meth c H locs cells slots Q (F0 m (pc + 1) ls (.int (shr x y) :: rest))) : W p l e R s m args below meth c H locs cells slots Q (F0 m pc ls (.int y :: .int x :: rest)) := lv_ishr hexec hb hdg k
theorem zr_iushr (hexec : p.tables.exec = Jvm.exec) (hb : c.code = cc) {x y : Int32} (hdg : decode cc pc = .ok (.iushr, 1))
    (k : W p l e R s m args below meth c H locs cells slots Q (F0 m (pc + 1) ls (.int (ushr x y) :: rest))) : W p l e R s m args below meth c H locs cells slots Q (F0 m pc ls (.int y :: .int x :: rest)) := lv_iushr hexec hb hdg rfl k
theorem zr_lshl (hexec : p.tables.exec = Jvm.exec) (hb : c.code = cc) {x : Int64} {y : Int32} (hdg : decode cc pc = .ok (.lshl, 1))
    (k : W p l e R s m args below meth c H locs cells slots Q (F0 m (pc + 1) ls (.long (lshl x y) :: rest))) : W p l e R s m args below meth c H locs cells slots Q (F0 m pc ls (.int y :: .long x :: rest)) := lv_lshl hexec hb hdg rfl k
/-- a field is read -/
theorem zr_get {index ci k q : Nat} {o : Option Nat} {v : Value} (hexec : p.tables.exec = Jvm.exec) (hb : c.code = cc) (hC : zC D s m args own) (hw : wh D B σ s H) (ho : o = some q) (hs : s_s σ q = some (.inl ci)) (hF : Fdk own index ci k) (hv : fv ci σ q k = v) (hdg : decode cc pc = .ok (.getfield index, 3))
    (kk : W p l e R s m args below meth c H locs cells slots Q (F0 m (pc + 3) ls (v :: rest))) : W p l e R s m args below meth c H locs cells slots Q (F0 m pc ls (va_rf o :: rest)) := by
  subst ho
  obtain ⟨hci, hk, hcn, hlink⟩ := hF
  obtain ⟨hown, hts, hK⟩ := hC
  obtain ⟨hin, hty, hnm⟩ := cl_ok ci hci
  obtain ⟨-, cell, q1, q2, q3, q4⟩ := hw.obj hs
  have hc := fc_ok ci hci
  obtain ⟨hS, hfc, kC, hkC, hkind⟩ := hK.1 ci _ hc
  obtain ⟨cf, kf, fi, f, hi, hsl⟩ := hS k hk
  dsimp only at hi
  refine W.getf hexec hb hown (hts _ hlink) (by rw [← hcn]; exact hi) (u_facts hfc hkC (u_lays hts hin hk) hi).1 q1 (by rw [q3]; exact fun h => by cases h) (v := v) ?_ rfl rfl hdg kk
  rw [hsl, q4 k hk, hv]
/-- a field is written (not a final one) -/
theorem zr_putX {index ci k q : Nat} {o : Option Nat} {v : Value} {σ' : St} (hexec : p.tables.exec = Jvm.exec) (hb : c.code = cc) (hC : zC D s m args own) (hw : wh D B σ s H) (hS : va_S (zA B) s.heap H locs) (ho : o = some q) (hs : s_s σ q = some (.inl ci)) (hF : Fdk own index ci k) (hfin : (fT ci k).2.2.2 = false)
    (hnar : narrow (fY ci k) v = v) (hfit : fits (fY ci k) v = true) (hn : s_n σ' = s_n σ) (hss : s_s σ' = s_s σ) (hoo : ∀ a, a ≠ q → s_i σ' a = s_i σ a ∧ s_r σ' a = s_r σ a ∧ s_l σ' a = s_l σ a) (hv : ∀ b, fv ci σ' q b = updV (fv ci σ q) k v b) (hdg : decode cc pc = .ok (.putfield index, 3))
    (kk : ∀ (H1 : Heap) (locs1 : List Loc), wh D B σ' s H1 → va_S (zA B) s.heap H1 locs1 → W p l e R s m args below meth c H1 locs1 cells slots Q (F0 m (pc + 3) ls rest)) : W p l e R s m args below meth c H locs cells slots Q (F0 m pc ls (v :: va_rf o :: rest)) := by
  subst ho
  obtain ⟨hci, hk, hcn, hlink⟩ := hF
  obtain ⟨hown, hts, hK⟩ := hC
  obtain ⟨hin, hty, hnm⟩ := cl_ok ci hci
  obtain ⟨-, cell, q1, q2, q3, q4⟩ := hw.obj hs
  have hc := fc_ok ci hci
  have hap := va_apart (own := own) hts hin (fY ci) hty hnm hK hc
  obtain ⟨hSl, hfc, kC, hkC, hkind⟩ := hK.1 ci _ hc
  obtain ⟨cf, kf, fi, f, hi, hsl⟩ := hSl k hk
  dsimp only at hi
  have hlay := hts _ (hin _ (u_in_lay hk))
  unfold u_lay at hlay
  rw [if_neg (by rw [hfin]; decide)] at hlay
  have hst := (u_facts hfc hkC (u_lays hts hin hk) hi).1
  have h6 := u_store hfc hkC hkind hlay hi (hty k hk) hnar hfit
  refine W.putK hexec hb (f := f) ⟨hown, hts _ hlink, ⟨_, _, _, by rw [← hcn]; exact hi⟩, hst⟩ (by rw [q2]; exact h6) q1 q3 (by rw [hsl]; exact k2_hasslot (q4 k hk)) rfl rfl hdg fun H' e1 e2 e3 => ?_
  rw [hsl] at e1 ⊢
  exact kk H' _ (hw.setf hs hn hss hoo ⟨_, e1, q2, q3, t_set q4 hap hk v⟩ hv e2 e3) (hS.put e2 e3 (hw.2 _ _ hs).1)
/-- a final field is written, in a constructor -/
theorem zr_putF {index ci k q : Nat} {o : Option Nat} {v : Value} {σ' : St} (hexec : p.tables.exec = Jvm.exec) (hb : c.code = cc) (hC : zC D s m args own) (hin2 : meth.name = "<init>") (hw : wh D B σ s H) (hS : va_S (zA B) s.heap H locs) (ho : o = some q) (hs : s_s σ q = some (.inl ci)) (hF : Fdk own index ci k) (hfin : (fT ci k).2.2.2 = true) (hdecl : fC ci = own)
    (hnar : narrow (fY ci k) v = v) (hfit : fits (fY ci k) v = true) (hn : s_n σ' = s_n σ) (hss : s_s σ' = s_s σ) (hoo : ∀ a, a ≠ q → s_i σ' a = s_i σ a ∧ s_r σ' a = s_r σ a ∧ s_l σ' a = s_l σ a) (hv : ∀ b, fv ci σ' q b = updV (fv ci σ q) k v b) (hdg : decode cc pc = .ok (.putfield index, 3))
    (kk : ∀ (H1 : Heap) (locs1 : List Loc), wh D B σ' s H1 → va_S (zA B) s.heap H1 locs1 → W p l e R s m args below meth c H1 locs1 cells slots Q (F0 m (pc + 3) ls rest)) : W p l e R s m args below meth c H locs cells slots Q (F0 m pc ls (v :: va_rf o :: rest)) := by
  subst ho
  obtain ⟨hci, hk, hcn, hlink⟩ := hF
  obtain ⟨hown, hts, hK⟩ := hC
  obtain ⟨hin, hty, hnm⟩ := cl_ok ci hci
  obtain ⟨-, cell, q1, q2, q3, q4⟩ := hw.obj hs
  have hc := fc_ok ci hci
  have hap := va_apart (own := own) hts hin (fY ci) hty hnm hK hc
  obtain ⟨hSl, hfc, kC, hkC, hkind⟩ := hK.1 ci _ hc
  obtain ⟨cf, kf, fi, f, hi, hsl⟩ := hSl k hk
  dsimp only at hi
  have hlay := hts _ (hin _ (u_in_lay hk))
  unfold u_lay at hlay
  rw [if_pos hfin] at hlay
  have hst := (u_facts hfc hkC (u_lays hts hin hk) hi).1
  have hcf : m.cls = cf := by
    obtain ⟨_, _, c', _, _, _, -, -, hf', -, -, -, hown2, -⟩ := Cond.laysFinal_spec hlay
    have e1 : c' = cf := by have := hi.symm.trans hf'; simp at this; exact this.1.symm
    rw [hcn, hdecl] at hown2
    rw [← e1]; exact Option.some.inj (hown.symm.trans hown2)
  have h6 := u_fits hfc hkC hkind (Or.inr hlay) hi (hty k hk) hnar hfit
  refine W.putFinK hexec hb hown (hts _ hlink) (by rw [← hcn]; exact hi) hst hcf hin2 (by rw [q2]; exact h6) q1 q3 (by rw [hsl]; exact k2_hasslot (q4 k hk)) rfl rfl hdg fun H' e1 e2 e3 => ?_
  rw [hsl] at e1 ⊢
  exact kk H' _ (hw.setf hs hn hss hoo ⟨_, e1, q2, q3, t_set q4 hap hk v⟩ hv e2 e3) (hS.put e2 e3 (hw.2 _ _ hs).1)
theorem zr_putI {index ci k q : Nat} {o : Option Nat} {x : Int32} (hexec : p.tables.exec = Jvm.exec) (hb : c.code = cc) (hC : zC D s m args own) (hw : wh D B σ s H) (hS : va_S (zA B) s.heap H locs) (ho : o = some q) (hs : s_s σ q = some (.inl ci)) (hF : Fdk own index ci k) (hfin : (fT ci k).2.2.2 = false) (hy : fY ci k = .int) (hdg : decode cc pc = .ok (.putfield index, 3))
    (kk : ∀ (H1 : Heap) (locs1 : List Loc), wh D B (w_i σ q k x) s H1 → va_S (zA B) s.heap H1 locs1 → W p l e R s m args below meth c H1 locs1 cells slots Q (F0 m (pc + 3) ls rest)) : W p l e R s m args below meth c H locs cells slots Q (F0 m pc ls (.int x :: va_rf o :: rest)) :=
  zr_putX (σ' := w_i σ q k x) hexec hb hC hw hS ho hs hF hfin (by rw [hy]; rfl) (by rw [hy]; rfl) rfl rfl (wi_o σ q k x) (fv_wi (by rw [hy]; exact fun _ _ _ => rfl) σ q x) hdg kk
theorem zr_putZ {index ci k q : Nat} {o : Option Nat} {x : Int32} (hexec : p.tables.exec = Jvm.exec) (hb : c.code = cc) (hC : zC D s m args own) (hw : wh D B σ s H) (hS : va_S (zA B) s.heap H locs) (ho : o = some q) (hs : s_s σ q = some (.inl ci)) (hF : Fdk own index ci k) (hfin : (fT ci k).2.2.2 = false) (hy : fY ci k = .boolean) (hx : x = 0 ∨ x = 1) (hdg : decode cc pc = .ok (.putfield index, 3))
    (kk : ∀ (H1 : Heap) (locs1 : List Loc), wh D B (w_i σ q k x) s H1 → va_S (zA B) s.heap H1 locs1 → W p l e R s m args below meth c H1 locs1 cells slots Q (F0 m (pc + 3) ls rest)) : W p l e R s m args below meth c H locs cells slots Q (F0 m pc ls (.int x :: va_rf o :: rest)) :=
  zr_putX (σ' := w_i σ q k x) hexec hb hC hw hS ho hs hF hfin (by rw [hy]; rcases hx with rfl | rfl <;> rfl) (by rw [hy]; rcases hx with rfl | rfl <;> rfl) rfl rfl (wi_o σ q k x) (fv_wi (by rw [hy]; exact fun _ _ _ => rfl) σ q x) hdg kk
theorem vy_ref {ty : FieldType} (hy : (∃ C, ty = .object C) ∨ ∃ t, ty = .array t) (i : Int32) (r : Option Nat) (l : Int64) : vy ty i r l = va_rf r := by
  rcases hy with ⟨C, rfl⟩ | ⟨t, rfl⟩ <;> rfl
theorem nar_ref {ty : FieldType} (hy : (∃ C, ty = .object C) ∨ ∃ t, ty = .array t) (o : Option Nat) : narrow ty (va_rf o) = va_rf o ∧ fits ty (va_rf o) = true := by
  rcases hy with ⟨C, rfl⟩ | ⟨t, rfl⟩ <;> cases o <;> exact ⟨rfl, rfl⟩
theorem zr_putR {index ci k q : Nat} {o x : Option Nat} (hexec : p.tables.exec = Jvm.exec) (hb : c.code = cc) (hC : zC D s m args own) (hw : wh D B σ s H) (hS : va_S (zA B) s.heap H locs) (ho : o = some q) (hs : s_s σ q = some (.inl ci)) (hF : Fdk own index ci k) (hfin : (fT ci k).2.2.2 = false) (hy : (∃ C, fY ci k = .object C) ∨ ∃ t, fY ci k = .array t) (hdg : decode cc pc = .ok (.putfield index, 3))
    (kk : ∀ (H1 : Heap) (locs1 : List Loc), wh D B (w_r σ q k x) s H1 → va_S (zA B) s.heap H1 locs1 → W p l e R s m args below meth c H1 locs1 cells slots Q (F0 m (pc + 3) ls rest)) : W p l e R s m args below meth c H locs cells slots Q (F0 m pc ls (va_rf x :: va_rf o :: rest)) :=
  zr_putX (σ' := w_r σ q k x) hexec hb hC hw hS ho hs hF hfin (nar_ref hy x).1 (nar_ref hy x).2 rfl rfl (wr_o σ q k x) (fv_wr (vy_ref hy) σ q x) hdg kk
theorem zr_putRF {index ci k q : Nat} {o x : Option Nat} (hexec : p.tables.exec = Jvm.exec) (hb : c.code = cc) (hC : zC D s m args own) (hin2 : meth.name = "<init>") (hw : wh D B σ s H) (hS : va_S (zA B) s.heap H locs) (ho : o = some q) (hs : s_s σ q = some (.inl ci)) (hF : Fdk own index ci k) (hfin : (fT ci k).2.2.2 = true) (hdecl : fC ci = own) (hy : (∃ C, fY ci k = .object C) ∨ ∃ t, fY ci k = .array t) (hdg : decode cc pc = .ok (.putfield index, 3))
    (kk : ∀ (H1 : Heap) (locs1 : List Loc), wh D B (w_r σ q k x) s H1 → va_S (zA B) s.heap H1 locs1 → W p l e R s m args below meth c H1 locs1 cells slots Q (F0 m (pc + 3) ls rest)) : W p l e R s m args below meth c H locs cells slots Q (F0 m pc ls (va_rf x :: va_rf o :: rest)) :=
  zr_putF (σ' := w_r σ q k x) hexec hb hC hin2 hw hS ho hs hF hfin hdecl (nar_ref hy x).1 (nar_ref hy x).2 rfl rfl (wr_o σ q k x) (fv_wr (vy_ref hy) σ q x) hdg kk
/-! arrays -/
theorem vp_lt {i : Int32} {n : Nat} (hin : vp_in i n) : i.toNatClampNeg < n := Nat.not_le.mp fun q => hin (Or.inr q)
theorem zr_iald {q n : Nat} {o : Option Nat} {i : Int32} (hexec : p.tables.exec = Jvm.exec) (hb : c.code = cc) (hw : wh D B σ s H) (ho : o = some q) (hs : s_s σ q = some (.inr (0, n))) (hin : vp_in i n) (hdg : decode cc pc = .ok (.iaload, 1))
    (kk : W p l e R s m args below meth c H locs cells slots Q (F0 m (pc + 1) ls (.int (s_i σ q i.toNatClampNeg) :: rest))) : W p l e R s m args below meth c H locs cells slots Q (F0 m pc ls (.int i :: va_rf o :: rest)) := by
  subst ho
  obtain ⟨cA, h1, h2, h3⟩ := hw.cell hs
  exact W.iald (v := .int (s_i σ q i.toNatClampNeg)) hexec hb h1 (h2 n _) (fun q => by cases q) (by rw [arrV_size]; exact hin) (by rw [arrV_read _ _ (vp_lt hin)]; rfl) rfl rfl hdg kk
theorem zr_bald {q n : Nat} {o : Option Nat} {i : Int32} (hexec : p.tables.exec = Jvm.exec) (hb : c.code = cc) (hw : wh D B σ s H) (ho : o = some q) (hs : s_s σ q = some (.inr (2, n))) (hin : vp_in i n) (hdg : decode cc pc = .ok (.baload, 1))
    (kk : W p l e R s m args below meth c H locs cells slots Q (F0 m (pc + 1) ls (.int (s_i σ q i.toNatClampNeg) :: rest))) : W p l e R s m args below meth c H locs cells slots Q (F0 m pc ls (.int i :: va_rf o :: rest)) := by
  subst ho
  obtain ⟨cA, h1, h2, h3⟩ := hw.cell hs
  exact W.bald (v := .int (s_i σ q i.toNatClampNeg)) hexec hb h1 (h2 n _) (fun q => by cases q) (by rw [arrV_size]; exact hin) (by rw [arrV_read _ _ (vp_lt hin)]; rfl) rfl rfl hdg kk
theorem zr_zald {q n : Nat} {o : Option Nat} {i : Int32} (hexec : p.tables.exec = Jvm.exec) (hb : c.code = cc) (hw : wh D B σ s H) (ho : o = some q) (hs : s_s σ q = some (.inr (1, n))) (hin : vp_in i n) (hdg : decode cc pc = .ok (.baload, 1))
    (kk : W p l e R s m args below meth c H locs cells slots Q (F0 m (pc + 1) ls (.int (s_i σ q i.toNatClampNeg) :: rest))) : W p l e R s m args below meth c H locs cells slots Q (F0 m pc ls (.int i :: va_rf o :: rest)) := by
  subst ho
  obtain ⟨cA, h1, h2, h3⟩ := hw.cell hs
  exact W.zald (v := .int (s_i σ q i.toNatClampNeg)) hexec hb h1 (h2 n _) (fun q => by cases q) (by rw [arrV_size]; exact hin) (by rw [arrV_read _ _ (vp_lt hin)]; rfl) rfl rfl hdg kk
theorem zr_cald {q n : Nat} {o : Option Nat} {i : Int32} (hexec : p.tables.exec = Jvm.exec) (hb : c.code = cc) (hw : wh D B σ s H) (ho : o = some q) (hs : s_s σ q = some (.inr (3, n))) (hin : vp_in i n) (hdg : decode cc pc = .ok (.caload, 1))
    (kk : W p l e R s m args below meth c H locs cells slots Q (F0 m (pc + 1) ls (.int (s_i σ q i.toNatClampNeg) :: rest))) : W p l e R s m args below meth c H locs cells slots Q (F0 m pc ls (.int i :: va_rf o :: rest)) := by
  subst ho
  obtain ⟨cA, h1, h2, h3⟩ := hw.cell hs
  exact W.cald (v := .int (s_i σ q i.toNatClampNeg)) hexec hb h1 (h2 n _) (fun q => by cases q) (by rw [arrV_size]; exact hin) (by rw [arrV_read _ _ (vp_lt hin)]; rfl) rfl rfl hdg kk
theorem zr_lald {q n : Nat} {o : Option Nat} {i : Int32} (hexec : p.tables.exec = Jvm.exec) (hb : c.code = cc) (hw : wh D B σ s H) (ho : o = some q) (hs : s_s σ q = some (.inr (4, n))) (hin : vp_in i n) (hdg : decode cc pc = .ok (.laload, 1))
    (kk : W p l e R s m args below meth c H locs cells slots Q (F0 m (pc + 1) ls (.long (s_l σ q i.toNatClampNeg) :: rest))) : W p l e R s m args below meth c H locs cells slots Q (F0 m pc ls (.int i :: va_rf o :: rest)) := by
  subst ho
  obtain ⟨cA, h1, h2, h3⟩ := hw.cell hs
  exact W.lald (v := .long (s_l σ q i.toNatClampNeg)) hexec hb h1 (h2 n _) (fun q => by cases q) (by rw [arrV_size]; exact hin) (by rw [arrV_read _ _ (vp_lt hin)]; rfl) rfl rfl hdg kk
theorem zr_aald {q n t : Nat} {o : Option Nat} {i : Int32} (hexec : p.tables.exec = Jvm.exec) (hb : c.code = cc) (hw : wh D B σ s H) (ho : o = some q) (hs : s_s σ q = some (.inr (t, n))) (ht : ∃ C, aty t = .object C) (hin : vp_in i n) (hdg : decode cc pc = .ok (.aaload, 1))
    (kk : W p l e R s m args below meth c H locs cells slots Q (F0 m (pc + 1) ls (va_rf (s_r σ q i.toNatClampNeg) :: rest))) : W p l e R s m args below meth c H locs cells slots Q (F0 m pc ls (.int i :: va_rf o :: rest)) := by
  subst ho
  obtain ⟨C, ht⟩ := ht
  obtain ⟨cA, h1, h2, h3⟩ := hw.cell hs
  exact W.aald (v := va_rf (s_r σ q i.toNatClampNeg)) (ty := aty t) hexec hb h1 (h2 n _) (by rw [ht]; rfl) (fun q => by cases q) (by rw [arrV_size]; exact hin) (by rw [arrV_read _ _ (vp_lt hin)]; unfold ev; rw [ht]; rfl) rfl rfl hdg kk
theorem zr_iast {q n : Nat} {o : Option Nat} {i x : Int32} (hexec : p.tables.exec = Jvm.exec) (hb : c.code = cc) (hw : wh D B σ s H) (hS : va_S (zA B) s.heap H locs) (ho : o = some q) (hs : s_s σ q = some (.inr (0, n))) (hin : vp_in i n) (hdg : decode cc pc = .ok (.iastore, 1))
    (kk : ∀ (H1 : Heap) (locs1 : List Loc), wh D B (w_i σ q i.toNatClampNeg x) s H1 → va_S (zA B) s.heap H1 locs1 → W p l e R s m args below meth c H1 locs1 cells slots Q (F0 m (pc + 1) ls rest)) : W p l e R s m args below meth c H locs cells slots Q (F0 m pc ls (.int x :: .int i :: va_rf o :: rest)) := by
  subst ho
  obtain ⟨cA, h1, h2, h3⟩ := hw.cell hs
  exact W.iast hexec hb h1 (h2 n _) (fun q => by cases q) (by rw [arrV_size]; exact hin) rfl rfl hdg fun H1 e1 z oq => kk H1 _ (hw.seta hs rfl rfl (wi_o σ q _ x) ⟨h2, h3⟩ e1 (ev_wi (fun _ _ _ => rfl) σ q _ x) z oq) (hS.put z oq (hw.2 _ _ hs).1)
theorem zr_bast {q n : Nat} {o : Option Nat} {i x : Int32} (hexec : p.tables.exec = Jvm.exec) (hb : c.code = cc) (hw : wh D B σ s H) (hS : va_S (zA B) s.heap H locs) (ho : o = some q) (hs : s_s σ q = some (.inr (2, n))) (hin : vp_in i n) (hdg : decode cc pc = .ok (.bastore, 1))
    (kk : ∀ (H1 : Heap) (locs1 : List Loc), wh D B (w_i σ q i.toNatClampNeg (vp_nar .byte x)) s H1 → va_S (zA B) s.heap H1 locs1 → W p l e R s m args below meth c H1 locs1 cells slots Q (F0 m (pc + 1) ls rest)) : W p l e R s m args below meth c H locs cells slots Q (F0 m pc ls (.int x :: .int i :: va_rf o :: rest)) := by
  subst ho
  obtain ⟨cA, h1, h2, h3⟩ := hw.cell hs
  exact W.bast hexec hb h1 (h2 n _) (fun q => by cases q) (by rw [arrV_size]; exact hin) rfl rfl hdg fun H1 e1 z oq => kk H1 _ (hw.seta hs rfl rfl (wi_o σ q _ _) ⟨h2, h3⟩ e1 (ev_wi (fun _ _ _ => rfl) σ q _ (vp_nar .byte x)) z oq) (hS.put z oq (hw.2 _ _ hs).1)
theorem zr_zast {q n : Nat} {o : Option Nat} {i x : Int32} (hexec : p.tables.exec = Jvm.exec) (hb : c.code = cc) (hw : wh D B σ s H) (hS : va_S (zA B) s.heap H locs) (ho : o = some q) (hs : s_s σ q = some (.inr (1, n))) (hin : vp_in i n) (hdg : decode cc pc = .ok (.bastore, 1))
    (kk : ∀ (H1 : Heap) (locs1 : List Loc), wh D B (w_i σ q i.toNatClampNeg (vp_nar .boolean x)) s H1 → va_S (zA B) s.heap H1 locs1 → W p l e R s m args below meth c H1 locs1 cells slots Q (F0 m (pc + 1) ls rest)) : W p l e R s m args below meth c H locs cells slots Q (F0 m pc ls (.int x :: .int i :: va_rf o :: rest)) := by
  subst ho
  obtain ⟨cA, h1, h2, h3⟩ := hw.cell hs
  exact W.zast hexec hb h1 (h2 n _) (fun q => by cases q) (by rw [arrV_size]; exact hin) rfl rfl hdg fun H1 e1 z oq => kk H1 _ (hw.seta hs rfl rfl (wi_o σ q _ _) ⟨h2, h3⟩ e1 (ev_wi (fun _ _ _ => rfl) σ q _ (vp_nar .boolean x)) z oq) (hS.put z oq (hw.2 _ _ hs).1)
theorem zr_cast {q n : Nat} {o : Option Nat} {i x : Int32} (hexec : p.tables.exec = Jvm.exec) (hb : c.code = cc) (hw : wh D B σ s H) (hS : va_S (zA B) s.heap H locs) (ho : o = some q) (hs : s_s σ q = some (.inr (3, n))) (hin : vp_in i n) (hdg : decode cc pc = .ok (.castore, 1))
    (kk : ∀ (H1 : Heap) (locs1 : List Loc), wh D B (w_i σ q i.toNatClampNeg (vp_nar .char x)) s H1 → va_S (zA B) s.heap H1 locs1 → W p l e R s m args below meth c H1 locs1 cells slots Q (F0 m (pc + 1) ls rest)) : W p l e R s m args below meth c H locs cells slots Q (F0 m pc ls (.int x :: .int i :: va_rf o :: rest)) := by
  subst ho
  obtain ⟨cA, h1, h2, h3⟩ := hw.cell hs
  exact W.cast hexec hb h1 (h2 n _) (fun q => by cases q) (by rw [arrV_size]; exact hin) rfl rfl hdg fun H1 e1 z oq => kk H1 _ (hw.seta hs rfl rfl (wi_o σ q _ _) ⟨h2, h3⟩ e1 (ev_wi (fun _ _ _ => rfl) σ q _ (vp_nar .char x)) z oq) (hS.put z oq (hw.2 _ _ hs).1)
theorem zr_last {q n : Nat} {o : Option Nat} {i : Int32} {x : Int64} (hexec : p.tables.exec = Jvm.exec) (hb : c.code = cc) (hw : wh D B σ s H) (hS : va_S (zA B) s.heap H locs) (ho : o = some q) (hs : s_s σ q = some (.inr (4, n))) (hin : vp_in i n) (hdg : decode cc pc = .ok (.lastore, 1))
    (kk : ∀ (H1 : Heap) (locs1 : List Loc), wh D B (w_l σ q i.toNatClampNeg x) s H1 → va_S (zA B) s.heap H1 locs1 → W p l e R s m args below meth c H1 locs1 cells slots Q (F0 m (pc + 1) ls rest)) : W p l e R s m args below meth c H locs cells slots Q (F0 m pc ls (.long x :: .int i :: va_rf o :: rest)) := by
  subst ho
  obtain ⟨cA, h1, h2, h3⟩ := hw.cell hs
  exact W.last hexec hb h1 (h2 n _) (fun q => by cases q) (by rw [arrV_size]; exact hin) rfl rfl hdg fun H1 e1 z oq => kk H1 _ (hw.seta hs rfl rfl (wl_o σ q _ x) ⟨h2, h3⟩ e1 (ev_wl (fun _ _ _ => rfl) σ q _ x) z oq) (hS.put z oq (hw.2 _ _ hs).1)
/-- the class of the objects that an array of references holds -/
def cix : Nat → Nat := fun t => match t with
  | 5 => 4
  | _ => 1
theorem zr_aast {q n t : Nat} {o x : Option Nat} {i : Int32} (hexec : p.tables.exec = Jvm.exec) (hb : c.code = cc) (hC : zC D s m args own) (hw : wh D B σ s H) (hS : va_S (zA B) s.heap H locs) (ho : o = some q) (hs : s_s σ q = some (.inr (t, n))) (ht : aty t = .object (fC (cix t))) (hx : ∀ y, x = some y → s_s σ y = some (.inl (cix t))) (hin : vp_in i n) (hdg : decode cc pc = .ok (.aastore, 1))
    (kk : ∀ (H1 : Heap) (locs1 : List Loc), wh D B (w_r σ q i.toNatClampNeg x) s H1 → va_S (zA B) s.heap H1 locs1 → W p l e R s m args below meth c H1 locs1 cells slots Q (F0 m (pc + 1) ls rest)) : W p l e R s m args below meth c H locs cells slots Q (F0 m pc ls (va_rf x :: .int i :: va_rf o :: rest)) := by
  subst ho
  obtain ⟨cA, h1, h2, h3⟩ := hw.cell hs
  have hvy : ∀ i r l, vy (aty t) i r l = va_rf r := vy_ref (Or.inl ⟨_, ht⟩)
  cases x with
  | none =>
    refine va_WaastN (C := fC (cix t)) hexec hb h1 (by rw [← ht]; exact h2 n _) (fun h => by cases h) (by rw [arrV_size]; exact hin) rfl rfl hdg fun H1 e1 z oq => ?_
    exact kk H1 _ (hw.seta hs rfl rfl (wr_o σ q _ none) ⟨h2, h3⟩ e1 (ev_wr hvy σ q _ none) z oq) (hS.put z oq (hw.2 _ _ hs).1)
  | some v =>
    have hv := hx v rfl
    obtain ⟨hci, cellV, g1, g2, g3, -⟩ := hw.obj hv
    have hcls := (hC.2.2.1 (cix t) _ (fc_ok _ hci)).2
    have h3' := h3
    rw [ht] at h3'
    obtain ⟨kA, comp, k1, k2, k3, -⟩ := h3'
    have hcomp : comp = D.1 (cix t) := Option.some.inj (k3.symm.trans hcls.1)
    subst hcomp
    obtain ⟨kC, hkC, -⟩ := hcls.2
    have h0 : ¬ i < 0 := fun q => hin (Or.inl q)
    refine W.aast hexec hb h1 (fun q h => by cases h) (fun h => by cases h) k1 k2 rfl hkC ⟨h0, by rw [arrV_size]; exact vp_lt hin⟩ g1 (fun q h => by rw [g3] at h; cases h) (by rw [g2]; exact hkC) (by rw [g2]; exact va_assign hcls) rfl rfl hdg fun H1 e1 z oq => ?_
    exact kk H1 _ (hw.seta hs rfl rfl (wr_o σ q _ (some v)) ⟨h2, h3⟩ e1 (ev_wr hvy σ q _ (some v)) z oq) (hS.put z oq (hw.2 _ _ hs).1)
theorem zr_alen {q t n : Nat} {o : Option Nat} {v : Int32} (hexec : p.tables.exec = Jvm.exec) (hb : c.code = cc) (hw : wh D B σ s H) (ho : o = some q) (hs : s_s σ q = some (.inr (t, n))) (hv : nI n = v) (hdg : decode cc pc = .ok (.arraylength, 1))
    (kk : W p l e R s m args below meth c H locs cells slots Q (F0 m (pc + 1) ls (.int v :: rest))) : W p l e R s m args below meth c H locs cells slots Q (F0 m pc ls (va_rf o :: rest)) := by
  subst ho
  subst hv
  obtain ⟨cA, h1, h2, h3⟩ := hw.cell hs
  exact W.alen (n := nI n) hexec hb h1 (h2 n _) (by rw [arrV_size] <;> rfl) rfl rfl hdg kk
end ZR
end
section
/-! Births, static tables, calls, ends. -/
def zQ (D : va_G) (B : Nat) (post : Option Value → St → Prop) : Array Value → State → Outcome → State → Prop := fun _ st oc t => (∃ (v : Option Value) (σ' : St), oc = .returned v ∧ post v σ' ∧ wh D B σ' t t.heap) ∧ va_F (zA B) st t
def zQi (Q : Int32 → St → Prop) : Option Value → St → Prop := fun v σ => ∃ r, v = some (.int r) ∧ Q r σ
def zQv (Q : St → Prop) : Option Value → St → Prop := fun v σ => v = none ∧ Q σ
def zQr (Q : Option Nat → St → Prop) : Option Value → St → Prop := fun v σ => ∃ o, v = some (va_rf o) ∧ Q o σ
/-- a method's contract -/
def zM (l : Launch) (y : MethodName) (b : ByteArray) (maxL : Nat) (ret : Option FieldType) (rm : Room) (D : va_G) (B : Nat) (av : List Value) (σ : St) (post : Option Value → St → Prop) : Prop :=
  Met l y (Cond.code y b maxL ret :: zT) rm (va_Pc av (zP D B σ)) (zQ D B post) rm.cells rm.slots (zA B)
theorem zT_good {w : Cond} (h : w ∈ zT) : (w.onTables && w.keeps) = true ∨ ∃ ty, w = .arrayClass ty := good_of_word (List.mem_filter.mp h).2
theorem zT_goodIn {w : Cond} (h : w ∈ zT) : GoodIn zT (w :: zT) := by
  intro x hx
  rcases List.mem_cons.mp hx with rfl | hx
  · exact ⟨h, zT_good h⟩
  · exact ⟨hx, zT_good hx⟩
def fpl (ty : FieldType) : Bool := match ty with | .float => false | .double => false | _ => true
theorem fY_pl : ∀ ci, ci < 10 → ∀ k, k < fN ci → fpl (fY ci k) = true := by decide +kernel
theorem dv_vy {ty : FieldType} (h : fpl ty = true) : defaultValue ty = vy ty 0 none 0 := by
  cases ty <;> first | rfl | (simp [fpl] at h)
section ZC
variable {p : Program} {l : Launch} {e : Env} {R : Room} {s : State} {m : MethodId} {args : Array Value} {below : List Frame} {meth : Method} {c : Code} {H : Heap} {locs : List Loc} {cells slots : Nat} {Q : State → Prop}
variable {cc : ByteArray} {pc : Nat} {ls : Array Slot} {rest : List Value} {D : va_G} {B : Nat} {σ : St} {own : String}
theorem zr_new {ci index : Nat} (hexec : p.tables.exec = Jvm.exec) (hb : c.code = cc) (hC : zC D s m args own) (hB : B ≤ s.heap.size) (hw : wh D B σ s H) (hS : va_S (zA B) s.heap H locs) (hci : ci < 10) (hcl : Cond.classLink own index (fC ci) ∈ zT) (hinst : Cond.instantiable (fC ci) (fN ci) ∈ zT) (hini : Cond.initialized (fC ci) ∈ zT)
    (hcells : cells + 1 ≤ R.cells) (hslots : slots + fN ci ≤ R.slots) (hdg : decode cc pc = .ok (.new index, 3))
    (kk : ∀ H1 : Heap, wh D B (w_new σ (.inl ci)) s H1 → va_S (zA B) s.heap H1 locs → W p l e R s m args below meth c H1 locs (cells + 1) (slots + fN ci) Q (F0 m (pc + 3) ls (va_rf (some (s_n σ)) :: rest))) : W p l e R s m args below meth c H locs cells slots Q (F0 m pc ls rest) := by
  obtain ⟨hown, hts, hK⟩ := hC
  obtain ⟨hin, hty, hnm⟩ := cl_ok ci hci
  have hKn := hK.1 ci _ (fc_ok ci hci)
  refine W.newcK hexec hb hown (hts _ hcl) (hts _ hinst) (hts _ hini) rfl hdg hcells hslots hKn.2.1 hw.1 fun H1 kC hkC e1 z1 o1 => ?_
  refine kk H1 (hw.new (Nat.le_trans hB hS.1) (by rw [z1, ← hw.1]) (fun a ha => o1 a (by rw [← hw.1]; exact ha)) ⟨hci, ?_⟩) ⟨Nat.le_trans hS.1 (by rw [z1, ← hw.1]; omega), fun x h1 h2 => (o1 x (by rw [← hw.1]; exact Nat.lt_of_lt_of_le h1 hS.1)).trans (hS.2.1 x h1 h2), hS.2.2⟩
  rw [← hw.1] at e1
  refine (u_born (fY ci) hts hin hKn hkC e1 hty).to (fun k hk => ?_)
  rw [dv_vy (fY_pl ci hci k hk)]
  show _ = vy _ (if H.size = s_n σ then 0 else _) (if H.size = s_n σ then none else _) (if H.size = s_n σ then 0 else _)
  rw [if_pos hw.1, if_pos hw.1, if_pos hw.1]
theorem zr_newa {t : Nat} {atype : ArrayType} {n : Int32} {N : Nat} (hexec : p.tables.exec = Jvm.exec) (hb : c.code = cc) (hC : zC D s m args own) (hB : B ≤ s.heap.size) (hw : wh D B σ s H) (hS : va_S (zA B) s.heap H locs) (hac : Cond.arrayClass (newarray.typeOf atype) ∈ zT) (ht : newarray.typeOf atype = aty t) (hpl : fpl (newarray.typeOf atype) = true)
    (hn : n = nI N) (hN : N ≤ 16777216) (hcells : cells + 1 ≤ R.cells) (hslots : slots + N ≤ R.slots) (hdg : decode cc pc = .ok (.newarray atype, 2))
    (kk : ∀ H1 : Heap, wh D B (w_new σ (.inr (t, N))) s H1 → va_S (zA B) s.heap H1 locs → W p l e R s m args below meth c H1 locs (cells + 1) (slots + N) Q (F0 m (pc + 2) ls (va_rf (some (s_n σ)) :: rest))) : W p l e R s m args below meth c H locs cells slots Q (F0 m pc ls (.int n :: rest)) := by
  obtain ⟨hown, hts, hK⟩ := hC
  subst hn
  have hbytes : N * componentBytes (newarray.typeOf atype) ≤ 536870912 := by
    have : componentBytes (newarray.typeOf atype) ≤ 8 := by cases atype <;> exact Nat.le_of_ble_eq_true rfl
    calc N * componentBytes (newarray.typeOf atype) ≤ 16777216 * 8 := Nat.mul_le_mul hN this
      _ ≤ 536870912 := by decide
  refine va_newaK hexec hb (hts _ hac) rfl hdg rfl (nI_pos (by omega)) (nI_clamp (by omega)) hbytes hcells hslots hw.1 fun H1 cA e1 z1 o1 hAr hNm => ?_
  refine kk H1 (hw.new (Nat.le_trans hB hS.1) (by rw [z1, ← hw.1]) (fun a ha => o1 a (by rw [← hw.1]; exact ha)) ⟨cA, ?_, by rw [← ht]; exact hAr, by rw [← ht]; cases atype <;> exact hNm⟩) ⟨Nat.le_trans hS.1 (by rw [z1, ← hw.1]; omega), fun x h1 h2 => (o1 x (by rw [← hw.1]; exact Nat.lt_of_lt_of_le h1 hS.1)).trans (hS.2.1 x h1 h2), hS.2.2⟩
  rw [hw.1, e1]
  congr 2
  funext j
  rw [dv_vy hpl, ht]
  show _ = vy _ (if s_n σ = s_n σ then 0 else _) (if s_n σ = s_n σ then none else _) (if s_n σ = s_n σ then 0 else _)
  rw [if_pos rfl, if_pos rfl, if_pos rfl]
theorem zr_newq {t index : Nat} {C : String} {n : Int32} {N : Nat} (hexec : p.tables.exec = Jvm.exec) (hb : c.code = cc) (hC : zC D s m args own) (hB : B ≤ s.heap.size) (hw : wh D B σ s H) (hS : va_S (zA B) s.heap H locs) (hcl : Cond.classLink own index C ∈ zT) (hover : va_AO C s) (ht : aty t = .object C)
    (hn : n = nI N) (hN : N ≤ 16777216) (hcells : cells + 1 ≤ R.cells) (hslots : slots + N ≤ R.slots) (hdg : decode cc pc = .ok (.anewarray index, 3))
    (kk : ∀ H1 : Heap, wh D B (w_new σ (.inr (t, N))) s H1 → va_S (zA B) s.heap H1 locs → W p l e R s m args below meth c H1 locs (cells + 1) (slots + N) Q (F0 m (pc + 3) ls (va_rf (some (s_n σ)) :: rest))) : W p l e R s m args below meth c H locs cells slots Q (F0 m pc ls (.int n :: rest)) := by
  obtain ⟨hown, hts, hK⟩ := hC
  subst hn
  have hcl2 : (nI N).toNatClampNeg = N := nI_clamp (by omega)
  refine W.anew hexec hb hown (hts _ hcl) (va_AO.use hover) rfl hdg rfl (nI_pos (by omega)) (by rw [hcl2]; omega) hcells (by rw [hcl2]; exact hslots) fun cA kA comp f1 f2 f3 f4 => ?_
  rw [hcl2]
  generalize hH1 : H.push ({ cls := cA, slots := Array.replicate N .null, vm := .none } : Cell) = H1
  have z1 : H1.size = H.size + 1 := by rw [← hH1, Array.size_push]
  have e1 : H1[H.size]? = some (arrV cA N (fun _ => .null)) := by rw [← hH1, Array.getElem?_push_size, ← arrV_new]
  have o1 : ∀ q : Nat, q < H.size → H1[q]? = H[q]? := fun q hq => by rw [← hH1, Array.getElem?_push, if_neg (Nat.ne_of_lt hq)]
  have hAr : ArrOfT s cA (.object C) := fun N z => ⟨(fun k h => by cases h), kA, f2, comp, f3⟩
  rw [hw.1]
  refine kk H1 (hw.new (Nat.le_trans hB hS.1) z1 o1 ⟨cA, ?_, by rw [ht]; exact hAr, by rw [ht]; exact ⟨kA, comp, f2, f3, f4, f1⟩⟩) ⟨Nat.le_trans hS.1 (by omega), fun x h1 h2 => (o1 x (Nat.lt_of_lt_of_le h1 hS.1)).trans (hS.2.1 x h1 h2), hS.2.2⟩
  rw [e1]
  congr 2
  funext j
  unfold ev
  rw [ht]
  show Value.null = va_rf (if H.size = s_n σ then none else _)
  rw [if_pos hw.1]
  rfl
/-! the static tables -/
theorem zr_getsP {tP tR index : Nat} (hexec : p.tables.exec = Jvm.exec) (hb : c.code = cc) (hC : zC D s m args own) (hZ : zs B tP tR s s.heap) (hS : va_S (zA B) s.heap H locs) (hl : Cond.fieldLink own index "LawWorlds$Codes" "POWERS_OF_THREE" "[I" ∈ zT) (hdg : decode cc pc = .ok (.getstatic index, 3))
    (kk : W p l e R s m args below meth c H locs cells slots Q (F0 m (pc + 3) ls (.ref tP :: rest))) : W p l e R s m args below meth c H locs cells slots Q (F0 m pc ls rest) := va_gets hexec hb hZ.1 hS hC.1 (hC.2.1 _ hl) (fun _ h => h) hdg kk
theorem zr_getsR {tP tR index : Nat} (hexec : p.tables.exec = Jvm.exec) (hb : c.code = cc) (hC : zC D s m args own) (hZ : zs B tP tR s s.heap) (hS : va_S (zA B) s.heap H locs) (hl : Cond.fieldLink own index "LawWorlds$Codes" "RENAMINGS" "[I" ∈ zT) (hdg : decode cc pc = .ok (.getstatic index, 3))
    (kk : W p l e R s m args below meth c H locs cells slots Q (F0 m (pc + 3) ls (.ref tR :: rest))) : W p l e R s m args below meth c H locs cells slots Q (F0 m pc ls rest) := va_gets hexec hb hZ.2.2.1 hS hC.1 (hC.2.1 _ hl) (fun _ h => h) hdg kk
theorem zr_tiP {tP tR : Nat} {i : Int32} (hexec : p.tables.exec = Jvm.exec) (hb : c.code = cc) (hZ : zs B tP tR s s.heap) (hS : va_S (zA B) s.heap H locs) (hin : vp_in i 9) (hdg : decode cc pc = .ok (.iaload, 1))
    (kk : W p l e R s m args below meth c H locs cells slots Q (F0 m (pc + 1) ls (.int (pw3 i.toNatClampNeg) :: rest))) : W p l e R s m args below meth c H locs cells slots Q (F0 m pc ls (.int i :: .ref tP :: rest)) := va_ti hexec hb hZ.2.1 hS hin rfl hdg kk
theorem zr_tiR {tP tR : Nat} {i : Int32} (hexec : p.tables.exec = Jvm.exec) (hb : c.code = cc) (hZ : zs B tP tR s s.heap) (hS : va_S (zA B) s.heap H locs) (hin : vp_in i 18) (hdg : decode cc pc = .ok (.iaload, 1))
    (kk : W p l e R s m args below meth c H locs cells slots Q (F0 m (pc + 1) ls (.int (rnm i.toNatClampNeg) :: rest))) : W p l e R s m args below meth c H locs cells slots Q (F0 m pc ls (.int i :: .ref tR :: rest)) := va_ti hexec hb hZ.2.2.2 hS hin rfl hdg kk
theorem zr_tlP {tP tR : Nat} (hexec : p.tables.exec = Jvm.exec) (hb : c.code = cc) (hZ : zs B tP tR s s.heap) (hS : va_S (zA B) s.heap H locs) (hdg : decode cc pc = .ok (.arraylength, 1))
    (kk : W p l e R s m args below meth c H locs cells slots Q (F0 m (pc + 1) ls (.int (nI 9) :: rest))) : W p l e R s m args below meth c H locs cells slots Q (F0 m pc ls (.ref tP :: rest)) := va_tlen hexec hb hZ.2.1 hS rfl hdg kk
theorem zr_tlR {tP tR : Nat} (hexec : p.tables.exec = Jvm.exec) (hb : c.code = cc) (hZ : zs B tP tR s s.heap) (hS : va_S (zA B) s.heap H locs) (hdg : decode cc pc = .ok (.arraylength, 1))
    (kk : W p l e R s m args below meth c H locs cells slots Q (F0 m (pc + 1) ls (.int (nI 18) :: rest))) : W p l e R s m args below meth c H locs cells slots Q (F0 m pc ls (.ref tR :: rest)) := va_tlen hexec hb hZ.2.2.2 hS rfl hdg kk
/-! ends -/
theorem zr_iret {Q' : Int32 → St → Prop} {v : Int32} (hexec : p.tables.exec = Jvm.exec) (hb : c.code = cc) (hr : meth.sig.returnType = some .int) (hlocks : meth.locks = false) (hq : Q' v σ) (hw : wh D B σ s H) (hS : va_S (zA B) s.heap H locs) (hdg : decode cc pc = .ok (.ireturn, 1)) :
    W p l e R s m args below meth c H locs cells slots (MQ below (zQ D B (zQi Q')) args s cells slots (zA B)) (F0 m pc ls [.int v]) :=
  W.iret hexec hb hr (fun t ht hW => ⟨⟨_, σ, rfl, ⟨v, rfl, hq⟩, by rw [ht]; exact hw.moved hW.alike⟩, hS.F ht⟩) hS.2.2 hdg hlocks
theorem zr_zret {Q' : Int32 → St → Prop} {v : Int32} (hexec : p.tables.exec = Jvm.exec) (hb : c.code = cc) (hr : meth.sig.returnType = some .boolean) (hlocks : meth.locks = false) (hv : v = 0 ∨ v = 1) (hq : Q' v σ) (hw : wh D B σ s H) (hS : va_S (zA B) s.heap H locs) (hdg : decode cc pc = .ok (.ireturn, 1)) :
    W p l e R s m args below meth c H locs cells slots (MQ below (zQ D B (zQi Q')) args s cells slots (zA B)) (F0 m pc ls [.int v]) :=
  W.zret hexec hb hr (by rcases hv with rfl | rfl <;> rfl) (fun t ht hW => ⟨⟨_, σ, rfl, ⟨v, rfl, hq⟩, by rw [ht]; exact hw.moved hW.alike⟩, hS.F ht⟩) hS.2.2 hdg hlocks
theorem zr_vret {Q' : St → Prop} (hexec : p.tables.exec = Jvm.exec) (hb : c.code = cc) (hr : meth.sig.returnType = none) (hlocks : meth.locks = false) (hq : Q' σ) (hw : wh D B σ s H) (hS : va_S (zA B) s.heap H locs) (hdg : decode cc pc = .ok (.return_, 1)) :
    W p l e R s m args below meth c H locs cells slots (MQ below (zQ D B (zQv Q')) args s cells slots (zA B)) (F0 m pc ls []) :=
  W.vret hexec hb hr (fun t ht hW => ⟨⟨_, σ, rfl, ⟨rfl, hq⟩, by rw [ht]; exact hw.moved hW.alike⟩, hS.F ht⟩) hS.2.2 hdg hlocks
theorem zr_aret {Q' : Option Nat → St → Prop} {o : Option Nat} {rt : FieldType} (hexec : p.tables.exec = Jvm.exec) (hb : c.code = cc) (hr : meth.sig.returnType = some rt) (hrt : (∃ n, rt = .object n) ∨ ∃ t, rt = .array t) (hlocks : meth.locks = false) (hq : Q' o σ) (hw : wh D B σ s H) (hS : va_S (zA B) s.heap H locs) (hdg : decode cc pc = .ok (.areturn, 1)) :
    W p l e R s m args below meth c H locs cells slots (MQ below (zQ D B (zQr Q')) args s cells slots (zA B)) (F0 m pc ls [va_rf o]) :=
  W.aret hexec hb hr hrt (by cases o <;> first | exact Or.inl rfl | exact Or.inr ⟨_, rfl⟩) (fun t ht hW => ⟨⟨_, σ, rfl, ⟨o, rfl, hq⟩, by rw [ht]; exact hw.moved hW.alike⟩, hS.F ht⟩) hS.2.2 hdg hlocks
/-! calls -/
theorem zr_back {post : Option Value → St → Prop} {st0 : List Value} {a : Array Value} {mc ms : Nat} (hr : va_Run p l e R s m args below meth c H locs cells slots mc ms (F0 m pc ls st0) rest (zQ D B post a) (zA B)) (hS : va_S (zA B) s.heap H locs)
    (kk : ∀ (v : Option Value) (σ' : St) (H1 : Heap) (locs1 : List Loc), post v σ' → wh D B σ' s H1 → va_S (zA B) s.heap H1 locs1 → W p l e R s m args below meth c H1 locs1 (cells + mc) (slots + ms) Q (F0 m (pc + 3) ls (v.toList ++ rest))) : W p l e R s m args below meth c H locs cells slots Q (F0 m pc ls st0) := by
  intro T hT X
  obtain ⟨v, st₀, t, T', L, h0, X', hL, e1, e2, ⟨⟨v', u, hv, hp, hb⟩, hz, hk⟩, st⟩ := hr T hT X
  cases hv
  rw [h0] at hz hk
  have hal : s.vm.Alike t.vm := by rw [← e2]; exact X'.warmed.alike
  have hb' : wh D B u s T'.heap := by rw [e1]; exact hb.moved hal.symm
  obtain ⟨t2, a1, b1⟩ := kk _ u T'.heap (locs ++ L) hp hb'
    ⟨Nat.le_trans hS.1 (by rw [e1]; exact hz), fun q h1 h2 => by rw [e1, hk q (Nat.lt_of_lt_of_le h1 hS.1) h2]; exact hS.2.1 q h1 h2, fun q hq => by
      rcases List.mem_append.mp hq with h | h
      · exact hS.2.2 q h
      · exact hL q h⟩ T' rfl X'
  exact ⟨t2, st t2 a1, b1⟩
variable {y : MethodName} {bb : ByteArray} {maxL n index ci q nL : Nat} {ret : Option FieldType} {rm : Room} {As : List Value} {st : List Value} {o : Option Nat} {post : Option Value → St → Prop}
theorem zr_recv (hC : zC D s m args own) (hw : wh D B σ s H) (hs : s_s σ q = some (.inl ci)) : ∃ cell : Cell, H[q]? = some cell ∧ cell.vm.isStatics = false ∧ s.vm.findClass (fC ci) = some cell.cls := by
  obtain ⟨hci, cell, g1, g2, g3, -⟩ := hw.obj hs
  exact ⟨cell, g1, by rw [g3]; rfl, by rw [g2]; exact (hC.2.2.1 ci _ (fc_ok ci hci)).2.1⟩
theorem zr_cb (hC : zC D s m args own) (hk : Mk y bb maxL ret n) (hl : Cond.methodLink own index y ∈ zT) (hR : rm.frames + 1 ≤ R.frames ∧ 8 + (maxL + 11) + rm.locals ≤ R.locals) : CallB R s args own index y bb maxL ret (Cond.code y bb maxL ret :: zT) rm rm.cells rm.slots n :=
  callB_of n hC.2.1 (zT_goodIn hk.1) rfl rfl rfl (hC.2.1 _ hk.2.1) (hC.2.1 _ hl) hk.2.2 hR
theorem zr_callV (hexec : p.tables.exec = Jvm.exec) (hb : c.code = cc) (hml : c.maxLocals = nL) (hC : zC D s m args own) (hwk : wk D B s) (hw : wh D B σ s H) (hS : va_S (zA B) s.heap H locs) (hsz : ls.size = nL)
    (hM : zM l y bb maxL ret rm D B (.ref q :: As) σ post) (hk : Mk y bb maxL ret n) (hi : Cond.instanceMethod y ∈ zT) (hsel : Cond.selects (fC ci) y y ∈ zT) (hl : Cond.methodLink own index y ∈ zT) (hR : rm.frames + 1 ≤ R.frames ∧ 8 + (maxL + 11) + rm.locals ≤ R.locals)
    (ho : o = some q) (hs : s_s σ q = some (.inl ci)) (hn : As.length = n) (hcat : (rest.map fun v => v.category).sum ≤ 8) (hdg : decode cc pc = .ok (.invokevirtual index, 3)) (hf : cells + rm.cells ≤ R.cells ∧ slots + rm.slots ≤ R.slots) (hst : st = As.reverse ++ va_rf o :: rest)
    (kk : ∀ (v : Option Value) (σ' : St) (H1 : Heap) (locs1 : List Loc), post v σ' → wh D B σ' s H1 → va_S (zA B) s.heap H1 locs1 → W p l e R s m args below meth c H1 locs1 (cells + rm.cells) (slots + rm.slots) Q (F0 m (pc + 3) ls (v.toList ++ rest))) : W p l e R s m args below meth c H locs cells slots Q (F0 m pc ls st) := by
  subst hst
  subst ho
  exact zr_back (va_runV (nL := nL) (C := fC ci) ⟨hexec, hb, hml, hC.1, hC.2.1⟩ hM ⟨zr_cb hC hk hl hR, hC.2.1 _ hi, hC.2.1 _ hsel⟩ ⟨zP.blind, zr_recv hC hw hs, fun U hU hW => ⟨rfl, zP.enter hwk hw hS hU hW⟩⟩ rfl hn hsz rfl (lv_room hcat) hdg hf) hS kk
theorem zr_callS (hexec : p.tables.exec = Jvm.exec) (hb : c.code = cc) (hml : c.maxLocals = nL) (hC : zC D s m args own) (hwk : wk D B s) (hw : wh D B σ s H) (hS : va_S (zA B) s.heap H locs) (hsz : ls.size = nL)
    (hM : zM l y bb maxL ret rm D B As σ post) (hk : Mk y bb maxL ret n) (hi : Cond.static y ∈ zT) (hl : Cond.methodLink own index y ∈ zT) (hR : rm.frames + 1 ≤ R.frames ∧ 8 + (maxL + 11) + rm.locals ≤ R.locals)
    (hn : As.length = n) (hcat : (rest.map fun v => v.category).sum ≤ 8) (hdg : decode cc pc = .ok (.invokestatic index, 3)) (hf : cells + rm.cells ≤ R.cells ∧ slots + rm.slots ≤ R.slots) (hst : st = As.reverse ++ rest)
    (kk : ∀ (v : Option Value) (σ' : St) (H1 : Heap) (locs1 : List Loc), post v σ' → wh D B σ' s H1 → va_S (zA B) s.heap H1 locs1 → W p l e R s m args below meth c H1 locs1 (cells + rm.cells) (slots + rm.slots) Q (F0 m (pc + 3) ls (v.toList ++ rest))) : W p l e R s m args below meth c H locs cells slots Q (F0 m pc ls st) := by
  subst hst
  exact zr_back (va_runS (nL := nL) ⟨hexec, hb, hml, hC.1, hC.2.1⟩ hM ⟨zr_cb hC hk hl hR, hC.2.1 _ hi⟩ ⟨zP.blind, fun U hU hW => ⟨rfl, zP.enter hwk hw hS hU hW⟩⟩ rfl hn hsz rfl (lv_room hcat) hdg hf) hS kk
theorem zr_callI (hexec : p.tables.exec = Jvm.exec) (hb : c.code = cc) (hml : c.maxLocals = nL) (hC : zC D s m args own) (hwk : wk D B s) (hw : wh D B σ s H) (hS : va_S (zA B) s.heap H locs) (hsz : ls.size = nL)
    (hM : zM l y bb maxL none rm D B (.ref q :: As) σ post) (hk : Mk y bb maxL none n) (hi : Cond.instanceMethod y ∈ zT) (hy1 : y.name = "<init>") (hl : Cond.methodLink own index y ∈ zT) (hR : rm.frames + 1 ≤ R.frames ∧ 8 + (maxL + 11) + rm.locals ≤ R.locals)
    (ho : o = some q) (hn : As.length = n) (hcat : (rest.map fun v => v.category).sum ≤ 8) (hdg : decode cc pc = .ok (.invokespecial index, 3)) (hf : cells + rm.cells ≤ R.cells ∧ slots + rm.slots ≤ R.slots) (hst : st = As.reverse ++ va_rf o :: rest)
    (kk : ∀ (v : Option Value) (σ' : St) (H1 : Heap) (locs1 : List Loc), post v σ' → wh D B σ' s H1 → va_S (zA B) s.heap H1 locs1 → W p l e R s m args below meth c H1 locs1 (cells + rm.cells) (slots + rm.slots) Q (F0 m (pc + 3) ls (v.toList ++ rest))) : W p l e R s m args below meth c H locs cells slots Q (F0 m pc ls st) := by
  subst hst
  subst ho
  exact zr_back (va_runI (nL := nL) ⟨hexec, hb, hml, hC.1, hC.2.1⟩ hM ⟨zr_cb hC hk hl hR, hy1, hC.2.1 _ hi⟩ ⟨zP.blind, fun U hU hW => ⟨rfl, zP.enter hwk hw hS hU hW⟩⟩ rfl hn hsz rfl (lv_room hcat) hdg hf) hS kk
theorem zr_callN (hexec : p.tables.exec = Jvm.exec) (hb : c.code = cc) (hml : c.maxLocals = nL) (hC : zC D s m args own) (hwk : wk D B s) (hw : wh D B σ s H) (hS : va_S (zA B) s.heap H locs) (hsz : ls.size = nL)
    (hM : zM l y bb maxL none rm D B (.ref q :: As) σ post) (hk : Mk y bb maxL none n) (hi : Cond.instanceMethod y ∈ zT) (hy1 : y.name = "<init>") (hl : Cond.methodLinkNest own index y "LawWorlds" ∈ zN) (hR : rm.frames + 1 ≤ R.frames ∧ 8 + (maxL + 11) + rm.locals ≤ R.locals)
    (ho : o = some q) (hn : As.length = n) (hcat : (rest.map fun v => v.category).sum ≤ 8) (hdg : decode cc pc = .ok (.invokespecial index, 3)) (hf : cells + rm.cells ≤ R.cells ∧ slots + rm.slots ≤ R.slots) (hst : st = As.reverse ++ va_rf o :: rest)
    (kk : ∀ (v : Option Value) (σ' : St) (H1 : Heap) (locs1 : List Loc), post v σ' → wh D B σ' s H1 → va_S (zA B) s.heap H1 locs1 → W p l e R s m args below meth c H1 locs1 (cells + rm.cells) (slots + rm.slots) Q (F0 m (pc + 3) ls (v.toList ++ rest))) : W p l e R s m args below meth c H locs cells slots Q (F0 m pc ls st) := by
  subst hst
  subst ho
  exact zr_back (va_runIN (nL := nL) ⟨hexec, hb, hml, hC.1, hC.2.1⟩ hM ⟨va_cnB n hC.2.1 (zT_goodIn hk.1) rfl rfl rfl (hwk.2.2.1 _ hl) (hC.2.1 _ hk.2.1) hk.2.2 hR, hy1, hC.2.1 _ hi⟩ ⟨zP.blind, fun U hU hW => ⟨rfl, zP.enter hwk hw hS hU hW⟩⟩ rfl hn hsz rfl (lv_room hcat) hdg hf) hS kk
end ZC
/-- a contract out of a walk -/
theorem zM.ofW {l : Launch} {y : MethodName} {b : ByteArray} {maxL : Nat} {ret : Option FieldType} {rm : Room} {D : va_G} {B : Nat} {av : List Value} {σ : St} {post : Option Value → St → Prop} {own : String} (hy : plainName y.cls = true) (hcl : y.cls = own) (hlen : (lg_sl av).length ≤ maxL)
    (body : ∀ (p : Program) (e : Env) (s : State) (m : MethodId) (args : Array Value) (below : List Frame) (meth : Method) (c : Code) (ls : Array Slot), p.tables.exec = Jvm.exec → c.code = b → c.maxLocals = maxL → meth.sig.returnType = ret → meth.locks = false → meth.name = y.name → zC D s m args own → wk D B s → wh D B σ s s.heap → va_S (zA B) s.heap s.heap [] → lv_has ls maxL (lv_args 0 av) →
      W p l e rm s m args below meth c s.heap [] 0 0 (MQ below (zQ D B post) args s rm.cells rm.slots (zA B)) (F0 m 0 ls [])) : zM l y b maxL ret rm D B av σ post := by
  refine Met.ofW (cc := b) (maxL := maxL) (ret := ret) hy rfl ?_
  intro p e s m args below meth c s₁ Bd hml hv
  obtain ⟨rfl, hwk, hw⟩ := hv
  have hts : ∀ w ∈ zT, w.before av.toArray s = true := fun w hw => atoms_spec (ws := Cond.code y b maxL ret :: zT) Bd.pre w (List.mem_cons_of_mem _ hw)
  rw [lg_entry_eq]
  refine body p e s m av.toArray below meth c _ Bd.exec Bd.bytes hml Bd.returns Bd.notSynchronized (name_of_methodNamed Bd.named Bd.method).1 ⟨?_, hts, hwk.2.1⟩ hwk hw va_S.rf (lv_entry av hlen)
  rw [← hcl]
  exact findClass_of_methodNamed Bd.named
end
