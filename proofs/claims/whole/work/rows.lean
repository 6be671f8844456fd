section
-- ===== PART A: goes FIRST, ahead of the names: the tables' words, and 'selects' of the private methods out of them =====
/-- a private method of a class that the tables say can be made, by its rows of tables_1 -/
def lw_okq (q : MethodName × Nat) : Prop := (q.1.cls ≠ "java/lang/invoke/MethodHandle" ∧ q.1.cls ≠ "java/lang/invoke/VarHandle") ∧ Cond.instantiable q.1.cls q.2 ∈ tables_1 ∧ Cond.privateMethod q.1 ∈ tables_1 ∧ Cond.instanceMethod q.1 ∈ tables_1
theorem lw_p0 : lw_okq (⟨"LineRules$CutLine", "addField", "(II)V"⟩, 5) := ⟨⟨by decide +kernel, by decide +kernel⟩, List.mem_of_getElem? (i := 133) (by decide +kernel), List.mem_of_getElem? (i := 305) (by decide +kernel), List.mem_of_getElem? (i := 306) (by decide +kernel)⟩
theorem lw_p1 : lw_okq (⟨"LineRules", "hasPattern", "(LLineRules$Rule;)Z"⟩, 14) := ⟨⟨by decide +kernel, by decide +kernel⟩, List.mem_of_getElem? (i := 20) (by decide +kernel), List.mem_of_getElem? (i := 314) (by decide +kernel), List.mem_of_getElem? (i := 315) (by decide +kernel)⟩
theorem lw_p2 : lw_okq (⟨"LineRules$Expression", "followersOf", "(J)J"⟩, 6) := ⟨⟨by decide +kernel, by decide +kernel⟩, List.mem_of_getElem? (i := 62) (by decide +kernel), List.mem_of_getElem? (i := 329) (by decide +kernel), List.mem_of_getElem? (i := 330) (by decide +kernel)⟩
theorem lw_p3 : lw_okq (⟨"LineRules", "doActions", "(LLineRules$Rule;)Z"⟩, 14) := ⟨⟨by decide +kernel, by decide +kernel⟩, List.mem_of_getElem? (i := 20) (by decide +kernel), List.mem_of_getElem? (i := 341) (by decide +kernel), List.mem_of_getElem? (i := 342) (by decide +kernel)⟩
theorem lw_p4 : lw_okq (⟨"LineRules", "doAction", "(III)V"⟩, 14) := ⟨⟨by decide +kernel, by decide +kernel⟩, List.mem_of_getElem? (i := 20) (by decide +kernel), List.mem_of_getElem? (i := 345) (by decide +kernel), List.mem_of_getElem? (i := 346) (by decide +kernel)⟩
theorem lw_p5 : lw_okq (⟨"LineRules$Output", "add", "(I)V"⟩, 2) := ⟨⟨by decide +kernel, by decide +kernel⟩, List.mem_of_getElem? (i := 179) (by decide +kernel), List.mem_of_getElem? (i := 357) (by decide +kernel), List.mem_of_getElem? (i := 358) (by decide +kernel)⟩
theorem lw_p6 : lw_okq (⟨"LineRules$Table", "placeOf", "(LLineRules$Row;)I"⟩, 3) := ⟨⟨by decide +kernel, by decide +kernel⟩, List.mem_of_getElem? (i := 159) (by decide +kernel), List.mem_of_getElem? (i := 368) (by decide +kernel), List.mem_of_getElem? (i := 369) (by decide +kernel)⟩
theorem lw_p7 : lw_okq (⟨"LineRules$Table", "insert", "(ILLineRules$Row;I)V"⟩, 3) := ⟨⟨by decide +kernel, by decide +kernel⟩, List.mem_of_getElem? (i := 159) (by decide +kernel), List.mem_of_getElem? (i := 376) (by decide +kernel), List.mem_of_getElem? (i := 377) (by decide +kernel)⟩
theorem lw_p8 : lw_okq (⟨"LineRules$CutLine", "join", "(I)V"⟩, 5) := ⟨⟨by decide +kernel, by decide +kernel⟩, List.mem_of_getElem? (i := 133) (by decide +kernel), List.mem_of_getElem? (i := 387) (by decide +kernel), List.mem_of_getElem? (i := 388) (by decide +kernel)⟩
theorem lw_p9 : lw_okq (⟨"LineRules$CutLine", "matchBehind", "(LLineRules$Expression;I)I"⟩, 5) := ⟨⟨by decide +kernel, by decide +kernel⟩, List.mem_of_getElem? (i := 133) (by decide +kernel), List.mem_of_getElem? (i := 413) (by decide +kernel), List.mem_of_getElem? (i := 414) (by decide +kernel)⟩
theorem lw_p10 : lw_okq (⟨"LineRules", "printMatch", "(LLineRules$Expression;)V"⟩, 14) := ⟨⟨by decide +kernel, by decide +kernel⟩, List.mem_of_getElem? (i := 20) (by decide +kernel), List.mem_of_getElem? (i := 418) (by decide +kernel), List.mem_of_getElem? (i := 419) (by decide +kernel)⟩
theorem lw_p11 : lw_okq (⟨"java/lang/Throwable", "fillInStackTrace", "(I)Ljava/lang/Throwable;"⟩, 6) := ⟨⟨by decide +kernel, by decide +kernel⟩, List.mem_of_getElem? (i := 477) (by decide +kernel), List.mem_of_getElem? (i := 475) (by decide +kernel), List.mem_of_getElem? (i := 476) (by decide +kernel)⟩
theorem lw_p12 : lw_okq (⟨"LineRules", "addToPad", "(I)V"⟩, 14) := ⟨⟨by decide +kernel, by decide +kernel⟩, List.mem_of_getElem? (i := 20) (by decide +kernel), List.mem_of_getElem? (i := 507) (by decide +kernel), List.mem_of_getElem? (i := 508) (by decide +kernel)⟩
theorem lw_p13 : lw_okq (⟨"LineRules$Reader", "alternation", "(I)I"⟩, 11) := ⟨⟨by decide +kernel, by decide +kernel⟩, List.mem_of_getElem? (i := 56) (by decide +kernel), List.mem_of_getElem? (i := 551) (by decide +kernel), List.mem_of_getElem? (i := 552) (by decide +kernel)⟩
theorem lw_p14 : lw_okq (⟨"LineRules$Reader", "sequence", "(I)I"⟩, 11) := ⟨⟨by decide +kernel, by decide +kernel⟩, List.mem_of_getElem? (i := 56) (by decide +kernel), List.mem_of_getElem? (i := 555) (by decide +kernel), List.mem_of_getElem? (i := 556) (by decide +kernel)⟩
theorem lw_p15 : lw_okq (⟨"LineRules$Reader", "node", "(III)I"⟩, 11) := ⟨⟨by decide +kernel, by decide +kernel⟩, List.mem_of_getElem? (i := 56) (by decide +kernel), List.mem_of_getElem? (i := 559) (by decide +kernel), List.mem_of_getElem? (i := 560) (by decide +kernel)⟩
def lw_privs_1 : List (MethodName × Nat) := [(⟨"LineRules$CutLine", "addField", "(II)V"⟩, 5), (⟨"LineRules", "hasPattern", "(LLineRules$Rule;)Z"⟩, 14), (⟨"LineRules$Expression", "followersOf", "(J)J"⟩, 6), (⟨"LineRules", "doActions", "(LLineRules$Rule;)Z"⟩, 14), (⟨"LineRules", "doAction", "(III)V"⟩, 14), (⟨"LineRules$Output", "add", "(I)V"⟩, 2), (⟨"LineRules$Table", "placeOf", "(LLineRules$Row;)I"⟩, 3), (⟨"LineRules$Table", "insert", "(ILLineRules$Row;I)V"⟩, 3), (⟨"LineRules$CutLine", "join", "(I)V"⟩, 5), (⟨"LineRules$CutLine", "matchBehind", "(LLineRules$Expression;I)I"⟩, 5), (⟨"LineRules", "printMatch", "(LLineRules$Expression;)V"⟩, 14), (⟨"java/lang/Throwable", "fillInStackTrace", "(I)Ljava/lang/Throwable;"⟩, 6), (⟨"LineRules", "addToPad", "(I)V"⟩, 14), (⟨"LineRules$Reader", "alternation", "(I)I"⟩, 11), (⟨"LineRules$Reader", "sequence", "(I)I"⟩, 11), (⟨"LineRules$Reader", "node", "(III)I"⟩, 11)]
theorem lw_r1 : ∀ q ∈ lw_privs_1, lw_okq q := List.forall_mem_cons.mpr ⟨lw_p0, List.forall_mem_cons.mpr ⟨lw_p1, List.forall_mem_cons.mpr ⟨lw_p2, List.forall_mem_cons.mpr ⟨lw_p3, List.forall_mem_cons.mpr ⟨lw_p4, List.forall_mem_cons.mpr ⟨lw_p5, List.forall_mem_cons.mpr ⟨lw_p6, List.forall_mem_cons.mpr ⟨lw_p7, List.forall_mem_cons.mpr ⟨lw_p8, List.forall_mem_cons.mpr ⟨lw_p9, List.forall_mem_cons.mpr ⟨lw_p10, List.forall_mem_cons.mpr ⟨lw_p11, List.forall_mem_cons.mpr ⟨lw_p12, List.forall_mem_cons.mpr ⟨lw_p13, List.forall_mem_cons.mpr ⟨lw_p14, List.forall_mem_cons.mpr ⟨lw_p15, fun _ h => absurd h List.not_mem_nil⟩⟩⟩⟩⟩⟩⟩⟩⟩⟩⟩⟩⟩⟩⟩⟩
theorem lw_p16 : lw_okq (⟨"LineRules$Reader", "refuse", "()I"⟩, 11) := ⟨⟨by decide +kernel, by decide +kernel⟩, List.mem_of_getElem? (i := 56) (by decide +kernel), List.mem_of_getElem? (i := 563) (by decide +kernel), List.mem_of_getElem? (i := 564) (by decide +kernel)⟩
theorem lw_p17 : lw_okq (⟨"LineRules$Reader", "next", "()I"⟩, 11) := ⟨⟨by decide +kernel, by decide +kernel⟩, List.mem_of_getElem? (i := 56) (by decide +kernel), List.mem_of_getElem? (i := 567) (by decide +kernel), List.mem_of_getElem? (i := 568) (by decide +kernel)⟩
theorem lw_p18 : lw_okq (⟨"LineRules$Reader", "atom", "(I)I"⟩, 11) := ⟨⟨by decide +kernel, by decide +kernel⟩, List.mem_of_getElem? (i := 56) (by decide +kernel), List.mem_of_getElem? (i := 571) (by decide +kernel), List.mem_of_getElem? (i := 572) (by decide +kernel)⟩
theorem lw_p19 : lw_okq (⟨"LineRules$Reader", "anySign", "()I"⟩, 11) := ⟨⟨by decide +kernel, by decide +kernel⟩, List.mem_of_getElem? (i := 56) (by decide +kernel), List.mem_of_getElem? (i := 578) (by decide +kernel), List.mem_of_getElem? (i := 579) (by decide +kernel)⟩
theorem lw_p20 : lw_okq (⟨"LineRules$Reader", "newAtom", "()J"⟩, 11) := ⟨⟨by decide +kernel, by decide +kernel⟩, List.mem_of_getElem? (i := 56) (by decide +kernel), List.mem_of_getElem? (i := 582) (by decide +kernel), List.mem_of_getElem? (i := 583) (by decide +kernel)⟩
theorem lw_p21 : lw_okq (⟨"LineRules$Reader", "take", "(JII)V"⟩, 11) := ⟨⟨by decide +kernel, by decide +kernel⟩, List.mem_of_getElem? (i := 56) (by decide +kernel), List.mem_of_getElem? (i := 586) (by decide +kernel), List.mem_of_getElem? (i := 587) (by decide +kernel)⟩
theorem lw_p22 : lw_okq (⟨"LineRules$Reader", "escaped", "()I"⟩, 11) := ⟨⟨by decide +kernel, by decide +kernel⟩, List.mem_of_getElem? (i := 56) (by decide +kernel), List.mem_of_getElem? (i := 590) (by decide +kernel), List.mem_of_getElem? (i := 591) (by decide +kernel)⟩
theorem lw_p23 : lw_okq (⟨"LineRules$Reader", "one", "(I)I"⟩, 11) := ⟨⟨by decide +kernel, by decide +kernel⟩, List.mem_of_getElem? (i := 56) (by decide +kernel), List.mem_of_getElem? (i := 594) (by decide +kernel), List.mem_of_getElem? (i := 595) (by decide +kernel)⟩
theorem lw_p24 : lw_okq (⟨"LineRules$Reader", "items", "()I"⟩, 11) := ⟨⟨by decide +kernel, by decide +kernel⟩, List.mem_of_getElem? (i := 56) (by decide +kernel), List.mem_of_getElem? (i := 598) (by decide +kernel), List.mem_of_getElem? (i := 599) (by decide +kernel)⟩
theorem lw_p25 : lw_okq (⟨"LineRules$Reader", "item", "(J)V"⟩, 11) := ⟨⟨by decide +kernel, by decide +kernel⟩, List.mem_of_getElem? (i := 56) (by decide +kernel), List.mem_of_getElem? (i := 602) (by decide +kernel), List.mem_of_getElem? (i := 603) (by decide +kernel)⟩
theorem lw_p26 : lw_okq (⟨"LineRules$Reader", "takeOthers", "(J)V"⟩, 11) := ⟨⟨by decide +kernel, by decide +kernel⟩, List.mem_of_getElem? (i := 56) (by decide +kernel), List.mem_of_getElem? (i := 609) (by decide +kernel), List.mem_of_getElem? (i := 610) (by decide +kernel)⟩
theorem lw_p27 : lw_okq (⟨"LineRules$Reader", "group", "(I)I"⟩, 11) := ⟨⟨by decide +kernel, by decide +kernel⟩, List.mem_of_getElem? (i := 56) (by decide +kernel), List.mem_of_getElem? (i := 613) (by decide +kernel), List.mem_of_getElem? (i := 614) (by decide +kernel)⟩
theorem lw_p28 : lw_okq (⟨"LineRules$Reader", "repeated", "(I)I"⟩, 11) := ⟨⟨by decide +kernel, by decide +kernel⟩, List.mem_of_getElem? (i := 56) (by decide +kernel), List.mem_of_getElem? (i := 617) (by decide +kernel), List.mem_of_getElem? (i := 618) (by decide +kernel)⟩
theorem lw_p29 : lw_okq (⟨"LineRules$Reader", "weighAll", "(I)V"⟩, 11) := ⟨⟨by decide +kernel, by decide +kernel⟩, List.mem_of_getElem? (i := 56) (by decide +kernel), List.mem_of_getElem? (i := 624) (by decide +kernel), List.mem_of_getElem? (i := 625) (by decide +kernel)⟩
theorem lw_p30 : lw_okq (⟨"LineRules$Reader", "weigh", "(II)V"⟩, 11) := ⟨⟨by decide +kernel, by decide +kernel⟩, List.mem_of_getElem? (i := 56) (by decide +kernel), List.mem_of_getElem? (i := 628) (by decide +kernel), List.mem_of_getElem? (i := 629) (by decide +kernel)⟩
theorem lw_p31 : lw_okq (⟨"LineRules$Reader", "set", "(IZJJ)V"⟩, 11) := ⟨⟨by decide +kernel, by decide +kernel⟩, List.mem_of_getElem? (i := 56) (by decide +kernel), List.mem_of_getElem? (i := 632) (by decide +kernel), List.mem_of_getElem? (i := 633) (by decide +kernel)⟩
def lw_privs_2 : List (MethodName × Nat) := [(⟨"LineRules$Reader", "refuse", "()I"⟩, 11), (⟨"LineRules$Reader", "next", "()I"⟩, 11), (⟨"LineRules$Reader", "atom", "(I)I"⟩, 11), (⟨"LineRules$Reader", "anySign", "()I"⟩, 11), (⟨"LineRules$Reader", "newAtom", "()J"⟩, 11), (⟨"LineRules$Reader", "take", "(JII)V"⟩, 11), (⟨"LineRules$Reader", "escaped", "()I"⟩, 11), (⟨"LineRules$Reader", "one", "(I)I"⟩, 11), (⟨"LineRules$Reader", "items", "()I"⟩, 11), (⟨"LineRules$Reader", "item", "(J)V"⟩, 11), (⟨"LineRules$Reader", "takeOthers", "(J)V"⟩, 11), (⟨"LineRules$Reader", "group", "(I)I"⟩, 11), (⟨"LineRules$Reader", "repeated", "(I)I"⟩, 11), (⟨"LineRules$Reader", "weighAll", "(I)V"⟩, 11), (⟨"LineRules$Reader", "weigh", "(II)V"⟩, 11), (⟨"LineRules$Reader", "set", "(IZJJ)V"⟩, 11)]
theorem lw_r2 : ∀ q ∈ lw_privs_2, lw_okq q := List.forall_mem_cons.mpr ⟨lw_p16, List.forall_mem_cons.mpr ⟨lw_p17, List.forall_mem_cons.mpr ⟨lw_p18, List.forall_mem_cons.mpr ⟨lw_p19, List.forall_mem_cons.mpr ⟨lw_p20, List.forall_mem_cons.mpr ⟨lw_p21, List.forall_mem_cons.mpr ⟨lw_p22, List.forall_mem_cons.mpr ⟨lw_p23, List.forall_mem_cons.mpr ⟨lw_p24, List.forall_mem_cons.mpr ⟨lw_p25, List.forall_mem_cons.mpr ⟨lw_p26, List.forall_mem_cons.mpr ⟨lw_p27, List.forall_mem_cons.mpr ⟨lw_p28, List.forall_mem_cons.mpr ⟨lw_p29, List.forall_mem_cons.mpr ⟨lw_p30, List.forall_mem_cons.mpr ⟨lw_p31, fun _ h => absurd h List.not_mem_nil⟩⟩⟩⟩⟩⟩⟩⟩⟩⟩⟩⟩⟩⟩⟩⟩
theorem lw_p32 : lw_okq (⟨"LineRules$Reader", "link", "(I)V"⟩, 11) := ⟨⟨by decide +kernel, by decide +kernel⟩, List.mem_of_getElem? (i := 56) (by decide +kernel), List.mem_of_getElem? (i := 636) (by decide +kernel), List.mem_of_getElem? (i := 637) (by decide +kernel)⟩
theorem lw_p33 : lw_okq (⟨"LineRules$Reader", "follow", "(JJ)V"⟩, 11) := ⟨⟨by decide +kernel, by decide +kernel⟩, List.mem_of_getElem? (i := 56) (by decide +kernel), List.mem_of_getElem? (i := 640) (by decide +kernel), List.mem_of_getElem? (i := 641) (by decide +kernel)⟩
theorem lw_p34 : lw_okq (⟨"LineRulesModel", "goes", "(ZZ)Z"⟩, 40) := ⟨⟨by decide +kernel, by decide +kernel⟩, List.mem_of_getElem? (i := 789) (by decide +kernel), List.mem_of_getElem? (i := 927) (by decide +kernel), List.mem_of_getElem? (i := 928) (by decide +kernel)⟩
theorem lw_p35 : lw_okq (⟨"LineRulesModel", "feedOne", "(I)V"⟩, 40) := ⟨⟨by decide +kernel, by decide +kernel⟩, List.mem_of_getElem? (i := 789) (by decide +kernel), List.mem_of_getElem? (i := 931) (by decide +kernel), List.mem_of_getElem? (i := 932) (by decide +kernel)⟩
theorem lw_p36 : lw_okq (⟨"LineRulesModel", "draw", "(I)V"⟩, 40) := ⟨⟨by decide +kernel, by decide +kernel⟩, List.mem_of_getElem? (i := 789) (by decide +kernel), List.mem_of_getElem? (i := 946) (by decide +kernel), List.mem_of_getElem? (i := 947) (by decide +kernel)⟩
theorem lw_p37 : lw_okq (⟨"LineRulesModel", "point", "()I"⟩, 40) := ⟨⟨by decide +kernel, by decide +kernel⟩, List.mem_of_getElem? (i := 789) (by decide +kernel), List.mem_of_getElem? (i := 950) (by decide +kernel), List.mem_of_getElem? (i := 951) (by decide +kernel)⟩
theorem lw_p38 : lw_okq (⟨"LineRulesModel", "edge", "(IIII)V"⟩, 40) := ⟨⟨by decide +kernel, by decide +kernel⟩, List.mem_of_getElem? (i := 789) (by decide +kernel), List.mem_of_getElem? (i := 954) (by decide +kernel), List.mem_of_getElem? (i := 955) (by decide +kernel)⟩
theorem lw_p39 : lw_okq (⟨"LineRulesModel", "fail", "(I)V"⟩, 40) := ⟨⟨by decide +kernel, by decide +kernel⟩, List.mem_of_getElem? (i := 789) (by decide +kernel), List.mem_of_getElem? (i := 958) (by decide +kernel), List.mem_of_getElem? (i := 959) (by decide +kernel)⟩
theorem lw_p40 : lw_okq (⟨"LineRulesModel", "items", "(II)I"⟩, 40) := ⟨⟨by decide +kernel, by decide +kernel⟩, List.mem_of_getElem? (i := 789) (by decide +kernel), List.mem_of_getElem? (i := 962) (by decide +kernel), List.mem_of_getElem? (i := 963) (by decide +kernel)⟩
theorem lw_p41 : lw_okq (⟨"LineRulesModel", "copyRow", "(II)V"⟩, 40) := ⟨⟨by decide +kernel, by decide +kernel⟩, List.mem_of_getElem? (i := 789) (by decide +kernel), List.mem_of_getElem? (i := 973) (by decide +kernel), List.mem_of_getElem? (i := 974) (by decide +kernel)⟩
theorem lw_p42 : lw_okq (⟨"LineRulesModel", "part", "()V"⟩, 40) := ⟨⟨by decide +kernel, by decide +kernel⟩, List.mem_of_getElem? (i := 789) (by decide +kernel), List.mem_of_getElem? (i := 1003) (by decide +kernel), List.mem_of_getElem? (i := 1004) (by decide +kernel)⟩
theorem lw_p43 : lw_okq (⟨"LineRulesModel", "field", "(II)V"⟩, 40) := ⟨⟨by decide +kernel, by decide +kernel⟩, List.mem_of_getElem? (i := 789) (by decide +kernel), List.mem_of_getElem? (i := 1007) (by decide +kernel), List.mem_of_getElem? (i := 1008) (by decide +kernel)⟩
theorem lw_p44 : lw_okq (⟨"LineRulesModel", "has", "(III)Z"⟩, 40) := ⟨⟨by decide +kernel, by decide +kernel⟩, List.mem_of_getElem? (i := 789) (by decide +kernel), List.mem_of_getElem? (i := 1011) (by decide +kernel), List.mem_of_getElem? (i := 1012) (by decide +kernel)⟩
theorem lw_p45 : lw_okq (⟨"LineRulesModel", "seek", "(III)Z"⟩, 40) := ⟨⟨by decide +kernel, by decide +kernel⟩, List.mem_of_getElem? (i := 789) (by decide +kernel), List.mem_of_getElem? (i := 1015) (by decide +kernel), List.mem_of_getElem? (i := 1016) (by decide +kernel)⟩
theorem lw_p46 : lw_okq (⟨"LineRulesModel", "longest", "(II)I"⟩, 40) := ⟨⟨by decide +kernel, by decide +kernel⟩, List.mem_of_getElem? (i := 789) (by decide +kernel), List.mem_of_getElem? (i := 1019) (by decide +kernel), List.mem_of_getElem? (i := 1020) (by decide +kernel)⟩
theorem lw_p47 : lw_okq (⟨"LineRulesModel", "spread", "(II)V"⟩, 40) := ⟨⟨by decide +kernel, by decide +kernel⟩, List.mem_of_getElem? (i := 789) (by decide +kernel), List.mem_of_getElem? (i := 1023) (by decide +kernel), List.mem_of_getElem? (i := 1024) (by decide +kernel)⟩
def lw_privs_3 : List (MethodName × Nat) := [(⟨"LineRules$Reader", "link", "(I)V"⟩, 11), (⟨"LineRules$Reader", "follow", "(JJ)V"⟩, 11), (⟨"LineRulesModel", "goes", "(ZZ)Z"⟩, 40), (⟨"LineRulesModel", "feedOne", "(I)V"⟩, 40), (⟨"LineRulesModel", "draw", "(I)V"⟩, 40), (⟨"LineRulesModel", "point", "()I"⟩, 40), (⟨"LineRulesModel", "edge", "(IIII)V"⟩, 40), (⟨"LineRulesModel", "fail", "(I)V"⟩, 40), (⟨"LineRulesModel", "items", "(II)I"⟩, 40), (⟨"LineRulesModel", "copyRow", "(II)V"⟩, 40), (⟨"LineRulesModel", "part", "()V"⟩, 40), (⟨"LineRulesModel", "field", "(II)V"⟩, 40), (⟨"LineRulesModel", "has", "(III)Z"⟩, 40), (⟨"LineRulesModel", "seek", "(III)Z"⟩, 40), (⟨"LineRulesModel", "longest", "(II)I"⟩, 40), (⟨"LineRulesModel", "spread", "(II)V"⟩, 40)]
theorem lw_r3 : ∀ q ∈ lw_privs_3, lw_okq q := List.forall_mem_cons.mpr ⟨lw_p32, List.forall_mem_cons.mpr ⟨lw_p33, List.forall_mem_cons.mpr ⟨lw_p34, List.forall_mem_cons.mpr ⟨lw_p35, List.forall_mem_cons.mpr ⟨lw_p36, List.forall_mem_cons.mpr ⟨lw_p37, List.forall_mem_cons.mpr ⟨lw_p38, List.forall_mem_cons.mpr ⟨lw_p39, List.forall_mem_cons.mpr ⟨lw_p40, List.forall_mem_cons.mpr ⟨lw_p41, List.forall_mem_cons.mpr ⟨lw_p42, List.forall_mem_cons.mpr ⟨lw_p43, List.forall_mem_cons.mpr ⟨lw_p44, List.forall_mem_cons.mpr ⟨lw_p45, List.forall_mem_cons.mpr ⟨lw_p46, List.forall_mem_cons.mpr ⟨lw_p47, fun _ h => absurd h List.not_mem_nil⟩⟩⟩⟩⟩⟩⟩⟩⟩⟩⟩⟩⟩⟩⟩⟩
theorem lw_p48 : lw_okq (⟨"LineRulesModel", "isSign", "(II)Z"⟩, 40) := ⟨⟨by decide +kernel, by decide +kernel⟩, List.mem_of_getElem? (i := 789) (by decide +kernel), List.mem_of_getElem? (i := 1027) (by decide +kernel), List.mem_of_getElem? (i := 1028) (by decide +kernel)⟩
theorem lw_p49 : lw_okq (⟨"LineRulesModel", "fieldToRow", "(I)V"⟩, 40) := ⟨⟨by decide +kernel, by decide +kernel⟩, List.mem_of_getElem? (i := 789) (by decide +kernel), List.mem_of_getElem? (i := 1031) (by decide +kernel), List.mem_of_getElem? (i := 1032) (by decide +kernel)⟩
theorem lw_p50 : lw_okq (⟨"LineRulesModel", "sizeOf", "(I)I"⟩, 40) := ⟨⟨by decide +kernel, by decide +kernel⟩, List.mem_of_getElem? (i := 789) (by decide +kernel), List.mem_of_getElem? (i := 1035) (by decide +kernel), List.mem_of_getElem? (i := 1036) (by decide +kernel)⟩
theorem lw_p51 : lw_okq (⟨"LineRulesModel", "signOf", "(II)I"⟩, 40) := ⟨⟨by decide +kernel, by decide +kernel⟩, List.mem_of_getElem? (i := 789) (by decide +kernel), List.mem_of_getElem? (i := 1039) (by decide +kernel), List.mem_of_getElem? (i := 1040) (by decide +kernel)⟩
theorem lw_p52 : lw_okq (⟨"LineRulesModel", "numberOf", "(I)I"⟩, 40) := ⟨⟨by decide +kernel, by decide +kernel⟩, List.mem_of_getElem? (i := 789) (by decide +kernel), List.mem_of_getElem? (i := 1043) (by decide +kernel), List.mem_of_getElem? (i := 1044) (by decide +kernel)⟩
theorem lw_p53 : lw_okq (⟨"LineRulesModel", "act", "(III)V"⟩, 40) := ⟨⟨by decide +kernel, by decide +kernel⟩, List.mem_of_getElem? (i := 789) (by decide +kernel), List.mem_of_getElem? (i := 1047) (by decide +kernel), List.mem_of_getElem? (i := 1048) (by decide +kernel)⟩
theorem lw_p54 : lw_okq (⟨"LineRulesModel", "printRow", "(III)V"⟩, 40) := ⟨⟨by decide +kernel, by decide +kernel⟩, List.mem_of_getElem? (i := 789) (by decide +kernel), List.mem_of_getElem? (i := 1051) (by decide +kernel), List.mem_of_getElem? (i := 1052) (by decide +kernel)⟩
theorem lw_p55 : lw_okq (⟨"LineRulesModel", "put", "(I)V"⟩, 40) := ⟨⟨by decide +kernel, by decide +kernel⟩, List.mem_of_getElem? (i := 789) (by decide +kernel), List.mem_of_getElem? (i := 1055) (by decide +kernel), List.mem_of_getElem? (i := 1056) (by decide +kernel)⟩
theorem lw_p56 : lw_okq (⟨"LineRulesModel", "grow", "(II)V"⟩, 40) := ⟨⟨by decide +kernel, by decide +kernel⟩, List.mem_of_getElem? (i := 789) (by decide +kernel), List.mem_of_getElem? (i := 1059) (by decide +kernel), List.mem_of_getElem? (i := 1060) (by decide +kernel)⟩
theorem lw_p57 : lw_okq (⟨"LineRulesModel", "compared", "(II)I"⟩, 40) := ⟨⟨by decide +kernel, by decide +kernel⟩, List.mem_of_getElem? (i := 789) (by decide +kernel), List.mem_of_getElem? (i := 1063) (by decide +kernel), List.mem_of_getElem? (i := 1064) (by decide +kernel)⟩
theorem lw_p58 : lw_okq (⟨"LineRulesModel", "copyKey", "(II)V"⟩, 40) := ⟨⟨by decide +kernel, by decide +kernel⟩, List.mem_of_getElem? (i := 789) (by decide +kernel), List.mem_of_getElem? (i := 1067) (by decide +kernel), List.mem_of_getElem? (i := 1068) (by decide +kernel)⟩
theorem lw_p59 : lw_okq (⟨"LineRulesModel", "setField", "(I)V"⟩, 40) := ⟨⟨by decide +kernel, by decide +kernel⟩, List.mem_of_getElem? (i := 789) (by decide +kernel), List.mem_of_getElem? (i := 1071) (by decide +kernel), List.mem_of_getElem? (i := 1072) (by decide +kernel)⟩
theorem lw_p60 : lw_okq (⟨"LineRulesModel", "write", "(I)V"⟩, 40) := ⟨⟨by decide +kernel, by decide +kernel⟩, List.mem_of_getElem? (i := 789) (by decide +kernel), List.mem_of_getElem? (i := 1075) (by decide +kernel), List.mem_of_getElem? (i := 1076) (by decide +kernel)⟩
theorem lw_p61 : lw_okq (⟨"LineRulesModel", "spell", "(I)V"⟩, 40) := ⟨⟨by decide +kernel, by decide +kernel⟩, List.mem_of_getElem? (i := 789) (by decide +kernel), List.mem_of_getElem? (i := 1079) (by decide +kernel), List.mem_of_getElem? (i := 1080) (by decide +kernel)⟩
theorem lw_p62 : lw_okq (⟨"LineRulesModel", "replace", "(IIZ)V"⟩, 40) := ⟨⟨by decide +kernel, by decide +kernel⟩, List.mem_of_getElem? (i := 789) (by decide +kernel), List.mem_of_getElem? (i := 1085) (by decide +kernel), List.mem_of_getElem? (i := 1086) (by decide +kernel)⟩
def lw_privs_4 : List (MethodName × Nat) := [(⟨"LineRulesModel", "isSign", "(II)Z"⟩, 40), (⟨"LineRulesModel", "fieldToRow", "(I)V"⟩, 40), (⟨"LineRulesModel", "sizeOf", "(I)I"⟩, 40), (⟨"LineRulesModel", "signOf", "(II)I"⟩, 40), (⟨"LineRulesModel", "numberOf", "(I)I"⟩, 40), (⟨"LineRulesModel", "act", "(III)V"⟩, 40), (⟨"LineRulesModel", "printRow", "(III)V"⟩, 40), (⟨"LineRulesModel", "put", "(I)V"⟩, 40), (⟨"LineRulesModel", "grow", "(II)V"⟩, 40), (⟨"LineRulesModel", "compared", "(II)I"⟩, 40), (⟨"LineRulesModel", "copyKey", "(II)V"⟩, 40), (⟨"LineRulesModel", "setField", "(I)V"⟩, 40), (⟨"LineRulesModel", "write", "(I)V"⟩, 40), (⟨"LineRulesModel", "spell", "(I)V"⟩, 40), (⟨"LineRulesModel", "replace", "(IIZ)V"⟩, 40)]
theorem lw_r4 : ∀ q ∈ lw_privs_4, lw_okq q := List.forall_mem_cons.mpr ⟨lw_p48, List.forall_mem_cons.mpr ⟨lw_p49, List.forall_mem_cons.mpr ⟨lw_p50, List.forall_mem_cons.mpr ⟨lw_p51, List.forall_mem_cons.mpr ⟨lw_p52, List.forall_mem_cons.mpr ⟨lw_p53, List.forall_mem_cons.mpr ⟨lw_p54, List.forall_mem_cons.mpr ⟨lw_p55, List.forall_mem_cons.mpr ⟨lw_p56, List.forall_mem_cons.mpr ⟨lw_p57, List.forall_mem_cons.mpr ⟨lw_p58, List.forall_mem_cons.mpr ⟨lw_p59, List.forall_mem_cons.mpr ⟨lw_p60, List.forall_mem_cons.mpr ⟨lw_p61, List.forall_mem_cons.mpr ⟨lw_p62, fun _ h => absurd h List.not_mem_nil⟩⟩⟩⟩⟩⟩⟩⟩⟩⟩⟩⟩⟩⟩⟩
def lw_privs : List (MethodName × Nat) := lw_privs_1 ++ (lw_privs_2 ++ (lw_privs_3 ++ (lw_privs_4)))
def lw_tbl : List Cond := k2_sels lw_privs ++ tables_1
theorem lw_privs_ok : ∀ q ∈ lw_privs, lw_okq q := by
  show ∀ q ∈ lw_privs_1 ++ (lw_privs_2 ++ (lw_privs_3 ++ (lw_privs_4))), lw_okq q
  exact List.forall_mem_append.mpr ⟨lw_r1, List.forall_mem_append.mpr ⟨lw_r2, List.forall_mem_append.mpr ⟨lw_r3, lw_r4⟩⟩⟩
end
section
/-! names and words, by wip/whole/gen/names.py: pool numbers, code names and program counters stand here and in 02d alone -/
def wl_ALL : List Cond := lw_tbl.filter goodWord
theorem wl_good : ∀ w ∈ wl_ALL, (w.onTables && w.keeps) = true ∨ ∃ ty, w = .arrayClass ty := fun w h => good_of_word (List.mem_filter.mp h).2
theorem wl_mem {c : Cond} (n : Nat) (h : lw_tbl[n]? = some c) (hg : goodWord c = true) : c ∈ wl_ALL := List.mem_filter.mpr ⟨List.mem_of_getElem? h, hg⟩
def rn_LR : String := "LineRules"
def ft_LR : u_T := fun k => match k with
  | 0 => ("LineRules", "pad", "LLineRules$Row;", true)
  | 1 => ("LineRules", "texts", "[LLineRules$Row;", true)
  | 2 => ("LineRules", "expressions", "[LLineRules$Expression;", true)
  | 3 => ("LineRules", "reader", "LLineRules$Reader;", true)
  | 4 => ("LineRules", "rules", "[LLineRules$Rule;", true)
  | 5 => ("LineRules", "latest", "LLineRules$CutLine;", true)
  | 6 => ("LineRules", "counters", "[I", true)
  | 7 => ("LineRules", "table", "LLineRules$Table;", true)
  | 8 => ("LineRules", "output", "LLineRules$Output;", true)
  | 9 => ("LineRules", "numberText", "LLineRules$Row;", true)
  | 10 => ("LineRules", "ruleCount", "I", false)
  | 11 => ("LineRules", "lineCount", "I", false)
  | 12 => ("LineRules", "fieldSeparator", "I", false)
  | _ => ("LineRules", "foundEnd", "I", false)
def fy_LR : Nat → FieldType := fun k => match k with
  | 0 => .object "LineRules$Row"
  | 1 => .array (.object "LineRules$Row")
  | 2 => .array (.object "LineRules$Expression")
  | 3 => .object "LineRules$Reader"
  | 4 => .array (.object "LineRules$Rule")
  | 5 => .object "LineRules$CutLine"
  | 6 => .array .int
  | 7 => .object "LineRules$Table"
  | 8 => .object "LineRules$Output"
  | 9 => .object "LineRules$Row"
  | 10 => .int
  | 11 => .int
  | 12 => .int
  | _ => .int
def rn_Cut : String := "LineRules$CutLine"
def ft_Cut : u_T := fun k => match k with
  | 0 => ("LineRules$CutLine", "whole", "LLineRules$Row;", true)
  | 1 => ("LineRules$CutLine", "fieldCount", "I", false)
  | 2 => ("LineRules$CutLine", "fields", "[LLineRules$Row;", true)
  | 3 => ("LineRules$CutLine", "absent", "LLineRules$Row;", true)
  | _ => ("LineRules$CutLine", "changed", "LLineRules$Row;", true)
def fy_Cut : Nat → FieldType := fun k => match k with
  | 0 => .object "LineRules$Row"
  | 1 => .int
  | 2 => .array (.object "LineRules$Row")
  | 3 => .object "LineRules$Row"
  | _ => .object "LineRules$Row"
def rn_Exp : String := "LineRules$Expression"
def ft_Exp : u_T := fun k => match k with
  | 0 => ("LineRules$Expression", "takers", "[J", true)
  | 1 => ("LineRules$Expression", "followers", "[J", true)
  | 2 => ("LineRules$Expression", "firsts", "[J", true)
  | 3 => ("LineRules$Expression", "lasts", "[J", true)
  | 4 => ("LineRules$Expression", "matchesEmpty", "[Z", true)
  | _ => ("LineRules$Expression", "atoms", "I", false)
def fy_Exp : Nat → FieldType := fun k => match k with
  | 0 => .array .long
  | 1 => .array .long
  | 2 => .array .long
  | 3 => .array .long
  | 4 => .array .boolean
  | _ => .int
def rn_Out : String := "LineRules$Output"
def ft_Out : u_T := fun k => match k with
  | 0 => ("LineRules$Output", "kept", "[I", true)
  | _ => ("LineRules$Output", "total", "I", false)
def fy_Out : Nat → FieldType := fun k => match k with
  | 0 => .array .int
  | _ => .int
def rn_Rdr : String := "LineRules$Reader"
def ft_Rdr : u_T := fun k => match k with
  | 0 => ("LineRules$Reader", "kinds", "[I", true)
  | 1 => ("LineRules$Reader", "lefts", "[I", true)
  | 2 => ("LineRules$Reader", "rights", "[I", true)
  | 3 => ("LineRules$Reader", "empties", "[Z", true)
  | 4 => ("LineRules$Reader", "firsts", "[J", true)
  | 5 => ("LineRules$Reader", "lasts", "[J", true)
  | 6 => ("LineRules$Reader", "nodes", "I", false)
  | 7 => ("LineRules$Reader", "made", "LLineRules$Expression;", false)
  | 8 => ("LineRules$Reader", "source", "LLineRules$Row;", false)
  | 9 => ("LineRules$Reader", "at", "I", false)
  | _ => ("LineRules$Reader", "fault", "I", false)
def fy_Rdr : Nat → FieldType := fun k => match k with
  | 0 => .array .int
  | 1 => .array .int
  | 2 => .array .int
  | 3 => .array .boolean
  | 4 => .array .long
  | 5 => .array .long
  | 6 => .int
  | 7 => .object "LineRules$Expression"
  | 8 => .object "LineRules$Row"
  | 9 => .int
  | _ => .int
def rn_Row : String := "LineRules$Row"
def ft_Row : u_T := fun k => match k with
  | 0 => ("LineRules$Row", "signs", "[I", true)
  | _ => ("LineRules$Row", "length", "I", false)
def fy_Row : Nat → FieldType := fun k => match k with
  | 0 => .array .int
  | _ => .int
def rn_Rul : String := "LineRules$Rule"
def ft_Rul : u_T := fun k => match k with
  | 0 => ("LineRules$Rule", "pattern", "I", false)
  | 1 => ("LineRules$Rule", "a", "I", false)
  | 2 => ("LineRules$Rule", "b", "I", false)
  | 3 => ("LineRules$Rule", "actions", "[I", true)
  | 4 => ("LineRules$Rule", "firsts", "[I", true)
  | 5 => ("LineRules$Rule", "seconds", "[I", true)
  | _ => ("LineRules$Rule", "actionCount", "I", false)
def fy_Rul : Nat → FieldType := fun k => match k with
  | 0 => .int
  | 1 => .int
  | 2 => .int
  | 3 => .array .int
  | 4 => .array .int
  | 5 => .array .int
  | _ => .int
def rn_Tab : String := "LineRules$Table"
def ft_Tab : u_T := fun k => match k with
  | 0 => ("LineRules$Table", "keys", "[LLineRules$Row;", true)
  | 1 => ("LineRules$Table", "ints", "[I", true)
  | _ => ("LineRules$Table", "size", "I", false)
def fy_Tab : Nat → FieldType := fun k => match k with
  | 0 => .array (.object "LineRules$Row")
  | 1 => .array .int
  | _ => .int
def rn_Mod : String := "LineRulesModel"
def ft_Mod : u_T := fun k => match k with
  | 0 => ("LineRulesModel", "thrown", "I", false)
  | 1 => ("LineRulesModel", "rows", "[I", true)
  | 2 => ("LineRulesModel", "lengths", "[I", true)
  | 3 => ("LineRulesModel", "expressions", "[I", true)
  | 4 => ("LineRulesModel", "sizes", "[I", true)
  | 5 => ("LineRulesModel", "separator", "I", false)
  | 6 => ("LineRulesModel", "rules", "I", false)
  | 7 => ("LineRulesModel", "patterns", "[I", true)
  | 8 => ("LineRulesModel", "firsts", "[I", true)
  | 9 => ("LineRulesModel", "seconds", "[I", true)
  | 10 => ("LineRulesModel", "manyActions", "[I", true)
  | 11 => ("LineRulesModel", "actions", "[I", true)
  | 12 => ("LineRulesModel", "as", "[I", true)
  | 13 => ("LineRulesModel", "bs", "[I", true)
  | 14 => ("LineRulesModel", "lines", "I", false)
  | 15 => ("LineRulesModel", "fields", "I", false)
  | 16 => ("LineRulesModel", "fieldSigns", "[I", true)
  | 17 => ("LineRulesModel", "fieldLengths", "[I", true)
  | 18 => ("LineRulesModel", "counters", "[I", true)
  | 19 => ("LineRulesModel", "keys", "I", false)
  | 20 => ("LineRulesModel", "keySigns", "[I", true)
  | 21 => ("LineRulesModel", "keyLengths", "[I", true)
  | 22 => ("LineRulesModel", "keyInts", "[I", true)
  | 23 => ("LineRulesModel", "prints", "I", false)
  | 24 => ("LineRulesModel", "print", "[I", true)
  | 25 => ("LineRulesModel", "ended", "I", false)
  | 26 => ("LineRulesModel", "points", "I", false)
  | 27 => ("LineRulesModel", "edges", "I", false)
  | 28 => ("LineRulesModel", "froms", "[I", true)
  | 29 => ("LineRulesModel", "tos", "[I", true)
  | 30 => ("LineRulesModel", "kinds", "[I", true)
  | 31 => ("LineRulesModel", "places", "[I", true)
  | 32 => ("LineRulesModel", "here", "[Z", true)
  | 33 => ("LineRulesModel", "next", "[Z", true)
  | 34 => ("LineRulesModel", "begins", "[I", true)
  | 35 => ("LineRulesModel", "closes", "[I", true)
  | 36 => ("LineRulesModel", "outers", "[I", true)
  | 37 => ("LineRulesModel", "fault", "I", false)
  | 38 => ("LineRulesModel", "from", "I", false)
  | _ => ("LineRulesModel", "to", "I", false)
def fy_Mod : Nat → FieldType := fun k => match k with
  | 0 => .int
  | 1 => .array .int
  | 2 => .array .int
  | 3 => .array .int
  | 4 => .array .int
  | 5 => .int
  | 6 => .int
  | 7 => .array .int
  | 8 => .array .int
  | 9 => .array .int
  | 10 => .array .int
  | 11 => .array .int
  | 12 => .array .int
  | 13 => .array .int
  | 14 => .int
  | 15 => .int
  | 16 => .array .int
  | 17 => .array .int
  | 18 => .array .int
  | 19 => .int
  | 20 => .array .int
  | 21 => .array .int
  | 22 => .array .int
  | 23 => .int
  | 24 => .array .int
  | 25 => .int
  | 26 => .int
  | 27 => .int
  | 28 => .array .int
  | 29 => .array .int
  | 30 => .array .int
  | 31 => .array .int
  | 32 => .array .boolean
  | 33 => .array .boolean
  | 34 => .array .int
  | 35 => .array .int
  | 36 => .array .int
  | 37 => .int
  | 38 => .int
  | _ => .int
abbrev wl_CL : List vw_C := [(rn_LR, ft_LR, 14), (rn_Cut, ft_Cut, 5), (rn_Exp, ft_Exp, 6), (rn_Out, ft_Out, 2), (rn_Rdr, ft_Rdr, 11), (rn_Row, ft_Row, 2), (rn_Rul, ft_Rul, 7), (rn_Tab, ft_Tab, 3), (rn_Mod, ft_Mod, 40)]
def wl_TY : Nat → Nat → FieldType := fun c => match c with
  | 0 => fy_LR
  | 1 => fy_Cut
  | 2 => fy_Exp
  | 3 => fy_Out
  | 4 => fy_Rdr
  | 5 => fy_Row
  | 6 => fy_Rul
  | 7 => fy_Tab
  | _ => fy_Mod
/-- kinds of arrays: 0 ints, 1 booleans, 2 longs, 3 rows, 4 expressions, 5 rules, 6 the script -/
def wl_AT : Nat → FieldType := fun y => match y with
  | 1 => .boolean
  | 2 => .long
  | 3 => .object "LineRules$Row"
  | 4 => .object "LineRules$Expression"
  | 5 => .object "LineRules$Rule"
  | _ => .int
abbrev wl_AN : Nat := 7
abbrev wl_AS : Nat := 6
def wl_OV : List String := ["LineRules$Row", "LineRules$Expression", "LineRules$Rule"]
theorem lw_LR_all : ∀ w ∈ u_ws rn_LR ft_LR 14, w ∈ wl_ALL := by
  show ∀ w ∈ [u_lay rn_LR ft_LR 0, u_lay rn_LR ft_LR 1, u_lay rn_LR ft_LR 2, u_lay rn_LR ft_LR 3, u_lay rn_LR ft_LR 4, u_lay rn_LR ft_LR 5, u_lay rn_LR ft_LR 6, u_lay rn_LR ft_LR 7, u_lay rn_LR ft_LR 8, u_lay rn_LR ft_LR 9, u_lay rn_LR ft_LR 10, u_lay rn_LR ft_LR 11, u_lay rn_LR ft_LR 12, u_lay rn_LR ft_LR 13], w ∈ wl_ALL
  exact List.forall_mem_cons.mpr ⟨wl_mem 304 (by decide +kernel) rfl, List.forall_mem_cons.mpr ⟨wl_mem 306 (by decide +kernel) rfl, List.forall_mem_cons.mpr ⟨wl_mem 308 (by decide +kernel) rfl, List.forall_mem_cons.mpr ⟨wl_mem 310 (by decide +kernel) rfl, List.forall_mem_cons.mpr ⟨wl_mem 312 (by decide +kernel) rfl, List.forall_mem_cons.mpr ⟨wl_mem 314 (by decide +kernel) rfl, List.forall_mem_cons.mpr ⟨wl_mem 316 (by decide +kernel) rfl, List.forall_mem_cons.mpr ⟨wl_mem 318 (by decide +kernel) rfl, List.forall_mem_cons.mpr ⟨wl_mem 320 (by decide +kernel) rfl, List.forall_mem_cons.mpr ⟨wl_mem 322 (by decide +kernel) rfl, List.forall_mem_cons.mpr ⟨wl_mem 324 (by decide +kernel) rfl, List.forall_mem_cons.mpr ⟨wl_mem 326 (by decide +kernel) rfl, List.forall_mem_cons.mpr ⟨wl_mem 328 (by decide +kernel) rfl, List.forall_mem_cons.mpr ⟨wl_mem 330 (by decide +kernel) rfl, fun _ h => absurd h List.not_mem_nil⟩⟩⟩⟩⟩⟩⟩⟩⟩⟩⟩⟩⟩⟩
theorem nn_LR : ∀ a, a < 14 → ∀ b, b < 14 → a ≠ b → (ft_LR a).2.1 ≠ (ft_LR b).2.1 := by decide +kernel
theorem ny_LR : ∀ k, k < 14 → parseFieldDescriptor (ft_LR k).2.2.1 = some (fy_LR k) := by decide +kernel
theorem lw_Cut_all : ∀ w ∈ u_ws rn_Cut ft_Cut 5, w ∈ wl_ALL := by
  show ∀ w ∈ [u_lay rn_Cut ft_Cut 0, u_lay rn_Cut ft_Cut 1, u_lay rn_Cut ft_Cut 2, u_lay rn_Cut ft_Cut 3, u_lay rn_Cut ft_Cut 4], w ∈ wl_ALL
  exact List.forall_mem_cons.mpr ⟨wl_mem 210 (by decide +kernel) rfl, List.forall_mem_cons.mpr ⟨wl_mem 212 (by decide +kernel) rfl, List.forall_mem_cons.mpr ⟨wl_mem 214 (by decide +kernel) rfl, List.forall_mem_cons.mpr ⟨wl_mem 216 (by decide +kernel) rfl, List.forall_mem_cons.mpr ⟨wl_mem 218 (by decide +kernel) rfl, fun _ h => absurd h List.not_mem_nil⟩⟩⟩⟩⟩
theorem nn_Cut : ∀ a, a < 5 → ∀ b, b < 5 → a ≠ b → (ft_Cut a).2.1 ≠ (ft_Cut b).2.1 := by decide +kernel
theorem ny_Cut : ∀ k, k < 5 → parseFieldDescriptor (ft_Cut k).2.2.1 = some (fy_Cut k) := by decide +kernel
theorem lw_Exp_all : ∀ w ∈ u_ws rn_Exp ft_Exp 6, w ∈ wl_ALL := by
  show ∀ w ∈ [u_lay rn_Exp ft_Exp 0, u_lay rn_Exp ft_Exp 1, u_lay rn_Exp ft_Exp 2, u_lay rn_Exp ft_Exp 3, u_lay rn_Exp ft_Exp 4, u_lay rn_Exp ft_Exp 5], w ∈ wl_ALL
  exact List.forall_mem_cons.mpr ⟨wl_mem 142 (by decide +kernel) rfl, List.forall_mem_cons.mpr ⟨wl_mem 144 (by decide +kernel) rfl, List.forall_mem_cons.mpr ⟨wl_mem 146 (by decide +kernel) rfl, List.forall_mem_cons.mpr ⟨wl_mem 148 (by decide +kernel) rfl, List.forall_mem_cons.mpr ⟨wl_mem 150 (by decide +kernel) rfl, List.forall_mem_cons.mpr ⟨wl_mem 152 (by decide +kernel) rfl, fun _ h => absurd h List.not_mem_nil⟩⟩⟩⟩⟩⟩
theorem nn_Exp : ∀ a, a < 6 → ∀ b, b < 6 → a ≠ b → (ft_Exp a).2.1 ≠ (ft_Exp b).2.1 := by decide +kernel
theorem ny_Exp : ∀ k, k < 6 → parseFieldDescriptor (ft_Exp k).2.2.1 = some (fy_Exp k) := by decide +kernel
theorem lw_Out_all : ∀ w ∈ u_ws rn_Out ft_Out 2, w ∈ wl_ALL := by
  show ∀ w ∈ [u_lay rn_Out ft_Out 0, u_lay rn_Out ft_Out 1], w ∈ wl_ALL
  exact List.forall_mem_cons.mpr ⟨wl_mem 250 (by decide +kernel) rfl, List.forall_mem_cons.mpr ⟨wl_mem 252 (by decide +kernel) rfl, fun _ h => absurd h List.not_mem_nil⟩⟩
theorem nn_Out : ∀ a, a < 2 → ∀ b, b < 2 → a ≠ b → (ft_Out a).2.1 ≠ (ft_Out b).2.1 := by decide +kernel
theorem ny_Out : ∀ k, k < 2 → parseFieldDescriptor (ft_Out k).2.2.1 = some (fy_Out k) := by decide +kernel
theorem lw_Rdr_all : ∀ w ∈ u_ws rn_Rdr ft_Rdr 11, w ∈ wl_ALL := by
  show ∀ w ∈ [u_lay rn_Rdr ft_Rdr 0, u_lay rn_Rdr ft_Rdr 1, u_lay rn_Rdr ft_Rdr 2, u_lay rn_Rdr ft_Rdr 3, u_lay rn_Rdr ft_Rdr 4, u_lay rn_Rdr ft_Rdr 5, u_lay rn_Rdr ft_Rdr 6, u_lay rn_Rdr ft_Rdr 7, u_lay rn_Rdr ft_Rdr 8, u_lay rn_Rdr ft_Rdr 9, u_lay rn_Rdr ft_Rdr 10], w ∈ wl_ALL
  exact List.forall_mem_cons.mpr ⟨wl_mem 170 (by decide +kernel) rfl, List.forall_mem_cons.mpr ⟨wl_mem 172 (by decide +kernel) rfl, List.forall_mem_cons.mpr ⟨wl_mem 174 (by decide +kernel) rfl, List.forall_mem_cons.mpr ⟨wl_mem 176 (by decide +kernel) rfl, List.forall_mem_cons.mpr ⟨wl_mem 178 (by decide +kernel) rfl, List.forall_mem_cons.mpr ⟨wl_mem 180 (by decide +kernel) rfl, List.forall_mem_cons.mpr ⟨wl_mem 182 (by decide +kernel) rfl, List.forall_mem_cons.mpr ⟨wl_mem 184 (by decide +kernel) rfl, List.forall_mem_cons.mpr ⟨wl_mem 186 (by decide +kernel) rfl, List.forall_mem_cons.mpr ⟨wl_mem 188 (by decide +kernel) rfl, List.forall_mem_cons.mpr ⟨wl_mem 190 (by decide +kernel) rfl, fun _ h => absurd h List.not_mem_nil⟩⟩⟩⟩⟩⟩⟩⟩⟩⟩⟩
theorem nn_Rdr : ∀ a, a < 11 → ∀ b, b < 11 → a ≠ b → (ft_Rdr a).2.1 ≠ (ft_Rdr b).2.1 := by decide +kernel
theorem ny_Rdr : ∀ k, k < 11 → parseFieldDescriptor (ft_Rdr k).2.2.1 = some (fy_Rdr k) := by decide +kernel
theorem lw_Row_all : ∀ w ∈ u_ws rn_Row ft_Row 2, w ∈ wl_ALL := by
  show ∀ w ∈ [u_lay rn_Row ft_Row 0, u_lay rn_Row ft_Row 1], w ∈ wl_ALL
  exact List.forall_mem_cons.mpr ⟨wl_mem 109 (by decide +kernel) rfl, List.forall_mem_cons.mpr ⟨wl_mem 111 (by decide +kernel) rfl, fun _ h => absurd h List.not_mem_nil⟩⟩
theorem nn_Row : ∀ a, a < 2 → ∀ b, b < 2 → a ≠ b → (ft_Row a).2.1 ≠ (ft_Row b).2.1 := by decide +kernel
theorem ny_Row : ∀ k, k < 2 → parseFieldDescriptor (ft_Row k).2.2.1 = some (fy_Row k) := by decide +kernel
theorem lw_Rul_all : ∀ w ∈ u_ws rn_Rul ft_Rul 7, w ∈ wl_ALL := by
  show ∀ w ∈ [u_lay rn_Rul ft_Rul 0, u_lay rn_Rul ft_Rul 1, u_lay rn_Rul ft_Rul 2, u_lay rn_Rul ft_Rul 3, u_lay rn_Rul ft_Rul 4, u_lay rn_Rul ft_Rul 5, u_lay rn_Rul ft_Rul 6], w ∈ wl_ALL
  exact List.forall_mem_cons.mpr ⟨wl_mem 275 (by decide +kernel) rfl, List.forall_mem_cons.mpr ⟨wl_mem 277 (by decide +kernel) rfl, List.forall_mem_cons.mpr ⟨wl_mem 279 (by decide +kernel) rfl, List.forall_mem_cons.mpr ⟨wl_mem 281 (by decide +kernel) rfl, List.forall_mem_cons.mpr ⟨wl_mem 283 (by decide +kernel) rfl, List.forall_mem_cons.mpr ⟨wl_mem 285 (by decide +kernel) rfl, List.forall_mem_cons.mpr ⟨wl_mem 287 (by decide +kernel) rfl, fun _ h => absurd h List.not_mem_nil⟩⟩⟩⟩⟩⟩⟩
theorem nn_Rul : ∀ a, a < 7 → ∀ b, b < 7 → a ≠ b → (ft_Rul a).2.1 ≠ (ft_Rul b).2.1 := by decide +kernel
theorem ny_Rul : ∀ k, k < 7 → parseFieldDescriptor (ft_Rul k).2.2.1 = some (fy_Rul k) := by decide +kernel
theorem lw_Tab_all : ∀ w ∈ u_ws rn_Tab ft_Tab 3, w ∈ wl_ALL := by
  show ∀ w ∈ [u_lay rn_Tab ft_Tab 0, u_lay rn_Tab ft_Tab 1, u_lay rn_Tab ft_Tab 2], w ∈ wl_ALL
  exact List.forall_mem_cons.mpr ⟨wl_mem 234 (by decide +kernel) rfl, List.forall_mem_cons.mpr ⟨wl_mem 236 (by decide +kernel) rfl, List.forall_mem_cons.mpr ⟨wl_mem 238 (by decide +kernel) rfl, fun _ h => absurd h List.not_mem_nil⟩⟩⟩
theorem nn_Tab : ∀ a, a < 3 → ∀ b, b < 3 → a ≠ b → (ft_Tab a).2.1 ≠ (ft_Tab b).2.1 := by decide +kernel
theorem ny_Tab : ∀ k, k < 3 → parseFieldDescriptor (ft_Tab k).2.2.1 = some (fy_Tab k) := by decide +kernel
theorem lw_Mod_all : ∀ w ∈ u_ws rn_Mod ft_Mod 40, w ∈ wl_ALL := by
  show ∀ w ∈ [u_lay rn_Mod ft_Mod 0, u_lay rn_Mod ft_Mod 1, u_lay rn_Mod ft_Mod 2, u_lay rn_Mod ft_Mod 3, u_lay rn_Mod ft_Mod 4, u_lay rn_Mod ft_Mod 5, u_lay rn_Mod ft_Mod 6, u_lay rn_Mod ft_Mod 7, u_lay rn_Mod ft_Mod 8, u_lay rn_Mod ft_Mod 9, u_lay rn_Mod ft_Mod 10, u_lay rn_Mod ft_Mod 11, u_lay rn_Mod ft_Mod 12, u_lay rn_Mod ft_Mod 13, u_lay rn_Mod ft_Mod 14, u_lay rn_Mod ft_Mod 15, u_lay rn_Mod ft_Mod 16, u_lay rn_Mod ft_Mod 17, u_lay rn_Mod ft_Mod 18, u_lay rn_Mod ft_Mod 19, u_lay rn_Mod ft_Mod 20, u_lay rn_Mod ft_Mod 21, u_lay rn_Mod ft_Mod 22, u_lay rn_Mod ft_Mod 23, u_lay rn_Mod ft_Mod 24, u_lay rn_Mod ft_Mod 25, u_lay rn_Mod ft_Mod 26, u_lay rn_Mod ft_Mod 27, u_lay rn_Mod ft_Mod 28, u_lay rn_Mod ft_Mod 29, u_lay rn_Mod ft_Mod 30, u_lay rn_Mod ft_Mod 31, u_lay rn_Mod ft_Mod 32, u_lay rn_Mod ft_Mod 33, u_lay rn_Mod ft_Mod 34, u_lay rn_Mod ft_Mod 35, u_lay rn_Mod ft_Mod 36, u_lay rn_Mod ft_Mod 37, u_lay rn_Mod ft_Mod 38, u_lay rn_Mod ft_Mod 39], w ∈ wl_ALL
  exact List.forall_mem_cons.mpr ⟨wl_mem 897 (by decide +kernel) rfl, List.forall_mem_cons.mpr ⟨wl_mem 899 (by decide +kernel) rfl, List.forall_mem_cons.mpr ⟨wl_mem 901 (by decide +kernel) rfl, List.forall_mem_cons.mpr ⟨wl_mem 903 (by decide +kernel) rfl, List.forall_mem_cons.mpr ⟨wl_mem 905 (by decide +kernel) rfl, List.forall_mem_cons.mpr ⟨wl_mem 907 (by decide +kernel) rfl, List.forall_mem_cons.mpr ⟨wl_mem 909 (by decide +kernel) rfl, List.forall_mem_cons.mpr ⟨wl_mem 911 (by decide +kernel) rfl, List.forall_mem_cons.mpr ⟨wl_mem 913 (by decide +kernel) rfl, List.forall_mem_cons.mpr ⟨wl_mem 915 (by decide +kernel) rfl, List.forall_mem_cons.mpr ⟨wl_mem 917 (by decide +kernel) rfl, List.forall_mem_cons.mpr ⟨wl_mem 919 (by decide +kernel) rfl, List.forall_mem_cons.mpr ⟨wl_mem 921 (by decide +kernel) rfl, List.forall_mem_cons.mpr ⟨wl_mem 923 (by decide +kernel) rfl, List.forall_mem_cons.mpr ⟨wl_mem 925 (by decide +kernel) rfl, List.forall_mem_cons.mpr ⟨wl_mem 927 (by decide +kernel) rfl, List.forall_mem_cons.mpr ⟨wl_mem 929 (by decide +kernel) rfl, List.forall_mem_cons.mpr ⟨wl_mem 931 (by decide +kernel) rfl, List.forall_mem_cons.mpr ⟨wl_mem 933 (by decide +kernel) rfl, List.forall_mem_cons.mpr ⟨wl_mem 935 (by decide +kernel) rfl, List.forall_mem_cons.mpr ⟨wl_mem 937 (by decide +kernel) rfl, List.forall_mem_cons.mpr ⟨wl_mem 939 (by decide +kernel) rfl, List.forall_mem_cons.mpr ⟨wl_mem 941 (by decide +kernel) rfl, List.forall_mem_cons.mpr ⟨wl_mem 943 (by decide +kernel) rfl, List.forall_mem_cons.mpr ⟨wl_mem 945 (by decide +kernel) rfl, List.forall_mem_cons.mpr ⟨wl_mem 947 (by decide +kernel) rfl, List.forall_mem_cons.mpr ⟨wl_mem 949 (by decide +kernel) rfl, List.forall_mem_cons.mpr ⟨wl_mem 951 (by decide +kernel) rfl, List.forall_mem_cons.mpr ⟨wl_mem 953 (by decide +kernel) rfl, List.forall_mem_cons.mpr ⟨wl_mem 955 (by decide +kernel) rfl, List.forall_mem_cons.mpr ⟨wl_mem 957 (by decide +kernel) rfl, List.forall_mem_cons.mpr ⟨wl_mem 959 (by decide +kernel) rfl, List.forall_mem_cons.mpr ⟨wl_mem 961 (by decide +kernel) rfl, List.forall_mem_cons.mpr ⟨wl_mem 963 (by decide +kernel) rfl, List.forall_mem_cons.mpr ⟨wl_mem 965 (by decide +kernel) rfl, List.forall_mem_cons.mpr ⟨wl_mem 967 (by decide +kernel) rfl, List.forall_mem_cons.mpr ⟨wl_mem 969 (by decide +kernel) rfl, List.forall_mem_cons.mpr ⟨wl_mem 971 (by decide +kernel) rfl, List.forall_mem_cons.mpr ⟨wl_mem 973 (by decide +kernel) rfl, List.forall_mem_cons.mpr ⟨wl_mem 975 (by decide +kernel) rfl, fun _ h => absurd h List.not_mem_nil⟩⟩⟩⟩⟩⟩⟩⟩⟩⟩⟩⟩⟩⟩⟩⟩⟩⟩⟩⟩⟩⟩⟩⟩⟩⟩⟩⟩⟩⟩⟩⟩⟩⟩⟩⟩⟩⟩⟩⟩
theorem nn_Mod : ∀ a, a < 40 → ∀ b, b < 40 → a ≠ b → (ft_Mod a).2.1 ≠ (ft_Mod b).2.1 := by decide +kernel
theorem ny_Mod : ∀ k, k < 40 → parseFieldDescriptor (ft_Mod k).2.2.1 = some (fy_Mod k) := by decide +kernel
theorem wl_ok : ∀ (c : Nat) (q : vw_C), wl_CL[c]? = some q → (∀ w ∈ u_ws q.1 q.2.1 q.2.2, w ∈ wl_ALL) ∧ (∀ k, k < q.2.2 → parseFieldDescriptor (q.2.1 k).2.2.1 = some (wl_TY c k)) ∧ ∀ a, a < q.2.2 → ∀ b, b < q.2.2 → a ≠ b → (q.2.1 a).2.1 ≠ (q.2.1 b).2.1 := by
  intro c q h
  match c, h with
  | 0, h => cases h; exact ⟨lw_LR_all, ny_LR, nn_LR⟩
  | 1, h => cases h; exact ⟨lw_Cut_all, ny_Cut, nn_Cut⟩
  | 2, h => cases h; exact ⟨lw_Exp_all, ny_Exp, nn_Exp⟩
  | 3, h => cases h; exact ⟨lw_Out_all, ny_Out, nn_Out⟩
  | 4, h => cases h; exact ⟨lw_Rdr_all, ny_Rdr, nn_Rdr⟩
  | 5, h => cases h; exact ⟨lw_Row_all, ny_Row, nn_Row⟩
  | 6, h => cases h; exact ⟨lw_Rul_all, ny_Rul, nn_Rul⟩
  | 7, h => cases h; exact ⟨lw_Tab_all, ny_Tab, nn_Tab⟩
  | 8, h => cases h; exact ⟨lw_Mod_all, ny_Mod, nn_Mod⟩
/-- the handlers of a method: the law's own alone have some -/
def wl_HL : List (String × List (Nat × Nat × Nat × Nat)) := [("feed", [(0, 16, 19, 13)]), ("expression", [(0, 9, 12, 19), (0, 9, 15, 13)]), ("text", [(0, 9, 12, 19)]), ("separator", [(0, 9, 12, 27)]), ("rule", [(0, 12, 15, 19), (0, 12, 19, 13)]), ("action", [(0, 14, 17, 19), (0, 14, 21, 13)]), ("find", [(0, 10, 13, 19)]), ("sign", [(0, 10, 13, 19)]), ("printed", [(0, 9, 12, 19)]), ("counter", [(0, 9, 12, 19)]), ("key", [(0, 10, 13, 19)]), ("count", [(0, 9, 12, 27)])]
def wl_H (x : MethodName) : List (Nat × Nat × Nat × Nat) := if x.cls = "LineRulesLaw" then ((wl_HL.find? (fun q => q.1 == x.name)).map (·.2)).getD [] else []
/-- words on old cells: strings that a pool holds, static fields -/
def wl_jw : Cond → Bool
  | .stringRef .. => true
  | .laysStatic .. => true
  | .isRef (.static ..) => true
  | .not (.castable ..) => true
  | .declares _ => true
  | _ => false
/-- of the premises: the static fields hold references; the one exception is not the other -/
def wl_NJ : List Cond := [.isRef (.static "java/lang/Throwable" "UNASSIGNED_STACK" "[Ljava/lang/StackTraceElement;"), .isRef (.static "java/lang/Throwable" "SUPPRESSED_SENTINEL" "Ljava/util/List;"), .not (.castable "java/lang/IllegalStateException" "java/util/NoSuchElementException")]
def wl_JW : List Cond := lw_tbl.filter wl_jw ++ wl_NJ
theorem wl_jmem {c : Cond} (n : Nat) (h : lw_tbl[n]? = some c) (hg : wl_jw c = true) : c ∈ wl_JW := List.mem_append_left _ (List.mem_filter.mpr ⟨List.mem_of_getElem? h, hg⟩)
theorem wl_jnew {c : Cond} (n : Nat) (h : wl_NJ[n]? = some c) : c ∈ wl_JW := List.mem_append_right _ (List.mem_of_getElem? h)
theorem wl_jw_all {w : Cond} (hw : w ∈ wl_JW) : wl_jw w = true := by
  rcases List.mem_append.mp hw with h | h
  · exact (List.mem_filter.mp h).2
  · simp only [wl_NJ, List.mem_cons, List.not_mem_nil, or_false] at h
    rcases h with rfl | rfl | rfl <;> rfl
/-- the run began at a state of n0 cells, with warmer tables now, and its cells are as they were -/
def wl_J (n0 : Nat) (U : State) : Prop := ∃ s0 : State, s0.heap.size = n0 ∧ s0.WarmedH U.vm ∧ (∀ q : Nat, q < n0 → U.heap[q]? = s0.heap[q]?) ∧ ∀ w ∈ wl_JW, w.before #[] s0 = true
theorem wl_J_moved {n0 : Nat} {u U : State} (hW : u.WarmedH U.vm) (hh : ∀ q : Nat, q < n0 → U.heap[q]? = u.heap[q]?) (h : wl_J n0 u) : wl_J n0 U := by
  obtain ⟨s0, h1, h2, h3, h4⟩ := h
  exact ⟨s0, h1, State.WarmedH.trans h2 hW, fun q hq => (hh q hq).trans (h3 q hq), h4⟩
theorem wl_static {s0 U : State} {n0 : Nat} (h1 : s0.heap.size = n0) (h2 : s0.WarmedH U.vm) (h3 : ∀ q : Nat, q < n0 → U.heap[q]? = s0.heap[q]?) {A : Array Value} {o n d : String} {v : Value} (hv : (Term.static o n d).eval #[] s0 none [] s0 = some v) : (Term.static o n d).eval A U none [] U = some v := by
  have hv' := Term.static_setVm h2.alike hv
  cases hi : (s0.setVm U.vm).fieldFound? o n d with
  | none => simp [Term.eval, State.fieldNamed?, hi] at hv'
  | some w =>
    obtain ⟨c, k, i, f⟩ := w
    obtain ⟨hst, a, cell, ha, hcell, -, hslot⟩ := Term.static_spec hi hv'
    have hs : cell.vm.isStatics = true := by
      cases hb : cell.vm.isStatics with
      | true => rfl
      | false =>
        have hc2 : s0.heap[a]? = some cell := hcell
        simp [Term.eval, State.fieldNamed?, hi, hst, ha, hc2, hb] at hv'
    have hlt : a < n0 := h1 ▸ (Array.getElem?_eq_some_iff.mp hcell).1
    exact Term.static_eval (s := U) hi hst ha ((h3 a hlt).trans hcell) hs hslot
theorem wl_J_word {n0 : Nat} {U : State} (h : wl_J n0 U) {w : Cond} (hw : w ∈ wl_JW) (A : Array Value) : w.before A U = true := by
  obtain ⟨s0, h1, h2, h3, h4⟩ := h
  have hb := h4 w hw
  have hj := wl_jw_all hw
  match w, hj, hb with
  | .stringRef c x tx, _, hb => exact Cond.stringRef_warmed h2 hb
  | .laysStatic o n d, _, hb =>
    obtain ⟨c, k, i, f, a, cell, hc, hi, hst, ha, hcell, hs, hcls, hlt, hty⟩ := Cond.laysStatic_spec (Cond.laysStatic_setVm h2.alike hb)
    have ha0 : a < n0 := h1 ▸ (Array.getElem?_eq_some_iff.mp hcell).1
    exact Cond.laysStatic_of (s := U) hc hi hst ha ((h3 a ha0).trans hcell) hs hcls hlt hty
  | .isRef (.static o n d), _, hb =>
    simp only [Cond.before, Cond.holds, Cond.value] at hb ⊢
    cases hv : (Term.static o n d).eval #[] s0 none [] s0 with
    | none => rw [hv] at hb; cases hb
    | some v => rw [hv] at hb; rw [wl_static h1 h2 h3 hv]; exact hb
  | .not (.castable a b), _, hb => exact Cond.castAtom_setVm h2.alike _ rfl hb
  | .declares x, _, hb => exact Cond.faceAtom_setVm h2.alike (.declares x) rfl hb
end
section
/-! The layer over the kit: a heap as four maps (kinds, references, ints, longs), split by slot; Wf: the machine inside a method, seen through these maps; Ct: a method's contract. Cells from n0 on are the run's own; of the older ones the script's alone is seen (kind wl_AS), and nothing older is written. -/
abbrev Wt : Type := Nat → Option (Nat ⊕ (Nat × Nat))
abbrev Wr : Type := Nat → Nat → Option Nat
abbrev Wi : Type := Nat → Nat → Int32
abbrev Wl : Type := Nat → Nat → Int64
/-- class numbers, slots, array classes -/
abbrev We : Type := (Nat → ClassId) × (Nat → Nat → Nat) × (Nat → ClassId)
/-- a method: name, bytes, locals, answer -/
abbrev Wm : Type := MethodName × ByteArray × Nat × Option FieldType
/-- how a method ends: an answer, or an exception of a class -/
abbrev Wo : Type := Option Value ⊕ String
abbrev Wq : Type := Wo → Nat → Wt → Wr → Wi → Wl → Prop
def wf_up1 {α : Type} (f : Nat → α) (a : Nat) (v : α) : Nat → α := fun b => if b = a then v else f b
def wf_up {α : Type} (f : Nat → Nat → α) (a k : Nat) (v : α) : Nat → Nat → α := fun b j => if b = a ∧ j = k then v else f b j
theorem wf_up1_s {α : Type} {f : Nat → α} {a : Nat} {v : α} : wf_up1 f a v a = v := if_pos rfl
theorem wf_up1_n {α : Type} {f : Nat → α} {a b : Nat} {v : α} (h : b ≠ a) : wf_up1 f a v b = f b := if_neg h
theorem wf_up_s {α : Type} {f : Nat → Nat → α} {a k : Nat} {v : α} : wf_up f a k v a k = v := if_pos ⟨rfl, rfl⟩
theorem wf_up_a {α : Type} {f : Nat → Nat → α} {a b k j : Nat} {v : α} (h : b ≠ a) : wf_up f a k v b j = f b j := if_neg fun q => h q.1
theorem wf_up_k {α : Type} {f : Nat → Nat → α} {a b k j : Nat} {v : α} (h : j ≠ k) : wf_up f a k v b j = f b j := if_neg fun q => h q.2
/-- 0: an int's slot; 1: a long's; 2: a reference's -/
def wf_kd : FieldType → Nat
  | .long => 1
  | .object _ => 2
  | .array _ => 2
  | _ => 0
/-- the value in slot k of cell a, by its type -/
def wf_v (y : FieldType) (r : Wr) (i : Wi) (g : Wl) (a k : Nat) : Value := match wf_kd y with
  | 1 => .long (g a k)
  | 2 => va_rf (r a k)
  | _ => .int (i a k)
theorem wf_v_c {y : FieldType} {r r' : Wr} {i i' : Wi} {g g' : Wl} {a k : Nat} (h1 : r' a k = r a k) (h2 : i' a k = i a k) (h3 : g' a k = g a k) : wf_v y r' i' g' a k = wf_v y r i g a k := by
  unfold wf_v
  rw [h1, h2, h3]
theorem wf_v_i {y : FieldType} {r : Wr} {i : Wi} {g : Wl} {a k : Nat} (h : wf_kd y = 0) : wf_v y r i g a k = .int (i a k) := by
  unfold wf_v
  rw [h]
  rfl
theorem wf_v_l {y : FieldType} {r : Wr} {i : Wi} {g : Wl} {a k : Nat} (h : wf_kd y = 1) : wf_v y r i g a k = .long (g a k) := by
  unfold wf_v
  rw [h]
  rfl
theorem wf_v_r {y : FieldType} {r : Wr} {i : Wi} {g : Wl} {a k : Nat} (h : wf_kd y = 2) : wf_v y r i g a k = va_rf (r a k) := by
  unfold wf_v
  rw [h]
  rfl
/-- an array's cell: one of the run's own, or the script's, which may be marked in ways that nobody looks at -/
def wf_ce (old : Bool) (cA : ClassId) (n : Nat) (f : Nat → Value) (ce : Cell) : Prop := match old with
  | false => ce = arrV cA n f
  | true => ce.cls = cA ∧ ce.vm ≠ .unknown ∧ (∀ k, ce.vm ≠ .statics k) ∧ ce.slots = (arrV cA n f).slots
theorem wf_ce.r {old : Bool} {cA : ClassId} {n : Nat} {f : Nat → Value} {ce : Cell} (h : wf_ce old cA n f ce) : ce.cls = cA ∧ ce.vm ≠ .unknown ∧ (∀ k, ce.vm ≠ .statics k) ∧ ce.slots = (arrV cA n f).slots := by
  cases old with
  | true => exact h
  | false =>
    have h : ce = arrV cA n f := h
    subst h
    exact ⟨rfl, fun q => (by cases q), fun k q => (by cases q), rfl⟩
theorem wf_beq {y : Nat} (h : y ≠ wl_AS) : Nat.beq y wl_AS = false := by
  cases hb : Nat.beq y wl_AS with
  | false => rfl
  | true => exact absurd (Nat.eq_of_beq_eq_true hb) h
def wf_A (E : We) (t : Wt) (r : Wr) (i : Wi) (g : Wl) (a : Nat) (H : Heap) : Prop := match t a with
  | none => True
  | some (.inl c) => ∃ q : vw_C, wl_CL[c]? = some q ∧ t_OB a (E.1 c) q.2.2 (E.2.1 c) H (fun k => wf_v (wl_TY c k) r i g a k)
  | some (.inr (y, n)) => y < wl_AN ∧ ∃ ce : Cell, H[a]? = some ce ∧ wf_ce (Nat.beq y wl_AS) (E.2.2 y) n (fun j => wf_v (wl_AT y) r i g a j) ce
theorem wf_A.o {E : We} {t : Wt} {r : Wr} {i : Wi} {g : Wl} {a c : Nat} {H : Heap} (h : wf_A E t r i g a H) (ht : t a = some (.inl c)) : ∃ q : vw_C, wl_CL[c]? = some q ∧ t_OB a (E.1 c) q.2.2 (E.2.1 c) H (fun k => wf_v (wl_TY c k) r i g a k) := by
  unfold wf_A at h
  rw [ht] at h
  exact h
theorem wf_A.w {E : We} {t : Wt} {r : Wr} {i : Wi} {g : Wl} {a y n : Nat} {H : Heap} (h : wf_A E t r i g a H) (ht : t a = some (.inr (y, n))) : y < wl_AN ∧ ∃ ce : Cell, H[a]? = some ce ∧ wf_ce (Nat.beq y wl_AS) (E.2.2 y) n (fun j => wf_v (wl_AT y) r i g a j) ce := by
  unfold wf_A at h
  rw [ht] at h
  exact h
theorem wf_A.a {E : We} {t : Wt} {r : Wr} {i : Wi} {g : Wl} {a y n : Nat} {H : Heap} (h : wf_A E t r i g a H) (ht : t a = some (.inr (y, n))) (hs : y ≠ wl_AS) : y < wl_AN ∧ H[a]? = some (arrV (E.2.2 y) n (fun j => wf_v (wl_AT y) r i g a j)) := by
  obtain ⟨h1, ce, h2, h3⟩ := h.w ht
  rw [wf_beq hs] at h3
  have h3 : ce = _ := h3
  exact ⟨h1, by rw [h2, h3]⟩
theorem wf_A.io {E : We} {t : Wt} {r : Wr} {i : Wi} {g : Wl} {a c : Nat} {H : Heap} (ht : t a = some (.inl c)) (h : ∃ q : vw_C, wl_CL[c]? = some q ∧ t_OB a (E.1 c) q.2.2 (E.2.1 c) H (fun k => wf_v (wl_TY c k) r i g a k)) : wf_A E t r i g a H := by
  unfold wf_A
  rw [ht]
  exact h
theorem wf_A.iw {E : We} {t : Wt} {r : Wr} {i : Wi} {g : Wl} {a y n : Nat} {H : Heap} (ht : t a = some (.inr (y, n))) (h : y < wl_AN ∧ ∃ ce : Cell, H[a]? = some ce ∧ wf_ce (Nat.beq y wl_AS) (E.2.2 y) n (fun j => wf_v (wl_AT y) r i g a j) ce) : wf_A E t r i g a H := by
  unfold wf_A
  rw [ht]
  exact h
theorem wf_A.ia {E : We} {t : Wt} {r : Wr} {i : Wi} {g : Wl} {a y n : Nat} {H : Heap} (hs : y ≠ wl_AS) (ht : t a = some (.inr (y, n))) (h : y < wl_AN ∧ H[a]? = some (arrV (E.2.2 y) n (fun j => wf_v (wl_AT y) r i g a j))) : wf_A E t r i g a H := wf_A.iw ht ⟨h.1, _, h.2, by rw [wf_beq hs]; rfl⟩
theorem wf_A.in {E : We} {t : Wt} {r : Wr} {i : Wi} {g : Wl} {a : Nat} {H : Heap} (ht : t a = none) : wf_A E t r i g a H := by
  unfold wf_A
  rw [ht]
  trivial
theorem wf_A.tr {E : We} {t t' : Wt} {r r' : Wr} {i i' : Wi} {g g' : Wl} {b : Nat} {H H' : Heap} (h : wf_A E t r i g b H) (ht : t' b = t b) (hq : H'[b]? = H[b]?) (ho : ∀ k, r' b k = r b k ∧ i' b k = i b k ∧ g' b k = g b k) : wf_A E t' r' i' g' b H' := by
  cases hb : t b with
  | none => exact wf_A.in (ht.trans hb)
  | some z =>
    cases z with
    | inl c =>
      obtain ⟨q, h1, h2⟩ := h.o hb
      exact wf_A.io (ht.trans hb) ⟨q, h1, (h2.kept hq).to (fun k _ => (wf_v_c (ho k).1 (ho k).2.1 (ho k).2.2).symm)⟩
    | inr z =>
      obtain ⟨y, n⟩ := z
      obtain ⟨h1, ce, h2, h3⟩ := h.w hb
      have hf : (fun k => wf_v (wl_AT y) r' i' g' b k) = (fun k => wf_v (wl_AT y) r i g b k) := funext fun k => wf_v_c (ho k).1 (ho k).2.1 (ho k).2.2
      exact wf_A.iw (ht.trans hb) ⟨h1, ce, hq.trans h2, by rw [hf]; exact h3⟩
def wf_R (E : We) (n0 nx : Nat) (t : Wt) (r : Wr) (i : Wi) (g : Wl) (H : Heap) : Prop :=
  H.size = nx ∧ n0 ≤ nx ∧ (∀ a, wf_A E t r i g a H) ∧ (∀ a z, t a = some z → n0 ≤ a ∨ ∃ n, z = .inr (wl_AS, n)) ∧ ∀ a, nx ≤ a → t a = none ∧ ∀ k, r a k = none ∧ i a k = 0 ∧ g a k = 0
theorem wf_R.lt {E : We} {n0 nx : Nat} {t : Wt} {r : Wr} {i : Wi} {g : Wl} {H : Heap} {a : Nat} {z : Nat ⊕ (Nat × Nat)} (h : wf_R E n0 nx t r i g H) (ha : t a = some z) : a < nx :=
  Nat.not_le.mp fun q => by
    have h1 := (h.2.2.2.2 a q).1
    rw [ha] at h1
    cases h1
/-- one cell is written -/
theorem wf_R.put {E : We} {n0 nx : Nat} {t : Wt} {r r' : Wr} {i i' : Wi} {g g' : Wl} {H H' : Heap} {a : Nat} {z : Nat ⊕ (Nat × Nat)} (h : wf_R E n0 nx t r i g H) (hz : H'.size = H.size) (hq : ∀ q : Nat, q ≠ a → H'[q]? = H[q]?) (ha : t a = some z) (hA : wf_A E t r' i' g' a H')
    (ho : ∀ b, b ≠ a → ∀ k, r' b k = r b k ∧ i' b k = i b k ∧ g' b k = g b k) : wf_R E n0 nx t r' i' g' H' := by
  refine ⟨hz.trans h.1, h.2.1, fun b => ?_, h.2.2.2.1, fun b hb => ?_⟩
  · by_cases hba : b = a
    · rw [hba]; exact hA
    · exact (h.2.2.1 b).tr rfl (hq b hba) (ho b hba)
  · have hne : b ≠ a := fun q => by
      have := h.lt ha
      omega
    obtain ⟨h1, h2⟩ := h.2.2.2.2 b hb
    refine ⟨h1, fun k => ?_⟩
    rw [(ho b hne k).1, (ho b hne k).2.1, (ho b hne k).2.2]
    exact h2 k
/-- one cell comes -/
theorem wf_R.new {E : We} {n0 nx : Nat} {t : Wt} {r : Wr} {i : Wi} {g : Wl} {H H' : Heap} {z : Nat ⊕ (Nat × Nat)} (h : wf_R E n0 nx t r i g H) (hz : H'.size = nx + 1) (hq : ∀ q : Nat, q < nx → H'[q]? = H[q]?) (hA : wf_A E (wf_up1 t nx (some z)) r i g nx H') : wf_R E n0 (nx + 1) (wf_up1 t nx (some z)) r i g H' := by
  refine ⟨hz, Nat.le_succ_of_le h.2.1, fun b => ?_, fun b w hb => ?_, fun b hb => ?_⟩
  · by_cases hba : b = nx
    · rw [hba]; exact hA
    · by_cases hlt : b < nx
      · exact (h.2.2.1 b).tr (wf_up1_n hba) (hq b hlt) (fun k => ⟨rfl, rfl, rfl⟩)
      · exact wf_A.in (by rw [wf_up1_n hba]; exact (h.2.2.2.2 b (by omega)).1)
  · by_cases hba : b = nx
    · rw [hba]; exact Or.inl h.2.1
    · rw [wf_up1_n hba] at hb
      exact h.2.2.2.1 b w hb
  · rw [wf_up1_n (by omega)]
    exact h.2.2.2.2 b (by omega)
/-- cells come that nobody looks at -/
theorem wf_R.grow {E : We} {n0 nx nx' : Nat} {t : Wt} {r : Wr} {i : Wi} {g : Wl} {H H' : Heap} (h : wf_R E n0 nx t r i g H) (hz : H'.size = nx') (hl : nx ≤ nx') (hq : ∀ q : Nat, q < nx → H'[q]? = H[q]?) : wf_R E n0 nx' t r i g H' := by
  refine ⟨hz, Nat.le_trans h.2.1 hl, fun b => ?_, h.2.2.2.1, fun b hb => h.2.2.2.2 b (Nat.le_trans hl hb)⟩
  cases hb : t b with
  | none => exact wf_A.in hb
  | some z => exact (h.2.2.1 b).tr rfl (hq b (h.lt hb)) (fun k => ⟨rfl, rfl, rfl⟩)
def wf_K (E : We) (U : State) : Prop := (∀ (c : Nat) (q : vw_C), wl_CL[c]? = some q → u_Kn U q.1 q.2.1 q.2.2 (E.1 c) (E.2.1 c)) ∧ (∀ y, y < wl_AN → ArrOfT U (E.2.2 y) (wl_AT y) ∧ (y ≠ wl_AS → va_RA U (E.2.2 y) (wl_AT y))) ∧ ∀ C0 ∈ wl_OV, va_AO C0 U
theorem wf_K.moved {E : We} {u U : State} (hvm : u.vm.Alike U.vm) (h : wf_K E u) : wf_K E U := ⟨fun c q hq => u_Kn_moved hvm (h.1 c q hq), fun y hy => ⟨arrOfT_moved hvm (h.2.1 y hy).1, fun hs => ((h.2.1 y hy).2 hs).moved hvm⟩, fun C0 hC => (h.2.2 C0 hC).moved hvm⟩
/-- old cells are as they were -/
def wf_O (n0 : Nat) (H0 H : Heap) : Prop := ∀ q : Nat, q < n0 → H[q]? = H0[q]?
def wf_out (n0 : Nat) (s t : State) (o : Outcome) : Wo → Prop
  | .inl v => o = .returned v
  | .inr X => ∃ (a : Nat) (ce : Cell), o = .threw a ∧ n0 ≤ a ∧ t.heap[a]? = some ce ∧ ce.vm = .none ∧ s.vm.findClass X = some ce.cls
def wf_Q (E : We) (n0 : Nat) (Q : Wq) : Array Value → State → Outcome → State → Prop := fun _ st o u => ∃ (v : Wo) (nx : Nat) (t : Wt) (r : Wr) (i : Wi) (g : Wl), wf_out n0 st u o v ∧ wf_R E n0 nx t r i g u.heap ∧ wf_O n0 st.heap u.heap ∧ Q v nx t r i g
def wf_F (n0 mc ms : Nat) (st : State) (u : State) : Prop := ∃ L : List Loc, st.WarmedH u.vm ∧ st.sameButNew ({ u with vm := st.vm } : State) L mc ms ∧ ∀ q ∈ L, n0 ≤ q.base
def wf_rm (d mc ms : Nat) : Room := { frames := d, cells := mc, slots := ms, locals := 40 * d }
abbrev wf_ws (M : Wm) : List Cond := Cond.code M.1 M.2.1 M.2.2.1 M.2.2.2 :: wl_ALL
/-- what a method begins with -/
def wf_P (E : We) (n0 : Nat) (av : List Value) (nx : Nat) (t : Wt) (r : Wr) (i : Wi) (g : Wl) : Array Value → State → Prop := va_Pc av (fun U => wf_R E n0 nx t r i g U.heap ∧ wf_K E U ∧ wl_J n0 U)
/-- A CONTRACT: method M, called with av over the maps, ends as Q says; d frames, mc cells of ms slots -/
def Ct (l : Launch) (E : We) (n0 : Nat) (M : Wm) (d mc ms : Nat) (av : List Value) (nx : Nat) (t : Wt) (r : Wr) (i : Wi) (g : Wl) (Q : Wq) : Prop :=
  MetFree l M.1 (headSpec (wf_ws M) (wf_rm d mc ms)) (wf_P E n0 av nx t r i g) (fun _ _ _ _ _ => True) (fun a st o u => wf_Q E n0 Q a st o u ∧ wf_F n0 mc ms st u)
theorem Ct.mono {l : Launch} {E : We} {n0 : Nat} {M : Wm} {d mc ms : Nat} {av : List Value} {nx : Nat} {t : Wt} {r : Wr} {i : Wi} {g : Wl} {Q Q' : Wq} (h : Ct l E n0 M d mc ms av nx t r i g Q) (hq : ∀ v nx t r i g, Q v nx t r i g → Q' v nx t r i g) : Ct l E n0 M d mc ms av nx t r i g Q' := by
  intro p e h1 h2 h3 s m args below h4 h5 h6 h7
  obtain ⟨n, o, a1, a2, a3, ⟨v, nx', t', r', i', g', b1, b2, b3, b4⟩, a5⟩ := h p e h1 h2 h3 s m args below h4 h5 h6 h7
  exact ⟨n, o, a1, a2, a3, ⟨v, nx', t', r', i', g', b1, b2, b3, hq _ _ _ _ _ _ b4⟩, a5⟩
/-- a contract of a method that always answers, as the kit has it -/
theorem Ct.met {l : Launch} {E : We} {n0 : Nat} {M : Wm} {d mc ms : Nat} {av : List Value} {nx : Nat} {t : Wt} {r : Wr} {i : Wi} {g : Wl} {Q : Wq} (h : Ct l E n0 M d mc ms av nx t r i g Q) (hq : ∀ X nx t r i g, ¬ Q (.inr X) nx t r i g) :
    Met l M.1 (wf_ws M) (wf_rm d mc ms) (wf_P E n0 av nx t r i g) (wf_Q E n0 Q) mc ms (fun q => n0 ≤ q) := by
  intro p e h1 h2 h3 s m args below h4 h5 h6 h7
  obtain ⟨n, o, a1, a2, a3, ⟨v, nx', t', r', i', g', b1, b2, b3, b4⟩, L, c1, c2, c3⟩ := h p e h1 h2 h3 s m args below h4 h5 h6 h7
  refine ⟨n, o, a1, a2, a3, ⟨v, nx', t', r', i', g', b1, b2, b3, b4⟩, L, ⟨?_, c1, c2⟩, c3⟩
  cases v with
  | inl v => exact ⟨v, b1⟩
  | inr X => exact absurd b4 (hq _ _ _ _ _ _)
/-- what holds of the machine inside a method -/
def wf_C (E : We) (n0 : Nat) (M : Wm) (p : Program) (s : State) (m : MethodId) (args : Array Value) (meth : Method) (c : Code) : Prop :=
  p.tables.exec = Jvm.exec ∧ c.code = M.2.1 ∧ c.maxLocals = M.2.2.1 ∧ meth.sig.returnType = M.2.2.2 ∧ s.vm.findClass M.1.cls = some m.cls ∧ (∀ w ∈ wl_ALL, w.before args s = true) ∧ meth.locks = false ∧ (meth.name = M.1.name ∧ c.exceptionTable.toList.map (fun h => (h.startPc, h.endPc, h.handlerPc, h.catchType)) = wl_H M.1) ∧ wf_K E s ∧ wl_J n0 s
/-- the end of a method -/
def wf_Z (E : We) (n0 mc ms : Nat) (Q : Wq) (below : List Frame) (args : Array Value) (s : State) : State → Prop := fun u => ∃ o, u.status = .running ∧ Ended u below o ∧ wf_Q E n0 Q args s o u ∧ wf_F n0 mc ms s u
/-- THE MACHINE INSIDE A METHOD: at pc, with the locals L, the operand stack st, over the maps; bk cells of bn slots may still be made -/
def Wf (l : Launch) (E : We) (n0 : Nat) (M : Wm) (d mc ms : Nat) (Q : Wq) (bk bn : Nat) (pc : Nat) (L : List (Nat × Value)) (st : List Value) (nx : Nat) (t : Wt) (r : Wr) (i : Wi) (g : Wl) : Prop :=
  ∀ (p : Program) (e : Env) (s : State) (m : MethodId) (args : Array Value) (below : List Frame) (meth : Method) (c : Code), wf_C E n0 M p s m args meth c →
  ∀ (H : Heap) (locs : List Loc) (cells slots : Nat) (ls : Array Slot), cells + bk ≤ mc → slots + bn ≤ ms → wf_R E n0 nx t r i g H → wf_O n0 s.heap H → (∀ q ∈ locs, n0 ≤ q.base) → lv_has ls M.2.2.1 L →
  W p l e (wf_rm d mc ms) s m args below meth c H locs cells slots (wf_Z E n0 mc ms Q below args s) (F0 m pc ls st)
/-! the locals -/
def wf_isL : Value → Bool
  | .long _ => true
  | .double _ => true
  | _ => false
theorem wf_isL_c (v : Value) (h : wf_isL v = false) : ¬ v.category = 2 := by
  cases v <;> simp [wf_isL, Value.category] at h ⊢
def wf_get : List (Nat × Value) → Nat → Option Value
  | [], _ => none
  | (k, v) :: q, j => match Nat.beq k j with
    | true => some v
    | false => wf_get q j
def wf_d1 : List (Nat × Value) → Nat → List (Nat × Value)
  | [], _ => []
  | (k, v) :: q, j => match Nat.beq k j || (Nat.beq (k + 1) j && wf_isL v) with
    | true => wf_d1 q j
    | false => (k, v) :: wf_d1 q j
def wf_d2 : List (Nat × Value) → Nat → List (Nat × Value)
  | [], _ => []
  | (k, v) :: q, j => match Nat.beq k j || (Nat.beq k (j + 1) || (Nat.beq (k + 1) j && wf_isL v)) with
    | true => wf_d2 q j
    | false => (k, v) :: wf_d2 q j
theorem wf_get_mem {L : List (Nat × Value)} {j : Nat} {v : Value} (h : wf_get L j = some v) : (j, v) ∈ L := by
  induction L with
  | nil => cases h
  | cons q k ih =>
    obtain ⟨a, b⟩ := q
    cases hb : Nat.beq a j with
    | true =>
      simp only [wf_get, hb] at h
      rw [← Nat.eq_of_beq_eq_true hb, Option.some.inj h]
      exact List.mem_cons_self
    | false =>
      simp only [wf_get, hb] at h
      exact List.mem_cons_of_mem _ (ih h)
theorem wf_get_at {ls : Array Slot} {nL : Nat} {L : List (Nat × Value)} {j : Nat} {v : Value} (h : lv_has ls nL L) (hg : wf_get L j = some v) : ls[j]? = some (.val v) := h.2.2 (j, v) (wf_get_mem hg)
theorem wf_get_ix {L : List (Nat × Value)} {j : Nat} {v : Value} (hg : wf_get L j = some v) : ∃ q : Nat, L[q]? = some (j, v) := List.getElem?_of_mem (wf_get_mem hg)
theorem wf_d1_mem {L : List (Nat × Value)} {j : Nat} {q : Nat × Value} (h : q ∈ wf_d1 L j) : q ∈ L ∧ q.1 ≠ j ∧ ¬ (q.1 + 1 = j ∧ q.2.category = 2) := by
  induction L with
  | nil => cases h
  | cons z k ih =>
    obtain ⟨a, b⟩ := z
    cases hb : (Nat.beq a j || (Nat.beq (a + 1) j && wf_isL b)) with
    | true =>
      simp only [wf_d1, hb] at h
      exact ⟨List.mem_cons_of_mem _ (ih h).1, (ih h).2⟩
    | false =>
      simp only [wf_d1, hb] at h
      rcases List.mem_cons.mp h with rfl | h
      · rw [Bool.or_eq_false_iff] at hb
        refine ⟨List.mem_cons_self, Nat.ne_of_beq_eq_false hb.1, fun ⟨q1, q2⟩ => ?_⟩
        have h2 := hb.2
        rw [show Nat.beq (a + 1) j = true by rw [← q1]; exact Nat.beq_refl _, Bool.true_and] at h2
        exact wf_isL_c b h2 q2
      · exact ⟨List.mem_cons_of_mem _ (ih h).1, (ih h).2⟩
theorem wf_d2_mem {L : List (Nat × Value)} {j : Nat} {q : Nat × Value} (h : q ∈ wf_d2 L j) : q ∈ L ∧ q.1 ≠ j ∧ q.1 ≠ j + 1 ∧ ¬ (q.1 + 1 = j ∧ q.2.category = 2) := by
  induction L with
  | nil => cases h
  | cons z k ih =>
    obtain ⟨a, b⟩ := z
    cases hb : (Nat.beq a j || (Nat.beq a (j + 1) || (Nat.beq (a + 1) j && wf_isL b))) with
    | true =>
      simp only [wf_d2, hb] at h
      exact ⟨List.mem_cons_of_mem _ (ih h).1, (ih h).2⟩
    | false =>
      simp only [wf_d2, hb] at h
      rcases List.mem_cons.mp h with rfl | h
      · rw [Bool.or_eq_false_iff, Bool.or_eq_false_iff] at hb
        refine ⟨List.mem_cons_self, Nat.ne_of_beq_eq_false hb.1, Nat.ne_of_beq_eq_false hb.2.1, fun ⟨q1, q2⟩ => ?_⟩
        have h2 := hb.2.2
        rw [show Nat.beq (a + 1) j = true by rw [← q1]; exact Nat.beq_refl _, Bool.true_and] at h2
        exact wf_isL_c b h2 q2
      · exact ⟨List.mem_cons_of_mem _ (ih h).1, (ih h).2⟩
theorem wf_d1_has {ls : Array Slot} {nL : Nat} {L : List (Nat × Value)} {j : Nat} {v : Value} (h : lv_has ls nL ((j, v) :: L.filter (fun q => !(q.1 == j) && !(q.1 + 1 == j && q.2.category == 2)))) : lv_has ls nL ((j, v) :: wf_d1 L j) := by
  refine ⟨h.1, h.2.1, fun q hq => h.2.2 q ?_⟩
  rcases List.mem_cons.mp hq with rfl | hq
  · exact List.mem_cons_self
  · obtain ⟨h1, h2, h3⟩ := wf_d1_mem hq
    refine List.mem_cons_of_mem _ (List.mem_filter.mpr ⟨h1, ?_⟩)
    simp [h2]
    by_cases q1 : q.1 + 1 = j
    · exact Or.inr (fun q2 => h3 ⟨q1, q2⟩)
    · exact Or.inl q1
theorem wf_d2_has {ls : Array Slot} {nL : Nat} {L : List (Nat × Value)} {j : Nat} {v : Value} (h : lv_has ls nL ((j, v) :: L.filter (fun q => !(q.1 == j) && (!(q.1 == j + 1) && !(q.1 + 1 == j && q.2.category == 2))))) : lv_has ls nL ((j, v) :: wf_d2 L j) := by
  refine ⟨h.1, h.2.1, fun q hq => h.2.2 q ?_⟩
  rcases List.mem_cons.mp hq with rfl | hq
  · exact List.mem_cons_self
  · obtain ⟨h1, h2, h3, h4⟩ := wf_d2_mem hq
    refine List.mem_cons_of_mem _ (List.mem_filter.mpr ⟨h1, ?_⟩)
    simp [h2, h3]
    by_cases q1 : q.1 + 1 = j
    · exact Or.inr (fun q2 => h4 ⟨q1, q2⟩)
    · exact Or.inl q1
/-- what L' lists, L lists -/
def wf_all (L : List (Nat × Value)) : List (Nat × Value) → Prop
  | [] => True
  | q :: k => wf_get L q.1 = some q.2 ∧ wf_all L k
theorem wf_all_mem {L L' : List (Nat × Value)} (h : wf_all L L') {q : Nat × Value} (hq : q ∈ L') : q ∈ L := by
  induction L' with
  | nil => cases hq
  | cons z k ih =>
    rcases List.mem_cons.mp hq with rfl | hq
    · exact wf_get_mem h.1
    · exact ih h.2 hq
section WfBase
variable {l : Launch} {E : We} {n0 : Nat} {M : Wm} {d mc ms : Nat} {Q : Wq} {bk bn pc : Nat} {L : List (Nat × Value)} {st : List Value} {nx : Nat} {t : Wt} {r : Wr} {i : Wi} {g : Wl}
theorem Wf.to {L' : List (Nat × Value)} (hs : wf_all L L') (k : Wf l E n0 M d mc ms Q bk bn pc L' st nx t r i g) : Wf l E n0 M d mc ms Q bk bn pc L st nx t r i g :=
  fun p e s m args below meth c C H locs cells slots ls h1 h2 h3 h4 h5 h6 => k p e s m args below meth c C H locs cells slots ls h1 h2 h3 h4 h5 ⟨h6.1, h6.2.1, fun q hq => h6.2.2 q (wf_all_mem hs hq)⟩
/-- less may be made -/
theorem Wf.less {bk' bn' : Nat} (a1 : bk' ≤ bk) (a2 : bn' ≤ bn) (k : Wf l E n0 M d mc ms Q bk' bn' pc L st nx t r i g) : Wf l E n0 M d mc ms Q bk bn pc L st nx t r i g :=
  fun p e s m args below meth c C H locs cells slots ls h1 h2 h3 h4 h5 h6 => k p e s m args below meth c C H locs cells slots ls (by omega) (by omega) h3 h4 h5 h6
theorem wf_mono {p : Program} {e : Env} {R : Room} {s : State} {m : MethodId} {args : Array Value} {below : List Frame} {meth : Method} {c : Code} {H : Heap} {locs : List Loc} {cells slots : Nat} {Z Z' : State → Prop} {f : JFrame} (h : W p l e R s m args below meth c H locs cells slots Z f) (hq : ∀ u, Z u → Z' u) : W p l e R s m args below meth c H locs cells slots Z' f := by
  intro T hT X
  obtain ⟨u, a, b⟩ := h T hT X
  exact ⟨u, a, hq u b⟩
theorem wf_MQ {below : List Frame} {args : Array Value} {s u : State} (h : MQ below (wf_Q E n0 Q) args s mc ms (fun q => n0 ≤ q) u) : wf_Z E n0 mc ms Q below args s u := by
  obtain ⟨o, h1, h2, h3, L', h4, h5⟩ := h
  exact ⟨o, h1, h2, h3, L', h4.2.1, h4.2.2, h5⟩
theorem wf_ireturn {x : Int32} (hr : M.2.2.2 = some .int) (hd : decode M.2.1 pc = .ok (.ireturn, 1)) (hq : Q (.inl (some (.int x))) nx t r i g) : Wf l E n0 M d mc ms Q bk bn pc L [.int x] nx t r i g :=
  fun p e s m args below meth c C H locs cells slots ls h1 h2 h3 h4 h5 h6 => W.widen (k := mc) (n := ms) (by omega) (by omega) (wf_mono (W.iret (Qc := wf_Q E n0 Q) (free := fun q => n0 ≤ q) C.1 C.2.1 (C.2.2.2.1.trans hr) (fun u hu hW => ⟨.inl (some (.int x)), nx, t, r, i, g, rfl, by rw [hu]; exact h3, by rw [hu]; exact h4, hq⟩) h5 hd C.2.2.2.2.2.2.1) (fun u hu => wf_MQ hu))
theorem wf_zreturn {x : Int32} (hr : M.2.2.2 = some .boolean) (hx : narrow .boolean (.int x) = .int x) (hd : decode M.2.1 pc = .ok (.ireturn, 1)) (hq : Q (.inl (some (.int x))) nx t r i g) : Wf l E n0 M d mc ms Q bk bn pc L [.int x] nx t r i g :=
  fun p e s m args below meth c C H locs cells slots ls h1 h2 h3 h4 h5 h6 => W.widen (k := mc) (n := ms) (by omega) (by omega) (wf_mono (W.zret (Qc := wf_Q E n0 Q) (free := fun q => n0 ≤ q) C.1 C.2.1 (C.2.2.2.1.trans hr) hx (fun u hu hW => ⟨.inl (some (.int x)), nx, t, r, i, g, rfl, by rw [hu]; exact h3, by rw [hu]; exact h4, hq⟩) h5 hd C.2.2.2.2.2.2.1) (fun u hu => wf_MQ hu))
theorem wf_lreturn {x : Int64} (hr : M.2.2.2 = some .long) (hd : decode M.2.1 pc = .ok (.lreturn, 1)) (hq : Q (.inl (some (.long x))) nx t r i g) : Wf l E n0 M d mc ms Q bk bn pc L [.long x] nx t r i g :=
  fun p e s m args below meth c C H locs cells slots ls h1 h2 h3 h4 h5 h6 => W.widen (k := mc) (n := ms) (by omega) (by omega) (wf_mono (W.lret (Qc := wf_Q E n0 Q) (free := fun q => n0 ≤ q) C.1 C.2.1 (C.2.2.2.1.trans hr) (fun u hu hW => ⟨.inl (some (.long x)), nx, t, r, i, g, rfl, by rw [hu]; exact h3, by rw [hu]; exact h4, hq⟩) h5 hd C.2.2.2.2.2.2.1) (fun u hu => wf_MQ hu))
theorem wf_areturn {x : Nat} {rt : FieldType} (hr : M.2.2.2 = some rt) (hrt : (∃ n, rt = .object n) ∨ ∃ y, rt = .array y) (hd : decode M.2.1 pc = .ok (.areturn, 1)) (hq : Q (.inl (some (.ref x))) nx t r i g) : Wf l E n0 M d mc ms Q bk bn pc L [.ref x] nx t r i g :=
  fun p e s m args below meth c C H locs cells slots ls h1 h2 h3 h4 h5 h6 => W.widen (k := mc) (n := ms) (by omega) (by omega) (wf_mono (W.aret (Qc := wf_Q E n0 Q) (free := fun q => n0 ≤ q) C.1 C.2.1 (C.2.2.2.1.trans hr) hrt (Or.inr ⟨x, rfl⟩) (fun u hu hW => ⟨.inl (some (.ref x)), nx, t, r, i, g, rfl, by rw [hu]; exact h3, by rw [hu]; exact h4, hq⟩) h5 hd C.2.2.2.2.2.2.1) (fun u hu => wf_MQ hu))
theorem wf_return (hr : M.2.2.2 = none) (hd : decode M.2.1 pc = .ok (.return_, 1)) (hq : Q (.inl none) nx t r i g) : Wf l E n0 M d mc ms Q bk bn pc L [] nx t r i g :=
  fun p e s m args below meth c C H locs cells slots ls h1 h2 h3 h4 h5 h6 => W.widen (k := mc) (n := ms) (by omega) (by omega) (wf_mono (W.vret (Qc := wf_Q E n0 Q) (free := fun q => n0 ≤ q) C.1 C.2.1 (C.2.2.2.1.trans hr) (fun u hu hW => ⟨.inl none, nx, t, r, i, g, rfl, by rw [hu]; exact h3, by rw [hu]; exact h4, hq⟩) h5 hd C.2.2.2.2.2.2.1) (fun u hu => wf_MQ hu))
/-- a contract out of the walk -/
theorem Ct.of {av : List Value} (hy : plainName M.1.cls = true) (hn : (lg_sl av).length ≤ M.2.2.1) (h : Wf l E n0 M d mc ms Q mc ms 0 (lv_args 0 av) [] nx t r i g) (hH : wl_H M.1 = [] := by decide +kernel) : Ct l E n0 M d mc ms av nx t r i g Q := by
  refine MetFree.of_bodyS (code := M.2.1) (maxLocals := M.2.2.1) (ret := M.2.2.2) hy ?_ ?_
  · intro args s m h hn
    obtain ⟨meth, c, h1, h2, h3, h4, h5, h6, -, -⟩ := Cond.code_spec hn (atoms_spec (ws := wf_ws M) h _ List.mem_cons_self)
    exact ⟨meth, c, h1, h2, h3, h4, h5, h6⟩
  · intro p e s m args below meth c s₁ B hml hP _
    obtain ⟨rfl, hR, hK, hJ⟩ := hP
    have hh0 : s₁.heap = s.heap := by rw [B.state]; rfl
    have hts := atoms_spec (ws := wf_ws M) B.pre
    have htb : c.exceptionTable.toList = [] := by
      obtain ⟨meth', c', q1, q2, -, -, -, -, q7, -⟩ := Cond.code_spec B.named (hts _ List.mem_cons_self)
      have X0 := Stand.of_body B
      cases X0.method.symm.trans q1
      cases X0.code.symm.trans q2
      simpa using q7
    have C : wf_C E n0 M p s m av.toArray meth c := ⟨B.exec, B.bytes, hml, B.returns, findClass_of_methodNamed B.named, fun w hw => hts w (List.mem_cons_of_mem _ hw), B.notSynchronized, ⟨(name_of_methodNamed B.named B.method).1, by rw [htb, hH]; rfl⟩, hK, hJ⟩
    have K := h p e s m av.toArray below meth c C s.heap [] 0 0 _ (by omega) (by omega) hR (fun _ _ => rfl) (fun q hq => by cases hq) (lv_entry av hn)
    rw [← lg_entry_eq] at K
    obtain ⟨u, a1, o, b1, b2, b3, b4⟩ := K s₁ hh0 (Stand.of_body B)
    exact ⟨u, o, a1, b1, b2, b3, b4⟩
end WfBase
end
section
section WfRows
variable {l : Launch} {E : We} {n0 : Nat} {M : Wm} {d mc ms : Nat} {Q : Wq} {bk bn pc : Nat} {L : List (Nat × Value)} {st : List Value} {nx : Nat} {t : Wt} {r : Wr} {i : Wi} {g : Wl}
theorem wf_iadd {x y : Int32} (hd : decode M.2.1 pc = .ok (.iadd, 1)) (k : Wf l E n0 M d mc ms Q bk bn (pc + 1) L (.int (x + y) :: st) nx t r i g) : Wf l E n0 M d mc ms Q bk bn pc L (.int y :: .int x :: st) nx t r i g :=
  fun p e s m args below meth c C H locs cells slots ls h1 h2 h3 h4 h5 h6 => lv_iadd C.1 C.2.1 hd (k p e s m args below meth c C H locs cells slots ls h1 h2 h3 h4 h5 h6)
theorem wf_isub {x y : Int32} (hd : decode M.2.1 pc = .ok (.isub, 1)) (k : Wf l E n0 M d mc ms Q bk bn (pc + 1) L (.int (x - y) :: st) nx t r i g) : Wf l E n0 M d mc ms Q bk bn pc L (.int y :: .int x :: st) nx t r i g :=
  fun p e s m args below meth c C H locs cells slots ls h1 h2 h3 h4 h5 h6 => lv_isub C.1 C.2.1 hd (k p e s m args below meth c C H locs cells slots ls h1 h2 h3 h4 h5 h6)
theorem wf_imul {x y : Int32} (hd : decode M.2.1 pc = .ok (.imul, 1)) (k : Wf l E n0 M d mc ms Q bk bn (pc + 1) L (.int (x * y) :: st) nx t r i g) : Wf l E n0 M d mc ms Q bk bn pc L (.int y :: .int x :: st) nx t r i g :=
  fun p e s m args below meth c C H locs cells slots ls h1 h2 h3 h4 h5 h6 => lv_imul C.1 C.2.1 hd (k p e s m args below meth c C H locs cells slots ls h1 h2 h3 h4 h5 h6)
theorem wf_iand {x y : Int32} (hd : decode M.2.1 pc = .ok (.iand, 1)) (k : Wf l E n0 M d mc ms Q bk bn (pc + 1) L (.int (x &&& y) :: st) nx t r i g) : Wf l E n0 M d mc ms Q bk bn pc L (.int y :: .int x :: st) nx t r i g :=
  fun p e s m args below meth c C H locs cells slots ls h1 h2 h3 h4 h5 h6 => lv_iand C.1 C.2.1 hd (k p e s m args below meth c C H locs cells slots ls h1 h2 h3 h4 h5 h6)
theorem wf_ior {x y : Int32} (hd : decode M.2.1 pc = .ok (.ior, 1)) (k : Wf l E n0 M d mc ms Q bk bn (pc + 1) L (.int (x ||| y) :: st) nx t r i g) : Wf l E n0 M d mc ms Q bk bn pc L (.int y :: .int x :: st) nx t r i g :=
  fun p e s m args below meth c C H locs cells slots ls h1 h2 h3 h4 h5 h6 => lv_ior C.1 C.2.1 hd (k p e s m args below meth c C H locs cells slots ls h1 h2 h3 h4 h5 h6)
theorem wf_ixor {x y : Int32} (hd : decode M.2.1 pc = .ok (.ixor, 1)) (k : Wf l E n0 M d mc ms Q bk bn (pc + 1) L (.int (x ^^^ y) :: st) nx t r i g) : Wf l E n0 M d mc ms Q bk bn pc L (.int y :: .int x :: st) nx t r i g :=
  fun p e s m args below meth c C H locs cells slots ls h1 h2 h3 h4 h5 h6 => lv_ixor C.1 C.2.1 hd (k p e s m args below meth c C H locs cells slots ls h1 h2 h3 h4 h5 h6)
theorem wf_ishl {x y : Int32} (hd : decode M.2.1 pc = .ok (.ishl, 1)) (k : Wf l E n0 M d mc ms Q bk bn (pc + 1) L (.int (x <<< (y &&& 31)) :: st) nx t r i g) : Wf l E n0 M d mc ms Q bk bn pc L (.int y :: .int x :: st) nx t r i g :=
  fun p e s m args below meth c C H locs cells slots ls h1 h2 h3 h4 h5 h6 => lv_ishl C.1 C.2.1 hd (k p e s m args below meth c C H locs cells slots ls h1 h2 h3 h4 h5 h6)
theorem wf_ishr {x y : Int32} (hd : decode M.2.1 pc = .ok (.ishr, 1)) (k : Wf l E n0 M d mc ms Q bk bn (pc + 1) L (.int (x >>> (y &&& 31)) :: st) nx t r i g) : Wf l E n0 M d mc ms Q bk bn pc L (.int y :: .int x :: st) nx t r i g :=
  fun p e s m args below meth c C H locs cells slots ls h1 h2 h3 h4 h5 h6 => lv_ishr C.1 C.2.1 hd (k p e s m args below meth c C H locs cells slots ls h1 h2 h3 h4 h5 h6)
theorem wf_idiv {x y : Int32} (hd : decode M.2.1 pc = .ok (.idiv, 1)) (hne : ¬ y = 0) (k : Wf l E n0 M d mc ms Q bk bn (pc + 1) L (.int (x / y) :: st) nx t r i g) : Wf l E n0 M d mc ms Q bk bn pc L (.int y :: .int x :: st) nx t r i g :=
  fun p e s m args below meth c C H locs cells slots ls h1 h2 h3 h4 h5 h6 => lv_idiv C.1 C.2.1 hd hne (k p e s m args below meth c C H locs cells slots ls h1 h2 h3 h4 h5 h6)
theorem wf_irem {x y : Int32} (hd : decode M.2.1 pc = .ok (.irem, 1)) (hne : ¬ y = 0) (k : Wf l E n0 M d mc ms Q bk bn (pc + 1) L (.int (x - x / y * y) :: st) nx t r i g) : Wf l E n0 M d mc ms Q bk bn pc L (.int y :: .int x :: st) nx t r i g :=
  fun p e s m args below meth c C H locs cells slots ls h1 h2 h3 h4 h5 h6 => lv_irem C.1 C.2.1 hd hne (k p e s m args below meth c C H locs cells slots ls h1 h2 h3 h4 h5 h6)
theorem wf_ineg {x : Int32} (hd : decode M.2.1 pc = .ok (.ineg, 1)) (k : Wf l E n0 M d mc ms Q bk bn (pc + 1) L (.int (-x) :: st) nx t r i g) : Wf l E n0 M d mc ms Q bk bn pc L (.int x :: st) nx t r i g :=
  fun p e s m args below meth c C H locs cells slots ls h1 h2 h3 h4 h5 h6 => lv_ineg C.1 C.2.1 hd (k p e s m args below meth c C H locs cells slots ls h1 h2 h3 h4 h5 h6)
theorem wf_iushr {x y : Int32} (hd : decode M.2.1 pc = .ok (.iushr, 1)) (k : Wf l E n0 M d mc ms Q bk bn (pc + 1) L (.int ((x.toUInt32 >>> (y.toUInt32 &&& Int32.toUInt32 31)).toInt32) :: st) nx t r i g) : Wf l E n0 M d mc ms Q bk bn pc L (.int y :: .int x :: st) nx t r i g :=
  fun p e s m args below meth c C H locs cells slots ls h1 h2 h3 h4 h5 h6 => lv_iushr C.1 C.2.1 hd rfl (k p e s m args below meth c C H locs cells slots ls h1 h2 h3 h4 h5 h6)
theorem wf_ladd {x y : Int64} (hd : decode M.2.1 pc = .ok (.ladd, 1)) (k : Wf l E n0 M d mc ms Q bk bn (pc + 1) L (.long (x + y) :: st) nx t r i g) : Wf l E n0 M d mc ms Q bk bn pc L (.long y :: .long x :: st) nx t r i g :=
  fun p e s m args below meth c C H locs cells slots ls h1 h2 h3 h4 h5 h6 => lv_ladd C.1 C.2.1 hd (k p e s m args below meth c C H locs cells slots ls h1 h2 h3 h4 h5 h6)
theorem wf_lsub {x y : Int64} (hd : decode M.2.1 pc = .ok (.lsub, 1)) (k : Wf l E n0 M d mc ms Q bk bn (pc + 1) L (.long (x - y) :: st) nx t r i g) : Wf l E n0 M d mc ms Q bk bn pc L (.long y :: .long x :: st) nx t r i g :=
  fun p e s m args below meth c C H locs cells slots ls h1 h2 h3 h4 h5 h6 => lv_lsub C.1 C.2.1 hd (k p e s m args below meth c C H locs cells slots ls h1 h2 h3 h4 h5 h6)
theorem wf_lmul {x y : Int64} (hd : decode M.2.1 pc = .ok (.lmul, 1)) (k : Wf l E n0 M d mc ms Q bk bn (pc + 1) L (.long (x * y) :: st) nx t r i g) : Wf l E n0 M d mc ms Q bk bn pc L (.long y :: .long x :: st) nx t r i g :=
  fun p e s m args below meth c C H locs cells slots ls h1 h2 h3 h4 h5 h6 => lv_lmul C.1 C.2.1 hd (k p e s m args below meth c C H locs cells slots ls h1 h2 h3 h4 h5 h6)
theorem wf_land {x y : Int64} (hd : decode M.2.1 pc = .ok (.land, 1)) (k : Wf l E n0 M d mc ms Q bk bn (pc + 1) L (.long (x &&& y) :: st) nx t r i g) : Wf l E n0 M d mc ms Q bk bn pc L (.long y :: .long x :: st) nx t r i g :=
  fun p e s m args below meth c C H locs cells slots ls h1 h2 h3 h4 h5 h6 => lv_land C.1 C.2.1 hd (k p e s m args below meth c C H locs cells slots ls h1 h2 h3 h4 h5 h6)
theorem wf_lor {x y : Int64} (hd : decode M.2.1 pc = .ok (.lor, 1)) (k : Wf l E n0 M d mc ms Q bk bn (pc + 1) L (.long (x ||| y) :: st) nx t r i g) : Wf l E n0 M d mc ms Q bk bn pc L (.long y :: .long x :: st) nx t r i g :=
  fun p e s m args below meth c C H locs cells slots ls h1 h2 h3 h4 h5 h6 => lv_lor C.1 C.2.1 hd (k p e s m args below meth c C H locs cells slots ls h1 h2 h3 h4 h5 h6)
theorem wf_lxor {x y : Int64} (hd : decode M.2.1 pc = .ok (.lxor, 1)) (k : Wf l E n0 M d mc ms Q bk bn (pc + 1) L (.long (x ^^^ y) :: st) nx t r i g) : Wf l E n0 M d mc ms Q bk bn pc L (.long y :: .long x :: st) nx t r i g :=
  fun p e s m args below meth c C H locs cells slots ls h1 h2 h3 h4 h5 h6 => lv_lxor C.1 C.2.1 hd (k p e s m args below meth c C H locs cells slots ls h1 h2 h3 h4 h5 h6)
theorem wf_ldiv {x y : Int64} (hd : decode M.2.1 pc = .ok (.ldiv, 1)) (hne : ¬ y = 0) (k : Wf l E n0 M d mc ms Q bk bn (pc + 1) L (.long (x / y) :: st) nx t r i g) : Wf l E n0 M d mc ms Q bk bn pc L (.long y :: .long x :: st) nx t r i g :=
  fun p e s m args below meth c C H locs cells slots ls h1 h2 h3 h4 h5 h6 => lv_ldiv C.1 C.2.1 hd hne (k p e s m args below meth c C H locs cells slots ls h1 h2 h3 h4 h5 h6)
theorem wf_lrem {x y : Int64} (hd : decode M.2.1 pc = .ok (.lrem, 1)) (hne : ¬ y = 0) (k : Wf l E n0 M d mc ms Q bk bn (pc + 1) L (.long (x - x / y * y) :: st) nx t r i g) : Wf l E n0 M d mc ms Q bk bn pc L (.long y :: .long x :: st) nx t r i g :=
  fun p e s m args below meth c C H locs cells slots ls h1 h2 h3 h4 h5 h6 => lv_lrem C.1 C.2.1 hd hne (k p e s m args below meth c C H locs cells slots ls h1 h2 h3 h4 h5 h6)
theorem wf_lneg {x : Int64} (hd : decode M.2.1 pc = .ok (.lneg, 1)) (k : Wf l E n0 M d mc ms Q bk bn (pc + 1) L (.long (-x) :: st) nx t r i g) : Wf l E n0 M d mc ms Q bk bn pc L (.long x :: st) nx t r i g :=
  fun p e s m args below meth c C H locs cells slots ls h1 h2 h3 h4 h5 h6 => lv_lneg C.1 C.2.1 hd (k p e s m args below meth c C H locs cells slots ls h1 h2 h3 h4 h5 h6)
theorem wf_i2l {x : Int32} (hd : decode M.2.1 pc = .ok (.i2l, 1)) (k : Wf l E n0 M d mc ms Q bk bn (pc + 1) L (.long (x.toInt64) :: st) nx t r i g) : Wf l E n0 M d mc ms Q bk bn pc L (.int x :: st) nx t r i g :=
  fun p e s m args below meth c C H locs cells slots ls h1 h2 h3 h4 h5 h6 => lv_i2l C.1 C.2.1 hd rfl (k p e s m args below meth c C H locs cells slots ls h1 h2 h3 h4 h5 h6)
theorem wf_l2i {x : Int64} (hd : decode M.2.1 pc = .ok (.l2i, 1)) (k : Wf l E n0 M d mc ms Q bk bn (pc + 1) L (.int (x.toInt32) :: st) nx t r i g) : Wf l E n0 M d mc ms Q bk bn pc L (.long x :: st) nx t r i g :=
  fun p e s m args below meth c C H locs cells slots ls h1 h2 h3 h4 h5 h6 => lv_l2i C.1 C.2.1 hd rfl (k p e s m args below meth c C H locs cells slots ls h1 h2 h3 h4 h5 h6)
theorem wf_lushr {x : Int64} {y : Int32} (hd : decode M.2.1 pc = .ok (.lushr, 1)) (k : Wf l E n0 M d mc ms Q bk bn (pc + 1) L (.long ((x.toUInt64 >>> (y.toInt64.toUInt64 &&& Int64.toUInt64 63)).toInt64) :: st) nx t r i g) : Wf l E n0 M d mc ms Q bk bn pc L (.int y :: .long x :: st) nx t r i g :=
  fun p e s m args below meth c C H locs cells slots ls h1 h2 h3 h4 h5 h6 => lv_lushr C.1 C.2.1 hd rfl (k p e s m args below meth c C H locs cells slots ls h1 h2 h3 h4 h5 h6)
theorem wf_lshl {x : Int64} {y : Int32} (hd : decode M.2.1 pc = .ok (.lshl, 1)) (k : Wf l E n0 M d mc ms Q bk bn (pc + 1) L (.long (x <<< (y.toInt64 &&& 63)) :: st) nx t r i g) : Wf l E n0 M d mc ms Q bk bn pc L (.int y :: .long x :: st) nx t r i g :=
  fun p e s m args below meth c C H locs cells slots ls h1 h2 h3 h4 h5 h6 => lv_lshl C.1 C.2.1 hd rfl (k p e s m args below meth c C H locs cells slots ls h1 h2 h3 h4 h5 h6)
theorem wf_lcmp {x y : Int64} (hd : decode M.2.1 pc = .ok (.lcmp, 1)) (k : Wf l E n0 M d mc ms Q bk bn (pc + 1) L (.int (lg_cmp x y) :: st) nx t r i g) : Wf l E n0 M d mc ms Q bk bn pc L (.long y :: .long x :: st) nx t r i g :=
  fun p e s m args below meth c C H locs cells slots ls h1 h2 h3 h4 h5 h6 => W.lcmp C.1 C.2.1 hd (k p e s m args below meth c C H locs cells slots ls h1 h2 h3 h4 h5 h6)
theorem wf_dup {va : Value} (hd : decode M.2.1 pc = .ok (.dup, 1)) (hva : va.category = 1) (k : Wf l E n0 M d mc ms Q bk bn (pc + 1) L (va :: va :: st) nx t r i g) : Wf l E n0 M d mc ms Q bk bn pc L (va :: st) nx t r i g :=
  fun p e s m args below meth c C H locs cells slots ls h1 h2 h3 h4 h5 h6 => lv_dup C.1 C.2.1 hd hva (k p e s m args below meth c C H locs cells slots ls h1 h2 h3 h4 h5 h6)
theorem wf_pop {va : Value} (hd : decode M.2.1 pc = .ok (.pop, 1)) (hva : va.category = 1) (k : Wf l E n0 M d mc ms Q bk bn (pc + 1) L (st) nx t r i g) : Wf l E n0 M d mc ms Q bk bn pc L (va :: st) nx t r i g :=
  fun p e s m args below meth c C H locs cells slots ls h1 h2 h3 h4 h5 h6 => lv_pop C.1 C.2.1 hd hva (k p e s m args below meth c C H locs cells slots ls h1 h2 h3 h4 h5 h6)
theorem wf_dup_x1 {va vb : Value} (hd : decode M.2.1 pc = .ok (.dup_x1, 1)) (hva : va.category = 1) (hvb : vb.category = 1) (k : Wf l E n0 M d mc ms Q bk bn (pc + 1) L (va :: vb :: va :: st) nx t r i g) : Wf l E n0 M d mc ms Q bk bn pc L (va :: vb :: st) nx t r i g :=
  fun p e s m args below meth c C H locs cells slots ls h1 h2 h3 h4 h5 h6 => lv_dup_x1 C.1 C.2.1 hd hva hvb (k p e s m args below meth c C H locs cells slots ls h1 h2 h3 h4 h5 h6)
theorem wf_dup_x2 {va vb vd : Value} (hd : decode M.2.1 pc = .ok (.dup_x2, 1)) (hva : va.category = 1) (hvb : vb.category = 1) (hvd : vd.category = 1) (k : Wf l E n0 M d mc ms Q bk bn (pc + 1) L (va :: vb :: vd :: va :: st) nx t r i g) : Wf l E n0 M d mc ms Q bk bn pc L (va :: vb :: vd :: st) nx t r i g :=
  fun p e s m args below meth c C H locs cells slots ls h1 h2 h3 h4 h5 h6 => lv_dup_x2 C.1 C.2.1 hd hva hvb hvd (k p e s m args below meth c C H locs cells slots ls h1 h2 h3 h4 h5 h6)
theorem wf_dup2 {va vb : Value} (hd : decode M.2.1 pc = .ok (.dup2, 1)) (hva : va.category = 1) (hvb : vb.category = 1) (k : Wf l E n0 M d mc ms Q bk bn (pc + 1) L (va :: vb :: va :: vb :: st) nx t r i g) : Wf l E n0 M d mc ms Q bk bn pc L (va :: vb :: st) nx t r i g :=
  fun p e s m args below meth c C H locs cells slots ls h1 h2 h3 h4 h5 h6 => lv_dup2_11 C.1 C.2.1 hd hva hvb (k p e s m args below meth c C H locs cells slots ls h1 h2 h3 h4 h5 h6)
theorem wf_dup2L {va : Value} (hd : decode M.2.1 pc = .ok (.dup2, 1)) (hva : va.category = 2) (k : Wf l E n0 M d mc ms Q bk bn (pc + 1) L (va :: va :: st) nx t r i g) : Wf l E n0 M d mc ms Q bk bn pc L (va :: st) nx t r i g :=
  fun p e s m args below meth c C H locs cells slots ls h1 h2 h3 h4 h5 h6 => lv_dup2_2 C.1 C.2.1 hd hva (k p e s m args below meth c C H locs cells slots ls h1 h2 h3 h4 h5 h6)
theorem wf_iconst {n : Int} (v : Int32) (hd : decode M.2.1 pc = .ok (.iconst n, 1)) (hv : Int32.ofInt n = v) (k : Wf l E n0 M d mc ms Q bk bn (pc + 1) L (.int v :: st) nx t r i g) : Wf l E n0 M d mc ms Q bk bn pc L st nx t r i g :=
  fun p e s m args below meth c C H locs cells slots ls h1 h2 h3 h4 h5 h6 => lv_iconst C.1 C.2.1 hd hv (k p e s m args below meth c C H locs cells slots ls h1 h2 h3 h4 h5 h6)
theorem wf_bipush {n : Int} (v : Int32) (hd : decode M.2.1 pc = .ok (.bipush n, 2)) (hv : (Int8.ofInt n).toInt32 = v) (k : Wf l E n0 M d mc ms Q bk bn (pc + 2) L (.int v :: st) nx t r i g) : Wf l E n0 M d mc ms Q bk bn pc L st nx t r i g :=
  fun p e s m args below meth c C H locs cells slots ls h1 h2 h3 h4 h5 h6 => lv_bipush C.1 C.2.1 hd hv (k p e s m args below meth c C H locs cells slots ls h1 h2 h3 h4 h5 h6)
theorem wf_sipush {n : Int} (v : Int32) (hd : decode M.2.1 pc = .ok (.sipush n, 3)) (hv : (Int16.ofInt n).toInt32 = v) (k : Wf l E n0 M d mc ms Q bk bn (pc + 3) L (.int v :: st) nx t r i g) : Wf l E n0 M d mc ms Q bk bn pc L st nx t r i g :=
  fun p e s m args below meth c C H locs cells slots ls h1 h2 h3 h4 h5 h6 => lv_sipush C.1 C.2.1 hd hv (k p e s m args below meth c C H locs cells slots ls h1 h2 h3 h4 h5 h6)
theorem wf_lconst {n : Fin 2} (v : Int64) (hd : decode M.2.1 pc = .ok (.lconst n, 1)) (hv : Int64.ofNat (n : Nat) = v) (k : Wf l E n0 M d mc ms Q bk bn (pc + 1) L (.long v :: st) nx t r i g) : Wf l E n0 M d mc ms Q bk bn pc L st nx t r i g :=
  fun p e s m args below meth c C H locs cells slots ls h1 h2 h3 h4 h5 h6 => lv_lconst C.1 C.2.1 hd hv (k p e s m args below meth c C H locs cells slots ls h1 h2 h3 h4 h5 h6)
theorem wf_null (hd : decode M.2.1 pc = .ok (.aconst_null, 1)) (k : Wf l E n0 M d mc ms Q bk bn (pc + 1) L (.null :: st) nx t r i g) : Wf l E n0 M d mc ms Q bk bn pc L st nx t r i g :=
  fun p e s m args below meth c C H locs cells slots ls h1 h2 h3 h4 h5 h6 => lv_null C.1 C.2.1 hd (k p e s m args below meth c C H locs cells slots ls h1 h2 h3 h4 h5 h6)
theorem wf_iload {j : Nat} {x : Int32} (hd : decode M.2.1 pc = .ok (.iload j, 2)) (hl : wf_get L j = some (.int x)) (k : Wf l E n0 M d mc ms Q bk bn (pc + 2) L (.int x :: st) nx t r i g) : Wf l E n0 M d mc ms Q bk bn pc L st nx t r i g :=
  fun p e s m args below meth c C H locs cells slots ls h1 h2 h3 h4 h5 h6 => lv_iload C.1 C.2.1 hd (wf_get_at h6 hl) (k p e s m args below meth c C H locs cells slots ls h1 h2 h3 h4 h5 h6)
theorem wf_iload_n {j : Fin 4} {x : Int32} (hd : decode M.2.1 pc = .ok (.iload_n j, 1)) (hl : wf_get L (j : Nat) = some (.int x)) (k : Wf l E n0 M d mc ms Q bk bn (pc + 1) L (.int x :: st) nx t r i g) : Wf l E n0 M d mc ms Q bk bn pc L st nx t r i g :=
  fun p e s m args below meth c C H locs cells slots ls h1 h2 h3 h4 h5 h6 => lv_iload_n C.1 C.2.1 hd rfl (wf_get_at h6 hl) (k p e s m args below meth c C H locs cells slots ls h1 h2 h3 h4 h5 h6)
theorem wf_lload {j : Nat} {x : Int64} (hd : decode M.2.1 pc = .ok (.lload j, 2)) (hl : wf_get L j = some (.long x)) (k : Wf l E n0 M d mc ms Q bk bn (pc + 2) L (.long x :: st) nx t r i g) : Wf l E n0 M d mc ms Q bk bn pc L st nx t r i g :=
  fun p e s m args below meth c C H locs cells slots ls h1 h2 h3 h4 h5 h6 => lv_lload C.1 C.2.1 hd (wf_get_at h6 hl) (k p e s m args below meth c C H locs cells slots ls h1 h2 h3 h4 h5 h6)
theorem wf_lload_n {j : Fin 4} {x : Int64} (hd : decode M.2.1 pc = .ok (.lload_n j, 1)) (hl : wf_get L (j : Nat) = some (.long x)) (k : Wf l E n0 M d mc ms Q bk bn (pc + 1) L (.long x :: st) nx t r i g) : Wf l E n0 M d mc ms Q bk bn pc L st nx t r i g :=
  fun p e s m args below meth c C H locs cells slots ls h1 h2 h3 h4 h5 h6 => lv_lload_n C.1 C.2.1 hd rfl (wf_get_at h6 hl) (k p e s m args below meth c C H locs cells slots ls h1 h2 h3 h4 h5 h6)
theorem wf_aload {j : Nat} {x : Nat} (hd : decode M.2.1 pc = .ok (.aload j, 2)) (hl : wf_get L j = some (.ref x)) (k : Wf l E n0 M d mc ms Q bk bn (pc + 2) L (.ref x :: st) nx t r i g) : Wf l E n0 M d mc ms Q bk bn pc L st nx t r i g :=
  fun p e s m args below meth c C H locs cells slots ls h1 h2 h3 h4 h5 h6 => lv_aload C.1 C.2.1 hd (wf_get_at h6 hl) (k p e s m args below meth c C H locs cells slots ls h1 h2 h3 h4 h5 h6)
theorem wf_aload_n {j : Fin 4} {x : Nat} (hd : decode M.2.1 pc = .ok (.aload_n j, 1)) (hl : wf_get L (j : Nat) = some (.ref x)) (k : Wf l E n0 M d mc ms Q bk bn (pc + 1) L (.ref x :: st) nx t r i g) : Wf l E n0 M d mc ms Q bk bn pc L st nx t r i g :=
  fun p e s m args below meth c C H locs cells slots ls h1 h2 h3 h4 h5 h6 => lv_aload_n C.1 C.2.1 hd rfl (wf_get_at h6 hl) (k p e s m args below meth c C H locs cells slots ls h1 h2 h3 h4 h5 h6)
theorem wf_istore {j : Nat} {x : Int32} (hd : decode M.2.1 pc = .ok (.istore j, 2)) (hn : j < M.2.2.1) (k : Wf l E n0 M d mc ms Q bk bn (pc + 2) ((j, .int x) :: wf_d1 L j) st nx t r i g) : Wf l E n0 M d mc ms Q bk bn pc L (.int x :: st) nx t r i g :=
  fun p e s m args below meth c C H locs cells slots ls h1 h2 h3 h4 h5 h6 => lv_istore C.1 C.2.1 hd h6 hn rfl (fun ls' h6' => k p e s m args below meth c C H locs cells slots ls' h1 h2 h3 h4 h5 (wf_d1_has h6'))
theorem wf_istore_n {j : Fin 4} {x : Int32} (hd : decode M.2.1 pc = .ok (.istore_n j, 1)) (hn : (j : Nat) < M.2.2.1) (k : Wf l E n0 M d mc ms Q bk bn (pc + 1) (((j : Nat), .int x) :: wf_d1 L (j : Nat)) st nx t r i g) : Wf l E n0 M d mc ms Q bk bn pc L (.int x :: st) nx t r i g :=
  fun p e s m args below meth c C H locs cells slots ls h1 h2 h3 h4 h5 h6 => lv_istore_n C.1 C.2.1 hd rfl h6 hn rfl (fun ls' h6' => k p e s m args below meth c C H locs cells slots ls' h1 h2 h3 h4 h5 (wf_d1_has h6'))
theorem wf_astore {j : Nat} {x : Nat} (hd : decode M.2.1 pc = .ok (.astore j, 2)) (hn : j < M.2.2.1) (k : Wf l E n0 M d mc ms Q bk bn (pc + 2) ((j, .ref x) :: wf_d1 L j) st nx t r i g) : Wf l E n0 M d mc ms Q bk bn pc L (.ref x :: st) nx t r i g :=
  fun p e s m args below meth c C H locs cells slots ls h1 h2 h3 h4 h5 h6 => lv_astore C.1 C.2.1 hd h6 hn rfl (fun ls' h6' => k p e s m args below meth c C H locs cells slots ls' h1 h2 h3 h4 h5 (wf_d1_has h6'))
theorem wf_astore_n {j : Fin 4} {x : Nat} (hd : decode M.2.1 pc = .ok (.astore_n j, 1)) (hn : (j : Nat) < M.2.2.1) (k : Wf l E n0 M d mc ms Q bk bn (pc + 1) (((j : Nat), .ref x) :: wf_d1 L (j : Nat)) st nx t r i g) : Wf l E n0 M d mc ms Q bk bn pc L (.ref x :: st) nx t r i g :=
  fun p e s m args below meth c C H locs cells slots ls h1 h2 h3 h4 h5 h6 => lv_astore_n C.1 C.2.1 hd rfl h6 hn rfl (fun ls' h6' => k p e s m args below meth c C H locs cells slots ls' h1 h2 h3 h4 h5 (wf_d1_has h6'))
theorem wf_lstore {j : Nat} {x : Int64} (hd : decode M.2.1 pc = .ok (.lstore j, 2)) (hn : j + 1 < M.2.2.1) (k : Wf l E n0 M d mc ms Q bk bn (pc + 2) ((j, .long x) :: wf_d2 L j) st nx t r i g) : Wf l E n0 M d mc ms Q bk bn pc L (.long x :: st) nx t r i g :=
  fun p e s m args below meth c C H locs cells slots ls h1 h2 h3 h4 h5 h6 => lv_lstore C.1 C.2.1 hd h6 hn rfl (fun ls' h6' => k p e s m args below meth c C H locs cells slots ls' h1 h2 h3 h4 h5 (wf_d2_has h6'))
theorem wf_lstore_n {j : Fin 4} {x : Int64} (hd : decode M.2.1 pc = .ok (.lstore_n j, 1)) (hn : (j : Nat) + 1 < M.2.2.1) (k : Wf l E n0 M d mc ms Q bk bn (pc + 1) (((j : Nat), .long x) :: wf_d2 L (j : Nat)) st nx t r i g) : Wf l E n0 M d mc ms Q bk bn pc L (.long x :: st) nx t r i g :=
  fun p e s m args below meth c C H locs cells slots ls h1 h2 h3 h4 h5 h6 => lv_lstore_n C.1 C.2.1 hd rfl h6 hn rfl (fun ls' h6' => k p e s m args below meth c C H locs cells slots ls' h1 h2 h3 h4 h5 (wf_d2_has h6'))
theorem wf_iinc {j : Nat} {n : Int} {x : Int32} (v : Int32) (hd : decode M.2.1 pc = .ok (.iinc j n, 3)) (hl : wf_get L j = some (.int x)) (hv : x + Int32.ofInt n = v) (hn : j < M.2.2.1) (k : Wf l E n0 M d mc ms Q bk bn (pc + 3) ((j, .int v) :: wf_d1 L j) st nx t r i g) : Wf l E n0 M d mc ms Q bk bn pc L st nx t r i g :=
  fun p e s m args below meth c C H locs cells slots ls h1 h2 h3 h4 h5 h6 => by
    obtain ⟨q, hq⟩ := wf_get_ix hl
    exact lv_iinc (k := q) C.1 C.2.1 hd h6 hq hv hn rfl (fun ls' h6' => k p e s m args below meth c C H locs cells slots ls' h1 h2 h3 h4 h5 (wf_d1_has h6'))
theorem wf_if_eq {x : Int32} {off : Int} (tgt : Nat) (hd : decode M.2.1 pc = .ok (.ifCond .eq off, 3)) (ht : (pc : Int) + off = (tgt : Int)) (kt : x = 0 → Wf l E n0 M d mc ms Q bk bn tgt L st nx t r i g) (kf : ¬ x = 0 → Wf l E n0 M d mc ms Q bk bn (pc + 3) L st nx t r i g) : Wf l E n0 M d mc ms Q bk bn pc L (.int x :: st) nx t r i g :=
  fun p e s m args below meth c C H locs cells slots ls h1 h2 h3 h4 h5 h6 => lv_if_eq C.1 C.2.1 hd ht (fun q => kt q p e s m args below meth c C H locs cells slots ls h1 h2 h3 h4 h5 h6) (fun q => kf q p e s m args below meth c C H locs cells slots ls h1 h2 h3 h4 h5 h6)
theorem wf_icmp_eq {x y : Int32} {off : Int} (tgt : Nat) (hd : decode M.2.1 pc = .ok (.if_icmp .eq off, 3)) (ht : (pc : Int) + off = (tgt : Int)) (kt : x = y → Wf l E n0 M d mc ms Q bk bn tgt L st nx t r i g) (kf : ¬ x = y → Wf l E n0 M d mc ms Q bk bn (pc + 3) L st nx t r i g) : Wf l E n0 M d mc ms Q bk bn pc L (.int y :: .int x :: st) nx t r i g :=
  fun p e s m args below meth c C H locs cells slots ls h1 h2 h3 h4 h5 h6 => lv_icmp_eq C.1 C.2.1 hd ht (fun q => kt q p e s m args below meth c C H locs cells slots ls h1 h2 h3 h4 h5 h6) (fun q => kf q p e s m args below meth c C H locs cells slots ls h1 h2 h3 h4 h5 h6)
theorem wf_if_ne {x : Int32} {off : Int} (tgt : Nat) (hd : decode M.2.1 pc = .ok (.ifCond .ne off, 3)) (ht : (pc : Int) + off = (tgt : Int)) (kt : ¬ x = 0 → Wf l E n0 M d mc ms Q bk bn tgt L st nx t r i g) (kf : x = 0 → Wf l E n0 M d mc ms Q bk bn (pc + 3) L st nx t r i g) : Wf l E n0 M d mc ms Q bk bn pc L (.int x :: st) nx t r i g :=
  fun p e s m args below meth c C H locs cells slots ls h1 h2 h3 h4 h5 h6 => lv_if_ne C.1 C.2.1 hd ht (fun q => kt q p e s m args below meth c C H locs cells slots ls h1 h2 h3 h4 h5 h6) (fun q => kf q p e s m args below meth c C H locs cells slots ls h1 h2 h3 h4 h5 h6)
theorem wf_icmp_ne {x y : Int32} {off : Int} (tgt : Nat) (hd : decode M.2.1 pc = .ok (.if_icmp .ne off, 3)) (ht : (pc : Int) + off = (tgt : Int)) (kt : ¬ x = y → Wf l E n0 M d mc ms Q bk bn tgt L st nx t r i g) (kf : x = y → Wf l E n0 M d mc ms Q bk bn (pc + 3) L st nx t r i g) : Wf l E n0 M d mc ms Q bk bn pc L (.int y :: .int x :: st) nx t r i g :=
  fun p e s m args below meth c C H locs cells slots ls h1 h2 h3 h4 h5 h6 => lv_icmp_ne C.1 C.2.1 hd ht (fun q => kt q p e s m args below meth c C H locs cells slots ls h1 h2 h3 h4 h5 h6) (fun q => kf q p e s m args below meth c C H locs cells slots ls h1 h2 h3 h4 h5 h6)
theorem wf_if_lt {x : Int32} {off : Int} (tgt : Nat) (hd : decode M.2.1 pc = .ok (.ifCond .lt off, 3)) (ht : (pc : Int) + off = (tgt : Int)) (kt : x < 0 → Wf l E n0 M d mc ms Q bk bn tgt L st nx t r i g) (kf : ¬ x < 0 → Wf l E n0 M d mc ms Q bk bn (pc + 3) L st nx t r i g) : Wf l E n0 M d mc ms Q bk bn pc L (.int x :: st) nx t r i g :=
  fun p e s m args below meth c C H locs cells slots ls h1 h2 h3 h4 h5 h6 => lv_if_lt C.1 C.2.1 hd ht (fun q => kt q p e s m args below meth c C H locs cells slots ls h1 h2 h3 h4 h5 h6) (fun q => kf q p e s m args below meth c C H locs cells slots ls h1 h2 h3 h4 h5 h6)
theorem wf_icmp_lt {x y : Int32} {off : Int} (tgt : Nat) (hd : decode M.2.1 pc = .ok (.if_icmp .lt off, 3)) (ht : (pc : Int) + off = (tgt : Int)) (kt : x < y → Wf l E n0 M d mc ms Q bk bn tgt L st nx t r i g) (kf : ¬ x < y → Wf l E n0 M d mc ms Q bk bn (pc + 3) L st nx t r i g) : Wf l E n0 M d mc ms Q bk bn pc L (.int y :: .int x :: st) nx t r i g :=
  fun p e s m args below meth c C H locs cells slots ls h1 h2 h3 h4 h5 h6 => lv_icmp_lt C.1 C.2.1 hd ht (fun q => kt q p e s m args below meth c C H locs cells slots ls h1 h2 h3 h4 h5 h6) (fun q => kf q p e s m args below meth c C H locs cells slots ls h1 h2 h3 h4 h5 h6)
theorem wf_if_ge {x : Int32} {off : Int} (tgt : Nat) (hd : decode M.2.1 pc = .ok (.ifCond .ge off, 3)) (ht : (pc : Int) + off = (tgt : Int)) (kt : 0 ≤ x → Wf l E n0 M d mc ms Q bk bn tgt L st nx t r i g) (kf : ¬ 0 ≤ x → Wf l E n0 M d mc ms Q bk bn (pc + 3) L st nx t r i g) : Wf l E n0 M d mc ms Q bk bn pc L (.int x :: st) nx t r i g :=
  fun p e s m args below meth c C H locs cells slots ls h1 h2 h3 h4 h5 h6 => lv_if_ge C.1 C.2.1 hd ht (fun q => kt q p e s m args below meth c C H locs cells slots ls h1 h2 h3 h4 h5 h6) (fun q => kf q p e s m args below meth c C H locs cells slots ls h1 h2 h3 h4 h5 h6)
theorem wf_icmp_ge {x y : Int32} {off : Int} (tgt : Nat) (hd : decode M.2.1 pc = .ok (.if_icmp .ge off, 3)) (ht : (pc : Int) + off = (tgt : Int)) (kt : y ≤ x → Wf l E n0 M d mc ms Q bk bn tgt L st nx t r i g) (kf : ¬ y ≤ x → Wf l E n0 M d mc ms Q bk bn (pc + 3) L st nx t r i g) : Wf l E n0 M d mc ms Q bk bn pc L (.int y :: .int x :: st) nx t r i g :=
  fun p e s m args below meth c C H locs cells slots ls h1 h2 h3 h4 h5 h6 => lv_icmp_ge C.1 C.2.1 hd ht (fun q => kt q p e s m args below meth c C H locs cells slots ls h1 h2 h3 h4 h5 h6) (fun q => kf q p e s m args below meth c C H locs cells slots ls h1 h2 h3 h4 h5 h6)
theorem wf_if_gt {x : Int32} {off : Int} (tgt : Nat) (hd : decode M.2.1 pc = .ok (.ifCond .gt off, 3)) (ht : (pc : Int) + off = (tgt : Int)) (kt : 0 < x → Wf l E n0 M d mc ms Q bk bn tgt L st nx t r i g) (kf : ¬ 0 < x → Wf l E n0 M d mc ms Q bk bn (pc + 3) L st nx t r i g) : Wf l E n0 M d mc ms Q bk bn pc L (.int x :: st) nx t r i g :=
  fun p e s m args below meth c C H locs cells slots ls h1 h2 h3 h4 h5 h6 => lv_if_gt C.1 C.2.1 hd ht (fun q => kt q p e s m args below meth c C H locs cells slots ls h1 h2 h3 h4 h5 h6) (fun q => kf q p e s m args below meth c C H locs cells slots ls h1 h2 h3 h4 h5 h6)
theorem wf_icmp_gt {x y : Int32} {off : Int} (tgt : Nat) (hd : decode M.2.1 pc = .ok (.if_icmp .gt off, 3)) (ht : (pc : Int) + off = (tgt : Int)) (kt : y < x → Wf l E n0 M d mc ms Q bk bn tgt L st nx t r i g) (kf : ¬ y < x → Wf l E n0 M d mc ms Q bk bn (pc + 3) L st nx t r i g) : Wf l E n0 M d mc ms Q bk bn pc L (.int y :: .int x :: st) nx t r i g :=
  fun p e s m args below meth c C H locs cells slots ls h1 h2 h3 h4 h5 h6 => lv_icmp_gt C.1 C.2.1 hd ht (fun q => kt q p e s m args below meth c C H locs cells slots ls h1 h2 h3 h4 h5 h6) (fun q => kf q p e s m args below meth c C H locs cells slots ls h1 h2 h3 h4 h5 h6)
theorem wf_if_le {x : Int32} {off : Int} (tgt : Nat) (hd : decode M.2.1 pc = .ok (.ifCond .le off, 3)) (ht : (pc : Int) + off = (tgt : Int)) (kt : x ≤ 0 → Wf l E n0 M d mc ms Q bk bn tgt L st nx t r i g) (kf : ¬ x ≤ 0 → Wf l E n0 M d mc ms Q bk bn (pc + 3) L st nx t r i g) : Wf l E n0 M d mc ms Q bk bn pc L (.int x :: st) nx t r i g :=
  fun p e s m args below meth c C H locs cells slots ls h1 h2 h3 h4 h5 h6 => lv_if_le C.1 C.2.1 hd ht (fun q => kt q p e s m args below meth c C H locs cells slots ls h1 h2 h3 h4 h5 h6) (fun q => kf q p e s m args below meth c C H locs cells slots ls h1 h2 h3 h4 h5 h6)
theorem wf_icmp_le {x y : Int32} {off : Int} (tgt : Nat) (hd : decode M.2.1 pc = .ok (.if_icmp .le off, 3)) (ht : (pc : Int) + off = (tgt : Int)) (kt : x ≤ y → Wf l E n0 M d mc ms Q bk bn tgt L st nx t r i g) (kf : ¬ x ≤ y → Wf l E n0 M d mc ms Q bk bn (pc + 3) L st nx t r i g) : Wf l E n0 M d mc ms Q bk bn pc L (.int y :: .int x :: st) nx t r i g :=
  fun p e s m args below meth c C H locs cells slots ls h1 h2 h3 h4 h5 h6 => lv_icmp_le C.1 C.2.1 hd ht (fun q => kt q p e s m args below meth c C H locs cells slots ls h1 h2 h3 h4 h5 h6) (fun q => kf q p e s m args below meth c C H locs cells slots ls h1 h2 h3 h4 h5 h6)
theorem wf_goto {off : Int} (tgt : Nat) (hd : decode M.2.1 pc = .ok (.goto off, 3)) (ht : (pc : Int) + off = (tgt : Int)) (k : Wf l E n0 M d mc ms Q bk bn tgt L st nx t r i g) : Wf l E n0 M d mc ms Q bk bn pc L st nx t r i g :=
  fun p e s m args below meth c C H locs cells slots ls h1 h2 h3 h4 h5 h6 => lv_goto C.1 C.2.1 hd ht (k p e s m args below meth c C H locs cells slots ls h1 h2 h3 h4 h5 h6)
theorem wf_lookup {dflt : Int} {ps : Array (Int × Int)} {len : Nat} {x : Int32} {off : Int} (tgt : Nat) (hd : decode M.2.1 pc = .ok (.lookupswitch dflt ps, len)) (hp : (ps.toList.zip (ps.toList.drop 1)).all (fun (a, next) => a.1 < next.1) = true) (ho : Op.lookupswitch.offset ps.toList dflt x.toInt = off) (ht : (pc : Int) + off = (tgt : Int)) (k : Wf l E n0 M d mc ms Q bk bn tgt L st nx t r i g) : Wf l E n0 M d mc ms Q bk bn pc L (.int x :: st) nx t r i g :=
  fun p e s m args below meth c C H locs cells slots ls h1 h2 h3 h4 h5 h6 => lv_lookup C.1 C.2.1 hd hp ho ht (k p e s m args below meth c C H locs cells slots ls h1 h2 h3 h4 h5 h6)
theorem wf_tableOut {dflt lo hi : Int} {offs : Array Int} {len : Nat} {x : Int32} (tgt : Nat) (hd : decode M.2.1 pc = .ok (.tableswitch dflt lo hi offs, len)) (h : x.toInt < lo ∨ hi < x.toInt) (ht : (pc : Int) + dflt = (tgt : Int)) (k : Wf l E n0 M d mc ms Q bk bn tgt L st nx t r i g) : Wf l E n0 M d mc ms Q bk bn pc L (.int x :: st) nx t r i g :=
  fun p e s m args below meth c C H locs cells slots ls h1 h2 h3 h4 h5 h6 => lv_tableOut C.1 C.2.1 hd h ht (k p e s m args below meth c C H locs cells slots ls h1 h2 h3 h4 h5 h6)
theorem wf_tableIn {dflt lo hi : Int} {offs : Array Int} {len : Nat} {x : Int32} {off : Int} (tgt : Nat) (hd : decode M.2.1 pc = .ok (.tableswitch dflt lo hi offs, len)) (a1 : ¬ x.toInt < lo) (a2 : ¬ hi < x.toInt) (ho : offs[(x.toInt - lo).toNat]? = some off) (ht : (pc : Int) + off = (tgt : Int)) (k : Wf l E n0 M d mc ms Q bk bn tgt L st nx t r i g) : Wf l E n0 M d mc ms Q bk bn pc L (.int x :: st) nx t r i g :=
  fun p e s m args below meth c C H locs cells slots ls h1 h2 h3 h4 h5 h6 => lv_tableIn C.1 C.2.1 hd a1 a2 ho ht (k p e s m args below meth c C H locs cells slots ls h1 h2 h3 h4 h5 h6)
theorem wf_ldc {index : Nat} (v : Int32) (hd : decode M.2.1 pc = .ok (.ldc index, 2)) (hc : Cond.constant M.1.cls index v ∈ wl_ALL) (k : Wf l E n0 M d mc ms Q bk bn (pc + 2) L (.int v :: st) nx t r i g) : Wf l E n0 M d mc ms Q bk bn pc L st nx t r i g :=
  fun p e s m args below meth c C H locs cells slots ls h1 h2 h3 h4 h5 h6 => lv_ldc C.1 C.2.1 C.2.2.2.2.1 (C.2.2.2.2.2.1 _ hc) hd (k p e s m args below meth c C H locs cells slots ls h1 h2 h3 h4 h5 h6)
theorem wf_ldc2 {index : Nat} (v : Int64) (hd : decode M.2.1 pc = .ok (.ldc2_w index, 3)) (hc : Cond.constantLong M.1.cls index v ∈ wl_ALL) (k : Wf l E n0 M d mc ms Q bk bn (pc + 3) L (.long v :: st) nx t r i g) : Wf l E n0 M d mc ms Q bk bn pc L st nx t r i g :=
  fun p e s m args below meth c C H locs cells slots ls h1 h2 h3 h4 h5 h6 => lv_ldc2 C.1 C.2.1 C.2.2.2.2.1 (C.2.2.2.2.2.1 _ hc) hd (k p e s m args below meth c C H locs cells slots ls h1 h2 h3 h4 h5 h6)
end WfRows
end
section
/-! rows that read and write cells, and make them -/
/-- pool entry idx of class own is field k of class c -/
def wf_fl (own : String) (idx c k : Nat) : Prop := ∃ q : vw_C, wl_CL[c]? = some q ∧ k < q.2.2 ∧ Cond.fieldLink own idx (q.2.1 k).1 (q.2.1 k).2.1 (q.2.1 k).2.2.1 ∈ wl_ALL
/-- field k of class c isn't final -/
def wf_nf (c k : Nat) : Prop := ∃ q : vw_C, wl_CL[c]? = some q ∧ (q.2.1 k).2.2.2 = false
/-- field k of class c is final, and declared by own -/
def wf_fi (own : String) (c k : Nat) : Prop := ∃ q : vw_C, wl_CL[c]? = some q ∧ (q.2.1 k).2.2.2 = true ∧ (q.2.1 k).1 = own
/-- no float, no double -/
def wf_dk : FieldType → Bool
  | .float => false
  | .double => false
  | _ => true
theorem wf_default {y : FieldType} {r : Wr} {i : Wi} {g : Wl} {a k : Nat} (hf : wf_dk y = true) (h : r a k = none ∧ i a k = 0 ∧ g a k = 0) : defaultValue y = wf_v y r i g a k := by
  obtain ⟨h1, h2, h3⟩ := h
  cases y <;> first | (simp [wf_v, wf_kd, h1, h2, h3, defaultValue, va_rf]; done) | (simp [wf_dk] at hf)
/-- pool entry idx of class own is class c, of N slots, which can be made -/
def wf_nw (own : String) (idx c N : Nat) : Prop := ∃ q : vw_C, wl_CL[c]? = some q ∧ q.2.2 = N ∧ Cond.classLink own idx q.1 ∈ wl_ALL ∧ Cond.instantiable q.1 N ∈ wl_ALL ∧ Cond.initialized q.1 ∈ wl_ALL ∧ ∀ k, k < N → wf_dk (wl_TY c k) = true
section WfHeap
variable {l : Launch} {E : We} {n0 : Nat} {M : Wm} {d mc ms : Nat} {Q : Wq} {bk bn pc : Nat} {L : List (Nat × Value)} {st : List Value} {nx : Nat} {t : Wt} {r : Wr} {i : Wi} {g : Wl}
theorem wf_getv {idx c k a : Nat} {v : Value} (hd : decode M.2.1 pc = .ok (.getfield idx, 3)) (hf : wf_fl M.1.cls idx c k) (ht : t a = some (.inl c)) (hv : wf_v (wl_TY c k) r i g a k = v) (kk : Wf l E n0 M d mc ms Q bk bn (pc + 3) L (v :: st) nx t r i g) : Wf l E n0 M d mc ms Q bk bn pc L (.ref a :: st) nx t r i g := by
  intro p e s m args below meth cd C H locs cells slots ls h1 h2 h3 h4 h5 h6
  obtain ⟨q, hq, hk, hl⟩ := hf
  obtain ⟨q', hq', cell, q1, q2, q3, q4⟩ := (h3.2.2.1 a).o ht
  obtain rfl : q' = q := Option.some.inj (hq'.symm.trans hq)
  obtain ⟨hin, hty, hnm⟩ := wl_ok c _ hq
  obtain ⟨hS, hfc, kC, hkC, hkind⟩ := C.2.2.2.2.2.2.2.2.1.1 c _ hq
  obtain ⟨cf, kf, fi, f, hi, hsl⟩ := hS k hk
  refine W.getf C.1 C.2.1 C.2.2.2.2.1 (C.2.2.2.2.2.1 _ hl) hi (u_facts hfc hkC (u_lays C.2.2.2.2.2.1 hin hk) hi).1 q1 (by rw [q3]; exact fun h => by cases h) (v := v) ?_ rfl rfl hd (kk p e s m args below meth cd C H locs cells slots ls h1 h2 h3 h4 h5 h6)
  rw [hsl, q4 k hk]
  exact congrArg some hv
theorem wf_geti {idx c k a : Nat} (hd : decode M.2.1 pc = .ok (.getfield idx, 3)) (hf : wf_fl M.1.cls idx c k) (hy : wf_kd (wl_TY c k) = 0) (ht : t a = some (.inl c)) (kk : Wf l E n0 M d mc ms Q bk bn (pc + 3) L (.int (i a k) :: st) nx t r i g) : Wf l E n0 M d mc ms Q bk bn pc L (.ref a :: st) nx t r i g := wf_getv hd hf ht (wf_v_i hy) kk
theorem wf_getl {idx c k a : Nat} (hd : decode M.2.1 pc = .ok (.getfield idx, 3)) (hf : wf_fl M.1.cls idx c k) (hy : wf_kd (wl_TY c k) = 1) (ht : t a = some (.inl c)) (kk : Wf l E n0 M d mc ms Q bk bn (pc + 3) L (.long (g a k) :: st) nx t r i g) : Wf l E n0 M d mc ms Q bk bn pc L (.ref a :: st) nx t r i g := wf_getv hd hf ht (wf_v_l hy) kk
theorem wf_getr {idx c k a b : Nat} (hd : decode M.2.1 pc = .ok (.getfield idx, 3)) (hf : wf_fl M.1.cls idx c k) (hy : wf_kd (wl_TY c k) = 2) (ht : t a = some (.inl c)) (hr : r a k = some b) (kk : Wf l E n0 M d mc ms Q bk bn (pc + 3) L (.ref b :: st) nx t r i g) : Wf l E n0 M d mc ms Q bk bn pc L (.ref a :: st) nx t r i g := wf_getv hd hf ht ((wf_v_r hy).trans (by rw [hr]; rfl)) kk
/-- a field is written: the maps behind it are r', i', g' -/
theorem wf_putv {idx c k a : Nat} {v : Value} {r' : Wr} {i' : Wi} {g' : Wl} (hd : decode M.2.1 pc = .ok (.putfield idx, 3)) (hf : wf_fl M.1.cls idx c k) (hw : wf_nf c k ∨ (wf_fi M.1.cls c k ∧ M.1.name = "<init>")) (ht : t a = some (.inl c)) (hn : narrow (wl_TY c k) v = v) (hfit : fits (wl_TY c k) v = true)
    (hv : wf_v (wl_TY c k) r' i' g' a k = v) (ho : ∀ b j, (b ≠ a ∨ j ≠ k) → r' b j = r b j ∧ i' b j = i b j ∧ g' b j = g b j) (kk : Wf l E n0 M d mc ms Q bk bn (pc + 3) L st nx t r' i' g') : Wf l E n0 M d mc ms Q bk bn pc L (v :: .ref a :: st) nx t r i g := by
  intro p e s m args below meth cd C H locs cells slots ls h1 h2 h3 h4 h5 h6
  obtain ⟨q, hq, hk, hl⟩ := hf
  obtain ⟨q', hq', cell, q1, q2, q3, q4⟩ := (h3.2.2.1 a).o ht
  obtain rfl : q' = q := Option.some.inj (hq'.symm.trans hq)
  obtain ⟨hin, hty, hnm⟩ := wl_ok c _ hq
  have hKv : va_K (E.1, E.2.1) wl_CL [] s := ⟨C.2.2.2.2.2.2.2.2.1.1, fun k z hz => by cases hz⟩
  have hap := va_apart (own := M.1.cls) (D := (E.1, E.2.1)) (cl := wl_CL) (tys := []) C.2.2.2.2.2.1 hin (wl_TY c) hty hnm hKv hq
  obtain ⟨hS, hfc, kC, hkC, hkind⟩ := C.2.2.2.2.2.2.2.2.1.1 c _ hq
  obtain ⟨cf, kf, fi, f, hi, hsl⟩ := hS k hk
  have hst := (u_facts hfc hkC (u_lays C.2.2.2.2.2.1 hin hk) hi).1
  have hlt : f.slot < cell.slots.size := by rw [hsl]; exact k2_hasslot (q4 k hk)
  have hn0 : n0 ≤ a := (h3.2.2.2.1 a _ ht).resolve_right (fun ⟨n, z⟩ => by cases z)
  have hend : ∀ H' : Heap, H'[a]? = some (cell.setSlot f.slot v) → H'.size = H.size → (∀ q, q ≠ a → H'[q]? = H[q]?) → W p l e (wf_rm d mc ms) s m args below meth cd H' (locs ++ [⟨a, f.slot⟩]) cells slots (wf_Z E n0 mc ms Q below args s) { F0 m pc ls (v :: .ref a :: st) with pc := pc + 3, stack := st } := by
    intro H' e1 e2 e3
    rw [hsl] at e1
    refine kk p e s m args below meth cd C H' _ cells slots ls h1 h2 (h3.put e2 e3 ht (wf_A.io ht ⟨_, hq, t_OB.to (V := updV (fun k => wf_v (wl_TY c k) r i g a k) k v) ⟨_, e1, q2, q3, t_set q4 hap hk v⟩ (fun j _ => ?_)⟩) (fun b hb j => ho b j (Or.inl hb))) (fun x hx => (e3 x (Nat.ne_of_lt (Nat.lt_of_lt_of_le hx hn0))).trans (h4 x hx)) (fun x hx => ?_) h6
    · by_cases hj : j = k
      · subst hj
        simp only [updV, if_pos]
        exact hv.symm
      · simp only [updV, if_neg hj]
        exact (wf_v_c (ho a j (Or.inr hj)).1 (ho a j (Or.inr hj)).2.1 (ho a j (Or.inr hj)).2.2).symm
    · rcases List.mem_append.mp hx with hx | hx
      · exact h5 x hx
      · rw [List.mem_singleton.mp hx]; exact hn0
  have hlay := C.2.2.2.2.2.1 _ (hin _ (u_in_lay hk))
  rcases hw with ⟨q2', hq2, hfin⟩ | ⟨⟨q2', hq2, hfin, hdecl⟩, hin2⟩
  · obtain rfl := Option.some.inj (hq2.symm.trans hq)
    unfold u_lay at hlay
    rw [if_neg (by rw [hfin]; decide)] at hlay
    have h6' := u_store hfc hkC hkind hlay hi (hty k hk) hn hfit
    exact W.putK C.1 C.2.1 (f := f) ⟨C.2.2.2.2.1, C.2.2.2.2.2.1 _ hl, ⟨_, _, _, hi⟩, hst⟩ (by rw [q2]; exact h6') q1 q3 hlt rfl rfl hd hend
  · obtain rfl := Option.some.inj (hq2.symm.trans hq)
    unfold u_lay at hlay
    rw [if_pos hfin] at hlay
    have hcf : m.cls = cf := by
      obtain ⟨_, _, c', _, _, _, -, -, hf', -, -, -, hown2, -⟩ := Cond.laysFinal_spec hlay
      have e1 : c' = cf := by have := hi.symm.trans hf'; simp at this; exact this.1.symm
      rw [hdecl] at hown2
      rw [← e1]; exact Option.some.inj (C.2.2.2.2.1.symm.trans hown2)
    have h6' := u_fits hfc hkC hkind (Or.inr hlay) hi (hty k hk) hn hfit
    exact W.putFinK C.1 C.2.1 C.2.2.2.2.1 (C.2.2.2.2.2.1 _ hl) hi hst hcf (C.2.2.2.2.2.2.2.1.1.trans hin2) (by rw [q2]; exact h6') q1 q3 hlt rfl rfl hd hend
theorem wf_up_o {α : Type} {f : Nat → Nat → α} {a k : Nat} {v : α} {b j : Nat} (h : b ≠ a ∨ j ≠ k) : wf_up f a k v b j = f b j := h.elim wf_up_a wf_up_k
theorem wf_puti {idx c k a : Nat} {x : Int32} (hd : decode M.2.1 pc = .ok (.putfield idx, 3)) (hf : wf_fl M.1.cls idx c k) (hw : wf_nf c k ∨ (wf_fi M.1.cls c k ∧ M.1.name = "<init>")) (hy : wf_kd (wl_TY c k) = 0) (hn : narrow (wl_TY c k) (.int x) = .int x) (hfit : fits (wl_TY c k) (.int x) = true) (ht : t a = some (.inl c)) (kk : Wf l E n0 M d mc ms Q bk bn (pc + 3) L st nx t r (wf_up i a k x) g) : Wf l E n0 M d mc ms Q bk bn pc L (.int x :: .ref a :: st) nx t r i g :=
  wf_putv hd hf hw ht hn hfit ((wf_v_i hy).trans (by rw [wf_up_s])) (fun b j h => ⟨rfl, wf_up_o h, rfl⟩) kk
theorem wf_putl {idx c k a : Nat} {x : Int64} (hd : decode M.2.1 pc = .ok (.putfield idx, 3)) (hf : wf_fl M.1.cls idx c k) (hw : wf_nf c k ∨ (wf_fi M.1.cls c k ∧ M.1.name = "<init>")) (hy : wf_kd (wl_TY c k) = 1) (hn : narrow (wl_TY c k) (.long x) = .long x) (hfit : fits (wl_TY c k) (.long x) = true) (ht : t a = some (.inl c)) (kk : Wf l E n0 M d mc ms Q bk bn (pc + 3) L st nx t r i (wf_up g a k x)) : Wf l E n0 M d mc ms Q bk bn pc L (.long x :: .ref a :: st) nx t r i g :=
  wf_putv hd hf hw ht hn hfit ((wf_v_l hy).trans (by rw [wf_up_s])) (fun b j h => ⟨rfl, rfl, wf_up_o h⟩) kk
theorem wf_putr {idx c k a x : Nat} (hd : decode M.2.1 pc = .ok (.putfield idx, 3)) (hf : wf_fl M.1.cls idx c k) (hw : wf_nf c k ∨ (wf_fi M.1.cls c k ∧ M.1.name = "<init>")) (hy : wf_kd (wl_TY c k) = 2) (hn : narrow (wl_TY c k) (.ref x) = .ref x) (hfit : fits (wl_TY c k) (.ref x) = true) (ht : t a = some (.inl c)) (kk : Wf l E n0 M d mc ms Q bk bn (pc + 3) L st nx t (wf_up r a k (some x)) i g) : Wf l E n0 M d mc ms Q bk bn pc L (.ref x :: .ref a :: st) nx t r i g :=
  wf_putv hd hf hw ht hn hfit ((wf_v_r hy).trans (by rw [wf_up_s]; rfl)) (fun b j h => ⟨wf_up_o h, rfl, rfl⟩) kk
/-! arrays -/
theorem wf_iaload {a y n : Nat} {j : Int32} (hd : decode M.2.1 pc = .ok (.iaload, 1)) (hy : wl_AT y = .int) (ht : t a = some (.inr (y, n))) (hin : vp_in j n) (kk : Wf l E n0 M d mc ms Q bk bn (pc + 1) L (.int (i a j.toNatClampNeg) :: st) nx t r i g) : Wf l E n0 M d mc ms Q bk bn pc L (.int j :: .ref a :: st) nx t r i g := by
  intro p e s m args below meth cd C H locs cells slots ls h1 h2 h3 h4 h5 h6
  obtain ⟨hyN, ce, hc, hce⟩ := (h3.2.2.1 a).w ht
  obtain ⟨c1, c2, c3, c4⟩ := hce.r
  have hlt : j.toNatClampNeg < n := Nat.not_le.mp fun q => hin (Or.inr q)
  have harr : s.isArrayOf ce (wl_AT y) := ⟨c3, by rw [c1]; exact ((C.2.2.2.2.2.2.2.2.1.2.1 y hyN).1 n (fun j => wf_v (wl_AT y) r i g a j)).2⟩
  rw [hy] at harr c4
  exact W.iald (v := .int (i a j.toNatClampNeg)) C.1 C.2.1 hc harr c2 (by rw [c4, arrV_size]; exact hin) (by rw [c4, arrV_read _ _ hlt]; rfl) rfl rfl hd (kk p e s m args below meth cd C H locs cells slots ls h1 h2 h3 h4 h5 h6)
theorem wf_zaload {a y n : Nat} {j : Int32} (hd : decode M.2.1 pc = .ok (.baload, 1)) (hy : wl_AT y = .boolean) (ht : t a = some (.inr (y, n))) (hin : vp_in j n) (kk : Wf l E n0 M d mc ms Q bk bn (pc + 1) L (.int (i a j.toNatClampNeg) :: st) nx t r i g) : Wf l E n0 M d mc ms Q bk bn pc L (.int j :: .ref a :: st) nx t r i g := by
  intro p e s m args below meth cd C H locs cells slots ls h1 h2 h3 h4 h5 h6
  obtain ⟨hyN, ce, hc, hce⟩ := (h3.2.2.1 a).w ht
  obtain ⟨c1, c2, c3, c4⟩ := hce.r
  have hlt : j.toNatClampNeg < n := Nat.not_le.mp fun q => hin (Or.inr q)
  have harr : s.isArrayOf ce (wl_AT y) := ⟨c3, by rw [c1]; exact ((C.2.2.2.2.2.2.2.2.1.2.1 y hyN).1 n (fun j => wf_v (wl_AT y) r i g a j)).2⟩
  rw [hy] at harr c4
  exact W.zald (v := .int (i a j.toNatClampNeg)) C.1 C.2.1 hc harr c2 (by rw [c4, arrV_size]; exact hin) (by rw [c4, arrV_read _ _ hlt]; rfl) rfl rfl hd (kk p e s m args below meth cd C H locs cells slots ls h1 h2 h3 h4 h5 h6)
theorem wf_laload {a y n : Nat} {j : Int32} (hd : decode M.2.1 pc = .ok (.laload, 1)) (hy : wl_AT y = .long) (ht : t a = some (.inr (y, n))) (hin : vp_in j n) (kk : Wf l E n0 M d mc ms Q bk bn (pc + 1) L (.long (g a j.toNatClampNeg) :: st) nx t r i g) : Wf l E n0 M d mc ms Q bk bn pc L (.int j :: .ref a :: st) nx t r i g := by
  intro p e s m args below meth cd C H locs cells slots ls h1 h2 h3 h4 h5 h6
  obtain ⟨hyN, ce, hc, hce⟩ := (h3.2.2.1 a).w ht
  obtain ⟨c1, c2, c3, c4⟩ := hce.r
  have hlt : j.toNatClampNeg < n := Nat.not_le.mp fun q => hin (Or.inr q)
  have harr : s.isArrayOf ce (wl_AT y) := ⟨c3, by rw [c1]; exact ((C.2.2.2.2.2.2.2.2.1.2.1 y hyN).1 n (fun j => wf_v (wl_AT y) r i g a j)).2⟩
  rw [hy] at harr c4
  exact W.lald (v := .long (g a j.toNatClampNeg)) C.1 C.2.1 hc harr c2 (by rw [c4, arrV_size]; exact hin) (by rw [c4, arrV_read _ _ hlt]; rfl) rfl rfl hd (kk p e s m args below meth cd C H locs cells slots ls h1 h2 h3 h4 h5 h6)
theorem wf_aaload {a y n b : Nat} {j : Int32} (hd : decode M.2.1 pc = .ok (.aaload, 1)) (hy : (wl_AT y).isReference = true) (hk : wf_kd (wl_AT y) = 2) (ht : t a = some (.inr (y, n))) (hin : vp_in j n) (hr : r a j.toNatClampNeg = some b) (kk : Wf l E n0 M d mc ms Q bk bn (pc + 1) L (.ref b :: st) nx t r i g) : Wf l E n0 M d mc ms Q bk bn pc L (.int j :: .ref a :: st) nx t r i g := by
  intro p e s m args below meth cd C H locs cells slots ls h1 h2 h3 h4 h5 h6
  obtain ⟨hyN, ce, hc, hce⟩ := (h3.2.2.1 a).w ht
  obtain ⟨c1, c2, c3, c4⟩ := hce.r
  have hlt : j.toNatClampNeg < n := Nat.not_le.mp fun q => hin (Or.inr q)
  have harr : s.isArrayOf ce (wl_AT y) := ⟨c3, by rw [c1]; exact ((C.2.2.2.2.2.2.2.2.1.2.1 y hyN).1 n (fun j => wf_v (wl_AT y) r i g a j)).2⟩
  exact W.aald (v := .ref b) (ty := wl_AT y) C.1 C.2.1 hc harr hy c2 (by rw [c4, arrV_size]; exact hin) (by rw [c4, arrV_read _ _ hlt, wf_v_r hk, hr]; rfl) rfl rfl hd (kk p e s m args below meth cd C H locs cells slots ls h1 h2 h3 h4 h5 h6)
theorem wf_alen {a y n : Nat} (hd : decode M.2.1 pc = .ok (.arraylength, 1)) (ht : t a = some (.inr (y, n))) (kk : Wf l E n0 M d mc ms Q bk bn (pc + 1) L (.int (nI n) :: st) nx t r i g) : Wf l E n0 M d mc ms Q bk bn pc L (.ref a :: st) nx t r i g := by
  intro p e s m args below meth cd C H locs cells slots ls h1 h2 h3 h4 h5 h6
  obtain ⟨hyN, ce, hc, hce⟩ := (h3.2.2.1 a).w ht
  obtain ⟨c1, c2, c3, c4⟩ := hce.r
  have harr : s.isArrayOf ce (wl_AT y) := ⟨c3, by rw [c1]; exact ((C.2.2.2.2.2.2.2.2.1.2.1 y hyN).1 n (fun j => wf_v (wl_AT y) r i g a j)).2⟩
  exact W.alen (n := nI n) C.1 C.2.1 hc harr (by rw [c4, arrV_size]; rfl) rfl rfl hd (kk p e s m args below meth cd C H locs cells slots ls h1 h2 h3 h4 h5 h6)
/-- behind a store into an array -/
theorem wf_stored {a y n j : Nat} {v : Value} {r' : Wr} {i' : Wi} {g' : Wl} {H H1 : Heap} (h3 : wf_R E n0 nx t r i g H) (hs : y ≠ wl_AS) (ht : t a = some (.inr (y, n))) (e1 : H1[a]? = some ((arrV (E.2.2 y) n (fun j => wf_v (wl_AT y) r i g a j)).setSlot j v)) (e2 : H1.size = H.size) (e3 : ∀ q, q ≠ a → H1[q]? = H[q]?)
    (hv : wf_v (wl_AT y) r' i' g' a j = v) (ho : ∀ b k, (b ≠ a ∨ k ≠ j) → r' b k = r b k ∧ i' b k = i b k ∧ g' b k = g b k) : wf_R E n0 nx t r' i' g' H1 := by
  refine h3.put e2 e3 ht (wf_A.ia hs ht ⟨((h3.2.2.1 a).a ht hs).1, ?_⟩) (fun b hb k => ho b k (Or.inl hb))
  rw [e1, arrV_store]
  congr 2
  funext k
  by_cases hk : k = j
  · subst hk
    simp only [updV, if_pos]
    exact hv.symm
  · simp only [updV, if_neg hk]
    exact (wf_v_c (ho a k (Or.inr hk)).1 (ho a k (Or.inr hk)).2.1 (ho a k (Or.inr hk)).2.2).symm
theorem wf_own {a y n : Nat} {H : Heap} (h3 : wf_R E n0 nx t r i g H) (ht : t a = some (.inr (y, n))) (hs : y ≠ wl_AS) : n0 ≤ a := (h3.2.2.2.1 a _ ht).resolve_right (fun ⟨m, z⟩ => hs (by cases z; rfl))
theorem wf_locs {locs : List Loc} {a k : Nat} (h : ∀ q ∈ locs, n0 ≤ q.base) (ha : n0 ≤ a) : ∀ q ∈ locs ++ [(⟨a, k⟩ : Loc)], n0 ≤ q.base := fun x hx => by
  rcases List.mem_append.mp hx with hx | hx
  · exact h x hx
  · rw [List.mem_singleton.mp hx]; exact ha
theorem wf_iastore {a y n : Nat} {j x : Int32} (hd : decode M.2.1 pc = .ok (.iastore, 1)) (hy : wl_AT y = .int) (hs : y ≠ wl_AS) (ht : t a = some (.inr (y, n))) (hin : vp_in j n) (kk : Wf l E n0 M d mc ms Q bk bn (pc + 1) L st nx t r (wf_up i a j.toNatClampNeg x) g) : Wf l E n0 M d mc ms Q bk bn pc L (.int x :: .int j :: .ref a :: st) nx t r i g := by
  intro p e s m args below meth cd C H locs cells slots ls h1 h2 h3 h4 h5 h6
  obtain ⟨hyN, hc⟩ := (h3.2.2.1 a).a ht hs
  have harr := (C.2.2.2.2.2.2.2.2.1.2.1 y hyN).1 n (fun j => wf_v (wl_AT y) r i g a j)
  rw [hy] at harr
  rw [← hy] at harr
  have hn0 := wf_own h3 ht hs
  exact W.iast C.1 C.2.1 hc (hy ▸ harr) (fun q => by cases q) (by rw [arrV_size]; exact hin) rfl rfl hd fun H1 e1 e2 e3 => kk p e s m args below meth cd C H1 _ cells slots ls h1 h2 (wf_stored h3 hs ht e1 e2 e3 ((wf_v_i (by rw [hy]; rfl)).trans (by rw [wf_up_s])) (fun b k h => ⟨rfl, wf_up_o h, rfl⟩)) (fun q hq => (e3 q (Nat.ne_of_lt (Nat.lt_of_lt_of_le hq hn0))).trans (h4 q hq)) (wf_locs h5 hn0) h6
theorem wf_zastore {a y n : Nat} {j x : Int32} (hd : decode M.2.1 pc = .ok (.bastore, 1)) (hy : wl_AT y = .boolean) (hs : y ≠ wl_AS) (hx : narrow .boolean (.int x) = .int x) (ht : t a = some (.inr (y, n))) (hin : vp_in j n) (kk : Wf l E n0 M d mc ms Q bk bn (pc + 1) L st nx t r (wf_up i a j.toNatClampNeg x) g) : Wf l E n0 M d mc ms Q bk bn pc L (.int x :: .int j :: .ref a :: st) nx t r i g := by
  intro p e s m args below meth cd C H locs cells slots ls h1 h2 h3 h4 h5 h6
  obtain ⟨hyN, hc⟩ := (h3.2.2.1 a).a ht hs
  have harr := (C.2.2.2.2.2.2.2.2.1.2.1 y hyN).1 n (fun j => wf_v (wl_AT y) r i g a j)
  have hn0 := wf_own h3 ht hs
  exact W.zast C.1 C.2.1 hc (hy ▸ harr) (fun q => by cases q) (by rw [arrV_size]; exact hin) rfl rfl hd fun H1 e1 e2 e3 => kk p e s m args below meth cd C H1 _ cells slots ls h1 h2 (wf_stored h3 hs ht e1 e2 e3 ((wf_v_i (by rw [hy]; rfl)).trans (by rw [wf_up_s, hx])) (fun b k h => ⟨rfl, wf_up_o h, rfl⟩)) (fun q hq => (e3 q (Nat.ne_of_lt (Nat.lt_of_lt_of_le hq hn0))).trans (h4 q hq)) (wf_locs h5 hn0) h6
theorem wf_lastore {a y n : Nat} {j : Int32} {x : Int64} (hd : decode M.2.1 pc = .ok (.lastore, 1)) (hy : wl_AT y = .long) (hs : y ≠ wl_AS) (ht : t a = some (.inr (y, n))) (hin : vp_in j n) (kk : Wf l E n0 M d mc ms Q bk bn (pc + 1) L st nx t r i (wf_up g a j.toNatClampNeg x)) : Wf l E n0 M d mc ms Q bk bn pc L (.long x :: .int j :: .ref a :: st) nx t r i g := by
  intro p e s m args below meth cd C H locs cells slots ls h1 h2 h3 h4 h5 h6
  obtain ⟨hyN, hc⟩ := (h3.2.2.1 a).a ht hs
  have harr := (C.2.2.2.2.2.2.2.2.1.2.1 y hyN).1 n (fun j => wf_v (wl_AT y) r i g a j)
  have hn0 := wf_own h3 ht hs
  exact W.last C.1 C.2.1 hc (hy ▸ harr) (fun q => by cases q) (by rw [arrV_size]; exact hin) rfl rfl hd fun H1 e1 e2 e3 => kk p e s m args below meth cd C H1 _ cells slots ls h1 h2 (wf_stored h3 hs ht e1 e2 e3 ((wf_v_l (by rw [hy]; rfl)).trans (by rw [wf_up_s])) (fun b k h => ⟨rfl, rfl, wf_up_o h⟩)) (fun q hq => (e3 q (Nat.ne_of_lt (Nat.lt_of_lt_of_le hq hn0))).trans (h4 q hq)) (wf_locs h5 hn0) h6
/-- an object of class c into an array of its class -/
theorem wf_aastore {a y n b c : Nat} {j : Int32} {C0 : String} (hd : decode M.2.1 pc = .ok (.aastore, 1)) (hy : wl_AT y = .object C0) (hc0 : ∃ q : vw_C, wl_CL[c]? = some q ∧ q.1 = C0) (hs : y ≠ wl_AS) (ht : t a = some (.inr (y, n))) (htb : t b = some (.inl c)) (hin : vp_in j n) (kk : Wf l E n0 M d mc ms Q bk bn (pc + 1) L st nx t (wf_up r a j.toNatClampNeg (some b)) i g) : Wf l E n0 M d mc ms Q bk bn pc L (.ref b :: .int j :: .ref a :: st) nx t r i g := by
  intro p e s m args below meth cd C H locs cells slots ls h1 h2 h3 h4 h5 h6
  obtain ⟨hyN, hc⟩ := (h3.2.2.1 a).a ht hs
  have hlt : j.toNatClampNeg < n := Nat.not_le.mp fun q => hin (Or.inr q)
  have h0 : ¬ j < 0 := fun q => hin (Or.inl q)
  obtain ⟨q, hq, rfl⟩ := hc0
  obtain ⟨q', hq', cellV, g1, g2, g3, -⟩ := (h3.2.2.1 b).o htb
  have hcls := (C.2.2.2.2.2.2.2.2.1.1 c _ hq).2
  have hRA := (C.2.2.2.2.2.2.2.2.1.2.1 y hyN).2 hs
  rw [hy] at hRA
  obtain ⟨kA, comp, k1, k2, k3, -⟩ := hRA
  have hcomp : comp = E.1 c := Option.some.inj (k3.symm.trans hcls.1)
  subst hcomp
  obtain ⟨kC, hkC, -⟩ := hcls.2
  have hn0 := wf_own h3 ht hs
  exact W.aast C.1 C.2.1 hc (fun q h => by cases h) (fun h => by cases h) k1 k2 rfl hkC ⟨h0, by rw [arrV_size]; exact hlt⟩ g1 (fun q h => by rw [g3] at h; cases h) (by rw [g2]; exact hkC) (by rw [g2]; exact va_assign hcls) rfl rfl hd fun H1 e1 e2 e3 => kk p e s m args below meth cd C H1 _ cells slots ls h1 h2 (wf_stored h3 hs ht e1 e2 e3 ((wf_v_r (by rw [hy]; rfl)).trans (by rw [wf_up_s]; rfl)) (fun b k h => ⟨wf_up_o h, rfl, rfl⟩)) (fun q hq => (e3 q (Nat.ne_of_lt (Nat.lt_of_lt_of_le hq hn0))).trans (h4 q hq)) (wf_locs h5 hn0) h6
/-! new cells -/
theorem wf_new {idx c N bk' bn' : Nat} (hd : decode M.2.1 pc = .ok (.new idx, 3)) (hc : wf_nw M.1.cls idx c N) (hk : bk' + 1 ≤ bk) (hn : bn' + N ≤ bn) (kk : t nx = none → (∀ k, r nx k = none ∧ i nx k = 0 ∧ g nx k = 0) → Wf l E n0 M d mc ms Q bk' bn' (pc + 3) L (.ref nx :: st) (nx + 1) (wf_up1 t nx (some (.inl c))) r i g) : Wf l E n0 M d mc ms Q bk bn pc L st nx t r i g := by
  intro p e s m args below meth cd C H locs cells slots ls h1 h2 h3 h4 h5 h6
  obtain ⟨q, hq, rfl, hcl, hins, hini, hdk⟩ := hc
  obtain ⟨hin, hty, hnm⟩ := wl_ok c _ hq
  have hKn := C.2.2.2.2.2.2.2.2.1.1 c _ hq
  obtain ⟨f1, f2⟩ := h3.2.2.2.2 nx (Nat.le_refl _)
  refine W.newcK C.1 C.2.1 C.2.2.2.2.1 (C.2.2.2.2.2.1 _ hcl) (C.2.2.2.2.2.1 _ hins) (C.2.2.2.2.2.1 _ hini) rfl hd (show cells + 1 ≤ mc by omega) (show slots + q.2.2 ≤ ms by omega) hKn.2.1 h3.1 fun H1 kC hkC e1 z1 o1 => ?_
  refine kk f1 f2 p e s m args below meth cd C H1 locs (cells + 1) (slots + q.2.2) ls (by omega) (by omega) (h3.new z1 o1 (wf_A.io wf_up1_s ⟨q, hq, (u_born (wl_TY c) C.2.2.2.2.2.1 hin hKn hkC e1 hty).to (fun k hk => wf_default (hdk k hk) (f2 k))⟩)) (fun x hx => (o1 x (Nat.lt_of_lt_of_le hx h3.2.1)).trans (h4 x hx)) h5 h6
theorem wf_newarr {y N bk' bn' : Nat} {at_ : ArrayType} {n : Int32} (hd : decode M.2.1 pc = .ok (.newarray at_, 2)) (hy : wl_AT y = newarray.typeOf at_) (hyS : y < wl_AS) (ha : Cond.arrayClass (newarray.typeOf at_) ∈ wl_ALL) (hra : ∀ U : State, va_RA U (E.2.2 y) (newarray.typeOf at_) → U.vm.findClass ("[" ++ (newarray.typeOf at_).toString) = some (E.2.2 y)) (hdk : wf_dk (wl_AT y) = true)
    (hn0 : ¬ n < 0) (hN : n.toNatClampNeg = N) (hbytes : N * componentBytes (newarray.typeOf at_) ≤ 536870912) (hk : bk' + 1 ≤ bk) (hn : bn' + N ≤ bn) (kk : t nx = none → (∀ k, r nx k = none ∧ i nx k = 0 ∧ g nx k = 0) → Wf l E n0 M d mc ms Q bk' bn' (pc + 2) L (.ref nx :: st) (nx + 1) (wf_up1 t nx (some (.inr (y, N)))) r i g) : Wf l E n0 M d mc ms Q bk bn pc L (.int n :: st) nx t r i g := by
  intro p e s m args below meth cd C H locs cells slots ls h1 h2 h3 h4 h5 h6
  obtain ⟨f1, f2⟩ := h3.2.2.2.2 nx (Nat.le_refl _)
  subst hN
  have hs : y ≠ wl_AS := Nat.ne_of_lt hyS
  have hyN : y < wl_AN := Nat.lt_succ_of_lt hyS
  refine W.newa C.1 C.2.1 (C.2.2.2.2.2.1 _ ha) rfl hd rfl hn0 hbytes (show cells + 1 ≤ mc by omega) (show slots + n.toNatClampNeg ≤ ms by omega) fun cA kA comp a1 a2 a3 => ?_
  have hcA : cA = E.2.2 y := Option.some.inj (a1.symm.trans (hra s (hy ▸ (C.2.2.2.2.2.2.2.2.1.2.1 y hyN).2 hs)))
  have hz := h3.1
  subst hz
  generalize hH1 : H.push ({ cls := cA, slots := Array.replicate n.toNatClampNeg (defaultValue (newarray.typeOf at_)), vm := .none } : Cell) = H1
  have z1 : H1.size = H.size + 1 := by rw [← hH1, Array.size_push]
  have e1 : H1[H.size]? = some (arrV cA n.toNatClampNeg (fun _ => defaultValue (newarray.typeOf at_))) := by rw [← hH1, Array.getElem?_push_size, ← arrV_new]
  have o1 : ∀ q : Nat, q < H.size → H1[q]? = H[q]? := fun q hq => by rw [← hH1, Array.getElem?_push, if_neg (Nat.ne_of_lt hq)]
  refine kk f1 f2 p e s m args below meth cd C H1 locs (cells + 1) (slots + n.toNatClampNeg) ls (by omega) (by omega) (h3.new z1 o1 (wf_A.ia hs wf_up1_s ⟨hyN, ?_⟩)) (fun x hx => (o1 x (Nat.lt_of_lt_of_le hx h3.2.1)).trans (h4 x hx)) h5 h6
  rw [e1, hcA]
  congr 2
  funext k
  rw [← hy]
  exact wf_default hdk (f2 k)
theorem wf_anew {idx y N bk' bn' : Nat} {C0 : String} {n : Int32} (hd : decode M.2.1 pc = .ok (.anewarray idx, 3)) (hy : wl_AT y = .object C0) (hyS : y < wl_AS) (hcl : Cond.classLink M.1.cls idx C0 ∈ wl_ALL) (hov : C0 ∈ wl_OV)
    (hn0 : ¬ n < 0) (hN : n.toNatClampNeg = N) (hbytes : N * 4 ≤ 536870912) (hk : bk' + 1 ≤ bk) (hn : bn' + N ≤ bn) (kk : t nx = none → (∀ k, r nx k = none ∧ i nx k = 0 ∧ g nx k = 0) → Wf l E n0 M d mc ms Q bk' bn' (pc + 3) L (.ref nx :: st) (nx + 1) (wf_up1 t nx (some (.inr (y, N)))) r i g) : Wf l E n0 M d mc ms Q bk bn pc L (.int n :: st) nx t r i g := by
  intro p e s m args below meth cd C H locs cells slots ls h1 h2 h3 h4 h5 h6
  obtain ⟨f1, f2⟩ := h3.2.2.2.2 nx (Nat.le_refl _)
  subst hN
  have hs : y ≠ wl_AS := Nat.ne_of_lt hyS
  have hyN : y < wl_AN := Nat.lt_succ_of_lt hyS
  refine W.anew C.1 C.2.1 C.2.2.2.2.1 (C.2.2.2.2.2.1 _ hcl) (va_AO.use (C.2.2.2.2.2.2.2.2.1.2.2 C0 hov)) rfl hd rfl hn0 hbytes (show cells + 1 ≤ mc by omega) (show slots + n.toNatClampNeg ≤ ms by omega) fun cA kA comp a1 a2 a3 a4 => ?_
  have hRA := (C.2.2.2.2.2.2.2.2.1.2.1 y hyN).2 hs
  rw [hy] at hRA
  obtain ⟨kA', comp', -, -, -, b4⟩ := hRA
  have hcA : cA = E.2.2 y := Option.some.inj (a1.symm.trans b4)
  have hz := h3.1
  subst hz
  generalize hH1 : H.push ({ cls := cA, slots := Array.replicate n.toNatClampNeg .null, vm := .none } : Cell) = H1
  have z1 : H1.size = H.size + 1 := by rw [← hH1, Array.size_push]
  have e1 : H1[H.size]? = some (arrV cA n.toNatClampNeg (fun _ => .null)) := by rw [← hH1, Array.getElem?_push_size, ← arrV_new]
  have o1 : ∀ q : Nat, q < H.size → H1[q]? = H[q]? := fun q hq => by rw [← hH1, Array.getElem?_push, if_neg (Nat.ne_of_lt hq)]
  refine kk f1 f2 p e s m args below meth cd C H1 locs (cells + 1) (slots + n.toNatClampNeg) ls (by omega) (by omega) (h3.new z1 o1 (wf_A.ia hs wf_up1_s ⟨hyN, ?_⟩)) (fun x hx => (o1 x (Nat.lt_of_lt_of_le hx h3.2.1)).trans (h4 x hx)) h5 h6
  rw [e1, hcA, hy]
  congr 2
  funext k
  exact wf_default (y := .object C0) rfl (f2 k)
theorem wf_objinit {idx a : Nat} (hd : decode M.2.1 pc = .ok (.invokespecial idx, 3)) (hl : Cond.methodLink M.1.cls idx Lib.objectInit ∈ wl_ALL) (hin : Cond.instanceMethod Lib.objectInit ∈ wl_ALL) (hco : Cond.code Lib.objectInit ⟨#[0xb1]⟩ 1 none ∈ wl_ALL) (hrm : (st.map fun v => v.category).sum ≤ 8) (kk : Wf l E n0 M (d + 1) mc ms Q bk bn (pc + 3) L st nx t r i g) : Wf l E n0 M (d + 1) mc ms Q bk bn pc L (.ref a :: st) nx t r i g := by
  intro p e s m args below meth cd C H locs cells slots ls h1 h2 h3 h4 h5 h6
  refine W.objInit C.1 C.2.1 C.2.2.2.2.1 (C.2.2.2.2.2.1 _ hl) (C.2.2.2.2.2.1 _ hin) (C.2.2.2.2.2.1 _ hco) rfl (h6.1.trans C.2.2.1.symm) rfl hd (show 1 ≤ d + 1 by omega) ?_ (kk p e s m args below meth cd C H locs cells slots ls h1 h2 h3 h4 h5 h6)
  show 2 * 0 + _ + 12 ≤ 40 * (d + 1)
  omega
/-! calls -/
/-- what a callee's words are: its code, its class initialised, its arity -/
def wf_tg (M' : Wm) (n : Nat) : Prop := Cond.code M'.1 M'.2.1 M'.2.2.1 M'.2.2.2 ∈ wl_ALL ∧ Cond.initialized M'.1.cls ∈ wl_ALL ∧ (M'.1.cls ≠ "java/lang/invoke/MethodHandle" ∧ M'.1.cls ≠ "java/lang/invoke/VarHandle") ∧ (parseMethodDescriptor M'.1.desc).map (fun d => d.parameters.length) = some n ∧ M'.2.2.1 ≤ 21
theorem wf_CallB {p : Program} {s : State} {m : MethodId} {args : Array Value} {meth : Method} {cd : Code} {M' : Wm} {idx n mc' ms' : Nat} (C : wf_C E n0 M p s m args meth cd) (hT : wf_tg M' n) (hl : Cond.methodLink M.1.cls idx M'.1 ∈ wl_ALL) : CallB (wf_rm (d + 1) mc ms) s args M.1.cls idx M'.1 M'.2.1 M'.2.2.1 M'.2.2.2 (wf_ws M') (wf_rm d mc' ms') mc' ms' n := by
  obtain ⟨t1, t2, t3, t4, t5⟩ := hT
  refine ⟨rfl, rfl, Nat.le_refl _, ?_, fun w hw a' U hW => ?_, List.mem_cons_self, C.2.2.2.2.2.1 _ t1, C.2.2.2.2.2.1 _ t2, t3, fun sig h => ?_, C.2.2.2.2.2.1 _ hl⟩
  · show 8 + (M'.2.2.1 + 11) + 40 * d ≤ 40 * (d + 1)
    omega
  · rcases List.mem_cons.mp hw with rfl | hw
    · exact word_at hW (wl_good _ t1) (C.2.2.2.2.2.1 _ t1)
    · exact word_at hW (wl_good _ hw) (C.2.2.2.2.2.1 _ hw)
  · rw [h] at t4
    exact (Option.some.inj t4).symm
theorem wf_blind {av : List Value} : FrameBlind (wf_P E n0 av nx t r i g) := fun a U f mk q => by
  obtain ⟨q0, qR, qK, qJ⟩ := q
  exact ⟨q0, qR, wf_K.moved (u := U) (U := U.calling f mk a) (Vm.Alike.refl U.vm) qK, wl_J_moved (u := U) (U := U.calling f mk a) (State.WarmedH.refl U) (fun _ _ => rfl) qJ⟩
theorem wf_called {p : Program} {e : Env} {s : State} {m : MethodId} {args : Array Value} {below : List Frame} {meth : Method} {cd : Code} {mc' ms' bk' bn' : Nat} {Q' : Wq} {a : Array Value} {H : Heap} {locs : List Loc} {cells slots : Nat} {ls : Array Slot} {st0 : List Value} (C : wf_C E n0 M p s m args meth cd)
    (hr : CallRun p l e (wf_rm (d + 1) mc ms) s m args below meth cd H locs cells slots mc' ms' (F0 m pc ls st0) st (wf_Q E n0 Q' a) (fun q => n0 ≤ q)) (h1 : cells + bk ≤ mc) (h2 : slots + bn ≤ ms) (h4 : wf_O n0 s.heap H) (h5 : ∀ q ∈ locs, n0 ≤ q.base) (h6 : lv_has ls M.2.2.1 L) (hk : bk' + mc' ≤ bk) (hn : bn' + ms' ≤ bn)
    (kk : ∀ v nx t r i g, Q' (.inl v) nx t r i g → Wf l E n0 M (d + 1) mc ms Q bk' bn' (pc + 3) L (v.toList ++ st) nx t r i g) : W p l e (wf_rm (d + 1) mc ms) s m args below meth cd H locs cells slots (wf_Z E n0 mc ms Q below args s) (F0 m pc ls st0) := by
  intro T hT X
  obtain ⟨v, st₀, u, T', L', h0, X', hL, e1, ⟨vo, nx', t', r', i', g', b1, b2, b3, b4⟩, step⟩ := hr T hT X
  cases vo with
  | inr X => obtain ⟨_, _, b1, -⟩ := b1; cases b1
  | inl v' =>
    cases b1
    obtain ⟨t2, a1, a2⟩ := kk _ nx' t' r' i' g' b4 p e s m args below meth cd C T'.heap (locs ++ L') (cells + mc') (slots + ms') ls (by omega) (by omega) (by rw [e1]; exact b2) (fun q hq => by rw [e1, b3 q hq, h0]; exact h4 q hq) (fun q hq => by
      rcases List.mem_append.mp hq with h | h
      · exact h5 q h
      · exact hL q h) h6 T' rfl X'
    exact ⟨t2, step t2 a1, a2⟩
theorem wf_iv {M' : Wm} {idx b c mc' ms' bk' bn' : Nat} {As : List Value} {Q' : Wq} (hd : decode M.2.1 pc = .ok (.invokevirtual idx, 3)) (hT : wf_tg M' As.length) (hl : Cond.methodLink M.1.cls idx M'.1 ∈ wl_ALL) (hi : Cond.instanceMethod M'.1 ∈ wl_ALL) (hs : Cond.selects M'.1.cls M'.1 M'.1 ∈ wl_ALL) (hc : ∃ q : vw_C, wl_CL[c]? = some q ∧ q.1 = M'.1.cls) (hb : t b = some (.inl c)) (hrm : (st.map fun v => v.category).sum ≤ 8) (hk : bk' + mc' ≤ bk) (hn : bn' + ms' ≤ bn)
    (hC : Ct l E n0 M' d mc' ms' (.ref b :: As) nx t r i g Q') (hnt : ∀ X nx t r i g, ¬ Q' (.inr X) nx t r i g) (kk : ∀ v nx t r i g, Q' (.inl v) nx t r i g → Wf l E n0 M (d + 1) mc ms Q bk' bn' (pc + 3) L (v.toList ++ st) nx t r i g) : Wf l E n0 M (d + 1) mc ms Q bk bn pc L (As.reverse ++ .ref b :: st) nx t r i g := by
  intro p e s m args below meth cd C H locs cells slots ls h1 h2 h3 h4 h5 h6
  obtain ⟨q, hq, hqc⟩ := hc
  obtain ⟨q', hq', cell, q1, q2, q3, -⟩ := (h3.2.2.1 b).o hb
  have hcls := (C.2.2.2.2.2.2.2.2.1.1 c _ hq).2.1
  rw [hqc] at hcls
  refine wf_called C (W.runV (cc := M.2.1) (nL := M.2.2.1) (Ts := wl_ALL) (own := M.1.cls) (C := M'.1.cls) (n := As.length) ⟨C.1, C.2.1, C.2.2.1, C.2.2.2.2.1, C.2.2.2.2.2.1⟩ (hC.met hnt) ⟨wf_CallB C hT hl, C.2.2.2.2.2.1 _ hi, C.2.2.2.2.2.1 _ hs⟩ ⟨wf_blind, ⟨cell, q1, by rw [q3]; rfl, by rw [q2]; exact hcls⟩, fun U hU hW => ⟨rfl, by rw [hU]; exact h3, wf_K.moved hW.alike C.2.2.2.2.2.2.2.2.1, wl_J_moved hW (by rw [hU]; exact h4) C.2.2.2.2.2.2.2.2.2⟩⟩ rfl rfl h6.1 rfl (lv_room hrm) hd ⟨show cells + mc' ≤ mc by omega, show slots + ms' ≤ ms by omega⟩) h1 h2 h4 h5 h6 hk hn kk
theorem wf_is {M' : Wm} {idx mc' ms' bk' bn' : Nat} {As : List Value} {Q' : Wq} (hd : decode M.2.1 pc = .ok (.invokestatic idx, 3)) (hT : wf_tg M' As.length) (hl : Cond.methodLink M.1.cls idx M'.1 ∈ wl_ALL) (hs : Cond.static M'.1 ∈ wl_ALL) (hrm : (st.map fun v => v.category).sum ≤ 8) (hk : bk' + mc' ≤ bk) (hn : bn' + ms' ≤ bn)
    (hC : Ct l E n0 M' d mc' ms' As nx t r i g Q') (hnt : ∀ X nx t r i g, ¬ Q' (.inr X) nx t r i g) (kk : ∀ v nx t r i g, Q' (.inl v) nx t r i g → Wf l E n0 M (d + 1) mc ms Q bk' bn' (pc + 3) L (v.toList ++ st) nx t r i g) : Wf l E n0 M (d + 1) mc ms Q bk bn pc L (As.reverse ++ st) nx t r i g := by
  intro p e s m args below meth cd C H locs cells slots ls h1 h2 h3 h4 h5 h6
  refine wf_called C (W.runS (cc := M.2.1) (nL := M.2.2.1) (Ts := wl_ALL) (own := M.1.cls) (n := As.length) ⟨C.1, C.2.1, C.2.2.1, C.2.2.2.2.1, C.2.2.2.2.2.1⟩ (hC.met hnt) ⟨wf_CallB C hT hl, C.2.2.2.2.2.1 _ hs⟩ ⟨wf_blind, fun U hU hW => ⟨rfl, by rw [hU]; exact h3, wf_K.moved hW.alike C.2.2.2.2.2.2.2.2.1, wl_J_moved hW (by rw [hU]; exact h4) C.2.2.2.2.2.2.2.2.2⟩⟩ rfl rfl h6.1 rfl (lv_room hrm) hd ⟨show cells + mc' ≤ mc by omega, show slots + ms' ≤ ms by omega⟩) h1 h2 h4 h5 h6 hk hn kk
theorem wf_ii {y : MethodName} {cc : ByteArray} {nL idx b mc' ms' bk' bn' : Nat} {As : List Value} {Q' : Wq} (hd : decode M.2.1 pc = .ok (.invokespecial idx, 3)) (hT : wf_tg (y, cc, nL, none) As.length) (hl : Cond.methodLink M.1.cls idx y ∈ wl_ALL) (hi : Cond.instanceMethod y ∈ wl_ALL) (hy : y.name = "<init>") (hrm : (st.map fun v => v.category).sum ≤ 8) (hk : bk' + mc' ≤ bk) (hn : bn' + ms' ≤ bn)
    (hC : Ct l E n0 (y, cc, nL, none) d mc' ms' (.ref b :: As) nx t r i g Q') (hnt : ∀ X nx t r i g, ¬ Q' (.inr X) nx t r i g) (kk : ∀ v nx t r i g, Q' (.inl v) nx t r i g → Wf l E n0 M (d + 1) mc ms Q bk' bn' (pc + 3) L (v.toList ++ st) nx t r i g) : Wf l E n0 M (d + 1) mc ms Q bk bn pc L (As.reverse ++ .ref b :: st) nx t r i g := by
  intro p e s m args below meth cd C H locs cells slots ls h1 h2 h3 h4 h5 h6
  refine wf_called C (W.runI (cc := M.2.1) (nL := M.2.2.1) (Ts := wl_ALL) (own := M.1.cls) (n := As.length) ⟨C.1, C.2.1, C.2.2.1, C.2.2.2.2.1, C.2.2.2.2.2.1⟩ (hC.met hnt) ⟨wf_CallB (M' := (y, cc, nL, none)) C hT hl, hy, C.2.2.2.2.2.1 _ hi⟩ ⟨wf_blind, fun U hU hW => ⟨rfl, by rw [hU]; exact h3, wf_K.moved hW.alike C.2.2.2.2.2.2.2.2.1, wl_J_moved hW (by rw [hU]; exact h4) C.2.2.2.2.2.2.2.2.2⟩⟩ rfl rfl h6.1 rfl (lv_room hrm) hd ⟨show cells + mc' ≤ mc by omega, show slots + ms' ≤ ms by omega⟩) h1 h2 h4 h5 h6 hk hn kk
end WfHeap
end
