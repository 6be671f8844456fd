section
-- ===== PART A: goes FIRST, ahead of the names: the tables' words, and 'selects' of the private methods out of them =====
/-- a private method of a class that the tables say can be made, by its rows of tables_1 -/
def lw_okq (q : MethodName × Nat) : Prop := (q.1.cls ≠ "java/lang/invoke/MethodHandle" ∧ q.1.cls ≠ "java/lang/invoke/VarHandle") ∧ Cond.instantiable q.1.cls q.2 ∈ tables_1 ∧ Cond.privateMethod q.1 ∈ tables_1 ∧ Cond.instanceMethod q.1 ∈ tables_1
theorem lw_p0 : lw_okq (⟨"LineRules$CutLine", "addField", "(II)V"⟩, 5) := ⟨⟨by decide +kernel, by decide +kernel⟩, List.mem_of_getElem? (i := 133) (by decide +kernel), List.mem_of_getElem? (i := 305) (by decide +kernel), List.mem_of_getElem? (i := 306) (by decide +kernel)⟩
theorem lw_p1 : lw_okq (⟨"LineRules", "hasPattern", "(LLineRules$Rule;)Z"⟩, 14) := ⟨⟨by decide +kernel, by decide +kernel⟩, List.mem_of_getElem? (i := 20) (by decide +kernel), List.mem_of_getElem? (i := 314) (by decide +kernel), List.mem_of_getElem? (i := 315) (by decide +kernel)⟩
theorem lw_p2 : lw_okq (⟨"LineRules$Expression", "followersOf", "(J)J"⟩, 6) := ⟨⟨by decide +kernel, by decide +kernel⟩, List.mem_of_getElem? (i := 62) (by decide +kernel), List.mem_of_getElem? (i := 329) (by decide +kernel), List.mem_of_getElem? (i := 330) (by decide +kernel)⟩
theorem lw_p3 : lw_okq (⟨"LineRules", "doActions", "(LLineRules$Rule;)Z"⟩, 14) := ⟨⟨by decide +kernel, by decide +kernel⟩, List.mem_of_getElem? (i := 20) (by decide +kernel), List.mem_of_getElem? (i := 341) (by decide +kernel), List.mem_of_getElem? (i := 342) (by decide +kernel)⟩
theorem lw_p4 : lw_okq (⟨"LineRules", "doAction", "(III)V"⟩, 14) := ⟨⟨by decide +kernel, by decide +kernel⟩, List.mem_of_getElem? (i := 20) (by decide +kernel), List.mem_of_getElem? (i := 345) (by decide +kernel), List.mem_of_getElem? (i := 346) (by decide +kernel)⟩
theorem lw_p5 : lw_okq (⟨"LineRules$Output", "add", "(I)V"⟩, 2) := ⟨⟨by decide +kernel, by decide +kernel⟩, List.mem_of_getElem? (i := 179) (by decide +kernel), List.mem_of_getElem? (i := 357) (by decide +kernel), List.mem_of_getElem? (i := 358) (by decide +kernel)⟩
theorem lw_p6 : lw_okq (⟨"LineRules$Table", "placeOf", "(LLineRules$Row;)I"⟩, 3) := ⟨⟨by decide +kernel, by decide +kernel⟩, List.mem_of_getElem? (i := 159) (by decide +kernel), List.mem_of_getElem? (i := 368) (by decide +kernel), List.mem_of_getElem? (i := 369) (by decide +kernel)⟩
theorem lw_p7 : lw_okq (⟨"LineRules$Table", "insert", "(ILLineRules$Row;I)V"⟩, 3) := ⟨⟨by decide +kernel, by decide +kernel⟩, List.mem_of_getElem? (i := 159) (by decide +kernel), List.mem_of_getElem? (i := 376) (by decide +kernel), List.mem_of_getElem? (i := 377) (by decide +kernel)⟩
theorem lw_p8 : lw_okq (⟨"LineRules$CutLine", "join", "(I)V"⟩, 5) := ⟨⟨by decide +kernel, by decide +kernel⟩, List.mem_of_getElem? (i := 133) (by decide +kernel), List.mem_of_getElem? (i := 387) (by decide +kernel), List.mem_of_getElem? (i := 388) (by decide +kernel)⟩
theorem lw_p9 : lw_okq (⟨"LineRules$CutLine", "matchBehind", "(LLineRules$Expression;I)I"⟩, 5) := ⟨⟨by decide +kernel, by decide +kernel⟩, List.mem_of_getElem? (i := 133) (by decide +kernel), List.mem_of_getElem? (i := 413) (by decide +kernel), List.mem_of_getElem? (i := 414) (by decide +kernel)⟩
theorem lw_p10 : lw_okq (⟨"LineRules", "printMatch", "(LLineRules$Expression;)V"⟩, 14) := ⟨⟨by decide +kernel, by decide +kernel⟩, List.mem_of_getElem? (i := 20) (by decide +kernel), List.mem_of_getElem? (i := 418) (by decide +kernel), List.mem_of_getElem? (i := 419) (by decide +kernel)⟩
theorem lw_p11 : lw_okq (⟨"java/lang/Throwable", "fillInStackTrace", "(I)Ljava/lang/Throwable;"⟩, 6) := ⟨⟨by decide +kernel, by decide +kernel⟩, List.mem_of_getElem? (i := 477) (by decide +kernel), List.mem_of_getElem? (i := 475) (by decide +kernel), List.mem_of_getElem? (i := 476) (by decide +kernel)⟩
theorem lw_p12 : lw_okq (⟨"LineRules", "addToPad", "(I)V"⟩, 14) := ⟨⟨by decide +kernel, by decide +kernel⟩, List.mem_of_getElem? (i := 20) (by decide +kernel), List.mem_of_getElem? (i := 507) (by decide +kernel), List.mem_of_getElem? (i := 508) (by decide +kernel)⟩
theorem lw_p13 : lw_okq (⟨"LineRules$Reader", "alternation", "(I)I"⟩, 11) := ⟨⟨by decide +kernel, by decide +kernel⟩, List.mem_of_getElem? (i := 56) (by decide +kernel), List.mem_of_getElem? (i := 551) (by decide +kernel), List.mem_of_getElem? (i := 552) (by decide +kernel)⟩
theorem lw_p14 : lw_okq (⟨"LineRules$Reader", "sequence", "(I)I"⟩, 11) := ⟨⟨by decide +kernel, by decide +kernel⟩, List.mem_of_getElem? (i := 56) (by decide +kernel), List.mem_of_getElem? (i := 555) (by decide +kernel), List.mem_of_getElem? (i := 556) (by decide +kernel)⟩
theorem lw_p15 : lw_okq (⟨"LineRules$Reader", "node", "(III)I"⟩, 11) := ⟨⟨by decide +kernel, by decide +kernel⟩, List.mem_of_getElem? (i := 56) (by decide +kernel), List.mem_of_getElem? (i := 559) (by decide +kernel), List.mem_of_getElem? (i := 560) (by decide +kernel)⟩
def lw_privs_1 : List (MethodName × Nat) := [(⟨"LineRules$CutLine", "addField", "(II)V"⟩, 5), (⟨"LineRules", "hasPattern", "(LLineRules$Rule;)Z"⟩, 14), (⟨"LineRules$Expression", "followersOf", "(J)J"⟩, 6), (⟨"LineRules", "doActions", "(LLineRules$Rule;)Z"⟩, 14), (⟨"LineRules", "doAction", "(III)V"⟩, 14), (⟨"LineRules$Output", "add", "(I)V"⟩, 2), (⟨"LineRules$Table", "placeOf", "(LLineRules$Row;)I"⟩, 3), (⟨"LineRules$Table", "insert", "(ILLineRules$Row;I)V"⟩, 3), (⟨"LineRules$CutLine", "join", "(I)V"⟩, 5), (⟨"LineRules$CutLine", "matchBehind", "(LLineRules$Expression;I)I"⟩, 5), (⟨"LineRules", "printMatch", "(LLineRules$Expression;)V"⟩, 14), (⟨"java/lang/Throwable", "fillInStackTrace", "(I)Ljava/lang/Throwable;"⟩, 6), (⟨"LineRules", "addToPad", "(I)V"⟩, 14), (⟨"LineRules$Reader", "alternation", "(I)I"⟩, 11), (⟨"LineRules$Reader", "sequence", "(I)I"⟩, 11), (⟨"LineRules$Reader", "node", "(III)I"⟩, 11)]
theorem lw_r1 : ∀ q ∈ lw_privs_1, lw_okq q := List.forall_mem_cons.mpr ⟨lw_p0, List.forall_mem_cons.mpr ⟨lw_p1, List.forall_mem_cons.mpr ⟨lw_p2, List.forall_mem_cons.mpr ⟨lw_p3, List.forall_mem_cons.mpr ⟨lw_p4, List.forall_mem_cons.mpr ⟨lw_p5, List.forall_mem_cons.mpr ⟨lw_p6, List.forall_mem_cons.mpr ⟨lw_p7, List.forall_mem_cons.mpr ⟨lw_p8, List.forall_mem_cons.mpr ⟨lw_p9, List.forall_mem_cons.mpr ⟨lw_p10, List.forall_mem_cons.mpr ⟨lw_p11, List.forall_mem_cons.mpr ⟨lw_p12, List.forall_mem_cons.mpr ⟨lw_p13, List.forall_mem_cons.mpr ⟨lw_p14, List.forall_mem_cons.mpr ⟨lw_p15, fun _ h => absurd h List.not_mem_nil⟩⟩⟩⟩⟩⟩⟩⟩⟩⟩⟩⟩⟩⟩⟩⟩
theorem lw_p16 : lw_okq (⟨"LineRules$Reader", "refuse", "()I"⟩, 11) := ⟨⟨by decide +kernel, by decide +kernel⟩, List.mem_of_getElem? (i := 56) (by decide +kernel), List.mem_of_getElem? (i := 563) (by decide +kernel), List.mem_of_getElem? (i := 564) (by decide +kernel)⟩
theorem lw_p17 : lw_okq (⟨"LineRules$Reader", "next", "()I"⟩, 11) := ⟨⟨by decide +kernel, by decide +kernel⟩, List.mem_of_getElem? (i := 56) (by decide +kernel), List.mem_of_getElem? (i := 567) (by decide +kernel), List.mem_of_getElem? (i := 568) (by decide +kernel)⟩
theorem lw_p18 : lw_okq (⟨"LineRules$Reader", "atom", "(I)I"⟩, 11) := ⟨⟨by decide +kernel, by decide +kernel⟩, List.mem_of_getElem? (i := 56) (by decide +kernel), List.mem_of_getElem? (i := 571) (by decide +kernel), List.mem_of_getElem? (i := 572) (by decide +kernel)⟩
theorem lw_p19 : lw_okq (⟨"LineRules$Reader", "anySign", "()I"⟩, 11) := ⟨⟨by decide +kernel, by decide +kernel⟩, List.mem_of_getElem? (i := 56) (by decide +kernel), List.mem_of_getElem? (i := 578) (by decide +kernel), List.mem_of_getElem? (i := 579) (by decide +kernel)⟩
theorem lw_p20 : lw_okq (⟨"LineRules$Reader", "newAtom", "()J"⟩, 11) := ⟨⟨by decide +kernel, by decide +kernel⟩, List.mem_of_getElem? (i := 56) (by decide +kernel), List.mem_of_getElem? (i := 582) (by decide +kernel), List.mem_of_getElem? (i := 583) (by decide +kernel)⟩
theorem lw_p21 : lw_okq (⟨"LineRules$Reader", "take", "(JII)V"⟩, 11) := ⟨⟨by decide +kernel, by decide +kernel⟩, List.mem_of_getElem? (i := 56) (by decide +kernel), List.mem_of_getElem? (i := 586) (by decide +kernel), List.mem_of_getElem? (i := 587) (by decide +kernel)⟩
theorem lw_p22 : lw_okq (⟨"LineRules$Reader", "escaped", "()I"⟩, 11) := ⟨⟨by decide +kernel, by decide +kernel⟩, List.mem_of_getElem? (i := 56) (by decide +kernel), List.mem_of_getElem? (i := 590) (by decide +kernel), List.mem_of_getElem? (i := 591) (by decide +kernel)⟩
theorem lw_p23 : lw_okq (⟨"LineRules$Reader", "one", "(I)I"⟩, 11) := ⟨⟨by decide +kernel, by decide +kernel⟩, List.mem_of_getElem? (i := 56) (by decide +kernel), List.mem_of_getElem? (i := 594) (by decide +kernel), List.mem_of_getElem? (i := 595) (by decide +kernel)⟩
theorem lw_p24 : lw_okq (⟨"LineRules$Reader", "items", "()I"⟩, 11) := ⟨⟨by decide +kernel, by decide +kernel⟩, List.mem_of_getElem? (i := 56) (by decide +kernel), List.mem_of_getElem? (i := 598) (by decide +kernel), List.mem_of_getElem? (i := 599) (by decide +kernel)⟩
theorem lw_p25 : lw_okq (⟨"LineRules$Reader", "item", "(J)V"⟩, 11) := ⟨⟨by decide +kernel, by decide +kernel⟩, List.mem_of_getElem? (i := 56) (by decide +kernel), List.mem_of_getElem? (i := 602) (by decide +kernel), List.mem_of_getElem? (i := 603) (by decide +kernel)⟩
theorem lw_p26 : lw_okq (⟨"LineRules$Reader", "takeOthers", "(J)V"⟩, 11) := ⟨⟨by decide +kernel, by decide +kernel⟩, List.mem_of_getElem? (i := 56) (by decide +kernel), List.mem_of_getElem? (i := 609) (by decide +kernel), List.mem_of_getElem? (i := 610) (by decide +kernel)⟩
theorem lw_p27 : lw_okq (⟨"LineRules$Reader", "group", "(I)I"⟩, 11) := ⟨⟨by decide +kernel, by decide +kernel⟩, List.mem_of_getElem? (i := 56) (by decide +kernel), List.mem_of_getElem? (i := 613) (by decide +kernel), List.mem_of_getElem? (i := 614) (by decide +kernel)⟩
theorem lw_p28 : lw_okq (⟨"LineRules$Reader", "repeated", "(I)I"⟩, 11) := ⟨⟨by decide +kernel, by decide +kernel⟩, List.mem_of_getElem? (i := 56) (by decide +kernel), List.mem_of_getElem? (i := 617) (by decide +kernel), List.mem_of_getElem? (i := 618) (by decide +kernel)⟩
theorem lw_p29 : lw_okq (⟨"LineRules$Reader", "weighAll", "(I)V"⟩, 11) := ⟨⟨by decide +kernel, by decide +kernel⟩, List.mem_of_getElem? (i := 56) (by decide +kernel), List.mem_of_getElem? (i := 624) (by decide +kernel), List.mem_of_getElem? (i := 625) (by decide +kernel)⟩
theorem lw_p30 : lw_okq (⟨"LineRules$Reader", "weigh", "(II)V"⟩, 11) := ⟨⟨by decide +kernel, by decide +kernel⟩, List.mem_of_getElem? (i := 56) (by decide +kernel), List.mem_of_getElem? (i := 628) (by decide +kernel), List.mem_of_getElem? (i := 629) (by decide +kernel)⟩
theorem lw_p31 : lw_okq (⟨"LineRules$Reader", "set", "(IZJJ)V"⟩, 11) := ⟨⟨by decide +kernel, by decide +kernel⟩, List.mem_of_getElem? (i := 56) (by decide +kernel), List.mem_of_getElem? (i := 632) (by decide +kernel), List.mem_of_getElem? (i := 633) (by decide +kernel)⟩
def lw_privs_2 : List (MethodName × Nat) := [(⟨"LineRules$Reader", "refuse", "()I"⟩, 11), (⟨"LineRules$Reader", "next", "()I"⟩, 11), (⟨"LineRules$Reader", "atom", "(I)I"⟩, 11), (⟨"LineRules$Reader", "anySign", "()I"⟩, 11), (⟨"LineRules$Reader", "newAtom", "()J"⟩, 11), (⟨"LineRules$Reader", "take", "(JII)V"⟩, 11), (⟨"LineRules$Reader", "escaped", "()I"⟩, 11), (⟨"LineRules$Reader", "one", "(I)I"⟩, 11), (⟨"LineRules$Reader", "items", "()I"⟩, 11), (⟨"LineRules$Reader", "item", "(J)V"⟩, 11), (⟨"LineRules$Reader", "takeOthers", "(J)V"⟩, 11), (⟨"LineRules$Reader", "group", "(I)I"⟩, 11), (⟨"LineRules$Reader", "repeated", "(I)I"⟩, 11), (⟨"LineRules$Reader", "weighAll", "(I)V"⟩, 11), (⟨"LineRules$Reader", "weigh", "(II)V"⟩, 11), (⟨"LineRules$Reader", "set", "(IZJJ)V"⟩, 11)]
theorem lw_r2 : ∀ q ∈ lw_privs_2, lw_okq q := List.forall_mem_cons.mpr ⟨lw_p16, List.forall_mem_cons.mpr ⟨lw_p17, List.forall_mem_cons.mpr ⟨lw_p18, List.forall_mem_cons.mpr ⟨lw_p19, List.forall_mem_cons.mpr ⟨lw_p20, List.forall_mem_cons.mpr ⟨lw_p21, List.forall_mem_cons.mpr ⟨lw_p22, List.forall_mem_cons.mpr ⟨lw_p23, List.forall_mem_cons.mpr ⟨lw_p24, List.forall_mem_cons.mpr ⟨lw_p25, List.forall_mem_cons.mpr ⟨lw_p26, List.forall_mem_cons.mpr ⟨lw_p27, List.forall_mem_cons.mpr ⟨lw_p28, List.forall_mem_cons.mpr ⟨lw_p29, List.forall_mem_cons.mpr ⟨lw_p30, List.forall_mem_cons.mpr ⟨lw_p31, fun _ h => absurd h List.not_mem_nil⟩⟩⟩⟩⟩⟩⟩⟩⟩⟩⟩⟩⟩⟩⟩⟩
theorem lw_p32 : lw_okq (⟨"LineRules$Reader", "link", "(I)V"⟩, 11) := ⟨⟨by decide +kernel, by decide +kernel⟩, List.mem_of_getElem? (i := 56) (by decide +kernel), List.mem_of_getElem? (i := 636) (by decide +kernel), List.mem_of_getElem? (i := 637) (by decide +kernel)⟩
theorem lw_p33 : lw_okq (⟨"LineRules$Reader", "follow", "(JJ)V"⟩, 11) := ⟨⟨by decide +kernel, by decide +kernel⟩, List.mem_of_getElem? (i := 56) (by decide +kernel), List.mem_of_getElem? (i := 640) (by decide +kernel), List.mem_of_getElem? (i := 641) (by decide +kernel)⟩
theorem lw_p34 : lw_okq (⟨"LineRulesModel", "goes", "(ZZ)Z"⟩, 40) := ⟨⟨by decide +kernel, by decide +kernel⟩, List.mem_of_getElem? (i := 789) (by decide +kernel), List.mem_of_getElem? (i := 927) (by decide +kernel), List.mem_of_getElem? (i := 928) (by decide +kernel)⟩
theorem lw_p35 : lw_okq (⟨"LineRulesModel", "feedOne", "(I)V"⟩, 40) := ⟨⟨by decide +kernel, by decide +kernel⟩, List.mem_of_getElem? (i := 789) (by decide +kernel), List.mem_of_getElem? (i := 931) (by decide +kernel), List.mem_of_getElem? (i := 932) (by decide +kernel)⟩
theorem lw_p36 : lw_okq (⟨"LineRulesModel", "draw", "(I)V"⟩, 40) := ⟨⟨by decide +kernel, by decide +kernel⟩, List.mem_of_getElem? (i := 789) (by decide +kernel), List.mem_of_getElem? (i := 946) (by decide +kernel), List.mem_of_getElem? (i := 947) (by decide +kernel)⟩
theorem lw_p37 : lw_okq (⟨"LineRulesModel", "point", "()I"⟩, 40) := ⟨⟨by decide +kernel, by decide +kernel⟩, List.mem_of_getElem? (i := 789) (by decide +kernel), List.mem_of_getElem? (i := 950) (by decide +kernel), List.mem_of_getElem? (i := 951) (by decide +kernel)⟩
theorem lw_p38 : lw_okq (⟨"LineRulesModel", "edge", "(IIII)V"⟩, 40) := ⟨⟨by decide +kernel, by decide +kernel⟩, List.mem_of_getElem? (i := 789) (by decide +kernel), List.mem_of_getElem? (i := 954) (by decide +kernel), List.mem_of_getElem? (i := 955) (by decide +kernel)⟩
theorem lw_p39 : lw_okq (⟨"LineRulesModel", "fail", "(I)V"⟩, 40) := ⟨⟨by decide +kernel, by decide +kernel⟩, List.mem_of_getElem? (i := 789) (by decide +kernel), List.mem_of_getElem? (i := 958) (by decide +kernel), List.mem_of_getElem? (i := 959) (by decide +kernel)⟩
theorem lw_p40 : lw_okq (⟨"LineRulesModel", "items", "(II)I"⟩, 40) := ⟨⟨by decide +kernel, by decide +kernel⟩, List.mem_of_getElem? (i := 789) (by decide +kernel), List.mem_of_getElem? (i := 962) (by decide +kernel), List.mem_of_getElem? (i := 963) (by decide +kernel)⟩
theorem lw_p41 : lw_okq (⟨"LineRulesModel", "copyRow", "(II)V"⟩, 40) := ⟨⟨by decide +kernel, by decide +kernel⟩, List.mem_of_getElem? (i := 789) (by decide +kernel), List.mem_of_getElem? (i := 973) (by decide +kernel), List.mem_of_getElem? (i := 974) (by decide +kernel)⟩
theorem lw_p42 : lw_okq (⟨"LineRulesModel", "part", "()V"⟩, 40) := ⟨⟨by decide +kernel, by decide +kernel⟩, List.mem_of_getElem? (i := 789) (by decide +kernel), List.mem_of_getElem? (i := 1003) (by decide +kernel), List.mem_of_getElem? (i := 1004) (by decide +kernel)⟩
theorem lw_p43 : lw_okq (⟨"LineRulesModel", "field", "(II)V"⟩, 40) := ⟨⟨by decide +kernel, by decide +kernel⟩, List.mem_of_getElem? (i := 789) (by decide +kernel), List.mem_of_getElem? (i := 1007) (by decide +kernel), List.mem_of_getElem? (i := 1008) (by decide +kernel)⟩
theorem lw_p44 : lw_okq (⟨"LineRulesModel", "has", "(III)Z"⟩, 40) := ⟨⟨by decide +kernel, by decide +kernel⟩, List.mem_of_getElem? (i := 789) (by decide +kernel), List.mem_of_getElem? (i := 1011) (by decide +kernel), List.mem_of_getElem? (i := 1012) (by decide +kernel)⟩
theorem lw_p45 : lw_okq (⟨"LineRulesModel", "seek", "(III)Z"⟩, 40) := ⟨⟨by decide +kernel, by decide +kernel⟩, List.mem_of_getElem? (i := 789) (by decide +kernel), List.mem_of_getElem? (i := 1015) (by decide +kernel), List.mem_of_getElem? (i := 1016) (by decide +kernel)⟩
theorem lw_p46 : lw_okq (⟨"LineRulesModel", "longest", "(II)I"⟩, 40) := ⟨⟨by decide +kernel, by decide +kernel⟩, List.mem_of_getElem? (i := 789) (by decide +kernel), List.mem_of_getElem? (i := 1019) (by decide +kernel), List.mem_of_getElem? (i := 1020) (by decide +kernel)⟩
theorem lw_p47 : lw_okq (⟨"LineRulesModel", "spread", "(II)V"⟩, 40) := ⟨⟨by decide +kernel, by decide +kernel⟩, List.mem_of_getElem? (i := 789) (by decide +kernel), List.mem_of_getElem? (i := 1023) (by decide +kernel), List.mem_of_getElem? (i := 1024) (by decide +kernel)⟩
def lw_privs_3 : List (MethodName × Nat) := [(⟨"LineRules$Reader", "link", "(I)V"⟩, 11), (⟨"LineRules$Reader", "follow", "(JJ)V"⟩, 11), (⟨"LineRulesModel", "goes", "(ZZ)Z"⟩, 40), (⟨"LineRulesModel", "feedOne", "(I)V"⟩, 40), (⟨"LineRulesModel", "draw", "(I)V"⟩, 40), (⟨"LineRulesModel", "point", "()I"⟩, 40), (⟨"LineRulesModel", "edge", "(IIII)V"⟩, 40), (⟨"LineRulesModel", "fail", "(I)V"⟩, 40), (⟨"LineRulesModel", "items", "(II)I"⟩, 40), (⟨"LineRulesModel", "copyRow", "(II)V"⟩, 40), (⟨"LineRulesModel", "part", "()V"⟩, 40), (⟨"LineRulesModel", "field", "(II)V"⟩, 40), (⟨"LineRulesModel", "has", "(III)Z"⟩, 40), (⟨"LineRulesModel", "seek", "(III)Z"⟩, 40), (⟨"LineRulesModel", "longest", "(II)I"⟩, 40), (⟨"LineRulesModel", "spread", "(II)V"⟩, 40)]
theorem lw_r3 : ∀ q ∈ lw_privs_3, lw_okq q := List.forall_mem_cons.mpr ⟨lw_p32, List.forall_mem_cons.mpr ⟨lw_p33, List.forall_mem_cons.mpr ⟨lw_p34, List.forall_mem_cons.mpr ⟨lw_p35, List.forall_mem_cons.mpr ⟨lw_p36, List.forall_mem_cons.mpr ⟨lw_p37, List.forall_mem_cons.mpr ⟨lw_p38, List.forall_mem_cons.mpr ⟨lw_p39, List.forall_mem_cons.mpr ⟨lw_p40, List.forall_mem_cons.mpr ⟨lw_p41, List.forall_mem_cons.mpr ⟨lw_p42, List.forall_mem_cons.mpr ⟨lw_p43, List.forall_mem_cons.mpr ⟨lw_p44, List.forall_mem_cons.mpr ⟨lw_p45, List.forall_mem_cons.mpr ⟨lw_p46, List.forall_mem_cons.mpr ⟨lw_p47, fun _ h => absurd h List.not_mem_nil⟩⟩⟩⟩⟩⟩⟩⟩⟩⟩⟩⟩⟩⟩⟩⟩
theorem lw_p48 : lw_okq (⟨"LineRulesModel", "isSign", "(II)Z"⟩, 40) := ⟨⟨by decide +kernel, by decide +kernel⟩, List.mem_of_getElem? (i := 789) (by decide +kernel), List.mem_of_getElem? (i := 1027) (by decide +kernel), List.mem_of_getElem? (i := 1028) (by decide +kernel)⟩
theorem lw_p49 : lw_okq (⟨"LineRulesModel", "fieldToRow", "(I)V"⟩, 40) := ⟨⟨by decide +kernel, by decide +kernel⟩, List.mem_of_getElem? (i := 789) (by decide +kernel), List.mem_of_getElem? (i := 1031) (by decide +kernel), List.mem_of_getElem? (i := 1032) (by decide +kernel)⟩
theorem lw_p50 : lw_okq (⟨"LineRulesModel", "sizeOf", "(I)I"⟩, 40) := ⟨⟨by decide +kernel, by decide +kernel⟩, List.mem_of_getElem? (i := 789) (by decide +kernel), List.mem_of_getElem? (i := 1035) (by decide +kernel), List.mem_of_getElem? (i := 1036) (by decide +kernel)⟩
theorem lw_p51 : lw_okq (⟨"LineRulesModel", "signOf", "(II)I"⟩, 40) := ⟨⟨by decide +kernel, by decide +kernel⟩, List.mem_of_getElem? (i := 789) (by decide +kernel), List.mem_of_getElem? (i := 1039) (by decide +kernel), List.mem_of_getElem? (i := 1040) (by decide +kernel)⟩
theorem lw_p52 : lw_okq (⟨"LineRulesModel", "numberOf", "(I)I"⟩, 40) := ⟨⟨by decide +kernel, by decide +kernel⟩, List.mem_of_getElem? (i := 789) (by decide +kernel), List.mem_of_getElem? (i := 1043) (by decide +kernel), List.mem_of_getElem? (i := 1044) (by decide +kernel)⟩
theorem lw_p53 : lw_okq (⟨"LineRulesModel", "act", "(III)V"⟩, 40) := ⟨⟨by decide +kernel, by decide +kernel⟩, List.mem_of_getElem? (i := 789) (by decide +kernel), List.mem_of_getElem? (i := 1047) (by decide +kernel), List.mem_of_getElem? (i := 1048) (by decide +kernel)⟩
theorem lw_p54 : lw_okq (⟨"LineRulesModel", "printRow", "(III)V"⟩, 40) := ⟨⟨by decide +kernel, by decide +kernel⟩, List.mem_of_getElem? (i := 789) (by decide +kernel), List.mem_of_getElem? (i := 1051) (by decide +kernel), List.mem_of_getElem? (i := 1052) (by decide +kernel)⟩
theorem lw_p55 : lw_okq (⟨"LineRulesModel", "put", "(I)V"⟩, 40) := ⟨⟨by decide +kernel, by decide +kernel⟩, List.mem_of_getElem? (i := 789) (by decide +kernel), List.mem_of_getElem? (i := 1055) (by decide +kernel), List.mem_of_getElem? (i := 1056) (by decide +kernel)⟩
theorem lw_p56 : lw_okq (⟨"LineRulesModel", "grow", "(II)V"⟩, 40) := ⟨⟨by decide +kernel, by decide +kernel⟩, List.mem_of_getElem? (i := 789) (by decide +kernel), List.mem_of_getElem? (i := 1059) (by decide +kernel), List.mem_of_getElem? (i := 1060) (by decide +kernel)⟩
theorem lw_p57 : lw_okq (⟨"LineRulesModel", "compared", "(II)I"⟩, 40) := ⟨⟨by decide +kernel, by decide +kernel⟩, List.mem_of_getElem? (i := 789) (by decide +kernel), List.mem_of_getElem? (i := 1063) (by decide +kernel), List.mem_of_getElem? (i := 1064) (by decide +kernel)⟩
theorem lw_p58 : lw_okq (⟨"LineRulesModel", "copyKey", "(II)V"⟩, 40) := ⟨⟨by decide +kernel, by decide +kernel⟩, List.mem_of_getElem? (i := 789) (by decide +kernel), List.mem_of_getElem? (i := 1067) (by decide +kernel), List.mem_of_getElem? (i := 1068) (by decide +kernel)⟩
theorem lw_p59 : lw_okq (⟨"LineRulesModel", "setField", "(I)V"⟩, 40) := ⟨⟨by decide +kernel, by decide +kernel⟩, List.mem_of_getElem? (i := 789) (by decide +kernel), List.mem_of_getElem? (i := 1071) (by decide +kernel), List.mem_of_getElem? (i := 1072) (by decide +kernel)⟩
theorem lw_p60 : lw_okq (⟨"LineRulesModel", "write", "(I)V"⟩, 40) := ⟨⟨by decide +kernel, by decide +kernel⟩, List.mem_of_getElem? (i := 789) (by decide +kernel), List.mem_of_getElem? (i := 1075) (by decide +kernel), List.mem_of_getElem? (i := 1076) (by decide +kernel)⟩
theorem lw_p61 : lw_okq (⟨"LineRulesModel", "spell", "(I)V"⟩, 40) := ⟨⟨by decide +kernel, by decide +kernel⟩, List.mem_of_getElem? (i := 789) (by decide +kernel), List.mem_of_getElem? (i := 1079) (by decide +kernel), List.mem_of_getElem? (i := 1080) (by decide +kernel)⟩
theorem lw_p62 : lw_okq (⟨"LineRulesModel", "replace", "(IIZ)V"⟩, 40) := ⟨⟨by decide +kernel, by decide +kernel⟩, List.mem_of_getElem? (i := 789) (by decide +kernel), List.mem_of_getElem? (i := 1085) (by decide +kernel), List.mem_of_getElem? (i := 1086) (by decide +kernel)⟩
def lw_privs_4 : List (MethodName × Nat) := [(⟨"LineRulesModel", "isSign", "(II)Z"⟩, 40), (⟨"LineRulesModel", "fieldToRow", "(I)V"⟩, 40), (⟨"LineRulesModel", "sizeOf", "(I)I"⟩, 40), (⟨"LineRulesModel", "signOf", "(II)I"⟩, 40), (⟨"LineRulesModel", "numberOf", "(I)I"⟩, 40), (⟨"LineRulesModel", "act", "(III)V"⟩, 40), (⟨"LineRulesModel", "printRow", "(III)V"⟩, 40), (⟨"LineRulesModel", "put", "(I)V"⟩, 40), (⟨"LineRulesModel", "grow", "(II)V"⟩, 40), (⟨"LineRulesModel", "compared", "(II)I"⟩, 40), (⟨"LineRulesModel", "copyKey", "(II)V"⟩, 40), (⟨"LineRulesModel", "setField", "(I)V"⟩, 40), (⟨"LineRulesModel", "write", "(I)V"⟩, 40), (⟨"LineRulesModel", "spell", "(I)V"⟩, 40), (⟨"LineRulesModel", "replace", "(IIZ)V"⟩, 40)]
theorem lw_r4 : ∀ q ∈ lw_privs_4, lw_okq q := List.forall_mem_cons.mpr ⟨lw_p48, List.forall_mem_cons.mpr ⟨lw_p49, List.forall_mem_cons.mpr ⟨lw_p50, List.forall_mem_cons.mpr ⟨lw_p51, List.forall_mem_cons.mpr ⟨lw_p52, List.forall_mem_cons.mpr ⟨lw_p53, List.forall_mem_cons.mpr ⟨lw_p54, List.forall_mem_cons.mpr ⟨lw_p55, List.forall_mem_cons.mpr ⟨lw_p56, List.forall_mem_cons.mpr ⟨lw_p57, List.forall_mem_cons.mpr ⟨lw_p58, List.forall_mem_cons.mpr ⟨lw_p59, List.forall_mem_cons.mpr ⟨lw_p60, List.forall_mem_cons.mpr ⟨lw_p61, List.forall_mem_cons.mpr ⟨lw_p62, fun _ h => absurd h List.not_mem_nil⟩⟩⟩⟩⟩⟩⟩⟩⟩⟩⟩⟩⟩⟩⟩
def lw_privs : List (MethodName × Nat) := lw_privs_1 ++ (lw_privs_2 ++ (lw_privs_3 ++ (lw_privs_4)))
def lw_tbl : List Cond := k2_sels lw_privs ++ tables_1
theorem lw_privs_ok : ∀ q ∈ lw_privs, lw_okq q := by
  show ∀ q ∈ lw_privs_1 ++ (lw_privs_2 ++ (lw_privs_3 ++ (lw_privs_4))), lw_okq q
  exact List.forall_mem_append.mpr ⟨lw_r1, List.forall_mem_append.mpr ⟨lw_r2, List.forall_mem_append.mpr ⟨lw_r3, lw_r4⟩⟩⟩
end
section
/-! names and words, by wip/whole/gen/names.py: pool numbers, code names and program counters stand here and in 02d alone -/
def wl_ALL : List Cond := lw_tbl.filter goodWord
theorem wl_good : ∀ w ∈ wl_ALL, (w.onTables && w.keeps) = true ∨ ∃ ty, w = .arrayClass ty := fun w h => good_of_word (List.mem_filter.mp h).2
theorem wl_mem {c : Cond} (n : Nat) (h : lw_tbl[n]? = some c) (hg : goodWord c = true) : c ∈ wl_ALL := List.mem_filter.mpr ⟨List.mem_of_getElem? h, hg⟩
def rn_LR : String := "LineRules"
def ft_LR : u_T := fun k => match k with
  | 0 => ("LineRules", "pad", "LLineRules$Row;", true)
  | 1 => ("LineRules", "texts", "[LLineRules$Row;", true)
  | 2 => ("LineRules", "expressions", "[LLineRules$Expression;", true)
  | 3 => ("LineRules", "reader", "LLineRules$Reader;", true)
  | 4 => ("LineRules", "rules", "[LLineRules$Rule;", true)
  | 5 => ("LineRules", "latest", "LLineRules$CutLine;", true)
  | 6 => ("LineRules", "counters", "[I", true)
  | 7 => ("LineRules", "table", "LLineRules$Table;", true)
  | 8 => ("LineRules", "output", "LLineRules$Output;", true)
  | 9 => ("LineRules", "numberText", "LLineRules$Row;", true)
  | 10 => ("LineRules", "ruleCount", "I", false)
  | 11 => ("LineRules", "lineCount", "I", false)
  | 12 => ("LineRules", "fieldSeparator", "I", false)
  | _ => ("LineRules", "foundEnd", "I", false)
def fy_LR : Nat → FieldType := fun k => match k with
  | 0 => .object "LineRules$Row"
  | 1 => .array (.object "LineRules$Row")
  | 2 => .array (.object "LineRules$Expression")
  | 3 => .object "LineRules$Reader"
  | 4 => .array (.object "LineRules$Rule")
  | 5 => .object "LineRules$CutLine"
  | 6 => .array .int
  | 7 => .object "LineRules$Table"
  | 8 => .object "LineRules$Output"
  | 9 => .object "LineRules$Row"
  | 10 => .int
  | 11 => .int
  | 12 => .int
  | _ => .int
def rn_Cut : String := "LineRules$CutLine"
def ft_Cut : u_T := fun k => match k with
  | 0 => ("LineRules$CutLine", "whole", "LLineRules$Row;", true)
  | 1 => ("LineRules$CutLine", "fieldCount", "I", false)
  | 2 => ("LineRules$CutLine", "fields", "[LLineRules$Row;", true)
  | 3 => ("LineRules$CutLine", "absent", "LLineRules$Row;", true)
  | _ => ("LineRules$CutLine", "changed", "LLineRules$Row;", true)
def fy_Cut : Nat → FieldType := fun k => match k with
  | 0 => .object "LineRules$Row"
  | 1 => .int
  | 2 => .array (.object "LineRules$Row")
  | 3 => .object "LineRules$Row"
  | _ => .object "LineRules$Row"
def rn_Exp : String := "LineRules$Expression"
def ft_Exp : u_T := fun k => match k with
  | 0 => ("LineRules$Expression", "takers", "[J", true)
  | 1 => ("LineRules$Expression", "followers", "[J", true)
  | 2 => ("LineRules$Expression", "firsts", "[J", true)
  | 3 => ("LineRules$Expression", "lasts", "[J", true)
  | 4 => ("LineRules$Expression", "matchesEmpty", "[Z", true)
  | _ => ("LineRules$Expression", "atoms", "I", false)
def fy_Exp : Nat → FieldType := fun k => match k with
  | 0 => .array .long
  | 1 => .array .long
  | 2 => .array .long
  | 3 => .array .long
  | 4 => .array .boolean
  | _ => .int
def rn_Out : String := "LineRules$Output"
def ft_Out : u_T := fun k => match k with
  | 0 => ("LineRules$Output", "kept", "[I", true)
  | _ => ("LineRules$Output", "total", "I", false)
def fy_Out : Nat → FieldType := fun k => match k with
  | 0 => .array .int
  | _ => .int
def rn_Rdr : String := "LineRules$Reader"
def ft_Rdr : u_T := fun k => match k with
  | 0 => ("LineRules$Reader", "kinds", "[I", true)
  | 1 => ("LineRules$Reader", "lefts", "[I", true)
  | 2 => ("LineRules$Reader", "rights", "[I", true)
  | 3 => ("LineRules$Reader", "empties", "[Z", true)
  | 4 => ("LineRules$Reader", "firsts", "[J", true)
  | 5 => ("LineRules$Reader", "lasts", "[J", true)
  | 6 => ("LineRules$Reader", "nodes", "I", false)
  | 7 => ("LineRules$Reader", "made", "LLineRules$Expression;", false)
  | 8 => ("LineRules$Reader", "source", "LLineRules$Row;", false)
  | 9 => ("LineRules$Reader", "at", "I", false)
  | _ => ("LineRules$Reader", "fault", "I", false)
def fy_Rdr : Nat → FieldType := fun k => match k with
  | 0 => .array .int
  | 1 => .array .int
  | 2 => .array .int
  | 3 => .array .boolean
  | 4 => .array .long
  | 5 => .array .long
  | 6 => .int
  | 7 => .object "LineRules$Expression"
  | 8 => .object "LineRules$Row"
  | 9 => .int
  | _ => .int
def rn_Row : String := "LineRules$Row"
def ft_Row : u_T := fun k => match k with
  | 0 => ("LineRules$Row", "signs", "[I", true)
  | _ => ("LineRules$Row", "length", "I", false)
def fy_Row : Nat → FieldType := fun k => match k with
  | 0 => .array .int
  | _ => .int
def rn_Rul : String := "LineRules$Rule"
def ft_Rul : u_T := fun k => match k with
  | 0 => ("LineRules$Rule", "pattern", "I", false)
  | 1 => ("LineRules$Rule", "a", "I", false)
  | 2 => ("LineRules$Rule", "b", "I", false)
  | 3 => ("LineRules$Rule", "actions", "[I", true)
  | 4 => ("LineRules$Rule", "firsts", "[I", true)
  | 5 => ("LineRules$Rule", "seconds", "[I", true)
  | _ => ("LineRules$Rule", "actionCount", "I", false)
def fy_Rul : Nat → FieldType := fun k => match k with
  | 0 => .int
  | 1 => .int
  | 2 => .int
  | 3 => .array .int
  | 4 => .array .int
  | 5 => .array .int
  | _ => .int
def rn_Tab : String := "LineRules$Table"
def ft_Tab : u_T := fun k => match k with
  | 0 => ("LineRules$Table", "keys", "[LLineRules$Row;", true)
  | 1 => ("LineRules$Table", "ints", "[I", true)
  | _ => ("LineRules$Table", "size", "I", false)
def fy_Tab : Nat → FieldType := fun k => match k with
  | 0 => .array (.object "LineRules$Row")
  | 1 => .array .int
  | _ => .int
def rn_Mod : String := "LineRulesModel"
def ft_Mod : u_T := fun k => match k with
  | 0 => ("LineRulesModel", "thrown", "I", false)
  | 1 => ("LineRulesModel", "rows", "[I", true)
  | 2 => ("LineRulesModel", "lengths", "[I", true)
  | 3 => ("LineRulesModel", "expressions", "[I", true)
  | 4 => ("LineRulesModel", "sizes", "[I", true)
  | 5 => ("LineRulesModel", "separator", "I", false)
  | 6 => ("LineRulesModel", "rules", "I", false)
  | 7 => ("LineRulesModel", "patterns", "[I", true)
  | 8 => ("LineRulesModel", "firsts", "[I", true)
  | 9 => ("LineRulesModel", "seconds", "[I", true)
  | 10 => ("LineRulesModel", "manyActions", "[I", true)
  | 11 => ("LineRulesModel", "actions", "[I", true)
  | 12 => ("LineRulesModel", "as", "[I", true)
  | 13 => ("LineRulesModel", "bs", "[I", true)
  | 14 => ("LineRulesModel", "lines", "I", false)
  | 15 => ("LineRulesModel", "fields", "I", false)
  | 16 => ("LineRulesModel", "fieldSigns", "[I", true)
  | 17 => ("LineRulesModel", "fieldLengths", "[I", true)
  | 18 => ("LineRulesModel", "counters", "[I", true)
  | 19 => ("LineRulesModel", "keys", "I", false)
  | 20 => ("LineRulesModel", "keySigns", "[I", true)
  | 21 => ("LineRulesModel", "keyLengths", "[I", true)
  | 22 => ("LineRulesModel", "keyInts", "[I", true)
  | 23 => ("LineRulesModel", "prints", "I", false)
  | 24 => ("LineRulesModel", "print", "[I", true)
  | 25 => ("LineRulesModel", "ended", "I", false)
  | 26 => ("LineRulesModel", "points", "I", false)
  | 27 => ("LineRulesModel", "edges", "I", false)
  | 28 => ("LineRulesModel", "froms", "[I", true)
  | 29 => ("LineRulesModel", "tos", "[I", true)
  | 30 => ("LineRulesModel", "kinds", "[I", true)
  | 31 => ("LineRulesModel", "places", "[I", true)
  | 32 => ("LineRulesModel", "here", "[Z", true)
  | 33 => ("LineRulesModel", "next", "[Z", true)
  | 34 => ("LineRulesModel", "begins", "[I", true)
  | 35 => ("LineRulesModel", "closes", "[I", true)
  | 36 => ("LineRulesModel", "outers", "[I", true)
  | 37 => ("LineRulesModel", "fault", "I", false)
  | 38 => ("LineRulesModel", "from", "I", false)
  | _ => ("LineRulesModel", "to", "I", false)
def fy_Mod : Nat → FieldType := fun k => match k with
  | 0 => .int
  | 1 => .array .int
  | 2 => .array .int
  | 3 => .array .int
  | 4 => .array .int
  | 5 => .int
  | 6 => .int
  | 7 => .array .int
  | 8 => .array .int
  | 9 => .array .int
  | 10 => .array .int
  | 11 => .array .int
  | 12 => .array .int
  | 13 => .array .int
  | 14 => .int
  | 15 => .int
  | 16 => .array .int
  | 17 => .array .int
  | 18 => .array .int
  | 19 => .int
  | 20 => .array .int
  | 21 => .array .int
  | 22 => .array .int
  | 23 => .int
  | 24 => .array .int
  | 25 => .int
  | 26 => .int
  | 27 => .int
  | 28 => .array .int
  | 29 => .array .int
  | 30 => .array .int
  | 31 => .array .int
  | 32 => .array .boolean
  | 33 => .array .boolean
  | 34 => .array .int
  | 35 => .array .int
  | 36 => .array .int
  | 37 => .int
  | 38 => .int
  | _ => .int
abbrev wl_CL : List vw_C := [(rn_LR, ft_LR, 14), (rn_Cut, ft_Cut, 5), (rn_Exp, ft_Exp, 6), (rn_Out, ft_Out, 2), (rn_Rdr, ft_Rdr, 11), (rn_Row, ft_Row, 2), (rn_Rul, ft_Rul, 7), (rn_Tab, ft_Tab, 3), (rn_Mod, ft_Mod, 40)]
def wl_TY : Nat → Nat → FieldType := fun c => match c with
  | 0 => fy_LR
  | 1 => fy_Cut
  | 2 => fy_Exp
  | 3 => fy_Out
  | 4 => fy_Rdr
  | 5 => fy_Row
  | 6 => fy_Rul
  | 7 => fy_Tab
  | _ => fy_Mod
/-- kinds of arrays: 0 ints, 1 booleans, 2 longs, 3 rows, 4 expressions, 5 rules, 6 the script -/
def wl_AT : Nat → FieldType := fun y => match y with
  | 1 => .boolean
  | 2 => .long
  | 3 => .object "LineRules$Row"
  | 4 => .object "LineRules$Expression"
  | 5 => .object "LineRules$Rule"
  | _ => .int
abbrev wl_AN : Nat := 7
abbrev wl_AS : Nat := 6
def wl_OV : List String := ["LineRules$Row", "LineRules$Expression", "LineRules$Rule"]
theorem lw_LR_all : ∀ w ∈ u_ws rn_LR ft_LR 14, w ∈ wl_ALL := by
  show ∀ w ∈ [u_lay rn_LR ft_LR 0, u_lay rn_LR ft_LR 1, u_lay rn_LR ft_LR 2, u_lay rn_LR ft_LR 3, u_lay rn_LR ft_LR 4, u_lay rn_LR ft_LR 5, u_lay rn_LR ft_LR 6, u_lay rn_LR ft_LR 7, u_lay rn_LR ft_LR 8, u_lay rn_LR ft_LR 9, u_lay rn_LR ft_LR 10, u_lay rn_LR ft_LR 11, u_lay rn_LR ft_LR 12, u_lay rn_LR ft_LR 13], w ∈ wl_ALL
  exact List.forall_mem_cons.mpr ⟨wl_mem 304 (by decide +kernel) rfl, List.forall_mem_cons.mpr ⟨wl_mem 306 (by decide +kernel) rfl, List.forall_mem_cons.mpr ⟨wl_mem 308 (by decide +kernel) rfl, List.forall_mem_cons.mpr ⟨wl_mem 310 (by decide +kernel) rfl, List.forall_mem_cons.mpr ⟨wl_mem 312 (by decide +kernel) rfl, List.forall_mem_cons.mpr ⟨wl_mem 314 (by decide +kernel) rfl, List.forall_mem_cons.mpr ⟨wl_mem 316 (by decide +kernel) rfl, List.forall_mem_cons.mpr ⟨wl_mem 318 (by decide +kernel) rfl, List.forall_mem_cons.mpr ⟨wl_mem 320 (by decide +kernel) rfl, List.forall_mem_cons.mpr ⟨wl_mem 322 (by decide +kernel) rfl, List.forall_mem_cons.mpr ⟨wl_mem 324 (by decide +kernel) rfl, List.forall_mem_cons.mpr ⟨wl_mem 326 (by decide +kernel) rfl, List.forall_mem_cons.mpr ⟨wl_mem 328 (by decide +kernel) rfl, List.forall_mem_cons.mpr ⟨wl_mem 330 (by decide +kernel) rfl, fun _ h => absurd h List.not_mem_nil⟩⟩⟩⟩⟩⟩⟩⟩⟩⟩⟩⟩⟩⟩
theorem nn_LR : ∀ a, a < 14 → ∀ b, b < 14 → a ≠ b → (ft_LR a).2.1 ≠ (ft_LR b).2.1 := by decide +kernel
theorem ny_LR : ∀ k, k < 14 → parseFieldDescriptor (ft_LR k).2.2.1 = some (fy_LR k) := by decide +kernel
theorem lw_Cut_all : ∀ w ∈ u_ws rn_Cut ft_Cut 5, w ∈ wl_ALL := by
  show ∀ w ∈ [u_lay rn_Cut ft_Cut 0, u_lay rn_Cut ft_Cut 1, u_lay rn_Cut ft_Cut 2, u_lay rn_Cut ft_Cut 3, u_lay rn_Cut ft_Cut 4], w ∈ wl_ALL
  exact List.forall_mem_cons.mpr ⟨wl_mem 210 (by decide +kernel) rfl, List.forall_mem_cons.mpr ⟨wl_mem 212 (by decide +kernel) rfl, List.forall_mem_cons.mpr ⟨wl_mem 214 (by decide +kernel) rfl, List.forall_mem_cons.mpr ⟨wl_mem 216 (by decide +kernel) rfl, List.forall_mem_cons.mpr ⟨wl_mem 218 (by decide +kernel) rfl, fun _ h => absurd h List.not_mem_nil⟩⟩⟩⟩⟩
theorem nn_Cut : ∀ a, a < 5 → ∀ b, b < 5 → a ≠ b → (ft_Cut a).2.1 ≠ (ft_Cut b).2.1 := by decide +kernel
theorem ny_Cut : ∀ k, k < 5 → parseFieldDescriptor (ft_Cut k).2.2.1 = some (fy_Cut k) := by decide +kernel
theorem lw_Exp_all : ∀ w ∈ u_ws rn_Exp ft_Exp 6, w ∈ wl_ALL := by
  show ∀ w ∈ [u_lay rn_Exp ft_Exp 0, u_lay rn_Exp ft_Exp 1, u_lay rn_Exp ft_Exp 2, u_lay rn_Exp ft_Exp 3, u_lay rn_Exp ft_Exp 4, u_lay rn_Exp ft_Exp 5], w ∈ wl_ALL
  exact List.forall_mem_cons.mpr ⟨wl_mem 142 (by decide +kernel) rfl, List.forall_mem_cons.mpr ⟨wl_mem 144 (by decide +kernel) rfl, List.forall_mem_cons.mpr ⟨wl_mem 146 (by decide +kernel) rfl, List.forall_mem_cons.mpr ⟨wl_mem 148 (by decide +kernel) rfl, List.forall_mem_cons.mpr ⟨wl_mem 150 (by decide +kernel) rfl, List.forall_mem_cons.mpr ⟨wl_mem 152 (by decide +kernel) rfl, fun _ h => absurd h List.not_mem_nil⟩⟩⟩⟩⟩⟩
theorem nn_Exp : ∀ a, a < 6 → ∀ b, b < 6 → a ≠ b → (ft_Exp a).2.1 ≠ (ft_Exp b).2.1 := by decide +kernel
theorem ny_Exp : ∀ k, k < 6 → parseFieldDescriptor (ft_Exp k).2.2.1 = some (fy_Exp k) := by decide +kernel
theorem lw_Out_all : ∀ w ∈ u_ws rn_Out ft_Out 2, w ∈ wl_ALL := by
  show ∀ w ∈ [u_lay rn_Out ft_Out 0, u_lay rn_Out ft_Out 1], w ∈ wl_ALL
  exact List.forall_mem_cons.mpr ⟨wl_mem 250 (by decide +kernel) rfl, List.forall_mem_cons.mpr ⟨wl_mem 252 (by decide +kernel) rfl, fun _ h => absurd h List.not_mem_nil⟩⟩
theorem nn_Out : ∀ a, a < 2 → ∀ b, b < 2 → a ≠ b → (ft_Out a).2.1 ≠ (ft_Out b).2.1 := by decide +kernel
theorem ny_Out : ∀ k, k < 2 → parseFieldDescriptor (ft_Out k).2.2.1 = some (fy_Out k) := by decide +kernel
theorem lw_Rdr_all : ∀ w ∈ u_ws rn_Rdr ft_Rdr 11, w ∈ wl_ALL := by
  show ∀ w ∈ [u_lay rn_Rdr ft_Rdr 0, u_lay rn_Rdr ft_Rdr 1, u_lay rn_Rdr ft_Rdr 2, u_lay rn_Rdr ft_Rdr 3, u_lay rn_Rdr ft_Rdr 4, u_lay rn_Rdr ft_Rdr 5, u_lay rn_Rdr ft_Rdr 6, u_lay rn_Rdr ft_Rdr 7, u_lay rn_Rdr ft_Rdr 8, u_lay rn_Rdr ft_Rdr 9, u_lay rn_Rdr ft_Rdr 10], w ∈ wl_ALL
  exact List.forall_mem_cons.mpr ⟨wl_mem 170 (by decide +kernel) rfl, List.forall_mem_cons.mpr ⟨wl_mem 172 (by decide +kernel) rfl, List.forall_mem_cons.mpr ⟨wl_mem 174 (by decide +kernel) rfl, List.forall_mem_cons.mpr ⟨wl_mem 176 (by decide +kernel) rfl, List.forall_mem_cons.mpr ⟨wl_mem 178 (by decide +kernel) rfl, List.forall_mem_cons.mpr ⟨wl_mem 180 (by decide +kernel) rfl, List.forall_mem_cons.mpr ⟨wl_mem 182 (by decide +kernel) rfl, List.forall_mem_cons.mpr ⟨wl_mem 184 (by decide +kernel) rfl, List.forall_mem_cons.mpr ⟨wl_mem 186 (by decide +kernel) rfl, List.forall_mem_cons.mpr ⟨wl_mem 188 (by decide +kernel) rfl, List.forall_mem_cons.mpr ⟨wl_mem 190 (by decide +kernel) rfl, fun _ h => absurd h List.not_mem_nil⟩⟩⟩⟩⟩⟩⟩⟩⟩⟩⟩
theorem nn_Rdr : ∀ a, a < 11 → ∀ b, b < 11 → a ≠ b → (ft_Rdr a).2.1 ≠ (ft_Rdr b).2.1 := by decide +kernel
theorem ny_Rdr : ∀ k, k < 11 → parseFieldDescriptor (ft_Rdr k).2.2.1 = some (fy_Rdr k) := by decide +kernel
theorem lw_Row_all : ∀ w ∈ u_ws rn_Row ft_Row 2, w ∈ wl_ALL := by
  show ∀ w ∈ [u_lay rn_Row ft_Row 0, u_lay rn_Row ft_Row 1], w ∈ wl_ALL
  exact List.forall_mem_cons.mpr ⟨wl_mem 109 (by decide +kernel) rfl, List.forall_mem_cons.mpr ⟨wl_mem 111 (by decide +kernel) rfl, fun _ h => absurd h List.not_mem_nil⟩⟩
theorem nn_Row : ∀ a, a < 2 → ∀ b, b < 2 → a ≠ b → (ft_Row a).2.1 ≠ (ft_Row b).2.1 := by decide +kernel
theorem ny_Row : ∀ k, k < 2 → parseFieldDescriptor (ft_Row k).2.2.1 = some (fy_Row k) := by decide +kernel
theorem lw_Rul_all : ∀ w ∈ u_ws rn_Rul ft_Rul 7, w ∈ wl_ALL := by
  show ∀ w ∈ [u_lay rn_Rul ft_Rul 0, u_lay rn_Rul ft_Rul 1, u_lay rn_Rul ft_Rul 2, u_lay rn_Rul ft_Rul 3, u_lay rn_Rul ft_Rul 4, u_lay rn_Rul ft_Rul 5, u_lay rn_Rul ft_Rul 6], w ∈ wl_ALL
  exact List.forall_mem_cons.mpr ⟨wl_mem 275 (by decide +kernel) rfl, List.forall_mem_cons.mpr ⟨wl_mem 277 (by decide +kernel) rfl, List.forall_mem_cons.mpr ⟨wl_mem 279 (by decide +kernel) rfl, List.forall_mem_cons.mpr ⟨wl_mem 281 (by decide +kernel) rfl, List.forall_mem_cons.mpr ⟨wl_mem 283 (by decide +kernel) rfl, List.forall_mem_cons.mpr ⟨wl_mem 285 (by decide +kernel) rfl, List.forall_mem_cons.mpr ⟨wl_mem 287 (by decide +kernel) rfl, fun _ h => absurd h List.not_mem_nil⟩⟩⟩⟩⟩⟩⟩
theorem nn_Rul : ∀ a, a < 7 → ∀ b, b < 7 → a ≠ b → (ft_Rul a).2.1 ≠ (ft_Rul b).2.1 := by decide +kernel
theorem ny_Rul : ∀ k, k < 7 → parseFieldDescriptor (ft_Rul k).2.2.1 = some (fy_Rul k) := by decide +kernel
theorem lw_Tab_all : ∀ w ∈ u_ws rn_Tab ft_Tab 3, w ∈ wl_ALL := by
  show ∀ w ∈ [u_lay rn_Tab ft_Tab 0, u_lay rn_Tab ft_Tab 1, u_lay rn_Tab ft_Tab 2], w ∈ wl_ALL
  exact List.forall_mem_cons.mpr ⟨wl_mem 234 (by decide +kernel) rfl, List.forall_mem_cons.mpr ⟨wl_mem 236 (by decide +kernel) rfl, List.forall_mem_cons.mpr ⟨wl_mem 238 (by decide +kernel) rfl, fun _ h => absurd h List.not_mem_nil⟩⟩⟩
theorem nn_Tab : ∀ a, a < 3 → ∀ b, b < 3 → a ≠ b → (ft_Tab a).2.1 ≠ (ft_Tab b).2.1 := by decide +kernel
theorem ny_Tab : ∀ k, k < 3 → parseFieldDescriptor (ft_Tab k).2.2.1 = some (fy_Tab k) := by decide +kernel
theorem lw_Mod_all : ∀ w ∈ u_ws rn_Mod ft_Mod 40, w ∈ wl_ALL := by
  show ∀ w ∈ [u_lay rn_Mod ft_Mod 0, u_lay rn_Mod ft_Mod 1, u_lay rn_Mod ft_Mod 2, u_lay rn_Mod ft_Mod 3, u_lay rn_Mod ft_Mod 4, u_lay rn_Mod ft_Mod 5, u_lay rn_Mod ft_Mod 6, u_lay rn_Mod ft_Mod 7, u_lay rn_Mod ft_Mod 8, u_lay rn_Mod ft_Mod 9, u_lay rn_Mod ft_Mod 10, u_lay rn_Mod ft_Mod 11, u_lay rn_Mod ft_Mod 12, u_lay rn_Mod ft_Mod 13, u_lay rn_Mod ft_Mod 14, u_lay rn_Mod ft_Mod 15, u_lay rn_Mod ft_Mod 16, u_lay rn_Mod ft_Mod 17, u_lay rn_Mod ft_Mod 18, u_lay rn_Mod ft_Mod 19, u_lay rn_Mod ft_Mod 20, u_lay rn_Mod ft_Mod 21, u_lay rn_Mod ft_Mod 22, u_lay rn_Mod ft_Mod 23, u_lay rn_Mod ft_Mod 24, u_lay rn_Mod ft_Mod 25, u_lay rn_Mod ft_Mod 26, u_lay rn_Mod ft_Mod 27, u_lay rn_Mod ft_Mod 28, u_lay rn_Mod ft_Mod 29, u_lay rn_Mod ft_Mod 30, u_lay rn_Mod ft_Mod 31, u_lay rn_Mod ft_Mod 32, u_lay rn_Mod ft_Mod 33, u_lay rn_Mod ft_Mod 34, u_lay rn_Mod ft_Mod 35, u_lay rn_Mod ft_Mod 36, u_lay rn_Mod ft_Mod 37, u_lay rn_Mod ft_Mod 38, u_lay rn_Mod ft_Mod 39], w ∈ wl_ALL
  exact List.forall_mem_cons.mpr ⟨wl_mem 897 (by decide +kernel) rfl, List.forall_mem_cons.mpr ⟨wl_mem 899 (by decide +kernel) rfl, List.forall_mem_cons.mpr ⟨wl_mem 901 (by decide +kernel) rfl, List.forall_mem_cons.mpr ⟨wl_mem 903 (by decide +kernel) rfl, List.forall_mem_cons.mpr ⟨wl_mem 905 (by decide +kernel) rfl, List.forall_mem_cons.mpr ⟨wl_mem 907 (by decide +kernel) rfl, List.forall_mem_cons.mpr ⟨wl_mem 909 (by decide +kernel) rfl, List.forall_mem_cons.mpr ⟨wl_mem 911 (by decide +kernel) rfl, List.forall_mem_cons.mpr ⟨wl_mem 913 (by decide +kernel) rfl, List.forall_mem_cons.mpr ⟨wl_mem 915 (by decide +kernel) rfl, List.forall_mem_cons.mpr ⟨wl_mem 917 (by decide +kernel) rfl, List.forall_mem_cons.mpr ⟨wl_mem 919 (by decide +kernel) rfl, List.forall_mem_cons.mpr ⟨wl_mem 921 (by decide +kernel) rfl, List.forall_mem_cons.mpr ⟨wl_mem 923 (by decide +kernel) rfl, List.forall_mem_cons.mpr ⟨wl_mem 925 (by decide +kernel) rfl, List.forall_mem_cons.mpr ⟨wl_mem 927 (by decide +kernel) rfl, List.forall_mem_cons.mpr ⟨wl_mem 929 (by decide +kernel) rfl, List.forall_mem_cons.mpr ⟨wl_mem 931 (by decide +kernel) rfl, List.forall_mem_cons.mpr ⟨wl_mem 933 (by decide +kernel) rfl, List.forall_mem_cons.mpr ⟨wl_mem 935 (by decide +kernel) rfl, List.forall_mem_cons.mpr ⟨wl_mem 937 (by decide +kernel) rfl, List.forall_mem_cons.mpr ⟨wl_mem 939 (by decide +kernel) rfl, List.forall_mem_cons.mpr ⟨wl_mem 941 (by decide +kernel) rfl, List.forall_mem_cons.mpr ⟨wl_mem 943 (by decide +kernel) rfl, List.forall_mem_cons.mpr ⟨wl_mem 945 (by decide +kernel) rfl, List.forall_mem_cons.mpr ⟨wl_mem 947 (by decide +kernel) rfl, List.forall_mem_cons.mpr ⟨wl_mem 949 (by decide +kernel) rfl, List.forall_mem_cons.mpr ⟨wl_mem 951 (by decide +kernel) rfl, List.forall_mem_cons.mpr ⟨wl_mem 953 (by decide +kernel) rfl, List.forall_mem_cons.mpr ⟨wl_mem 955 (by decide +kernel) rfl, List.forall_mem_cons.mpr ⟨wl_mem 957 (by decide +kernel) rfl, List.forall_mem_cons.mpr ⟨wl_mem 959 (by decide +kernel) rfl, List.forall_mem_cons.mpr ⟨wl_mem 961 (by decide +kernel) rfl, List.forall_mem_cons.mpr ⟨wl_mem 963 (by decide +kernel) rfl, List.forall_mem_cons.mpr ⟨wl_mem 965 (by decide +kernel) rfl, List.forall_mem_cons.mpr ⟨wl_mem 967 (by decide +kernel) rfl, List.forall_mem_cons.mpr ⟨wl_mem 969 (by decide +kernel) rfl, List.forall_mem_cons.mpr ⟨wl_mem 971 (by decide +kernel) rfl, List.forall_mem_cons.mpr ⟨wl_mem 973 (by decide +kernel) rfl, List.forall_mem_cons.mpr ⟨wl_mem 975 (by decide +kernel) rfl, fun _ h => absurd h List.not_mem_nil⟩⟩⟩⟩⟩⟩⟩⟩⟩⟩⟩⟩⟩⟩⟩⟩⟩⟩⟩⟩⟩⟩⟩⟩⟩⟩⟩⟩⟩⟩⟩⟩⟩⟩⟩⟩⟩⟩⟩⟩
theorem nn_Mod : ∀ a, a < 40 → ∀ b, b < 40 → a ≠ b → (ft_Mod a).2.1 ≠ (ft_Mod b).2.1 := by decide +kernel
theorem ny_Mod : ∀ k, k < 40 → parseFieldDescriptor (ft_Mod k).2.2.1 = some (fy_Mod k) := by decide +kernel
theorem wl_ok : ∀ (c : Nat) (q : vw_C), wl_CL[c]? = some q → (∀ w ∈ u_ws q.1 q.2.1 q.2.2, w ∈ wl_ALL) ∧ (∀ k, k < q.2.2 → parseFieldDescriptor (q.2.1 k).2.2.1 = some (wl_TY c k)) ∧ ∀ a, a < q.2.2 → ∀ b, b < q.2.2 → a ≠ b → (q.2.1 a).2.1 ≠ (q.2.1 b).2.1 := by
  intro c q h
  match c, h with
  | 0, h => cases h; exact ⟨lw_LR_all, ny_LR, nn_LR⟩
  | 1, h => cases h; exact ⟨lw_Cut_all, ny_Cut, nn_Cut⟩
  | 2, h => cases h; exact ⟨lw_Exp_all, ny_Exp, nn_Exp⟩
  | 3, h => cases h; exact ⟨lw_Out_all, ny_Out, nn_Out⟩
  | 4, h => cases h; exact ⟨lw_Rdr_all, ny_Rdr, nn_Rdr⟩
  | 5, h => cases h; exact ⟨lw_Row_all, ny_Row, nn_Row⟩
  | 6, h => cases h; exact ⟨lw_Rul_all, ny_Rul, nn_Rul⟩
  | 7, h => cases h; exact ⟨lw_Tab_all, ny_Tab, nn_Tab⟩
  | 8, h => cases h; exact ⟨lw_Mod_all, ny_Mod, nn_Mod⟩
/-- what is known of old cells (nothing yet) -/
def wl_J (_ : Nat) (_ : State) : Prop := True
theorem wl_J_moved {n0 : Nat} {u U : State} (_ : u.vm.Alike U.vm) (_ : ∀ q : Nat, q < n0 → U.heap[q]? = u.heap[q]?) (h : wl_J n0 u) : wl_J n0 U := h
end
section
/-! The layer over the kit: a heap as four maps (kinds, references, ints, longs), split by slot; Wf: the machine inside a method, seen through these maps; Ct: a method's contract. Cells from n0 on are the run's own; of the older ones the script's alone is seen (kind wl_AS), and nothing older is written. -/
abbrev Wt : Type := Nat → Option (Nat ⊕ (Nat × Nat))
abbrev Wr : Type := Nat → Nat → Option Nat
abbrev Wi : Type := Nat → Nat → Int32
abbrev Wl : Type := Nat → Nat → Int64
/-- class numbers, slots, array classes -/
abbrev We : Type := (Nat → ClassId) × (Nat → Nat → Nat) × (Nat → ClassId)
/-- a method: name, bytes, locals, answer -/
abbrev Wm : Type := MethodName × ByteArray × Nat × Option FieldType
/-- how a method ends: an answer, or an exception of a class -/
abbrev Wo : Type := Option Value ⊕ String
abbrev Wq : Type := Wo → Nat → Wt → Wr → Wi → Wl → Prop
def wf_up1 {α : Type} (f : Nat → α) (a : Nat) (v : α) : Nat → α := fun b => if b = a then v else f b
def wf_up {α : Type} (f : Nat → Nat → α) (a k : Nat) (v : α) : Nat → Nat → α := fun b j => if b = a ∧ j = k then v else f b j
theorem wf_up1_s {α : Type} {f : Nat → α} {a : Nat} {v : α} : wf_up1 f a v a = v := if_pos rfl
theorem wf_up1_n {α : Type} {f : Nat → α} {a b : Nat} {v : α} (h : b ≠ a) : wf_up1 f a v b = f b := if_neg h
theorem wf_up_s {α : Type} {f : Nat → Nat → α} {a k : Nat} {v : α} : wf_up f a k v a k = v := if_pos ⟨rfl, rfl⟩
theorem wf_up_a {α : Type} {f : Nat → Nat → α} {a b k j : Nat} {v : α} (h : b ≠ a) : wf_up f a k v b j = f b j := if_neg fun q => h q.1
theorem wf_up_k {α : Type} {f : Nat → Nat → α} {a b k j : Nat} {v : α} (h : j ≠ k) : wf_up f a k v b j = f b j := if_neg fun q => h q.2
/-- 0: an int's slot; 1: a long's; 2: a reference's -/
def wf_kd : FieldType → Nat
  | .long => 1
  | .object _ => 2
  | .array _ => 2
  | _ => 0
/-- the value in slot k of cell a, by its type -/
def wf_v (y : FieldType) (r : Wr) (i : Wi) (g : Wl) (a k : Nat) : Value := match wf_kd y with
  | 1 => .long (g a k)
  | 2 => va_rf (r a k)
  | _ => .int (i a k)
theorem wf_v_c {y : FieldType} {r r' : Wr} {i i' : Wi} {g g' : Wl} {a k : Nat} (h1 : r' a k = r a k) (h2 : i' a k = i a k) (h3 : g' a k = g a k) : wf_v y r' i' g' a k = wf_v y r i g a k := by
  unfold wf_v
  rw [h1, h2, h3]
theorem wf_v_i {y : FieldType} {r : Wr} {i : Wi} {g : Wl} {a k : Nat} (h : wf_kd y = 0) : wf_v y r i g a k = .int (i a k) := by
  unfold wf_v
  rw [h]
  rfl
theorem wf_v_l {y : FieldType} {r : Wr} {i : Wi} {g : Wl} {a k : Nat} (h : wf_kd y = 1) : wf_v y r i g a k = .long (g a k) := by
  unfold wf_v
  rw [h]
  rfl
theorem wf_v_r {y : FieldType} {r : Wr} {i : Wi} {g : Wl} {a k : Nat} (h : wf_kd y = 2) : wf_v y r i g a k = va_rf (r a k) := by
  unfold wf_v
  rw [h]
  rfl
def wf_A (E : We) (t : Wt) (r : Wr) (i : Wi) (g : Wl) (a : Nat) (H : Heap) : Prop := match t a with
  | none => True
  | some (.inl c) => ∃ q : vw_C, wl_CL[c]? = some q ∧ t_OB a (E.1 c) q.2.2 (E.2.1 c) H (fun k => wf_v (wl_TY c k) r i g a k)
  | some (.inr (y, n)) => y < wl_AN ∧ H[a]? = some (arrV (E.2.2 y) n (fun j => wf_v (wl_AT y) r i g a j))
theorem wf_A.o {E : We} {t : Wt} {r : Wr} {i : Wi} {g : Wl} {a c : Nat} {H : Heap} (h : wf_A E t r i g a H) (ht : t a = some (.inl c)) : ∃ q : vw_C, wl_CL[c]? = some q ∧ t_OB a (E.1 c) q.2.2 (E.2.1 c) H (fun k => wf_v (wl_TY c k) r i g a k) := by
  unfold wf_A at h
  rw [ht] at h
  exact h
theorem wf_A.a {E : We} {t : Wt} {r : Wr} {i : Wi} {g : Wl} {a y n : Nat} {H : Heap} (h : wf_A E t r i g a H) (ht : t a = some (.inr (y, n))) : y < wl_AN ∧ H[a]? = some (arrV (E.2.2 y) n (fun j => wf_v (wl_AT y) r i g a j)) := by
  unfold wf_A at h
  rw [ht] at h
  exact h
theorem wf_A.io {E : We} {t : Wt} {r : Wr} {i : Wi} {g : Wl} {a c : Nat} {H : Heap} (ht : t a = some (.inl c)) (h : ∃ q : vw_C, wl_CL[c]? = some q ∧ t_OB a (E.1 c) q.2.2 (E.2.1 c) H (fun k => wf_v (wl_TY c k) r i g a k)) : wf_A E t r i g a H := by
  unfold wf_A
  rw [ht]
  exact h
theorem wf_A.ia {E : We} {t : Wt} {r : Wr} {i : Wi} {g : Wl} {a y n : Nat} {H : Heap} (ht : t a = some (.inr (y, n))) (h : y < wl_AN ∧ H[a]? = some (arrV (E.2.2 y) n (fun j => wf_v (wl_AT y) r i g a j))) : wf_A E t r i g a H := by
  unfold wf_A
  rw [ht]
  exact h
theorem wf_A.in {E : We} {t : Wt} {r : Wr} {i : Wi} {g : Wl} {a : Nat} {H : Heap} (ht : t a = none) : wf_A E t r i g a H := by
  unfold wf_A
  rw [ht]
  trivial
theorem wf_A.tr {E : We} {t t' : Wt} {r r' : Wr} {i i' : Wi} {g g' : Wl} {b : Nat} {H H' : Heap} (h : wf_A E t r i g b H) (ht : t' b = t b) (hq : H'[b]? = H[b]?) (ho : ∀ k, r' b k = r b k ∧ i' b k = i b k ∧ g' b k = g b k) : wf_A E t' r' i' g' b H' := by
  cases hb : t b with
  | none => exact wf_A.in (ht.trans hb)
  | some z =>
    cases z with
    | inl c =>
      obtain ⟨q, h1, h2⟩ := h.o hb
      exact wf_A.io (ht.trans hb) ⟨q, h1, (h2.kept hq).to (fun k _ => (wf_v_c (ho k).1 (ho k).2.1 (ho k).2.2).symm)⟩
    | inr z =>
      obtain ⟨y, n⟩ := z
      obtain ⟨h1, h2⟩ := h.a hb
      refine wf_A.ia (ht.trans hb) ⟨h1, ?_⟩
      rw [hq, h2]
      congr 2
      funext k
      exact (wf_v_c (ho k).1 (ho k).2.1 (ho k).2.2).symm
def wf_R (E : We) (n0 nx : Nat) (t : Wt) (r : Wr) (i : Wi) (g : Wl) (H : Heap) : Prop :=
  H.size = nx ∧ n0 ≤ nx ∧ (∀ a, wf_A E t r i g a H) ∧ (∀ a z, t a = some z → n0 ≤ a ∨ ∃ n, z = .inr (wl_AS, n)) ∧ ∀ a, nx ≤ a → t a = none ∧ ∀ k, r a k = none ∧ i a k = 0 ∧ g a k = 0
theorem wf_R.lt {E : We} {n0 nx : Nat} {t : Wt} {r : Wr} {i : Wi} {g : Wl} {H : Heap} {a : Nat} {z : Nat ⊕ (Nat × Nat)} (h : wf_R E n0 nx t r i g H) (ha : t a = some z) : a < nx :=
  Nat.not_le.mp fun q => by
    have h1 := (h.2.2.2.2 a q).1
    rw [ha] at h1
    cases h1
/-- one cell is written -/
theorem wf_R.put {E : We} {n0 nx : Nat} {t : Wt} {r r' : Wr} {i i' : Wi} {g g' : Wl} {H H' : Heap} {a : Nat} {z : Nat ⊕ (Nat × Nat)} (h : wf_R E n0 nx t r i g H) (hz : H'.size = H.size) (hq : ∀ q : Nat, q ≠ a → H'[q]? = H[q]?) (ha : t a = some z) (hA : wf_A E t r' i' g' a H')
    (ho : ∀ b, b ≠ a → ∀ k, r' b k = r b k ∧ i' b k = i b k ∧ g' b k = g b k) : wf_R E n0 nx t r' i' g' H' := by
  refine ⟨hz.trans h.1, h.2.1, fun b => ?_, h.2.2.2.1, fun b hb => ?_⟩
  · by_cases hba : b = a
    · rw [hba]; exact hA
    · exact (h.2.2.1 b).tr rfl (hq b hba) (ho b hba)
  · have hne : b ≠ a := fun q => by
      have := h.lt ha
      omega
    obtain ⟨h1, h2⟩ := h.2.2.2.2 b hb
    refine ⟨h1, fun k => ?_⟩
    rw [(ho b hne k).1, (ho b hne k).2.1, (ho b hne k).2.2]
    exact h2 k
/-- one cell comes -/
theorem wf_R.new {E : We} {n0 nx : Nat} {t : Wt} {r : Wr} {i : Wi} {g : Wl} {H H' : Heap} {z : Nat ⊕ (Nat × Nat)} (h : wf_R E n0 nx t r i g H) (hz : H'.size = nx + 1) (hq : ∀ q : Nat, q < nx → H'[q]? = H[q]?) (hA : wf_A E (wf_up1 t nx (some z)) r i g nx H') : wf_R E n0 (nx + 1) (wf_up1 t nx (some z)) r i g H' := by
  refine ⟨hz, Nat.le_succ_of_le h.2.1, fun b => ?_, fun b w hb => ?_, fun b hb => ?_⟩
  · by_cases hba : b = nx
    · rw [hba]; exact hA
    · by_cases hlt : b < nx
      · exact (h.2.2.1 b).tr (wf_up1_n hba) (hq b hlt) (fun k => ⟨rfl, rfl, rfl⟩)
      · exact wf_A.in (by rw [wf_up1_n hba]; exact (h.2.2.2.2 b (by omega)).1)
  · by_cases hba : b = nx
    · rw [hba]; exact Or.inl h.2.1
    · rw [wf_up1_n hba] at hb
      exact h.2.2.2.1 b w hb
  · rw [wf_up1_n (by omega)]
    exact h.2.2.2.2 b (by omega)
/-- cells come that nobody looks at -/
theorem wf_R.grow {E : We} {n0 nx nx' : Nat} {t : Wt} {r : Wr} {i : Wi} {g : Wl} {H H' : Heap} (h : wf_R E n0 nx t r i g H) (hz : H'.size = nx') (hl : nx ≤ nx') (hq : ∀ q : Nat, q < nx → H'[q]? = H[q]?) : wf_R E n0 nx' t r i g H' := by
  refine ⟨hz, Nat.le_trans h.2.1 hl, fun b => ?_, h.2.2.2.1, fun b hb => h.2.2.2.2 b (Nat.le_trans hl hb)⟩
  cases hb : t b with
  | none => exact wf_A.in hb
  | some z => exact (h.2.2.1 b).tr rfl (hq b (h.lt hb)) (fun k => ⟨rfl, rfl, rfl⟩)
def wf_K (E : We) (U : State) : Prop := (∀ (c : Nat) (q : vw_C), wl_CL[c]? = some q → u_Kn U q.1 q.2.1 q.2.2 (E.1 c) (E.2.1 c)) ∧ (∀ y, y < wl_AN → ArrOfT U (E.2.2 y) (wl_AT y) ∧ va_RA U (E.2.2 y) (wl_AT y)) ∧ ∀ C0 ∈ wl_OV, va_AO C0 U
theorem wf_K.moved {E : We} {u U : State} (hvm : u.vm.Alike U.vm) (h : wf_K E u) : wf_K E U := ⟨fun c q hq => u_Kn_moved hvm (h.1 c q hq), fun y hy => ⟨arrOfT_moved hvm (h.2.1 y hy).1, (h.2.1 y hy).2.moved hvm⟩, fun C0 hC => (h.2.2 C0 hC).moved hvm⟩
/-- old cells are as they were -/
def wf_O (n0 : Nat) (H0 H : Heap) : Prop := ∀ q : Nat, q < n0 → H[q]? = H0[q]?
def wf_out (n0 : Nat) (s t : State) (o : Outcome) : Wo → Prop
  | .inl v => o = .returned v
  | .inr X => ∃ (a : Nat) (ce : Cell), o = .threw a ∧ n0 ≤ a ∧ t.heap[a]? = some ce ∧ ce.vm = .none ∧ s.vm.findClass X = some ce.cls
def wf_Q (E : We) (n0 : Nat) (Q : Wq) : Array Value → State → Outcome → State → Prop := fun _ st o u => ∃ (v : Wo) (nx : Nat) (t : Wt) (r : Wr) (i : Wi) (g : Wl), wf_out n0 st u o v ∧ wf_R E n0 nx t r i g u.heap ∧ wf_O n0 st.heap u.heap ∧ Q v nx t r i g
def wf_F (n0 mc ms : Nat) (st : State) (u : State) : Prop := ∃ L : List Loc, st.WarmedH u.vm ∧ st.sameButNew ({ u with vm := st.vm } : State) L mc ms ∧ ∀ q ∈ L, n0 ≤ q.base
def wf_rm (d mc ms : Nat) : Room := { frames := d, cells := mc, slots := ms, locals := 40 * d }
abbrev wf_ws (M : Wm) : List Cond := Cond.code M.1 M.2.1 M.2.2.1 M.2.2.2 :: wl_ALL
/-- what a method begins with -/
def wf_P (E : We) (n0 : Nat) (av : List Value) (nx : Nat) (t : Wt) (r : Wr) (i : Wi) (g : Wl) : Array Value → State → Prop := va_Pc av (fun U => wf_R E n0 nx t r i g U.heap ∧ wf_K E U ∧ wl_J n0 U)
/-- A CONTRACT: method M, called with av over the maps, ends as Q says; d frames, mc cells of ms slots -/
def Ct (l : Launch) (E : We) (n0 : Nat) (M : Wm) (d mc ms : Nat) (av : List Value) (nx : Nat) (t : Wt) (r : Wr) (i : Wi) (g : Wl) (Q : Wq) : Prop :=
  MetFree l M.1 (headSpec (wf_ws M) (wf_rm d mc ms)) (wf_P E n0 av nx t r i g) (fun _ _ _ _ _ => True) (fun a st o u => wf_Q E n0 Q a st o u ∧ wf_F n0 mc ms st u)
theorem Ct.mono {l : Launch} {E : We} {n0 : Nat} {M : Wm} {d mc ms : Nat} {av : List Value} {nx : Nat} {t : Wt} {r : Wr} {i : Wi} {g : Wl} {Q Q' : Wq} (h : Ct l E n0 M d mc ms av nx t r i g Q) (hq : ∀ v nx t r i g, Q v nx t r i g → Q' v nx t r i g) : Ct l E n0 M d mc ms av nx t r i g Q' := by
  intro p e h1 h2 h3 s m args below h4 h5 h6 h7
  obtain ⟨n, o, a1, a2, a3, ⟨v, nx', t', r', i', g', b1, b2, b3, b4⟩, a5⟩ := h p e h1 h2 h3 s m args below h4 h5 h6 h7
  exact ⟨n, o, a1, a2, a3, ⟨v, nx', t', r', i', g', b1, b2, b3, hq _ _ _ _ _ _ b4⟩, a5⟩
/-- a contract of a method that always answers, as the kit has it -/
theorem Ct.met {l : Launch} {E : We} {n0 : Nat} {M : Wm} {d mc ms : Nat} {av : List Value} {nx : Nat} {t : Wt} {r : Wr} {i : Wi} {g : Wl} {Q : Wq} (h : Ct l E n0 M d mc ms av nx t r i g Q) (hq : ∀ X nx t r i g, ¬ Q (.inr X) nx t r i g) :
    Met l M.1 (wf_ws M) (wf_rm d mc ms) (wf_P E n0 av nx t r i g) (wf_Q E n0 Q) mc ms (fun q => n0 ≤ q) := by
  intro p e h1 h2 h3 s m args below h4 h5 h6 h7
  obtain ⟨n, o, a1, a2, a3, ⟨v, nx', t', r', i', g', b1, b2, b3, b4⟩, L, c1, c2, c3⟩ := h p e h1 h2 h3 s m args below h4 h5 h6 h7
  refine ⟨n, o, a1, a2, a3, ⟨v, nx', t', r', i', g', b1, b2, b3, b4⟩, L, ⟨?_, c1, c2⟩, c3⟩
  cases v with
  | inl v => exact ⟨v, b1⟩
  | inr X => exact absurd b4 (hq _ _ _ _ _ _)
/-- what holds of the machine inside a method -/
def wf_C (E : We) (n0 : Nat) (M : Wm) (p : Program) (s : State) (m : MethodId) (args : Array Value) (meth : Method) (c : Code) : Prop :=
  p.tables.exec = Jvm.exec ∧ c.code = M.2.1 ∧ c.maxLocals = M.2.2.1 ∧ meth.sig.returnType = M.2.2.2 ∧ s.vm.findClass M.1.cls = some m.cls ∧ (∀ w ∈ wl_ALL, w.before args s = true) ∧ meth.locks = false ∧ meth.name = M.1.name ∧ wf_K E s ∧ wl_J n0 s
/-- the end of a method -/
def wf_Z (E : We) (n0 mc ms : Nat) (Q : Wq) (below : List Frame) (args : Array Value) (s : State) : State → Prop := fun u => ∃ o, u.status = .running ∧ Ended u below o ∧ wf_Q E n0 Q args s o u ∧ wf_F n0 mc ms s u
/-- THE MACHINE INSIDE A METHOD: at pc, with the locals L, the operand stack st, over the maps; bk cells of bn slots may still be made -/
def Wf (l : Launch) (E : We) (n0 : Nat) (M : Wm) (d mc ms : Nat) (Q : Wq) (bk bn : Nat) (pc : Nat) (L : List (Nat × Value)) (st : List Value) (nx : Nat) (t : Wt) (r : Wr) (i : Wi) (g : Wl) : Prop :=
  ∀ (p : Program) (e : Env) (s : State) (m : MethodId) (args : Array Value) (below : List Frame) (meth : Method) (c : Code), wf_C E n0 M p s m args meth c →
  ∀ (H : Heap) (locs : List Loc) (cells slots : Nat) (ls : Array Slot), cells + bk ≤ mc → slots + bn ≤ ms → wf_R E n0 nx t r i g H → wf_O n0 s.heap H → (∀ q ∈ locs, n0 ≤ q.base) → lv_has ls M.2.2.1 L →
  W p l e (wf_rm d mc ms) s m args below meth c H locs cells slots (wf_Z E n0 mc ms Q below args s) (F0 m pc ls st)
/-! the locals -/
def wf_isL : Value → Bool
  | .long _ => true
  | .double _ => true
  | _ => false
theorem wf_isL_c (v : Value) (h : wf_isL v = false) : ¬ v.category = 2 := by
  cases v <;> simp [wf_isL, Value.category] at h ⊢
def wf_get : List (Nat × Value) → Nat → Option Value
  | [], _ => none
  | (k, v) :: q, j => match Nat.beq k j with
    | true => some v
    | false => wf_get q j
def wf_d1 : List (Nat × Value) → Nat → List (Nat × Value)
  | [], _ => []
  | (k, v) :: q, j => match Nat.beq k j || (Nat.beq (k + 1) j && wf_isL v) with
    | true => wf_d1 q j
    | false => (k, v) :: wf_d1 q j
def wf_d2 : List (Nat × Value) → Nat → List (Nat × Value)
  | [], _ => []
  | (k, v) :: q, j => match Nat.beq k j || (Nat.beq k (j + 1) || (Nat.beq (k + 1) j && wf_isL v)) with
    | true => wf_d2 q j
    | false => (k, v) :: wf_d2 q j
theorem wf_get_mem {L : List (Nat × Value)} {j : Nat} {v : Value} (h : wf_get L j = some v) : (j, v) ∈ L := by
  induction L with
  | nil => cases h
  | cons q k ih =>
    obtain ⟨a, b⟩ := q
    cases hb : Nat.beq a j with
    | true =>
      simp only [wf_get, hb] at h
      rw [← Nat.eq_of_beq_eq_true hb, Option.some.inj h]
      exact List.mem_cons_self
    | false =>
      simp only [wf_get, hb] at h
      exact List.mem_cons_of_mem _ (ih h)
theorem wf_get_at {ls : Array Slot} {nL : Nat} {L : List (Nat × Value)} {j : Nat} {v : Value} (h : lv_has ls nL L) (hg : wf_get L j = some v) : ls[j]? = some (.val v) := h.2.2 (j, v) (wf_get_mem hg)
theorem wf_get_ix {L : List (Nat × Value)} {j : Nat} {v : Value} (hg : wf_get L j = some v) : ∃ q : Nat, L[q]? = some (j, v) := List.getElem?_of_mem (wf_get_mem hg)
theorem wf_d1_mem {L : List (Nat × Value)} {j : Nat} {q : Nat × Value} (h : q ∈ wf_d1 L j) : q ∈ L ∧ q.1 ≠ j ∧ ¬ (q.1 + 1 = j ∧ q.2.category = 2) := by
  induction L with
  | nil => cases h
  | cons z k ih =>
    obtain ⟨a, b⟩ := z
    cases hb : (Nat.beq a j || (Nat.beq (a + 1) j && wf_isL b)) with
    | true =>
      simp only [wf_d1, hb] at h
      exact ⟨List.mem_cons_of_mem _ (ih h).1, (ih h).2⟩
    | false =>
      simp only [wf_d1, hb] at h
      rcases List.mem_cons.mp h with rfl | h
      · rw [Bool.or_eq_false_iff] at hb
        refine ⟨List.mem_cons_self, Nat.ne_of_beq_eq_false hb.1, fun ⟨q1, q2⟩ => ?_⟩
        have h2 := hb.2
        rw [show Nat.beq (a + 1) j = true by rw [← q1]; exact Nat.beq_refl _, Bool.true_and] at h2
        exact wf_isL_c b h2 q2
      · exact ⟨List.mem_cons_of_mem _ (ih h).1, (ih h).2⟩
theorem wf_d2_mem {L : List (Nat × Value)} {j : Nat} {q : Nat × Value} (h : q ∈ wf_d2 L j) : q ∈ L ∧ q.1 ≠ j ∧ q.1 ≠ j + 1 ∧ ¬ (q.1 + 1 = j ∧ q.2.category = 2) := by
  induction L with
  | nil => cases h
  | cons z k ih =>
    obtain ⟨a, b⟩ := z
    cases hb : (Nat.beq a j || (Nat.beq a (j + 1) || (Nat.beq (a + 1) j && wf_isL b))) with
    | true =>
      simp only [wf_d2, hb] at h
      exact ⟨List.mem_cons_of_mem _ (ih h).1, (ih h).2⟩
    | false =>
      simp only [wf_d2, hb] at h
      rcases List.mem_cons.mp h with rfl | h
      · rw [Bool.or_eq_false_iff, Bool.or_eq_false_iff] at hb
        refine ⟨List.mem_cons_self, Nat.ne_of_beq_eq_false hb.1, Nat.ne_of_beq_eq_false hb.2.1, fun ⟨q1, q2⟩ => ?_⟩
        have h2 := hb.2.2
        rw [show Nat.beq (a + 1) j = true by rw [← q1]; exact Nat.beq_refl _, Bool.true_and] at h2
        exact wf_isL_c b h2 q2
      · exact ⟨List.mem_cons_of_mem _ (ih h).1, (ih h).2⟩
theorem wf_d1_has {ls : Array Slot} {nL : Nat} {L : List (Nat × Value)} {j : Nat} {v : Value} (h : lv_has ls nL ((j, v) :: L.filter (fun q => !(q.1 == j) && !(q.1 + 1 == j && q.2.category == 2)))) : lv_has ls nL ((j, v) :: wf_d1 L j) := by
  refine ⟨h.1, h.2.1, fun q hq => h.2.2 q ?_⟩
  rcases List.mem_cons.mp hq with rfl | hq
  · exact List.mem_cons_self
  · obtain ⟨h1, h2, h3⟩ := wf_d1_mem hq
    refine List.mem_cons_of_mem _ (List.mem_filter.mpr ⟨h1, ?_⟩)
    simp [h2]
    by_cases q1 : q.1 + 1 = j
    · exact Or.inr (fun q2 => h3 ⟨q1, q2⟩)
    · exact Or.inl q1
theorem wf_d2_has {ls : Array Slot} {nL : Nat} {L : List (Nat × Value)} {j : Nat} {v : Value} (h : lv_has ls nL ((j, v) :: L.filter (fun q => !(q.1 == j) && (!(q.1 == j + 1) && !(q.1 + 1 == j && q.2.category == 2))))) : lv_has ls nL ((j, v) :: wf_d2 L j) := by
  refine ⟨h.1, h.2.1, fun q hq => h.2.2 q ?_⟩
  rcases List.mem_cons.mp hq with rfl | hq
  · exact List.mem_cons_self
  · obtain ⟨h1, h2, h3, h4⟩ := wf_d2_mem hq
    refine List.mem_cons_of_mem _ (List.mem_filter.mpr ⟨h1, ?_⟩)
    simp [h2, h3]
    by_cases q1 : q.1 + 1 = j
    · exact Or.inr (fun q2 => h4 ⟨q1, q2⟩)
    · exact Or.inl q1
/-- what L' lists, L lists -/
def wf_all (L : List (Nat × Value)) : List (Nat × Value) → Prop
  | [] => True
  | q :: k => wf_get L q.1 = some q.2 ∧ wf_all L k
theorem wf_all_mem {L L' : List (Nat × Value)} (h : wf_all L L') {q : Nat × Value} (hq : q ∈ L') : q ∈ L := by
  induction L' with
  | nil => cases hq
  | cons z k ih =>
    rcases List.mem_cons.mp hq with rfl | hq
    · exact wf_get_mem h.1
    · exact ih h.2 hq
section WfBase
variable {l : Launch} {E : We} {n0 : Nat} {M : Wm} {d mc ms : Nat} {Q : Wq} {bk bn pc : Nat} {L : List (Nat × Value)} {st : List Value} {nx : Nat} {t : Wt} {r : Wr} {i : Wi} {g : Wl}
theorem Wf.to {L' : List (Nat × Value)} (hs : wf_all L L') (k : Wf l E n0 M d mc ms Q bk bn pc L' st nx t r i g) : Wf l E n0 M d mc ms Q bk bn pc L st nx t r i g :=
  fun p e s m args below meth c C H locs cells slots ls h1 h2 h3 h4 h5 h6 => k p e s m args below meth c C H locs cells slots ls h1 h2 h3 h4 h5 ⟨h6.1, h6.2.1, fun q hq => h6.2.2 q (wf_all_mem hs hq)⟩
/-- less may be made -/
theorem Wf.less {bk' bn' : Nat} (a1 : bk' ≤ bk) (a2 : bn' ≤ bn) (k : Wf l E n0 M d mc ms Q bk' bn' pc L st nx t r i g) : Wf l E n0 M d mc ms Q bk bn pc L st nx t r i g :=
  fun p e s m args below meth c C H locs cells slots ls h1 h2 h3 h4 h5 h6 => k p e s m args below meth c C H locs cells slots ls (by omega) (by omega) h3 h4 h5 h6
theorem wf_mono {p : Program} {e : Env} {R : Room} {s : State} {m : MethodId} {args : Array Value} {below : List Frame} {meth : Method} {c : Code} {H : Heap} {locs : List Loc} {cells slots : Nat} {Z Z' : State → Prop} {f : JFrame} (h : W p l e R s m args below meth c H locs cells slots Z f) (hq : ∀ u, Z u → Z' u) : W p l e R s m args below meth c H locs cells slots Z' f := by
  intro T hT X
  obtain ⟨u, a, b⟩ := h T hT X
  exact ⟨u, a, hq u b⟩
theorem wf_MQ {below : List Frame} {args : Array Value} {s u : State} (h : MQ below (wf_Q E n0 Q) args s mc ms (fun q => n0 ≤ q) u) : wf_Z E n0 mc ms Q below args s u := by
  obtain ⟨o, h1, h2, h3, L', h4, h5⟩ := h
  exact ⟨o, h1, h2, h3, L', h4.2.1, h4.2.2, h5⟩
theorem wf_ireturn {x : Int32} (hr : M.2.2.2 = some .int) (hd : decode M.2.1 pc = .ok (.ireturn, 1)) (hq : Q (.inl (some (.int x))) nx t r i g) : Wf l E n0 M d mc ms Q bk bn pc L [.int x] nx t r i g :=
  fun p e s m args below meth c C H locs cells slots ls h1 h2 h3 h4 h5 h6 => W.widen (k := mc) (n := ms) (by omega) (by omega) (wf_mono (W.iret (Qc := wf_Q E n0 Q) (free := fun q => n0 ≤ q) C.1 C.2.1 (C.2.2.2.1.trans hr) (fun u hu hW => ⟨.inl (some (.int x)), nx, t, r, i, g, rfl, by rw [hu]; exact h3, by rw [hu]; exact h4, hq⟩) h5 hd C.2.2.2.2.2.2.1) (fun u hu => wf_MQ hu))
theorem wf_zreturn {x : Int32} (hr : M.2.2.2 = some .boolean) (hx : narrow .boolean (.int x) = .int x) (hd : decode M.2.1 pc = .ok (.ireturn, 1)) (hq : Q (.inl (some (.int x))) nx t r i g) : Wf l E n0 M d mc ms Q bk bn pc L [.int x] nx t r i g :=
  fun p e s m args below meth c C H locs cells slots ls h1 h2 h3 h4 h5 h6 => W.widen (k := mc) (n := ms) (by omega) (by omega) (wf_mono (W.zret (Qc := wf_Q E n0 Q) (free := fun q => n0 ≤ q) C.1 C.2.1 (C.2.2.2.1.trans hr) hx (fun u hu hW => ⟨.inl (some (.int x)), nx, t, r, i, g, rfl, by rw [hu]; exact h3, by rw [hu]; exact h4, hq⟩) h5 hd C.2.2.2.2.2.2.1) (fun u hu => wf_MQ hu))
theorem wf_lreturn {x : Int64} (hr : M.2.2.2 = some .long) (hd : decode M.2.1 pc = .ok (.lreturn, 1)) (hq : Q (.inl (some (.long x))) nx t r i g) : Wf l E n0 M d mc ms Q bk bn pc L [.long x] nx t r i g :=
  fun p e s m args below meth c C H locs cells slots ls h1 h2 h3 h4 h5 h6 => W.widen (k := mc) (n := ms) (by omega) (by omega) (wf_mono (W.lret (Qc := wf_Q E n0 Q) (free := fun q => n0 ≤ q) C.1 C.2.1 (C.2.2.2.1.trans hr) (fun u hu hW => ⟨.inl (some (.long x)), nx, t, r, i, g, rfl, by rw [hu]; exact h3, by rw [hu]; exact h4, hq⟩) h5 hd C.2.2.2.2.2.2.1) (fun u hu => wf_MQ hu))
theorem wf_areturn {x : Nat} {rt : FieldType} (hr : M.2.2.2 = some rt) (hrt : (∃ n, rt = .object n) ∨ ∃ y, rt = .array y) (hd : decode M.2.1 pc = .ok (.areturn, 1)) (hq : Q (.inl (some (.ref x))) nx t r i g) : Wf l E n0 M d mc ms Q bk bn pc L [.ref x] nx t r i g :=
  fun p e s m args below meth c C H locs cells slots ls h1 h2 h3 h4 h5 h6 => W.widen (k := mc) (n := ms) (by omega) (by omega) (wf_mono (W.aret (Qc := wf_Q E n0 Q) (free := fun q => n0 ≤ q) C.1 C.2.1 (C.2.2.2.1.trans hr) hrt (Or.inr ⟨x, rfl⟩) (fun u hu hW => ⟨.inl (some (.ref x)), nx, t, r, i, g, rfl, by rw [hu]; exact h3, by rw [hu]; exact h4, hq⟩) h5 hd C.2.2.2.2.2.2.1) (fun u hu => wf_MQ hu))
theorem wf_return (hr : M.2.2.2 = none) (hd : decode M.2.1 pc = .ok (.return_, 1)) (hq : Q (.inl none) nx t r i g) : Wf l E n0 M d mc ms Q bk bn pc L [] nx t r i g :=
  fun p e s m args below meth c C H locs cells slots ls h1 h2 h3 h4 h5 h6 => W.widen (k := mc) (n := ms) (by omega) (by omega) (wf_mono (W.vret (Qc := wf_Q E n0 Q) (free := fun q => n0 ≤ q) C.1 C.2.1 (C.2.2.2.1.trans hr) (fun u hu hW => ⟨.inl none, nx, t, r, i, g, rfl, by rw [hu]; exact h3, by rw [hu]; exact h4, hq⟩) h5 hd C.2.2.2.2.2.2.1) (fun u hu => wf_MQ hu))
/-- a contract out of the walk -/
theorem Ct.of {av : List Value} (hy : plainName M.1.cls = true) (hn : (lg_sl av).length ≤ M.2.2.1) (h : Wf l E n0 M d mc ms Q mc ms 0 (lv_args 0 av) [] nx t r i g) : Ct l E n0 M d mc ms av nx t r i g Q := by
  refine MetFree.of_bodyS (code := M.2.1) (maxLocals := M.2.2.1) (ret := M.2.2.2) hy ?_ ?_
  · intro args s m h hn
    obtain ⟨meth, c, h1, h2, h3, h4, h5, h6, -, -⟩ := Cond.code_spec hn (atoms_spec (ws := wf_ws M) h _ List.mem_cons_self)
    exact ⟨meth, c, h1, h2, h3, h4, h5, h6⟩
  · intro p e s m args below meth c s₁ B hml hP _
    obtain ⟨rfl, hR, hK, hJ⟩ := hP
    have hh0 : s₁.heap = s.heap := by rw [B.state]; rfl
    have hts := atoms_spec (ws := wf_ws M) B.pre
    have C : wf_C E n0 M p s m av.toArray meth c := ⟨B.exec, B.bytes, hml, B.returns, findClass_of_methodNamed B.named, fun w hw => hts w (List.mem_cons_of_mem _ hw), B.notSynchronized, (name_of_methodNamed B.named B.method).1, hK, hJ⟩
    have K := h p e s m av.toArray below meth c C s.heap [] 0 0 _ (by omega) (by omega) hR (fun _ _ => rfl) (fun q hq => by cases hq) (lv_entry av hn)
    rw [← lg_entry_eq] at K
    obtain ⟨u, a1, o, b1, b2, b3, b4⟩ := K s₁ hh0 (Stand.of_body B)
    exact ⟨u, o, a1, b1, b2, b3, b4⟩
end WfBase
end
section
section WfRows
variable {l : Launch} {E : We} {n0 : Nat} {M : Wm} {d mc ms : Nat} {Q : Wq} {bk bn pc : Nat} {L : List (Nat × Value)} {st : List Value} {nx : Nat} {t : Wt} {r : Wr} {i : Wi} {g : Wl}
theorem wf_iadd {x y : Int32} (hd : decode M.2.1 pc = .ok (.iadd, 1)) (k : Wf l E n0 M d mc ms Q bk bn (pc + 1) L (.int (x + y) :: st) nx t r i g) : Wf l E n0 M d mc ms Q bk bn pc L (.int y :: .int x :: st) nx t r i g :=
  fun p e s m args below meth c C H locs cells slots ls h1 h2 h3 h4 h5 h6 => lv_iadd C.1 C.2.1 hd (k p e s m args below meth c C H locs cells slots ls h1 h2 h3 h4 h5 h6)
theorem wf_isub {x y : Int32} (hd : decode M.2.1 pc = .ok (.isub, 1)) (k : Wf l E n0 M d mc ms Q bk bn (pc + 1) L (.int (x - y) :: st) nx t r i g) : Wf l E n0 M d mc ms Q bk bn pc L (.int y :: .int x :: st) nx t r i g :=
  fun p e s m args below meth c C H locs cells slots ls h1 h2 h3 h4 h5 h6 => lv_isub C.1 C.2.1 hd (k p e s m args below meth c C H locs cells slots ls h1 h2 h3 h4 h5 h6)
theorem wf_imul {x y : Int32} (hd : decode M.2.1 pc = .ok (.imul, 1)) (k : Wf l E n0 M d mc ms Q bk bn (pc + 1) L (.int (x * y) :: st) nx t r i g) : Wf l E n0 M d mc ms Q bk bn pc L (.int y :: .int x :: st) nx t r i g :=
  fun p e s m args below meth c C H locs cells slots ls h1 h2 h3 h4 h5 h6 => lv_imul C.1 C.2.1 hd (k p e s m args below meth c C H locs cells slots ls h1 h2 h3 h4 h5 h6)
theorem wf_iand {x y : Int32} (hd : decode M.2.1 pc = .ok (.iand, 1)) (k : Wf l E n0 M d mc ms Q bk bn (pc + 1) L (.int (x &&& y) :: st) nx t r i g) : Wf l E n0 M d mc ms Q bk bn pc L (.int y :: .int x :: st) nx t r i g :=
  fun p e s m args below meth c C H locs cells slots ls h1 h2 h3 h4 h5 h6 => lv_iand C.1 C.2.1 hd (k p e s m args below meth c C H locs cells slots ls h1 h2 h3 h4 h5 h6)
theorem wf_ior {x y : Int32} (hd : decode M.2.1 pc = .ok (.ior, 1)) (k : Wf l E n0 M d mc ms Q bk bn (pc + 1) L (.int (x ||| y) :: st) nx t r i g) : Wf l E n0 M d mc ms Q bk bn pc L (.int y :: .int x :: st) nx t r i g :=
  fun p e s m args below meth c C H locs cells slots ls h1 h2 h3 h4 h5 h6 => lv_ior C.1 C.2.1 hd (k p e s m args below meth c C H locs cells slots ls h1 h2 h3 h4 h5 h6)
theorem wf_ixor {x y : Int32} (hd : decode M.2.1 pc = .ok (.ixor, 1)) (k : Wf l E n0 M d mc ms Q bk bn (pc + 1) L (.int (x ^^^ y) :: st) nx t r i g) : Wf l E n0 M d mc ms Q bk bn pc L (.int y :: .int x :: st) nx t r i g :=
  fun p e s m args below meth c C H locs cells slots ls h1 h2 h3 h4 h5 h6 => lv_ixor C.1 C.2.1 hd (k p e s m args below meth c C H locs cells slots ls h1 h2 h3 h4 h5 h6)
theorem wf_ishl {x y : Int32} (hd : decode M.2.1 pc = .ok (.ishl, 1)) (k : Wf l E n0 M d mc ms Q bk bn (pc + 1) L (.int (x <<< (y &&& 31)) :: st) nx t r i g) : Wf l E n0 M d mc ms Q bk bn pc L (.int y :: .int x :: st) nx t r i g :=
  fun p e s m args below meth c C H locs cells slots ls h1 h2 h3 h4 h5 h6 => lv_ishl C.1 C.2.1 hd (k p e s m args below meth c C H locs cells slots ls h1 h2 h3 h4 h5 h6)
theorem wf_ishr {x y : Int32} (hd : decode M.2.1 pc = .ok (.ishr, 1)) (k : Wf l E n0 M d mc ms Q bk bn (pc + 1) L (.int (x >>> (y &&& 31)) :: st) nx t r i g) : Wf l E n0 M d mc ms Q bk bn pc L (.int y :: .int x :: st) nx t r i g :=
  fun p e s m args below meth c C H locs cells slots ls h1 h2 h3 h4 h5 h6 => lv_ishr C.1 C.2.1 hd (k p e s m args below meth c C H locs cells slots ls h1 h2 h3 h4 h5 h6)
theorem wf_idiv {x y : Int32} (hd : decode M.2.1 pc = .ok (.idiv, 1)) (hne : ¬ y = 0) (k : Wf l E n0 M d mc ms Q bk bn (pc + 1) L (.int (x / y) :: st) nx t r i g) : Wf l E n0 M d mc ms Q bk bn pc L (.int y :: .int x :: st) nx t r i g :=
  fun p e s m args below meth c C H locs cells slots ls h1 h2 h3 h4 h5 h6 => lv_idiv C.1 C.2.1 hd hne (k p e s m args below meth c C H locs cells slots ls h1 h2 h3 h4 h5 h6)
theorem wf_irem {x y : Int32} (hd : decode M.2.1 pc = .ok (.irem, 1)) (hne : ¬ y = 0) (k : Wf l E n0 M d mc ms Q bk bn (pc + 1) L (.int (x - x / y * y) :: st) nx t r i g) : Wf l E n0 M d mc ms Q bk bn pc L (.int y :: .int x :: st) nx t r i g :=
  fun p e s m args below meth c C H locs cells slots ls h1 h2 h3 h4 h5 h6 => lv_irem C.1 C.2.1 hd hne (k p e s m args below meth c C H locs cells slots ls h1 h2 h3 h4 h5 h6)
theorem wf_ineg {x : Int32} (hd : decode M.2.1 pc = .ok (.ineg, 1)) (k : Wf l E n0 M d mc ms Q bk bn (pc + 1) L (.int (-x) :: st) nx t r i g) : Wf l E n0 M d mc ms Q bk bn pc L (.int x :: st) nx t r i g :=
  fun p e s m args below meth c C H locs cells slots ls h1 h2 h3 h4 h5 h6 => lv_ineg C.1 C.2.1 hd (k p e s m args below meth c C H locs cells slots ls h1 h2 h3 h4 h5 h6)
theorem wf_iushr {x y : Int32} (hd : decode M.2.1 pc = .ok (.iushr, 1)) (k : Wf l E n0 M d mc ms Q bk bn (pc + 1) L (.int ((x.toUInt32 >>> (y.toUInt32 &&& Int32.toUInt32 31)).toInt32) :: st) nx t r i g) : Wf l E n0 M d mc ms Q bk bn pc L (.int y :: .int x :: st) nx t r i g :=
  fun p e s m args below meth c C H locs cells slots ls h1 h2 h3 h4 h5 h6 => lv_iushr C.1 C.2.1 hd rfl (k p e s m args below meth c C H locs cells slots ls h1 h2 h3 h4 h5 h6)
theorem wf_ladd {x y : Int64} (hd : decode M.2.1 pc = .ok (.ladd, 1)) (k : Wf l E n0 M d mc ms Q bk bn (pc + 1) L (.long (x + y) :: st) nx t r i g) : Wf l E n0 M d mc ms Q bk bn pc L (.long y :: .long x :: st) nx t r i g :=
  fun p e s m args below meth c C H locs cells slots ls h1 h2 h3 h4 h5 h6 => lv_ladd C.1 C.2.1 hd (k p e s m args below meth c C H locs cells slots ls h1 h2 h3 h4 h5 h6)
theorem wf_lsub {x y : Int64} (hd : decode M.2.1 pc = .ok (.lsub, 1)) (k : Wf l E n0 M d mc ms Q bk bn (pc + 1) L (.long (x - y) :: st) nx t r i g) : Wf l E n0 M d mc ms Q bk bn pc L (.long y :: .long x :: st) nx t r i g :=
  fun p e s m args below meth c C H locs cells slots ls h1 h2 h3 h4 h5 h6 => lv_lsub C.1 C.2.1 hd (k p e s m args below meth c C H locs cells slots ls h1 h2 h3 h4 h5 h6)
theorem wf_lmul {x y : Int64} (hd : decode M.2.1 pc = .ok (.lmul, 1)) (k : Wf l E n0 M d mc ms Q bk bn (pc + 1) L (.long (x * y) :: st) nx t r i g) : Wf l E n0 M d mc ms Q bk bn pc L (.long y :: .long x :: st) nx t r i g :=
  fun p e s m args below meth c C H locs cells slots ls h1 h2 h3 h4 h5 h6 => lv_lmul C.1 C.2.1 hd (k p e s m args below meth c C H locs cells slots ls h1 h2 h3 h4 h5 h6)
theorem wf_land {x y : Int64} (hd : decode M.2.1 pc = .ok (.land, 1)) (k : Wf l E n0 M d mc ms Q bk bn (pc + 1) L (.long (x &&& y) :: st) nx t r i g) : Wf l E n0 M d mc ms Q bk bn pc L (.long y :: .long x :: st) nx t r i g :=
  fun p e s m args below meth c C H locs cells slots ls h1 h2 h3 h4 h5 h6 => lv_land C.1 C.2.1 hd (k p e s m args below meth c C H locs cells slots ls h1 h2 h3 h4 h5 h6)
theorem wf_lor {x y : Int64} (hd : decode M.2.1 pc = .ok (.lor, 1)) (k : Wf l E n0 M d mc ms Q bk bn (pc + 1) L (.long (x ||| y) :: st) nx t r i g) : Wf l E n0 M d mc ms Q bk bn pc L (.long y :: .long x :: st) nx t r i g :=
  fun p e s m args below meth c C H locs cells slots ls h1 h2 h3 h4 h5 h6 => lv_lor C.1 C.2.1 hd (k p e s m args below meth c C H locs cells slots ls h1 h2 h3 h4 h5 h6)
theorem wf_lxor {x y : Int64} (hd : decode M.2.1 pc = .ok (.lxor, 1)) (k : Wf l E n0 M d mc ms Q bk bn (pc + 1) L (.long (x ^^^ y) :: st) nx t r i g) : Wf l E n0 M d mc ms Q bk bn pc L (.long y :: .long x :: st) nx t r i g :=
  fun p e s m args below meth c C H locs cells slots ls h1 h2 h3 h4 h5 h6 => lv_lxor C.1 C.2.1 hd (k p e s m args below meth c C H locs cells slots ls h1 h2 h3 h4 h5 h6)
theorem wf_ldiv {x y : Int64} (hd : decode M.2.1 pc = .ok (.ldiv, 1)) (hne : ¬ y = 0) (k : Wf l E n0 M d mc ms Q bk bn (pc + 1) L (.long (x / y) :: st) nx t r i g) : Wf l E n0 M d mc ms Q bk bn pc L (.long y :: .long x :: st) nx t r i g :=
  fun p e s m args below meth c C H locs cells slots ls h1 h2 h3 h4 h5 h6 => lv_ldiv C.1 C.2.1 hd hne (k p e s m args below meth c C H locs cells slots ls h1 h2 h3 h4 h5 h6)
theorem wf_lrem {x y : Int64} (hd : decode M.2.1 pc = .ok (.lrem, 1)) (hne : ¬ y = 0) (k : Wf l E n0 M d mc ms Q bk bn (pc + 1) L (.long (x - x / y * y) :: st) nx t r i g) : Wf l E n0 M d mc ms Q bk bn pc L (.long y :: .long x :: st) nx t r i g :=
  fun p e s m args below meth c C H locs cells slots ls h1 h2 h3 h4 h5 h6 => lv_lrem C.1 C.2.1 hd hne (k p e s m args below meth c C H locs cells slots ls h1 h2 h3 h4 h5 h6)
theorem wf_lneg {x : Int64} (hd : decode M.2.1 pc = .ok (.lneg, 1)) (k : Wf l E n0 M d mc ms Q bk bn (pc + 1) L (.long (-x) :: st) nx t r i g) : Wf l E n0 M d mc ms Q bk bn pc L (.long x :: st) nx t r i g :=
  fun p e s m args below meth c C H locs cells slots ls h1 h2 h3 h4 h5 h6 => lv_lneg C.1 C.2.1 hd (k p e s m args below meth c C H locs cells slots ls h1 h2 h3 h4 h5 h6)
theorem wf_i2l {x : Int32} (hd : decode M.2.1 pc = .ok (.i2l, 1)) (k : Wf l E n0 M d mc ms Q bk bn (pc + 1) L (.long (x.toInt64) :: st) nx t r i g) : Wf l E n0 M d mc ms Q bk bn pc L (.int x :: st) nx t r i g :=
  fun p e s m args below meth c C H locs cells slots ls h1 h2 h3 h4 h5 h6 => lv_i2l C.1 C.2.1 hd rfl (k p e s m args below meth c C H locs cells slots ls h1 h2 h3 h4 h5 h6)
theorem wf_l2i {x : Int64} (hd : decode M.2.1 pc = .ok (.l2i, 1)) (k : Wf l E n0 M d mc ms Q bk bn (pc + 1) L (.int (x.toInt32) :: st) nx t r i g) : Wf l E n0 M d mc ms Q bk bn pc L (.long x :: st) nx t r i g :=
  fun p e s m args below meth c C H locs cells slots ls h1 h2 h3 h4 h5 h6 => lv_l2i C.1 C.2.1 hd rfl (k p e s m args below meth c C H locs cells slots ls h1 h2 h3 h4 h5 h6)
theorem wf_lushr {x : Int64} {y : Int32} (hd : decode M.2.1 pc = .ok (.lushr, 1)) (k : Wf l E n0 M d mc ms Q bk bn (pc + 1) L (.long ((x.toUInt64 >>> (y.toInt64.toUInt64 &&& Int64.toUInt64 63)).toInt64) :: st) nx t r i g) : Wf l E n0 M d mc ms Q bk bn pc L (.int y :: .long x :: st) nx t r i g :=
  fun p e s m args below meth c C H locs cells slots ls h1 h2 h3 h4 h5 h6 => lv_lushr C.1 C.2.1 hd rfl (k p e s m args below meth c C H locs cells slots ls h1 h2 h3 h4 h5 h6)
theorem wf_lshl {x : Int64} {y : Int32} (hd : decode M.2.1 pc = .ok (.lshl, 1)) (k : Wf l E n0 M d mc ms Q bk bn (pc + 1) L (.long (x <<< (y.toInt64 &&& 63)) :: st) nx t r i g) : Wf l E n0 M d mc ms Q bk bn pc L (.int y :: .long x :: st) nx t r i g :=
  fun p e s m args below meth c C H locs cells slots ls h1 h2 h3 h4 h5 h6 => lv_lshl C.1 C.2.1 hd rfl (k p e s m args below meth c C H locs cells slots ls h1 h2 h3 h4 h5 h6)
theorem wf_lcmp {x y : Int64} (hd : decode M.2.1 pc = .ok (.lcmp, 1)) (k : Wf l E n0 M d mc ms Q bk bn (pc + 1) L (.int (lg_cmp x y) :: st) nx t r i g) : Wf l E n0 M d mc ms Q bk bn pc L (.long y :: .long x :: st) nx t r i g :=
  fun p e s m args below meth c C H locs cells slots ls h1 h2 h3 h4 h5 h6 => W.lcmp C.1 C.2.1 hd (k p e s m args below meth c C H locs cells slots ls h1 h2 h3 h4 h5 h6)
theorem wf_dup {va : Value} (hd : decode M.2.1 pc = .ok (.dup, 1)) (hva : va.category = 1) (k : Wf l E n0 M d mc ms Q bk bn (pc + 1) L (va :: va :: st) nx t r i g) : Wf l E n0 M d mc ms Q bk bn pc L (va :: st) nx t r i g :=
  fun p e s m args below meth c C H locs cells slots ls h1 h2 h3 h4 h5 h6 => lv_dup C.1 C.2.1 hd hva (k p e s m args below meth c C H locs cells slots ls h1 h2 h3 h4 h5 h6)
theorem wf_pop {va : Value} (hd : decode M.2.1 pc = .ok (.pop, 1)) (hva : va.category = 1) (k : Wf l E n0 M d mc ms Q bk bn (pc + 1) L (st) nx t r i g) : Wf l E n0 M d mc ms Q bk bn pc L (va :: st) nx t r i g :=
  fun p e s m args below meth c C H locs cells slots ls h1 h2 h3 h4 h5 h6 => lv_pop C.1 C.2.1 hd hva (k p e s m args below meth c C H locs cells slots ls h1 h2 h3 h4 h5 h6)
theorem wf_dup_x1 {va vb : Value} (hd : decode M.2.1 pc = .ok (.dup_x1, 1)) (hva : va.category = 1) (hvb : vb.category = 1) (k : Wf l E n0 M d mc ms Q bk bn (pc + 1) L (va :: vb :: va :: st) nx t r i g) : Wf l E n0 M d mc ms Q bk bn pc L (va :: vb :: st) nx t r i g :=
  fun p e s m args below meth c C H locs cells slots ls h1 h2 h3 h4 h5 h6 => lv_dup_x1 C.1 C.2.1 hd hva hvb (k p e s m args below meth c C H locs cells slots ls h1 h2 h3 h4 h5 h6)
theorem wf_dup_x2 {va vb vd : Value} (hd : decode M.2.1 pc = .ok (.dup_x2, 1)) (hva : va.category = 1) (hvb : vb.category = 1) (hvd : vd.category = 1) (k : Wf l E n0 M d mc ms Q bk bn (pc + 1) L (va :: vb :: vd :: va :: st) nx t r i g) : Wf l E n0 M d mc ms Q bk bn pc L (va :: vb :: vd :: st) nx t r i g :=
  fun p e s m args below meth c C H locs cells slots ls h1 h2 h3 h4 h5 h6 => lv_dup_x2 C.1 C.2.1 hd hva hvb hvd (k p e s m args below meth c C H locs cells slots ls h1 h2 h3 h4 h5 h6)
theorem wf_dup2 {va vb : Value} (hd : decode M.2.1 pc = .ok (.dup2, 1)) (hva : va.category = 1) (hvb : vb.category = 1) (k : Wf l E n0 M d mc ms Q bk bn (pc + 1) L (va :: vb :: va :: vb :: st) nx t r i g) : Wf l E n0 M d mc ms Q bk bn pc L (va :: vb :: st) nx t r i g :=
  fun p e s m args below meth c C H locs cells slots ls h1 h2 h3 h4 h5 h6 => lv_dup2_11 C.1 C.2.1 hd hva hvb (k p e s m args below meth c C H locs cells slots ls h1 h2 h3 h4 h5 h6)
theorem wf_dup2L {va : Value} (hd : decode M.2.1 pc = .ok (.dup2, 1)) (hva : va.category = 2) (k : Wf l E n0 M d mc ms Q bk bn (pc + 1) L (va :: va :: st) nx t r i g) : Wf l E n0 M d mc ms Q bk bn pc L (va :: st) nx t r i g :=
  fun p e s m args below meth c C H locs cells slots ls h1 h2 h3 h4 h5 h6 => lv_dup2_2 C.1 C.2.1 hd hva (k p e s m args below meth c C H locs cells slots ls h1 h2 h3 h4 h5 h6)
theorem wf_iconst {n : Int} (v : Int32) (hd : decode M.2.1 pc = .ok (.iconst n, 1)) (hv : Int32.ofInt n = v) (k : Wf l E n0 M d mc ms Q bk bn (pc + 1) L (.int v :: st) nx t r i g) : Wf l E n0 M d mc ms Q bk bn pc L st nx t r i g :=
  fun p e s m args below meth c C H locs cells slots ls h1 h2 h3 h4 h5 h6 => lv_iconst C.1 C.2.1 hd hv (k p e s m args below meth c C H locs cells slots ls h1 h2 h3 h4 h5 h6)
theorem wf_bipush {n : Int} (v : Int32) (hd : decode M.2.1 pc = .ok (.bipush n, 2)) (hv : (Int8.ofInt n).toInt32 = v) (k : Wf l E n0 M d mc ms Q bk bn (pc + 2) L (.int v :: st) nx t r i g) : Wf l E n0 M d mc ms Q bk bn pc L st nx t r i g :=
  fun p e s m args below meth c C H locs cells slots ls h1 h2 h3 h4 h5 h6 => lv_bipush C.1 C.2.1 hd hv (k p e s m args below meth c C H locs cells slots ls h1 h2 h3 h4 h5 h6)
theorem wf_sipush {n : Int} (v : Int32) (hd : decode M.2.1 pc = .ok (.sipush n, 3)) (hv : (Int16.ofInt n).toInt32 = v) (k : Wf l E n0 M d mc ms Q bk bn (pc + 3) L (.int v :: st) nx t r i g) : Wf l E n0 M d mc ms Q bk bn pc L st nx t r i g :=
  fun p e s m args below meth c C H locs cells slots ls h1 h2 h3 h4 h5 h6 => lv_sipush C.1 C.2.1 hd hv (k p e s m args below meth c C H locs cells slots ls h1 h2 h3 h4 h5 h6)
theorem wf_lconst {n : Fin 2} (v : Int64) (hd : decode M.2.1 pc = .ok (.lconst n, 1)) (hv : Int64.ofNat (n : Nat) = v) (k : Wf l E n0 M d mc ms Q bk bn (pc + 1) L (.long v :: st) nx t r i g) : Wf l E n0 M d mc ms Q bk bn pc L st nx t r i g :=
  fun p e s m args below meth c C H locs cells slots ls h1 h2 h3 h4 h5 h6 => lv_lconst C.1 C.2.1 hd hv (k p e s m args below meth c C H locs cells slots ls h1 h2 h3 h4 h5 h6)
theorem wf_null (hd : decode M.2.1 pc = .ok (.aconst_null, 1)) (k : Wf l E n0 M d mc ms Q bk bn (pc + 1) L (.null :: st) nx t r i g) : Wf l E n0 M d mc ms Q bk bn pc L st nx t r i g :=
  fun p e s m args below meth c C H locs cells slots ls h1 h2 h3 h4 h5 h6 => lv_null C.1 C.2.1 hd (k p e s m args below meth c C H locs cells slots ls h1 h2 h3 h4 h5 h6)
theorem wf_iload {j : Nat} {x : Int32} (hd : decode M.2.1 pc = .ok (.iload j, 2)) (hl : wf_get L j = some (.int x)) (k : Wf l E n0 M d mc ms Q bk bn (pc + 2) L (.int x :: st) nx t r i g) : Wf l E n0 M d mc ms Q bk bn pc L st nx t r i g :=
  fun p e s m args below meth c C H locs cells slots ls h1 h2 h3 h4 h5 h6 => lv_iload C.1 C.2.1 hd (wf_get_at h6 hl) (k p e s m args below meth c C H locs cells slots ls h1 h2 h3 h4 h5 h6)
theorem wf_iload_n {j : Fin 4} {x : Int32} (hd : decode M.2.1 pc = .ok (.iload_n j, 1)) (hl : wf_get L (j : Nat) = some (.int x)) (k : Wf l E n0 M d mc ms Q bk bn (pc + 1) L (.int x :: st) nx t r i g) : Wf l E n0 M d mc ms Q bk bn pc L st nx t r i g :=
  fun p e s m args below meth c C H locs cells slots ls h1 h2 h3 h4 h5 h6 => lv_iload_n C.1 C.2.1 hd rfl (wf_get_at h6 hl) (k p e s m args below meth c C H locs cells slots ls h1 h2 h3 h4 h5 h6)
theorem wf_lload {j : Nat} {x : Int64} (hd : decode M.2.1 pc = .ok (.lload j, 2)) (hl : wf_get L j = some (.long x)) (k : Wf l E n0 M d mc ms Q bk bn (pc + 2) L (.long x :: st) nx t r i g) : Wf l E n0 M d mc ms Q bk bn pc L st nx t r i g :=
  fun p e s m args below meth c C H locs cells slots ls h1 h2 h3 h4 h5 h6 => lv_lload C.1 C.2.1 hd (wf_get_at h6 hl) (k p e s m args below meth c C H locs cells slots ls h1 h2 h3 h4 h5 h6)
theorem wf_lload_n {j : Fin 4} {x : Int64} (hd : decode M.2.1 pc = .ok (.lload_n j, 1)) (hl : wf_get L (j : Nat) = some (.long x)) (k : Wf l E n0 M d mc ms Q bk bn (pc + 1) L (.long x :: st) nx t r i g) : Wf l E n0 M d mc ms Q bk bn pc L st nx t r i g :=
  fun p e s m args below meth c C H locs cells slots ls h1 h2 h3 h4 h5 h6 => lv_lload_n C.1 C.2.1 hd rfl (wf_get_at h6 hl) (k p e s m args below meth c C H locs cells slots ls h1 h2 h3 h4 h5 h6)
theorem wf_aload {j : Nat} {x : Nat} (hd : decode M.2.1 pc = .ok (.aload j, 2)) (hl : wf_get L j = some (.ref x)) (k : Wf l E n0 M d mc ms Q bk bn (pc + 2) L (.ref x :: st) nx t r i g) : Wf l E n0 M d mc ms Q bk bn pc L st nx t r i g :=
  fun p e s m args below meth c C H locs cells slots ls h1 h2 h3 h4 h5 h6 => lv_aload C.1 C.2.1 hd (wf_get_at h6 hl) (k p e s m args below meth c C H locs cells slots ls h1 h2 h3 h4 h5 h6)
theorem wf_aload_n {j : Fin 4} {x : Nat} (hd : decode M.2.1 pc = .ok (.aload_n j, 1)) (hl : wf_get L (j : Nat) = some (.ref x)) (k : Wf l E n0 M d mc ms Q bk bn (pc + 1) L (.ref x :: st) nx t r i g) : Wf l E n0 M d mc ms Q bk bn pc L st nx t r i g :=
  fun p e s m args below meth c C H locs cells slots ls h1 h2 h3 h4 h5 h6 => lv_aload_n C.1 C.2.1 hd rfl (wf_get_at h6 hl) (k p e s m args below meth c C H locs cells slots ls h1 h2 h3 h4 h5 h6)
theorem wf_istore {j : Nat} {x : Int32} (hd : decode M.2.1 pc = .ok (.istore j, 2)) (hn : j < M.2.2.1) (k : Wf l E n0 M d mc ms Q bk bn (pc + 2) ((j, .int x) :: wf_d1 L j) st nx t r i g) : Wf l E n0 M d mc ms Q bk bn pc L (.int x :: st) nx t r i g :=
  fun p e s m args below meth c C H locs cells slots ls h1 h2 h3 h4 h5 h6 => lv_istore C.1 C.2.1 hd h6 hn rfl (fun ls' h6' => k p e s m args below meth c C H locs cells slots ls' h1 h2 h3 h4 h5 (wf_d1_has h6'))
theorem wf_istore_n {j : Fin 4} {x : Int32} (hd : decode M.2.1 pc = .ok (.istore_n j, 1)) (hn : (j : Nat) < M.2.2.1) (k : Wf l E n0 M d mc ms Q bk bn (pc + 1) (((j : Nat), .int x) :: wf_d1 L (j : Nat)) st nx t r i g) : Wf l E n0 M d mc ms Q bk bn pc L (.int x :: st) nx t r i g :=
  fun p e s m args below meth c C H locs cells slots ls h1 h2 h3 h4 h5 h6 => lv_istore_n C.1 C.2.1 hd rfl h6 hn rfl (fun ls' h6' => k p e s m args below meth c C H locs cells slots ls' h1 h2 h3 h4 h5 (wf_d1_has h6'))
theorem wf_astore {j : Nat} {x : Nat} (hd : decode M.2.1 pc = .ok (.astore j, 2)) (hn : j < M.2.2.1) (k : Wf l E n0 M d mc ms Q bk bn (pc + 2) ((j, .ref x) :: wf_d1 L j) st nx t r i g) : Wf l E n0 M d mc ms Q bk bn pc L (.ref x :: st) nx t r i g :=
  fun p e s m args below meth c C H locs cells slots ls h1 h2 h3 h4 h5 h6 => lv_astore C.1 C.2.1 hd h6 hn rfl (fun ls' h6' => k p e s m args below meth c C H locs cells slots ls' h1 h2 h3 h4 h5 (wf_d1_has h6'))
theorem wf_astore_n {j : Fin 4} {x : Nat} (hd : decode M.2.1 pc = .ok (.astore_n j, 1)) (hn : (j : Nat) < M.2.2.1) (k : Wf l E n0 M d mc ms Q bk bn (pc + 1) (((j : Nat), .ref x) :: wf_d1 L (j : Nat)) st nx t r i g) : Wf l E n0 M d mc ms Q bk bn pc L (.ref x :: st) nx t r i g :=
  fun p e s m args below meth c C H locs cells slots ls h1 h2 h3 h4 h5 h6 => lv_astore_n C.1 C.2.1 hd rfl h6 hn rfl (fun ls' h6' => k p e s m args below meth c C H locs cells slots ls' h1 h2 h3 h4 h5 (wf_d1_has h6'))
theorem wf_lstore {j : Nat} {x : Int64} (hd : decode M.2.1 pc = .ok (.lstore j, 2)) (hn : j + 1 < M.2.2.1) (k : Wf l E n0 M d mc ms Q bk bn (pc + 2) ((j, .long x) :: wf_d2 L j) st nx t r i g) : Wf l E n0 M d mc ms Q bk bn pc L (.long x :: st) nx t r i g :=
  fun p e s m args below meth c C H locs cells slots ls h1 h2 h3 h4 h5 h6 => lv_lstore C.1 C.2.1 hd h6 hn rfl (fun ls' h6' => k p e s m args below meth c C H locs cells slots ls' h1 h2 h3 h4 h5 (wf_d2_has h6'))
theorem wf_lstore_n {j : Fin 4} {x : Int64} (hd : decode M.2.1 pc = .ok (.lstore_n j, 1)) (hn : (j : Nat) + 1 < M.2.2.1) (k : Wf l E n0 M d mc ms Q bk bn (pc + 1) (((j : Nat), .long x) :: wf_d2 L (j : Nat)) st nx t r i g) : Wf l E n0 M d mc ms Q bk bn pc L (.long x :: st) nx t r i g :=
  fun p e s m args below meth c C H locs cells slots ls h1 h2 h3 h4 h5 h6 => lv_lstore_n C.1 C.2.1 hd rfl h6 hn rfl (fun ls' h6' => k p e s m args below meth c C H locs cells slots ls' h1 h2 h3 h4 h5 (wf_d2_has h6'))
theorem wf_iinc {j : Nat} {n : Int} {x : Int32} (v : Int32) (hd : decode M.2.1 pc = .ok (.iinc j n, 3)) (hl : wf_get L j = some (.int x)) (hv : x + Int32.ofInt n = v) (hn : j < M.2.2.1) (k : Wf l E n0 M d mc ms Q bk bn (pc + 3) ((j, .int v) :: wf_d1 L j) st nx t r i g) : Wf l E n0 M d mc ms Q bk bn pc L st nx t r i g :=
  fun p e s m args below meth c C H locs cells slots ls h1 h2 h3 h4 h5 h6 => by
    obtain ⟨q, hq⟩ := wf_get_ix hl
    exact lv_iinc (k := q) C.1 C.2.1 hd h6 hq hv hn rfl (fun ls' h6' => k p e s m args below meth c C H locs cells slots ls' h1 h2 h3 h4 h5 (wf_d1_has h6'))
theorem wf_if_eq {x : Int32} {off : Int} (tgt : Nat) (hd : decode M.2.1 pc = .ok (.ifCond .eq off, 3)) (ht : (pc : Int) + off = (tgt : Int)) (kt : x = 0 → Wf l E n0 M d mc ms Q bk bn tgt L st nx t r i g) (kf : ¬ x = 0 → Wf l E n0 M d mc ms Q bk bn (pc + 3) L st nx t r i g) : Wf l E n0 M d mc ms Q bk bn pc L (.int x :: st) nx t r i g :=
  fun p e s m args below meth c C H locs cells slots ls h1 h2 h3 h4 h5 h6 => lv_if_eq C.1 C.2.1 hd ht (fun q => kt q p e s m args below meth c C H locs cells slots ls h1 h2 h3 h4 h5 h6) (fun q => kf q p e s m args below meth c C H locs cells slots ls h1 h2 h3 h4 h5 h6)
theorem wf_icmp_eq {x y : Int32} {off : Int} (tgt : Nat) (hd : decode M.2.1 pc = .ok (.if_icmp .eq off, 3)) (ht : (pc : Int) + off = (tgt : Int)) (kt : x = y → Wf l E n0 M d mc ms Q bk bn tgt L st nx t r i g) (kf : ¬ x = y → Wf l E n0 M d mc ms Q bk bn (pc + 3) L st nx t r i g) : Wf l E n0 M d mc ms Q bk bn pc L (.int y :: .int x :: st) nx t r i g :=
  fun p e s m args below meth c C H locs cells slots ls h1 h2 h3 h4 h5 h6 => lv_icmp_eq C.1 C.2.1 hd ht (fun q => kt q p e s m args below meth c C H locs cells slots ls h1 h2 h3 h4 h5 h6) (fun q => kf q p e s m args below meth c C H locs cells slots ls h1 h2 h3 h4 h5 h6)
theorem wf_if_ne {x : Int32} {off : Int} (tgt : Nat) (hd : decode M.2.1 pc = .ok (.ifCond .ne off, 3)) (ht : (pc : Int) + off = (tgt : Int)) (kt : ¬ x = 0 → Wf l E n0 M d mc ms Q bk bn tgt L st nx t r i g) (kf : x = 0 → Wf l E n0 M d mc ms Q bk bn (pc + 3) L st nx t r i g) : Wf l E n0 M d mc ms Q bk bn pc L (.int x :: st) nx t r i g :=
  fun p e s m args below meth c C H locs cells slots ls h1 h2 h3 h4 h5 h6 => lv_if_ne C.1 C.2.1 hd ht (fun q => kt q p e s m args below meth c C H locs cells slots ls h1 h2 h3 h4 h5 h6) (fun q => kf q p e s m args below meth c C H locs cells slots ls h1 h2 h3 h4 h5 h6)
theorem wf_icmp_ne {x y : Int32} {off : Int} (tgt : Nat) (hd : decode M.2.1 pc = .ok (.if_icmp .ne off, 3)) (ht : (pc : Int) + off = (tgt : Int)) (kt : ¬ x = y → Wf l E n0 M d mc ms Q bk bn tgt L st nx t r i g) (kf : x = y → Wf l E n0 M d mc ms Q bk bn (pc + 3) L st nx t r i g) : Wf l E n0 M d mc ms Q bk bn pc L (.int y :: .int x :: st) nx t r i g :=
  fun p e s m args below meth c C H locs cells slots ls h1 h2 h3 h4 h5 h6 => lv_icmp_ne C.1 C.2.1 hd ht (fun q => kt q p e s m args below meth c C H locs cells slots ls h1 h2 h3 h4 h5 h6) (fun q => kf q p e s m args below meth c C H locs cells slots ls h1 h2 h3 h4 h5 h6)
theorem wf_if_lt {x : Int32} {off : Int} (tgt : Nat) (hd : decode M.2.1 pc = .ok (.ifCond .lt off, 3)) (ht : (pc : Int) + off = (tgt : Int)) (kt : x < 0 → Wf l E n0 M d mc ms Q bk bn tgt L st nx t r i g) (kf : ¬ x < 0 → Wf l E n0 M d mc ms Q bk bn (pc + 3) L st nx t r i g) : Wf l E n0 M d mc ms Q bk bn pc L (.int x :: st) nx t r i g :=
  fun p e s m args below meth c C H locs cells slots ls h1 h2 h3 h4 h5 h6 => lv_if_lt C.1 C.2.1 hd ht (fun q => kt q p e s m args below meth c C H locs cells slots ls h1 h2 h3 h4 h5 h6) (fun q => kf q p e s m args below meth c C H locs cells slots ls h1 h2 h3 h4 h5 h6)
theorem wf_icmp_lt {x y : Int32} {off : Int} (tgt : Nat) (hd : decode M.2.1 pc = .ok (.if_icmp .lt off, 3)) (ht : (pc : Int) + off = (tgt : Int)) (kt : x < y → Wf l E n0 M d mc ms Q bk bn tgt L st nx t r i g) (kf : ¬ x < y → Wf l E n0 M d mc ms Q bk bn (pc + 3) L st nx t r i g) : Wf l E n0 M d mc ms Q bk bn pc L (.int y :: .int x :: st) nx t r i g :=
  fun p e s m args below meth c C H locs cells slots ls h1 h2 h3 h4 h5 h6 => lv_icmp_lt C.1 C.2.1 hd ht (fun q => kt q p e s m args below meth c C H locs cells slots ls h1 h2 h3 h4 h5 h6) (fun q => kf q p e s m args below meth c C H locs cells slots ls h1 h2 h3 h4 h5 h6)
theorem wf_if_ge {x : Int32} {off : Int} (tgt : Nat) (hd : decode M.2.1 pc = .ok (.ifCond .ge off, 3)) (ht : (pc : Int) + off = (tgt : Int)) (kt : 0 ≤ x → Wf l E n0 M d mc ms Q bk bn tgt L st nx t r i g) (kf : ¬ 0 ≤ x → Wf l E n0 M d mc ms Q bk bn (pc + 3) L st nx t r i g) : Wf l E n0 M d mc ms Q bk bn pc L (.int x :: st) nx t r i g :=
  fun p e s m args below meth c C H locs cells slots ls h1 h2 h3 h4 h5 h6 => lv_if_ge C.1 C.2.1 hd ht (fun q => kt q p e s m args below meth c C H locs cells slots ls h1 h2 h3 h4 h5 h6) (fun q => kf q p e s m args below meth c C H locs cells slots ls h1 h2 h3 h4 h5 h6)
theorem wf_icmp_ge {x y : Int32} {off : Int} (tgt : Nat) (hd : decode M.2.1 pc = .ok (.if_icmp .ge off, 3)) (ht : (pc : Int) + off = (tgt : Int)) (kt : y ≤ x → Wf l E n0 M d mc ms Q bk bn tgt L st nx t r i g) (kf : ¬ y ≤ x → Wf l E n0 M d mc ms Q bk bn (pc + 3) L st nx t r i g) : Wf l E n0 M d mc ms Q bk bn pc L (.int y :: .int x :: st) nx t r i g :=
  fun p e s m args below meth c C H locs cells slots ls h1 h2 h3 h4 h5 h6 => lv_icmp_ge C.1 C.2.1 hd ht (fun q => kt q p e s m args below meth c C H locs cells slots ls h1 h2 h3 h4 h5 h6) (fun q => kf q p e s m args below meth c C H locs cells slots ls h1 h2 h3 h4 h5 h6)
theorem wf_if_gt {x : Int32} {off : Int} (tgt : Nat) (hd : decode M.2.1 pc = .ok (.ifCond .gt off, 3)) (ht : (pc : Int) + off = (tgt : Int)) (kt : 0 < x → Wf l E n0 M d mc ms Q bk bn tgt L st nx t r i g) (kf : ¬ 0 < x → Wf l E n0 M d mc ms Q bk bn (pc + 3) L st nx t r i g) : Wf l E n0 M d mc ms Q bk bn pc L (.int x :: st) nx t r i g :=
  fun p e s m args below meth c C H locs cells slots ls h1 h2 h3 h4 h5 h6 => lv_if_gt C.1 C.2.1 hd ht (fun q => kt q p e s m args below meth c C H locs cells slots ls h1 h2 h3 h4 h5 h6) (fun q => kf q p e s m args below meth c C H locs cells slots ls h1 h2 h3 h4 h5 h6)
theorem wf_icmp_gt {x y : Int32} {off : Int} (tgt : Nat) (hd : decode M.2.1 pc = .ok (.if_icmp .gt off, 3)) (ht : (pc : Int) + off = (tgt : Int)) (kt : y < x → Wf l E n0 M d mc ms Q bk bn tgt L st nx t r i g) (kf : ¬ y < x → Wf l E n0 M d mc ms Q bk bn (pc + 3) L st nx t r i g) : Wf l E n0 M d mc ms Q bk bn pc L (.int y :: .int x :: st) nx t r i g :=
  fun p e s m args below meth c C H locs cells slots ls h1 h2 h3 h4 h5 h6 => lv_icmp_gt C.1 C.2.1 hd ht (fun q => kt q p e s m args below meth c C H locs cells slots ls h1 h2 h3 h4 h5 h6) (fun q => kf q p e s m args below meth c C H locs cells slots ls h1 h2 h3 h4 h5 h6)
theorem wf_if_le {x : Int32} {off : Int} (tgt : Nat) (hd : decode M.2.1 pc = .ok (.ifCond .le off, 3)) (ht : (pc : Int) + off = (tgt : Int)) (kt : x ≤ 0 → Wf l E n0 M d mc ms Q bk bn tgt L st nx t r i g) (kf : ¬ x ≤ 0 → Wf l E n0 M d mc ms Q bk bn (pc + 3) L st nx t r i g) : Wf l E n0 M d mc ms Q bk bn pc L (.int x :: st) nx t r i g :=
  fun p e s m args below meth c C H locs cells slots ls h1 h2 h3 h4 h5 h6 => lv_if_le C.1 C.2.1 hd ht (fun q => kt q p e s m args below meth c C H locs cells slots ls h1 h2 h3 h4 h5 h6) (fun q => kf q p e s m args below meth c C H locs cells slots ls h1 h2 h3 h4 h5 h6)
theorem wf_icmp_le {x y : Int32} {off : Int} (tgt : Nat) (hd : decode M.2.1 pc = .ok (.if_icmp .le off, 3)) (ht : (pc : Int) + off = (tgt : Int)) (kt : x ≤ y → Wf l E n0 M d mc ms Q bk bn tgt L st nx t r i g) (kf : ¬ x ≤ y → Wf l E n0 M d mc ms Q bk bn (pc + 3) L st nx t r i g) : Wf l E n0 M d mc ms Q bk bn pc L (.int y :: .int x :: st) nx t r i g :=
  fun p e s m args below meth c C H locs cells slots ls h1 h2 h3 h4 h5 h6 => lv_icmp_le C.1 C.2.1 hd ht (fun q => kt q p e s m args below meth c C H locs cells slots ls h1 h2 h3 h4 h5 h6) (fun q => kf q p e s m args below meth c C H locs cells slots ls h1 h2 h3 h4 h5 h6)
theorem wf_goto {off : Int} (tgt : Nat) (hd : decode M.2.1 pc = .ok (.goto off, 3)) (ht : (pc : Int) + off = (tgt : Int)) (k : Wf l E n0 M d mc ms Q bk bn tgt L st nx t r i g) : Wf l E n0 M d mc ms Q bk bn pc L st nx t r i g :=
  fun p e s m args below meth c C H locs cells slots ls h1 h2 h3 h4 h5 h6 => lv_goto C.1 C.2.1 hd ht (k p e s m args below meth c C H locs cells slots ls h1 h2 h3 h4 h5 h6)
theorem wf_lookup {dflt : Int} {ps : Array (Int × Int)} {len : Nat} {x : Int32} {off : Int} (tgt : Nat) (hd : decode M.2.1 pc = .ok (.lookupswitch dflt ps, len)) (hp : (ps.toList.zip (ps.toList.drop 1)).all (fun (a, next) => a.1 < next.1) = true) (ho : Op.lookupswitch.offset ps.toList dflt x.toInt = off) (ht : (pc : Int) + off = (tgt : Int)) (k : Wf l E n0 M d mc ms Q bk bn tgt L st nx t r i g) : Wf l E n0 M d mc ms Q bk bn pc L (.int x :: st) nx t r i g :=
  fun p e s m args below meth c C H locs cells slots ls h1 h2 h3 h4 h5 h6 => lv_lookup C.1 C.2.1 hd hp ho ht (k p e s m args below meth c C H locs cells slots ls h1 h2 h3 h4 h5 h6)
theorem wf_tableOut {dflt lo hi : Int} {offs : Array Int} {len : Nat} {x : Int32} (tgt : Nat) (hd : decode M.2.1 pc = .ok (.tableswitch dflt lo hi offs, len)) (h : x.toInt < lo ∨ hi < x.toInt) (ht : (pc : Int) + dflt = (tgt : Int)) (k : Wf l E n0 M d mc ms Q bk bn tgt L st nx t r i g) : Wf l E n0 M d mc ms Q bk bn pc L (.int x :: st) nx t r i g :=
  fun p e s m args below meth c C H locs cells slots ls h1 h2 h3 h4 h5 h6 => lv_tableOut C.1 C.2.1 hd h ht (k p e s m args below meth c C H locs cells slots ls h1 h2 h3 h4 h5 h6)
theorem wf_tableIn {dflt lo hi : Int} {offs : Array Int} {len : Nat} {x : Int32} {off : Int} (tgt : Nat) (hd : decode M.2.1 pc = .ok (.tableswitch dflt lo hi offs, len)) (a1 : ¬ x.toInt < lo) (a2 : ¬ hi < x.toInt) (ho : offs[(x.toInt - lo).toNat]? = some off) (ht : (pc : Int) + off = (tgt : Int)) (k : Wf l E n0 M d mc ms Q bk bn tgt L st nx t r i g) : Wf l E n0 M d mc ms Q bk bn pc L (.int x :: st) nx t r i g :=
  fun p e s m args below meth c C H locs cells slots ls h1 h2 h3 h4 h5 h6 => lv_tableIn C.1 C.2.1 hd a1 a2 ho ht (k p e s m args below meth c C H locs cells slots ls h1 h2 h3 h4 h5 h6)
theorem wf_ldc {index : Nat} (v : Int32) (hd : decode M.2.1 pc = .ok (.ldc index, 2)) (hc : Cond.constant M.1.cls index v ∈ wl_ALL) (k : Wf l E n0 M d mc ms Q bk bn (pc + 2) L (.int v :: st) nx t r i g) : Wf l E n0 M d mc ms Q bk bn pc L st nx t r i g :=
  fun p e s m args below meth c C H locs cells slots ls h1 h2 h3 h4 h5 h6 => lv_ldc C.1 C.2.1 C.2.2.2.2.1 (C.2.2.2.2.2.1 _ hc) hd (k p e s m args below meth c C H locs cells slots ls h1 h2 h3 h4 h5 h6)
theorem wf_ldc2 {index : Nat} (v : Int64) (hd : decode M.2.1 pc = .ok (.ldc2_w index, 3)) (hc : Cond.constantLong M.1.cls index v ∈ wl_ALL) (k : Wf l E n0 M d mc ms Q bk bn (pc + 3) L (.long v :: st) nx t r i g) : Wf l E n0 M d mc ms Q bk bn pc L st nx t r i g :=
  fun p e s m args below meth c C H locs cells slots ls h1 h2 h3 h4 h5 h6 => lv_ldc2 C.1 C.2.1 C.2.2.2.2.1 (C.2.2.2.2.2.1 _ hc) hd (k p e s m args below meth c C H locs cells slots ls h1 h2 h3 h4 h5 h6)
end WfRows
end
section
/-! rows that read and write cells, and make them -/
/-- pool entry idx of class own is field k of class c -/
def wf_fl (own : String) (idx c k : Nat) : Prop := ∃ q : vw_C, wl_CL[c]? = some q ∧ k < q.2.2 ∧ Cond.fieldLink own idx (q.2.1 k).1 (q.2.1 k).2.1 (q.2.1 k).2.2.1 ∈ wl_ALL
/-- field k of class c isn't final -/
def wf_nf (c k : Nat) : Prop := ∃ q : vw_C, wl_CL[c]? = some q ∧ (q.2.1 k).2.2.2 = false
/-- field k of class c is final, and declared by own -/
def wf_fi (own : String) (c k : Nat) : Prop := ∃ q : vw_C, wl_CL[c]? = some q ∧ (q.2.1 k).2.2.2 = true ∧ (q.2.1 k).1 = own
/-- no float, no double -/
def wf_dk : FieldType → Bool
  | .float => false
  | .double => false
  | _ => true
theorem wf_default {y : FieldType} {r : Wr} {i : Wi} {g : Wl} {a k : Nat} (hf : wf_dk y = true) (h : r a k = none ∧ i a k = 0 ∧ g a k = 0) : defaultValue y = wf_v y r i g a k := by
  obtain ⟨h1, h2, h3⟩ := h
  cases y <;> first | (simp [wf_v, wf_kd, h1, h2, h3, defaultValue, va_rf]; done) | (simp [wf_dk] at hf)
/-- pool entry idx of class own is class c, of N slots, which can be made -/
def wf_nw (own : String) (idx c N : Nat) : Prop := ∃ q : vw_C, wl_CL[c]? = some q ∧ q.2.2 = N ∧ Cond.classLink own idx q.1 ∈ wl_ALL ∧ Cond.instantiable q.1 N ∈ wl_ALL ∧ Cond.initialized q.1 ∈ wl_ALL ∧ ∀ k, k < N → wf_dk (wl_TY c k) = true
section WfHeap
variable {l : Launch} {E : We} {n0 : Nat} {M : Wm} {d mc ms : Nat} {Q : Wq} {bk bn pc : Nat} {L : List (Nat × Value)} {st : List Value} {nx : Nat} {t : Wt} {r : Wr} {i : Wi} {g : Wl}
theorem wf_getv {idx c k a : Nat} {v : Value} (hd : decode M.2.1 pc = .ok (.getfield idx, 3)) (hf : wf_fl M.1.cls idx c k) (ht : t a = some (.inl c)) (hv : wf_v (wl_TY c k) r i g a k = v) (kk : Wf l E n0 M d mc ms Q bk bn (pc + 3) L (v :: st) nx t r i g) : Wf l E n0 M d mc ms Q bk bn pc L (.ref a :: st) nx t r i g := by
  intro p e s m args below meth cd C H locs cells slots ls h1 h2 h3 h4 h5 h6
  obtain ⟨q, hq, hk, hl⟩ := hf
  obtain ⟨q', hq', cell, q1, q2, q3, q4⟩ := (h3.2.2.1 a).o ht
  obtain rfl : q' = q := Option.some.inj (hq'.symm.trans hq)
  obtain ⟨hin, hty, hnm⟩ := wl_ok c _ hq
  obtain ⟨hS, hfc, kC, hkC, hkind⟩ := C.2.2.2.2.2.2.2.2.1.1 c _ hq
  obtain ⟨cf, kf, fi, f, hi, hsl⟩ := hS k hk
  refine W.getf C.1 C.2.1 C.2.2.2.2.1 (C.2.2.2.2.2.1 _ hl) hi (u_facts hfc hkC (u_lays C.2.2.2.2.2.1 hin hk) hi).1 q1 (by rw [q3]; exact fun h => by cases h) (v := v) ?_ rfl rfl hd (kk p e s m args below meth cd C H locs cells slots ls h1 h2 h3 h4 h5 h6)
  rw [hsl, q4 k hk]
  exact congrArg some hv
theorem wf_geti {idx c k a : Nat} (hd : decode M.2.1 pc = .ok (.getfield idx, 3)) (hf : wf_fl M.1.cls idx c k) (hy : wf_kd (wl_TY c k) = 0) (ht : t a = some (.inl c)) (kk : Wf l E n0 M d mc ms Q bk bn (pc + 3) L (.int (i a k) :: st) nx t r i g) : Wf l E n0 M d mc ms Q bk bn pc L (.ref a :: st) nx t r i g := wf_getv hd hf ht (wf_v_i hy) kk
theorem wf_getl {idx c k a : Nat} (hd : decode M.2.1 pc = .ok (.getfield idx, 3)) (hf : wf_fl M.1.cls idx c k) (hy : wf_kd (wl_TY c k) = 1) (ht : t a = some (.inl c)) (kk : Wf l E n0 M d mc ms Q bk bn (pc + 3) L (.long (g a k) :: st) nx t r i g) : Wf l E n0 M d mc ms Q bk bn pc L (.ref a :: st) nx t r i g := wf_getv hd hf ht (wf_v_l hy) kk
theorem wf_getr {idx c k a b : Nat} (hd : decode M.2.1 pc = .ok (.getfield idx, 3)) (hf : wf_fl M.1.cls idx c k) (hy : wf_kd (wl_TY c k) = 2) (ht : t a = some (.inl c)) (hr : r a k = some b) (kk : Wf l E n0 M d mc ms Q bk bn (pc + 3) L (.ref b :: st) nx t r i g) : Wf l E n0 M d mc ms Q bk bn pc L (.ref a :: st) nx t r i g := wf_getv hd hf ht ((wf_v_r hy).trans (by rw [hr]; rfl)) kk
/-- a field is written: the maps behind it are r', i', g' -/
theorem wf_putv {idx c k a : Nat} {v : Value} {r' : Wr} {i' : Wi} {g' : Wl} (hd : decode M.2.1 pc = .ok (.putfield idx, 3)) (hf : wf_fl M.1.cls idx c k) (hw : wf_nf c k ∨ (wf_fi M.1.cls c k ∧ M.1.name = "<init>")) (ht : t a = some (.inl c)) (hn : narrow (wl_TY c k) v = v) (hfit : fits (wl_TY c k) v = true)
    (hv : wf_v (wl_TY c k) r' i' g' a k = v) (ho : ∀ b j, (b ≠ a ∨ j ≠ k) → r' b j = r b j ∧ i' b j = i b j ∧ g' b j = g b j) (kk : Wf l E n0 M d mc ms Q bk bn (pc + 3) L st nx t r' i' g') : Wf l E n0 M d mc ms Q bk bn pc L (v :: .ref a :: st) nx t r i g := by
  intro p e s m args below meth cd C H locs cells slots ls h1 h2 h3 h4 h5 h6
  obtain ⟨q, hq, hk, hl⟩ := hf
  obtain ⟨q', hq', cell, q1, q2, q3, q4⟩ := (h3.2.2.1 a).o ht
  obtain rfl : q' = q := Option.some.inj (hq'.symm.trans hq)
  obtain ⟨hin, hty, hnm⟩ := wl_ok c _ hq
  have hKv : va_K (E.1, E.2.1) wl_CL [] s := ⟨C.2.2.2.2.2.2.2.2.1.1, fun k z hz => by cases hz⟩
  have hap := va_apart (own := M.1.cls) (D := (E.1, E.2.1)) (cl := wl_CL) (tys := []) C.2.2.2.2.2.1 hin (wl_TY c) hty hnm hKv hq
  obtain ⟨hS, hfc, kC, hkC, hkind⟩ := C.2.2.2.2.2.2.2.2.1.1 c _ hq
  obtain ⟨cf, kf, fi, f, hi, hsl⟩ := hS k hk
  have hst := (u_facts hfc hkC (u_lays C.2.2.2.2.2.1 hin hk) hi).1
  have hlt : f.slot < cell.slots.size := by rw [hsl]; exact k2_hasslot (q4 k hk)
  have hn0 : n0 ≤ a := (h3.2.2.2.1 a _ ht).resolve_right (fun ⟨n, z⟩ => by cases z)
  have hend : ∀ H' : Heap, H'[a]? = some (cell.setSlot f.slot v) → H'.size = H.size → (∀ q, q ≠ a → H'[q]? = H[q]?) → W p l e (wf_rm d mc ms) s m args below meth cd H' (locs ++ [⟨a, f.slot⟩]) cells slots (wf_Z E n0 mc ms Q below args s) { F0 m pc ls (v :: .ref a :: st) with pc := pc + 3, stack := st } := by
    intro H' e1 e2 e3
    rw [hsl] at e1
    refine kk p e s m args below meth cd C H' _ cells slots ls h1 h2 (h3.put e2 e3 ht (wf_A.io ht ⟨_, hq, t_OB.to (V := updV (fun k => wf_v (wl_TY c k) r i g a k) k v) ⟨_, e1, q2, q3, t_set q4 hap hk v⟩ (fun j _ => ?_)⟩) (fun b hb j => ho b j (Or.inl hb))) (fun x hx => (e3 x (Nat.ne_of_lt (Nat.lt_of_lt_of_le hx hn0))).trans (h4 x hx)) (fun x hx => ?_) h6
    · by_cases hj : j = k
      · subst hj
        simp only [updV, if_pos]
        exact hv.symm
      · simp only [updV, if_neg hj]
        exact (wf_v_c (ho a j (Or.inr hj)).1 (ho a j (Or.inr hj)).2.1 (ho a j (Or.inr hj)).2.2).symm
    · rcases List.mem_append.mp hx with hx | hx
      · exact h5 x hx
      · rw [List.mem_singleton.mp hx]; exact hn0
  have hlay := C.2.2.2.2.2.1 _ (hin _ (u_in_lay hk))
  rcases hw with ⟨q2', hq2, hfin⟩ | ⟨⟨q2', hq2, hfin, hdecl⟩, hin2⟩
  · obtain rfl := Option.some.inj (hq2.symm.trans hq)
    unfold u_lay at hlay
    rw [if_neg (by rw [hfin]; decide)] at hlay
    have h6' := u_store hfc hkC hkind hlay hi (hty k hk) hn hfit
    exact W.putK C.1 C.2.1 (f := f) ⟨C.2.2.2.2.1, C.2.2.2.2.2.1 _ hl, ⟨_, _, _, hi⟩, hst⟩ (by rw [q2]; exact h6') q1 q3 hlt rfl rfl hd hend
  · obtain rfl := Option.some.inj (hq2.symm.trans hq)
    unfold u_lay at hlay
    rw [if_pos hfin] at hlay
    have hcf : m.cls = cf := by
      obtain ⟨_, _, c', _, _, _, -, -, hf', -, -, -, hown2, -⟩ := Cond.laysFinal_spec hlay
      have e1 : c' = cf := by have := hi.symm.trans hf'; simp at this; exact this.1.symm
      rw [hdecl] at hown2
      rw [← e1]; exact Option.some.inj (C.2.2.2.2.1.symm.trans hown2)
    have h6' := u_fits hfc hkC hkind (Or.inr hlay) hi (hty k hk) hn hfit
    exact W.putFinK C.1 C.2.1 C.2.2.2.2.1 (C.2.2.2.2.2.1 _ hl) hi hst hcf (C.2.2.2.2.2.2.2.1.trans hin2) (by rw [q2]; exact h6') q1 q3 hlt rfl rfl hd hend
theorem wf_up_o {α : Type} {f : Nat → Nat → α} {a k : Nat} {v : α} {b j : Nat} (h : b ≠ a ∨ j ≠ k) : wf_up f a k v b j = f b j := h.elim wf_up_a wf_up_k
theorem wf_puti {idx c k a : Nat} {x : Int32} (hd : decode M.2.1 pc = .ok (.putfield idx, 3)) (hf : wf_fl M.1.cls idx c k) (hw : wf_nf c k ∨ (wf_fi M.1.cls c k ∧ M.1.name = "<init>")) (hy : wf_kd (wl_TY c k) = 0) (hn : narrow (wl_TY c k) (.int x) = .int x) (hfit : fits (wl_TY c k) (.int x) = true) (ht : t a = some (.inl c)) (kk : Wf l E n0 M d mc ms Q bk bn (pc + 3) L st nx t r (wf_up i a k x) g) : Wf l E n0 M d mc ms Q bk bn pc L (.int x :: .ref a :: st) nx t r i g :=
  wf_putv hd hf hw ht hn hfit ((wf_v_i hy).trans (by rw [wf_up_s])) (fun b j h => ⟨rfl, wf_up_o h, rfl⟩) kk
theorem wf_putl {idx c k a : Nat} {x : Int64} (hd : decode M.2.1 pc = .ok (.putfield idx, 3)) (hf : wf_fl M.1.cls idx c k) (hw : wf_nf c k ∨ (wf_fi M.1.cls c k ∧ M.1.name = "<init>")) (hy : wf_kd (wl_TY c k) = 1) (hn : narrow (wl_TY c k) (.long x) = .long x) (hfit : fits (wl_TY c k) (.long x) = true) (ht : t a = some (.inl c)) (kk : Wf l E n0 M d mc ms Q bk bn (pc + 3) L st nx t r i (wf_up g a k x)) : Wf l E n0 M d mc ms Q bk bn pc L (.long x :: .ref a :: st) nx t r i g :=
  wf_putv hd hf hw ht hn hfit ((wf_v_l hy).trans (by rw [wf_up_s])) (fun b j h => ⟨rfl, rfl, wf_up_o h⟩) kk
theorem wf_putr {idx c k a x : Nat} (hd : decode M.2.1 pc = .ok (.putfield idx, 3)) (hf : wf_fl M.1.cls idx c k) (hw : wf_nf c k ∨ (wf_fi M.1.cls c k ∧ M.1.name = "<init>")) (hy : wf_kd (wl_TY c k) = 2) (hn : narrow (wl_TY c k) (.ref x) = .ref x) (hfit : fits (wl_TY c k) (.ref x) = true) (ht : t a = some (.inl c)) (kk : Wf l E n0 M d mc ms Q bk bn (pc + 3) L st nx t (wf_up r a k (some x)) i g) : Wf l E n0 M d mc ms Q bk bn pc L (.ref x :: .ref a :: st) nx t r i g :=
  wf_putv hd hf hw ht hn hfit ((wf_v_r hy).trans (by rw [wf_up_s]; rfl)) (fun b j h => ⟨wf_up_o h, rfl, rfl⟩) kk
/-! arrays -/
theorem wf_iaload {a y n : Nat} {j : Int32} (hd : decode M.2.1 pc = .ok (.iaload, 1)) (hy : wl_AT y = .int) (ht : t a = some (.inr (y, n))) (hin : vp_in j n) (kk : Wf l E n0 M d mc ms Q bk bn (pc + 1) L (.int (i a j.toNatClampNeg) :: st) nx t r i g) : Wf l E n0 M d mc ms Q bk bn pc L (.int j :: .ref a :: st) nx t r i g := by
  intro p e s m args below meth cd C H locs cells slots ls h1 h2 h3 h4 h5 h6
  obtain ⟨hyN, hc⟩ := (h3.2.2.1 a).a ht
  have hlt : j.toNatClampNeg < n := Nat.not_le.mp fun q => hin (Or.inr q)
  have harr := (C.2.2.2.2.2.2.2.2.1.2.1 y hyN).1 n (fun j => wf_v (wl_AT y) r i g a j)
  rw [hy] at harr hc
  exact W.iald (v := .int (i a j.toNatClampNeg)) C.1 C.2.1 hc harr (fun q => by cases q) (by rw [arrV_size]; exact hin) (by rw [arrV_read _ _ hlt]; rfl) rfl rfl hd (kk p e s m args below meth cd C H locs cells slots ls h1 h2 h3 h4 h5 h6)
theorem wf_zaload {a y n : Nat} {j : Int32} (hd : decode M.2.1 pc = .ok (.baload, 1)) (hy : wl_AT y = .boolean) (ht : t a = some (.inr (y, n))) (hin : vp_in j n) (kk : Wf l E n0 M d mc ms Q bk bn (pc + 1) L (.int (i a j.toNatClampNeg) :: st) nx t r i g) : Wf l E n0 M d mc ms Q bk bn pc L (.int j :: .ref a :: st) nx t r i g := by
  intro p e s m args below meth cd C H locs cells slots ls h1 h2 h3 h4 h5 h6
  obtain ⟨hyN, hc⟩ := (h3.2.2.1 a).a ht
  have hlt : j.toNatClampNeg < n := Nat.not_le.mp fun q => hin (Or.inr q)
  have harr := (C.2.2.2.2.2.2.2.2.1.2.1 y hyN).1 n (fun j => wf_v (wl_AT y) r i g a j)
  rw [hy] at harr hc
  exact W.zald (v := .int (i a j.toNatClampNeg)) C.1 C.2.1 hc harr (fun q => by cases q) (by rw [arrV_size]; exact hin) (by rw [arrV_read _ _ hlt]; rfl) rfl rfl hd (kk p e s m args below meth cd C H locs cells slots ls h1 h2 h3 h4 h5 h6)
theorem wf_laload {a y n : Nat} {j : Int32} (hd : decode M.2.1 pc = .ok (.laload, 1)) (hy : wl_AT y = .long) (ht : t a = some (.inr (y, n))) (hin : vp_in j n) (kk : Wf l E n0 M d mc ms Q bk bn (pc + 1) L (.long (g a j.toNatClampNeg) :: st) nx t r i g) : Wf l E n0 M d mc ms Q bk bn pc L (.int j :: .ref a :: st) nx t r i g := by
  intro p e s m args below meth cd C H locs cells slots ls h1 h2 h3 h4 h5 h6
  obtain ⟨hyN, hc⟩ := (h3.2.2.1 a).a ht
  have hlt : j.toNatClampNeg < n := Nat.not_le.mp fun q => hin (Or.inr q)
  have harr := (C.2.2.2.2.2.2.2.2.1.2.1 y hyN).1 n (fun j => wf_v (wl_AT y) r i g a j)
  rw [hy] at harr hc
  exact W.lald (v := .long (g a j.toNatClampNeg)) C.1 C.2.1 hc harr (fun q => by cases q) (by rw [arrV_size]; exact hin) (by rw [arrV_read _ _ hlt]; rfl) rfl rfl hd (kk p e s m args below meth cd C H locs cells slots ls h1 h2 h3 h4 h5 h6)
theorem wf_aaload {a y n b : Nat} {j : Int32} (hd : decode M.2.1 pc = .ok (.aaload, 1)) (hy : (wl_AT y).isReference = true) (hk : wf_kd (wl_AT y) = 2) (ht : t a = some (.inr (y, n))) (hin : vp_in j n) (hr : r a j.toNatClampNeg = some b) (kk : Wf l E n0 M d mc ms Q bk bn (pc + 1) L (.ref b :: st) nx t r i g) : Wf l E n0 M d mc ms Q bk bn pc L (.int j :: .ref a :: st) nx t r i g := by
  intro p e s m args below meth cd C H locs cells slots ls h1 h2 h3 h4 h5 h6
  obtain ⟨hyN, hc⟩ := (h3.2.2.1 a).a ht
  have hlt : j.toNatClampNeg < n := Nat.not_le.mp fun q => hin (Or.inr q)
  have harr := (C.2.2.2.2.2.2.2.2.1.2.1 y hyN).1 n (fun j => wf_v (wl_AT y) r i g a j)
  exact W.aald (v := .ref b) (ty := wl_AT y) C.1 C.2.1 hc harr hy (fun q => by cases q) (by rw [arrV_size]; exact hin) (by rw [arrV_read _ _ hlt, wf_v_r hk, hr]; rfl) rfl rfl hd (kk p e s m args below meth cd C H locs cells slots ls h1 h2 h3 h4 h5 h6)
theorem wf_alen {a y n : Nat} (hd : decode M.2.1 pc = .ok (.arraylength, 1)) (ht : t a = some (.inr (y, n))) (kk : Wf l E n0 M d mc ms Q bk bn (pc + 1) L (.int (nI n) :: st) nx t r i g) : Wf l E n0 M d mc ms Q bk bn pc L (.ref a :: st) nx t r i g := by
  intro p e s m args below meth cd C H locs cells slots ls h1 h2 h3 h4 h5 h6
  obtain ⟨hyN, hc⟩ := (h3.2.2.1 a).a ht
  have harr := (C.2.2.2.2.2.2.2.2.1.2.1 y hyN).1 n (fun j => wf_v (wl_AT y) r i g a j)
  exact W.alen (n := nI n) C.1 C.2.1 hc harr (by rw [arrV_size]; rfl) rfl rfl hd (kk p e s m args below meth cd C H locs cells slots ls h1 h2 h3 h4 h5 h6)
/-- behind a store into an array -/
theorem wf_stored {a y n j : Nat} {v : Value} {r' : Wr} {i' : Wi} {g' : Wl} {H H1 : Heap} (h3 : wf_R E n0 nx t r i g H) (ht : t a = some (.inr (y, n))) (e1 : H1[a]? = some ((arrV (E.2.2 y) n (fun j => wf_v (wl_AT y) r i g a j)).setSlot j v)) (e2 : H1.size = H.size) (e3 : ∀ q, q ≠ a → H1[q]? = H[q]?)
    (hv : wf_v (wl_AT y) r' i' g' a j = v) (ho : ∀ b k, (b ≠ a ∨ k ≠ j) → r' b k = r b k ∧ i' b k = i b k ∧ g' b k = g b k) : wf_R E n0 nx t r' i' g' H1 := by
  refine h3.put e2 e3 ht (wf_A.ia ht ⟨((h3.2.2.1 a).a ht).1, ?_⟩) (fun b hb k => ho b k (Or.inl hb))
  rw [e1, arrV_store]
  congr 2
  funext k
  by_cases hk : k = j
  · subst hk
    simp only [updV, if_pos]
    exact hv.symm
  · simp only [updV, if_neg hk]
    exact (wf_v_c (ho a k (Or.inr hk)).1 (ho a k (Or.inr hk)).2.1 (ho a k (Or.inr hk)).2.2).symm
theorem wf_own {a y n : Nat} {H : Heap} (h3 : wf_R E n0 nx t r i g H) (ht : t a = some (.inr (y, n))) (hs : y ≠ wl_AS) : n0 ≤ a := (h3.2.2.2.1 a _ ht).resolve_right (fun ⟨m, z⟩ => hs (by cases z; rfl))
theorem wf_locs {locs : List Loc} {a k : Nat} (h : ∀ q ∈ locs, n0 ≤ q.base) (ha : n0 ≤ a) : ∀ q ∈ locs ++ [(⟨a, k⟩ : Loc)], n0 ≤ q.base := fun x hx => by
  rcases List.mem_append.mp hx with hx | hx
  · exact h x hx
  · rw [List.mem_singleton.mp hx]; exact ha
theorem wf_iastore {a y n : Nat} {j x : Int32} (hd : decode M.2.1 pc = .ok (.iastore, 1)) (hy : wl_AT y = .int) (hs : y ≠ wl_AS) (ht : t a = some (.inr (y, n))) (hin : vp_in j n) (kk : Wf l E n0 M d mc ms Q bk bn (pc + 1) L st nx t r (wf_up i a j.toNatClampNeg x) g) : Wf l E n0 M d mc ms Q bk bn pc L (.int x :: .int j :: .ref a :: st) nx t r i g := by
  intro p e s m args below meth cd C H locs cells slots ls h1 h2 h3 h4 h5 h6
  obtain ⟨hyN, hc⟩ := (h3.2.2.1 a).a ht
  have harr := (C.2.2.2.2.2.2.2.2.1.2.1 y hyN).1 n (fun j => wf_v (wl_AT y) r i g a j)
  rw [hy] at harr
  rw [← hy] at harr
  have hn0 := wf_own h3 ht hs
  exact W.iast C.1 C.2.1 hc (hy ▸ harr) (fun q => by cases q) (by rw [arrV_size]; exact hin) rfl rfl hd fun H1 e1 e2 e3 => kk p e s m args below meth cd C H1 _ cells slots ls h1 h2 (wf_stored h3 ht e1 e2 e3 ((wf_v_i (by rw [hy]; rfl)).trans (by rw [wf_up_s])) (fun b k h => ⟨rfl, wf_up_o h, rfl⟩)) (fun q hq => (e3 q (Nat.ne_of_lt (Nat.lt_of_lt_of_le hq hn0))).trans (h4 q hq)) (wf_locs h5 hn0) h6
theorem wf_zastore {a y n : Nat} {j x : Int32} (hd : decode M.2.1 pc = .ok (.bastore, 1)) (hy : wl_AT y = .boolean) (hs : y ≠ wl_AS) (hx : narrow .boolean (.int x) = .int x) (ht : t a = some (.inr (y, n))) (hin : vp_in j n) (kk : Wf l E n0 M d mc ms Q bk bn (pc + 1) L st nx t r (wf_up i a j.toNatClampNeg x) g) : Wf l E n0 M d mc ms Q bk bn pc L (.int x :: .int j :: .ref a :: st) nx t r i g := by
  intro p e s m args below meth cd C H locs cells slots ls h1 h2 h3 h4 h5 h6
  obtain ⟨hyN, hc⟩ := (h3.2.2.1 a).a ht
  have harr := (C.2.2.2.2.2.2.2.2.1.2.1 y hyN).1 n (fun j => wf_v (wl_AT y) r i g a j)
  have hn0 := wf_own h3 ht hs
  exact W.zast C.1 C.2.1 hc (hy ▸ harr) (fun q => by cases q) (by rw [arrV_size]; exact hin) rfl rfl hd fun H1 e1 e2 e3 => kk p e s m args below meth cd C H1 _ cells slots ls h1 h2 (wf_stored h3 ht e1 e2 e3 ((wf_v_i (by rw [hy]; rfl)).trans (by rw [wf_up_s, hx])) (fun b k h => ⟨rfl, wf_up_o h, rfl⟩)) (fun q hq => (e3 q (Nat.ne_of_lt (Nat.lt_of_lt_of_le hq hn0))).trans (h4 q hq)) (wf_locs h5 hn0) h6
theorem wf_lastore {a y n : Nat} {j : Int32} {x : Int64} (hd : decode M.2.1 pc = .ok (.lastore, 1)) (hy : wl_AT y = .long) (hs : y ≠ wl_AS) (ht : t a = some (.inr (y, n))) (hin : vp_in j n) (kk : Wf l E n0 M d mc ms Q bk bn (pc + 1) L st nx t r i (wf_up g a j.toNatClampNeg x)) : Wf l E n0 M d mc ms Q bk bn pc L (.long x :: .int j :: .ref a :: st) nx t r i g := by
  intro p e s m args below meth cd C H locs cells slots ls h1 h2 h3 h4 h5 h6
  obtain ⟨hyN, hc⟩ := (h3.2.2.1 a).a ht
  have harr := (C.2.2.2.2.2.2.2.2.1.2.1 y hyN).1 n (fun j => wf_v (wl_AT y) r i g a j)
  have hn0 := wf_own h3 ht hs
  exact W.last C.1 C.2.1 hc (hy ▸ harr) (fun q => by cases q) (by rw [arrV_size]; exact hin) rfl rfl hd fun H1 e1 e2 e3 => kk p e s m args below meth cd C H1 _ cells slots ls h1 h2 (wf_stored h3 ht e1 e2 e3 ((wf_v_l (by rw [hy]; rfl)).trans (by rw [wf_up_s])) (fun b k h => ⟨rfl, rfl, wf_up_o h⟩)) (fun q hq => (e3 q (Nat.ne_of_lt (Nat.lt_of_lt_of_le hq hn0))).trans (h4 q hq)) (wf_locs h5 hn0) h6
/-- an object of class c into an array of its class -/
theorem wf_aastore {a y n b c : Nat} {j : Int32} {C0 : String} (hd : decode M.2.1 pc = .ok (.aastore, 1)) (hy : wl_AT y = .object C0) (hc0 : ∃ q : vw_C, wl_CL[c]? = some q ∧ q.1 = C0) (hs : y ≠ wl_AS) (ht : t a = some (.inr (y, n))) (htb : t b = some (.inl c)) (hin : vp_in j n) (kk : Wf l E n0 M d mc ms Q bk bn (pc + 1) L st nx t (wf_up r a j.toNatClampNeg (some b)) i g) : Wf l E n0 M d mc ms Q bk bn pc L (.ref b :: .int j :: .ref a :: st) nx t r i g := by
  intro p e s m args below meth cd C H locs cells slots ls h1 h2 h3 h4 h5 h6
  obtain ⟨hyN, hc⟩ := (h3.2.2.1 a).a ht
  have hlt : j.toNatClampNeg < n := Nat.not_le.mp fun q => hin (Or.inr q)
  have h0 : ¬ j < 0 := fun q => hin (Or.inl q)
  obtain ⟨q, hq, rfl⟩ := hc0
  obtain ⟨q', hq', cellV, g1, g2, g3, -⟩ := (h3.2.2.1 b).o htb
  have hcls := (C.2.2.2.2.2.2.2.2.1.1 c _ hq).2
  have hRA := (C.2.2.2.2.2.2.2.2.1.2.1 y hyN).2
  rw [hy] at hRA
  obtain ⟨kA, comp, k1, k2, k3, -⟩ := hRA
  have hcomp : comp = E.1 c := Option.some.inj (k3.symm.trans hcls.1)
  subst hcomp
  obtain ⟨kC, hkC, -⟩ := hcls.2
  have hn0 := wf_own h3 ht hs
  exact W.aast C.1 C.2.1 hc (fun q h => by cases h) (fun h => by cases h) k1 k2 rfl hkC ⟨h0, by rw [arrV_size]; exact hlt⟩ g1 (fun q h => by rw [g3] at h; cases h) (by rw [g2]; exact hkC) (by rw [g2]; exact va_assign hcls) rfl rfl hd fun H1 e1 e2 e3 => kk p e s m args below meth cd C H1 _ cells slots ls h1 h2 (wf_stored h3 ht e1 e2 e3 ((wf_v_r (by rw [hy]; rfl)).trans (by rw [wf_up_s]; rfl)) (fun b k h => ⟨wf_up_o h, rfl, rfl⟩)) (fun q hq => (e3 q (Nat.ne_of_lt (Nat.lt_of_lt_of_le hq hn0))).trans (h4 q hq)) (wf_locs h5 hn0) h6
/-! new cells -/
theorem wf_new {idx c N bk' bn' : Nat} (hd : decode M.2.1 pc = .ok (.new idx, 3)) (hc : wf_nw M.1.cls idx c N) (hk : bk' + 1 ≤ bk) (hn : bn' + N ≤ bn) (kk : t nx = none → (∀ k, r nx k = none ∧ i nx k = 0 ∧ g nx k = 0) → Wf l E n0 M d mc ms Q bk' bn' (pc + 3) L (.ref nx :: st) (nx + 1) (wf_up1 t nx (some (.inl c))) r i g) : Wf l E n0 M d mc ms Q bk bn pc L st nx t r i g := by
  intro p e s m args below meth cd C H locs cells slots ls h1 h2 h3 h4 h5 h6
  obtain ⟨q, hq, rfl, hcl, hins, hini, hdk⟩ := hc
  obtain ⟨hin, hty, hnm⟩ := wl_ok c _ hq
  have hKn := C.2.2.2.2.2.2.2.2.1.1 c _ hq
  obtain ⟨f1, f2⟩ := h3.2.2.2.2 nx (Nat.le_refl _)
  refine W.newcK C.1 C.2.1 C.2.2.2.2.1 (C.2.2.2.2.2.1 _ hcl) (C.2.2.2.2.2.1 _ hins) (C.2.2.2.2.2.1 _ hini) rfl hd (show cells + 1 ≤ mc by omega) (show slots + q.2.2 ≤ ms by omega) hKn.2.1 h3.1 fun H1 kC hkC e1 z1 o1 => ?_
  refine kk f1 f2 p e s m args below meth cd C H1 locs (cells + 1) (slots + q.2.2) ls (by omega) (by omega) (h3.new z1 o1 (wf_A.io wf_up1_s ⟨q, hq, (u_born (wl_TY c) C.2.2.2.2.2.1 hin hKn hkC e1 hty).to (fun k hk => wf_default (hdk k hk) (f2 k))⟩)) (fun x hx => (o1 x (Nat.lt_of_lt_of_le hx h3.2.1)).trans (h4 x hx)) h5 h6
theorem wf_newarr {y N bk' bn' : Nat} {at_ : ArrayType} {n : Int32} (hd : decode M.2.1 pc = .ok (.newarray at_, 2)) (hy : wl_AT y = newarray.typeOf at_) (hyN : y < wl_AN) (ha : Cond.arrayClass (newarray.typeOf at_) ∈ wl_ALL) (hra : ∀ U : State, va_RA U (E.2.2 y) (newarray.typeOf at_) → U.vm.findClass ("[" ++ (newarray.typeOf at_).toString) = some (E.2.2 y)) (hdk : wf_dk (wl_AT y) = true)
    (hn0 : ¬ n < 0) (hN : n.toNatClampNeg = N) (hbytes : N * componentBytes (newarray.typeOf at_) ≤ 536870912) (hk : bk' + 1 ≤ bk) (hn : bn' + N ≤ bn) (kk : t nx = none → (∀ k, r nx k = none ∧ i nx k = 0 ∧ g nx k = 0) → Wf l E n0 M d mc ms Q bk' bn' (pc + 2) L (.ref nx :: st) (nx + 1) (wf_up1 t nx (some (.inr (y, N)))) r i g) : Wf l E n0 M d mc ms Q bk bn pc L (.int n :: st) nx t r i g := by
  intro p e s m args below meth cd C H locs cells slots ls h1 h2 h3 h4 h5 h6
  obtain ⟨f1, f2⟩ := h3.2.2.2.2 nx (Nat.le_refl _)
  subst hN
  refine W.newa C.1 C.2.1 (C.2.2.2.2.2.1 _ ha) rfl hd rfl hn0 hbytes (show cells + 1 ≤ mc by omega) (show slots + n.toNatClampNeg ≤ ms by omega) fun cA kA comp a1 a2 a3 => ?_
  have hcA : cA = E.2.2 y := Option.some.inj (a1.symm.trans (hra s (hy ▸ (C.2.2.2.2.2.2.2.2.1.2.1 y hyN).2)))
  have hz := h3.1
  subst hz
  generalize hH1 : H.push ({ cls := cA, slots := Array.replicate n.toNatClampNeg (defaultValue (newarray.typeOf at_)), vm := .none } : Cell) = H1
  have z1 : H1.size = H.size + 1 := by rw [← hH1, Array.size_push]
  have e1 : H1[H.size]? = some (arrV cA n.toNatClampNeg (fun _ => defaultValue (newarray.typeOf at_))) := by rw [← hH1, Array.getElem?_push_size, ← arrV_new]
  have o1 : ∀ q : Nat, q < H.size → H1[q]? = H[q]? := fun q hq => by rw [← hH1, Array.getElem?_push, if_neg (Nat.ne_of_lt hq)]
  refine kk f1 f2 p e s m args below meth cd C H1 locs (cells + 1) (slots + n.toNatClampNeg) ls (by omega) (by omega) (h3.new z1 o1 (wf_A.ia wf_up1_s ⟨hyN, ?_⟩)) (fun x hx => (o1 x (Nat.lt_of_lt_of_le hx h3.2.1)).trans (h4 x hx)) h5 h6
  rw [e1, hcA]
  congr 2
  funext k
  rw [← hy]
  exact wf_default hdk (f2 k)
theorem wf_anew {idx y N bk' bn' : Nat} {C0 : String} {n : Int32} (hd : decode M.2.1 pc = .ok (.anewarray idx, 3)) (hy : wl_AT y = .object C0) (hyN : y < wl_AN) (hcl : Cond.classLink M.1.cls idx C0 ∈ wl_ALL) (hov : C0 ∈ wl_OV)
    (hn0 : ¬ n < 0) (hN : n.toNatClampNeg = N) (hbytes : N * 4 ≤ 536870912) (hk : bk' + 1 ≤ bk) (hn : bn' + N ≤ bn) (kk : t nx = none → (∀ k, r nx k = none ∧ i nx k = 0 ∧ g nx k = 0) → Wf l E n0 M d mc ms Q bk' bn' (pc + 3) L (.ref nx :: st) (nx + 1) (wf_up1 t nx (some (.inr (y, N)))) r i g) : Wf l E n0 M d mc ms Q bk bn pc L (.int n :: st) nx t r i g := by
  intro p e s m args below meth cd C H locs cells slots ls h1 h2 h3 h4 h5 h6
  obtain ⟨f1, f2⟩ := h3.2.2.2.2 nx (Nat.le_refl _)
  subst hN
  refine W.anew C.1 C.2.1 C.2.2.2.2.1 (C.2.2.2.2.2.1 _ hcl) (va_AO.use (C.2.2.2.2.2.2.2.2.1.2.2 C0 hov)) rfl hd rfl hn0 hbytes (show cells + 1 ≤ mc by omega) (show slots + n.toNatClampNeg ≤ ms by omega) fun cA kA comp a1 a2 a3 a4 => ?_
  have hRA := (C.2.2.2.2.2.2.2.2.1.2.1 y hyN).2
  rw [hy] at hRA
  obtain ⟨kA', comp', -, -, -, b4⟩ := hRA
  have hcA : cA = E.2.2 y := Option.some.inj (a1.symm.trans b4)
  have hz := h3.1
  subst hz
  generalize hH1 : H.push ({ cls := cA, slots := Array.replicate n.toNatClampNeg .null, vm := .none } : Cell) = H1
  have z1 : H1.size = H.size + 1 := by rw [← hH1, Array.size_push]
  have e1 : H1[H.size]? = some (arrV cA n.toNatClampNeg (fun _ => .null)) := by rw [← hH1, Array.getElem?_push_size, ← arrV_new]
  have o1 : ∀ q : Nat, q < H.size → H1[q]? = H[q]? := fun q hq => by rw [← hH1, Array.getElem?_push, if_neg (Nat.ne_of_lt hq)]
  refine kk f1 f2 p e s m args below meth cd C H1 locs (cells + 1) (slots + n.toNatClampNeg) ls (by omega) (by omega) (h3.new z1 o1 (wf_A.ia wf_up1_s ⟨hyN, ?_⟩)) (fun x hx => (o1 x (Nat.lt_of_lt_of_le hx h3.2.1)).trans (h4 x hx)) h5 h6
  rw [e1, hcA, hy]
  congr 2
  funext k
  exact wf_default (y := .object C0) rfl (f2 k)
theorem wf_objinit {idx a : Nat} (hd : decode M.2.1 pc = .ok (.invokespecial idx, 3)) (hl : Cond.methodLink M.1.cls idx Lib.objectInit ∈ wl_ALL) (hin : Cond.instanceMethod Lib.objectInit ∈ wl_ALL) (hco : Cond.code Lib.objectInit ⟨#[0xb1]⟩ 1 none ∈ wl_ALL) (hrm : (st.map fun v => v.category).sum ≤ 8) (kk : Wf l E n0 M (d + 1) mc ms Q bk bn (pc + 3) L st nx t r i g) : Wf l E n0 M (d + 1) mc ms Q bk bn pc L (.ref a :: st) nx t r i g := by
  intro p e s m args below meth cd C H locs cells slots ls h1 h2 h3 h4 h5 h6
  refine W.objInit C.1 C.2.1 C.2.2.2.2.1 (C.2.2.2.2.2.1 _ hl) (C.2.2.2.2.2.1 _ hin) (C.2.2.2.2.2.1 _ hco) rfl (h6.1.trans C.2.2.1.symm) rfl hd (show 1 ≤ d + 1 by omega) ?_ (kk p e s m args below meth cd C H locs cells slots ls h1 h2 h3 h4 h5 h6)
  show 2 * 0 + _ + 12 ≤ 40 * (d + 1)
  omega
/-! calls -/
/-- what a callee's words are: its code, its class initialised, its arity -/
def wf_tg (M' : Wm) (n : Nat) : Prop := Cond.code M'.1 M'.2.1 M'.2.2.1 M'.2.2.2 ∈ wl_ALL ∧ Cond.initialized M'.1.cls ∈ wl_ALL ∧ (M'.1.cls ≠ "java/lang/invoke/MethodHandle" ∧ M'.1.cls ≠ "java/lang/invoke/VarHandle") ∧ (parseMethodDescriptor M'.1.desc).map (fun d => d.parameters.length) = some n ∧ M'.2.2.1 ≤ 21
theorem wf_CallB {p : Program} {s : State} {m : MethodId} {args : Array Value} {meth : Method} {cd : Code} {M' : Wm} {idx n mc' ms' : Nat} (C : wf_C E n0 M p s m args meth cd) (hT : wf_tg M' n) (hl : Cond.methodLink M.1.cls idx M'.1 ∈ wl_ALL) : CallB (wf_rm (d + 1) mc ms) s args M.1.cls idx M'.1 M'.2.1 M'.2.2.1 M'.2.2.2 (wf_ws M') (wf_rm d mc' ms') mc' ms' n := by
  obtain ⟨t1, t2, t3, t4, t5⟩ := hT
  refine ⟨rfl, rfl, Nat.le_refl _, ?_, fun w hw a' U hW => ?_, List.mem_cons_self, C.2.2.2.2.2.1 _ t1, C.2.2.2.2.2.1 _ t2, t3, fun sig h => ?_, C.2.2.2.2.2.1 _ hl⟩
  · show 8 + (M'.2.2.1 + 11) + 40 * d ≤ 40 * (d + 1)
    omega
  · rcases List.mem_cons.mp hw with rfl | hw
    · exact word_at hW (wl_good _ t1) (C.2.2.2.2.2.1 _ t1)
    · exact word_at hW (wl_good _ hw) (C.2.2.2.2.2.1 _ hw)
  · rw [h] at t4
    exact (Option.some.inj t4).symm
theorem wf_blind {av : List Value} : FrameBlind (wf_P E n0 av nx t r i g) := fun a U f mk q => by
  obtain ⟨q0, qR, qK, qJ⟩ := q
  exact ⟨q0, qR, wf_K.moved (u := U) (U := U.calling f mk a) (Vm.Alike.refl U.vm) qK, wl_J_moved (u := U) (U := U.calling f mk a) (Vm.Alike.refl U.vm) (fun _ _ => rfl) qJ⟩
theorem wf_called {p : Program} {e : Env} {s : State} {m : MethodId} {args : Array Value} {below : List Frame} {meth : Method} {cd : Code} {mc' ms' bk' bn' : Nat} {Q' : Wq} {a : Array Value} {H : Heap} {locs : List Loc} {cells slots : Nat} {ls : Array Slot} {st0 : List Value} (C : wf_C E n0 M p s m args meth cd)
    (hr : CallRun p l e (wf_rm (d + 1) mc ms) s m args below meth cd H locs cells slots mc' ms' (F0 m pc ls st0) st (wf_Q E n0 Q' a) (fun q => n0 ≤ q)) (h1 : cells + bk ≤ mc) (h2 : slots + bn ≤ ms) (h4 : wf_O n0 s.heap H) (h5 : ∀ q ∈ locs, n0 ≤ q.base) (h6 : lv_has ls M.2.2.1 L) (hk : bk' + mc' ≤ bk) (hn : bn' + ms' ≤ bn)
    (kk : ∀ v nx t r i g, Q' (.inl v) nx t r i g → Wf l E n0 M (d + 1) mc ms Q bk' bn' (pc + 3) L (v.toList ++ st) nx t r i g) : W p l e (wf_rm (d + 1) mc ms) s m args below meth cd H locs cells slots (wf_Z E n0 mc ms Q below args s) (F0 m pc ls st0) := by
  intro T hT X
  obtain ⟨v, st₀, u, T', L', h0, X', hL, e1, ⟨vo, nx', t', r', i', g', b1, b2, b3, b4⟩, step⟩ := hr T hT X
  cases vo with
  | inr X => obtain ⟨_, _, b1, -⟩ := b1; cases b1
  | inl v' =>
    cases b1
    obtain ⟨t2, a1, a2⟩ := kk _ nx' t' r' i' g' b4 p e s m args below meth cd C T'.heap (locs ++ L') (cells + mc') (slots + ms') ls (by omega) (by omega) (by rw [e1]; exact b2) (fun q hq => by rw [e1, b3 q hq, h0]; exact h4 q hq) (fun q hq => by
      rcases List.mem_append.mp hq with h | h
      · exact h5 q h
      · exact hL q h) h6 T' rfl X'
    exact ⟨t2, step t2 a1, a2⟩
theorem wf_iv {M' : Wm} {idx b c mc' ms' bk' bn' : Nat} {As : List Value} {Q' : Wq} (hd : decode M.2.1 pc = .ok (.invokevirtual idx, 3)) (hT : wf_tg M' As.length) (hl : Cond.methodLink M.1.cls idx M'.1 ∈ wl_ALL) (hi : Cond.instanceMethod M'.1 ∈ wl_ALL) (hs : Cond.selects M'.1.cls M'.1 M'.1 ∈ wl_ALL) (hc : ∃ q : vw_C, wl_CL[c]? = some q ∧ q.1 = M'.1.cls) (hb : t b = some (.inl c)) (hrm : (st.map fun v => v.category).sum ≤ 8) (hk : bk' + mc' ≤ bk) (hn : bn' + ms' ≤ bn)
    (hC : Ct l E n0 M' d mc' ms' (.ref b :: As) nx t r i g Q') (hnt : ∀ X nx t r i g, ¬ Q' (.inr X) nx t r i g) (kk : ∀ v nx t r i g, Q' (.inl v) nx t r i g → Wf l E n0 M (d + 1) mc ms Q bk' bn' (pc + 3) L (v.toList ++ st) nx t r i g) : Wf l E n0 M (d + 1) mc ms Q bk bn pc L (As.reverse ++ .ref b :: st) nx t r i g := by
  intro p e s m args below meth cd C H locs cells slots ls h1 h2 h3 h4 h5 h6
  obtain ⟨q, hq, hqc⟩ := hc
  obtain ⟨q', hq', cell, q1, q2, q3, -⟩ := (h3.2.2.1 b).o hb
  have hcls := (C.2.2.2.2.2.2.2.2.1.1 c _ hq).2.1
  rw [hqc] at hcls
  refine wf_called C (W.runV (cc := M.2.1) (nL := M.2.2.1) (Ts := wl_ALL) (own := M.1.cls) (C := M'.1.cls) (n := As.length) ⟨C.1, C.2.1, C.2.2.1, C.2.2.2.2.1, C.2.2.2.2.2.1⟩ (hC.met hnt) ⟨wf_CallB C hT hl, C.2.2.2.2.2.1 _ hi, C.2.2.2.2.2.1 _ hs⟩ ⟨wf_blind, ⟨cell, q1, by rw [q3]; rfl, by rw [q2]; exact hcls⟩, fun U hU hW => ⟨rfl, by rw [hU]; exact h3, wf_K.moved hW.alike C.2.2.2.2.2.2.2.2.1, wl_J_moved hW.alike (by rw [hU]; exact h4) C.2.2.2.2.2.2.2.2.2⟩⟩ rfl rfl h6.1 rfl (lv_room hrm) hd ⟨show cells + mc' ≤ mc by omega, show slots + ms' ≤ ms by omega⟩) h1 h2 h4 h5 h6 hk hn kk
theorem wf_is {M' : Wm} {idx mc' ms' bk' bn' : Nat} {As : List Value} {Q' : Wq} (hd : decode M.2.1 pc = .ok (.invokestatic idx, 3)) (hT : wf_tg M' As.length) (hl : Cond.methodLink M.1.cls idx M'.1 ∈ wl_ALL) (hs : Cond.static M'.1 ∈ wl_ALL) (hrm : (st.map fun v => v.category).sum ≤ 8) (hk : bk' + mc' ≤ bk) (hn : bn' + ms' ≤ bn)
    (hC : Ct l E n0 M' d mc' ms' As nx t r i g Q') (hnt : ∀ X nx t r i g, ¬ Q' (.inr X) nx t r i g) (kk : ∀ v nx t r i g, Q' (.inl v) nx t r i g → Wf l E n0 M (d + 1) mc ms Q bk' bn' (pc + 3) L (v.toList ++ st) nx t r i g) : Wf l E n0 M (d + 1) mc ms Q bk bn pc L (As.reverse ++ st) nx t r i g := by
  intro p e s m args below meth cd C H locs cells slots ls h1 h2 h3 h4 h5 h6
  refine wf_called C (W.runS (cc := M.2.1) (nL := M.2.2.1) (Ts := wl_ALL) (own := M.1.cls) (n := As.length) ⟨C.1, C.2.1, C.2.2.1, C.2.2.2.2.1, C.2.2.2.2.2.1⟩ (hC.met hnt) ⟨wf_CallB C hT hl, C.2.2.2.2.2.1 _ hs⟩ ⟨wf_blind, fun U hU hW => ⟨rfl, by rw [hU]; exact h3, wf_K.moved hW.alike C.2.2.2.2.2.2.2.2.1, wl_J_moved hW.alike (by rw [hU]; exact h4) C.2.2.2.2.2.2.2.2.2⟩⟩ rfl rfl h6.1 rfl (lv_room hrm) hd ⟨show cells + mc' ≤ mc by omega, show slots + ms' ≤ ms by omega⟩) h1 h2 h4 h5 h6 hk hn kk
theorem wf_ii {y : MethodName} {cc : ByteArray} {nL idx b mc' ms' bk' bn' : Nat} {As : List Value} {Q' : Wq} (hd : decode M.2.1 pc = .ok (.invokespecial idx, 3)) (hT : wf_tg (y, cc, nL, none) As.length) (hl : Cond.methodLink M.1.cls idx y ∈ wl_ALL) (hi : Cond.instanceMethod y ∈ wl_ALL) (hy : y.name = "<init>") (hrm : (st.map fun v => v.category).sum ≤ 8) (hk : bk' + mc' ≤ bk) (hn : bn' + ms' ≤ bn)
    (hC : Ct l E n0 (y, cc, nL, none) d mc' ms' (.ref b :: As) nx t r i g Q') (hnt : ∀ X nx t r i g, ¬ Q' (.inr X) nx t r i g) (kk : ∀ v nx t r i g, Q' (.inl v) nx t r i g → Wf l E n0 M (d + 1) mc ms Q bk' bn' (pc + 3) L (v.toList ++ st) nx t r i g) : Wf l E n0 M (d + 1) mc ms Q bk bn pc L (As.reverse ++ .ref b :: st) nx t r i g := by
  intro p e s m args below meth cd C H locs cells slots ls h1 h2 h3 h4 h5 h6
  refine wf_called C (W.runI (cc := M.2.1) (nL := M.2.2.1) (Ts := wl_ALL) (own := M.1.cls) (n := As.length) ⟨C.1, C.2.1, C.2.2.1, C.2.2.2.2.1, C.2.2.2.2.2.1⟩ (hC.met hnt) ⟨wf_CallB (M' := (y, cc, nL, none)) C hT hl, hy, C.2.2.2.2.2.1 _ hi⟩ ⟨wf_blind, fun U hU hW => ⟨rfl, by rw [hU]; exact h3, wf_K.moved hW.alike C.2.2.2.2.2.2.2.2.1, wl_J_moved hW.alike (by rw [hU]; exact h4) C.2.2.2.2.2.2.2.2.2⟩⟩ rfl rfl h6.1 rfl (lv_room hrm) hd ⟨show cells + mc' ≤ mc by omega, show slots + ms' ≤ ms by omega⟩) h1 h2 h4 h5 h6 hk hn kk
end WfHeap
end
section
/-! words of links and of callees, by wip/whole/gen/names.py -/
abbrev mt_LR_init : Wm := (⟨"LineRules", "<init>", "()V"⟩, prog_1_method_1_code, 2, none)
abbrev mt_LR_feed : Wm := (⟨"LineRules", "feed", "(IIIII)I"⟩, prog_1_method_2_code, 7, (some .int))
abbrev mt_LR_clear : Wm := (⟨"LineRules", "clear", "()I"⟩, prog_1_method_3_code, 2, (some .int))
abbrev mt_LR_expression : Wm := (⟨"LineRules", "expression", "(I)I"⟩, prog_1_method_4_code, 3, (some .int))
abbrev mt_LR_text : Wm := (⟨"LineRules", "text", "(I)I"⟩, prog_1_method_5_code, 2, (some .int))
abbrev mt_LR_separator : Wm := (⟨"LineRules", "separator", "(I)I"⟩, prog_1_method_6_code, 3, (some .int))
abbrev mt_LR_rule : Wm := (⟨"LineRules", "rule", "(III)I"⟩, prog_1_method_7_code, 4, (some .int))
abbrev mt_LR_action : Wm := (⟨"LineRules", "action", "(IIII)I"⟩, prog_1_method_8_code, 5, (some .int))
abbrev mt_LR_forget : Wm := (⟨"LineRules", "forget", "()I"⟩, prog_1_method_9_code, 2, (some .int))
abbrev mt_LR_line : Wm := (⟨"LineRules", "line", "()I"⟩, prog_1_method_10_code, 4, (some .int))
abbrev mt_LR_find : Wm := (⟨"LineRules", "find", "(II)I"⟩, prog_1_method_11_code, 4, (some .int))
abbrev mt_LR_end : Wm := (⟨"LineRules", "end", "()I"⟩, prog_1_method_12_code, 1, (some .int))
abbrev mt_LR_sign : Wm := (⟨"LineRules", "sign", "(II)I"⟩, prog_1_method_13_code, 4, (some .int))
abbrev mt_LR_printed : Wm := (⟨"LineRules", "printed", "(I)I"⟩, prog_1_method_14_code, 2, (some .int))
abbrev mt_LR_counter : Wm := (⟨"LineRules", "counter", "(I)I"⟩, prog_1_method_15_code, 2, (some .int))
abbrev mt_LR_key : Wm := (⟨"LineRules", "key", "(II)I"⟩, prog_1_method_16_code, 4, (some .int))
abbrev mt_LR_count : Wm := (⟨"LineRules", "count", "(I)I"⟩, prog_1_method_17_code, 2, (some .int))
abbrev mt_LR_signsIn : Wm := (⟨"LineRules", "signsIn", "(I)I"⟩, prog_1_method_18_code, 3, (some .int))
abbrev mt_LR_addToPad : Wm := (⟨"LineRules", "addToPad", "(I)V"⟩, prog_1_method_19_code, 4, none)
abbrev mt_LR_isExpression : Wm := (⟨"LineRules", "isExpression", "(I)Z"⟩, prog_1_method_20_code, 1, (some .boolean))
abbrev mt_LR_isText : Wm := (⟨"LineRules", "isText", "(I)Z"⟩, prog_1_method_21_code, 1, (some .boolean))
abbrev mt_LR_isCounter : Wm := (⟨"LineRules", "isCounter", "(I)Z"⟩, prog_1_method_22_code, 1, (some .boolean))
abbrev mt_LR_isField : Wm := (⟨"LineRules", "isField", "(I)Z"⟩, prog_1_method_23_code, 1, (some .boolean))
abbrev mt_LR_isPattern : Wm := (⟨"LineRules", "isPattern", "(III)Z"⟩, prog_1_method_24_code, 3, (some .boolean))
abbrev mt_LR_isAction : Wm := (⟨"LineRules", "isAction", "(III)Z"⟩, prog_1_method_25_code, 3, (some .boolean))
abbrev mt_LR_hasPattern : Wm := (⟨"LineRules", "hasPattern", "(LLineRules$Rule;)Z"⟩, prog_1_method_26_code, 4, (some .boolean))
abbrev mt_LR_doActions : Wm := (⟨"LineRules", "doActions", "(LLineRules$Rule;)Z"⟩, prog_1_method_27_code, 4, (some .boolean))
abbrev mt_LR_doAction : Wm := (⟨"LineRules", "doAction", "(III)V"⟩, prog_1_method_28_code, 4, none)
abbrev mt_LR_printMatch : Wm := (⟨"LineRules", "printMatch", "(LLineRules$Expression;)V"⟩, prog_1_method_29_code, 3, none)
abbrev mt_Mod_init : Wm := (⟨"LineRulesModel", "<init>", "()V"⟩, prog_10_method_1_code, 1, none)
abbrev mt_Mod_thrown : Wm := (⟨"LineRulesModel", "thrown", "()I"⟩, prog_10_method_2_code, 1, (some .int))
abbrev mt_Mod_goes : Wm := (⟨"LineRulesModel", "goes", "(ZZ)Z"⟩, prog_10_method_3_code, 3, (some .boolean))
abbrev mt_Mod_within : Wm := (⟨"LineRulesModel", "within", "(III)Z"⟩, prog_10_method_4_code, 3, (some .boolean))
abbrev mt_Mod_signsOf : Wm := (⟨"LineRulesModel", "signsOf", "(I)I"⟩, prog_10_method_5_code, 3, (some .int))
abbrev mt_Mod_feedOne : Wm := (⟨"LineRulesModel", "feedOne", "(I)V"⟩, prog_10_method_6_code, 4, none)
abbrev mt_Mod_feed : Wm := (⟨"LineRulesModel", "feed", "(IIIII)I"⟩, prog_10_method_7_code, 6, (some .int))
abbrev mt_Mod_clear : Wm := (⟨"LineRulesModel", "clear", "()I"⟩, prog_10_method_8_code, 2, (some .int))
abbrev mt_Mod_point : Wm := (⟨"LineRulesModel", "point", "()I"⟩, prog_10_method_9_code, 1, (some .int))
abbrev mt_Mod_edge : Wm := (⟨"LineRulesModel", "edge", "(IIII)V"⟩, prog_10_method_10_code, 5, none)
abbrev mt_Mod_fail : Wm := (⟨"LineRulesModel", "fail", "(I)V"⟩, prog_10_method_11_code, 2, none)
abbrev mt_Mod_isItem : Wm := (⟨"LineRulesModel", "isItem", "(I)Z"⟩, prog_10_method_12_code, 1, (some .boolean))
abbrev mt_Mod_items : Wm := (⟨"LineRulesModel", "items", "(II)I"⟩, prog_10_method_13_code, 6, (some .int))
abbrev mt_Mod_draw : Wm := (⟨"LineRulesModel", "draw", "(I)V"⟩, prog_10_method_14_code, 9, none)
abbrev mt_Mod_isSign : Wm := (⟨"LineRulesModel", "isSign", "(II)Z"⟩, prog_10_method_15_code, 10, (some .boolean))
abbrev mt_Mod_expression : Wm := (⟨"LineRulesModel", "expression", "(I)I"⟩, prog_10_method_16_code, 4, (some .int))
abbrev mt_Mod_spread : Wm := (⟨"LineRulesModel", "spread", "(II)V"⟩, prog_10_method_17_code, 6, none)
abbrev mt_Mod_longest : Wm := (⟨"LineRulesModel", "longest", "(II)I"⟩, prog_10_method_18_code, 7, (some .int))
abbrev mt_Mod_seek : Wm := (⟨"LineRulesModel", "seek", "(III)Z"⟩, prog_10_method_19_code, 6, (some .boolean))
abbrev mt_Mod_copyRow : Wm := (⟨"LineRulesModel", "copyRow", "(II)V"⟩, prog_10_method_20_code, 4, none)
abbrev mt_Mod_text : Wm := (⟨"LineRulesModel", "text", "(I)I"⟩, prog_10_method_21_code, 2, (some .int))
abbrev mt_Mod_separator : Wm := (⟨"LineRulesModel", "separator", "(I)I"⟩, prog_10_method_22_code, 3, (some .int))
abbrev mt_Mod_isField : Wm := (⟨"LineRulesModel", "isField", "(I)Z"⟩, prog_10_method_23_code, 1, (some .boolean))
abbrev mt_Mod_rule : Wm := (⟨"LineRulesModel", "rule", "(III)I"⟩, prog_10_method_24_code, 5, (some .int))
abbrev mt_Mod_isAction : Wm := (⟨"LineRulesModel", "isAction", "(III)Z"⟩, prog_10_method_25_code, 3, (some .boolean))
abbrev mt_Mod_action : Wm := (⟨"LineRulesModel", "action", "(IIII)I"⟩, prog_10_method_26_code, 7, (some .int))
abbrev mt_Mod_forget : Wm := (⟨"LineRulesModel", "forget", "()I"⟩, prog_10_method_27_code, 2, (some .int))
abbrev mt_Mod_field : Wm := (⟨"LineRulesModel", "field", "(II)V"⟩, prog_10_method_28_code, 4, none)
abbrev mt_Mod_part : Wm := (⟨"LineRulesModel", "part", "()V"⟩, prog_10_method_29_code, 3, none)
abbrev mt_Mod_sizeOf : Wm := (⟨"LineRulesModel", "sizeOf", "(I)I"⟩, prog_10_method_30_code, 2, (some .int))
abbrev mt_Mod_signOf : Wm := (⟨"LineRulesModel", "signOf", "(II)I"⟩, prog_10_method_31_code, 3, (some .int))
abbrev mt_Mod_numberOf : Wm := (⟨"LineRulesModel", "numberOf", "(I)I"⟩, prog_10_method_32_code, 5, (some .int))
abbrev mt_Mod_put : Wm := (⟨"LineRulesModel", "put", "(I)V"⟩, prog_10_method_33_code, 2, none)
abbrev mt_Mod_spell : Wm := (⟨"LineRulesModel", "spell", "(I)V"⟩, prog_10_method_34_code, 7, none)
abbrev mt_Mod_printRow : Wm := (⟨"LineRulesModel", "printRow", "(III)V"⟩, prog_10_method_35_code, 5, none)
abbrev mt_Mod_compared : Wm := (⟨"LineRulesModel", "compared", "(II)I"⟩, prog_10_method_36_code, 7, (some .int))
abbrev mt_Mod_copyKey : Wm := (⟨"LineRulesModel", "copyKey", "(II)V"⟩, prog_10_method_37_code, 4, none)
abbrev mt_Mod_grow : Wm := (⟨"LineRulesModel", "grow", "(II)V"⟩, prog_10_method_38_code, 5, none)
abbrev mt_Mod_write : Wm := (⟨"LineRulesModel", "write", "(I)V"⟩, prog_10_method_39_code, 2, none)
abbrev mt_Mod_setField : Wm := (⟨"LineRulesModel", "setField", "(I)V"⟩, prog_10_method_40_code, 4, none)
abbrev mt_Mod_fieldToRow : Wm := (⟨"LineRulesModel", "fieldToRow", "(I)V"⟩, prog_10_method_41_code, 3, none)
abbrev mt_Mod_replace : Wm := (⟨"LineRulesModel", "replace", "(IIZ)V"⟩, prog_10_method_42_code, 9, none)
abbrev mt_Mod_act : Wm := (⟨"LineRulesModel", "act", "(III)V"⟩, prog_10_method_43_code, 4, none)
abbrev mt_Mod_has : Wm := (⟨"LineRulesModel", "has", "(III)Z"⟩, prog_10_method_44_code, 4, (some .boolean))
abbrev mt_Mod_line : Wm := (⟨"LineRulesModel", "line", "()I"⟩, prog_10_method_45_code, 5, (some .int))
abbrev mt_Mod_find : Wm := (⟨"LineRulesModel", "find", "(II)I"⟩, prog_10_method_46_code, 4, (some .int))
abbrev mt_Mod_end : Wm := (⟨"LineRulesModel", "end", "()I"⟩, prog_10_method_47_code, 1, (some .int))
abbrev mt_Mod_sign : Wm := (⟨"LineRulesModel", "sign", "(II)I"⟩, prog_10_method_48_code, 4, (some .int))
abbrev mt_Mod_printed : Wm := (⟨"LineRulesModel", "printed", "(I)I"⟩, prog_10_method_49_code, 2, (some .int))
abbrev mt_Mod_counter : Wm := (⟨"LineRulesModel", "counter", "(I)I"⟩, prog_10_method_50_code, 2, (some .int))
abbrev mt_Mod_key : Wm := (⟨"LineRulesModel", "key", "(II)I"⟩, prog_10_method_51_code, 4, (some .int))
abbrev mt_Mod_count : Wm := (⟨"LineRulesModel", "count", "(I)I"⟩, prog_10_method_52_code, 2, (some .int))
abbrev mt_Cut_init : Wm := (⟨"LineRules$CutLine", "<init>", "()V"⟩, prog_2_method_1_code, 2, none)
abbrev mt_Cut_begin : Wm := (⟨"LineRules$CutLine", "begin", "(LLineRules$Row;I)V"⟩, prog_2_method_2_code, 3, none)
abbrev mt_Cut_cut : Wm := (⟨"LineRules$CutLine", "cut", "(I)V"⟩, prog_2_method_3_code, 5, none)
abbrev mt_Cut_addField : Wm := (⟨"LineRules$CutLine", "addField", "(II)V"⟩, prog_2_method_4_code, 3, none)
abbrev mt_Cut_fieldText : Wm := (⟨"LineRules$CutLine", "fieldText", "(I)LLineRules$Row;"⟩, prog_2_method_5_code, 2, (some (.object "LineRules$Row")))
abbrev mt_Cut_setField : Wm := (⟨"LineRules$CutLine", "setField", "(ILLineRules$Row;I)V"⟩, prog_2_method_6_code, 5, none)
abbrev mt_Cut_join : Wm := (⟨"LineRules$CutLine", "join", "(I)V"⟩, prog_2_method_7_code, 3, none)
abbrev mt_Cut_replace : Wm := (⟨"LineRules$CutLine", "replace", "(LLineRules$Expression;LLineRules$Row;I)V"⟩, prog_2_method_8_code, 7, none)
abbrev mt_Cut_matchBehind : Wm := (⟨"LineRules$CutLine", "matchBehind", "(LLineRules$Expression;I)I"⟩, prog_2_method_9_code, 4, (some .int))
abbrev mt_Exp_init : Wm := (⟨"LineRules$Expression", "<init>", "()V"⟩, prog_3_method_1_code, 1, none)
abbrev mt_Exp_drop : Wm := (⟨"LineRules$Expression", "drop", "()V"⟩, prog_3_method_2_code, 1, none)
abbrev mt_Exp_firstFrom : Wm := (⟨"LineRules$Expression", "firstFrom", "(LLineRules$Row;I)I"⟩, prog_3_method_3_code, 4, (some .int))
abbrev mt_Exp_longestFrom : Wm := (⟨"LineRules$Expression", "longestFrom", "(LLineRules$Row;I)I"⟩, prog_3_method_4_code, 9, (some .int))
abbrev mt_Exp_kindOf : Wm := (⟨"LineRules$Expression", "kindOf", "(II)I"⟩, prog_3_method_5_code, 2, (some .int))
abbrev mt_Exp_followersOf : Wm := (⟨"LineRules$Expression", "followersOf", "(J)J"⟩, prog_3_method_6_code, 8, (some .long))
abbrev mt_Out_init : Wm := (⟨"LineRules$Output", "<init>", "()V"⟩, prog_4_method_1_code, 1, none)
abbrev mt_Out_print : Wm := (⟨"LineRules$Output", "print", "(LLineRules$Row;)V"⟩, prog_4_method_2_code, 2, none)
abbrev mt_Out_printPart : Wm := (⟨"LineRules$Output", "printPart", "(LLineRules$Row;II)V"⟩, prog_4_method_3_code, 5, none)
abbrev mt_Out_add : Wm := (⟨"LineRules$Output", "add", "(I)V"⟩, prog_4_method_4_code, 2, none)
abbrev mt_Out_has : Wm := (⟨"LineRules$Output", "has", "(I)Z"⟩, prog_4_method_5_code, 2, (some .boolean))
abbrev mt_Out_signAt : Wm := (⟨"LineRules$Output", "signAt", "(I)I"⟩, prog_4_method_6_code, 2, (some .int))
abbrev mt_Rdr_init : Wm := (⟨"LineRules$Reader", "<init>", "()V"⟩, prog_5_method_1_code, 1, none)
abbrev mt_Rdr_read : Wm := (⟨"LineRules$Reader", "read", "(LLineRules$Row;)I"⟩, prog_5_method_2_code, 4, (some .int))
abbrev mt_Rdr_exchange : Wm := (⟨"LineRules$Reader", "exchange", "(LLineRules$Expression;)LLineRules$Expression;"⟩, prog_5_method_3_code, 3, (some (.object "LineRules$Expression")))
abbrev mt_Rdr_alternation : Wm := (⟨"LineRules$Reader", "alternation", "(I)I"⟩, prog_5_method_4_code, 5, (some .int))
abbrev mt_Rdr_sequence : Wm := (⟨"LineRules$Reader", "sequence", "(I)I"⟩, prog_5_method_5_code, 5, (some .int))
abbrev mt_Rdr_repeated : Wm := (⟨"LineRules$Reader", "repeated", "(I)I"⟩, prog_5_method_6_code, 4, (some .int))
abbrev mt_Rdr_isRepeat : Wm := (⟨"LineRules$Reader", "isRepeat", "(I)Z"⟩, prog_5_method_7_code, 1, (some .boolean))
abbrev mt_Rdr_repeatKind : Wm := (⟨"LineRules$Reader", "repeatKind", "(I)I"⟩, prog_5_method_8_code, 1, (some .int))
abbrev mt_Rdr_atom : Wm := (⟨"LineRules$Reader", "atom", "(I)I"⟩, prog_5_method_9_code, 3, (some .int))
abbrev mt_Rdr_group : Wm := (⟨"LineRules$Reader", "group", "(I)I"⟩, prog_5_method_10_code, 3, (some .int))
abbrev mt_Rdr_escaped : Wm := (⟨"LineRules$Reader", "escaped", "()I"⟩, prog_5_method_11_code, 2, (some .int))
abbrev mt_Rdr_one : Wm := (⟨"LineRules$Reader", "one", "(I)I"⟩, prog_5_method_12_code, 4, (some .int))
abbrev mt_Rdr_anySign : Wm := (⟨"LineRules$Reader", "anySign", "()I"⟩, prog_5_method_13_code, 3, (some .int))
abbrev mt_Rdr_items : Wm := (⟨"LineRules$Reader", "items", "()I"⟩, prog_5_method_14_code, 5, (some .int))
abbrev mt_Rdr_item : Wm := (⟨"LineRules$Reader", "item", "(J)V"⟩, prog_5_method_15_code, 5, none)
abbrev mt_Rdr_isItemSign : Wm := (⟨"LineRules$Reader", "isItemSign", "(I)Z"⟩, prog_5_method_16_code, 1, (some .boolean))
abbrev mt_Rdr_next : Wm := (⟨"LineRules$Reader", "next", "()I"⟩, prog_5_method_17_code, 1, (some .int))
abbrev mt_Rdr_refuse : Wm := (⟨"LineRules$Reader", "refuse", "()I"⟩, prog_5_method_18_code, 1, (some .int))
abbrev mt_Rdr_newAtom : Wm := (⟨"LineRules$Reader", "newAtom", "()J"⟩, prog_5_method_19_code, 1, (some .long))
abbrev mt_Rdr_take : Wm := (⟨"LineRules$Reader", "take", "(JII)V"⟩, prog_5_method_20_code, 6, none)
abbrev mt_Rdr_takeOthers : Wm := (⟨"LineRules$Reader", "takeOthers", "(J)V"⟩, prog_5_method_21_code, 4, none)
abbrev mt_Rdr_node : Wm := (⟨"LineRules$Reader", "node", "(III)I"⟩, prog_5_method_22_code, 4, (some .int))
abbrev mt_Rdr_weighAll : Wm := (⟨"LineRules$Reader", "weighAll", "(I)V"⟩, prog_5_method_23_code, 3, none)
abbrev mt_Rdr_weigh : Wm := (⟨"LineRules$Reader", "weigh", "(II)V"⟩, prog_5_method_24_code, 5, none)
abbrev mt_Rdr_set : Wm := (⟨"LineRules$Reader", "set", "(IZJJ)V"⟩, prog_5_method_25_code, 7, none)
abbrev mt_Rdr_link : Wm := (⟨"LineRules$Reader", "link", "(I)V"⟩, prog_5_method_26_code, 2, none)
abbrev mt_Rdr_follow : Wm := (⟨"LineRules$Reader", "follow", "(JJ)V"⟩, prog_5_method_27_code, 6, none)
abbrev mt_Row_init : Wm := (⟨"LineRules$Row", "<init>", "(I)V"⟩, prog_6_method_1_code, 2, none)
abbrev mt_Row_drop : Wm := (⟨"LineRules$Row", "drop", "()V"⟩, prog_6_method_2_code, 1, none)
abbrev mt_Row_has : Wm := (⟨"LineRules$Row", "has", "(I)Z"⟩, prog_6_method_3_code, 2, (some .boolean))
abbrev mt_Row_add : Wm := (⟨"LineRules$Row", "add", "(I)V"⟩, prog_6_method_4_code, 2, none)
abbrev mt_Row_addPart : Wm := (⟨"LineRules$Row", "addPart", "(LLineRules$Row;II)V"⟩, prog_6_method_5_code, 5, none)
abbrev mt_Row_addAll : Wm := (⟨"LineRules$Row", "addAll", "(LLineRules$Row;)V"⟩, prog_6_method_6_code, 2, none)
abbrev mt_Row_become : Wm := (⟨"LineRules$Row", "become", "(LLineRules$Row;)V"⟩, prog_6_method_7_code, 3, none)
abbrev mt_Row_becomeNumber : Wm := (⟨"LineRules$Row", "becomeNumber", "(I)V"⟩, prog_6_method_8_code, 7, none)
abbrev mt_Row_toNumber : Wm := (⟨"LineRules$Row", "toNumber", "()I"⟩, prog_6_method_9_code, 4, (some .int))
abbrev mt_Row_compareWith : Wm := (⟨"LineRules$Row", "compareWith", "(LLineRules$Row;)I"⟩, prog_6_method_10_code, 4, (some .int))
abbrev mt_Rul_init : Wm := (⟨"LineRules$Rule", "<init>", "()V"⟩, prog_7_method_1_code, 1, none)
abbrev mt_Rul_begin : Wm := (⟨"LineRules$Rule", "begin", "(III)V"⟩, prog_7_method_2_code, 4, none)
abbrev mt_Rul_isFull : Wm := (⟨"LineRules$Rule", "isFull", "()Z"⟩, prog_7_method_3_code, 1, (some .boolean))
abbrev mt_Rul_add : Wm := (⟨"LineRules$Rule", "add", "(III)I"⟩, prog_7_method_4_code, 4, (some .int))
abbrev mt_Tab_init : Wm := (⟨"LineRules$Table", "<init>", "()V"⟩, prog_8_method_1_code, 1, none)
abbrev mt_Tab_grow : Wm := (⟨"LineRules$Table", "grow", "(LLineRules$Row;I)V"⟩, prog_8_method_2_code, 4, none)
abbrev mt_Tab_placeOf : Wm := (⟨"LineRules$Table", "placeOf", "(LLineRules$Row;)I"⟩, prog_8_method_3_code, 3, (some .int))
abbrev mt_Tab_insert : Wm := (⟨"LineRules$Table", "insert", "(ILLineRules$Row;I)V"⟩, prog_8_method_4_code, 5, none)
abbrev mt_Law_feed : Wm := (⟨"LineRulesLaw", "feed", "(LLineRules;IIIII[J)I"⟩, method_3_code, 8, (some .int))
abbrev mt_Law_expression : Wm := (⟨"LineRulesLaw", "expression", "(LLineRules;I[J)I"⟩, method_4_code, 4, (some .int))
abbrev mt_Law_text : Wm := (⟨"LineRulesLaw", "text", "(LLineRules;I[J)I"⟩, method_5_code, 4, (some .int))
abbrev mt_Law_separator : Wm := (⟨"LineRulesLaw", "separator", "(LLineRules;I[J)I"⟩, method_6_code, 4, (some .int))
abbrev mt_Law_rule : Wm := (⟨"LineRulesLaw", "rule", "(LLineRules;III[J)I"⟩, method_7_code, 6, (some .int))
abbrev mt_Law_action : Wm := (⟨"LineRulesLaw", "action", "(LLineRules;IIII[J)I"⟩, method_8_code, 7, (some .int))
abbrev mt_Law_find : Wm := (⟨"LineRulesLaw", "find", "(LLineRules;II[J)I"⟩, method_9_code, 5, (some .int))
abbrev mt_Law_sign : Wm := (⟨"LineRulesLaw", "sign", "(LLineRules;II[J)I"⟩, method_10_code, 5, (some .int))
abbrev mt_Law_printed : Wm := (⟨"LineRulesLaw", "printed", "(LLineRules;I[J)I"⟩, method_11_code, 4, (some .int))
abbrev mt_Law_counter : Wm := (⟨"LineRulesLaw", "counter", "(LLineRules;I[J)I"⟩, method_12_code, 4, (some .int))
abbrev mt_Law_key : Wm := (⟨"LineRulesLaw", "key", "(LLineRules;II[J)I"⟩, method_13_code, 5, (some .int))
abbrev mt_Law_count : Wm := (⟨"LineRulesLaw", "count", "(LLineRules;I[J)I"⟩, method_14_code, 4, (some .int))
abbrev mt_Law_law : Wm := (⟨"LineRulesLaw", "law", "([I)Z"⟩, code, 7, (some .boolean))
abbrev mt_Mth_floorMod : Wm := (⟨"java/lang/Math", "floorMod", "(II)I"⟩, prog_14_method_50_code, 3, (some .int))
abbrev mt_Mth_min : Wm := (⟨"java/lang/Math", "min", "(II)I"⟩, prog_14_method_69_code, 2, (some .int))
abbrev mt_Arr_fill : Wm := (⟨"java/util/Arrays", "fill", "([JJ)V"⟩, prog_19_method_101_code, 5, none)
theorem fl_Row_9 : wf_fl "LineRules$Row" 9 5 0 := ⟨_, rfl, by decide, wl_mem 96 (by decide +kernel) rfl⟩
theorem fl_Out_25 : wf_fl "LineRules$Output" 25 5 0 := ⟨_, rfl, by decide, wl_mem 97 (by decide +kernel) rfl⟩
theorem fl_Cut_44 : wf_fl "LineRules$CutLine" 44 5 0 := ⟨_, rfl, by decide, wl_mem 98 (by decide +kernel) rfl⟩
theorem fl_Exp_51 : wf_fl "LineRules$Expression" 51 5 0 := ⟨_, rfl, by decide, wl_mem 99 (by decide +kernel) rfl⟩
theorem fl_LR_204 : wf_fl "LineRules" 204 5 0 := ⟨_, rfl, by decide, wl_mem 100 (by decide +kernel) rfl⟩
theorem fl_Rdr_139 : wf_fl "LineRules$Reader" 139 5 0 := ⟨_, rfl, by decide, wl_mem 101 (by decide +kernel) rfl⟩
theorem fl_Row_15 : wf_fl "LineRules$Row" 15 5 1 := ⟨_, rfl, by decide, wl_mem 102 (by decide +kernel) rfl⟩
theorem fl_Out_15 : wf_fl "LineRules$Output" 15 5 1 := ⟨_, rfl, by decide, wl_mem 103 (by decide +kernel) rfl⟩
theorem fl_LR_82 : wf_fl "LineRules" 82 5 1 := ⟨_, rfl, by decide, wl_mem 104 (by decide +kernel) rfl⟩
theorem fl_Rdr_65 : wf_fl "LineRules$Reader" 65 5 1 := ⟨_, rfl, by decide, wl_mem 105 (by decide +kernel) rfl⟩
theorem fl_Exp_38 : wf_fl "LineRules$Expression" 38 5 1 := ⟨_, rfl, by decide, wl_mem 106 (by decide +kernel) rfl⟩
theorem fl_Cut_41 : wf_fl "LineRules$CutLine" 41 5 1 := ⟨_, rfl, by decide, wl_mem 107 (by decide +kernel) rfl⟩
theorem fl_Tab_36 : wf_fl "LineRules$Table" 36 5 1 := ⟨_, rfl, by decide, wl_mem 108 (by decide +kernel) rfl⟩
theorem fl_Exp_9 : wf_fl "LineRules$Expression" 9 2 0 := ⟨_, rfl, by decide, wl_mem 130 (by decide +kernel) rfl⟩
theorem fl_Rdr_142 : wf_fl "LineRules$Reader" 142 2 0 := ⟨_, rfl, by decide, wl_mem 131 (by decide +kernel) rfl⟩
theorem fl_Exp_15 : wf_fl "LineRules$Expression" 15 2 1 := ⟨_, rfl, by decide, wl_mem 132 (by decide +kernel) rfl⟩
theorem fl_Rdr_160 : wf_fl "LineRules$Reader" 160 2 1 := ⟨_, rfl, by decide, wl_mem 133 (by decide +kernel) rfl⟩
theorem fl_Exp_18 : wf_fl "LineRules$Expression" 18 2 2 := ⟨_, rfl, by decide, wl_mem 134 (by decide +kernel) rfl⟩
theorem fl_Rdr_78 : wf_fl "LineRules$Reader" 78 2 2 := ⟨_, rfl, by decide, wl_mem 135 (by decide +kernel) rfl⟩
theorem fl_Exp_21 : wf_fl "LineRules$Expression" 21 2 3 := ⟨_, rfl, by decide, wl_mem 136 (by decide +kernel) rfl⟩
theorem fl_Rdr_79 : wf_fl "LineRules$Reader" 79 2 3 := ⟨_, rfl, by decide, wl_mem 137 (by decide +kernel) rfl⟩
theorem fl_Exp_24 : wf_fl "LineRules$Expression" 24 2 4 := ⟨_, rfl, by decide, wl_mem 138 (by decide +kernel) rfl⟩
theorem fl_Rdr_75 : wf_fl "LineRules$Reader" 75 2 4 := ⟨_, rfl, by decide, wl_mem 139 (by decide +kernel) rfl⟩
theorem fl_Exp_34 : wf_fl "LineRules$Expression" 34 2 5 := ⟨_, rfl, by decide, wl_mem 140 (by decide +kernel) rfl⟩
theorem fl_Rdr_126 : wf_fl "LineRules$Reader" 126 2 5 := ⟨_, rfl, by decide, wl_mem 141 (by decide +kernel) rfl⟩
theorem fl_Rdr_11 : wf_fl "LineRules$Reader" 11 4 0 := ⟨_, rfl, by decide, wl_mem 159 (by decide +kernel) rfl⟩
theorem fl_Rdr_15 : wf_fl "LineRules$Reader" 15 4 1 := ⟨_, rfl, by decide, wl_mem 160 (by decide +kernel) rfl⟩
theorem fl_Rdr_18 : wf_fl "LineRules$Reader" 18 4 2 := ⟨_, rfl, by decide, wl_mem 161 (by decide +kernel) rfl⟩
theorem fl_Rdr_21 : wf_fl "LineRules$Reader" 21 4 3 := ⟨_, rfl, by decide, wl_mem 162 (by decide +kernel) rfl⟩
theorem fl_Rdr_25 : wf_fl "LineRules$Reader" 25 4 4 := ⟨_, rfl, by decide, wl_mem 163 (by decide +kernel) rfl⟩
theorem fl_Rdr_29 : wf_fl "LineRules$Reader" 29 4 5 := ⟨_, rfl, by decide, wl_mem 164 (by decide +kernel) rfl⟩
theorem fl_Rdr_55 : wf_fl "LineRules$Reader" 55 4 6 := ⟨_, rfl, by decide, wl_mem 165 (by decide +kernel) rfl⟩
theorem fl_Rdr_35 : wf_fl "LineRules$Reader" 35 4 7 := ⟨_, rfl, by decide, wl_mem 166 (by decide +kernel) rfl⟩
theorem fl_Rdr_44 : wf_fl "LineRules$Reader" 44 4 8 := ⟨_, rfl, by decide, wl_mem 167 (by decide +kernel) rfl⟩
theorem fl_Rdr_48 : wf_fl "LineRules$Reader" 48 4 9 := ⟨_, rfl, by decide, wl_mem 168 (by decide +kernel) rfl⟩
theorem fl_Rdr_52 : wf_fl "LineRules$Reader" 52 4 10 := ⟨_, rfl, by decide, wl_mem 169 (by decide +kernel) rfl⟩
theorem fl_Cut_14 : wf_fl "LineRules$CutLine" 14 1 0 := ⟨_, rfl, by decide, wl_mem 203 (by decide +kernel) rfl⟩
theorem fl_LR_192 : wf_fl "LineRules" 192 1 0 := ⟨_, rfl, by decide, wl_mem 204 (by decide +kernel) rfl⟩
theorem fl_Cut_37 : wf_fl "LineRules$CutLine" 37 1 1 := ⟨_, rfl, by decide, wl_mem 205 (by decide +kernel) rfl⟩
theorem fl_LR_187 : wf_fl "LineRules" 187 1 1 := ⟨_, rfl, by decide, wl_mem 206 (by decide +kernel) rfl⟩
theorem fl_Cut_20 : wf_fl "LineRules$CutLine" 20 1 2 := ⟨_, rfl, by decide, wl_mem 207 (by decide +kernel) rfl⟩
theorem fl_Cut_24 : wf_fl "LineRules$CutLine" 24 1 3 := ⟨_, rfl, by decide, wl_mem 208 (by decide +kernel) rfl⟩
theorem fl_Cut_27 : wf_fl "LineRules$CutLine" 27 1 4 := ⟨_, rfl, by decide, wl_mem 209 (by decide +kernel) rfl⟩
theorem fl_Tab_11 : wf_fl "LineRules$Table" 11 7 0 := ⟨_, rfl, by decide, wl_mem 228 (by decide +kernel) rfl⟩
theorem fl_LR_226 : wf_fl "LineRules" 226 7 0 := ⟨_, rfl, by decide, wl_mem 229 (by decide +kernel) rfl⟩
theorem fl_Tab_17 : wf_fl "LineRules$Table" 17 7 1 := ⟨_, rfl, by decide, wl_mem 230 (by decide +kernel) rfl⟩
theorem fl_LR_223 : wf_fl "LineRules" 223 7 1 := ⟨_, rfl, by decide, wl_mem 231 (by decide +kernel) rfl⟩
theorem fl_Tab_25 : wf_fl "LineRules$Table" 25 7 2 := ⟨_, rfl, by decide, wl_mem 232 (by decide +kernel) rfl⟩
theorem fl_LR_218 : wf_fl "LineRules" 218 7 2 := ⟨_, rfl, by decide, wl_mem 233 (by decide +kernel) rfl⟩
theorem fl_Out_9 : wf_fl "LineRules$Output" 9 3 0 := ⟨_, rfl, by decide, wl_mem 247 (by decide +kernel) rfl⟩
theorem fl_Out_32 : wf_fl "LineRules$Output" 32 3 1 := ⟨_, rfl, by decide, wl_mem 248 (by decide +kernel) rfl⟩
theorem fl_LR_229 : wf_fl "LineRules" 229 3 1 := ⟨_, rfl, by decide, wl_mem 249 (by decide +kernel) rfl⟩
theorem fl_Rul_21 : wf_fl "LineRules$Rule" 21 6 0 := ⟨_, rfl, by decide, wl_mem 261 (by decide +kernel) rfl⟩
theorem fl_LR_245 : wf_fl "LineRules" 245 6 0 := ⟨_, rfl, by decide, wl_mem 262 (by decide +kernel) rfl⟩
theorem fl_Rul_25 : wf_fl "LineRules$Rule" 25 6 1 := ⟨_, rfl, by decide, wl_mem 263 (by decide +kernel) rfl⟩
theorem fl_LR_239 : wf_fl "LineRules" 239 6 1 := ⟨_, rfl, by decide, wl_mem 264 (by decide +kernel) rfl⟩
theorem fl_Rul_28 : wf_fl "LineRules$Rule" 28 6 2 := ⟨_, rfl, by decide, wl_mem 265 (by decide +kernel) rfl⟩
theorem fl_LR_242 : wf_fl "LineRules" 242 6 2 := ⟨_, rfl, by decide, wl_mem 266 (by decide +kernel) rfl⟩
theorem fl_Rul_9 : wf_fl "LineRules$Rule" 9 6 3 := ⟨_, rfl, by decide, wl_mem 267 (by decide +kernel) rfl⟩
theorem fl_LR_254 : wf_fl "LineRules" 254 6 3 := ⟨_, rfl, by decide, wl_mem 268 (by decide +kernel) rfl⟩
theorem fl_Rul_15 : wf_fl "LineRules$Rule" 15 6 4 := ⟨_, rfl, by decide, wl_mem 269 (by decide +kernel) rfl⟩
theorem fl_LR_257 : wf_fl "LineRules" 257 6 4 := ⟨_, rfl, by decide, wl_mem 270 (by decide +kernel) rfl⟩
theorem fl_Rul_18 : wf_fl "LineRules$Rule" 18 6 5 := ⟨_, rfl, by decide, wl_mem 271 (by decide +kernel) rfl⟩
theorem fl_LR_260 : wf_fl "LineRules" 260 6 5 := ⟨_, rfl, by decide, wl_mem 272 (by decide +kernel) rfl⟩
theorem fl_Rul_31 : wf_fl "LineRules$Rule" 31 6 6 := ⟨_, rfl, by decide, wl_mem 273 (by decide +kernel) rfl⟩
theorem fl_LR_251 : wf_fl "LineRules" 251 6 6 := ⟨_, rfl, by decide, wl_mem 274 (by decide +kernel) rfl⟩
theorem fl_LR_14 : wf_fl "LineRules" 14 0 0 := ⟨_, rfl, by decide, wl_mem 290 (by decide +kernel) rfl⟩
theorem fl_LR_18 : wf_fl "LineRules" 18 0 1 := ⟨_, rfl, by decide, wl_mem 291 (by decide +kernel) rfl⟩
theorem fl_LR_24 : wf_fl "LineRules" 24 0 2 := ⟨_, rfl, by decide, wl_mem 292 (by decide +kernel) rfl⟩
theorem fl_LR_31 : wf_fl "LineRules" 31 0 3 := ⟨_, rfl, by decide, wl_mem 293 (by decide +kernel) rfl⟩
theorem fl_LR_37 : wf_fl "LineRules" 37 0 4 := ⟨_, rfl, by decide, wl_mem 294 (by decide +kernel) rfl⟩
theorem fl_LR_44 : wf_fl "LineRules" 44 0 5 := ⟨_, rfl, by decide, wl_mem 295 (by decide +kernel) rfl⟩
theorem fl_LR_48 : wf_fl "LineRules" 48 0 6 := ⟨_, rfl, by decide, wl_mem 296 (by decide +kernel) rfl⟩
theorem fl_LR_55 : wf_fl "LineRules" 55 0 7 := ⟨_, rfl, by decide, wl_mem 297 (by decide +kernel) rfl⟩
theorem fl_LR_62 : wf_fl "LineRules" 62 0 8 := ⟨_, rfl, by decide, wl_mem 298 (by decide +kernel) rfl⟩
theorem fl_LR_66 : wf_fl "LineRules" 66 0 9 := ⟨_, rfl, by decide, wl_mem 299 (by decide +kernel) rfl⟩
theorem fl_LR_141 : wf_fl "LineRules" 141 0 10 := ⟨_, rfl, by decide, wl_mem 300 (by decide +kernel) rfl⟩
theorem fl_LR_168 : wf_fl "LineRules" 168 0 11 := ⟨_, rfl, by decide, wl_mem 301 (by decide +kernel) rfl⟩
theorem fl_LR_69 : wf_fl "LineRules" 69 0 12 := ⟨_, rfl, by decide, wl_mem 302 (by decide +kernel) rfl⟩
theorem fl_LR_73 : wf_fl "LineRules" 73 0 13 := ⟨_, rfl, by decide, wl_mem 303 (by decide +kernel) rfl⟩
theorem fl_Mod_99 : wf_fl "LineRulesModel" 99 8 0 := ⟨_, rfl, by decide, wl_mem 857 (by decide +kernel) rfl⟩
theorem fl_Mod_7 : wf_fl "LineRulesModel" 7 8 1 := ⟨_, rfl, by decide, wl_mem 858 (by decide +kernel) rfl⟩
theorem fl_Mod_13 : wf_fl "LineRulesModel" 13 8 2 := ⟨_, rfl, by decide, wl_mem 859 (by decide +kernel) rfl⟩
theorem fl_Mod_16 : wf_fl "LineRulesModel" 16 8 3 := ⟨_, rfl, by decide, wl_mem 860 (by decide +kernel) rfl⟩
theorem fl_Mod_19 : wf_fl "LineRulesModel" 19 8 4 := ⟨_, rfl, by decide, wl_mem 861 (by decide +kernel) rfl⟩
theorem fl_Mod_22 : wf_fl "LineRulesModel" 22 8 5 := ⟨_, rfl, by decide, wl_mem 862 (by decide +kernel) rfl⟩
theorem fl_Mod_172 : wf_fl "LineRulesModel" 172 8 6 := ⟨_, rfl, by decide, wl_mem 863 (by decide +kernel) rfl⟩
theorem fl_Mod_26 : wf_fl "LineRulesModel" 26 8 7 := ⟨_, rfl, by decide, wl_mem 864 (by decide +kernel) rfl⟩
theorem fl_Mod_29 : wf_fl "LineRulesModel" 29 8 8 := ⟨_, rfl, by decide, wl_mem 865 (by decide +kernel) rfl⟩
theorem fl_Mod_32 : wf_fl "LineRulesModel" 32 8 9 := ⟨_, rfl, by decide, wl_mem 866 (by decide +kernel) rfl⟩
theorem fl_Mod_35 : wf_fl "LineRulesModel" 35 8 10 := ⟨_, rfl, by decide, wl_mem 867 (by decide +kernel) rfl⟩
theorem fl_Mod_38 : wf_fl "LineRulesModel" 38 8 11 := ⟨_, rfl, by decide, wl_mem 868 (by decide +kernel) rfl⟩
theorem fl_Mod_41 : wf_fl "LineRulesModel" 41 8 12 := ⟨_, rfl, by decide, wl_mem 869 (by decide +kernel) rfl⟩
theorem fl_Mod_44 : wf_fl "LineRulesModel" 44 8 13 := ⟨_, rfl, by decide, wl_mem 870 (by decide +kernel) rfl⟩
theorem fl_Mod_241 : wf_fl "LineRulesModel" 241 8 14 := ⟨_, rfl, by decide, wl_mem 871 (by decide +kernel) rfl⟩
theorem fl_Mod_178 : wf_fl "LineRulesModel" 178 8 15 := ⟨_, rfl, by decide, wl_mem 872 (by decide +kernel) rfl⟩
theorem fl_Mod_47 : wf_fl "LineRulesModel" 47 8 16 := ⟨_, rfl, by decide, wl_mem 873 (by decide +kernel) rfl⟩
theorem fl_Mod_50 : wf_fl "LineRulesModel" 50 8 17 := ⟨_, rfl, by decide, wl_mem 874 (by decide +kernel) rfl⟩
theorem fl_Mod_53 : wf_fl "LineRulesModel" 53 8 18 := ⟨_, rfl, by decide, wl_mem 875 (by decide +kernel) rfl⟩
theorem fl_Mod_200 : wf_fl "LineRulesModel" 200 8 19 := ⟨_, rfl, by decide, wl_mem 876 (by decide +kernel) rfl⟩
theorem fl_Mod_56 : wf_fl "LineRulesModel" 56 8 20 := ⟨_, rfl, by decide, wl_mem 877 (by decide +kernel) rfl⟩
theorem fl_Mod_59 : wf_fl "LineRulesModel" 59 8 21 := ⟨_, rfl, by decide, wl_mem 878 (by decide +kernel) rfl⟩
theorem fl_Mod_62 : wf_fl "LineRulesModel" 62 8 22 := ⟨_, rfl, by decide, wl_mem 879 (by decide +kernel) rfl⟩
theorem fl_Mod_190 : wf_fl "LineRulesModel" 190 8 23 := ⟨_, rfl, by decide, wl_mem 880 (by decide +kernel) rfl⟩
theorem fl_Mod_65 : wf_fl "LineRulesModel" 65 8 24 := ⟨_, rfl, by decide, wl_mem 881 (by decide +kernel) rfl⟩
theorem fl_Mod_68 : wf_fl "LineRulesModel" 68 8 25 := ⟨_, rfl, by decide, wl_mem 882 (by decide +kernel) rfl⟩
theorem fl_Mod_114 : wf_fl "LineRulesModel" 114 8 26 := ⟨_, rfl, by decide, wl_mem 883 (by decide +kernel) rfl⟩
theorem fl_Mod_117 : wf_fl "LineRulesModel" 117 8 27 := ⟨_, rfl, by decide, wl_mem 884 (by decide +kernel) rfl⟩
theorem fl_Mod_71 : wf_fl "LineRulesModel" 71 8 28 := ⟨_, rfl, by decide, wl_mem 885 (by decide +kernel) rfl⟩
theorem fl_Mod_74 : wf_fl "LineRulesModel" 74 8 29 := ⟨_, rfl, by decide, wl_mem 886 (by decide +kernel) rfl⟩
theorem fl_Mod_77 : wf_fl "LineRulesModel" 77 8 30 := ⟨_, rfl, by decide, wl_mem 887 (by decide +kernel) rfl⟩
theorem fl_Mod_80 : wf_fl "LineRulesModel" 80 8 31 := ⟨_, rfl, by decide, wl_mem 888 (by decide +kernel) rfl⟩
theorem fl_Mod_83 : wf_fl "LineRulesModel" 83 8 32 := ⟨_, rfl, by decide, wl_mem 889 (by decide +kernel) rfl⟩
theorem fl_Mod_87 : wf_fl "LineRulesModel" 87 8 33 := ⟨_, rfl, by decide, wl_mem 890 (by decide +kernel) rfl⟩
theorem fl_Mod_90 : wf_fl "LineRulesModel" 90 8 34 := ⟨_, rfl, by decide, wl_mem 891 (by decide +kernel) rfl⟩
theorem fl_Mod_93 : wf_fl "LineRulesModel" 93 8 35 := ⟨_, rfl, by decide, wl_mem 892 (by decide +kernel) rfl⟩
theorem fl_Mod_96 : wf_fl "LineRulesModel" 96 8 36 := ⟨_, rfl, by decide, wl_mem 893 (by decide +kernel) rfl⟩
theorem fl_Mod_120 : wf_fl "LineRulesModel" 120 8 37 := ⟨_, rfl, by decide, wl_mem 894 (by decide +kernel) rfl⟩
theorem fl_Mod_160 : wf_fl "LineRulesModel" 160 8 38 := ⟨_, rfl, by decide, wl_mem 895 (by decide +kernel) rfl⟩
theorem fl_Mod_163 : wf_fl "LineRulesModel" 163 8 39 := ⟨_, rfl, by decide, wl_mem 896 (by decide +kernel) rfl⟩
theorem fi_LR_0 : wf_fi "LineRules" 0 0 := ⟨_, rfl, rfl, rfl⟩
theorem fi_LR_1 : wf_fi "LineRules" 0 1 := ⟨_, rfl, rfl, rfl⟩
theorem fi_LR_2 : wf_fi "LineRules" 0 2 := ⟨_, rfl, rfl, rfl⟩
theorem fi_LR_3 : wf_fi "LineRules" 0 3 := ⟨_, rfl, rfl, rfl⟩
theorem fi_LR_4 : wf_fi "LineRules" 0 4 := ⟨_, rfl, rfl, rfl⟩
theorem fi_LR_5 : wf_fi "LineRules" 0 5 := ⟨_, rfl, rfl, rfl⟩
theorem fi_LR_6 : wf_fi "LineRules" 0 6 := ⟨_, rfl, rfl, rfl⟩
theorem fi_LR_7 : wf_fi "LineRules" 0 7 := ⟨_, rfl, rfl, rfl⟩
theorem fi_LR_8 : wf_fi "LineRules" 0 8 := ⟨_, rfl, rfl, rfl⟩
theorem fi_LR_9 : wf_fi "LineRules" 0 9 := ⟨_, rfl, rfl, rfl⟩
theorem nf_LR_10 : wf_nf 0 10 := ⟨_, rfl, rfl⟩
theorem nf_LR_11 : wf_nf 0 11 := ⟨_, rfl, rfl⟩
theorem nf_LR_12 : wf_nf 0 12 := ⟨_, rfl, rfl⟩
theorem nf_LR_13 : wf_nf 0 13 := ⟨_, rfl, rfl⟩
theorem fi_Cut_0 : wf_fi "LineRules$CutLine" 1 0 := ⟨_, rfl, rfl, rfl⟩
theorem nf_Cut_1 : wf_nf 1 1 := ⟨_, rfl, rfl⟩
theorem fi_Cut_2 : wf_fi "LineRules$CutLine" 1 2 := ⟨_, rfl, rfl, rfl⟩
theorem fi_Cut_3 : wf_fi "LineRules$CutLine" 1 3 := ⟨_, rfl, rfl, rfl⟩
theorem fi_Cut_4 : wf_fi "LineRules$CutLine" 1 4 := ⟨_, rfl, rfl, rfl⟩
theorem fi_Exp_0 : wf_fi "LineRules$Expression" 2 0 := ⟨_, rfl, rfl, rfl⟩
theorem fi_Exp_1 : wf_fi "LineRules$Expression" 2 1 := ⟨_, rfl, rfl, rfl⟩
theorem fi_Exp_2 : wf_fi "LineRules$Expression" 2 2 := ⟨_, rfl, rfl, rfl⟩
theorem fi_Exp_3 : wf_fi "LineRules$Expression" 2 3 := ⟨_, rfl, rfl, rfl⟩
theorem fi_Exp_4 : wf_fi "LineRules$Expression" 2 4 := ⟨_, rfl, rfl, rfl⟩
theorem nf_Exp_5 : wf_nf 2 5 := ⟨_, rfl, rfl⟩
theorem fi_Out_0 : wf_fi "LineRules$Output" 3 0 := ⟨_, rfl, rfl, rfl⟩
theorem nf_Out_1 : wf_nf 3 1 := ⟨_, rfl, rfl⟩
theorem fi_Rdr_0 : wf_fi "LineRules$Reader" 4 0 := ⟨_, rfl, rfl, rfl⟩
theorem fi_Rdr_1 : wf_fi "LineRules$Reader" 4 1 := ⟨_, rfl, rfl, rfl⟩
theorem fi_Rdr_2 : wf_fi "LineRules$Reader" 4 2 := ⟨_, rfl, rfl, rfl⟩
theorem fi_Rdr_3 : wf_fi "LineRules$Reader" 4 3 := ⟨_, rfl, rfl, rfl⟩
theorem fi_Rdr_4 : wf_fi "LineRules$Reader" 4 4 := ⟨_, rfl, rfl, rfl⟩
theorem fi_Rdr_5 : wf_fi "LineRules$Reader" 4 5 := ⟨_, rfl, rfl, rfl⟩
theorem nf_Rdr_6 : wf_nf 4 6 := ⟨_, rfl, rfl⟩
theorem nf_Rdr_7 : wf_nf 4 7 := ⟨_, rfl, rfl⟩
theorem nf_Rdr_8 : wf_nf 4 8 := ⟨_, rfl, rfl⟩
theorem nf_Rdr_9 : wf_nf 4 9 := ⟨_, rfl, rfl⟩
theorem nf_Rdr_10 : wf_nf 4 10 := ⟨_, rfl, rfl⟩
theorem fi_Row_0 : wf_fi "LineRules$Row" 5 0 := ⟨_, rfl, rfl, rfl⟩
theorem nf_Row_1 : wf_nf 5 1 := ⟨_, rfl, rfl⟩
theorem nf_Rul_0 : wf_nf 6 0 := ⟨_, rfl, rfl⟩
theorem nf_Rul_1 : wf_nf 6 1 := ⟨_, rfl, rfl⟩
theorem nf_Rul_2 : wf_nf 6 2 := ⟨_, rfl, rfl⟩
theorem fi_Rul_3 : wf_fi "LineRules$Rule" 6 3 := ⟨_, rfl, rfl, rfl⟩
theorem fi_Rul_4 : wf_fi "LineRules$Rule" 6 4 := ⟨_, rfl, rfl, rfl⟩
theorem fi_Rul_5 : wf_fi "LineRules$Rule" 6 5 := ⟨_, rfl, rfl, rfl⟩
theorem nf_Rul_6 : wf_nf 6 6 := ⟨_, rfl, rfl⟩
theorem fi_Tab_0 : wf_fi "LineRules$Table" 7 0 := ⟨_, rfl, rfl, rfl⟩
theorem fi_Tab_1 : wf_fi "LineRules$Table" 7 1 := ⟨_, rfl, rfl, rfl⟩
theorem nf_Tab_2 : wf_nf 7 2 := ⟨_, rfl, rfl⟩
theorem nf_Mod_0 : wf_nf 8 0 := ⟨_, rfl, rfl⟩
theorem fi_Mod_1 : wf_fi "LineRulesModel" 8 1 := ⟨_, rfl, rfl, rfl⟩
theorem fi_Mod_2 : wf_fi "LineRulesModel" 8 2 := ⟨_, rfl, rfl, rfl⟩
theorem fi_Mod_3 : wf_fi "LineRulesModel" 8 3 := ⟨_, rfl, rfl, rfl⟩
theorem fi_Mod_4 : wf_fi "LineRulesModel" 8 4 := ⟨_, rfl, rfl, rfl⟩
theorem nf_Mod_5 : wf_nf 8 5 := ⟨_, rfl, rfl⟩
theorem nf_Mod_6 : wf_nf 8 6 := ⟨_, rfl, rfl⟩
theorem fi_Mod_7 : wf_fi "LineRulesModel" 8 7 := ⟨_, rfl, rfl, rfl⟩
theorem fi_Mod_8 : wf_fi "LineRulesModel" 8 8 := ⟨_, rfl, rfl, rfl⟩
theorem fi_Mod_9 : wf_fi "LineRulesModel" 8 9 := ⟨_, rfl, rfl, rfl⟩
theorem fi_Mod_10 : wf_fi "LineRulesModel" 8 10 := ⟨_, rfl, rfl, rfl⟩
theorem fi_Mod_11 : wf_fi "LineRulesModel" 8 11 := ⟨_, rfl, rfl, rfl⟩
theorem fi_Mod_12 : wf_fi "LineRulesModel" 8 12 := ⟨_, rfl, rfl, rfl⟩
theorem fi_Mod_13 : wf_fi "LineRulesModel" 8 13 := ⟨_, rfl, rfl, rfl⟩
theorem nf_Mod_14 : wf_nf 8 14 := ⟨_, rfl, rfl⟩
theorem nf_Mod_15 : wf_nf 8 15 := ⟨_, rfl, rfl⟩
theorem fi_Mod_16 : wf_fi "LineRulesModel" 8 16 := ⟨_, rfl, rfl, rfl⟩
theorem fi_Mod_17 : wf_fi "LineRulesModel" 8 17 := ⟨_, rfl, rfl, rfl⟩
theorem fi_Mod_18 : wf_fi "LineRulesModel" 8 18 := ⟨_, rfl, rfl, rfl⟩
theorem nf_Mod_19 : wf_nf 8 19 := ⟨_, rfl, rfl⟩
theorem fi_Mod_20 : wf_fi "LineRulesModel" 8 20 := ⟨_, rfl, rfl, rfl⟩
theorem fi_Mod_21 : wf_fi "LineRulesModel" 8 21 := ⟨_, rfl, rfl, rfl⟩
theorem fi_Mod_22 : wf_fi "LineRulesModel" 8 22 := ⟨_, rfl, rfl, rfl⟩
theorem nf_Mod_23 : wf_nf 8 23 := ⟨_, rfl, rfl⟩
theorem fi_Mod_24 : wf_fi "LineRulesModel" 8 24 := ⟨_, rfl, rfl, rfl⟩
theorem nf_Mod_25 : wf_nf 8 25 := ⟨_, rfl, rfl⟩
theorem nf_Mod_26 : wf_nf 8 26 := ⟨_, rfl, rfl⟩
theorem nf_Mod_27 : wf_nf 8 27 := ⟨_, rfl, rfl⟩
theorem fi_Mod_28 : wf_fi "LineRulesModel" 8 28 := ⟨_, rfl, rfl, rfl⟩
theorem fi_Mod_29 : wf_fi "LineRulesModel" 8 29 := ⟨_, rfl, rfl, rfl⟩
theorem fi_Mod_30 : wf_fi "LineRulesModel" 8 30 := ⟨_, rfl, rfl, rfl⟩
theorem fi_Mod_31 : wf_fi "LineRulesModel" 8 31 := ⟨_, rfl, rfl, rfl⟩
theorem fi_Mod_32 : wf_fi "LineRulesModel" 8 32 := ⟨_, rfl, rfl, rfl⟩
theorem fi_Mod_33 : wf_fi "LineRulesModel" 8 33 := ⟨_, rfl, rfl, rfl⟩
theorem fi_Mod_34 : wf_fi "LineRulesModel" 8 34 := ⟨_, rfl, rfl, rfl⟩
theorem fi_Mod_35 : wf_fi "LineRulesModel" 8 35 := ⟨_, rfl, rfl, rfl⟩
theorem fi_Mod_36 : wf_fi "LineRulesModel" 8 36 := ⟨_, rfl, rfl, rfl⟩
theorem nf_Mod_37 : wf_nf 8 37 := ⟨_, rfl, rfl⟩
theorem nf_Mod_38 : wf_nf 8 38 := ⟨_, rfl, rfl⟩
theorem nf_Mod_39 : wf_nf 8 39 := ⟨_, rfl, rfl⟩
theorem nw_Law_8 : wf_nw "LineRulesLaw" 8 0 14 := ⟨_, rfl, rfl, wl_mem 82 (by decide +kernel) rfl, wl_mem 83 (by decide +kernel) rfl, wl_mem 64 (by decide +kernel) rfl, by decide⟩
theorem cl_Law_8 : Cond.classLink "LineRulesLaw" 8 "LineRules" ∈ wl_ALL := wl_mem 82 (by decide +kernel) rfl
theorem ml_Law_56 : Cond.methodLink "LineRulesLaw" 56 ⟨"LineRules", "<init>", "()V"⟩ ∈ wl_ALL := wl_mem 84 (by decide +kernel) rfl
theorem ml_LR_1 : Cond.methodLink "LineRules" 1 ⟨"java/lang/Object", "<init>", "()V"⟩ ∈ wl_ALL := wl_mem 87 (by decide +kernel) rfl
theorem nw_LR_7 : wf_nw "LineRules" 7 5 2 := ⟨_, rfl, rfl, wl_mem 90 (by decide +kernel) rfl, wl_mem 91 (by decide +kernel) rfl, wl_mem 65 (by decide +kernel) rfl, by decide⟩
theorem cl_LR_7 : Cond.classLink "LineRules" 7 "LineRules$Row" ∈ wl_ALL := wl_mem 90 (by decide +kernel) rfl
theorem ml_LR_11 : Cond.methodLink "LineRules" 11 ⟨"LineRules$Row", "<init>", "(I)V"⟩ ∈ wl_ALL := wl_mem 92 (by decide +kernel) rfl
theorem ml_Row_3 : Cond.methodLink "LineRules$Row" 3 ⟨"java/lang/Object", "<init>", "()V"⟩ ∈ wl_ALL := wl_mem 95 (by decide +kernel) rfl
theorem ac_int : Cond.arrayClass .int ∈ wl_ALL := wl_mem 114 (by decide +kernel) rfl
theorem nw_LR_22 : wf_nw "LineRules" 22 2 6 := ⟨_, rfl, rfl, wl_mem 116 (by decide +kernel) rfl, wl_mem 125 (by decide +kernel) rfl, wl_mem 67 (by decide +kernel) rfl, by decide⟩
theorem cl_LR_22 : Cond.classLink "LineRules" 22 "LineRules$Expression" ∈ wl_ALL := wl_mem 116 (by decide +kernel) rfl
theorem nw_LR_28 : wf_nw "LineRules" 28 4 11 := ⟨_, rfl, rfl, wl_mem 118 (by decide +kernel) rfl, wl_mem 119 (by decide +kernel) rfl, wl_mem 66 (by decide +kernel) rfl, by decide⟩
theorem cl_LR_28 : Cond.classLink "LineRules" 28 "LineRules$Reader" ∈ wl_ALL := wl_mem 118 (by decide +kernel) rfl
theorem ml_LR_30 : Cond.methodLink "LineRules" 30 ⟨"LineRules$Reader", "<init>", "()V"⟩ ∈ wl_ALL := wl_mem 120 (by decide +kernel) rfl
theorem ml_Rdr_3 : Cond.methodLink "LineRules$Reader" 3 ⟨"java/lang/Object", "<init>", "()V"⟩ ∈ wl_ALL := wl_mem 123 (by decide +kernel) rfl
theorem nw_Rdr_32 : wf_nw "LineRules$Reader" 32 2 6 := ⟨_, rfl, rfl, wl_mem 124 (by decide +kernel) rfl, wl_mem 125 (by decide +kernel) rfl, wl_mem 67 (by decide +kernel) rfl, by decide⟩
theorem cl_Rdr_32 : Cond.classLink "LineRules$Reader" 32 "LineRules$Expression" ∈ wl_ALL := wl_mem 124 (by decide +kernel) rfl
theorem ml_Rdr_34 : Cond.methodLink "LineRules$Reader" 34 ⟨"LineRules$Expression", "<init>", "()V"⟩ ∈ wl_ALL := wl_mem 126 (by decide +kernel) rfl
theorem ml_Exp_3 : Cond.methodLink "LineRules$Expression" 3 ⟨"java/lang/Object", "<init>", "()V"⟩ ∈ wl_ALL := wl_mem 129 (by decide +kernel) rfl
theorem ac_boolean : Cond.arrayClass .boolean ∈ wl_ALL := wl_mem 155 (by decide +kernel) rfl
theorem ac_long : Cond.arrayClass .long ∈ wl_ALL := wl_mem 156 (by decide +kernel) rfl
theorem nw_Rdr_39 : wf_nw "LineRules$Reader" 39 5 2 := ⟨_, rfl, rfl, wl_mem 157 (by decide +kernel) rfl, wl_mem 91 (by decide +kernel) rfl, wl_mem 65 (by decide +kernel) rfl, by decide⟩
theorem cl_Rdr_39 : Cond.classLink "LineRules$Reader" 39 "LineRules$Row" ∈ wl_ALL := wl_mem 157 (by decide +kernel) rfl
theorem ml_Rdr_41 : Cond.methodLink "LineRules$Reader" 41 ⟨"LineRules$Row", "<init>", "(I)V"⟩ ∈ wl_ALL := wl_mem 158 (by decide +kernel) rfl
theorem nw_LR_35 : wf_nw "LineRules" 35 6 7 := ⟨_, rfl, rfl, wl_mem 193 (by decide +kernel) rfl, wl_mem 256 (by decide +kernel) rfl, wl_mem 71 (by decide +kernel) rfl, by decide⟩
theorem cl_LR_35 : Cond.classLink "LineRules" 35 "LineRules$Rule" ∈ wl_ALL := wl_mem 193 (by decide +kernel) rfl
theorem nw_LR_41 : wf_nw "LineRules" 41 1 5 := ⟨_, rfl, rfl, wl_mem 195 (by decide +kernel) rfl, wl_mem 196 (by decide +kernel) rfl, wl_mem 68 (by decide +kernel) rfl, by decide⟩
theorem cl_LR_41 : Cond.classLink "LineRules" 41 "LineRules$CutLine" ∈ wl_ALL := wl_mem 195 (by decide +kernel) rfl
theorem ml_LR_43 : Cond.methodLink "LineRules" 43 ⟨"LineRules$CutLine", "<init>", "()V"⟩ ∈ wl_ALL := wl_mem 197 (by decide +kernel) rfl
theorem ml_Cut_3 : Cond.methodLink "LineRules$CutLine" 3 ⟨"java/lang/Object", "<init>", "()V"⟩ ∈ wl_ALL := wl_mem 200 (by decide +kernel) rfl
theorem nw_Cut_9 : wf_nw "LineRules$CutLine" 9 5 2 := ⟨_, rfl, rfl, wl_mem 201 (by decide +kernel) rfl, wl_mem 91 (by decide +kernel) rfl, wl_mem 65 (by decide +kernel) rfl, by decide⟩
theorem cl_Cut_9 : Cond.classLink "LineRules$CutLine" 9 "LineRules$Row" ∈ wl_ALL := wl_mem 201 (by decide +kernel) rfl
theorem ml_Cut_11 : Cond.methodLink "LineRules$CutLine" 11 ⟨"LineRules$Row", "<init>", "(I)V"⟩ ∈ wl_ALL := wl_mem 202 (by decide +kernel) rfl
theorem nw_LR_52 : wf_nw "LineRules" 52 7 3 := ⟨_, rfl, rfl, wl_mem 221 (by decide +kernel) rfl, wl_mem 222 (by decide +kernel) rfl, wl_mem 69 (by decide +kernel) rfl, by decide⟩
theorem cl_LR_52 : Cond.classLink "LineRules" 52 "LineRules$Table" ∈ wl_ALL := wl_mem 221 (by decide +kernel) rfl
theorem ml_LR_54 : Cond.methodLink "LineRules" 54 ⟨"LineRules$Table", "<init>", "()V"⟩ ∈ wl_ALL := wl_mem 223 (by decide +kernel) rfl
theorem ml_Tab_3 : Cond.methodLink "LineRules$Table" 3 ⟨"java/lang/Object", "<init>", "()V"⟩ ∈ wl_ALL := wl_mem 226 (by decide +kernel) rfl
theorem nw_Tab_9 : wf_nw "LineRules$Table" 9 5 2 := ⟨_, rfl, rfl, wl_mem 227 (by decide +kernel) rfl, wl_mem 91 (by decide +kernel) rfl, wl_mem 65 (by decide +kernel) rfl, by decide⟩
theorem cl_Tab_9 : Cond.classLink "LineRules$Table" 9 "LineRules$Row" ∈ wl_ALL := wl_mem 227 (by decide +kernel) rfl
theorem nw_LR_59 : wf_nw "LineRules" 59 3 2 := ⟨_, rfl, rfl, wl_mem 241 (by decide +kernel) rfl, wl_mem 242 (by decide +kernel) rfl, wl_mem 70 (by decide +kernel) rfl, by decide⟩
theorem cl_LR_59 : Cond.classLink "LineRules" 59 "LineRules$Output" ∈ wl_ALL := wl_mem 241 (by decide +kernel) rfl
theorem ml_LR_61 : Cond.methodLink "LineRules" 61 ⟨"LineRules$Output", "<init>", "()V"⟩ ∈ wl_ALL := wl_mem 243 (by decide +kernel) rfl
theorem ml_Out_3 : Cond.methodLink "LineRules$Output" 3 ⟨"java/lang/Object", "<init>", "()V"⟩ ∈ wl_ALL := wl_mem 246 (by decide +kernel) rfl
theorem ml_LR_76 : Cond.methodLink "LineRules" 76 ⟨"LineRules$Expression", "<init>", "()V"⟩ ∈ wl_ALL := wl_mem 255 (by decide +kernel) rfl
theorem ml_LR_77 : Cond.methodLink "LineRules" 77 ⟨"LineRules$Rule", "<init>", "()V"⟩ ∈ wl_ALL := wl_mem 257 (by decide +kernel) rfl
theorem ml_Rul_3 : Cond.methodLink "LineRules$Rule" 3 ⟨"java/lang/Object", "<init>", "()V"⟩ ∈ wl_ALL := wl_mem 260 (by decide +kernel) rfl
theorem ml_Law_70 : Cond.methodLink "LineRulesLaw" 70 ⟨"LineRules", "clear", "()I"⟩ ∈ wl_ALL := wl_mem 333 (by decide +kernel) rfl
theorem ml_LR_95 : Cond.methodLink "LineRules" 95 ⟨"LineRules$Row", "drop", "()V"⟩ ∈ wl_ALL := wl_mem 337 (by decide +kernel) rfl
theorem ml_Law_92 : Cond.methodLink "LineRulesLaw" 92 ⟨"LineRules", "forget", "()I"⟩ ∈ wl_ALL := wl_mem 341 (by decide +kernel) rfl
theorem ml_Law_96 : Cond.methodLink "LineRulesLaw" 96 ⟨"LineRules", "line", "()I"⟩ ∈ wl_ALL := wl_mem 345 (by decide +kernel) rfl
theorem ml_LR_165 : Cond.methodLink "LineRules" 165 ⟨"LineRules$CutLine", "begin", "(LLineRules$Row;I)V"⟩ ∈ wl_ALL := wl_mem 349 (by decide +kernel) rfl
theorem ml_Cut_30 : Cond.methodLink "LineRules$CutLine" 30 ⟨"LineRules$Row", "become", "(LLineRules$Row;)V"⟩ ∈ wl_ALL := wl_mem 353 (by decide +kernel) rfl
theorem ml_Row_19 : Cond.methodLink "LineRules$Row" 19 ⟨"java/lang/Math", "min", "(II)I"⟩ ∈ wl_ALL := wl_mem 357 (by decide +kernel) rfl
theorem ml_Row_25 : Cond.methodLink "LineRules$Row" 25 ⟨"java/lang/System", "arraycopy", "(Ljava/lang/Object;ILjava/lang/Object;II)V"⟩ ∈ wl_ALL := wl_mem 360 (by decide +kernel) rfl
theorem ml_Cut_34 : Cond.methodLink "LineRules$CutLine" 34 ⟨"LineRules$CutLine", "cut", "(I)V"⟩ ∈ wl_ALL := wl_mem 363 (by decide +kernel) rfl
theorem ml_Cut_48 : Cond.methodLink "LineRules$CutLine" 48 ⟨"LineRules$CutLine", "addField", "(II)V"⟩ ∈ wl_ALL := wl_mem 367 (by decide +kernel) rfl
theorem ml_Cut_52 : Cond.methodLink "LineRules$CutLine" 52 ⟨"LineRules$Row", "drop", "()V"⟩ ∈ wl_ALL := wl_mem 371 (by decide +kernel) rfl
theorem ml_Cut_55 : Cond.methodLink "LineRules$CutLine" 55 ⟨"LineRules$Row", "addPart", "(LLineRules$Row;II)V"⟩ ∈ wl_ALL := wl_mem 372 (by decide +kernel) rfl
theorem ml_LR_171 : Cond.methodLink "LineRules" 171 ⟨"LineRules", "hasPattern", "(LLineRules$Rule;)Z"⟩ ∈ wl_ALL := wl_mem 376 (by decide +kernel) rfl
theorem ml_LR_180 : Cond.methodLink "LineRules" 180 ⟨"LineRules$Expression", "firstFrom", "(LLineRules$Row;I)I"⟩ ∈ wl_ALL := wl_mem 380 (by decide +kernel) rfl
theorem ml_Exp_43 : Cond.methodLink "LineRules$Expression" 43 ⟨"LineRules$Expression", "longestFrom", "(LLineRules$Row;I)I"⟩ ∈ wl_ALL := wl_mem 384 (by decide +kernel) rfl
theorem ml_Exp_47 : Cond.methodLink "LineRules$Expression" 47 ⟨"LineRules$Expression", "kindOf", "(II)I"⟩ ∈ wl_ALL := wl_mem 388 (by decide +kernel) rfl
theorem ml_Exp_55 : Cond.methodLink "LineRules$Expression" 55 ⟨"LineRules$Expression", "followersOf", "(J)J"⟩ ∈ wl_ALL := wl_mem 391 (by decide +kernel) rfl
theorem ml_LR_195 : Cond.methodLink "LineRules" 195 ⟨"LineRules$CutLine", "fieldText", "(I)LLineRules$Row;"⟩ ∈ wl_ALL := wl_mem 395 (by decide +kernel) rfl
theorem ml_LR_248 : Cond.methodLink "LineRules" 248 ⟨"LineRules$Row", "toNumber", "()I"⟩ ∈ wl_ALL := wl_mem 399 (by decide +kernel) rfl
theorem ml_LR_175 : Cond.methodLink "LineRules" 175 ⟨"LineRules", "doActions", "(LLineRules$Rule;)Z"⟩ ∈ wl_ALL := wl_mem 403 (by decide +kernel) rfl
theorem ml_LR_263 : Cond.methodLink "LineRules" 263 ⟨"LineRules", "doAction", "(III)V"⟩ ∈ wl_ALL := wl_mem 407 (by decide +kernel) rfl
theorem ml_LR_266 : Cond.methodLink "LineRules" 266 ⟨"LineRules$Output", "print", "(LLineRules$Row;)V"⟩ ∈ wl_ALL := wl_mem 411 (by decide +kernel) rfl
theorem ml_Out_21 : Cond.methodLink "LineRules$Output" 21 ⟨"LineRules$Output", "printPart", "(LLineRules$Row;II)V"⟩ ∈ wl_ALL := wl_mem 415 (by decide +kernel) rfl
theorem ml_Out_28 : Cond.methodLink "LineRules$Output" 28 ⟨"LineRules$Output", "add", "(I)V"⟩ ∈ wl_ALL := wl_mem 419 (by decide +kernel) rfl
theorem ml_Out_35 : Cond.methodLink "LineRules$Output" 35 ⟨"java/lang/Math", "floorMod", "(II)I"⟩ ∈ wl_ALL := wl_mem 423 (by decide +kernel) rfl
theorem ml_LR_269 : Cond.methodLink "LineRules" 269 ⟨"LineRules$Table", "grow", "(LLineRules$Row;I)V"⟩ ∈ wl_ALL := wl_mem 426 (by decide +kernel) rfl
theorem ml_Tab_21 : Cond.methodLink "LineRules$Table" 21 ⟨"LineRules$Table", "placeOf", "(LLineRules$Row;)I"⟩ ∈ wl_ALL := wl_mem 430 (by decide +kernel) rfl
theorem ml_Tab_29 : Cond.methodLink "LineRules$Table" 29 ⟨"LineRules$Row", "compareWith", "(LLineRules$Row;)I"⟩ ∈ wl_ALL := wl_mem 434 (by decide +kernel) rfl
theorem ml_Tab_32 : Cond.methodLink "LineRules$Table" 32 ⟨"LineRules$Table", "insert", "(ILLineRules$Row;I)V"⟩ ∈ wl_ALL := wl_mem 438 (by decide +kernel) rfl
theorem ml_Tab_39 : Cond.methodLink "LineRules$Table" 39 ⟨"LineRules$Row", "<init>", "(I)V"⟩ ∈ wl_ALL := wl_mem 442 (by decide +kernel) rfl
theorem ml_Tab_42 : Cond.methodLink "LineRules$Table" 42 ⟨"LineRules$Row", "become", "(LLineRules$Row;)V"⟩ ∈ wl_ALL := wl_mem 443 (by decide +kernel) rfl
theorem ml_LR_272 : Cond.methodLink "LineRules" 272 ⟨"LineRules$CutLine", "setField", "(ILLineRules$Row;I)V"⟩ ∈ wl_ALL := wl_mem 444 (by decide +kernel) rfl
theorem ml_Cut_59 : Cond.methodLink "LineRules$CutLine" 59 ⟨"LineRules$CutLine", "fieldText", "(I)LLineRules$Row;"⟩ ∈ wl_ALL := wl_mem 448 (by decide +kernel) rfl
theorem ml_Cut_63 : Cond.methodLink "LineRules$CutLine" 63 ⟨"LineRules$CutLine", "join", "(I)V"⟩ ∈ wl_ALL := wl_mem 449 (by decide +kernel) rfl
theorem ml_Cut_66 : Cond.methodLink "LineRules$CutLine" 66 ⟨"LineRules$Row", "add", "(I)V"⟩ ∈ wl_ALL := wl_mem 453 (by decide +kernel) rfl
theorem ml_Cut_69 : Cond.methodLink "LineRules$CutLine" 69 ⟨"LineRules$Row", "addAll", "(LLineRules$Row;)V"⟩ ∈ wl_ALL := wl_mem 457 (by decide +kernel) rfl
theorem ml_Row_31 : Cond.methodLink "LineRules$Row" 31 ⟨"LineRules$Row", "addPart", "(LLineRules$Row;II)V"⟩ ∈ wl_ALL := wl_mem 461 (by decide +kernel) rfl
theorem ml_LR_276 : Cond.methodLink "LineRules" 276 ⟨"LineRules$Row", "becomeNumber", "(I)V"⟩ ∈ wl_ALL := wl_mem 462 (by decide +kernel) rfl
theorem ml_Row_35 : Cond.methodLink "LineRules$Row" 35 ⟨"LineRules$Row", "drop", "()V"⟩ ∈ wl_ALL := wl_mem 466 (by decide +kernel) rfl
theorem ml_Row_38 : Cond.methodLink "LineRules$Row" 38 ⟨"LineRules$Row", "add", "(I)V"⟩ ∈ wl_ALL := wl_mem 467 (by decide +kernel) rfl
theorem kl_Row_42 : Cond.constantLong "LineRules$Row" 42 10 ∈ wl_ALL := wl_mem 468 (by decide +kernel) rfl
theorem ml_LR_279 : Cond.methodLink "LineRules" 279 ⟨"LineRules$CutLine", "replace", "(LLineRules$Expression;LLineRules$Row;I)V"⟩ ∈ wl_ALL := wl_mem 469 (by decide +kernel) rfl
theorem ml_Cut_72 : Cond.methodLink "LineRules$CutLine" 72 ⟨"LineRules$Expression", "firstFrom", "(LLineRules$Row;I)I"⟩ ∈ wl_ALL := wl_mem 473 (by decide +kernel) rfl
theorem ml_Cut_78 : Cond.methodLink "LineRules$CutLine" 78 ⟨"LineRules$Expression", "longestFrom", "(LLineRules$Row;I)I"⟩ ∈ wl_ALL := wl_mem 474 (by decide +kernel) rfl
theorem ml_Cut_81 : Cond.methodLink "LineRules$CutLine" 81 ⟨"LineRules$CutLine", "matchBehind", "(LLineRules$Expression;I)I"⟩ ∈ wl_ALL := wl_mem 475 (by decide +kernel) rfl
theorem ml_LR_283 : Cond.methodLink "LineRules" 283 ⟨"LineRules$CutLine", "cut", "(I)V"⟩ ∈ wl_ALL := wl_mem 479 (by decide +kernel) rfl
theorem ml_LR_286 : Cond.methodLink "LineRules" 286 ⟨"LineRules", "printMatch", "(LLineRules$Expression;)V"⟩ ∈ wl_ALL := wl_mem 480 (by decide +kernel) rfl
theorem ml_LR_184 : Cond.methodLink "LineRules" 184 ⟨"LineRules$Expression", "longestFrom", "(LLineRules$Row;I)I"⟩ ∈ wl_ALL := wl_mem 484 (by decide +kernel) rfl
theorem ml_LR_290 : Cond.methodLink "LineRules" 290 ⟨"LineRules$Output", "printPart", "(LLineRules$Row;II)V"⟩ ∈ wl_ALL := wl_mem 485 (by decide +kernel) rfl
theorem ml_Law_104 : Cond.methodLink "LineRulesLaw" 104 ⟨"LineRules", "end", "()I"⟩ ∈ wl_ALL := wl_mem 486 (by decide +kernel) rfl
theorem ml_Law_60 : Cond.methodLink "LineRulesLaw" 60 ⟨"LineRulesLaw", "feed", "(LLineRules;IIIII[J)I"⟩ ∈ wl_ALL := wl_mem 490 (by decide +kernel) rfl
theorem cl_Law_13 : Cond.classLink "LineRulesLaw" 13 "java/lang/IllegalStateException" ∈ wl_ALL := wl_mem 493 (by decide +kernel) rfl
theorem ml_Law_7 : Cond.methodLink "LineRulesLaw" 7 ⟨"LineRules", "feed", "(IIIII)I"⟩ ∈ wl_ALL := wl_mem 494 (by decide +kernel) rfl
theorem ml_LR_78 : Cond.methodLink "LineRules" 78 ⟨"LineRules", "signsIn", "(I)I"⟩ ∈ wl_ALL := wl_mem 498 (by decide +kernel) rfl
theorem cl_LR_85 : Cond.classLink "LineRules" 85 "java/lang/IllegalStateException" ∈ wl_ALL := wl_mem 501 (by decide +kernel) rfl
theorem ml_LR_89 : Cond.methodLink "LineRules" 89 ⟨"java/lang/IllegalStateException", "<init>", "(Ljava/lang/String;)V"⟩ ∈ wl_ALL := wl_mem 543 (by decide +kernel) rfl
theorem ac_byte : Cond.arrayClass .byte ∈ wl_ALL := wl_mem 568 (by decide +kernel) rfl
theorem ml_LR_92 : Cond.methodLink "LineRules" 92 ⟨"LineRules", "addToPad", "(I)V"⟩ ∈ wl_ALL := wl_mem 569 (by decide +kernel) rfl
theorem ml_LR_234 : Cond.methodLink "LineRules" 234 ⟨"LineRules$Row", "add", "(I)V"⟩ ∈ wl_ALL := wl_mem 573 (by decide +kernel) rfl
theorem ml_Law_74 : Cond.methodLink "LineRulesLaw" 74 ⟨"LineRulesLaw", "expression", "(LLineRules;I[J)I"⟩ ∈ wl_ALL := wl_mem 574 (by decide +kernel) rfl
theorem cl_Law_19 : Cond.classLink "LineRulesLaw" 19 "java/util/NoSuchElementException" ∈ wl_ALL := wl_mem 577 (by decide +kernel) rfl
theorem ml_Law_15 : Cond.methodLink "LineRulesLaw" 15 ⟨"LineRules", "expression", "(I)I"⟩ ∈ wl_ALL := wl_mem 578 (by decide +kernel) rfl
theorem ml_LR_98 : Cond.methodLink "LineRules" 98 ⟨"LineRules", "isExpression", "(I)Z"⟩ ∈ wl_ALL := wl_mem 582 (by decide +kernel) rfl
theorem cl_LR_102 : Cond.classLink "LineRules" 102 "java/util/NoSuchElementException" ∈ wl_ALL := wl_mem 585 (by decide +kernel) rfl
theorem ml_LR_106 : Cond.methodLink "LineRules" 106 ⟨"java/util/NoSuchElementException", "<init>", "(Ljava/lang/String;)V"⟩ ∈ wl_ALL := wl_mem 595 (by decide +kernel) rfl
theorem ml_LR_109 : Cond.methodLink "LineRules" 109 ⟨"LineRules$Reader", "read", "(LLineRules$Row;)I"⟩ ∈ wl_ALL := wl_mem 602 (by decide +kernel) rfl
theorem ml_Rdr_58 : Cond.methodLink "LineRules$Reader" 58 ⟨"LineRules$Expression", "drop", "()V"⟩ ∈ wl_ALL := wl_mem 606 (by decide +kernel) rfl
theorem ml_Exp_28 : Cond.methodLink "LineRules$Expression" 28 ⟨"java/util/Arrays", "fill", "([JJ)V"⟩ ∈ wl_ALL := wl_mem 610 (by decide +kernel) rfl
theorem ml_Rdr_61 : Cond.methodLink "LineRules$Reader" 61 ⟨"LineRules$Reader", "alternation", "(I)I"⟩ ∈ wl_ALL := wl_mem 613 (by decide +kernel) rfl
theorem ml_Rdr_80 : Cond.methodLink "LineRules$Reader" 80 ⟨"LineRules$Reader", "sequence", "(I)I"⟩ ∈ wl_ALL := wl_mem 617 (by decide +kernel) rfl
theorem ml_Rdr_86 : Cond.methodLink "LineRules$Reader" 86 ⟨"LineRules$Reader", "node", "(III)I"⟩ ∈ wl_ALL := wl_mem 621 (by decide +kernel) rfl
theorem ml_Rdr_68 : Cond.methodLink "LineRules$Reader" 68 ⟨"LineRules$Reader", "refuse", "()I"⟩ ∈ wl_ALL := wl_mem 625 (by decide +kernel) rfl
theorem ml_Rdr_83 : Cond.methodLink "LineRules$Reader" 83 ⟨"LineRules$Reader", "next", "()I"⟩ ∈ wl_ALL := wl_mem 629 (by decide +kernel) rfl
theorem ml_Rdr_90 : Cond.methodLink "LineRules$Reader" 90 ⟨"LineRules$Reader", "atom", "(I)I"⟩ ∈ wl_ALL := wl_mem 633 (by decide +kernel) rfl
theorem ml_Rdr_96 : Cond.methodLink "LineRules$Reader" 96 ⟨"LineRules$Reader", "isRepeat", "(I)Z"⟩ ∈ wl_ALL := wl_mem 637 (by decide +kernel) rfl
theorem ml_Rdr_103 : Cond.methodLink "LineRules$Reader" 103 ⟨"LineRules$Reader", "anySign", "()I"⟩ ∈ wl_ALL := wl_mem 640 (by decide +kernel) rfl
theorem ml_Rdr_118 : Cond.methodLink "LineRules$Reader" 118 ⟨"LineRules$Reader", "newAtom", "()J"⟩ ∈ wl_ALL := wl_mem 644 (by decide +kernel) rfl
theorem ml_Rdr_122 : Cond.methodLink "LineRules$Reader" 122 ⟨"LineRules$Reader", "take", "(JII)V"⟩ ∈ wl_ALL := wl_mem 648 (by decide +kernel) rfl
theorem ml_Rdr_106 : Cond.methodLink "LineRules$Reader" 106 ⟨"LineRules$Reader", "escaped", "()I"⟩ ∈ wl_ALL := wl_mem 652 (by decide +kernel) rfl
theorem ml_Rdr_109 : Cond.methodLink "LineRules$Reader" 109 ⟨"LineRules$Reader", "one", "(I)I"⟩ ∈ wl_ALL := wl_mem 656 (by decide +kernel) rfl
theorem ml_Rdr_112 : Cond.methodLink "LineRules$Reader" 112 ⟨"LineRules$Reader", "items", "()I"⟩ ∈ wl_ALL := wl_mem 660 (by decide +kernel) rfl
theorem ml_Rdr_129 : Cond.methodLink "LineRules$Reader" 129 ⟨"LineRules$Reader", "item", "(J)V"⟩ ∈ wl_ALL := wl_mem 664 (by decide +kernel) rfl
theorem ml_Rdr_136 : Cond.methodLink "LineRules$Reader" 136 ⟨"LineRules$Reader", "isItemSign", "(I)Z"⟩ ∈ wl_ALL := wl_mem 668 (by decide +kernel) rfl
theorem ml_Rdr_133 : Cond.methodLink "LineRules$Reader" 133 ⟨"LineRules$Reader", "takeOthers", "(J)V"⟩ ∈ wl_ALL := wl_mem 671 (by decide +kernel) rfl
theorem ml_Rdr_115 : Cond.methodLink "LineRules$Reader" 115 ⟨"LineRules$Reader", "group", "(I)I"⟩ ∈ wl_ALL := wl_mem 675 (by decide +kernel) rfl
theorem ml_Rdr_93 : Cond.methodLink "LineRules$Reader" 93 ⟨"LineRules$Reader", "repeated", "(I)I"⟩ ∈ wl_ALL := wl_mem 679 (by decide +kernel) rfl
theorem ml_Rdr_100 : Cond.methodLink "LineRules$Reader" 100 ⟨"LineRules$Reader", "repeatKind", "(I)I"⟩ ∈ wl_ALL := wl_mem 683 (by decide +kernel) rfl
theorem ml_Rdr_72 : Cond.methodLink "LineRules$Reader" 72 ⟨"LineRules$Reader", "weighAll", "(I)V"⟩ ∈ wl_ALL := wl_mem 686 (by decide +kernel) rfl
theorem ml_Rdr_145 : Cond.methodLink "LineRules$Reader" 145 ⟨"LineRules$Reader", "weigh", "(II)V"⟩ ∈ wl_ALL := wl_mem 690 (by decide +kernel) rfl
theorem ml_Rdr_152 : Cond.methodLink "LineRules$Reader" 152 ⟨"LineRules$Reader", "set", "(IZJJ)V"⟩ ∈ wl_ALL := wl_mem 694 (by decide +kernel) rfl
theorem ml_Rdr_149 : Cond.methodLink "LineRules$Reader" 149 ⟨"LineRules$Reader", "link", "(I)V"⟩ ∈ wl_ALL := wl_mem 698 (by decide +kernel) rfl
theorem ml_Rdr_156 : Cond.methodLink "LineRules$Reader" 156 ⟨"LineRules$Reader", "follow", "(JJ)V"⟩ ∈ wl_ALL := wl_mem 702 (by decide +kernel) rfl
theorem ml_LR_113 : Cond.methodLink "LineRules" 113 ⟨"LineRules$Reader", "exchange", "(LLineRules$Expression;)LLineRules$Expression;"⟩ ∈ wl_ALL := wl_mem 706 (by decide +kernel) rfl
theorem ml_Law_78 : Cond.methodLink "LineRulesLaw" 78 ⟨"LineRulesLaw", "text", "(LLineRules;I[J)I"⟩ ∈ wl_ALL := wl_mem 710 (by decide +kernel) rfl
theorem ml_Law_21 : Cond.methodLink "LineRulesLaw" 21 ⟨"LineRules", "text", "(I)I"⟩ ∈ wl_ALL := wl_mem 713 (by decide +kernel) rfl
theorem ml_LR_117 : Cond.methodLink "LineRules" 117 ⟨"LineRules", "isText", "(I)Z"⟩ ∈ wl_ALL := wl_mem 717 (by decide +kernel) rfl
theorem ml_LR_122 : Cond.methodLink "LineRules" 122 ⟨"LineRules$Row", "become", "(LLineRules$Row;)V"⟩ ∈ wl_ALL := wl_mem 721 (by decide +kernel) rfl
theorem ml_LR_126 : Cond.methodLink "LineRules" 126 ⟨"LineRules", "clear", "()I"⟩ ∈ wl_ALL := wl_mem 722 (by decide +kernel) rfl
theorem ml_Law_81 : Cond.methodLink "LineRulesLaw" 81 ⟨"LineRulesLaw", "separator", "(LLineRules;I[J)I"⟩ ∈ wl_ALL := wl_mem 723 (by decide +kernel) rfl
theorem cl_Law_27 : Cond.classLink "LineRulesLaw" 27 "java/lang/IllegalArgumentException" ∈ wl_ALL := wl_mem 726 (by decide +kernel) rfl
theorem ml_Law_24 : Cond.methodLink "LineRulesLaw" 24 ⟨"LineRules", "separator", "(I)I"⟩ ∈ wl_ALL := wl_mem 727 (by decide +kernel) rfl
theorem cl_LR_130 : Cond.classLink "LineRules" 130 "java/lang/IllegalArgumentException" ∈ wl_ALL := wl_mem 731 (by decide +kernel) rfl
theorem ml_LR_134 : Cond.methodLink "LineRules" 134 ⟨"java/lang/IllegalArgumentException", "<init>", "(Ljava/lang/String;)V"⟩ ∈ wl_ALL := wl_mem 741 (by decide +kernel) rfl
theorem ml_Law_84 : Cond.methodLink "LineRulesLaw" 84 ⟨"LineRulesLaw", "rule", "(LLineRules;III[J)I"⟩ ∈ wl_ALL := wl_mem 747 (by decide +kernel) rfl
theorem ml_Law_29 : Cond.methodLink "LineRulesLaw" 29 ⟨"LineRules", "rule", "(III)I"⟩ ∈ wl_ALL := wl_mem 750 (by decide +kernel) rfl
theorem ml_LR_135 : Cond.methodLink "LineRules" 135 ⟨"LineRules", "isPattern", "(III)Z"⟩ ∈ wl_ALL := wl_mem 754 (by decide +kernel) rfl
theorem ml_LR_236 : Cond.methodLink "LineRules" 236 ⟨"LineRules", "isField", "(I)Z"⟩ ∈ wl_ALL := wl_mem 757 (by decide +kernel) rfl
theorem ml_LR_146 : Cond.methodLink "LineRules" 146 ⟨"LineRules$Rule", "begin", "(III)V"⟩ ∈ wl_ALL := wl_mem 762 (by decide +kernel) rfl
theorem ml_Law_88 : Cond.methodLink "LineRulesLaw" 88 ⟨"LineRulesLaw", "action", "(LLineRules;IIII[J)I"⟩ ∈ wl_ALL := wl_mem 766 (by decide +kernel) rfl
theorem ml_Law_33 : Cond.methodLink "LineRulesLaw" 33 ⟨"LineRules", "action", "(IIII)I"⟩ ∈ wl_ALL := wl_mem 769 (by decide +kernel) rfl
theorem ml_LR_150 : Cond.methodLink "LineRules" 150 ⟨"LineRules", "isAction", "(III)Z"⟩ ∈ wl_ALL := wl_mem 773 (by decide +kernel) rfl
theorem ml_LR_213 : Cond.methodLink "LineRules" 213 ⟨"LineRules", "isCounter", "(I)Z"⟩ ∈ wl_ALL := wl_mem 776 (by decide +kernel) rfl
theorem ml_LR_155 : Cond.methodLink "LineRules" 155 ⟨"LineRules$Rule", "isFull", "()Z"⟩ ∈ wl_ALL := wl_mem 780 (by decide +kernel) rfl
theorem ml_LR_161 : Cond.methodLink "LineRules" 161 ⟨"LineRules$Rule", "add", "(III)I"⟩ ∈ wl_ALL := wl_mem 785 (by decide +kernel) rfl
theorem ml_Rul_34 : Cond.methodLink "LineRules$Rule" 34 ⟨"LineRules$Rule", "isFull", "()Z"⟩ ∈ wl_ALL := wl_mem 789 (by decide +kernel) rfl
theorem ml_Law_100 : Cond.methodLink "LineRulesLaw" 100 ⟨"LineRulesLaw", "find", "(LLineRules;II[J)I"⟩ ∈ wl_ALL := wl_mem 790 (by decide +kernel) rfl
theorem ml_Law_37 : Cond.methodLink "LineRulesLaw" 37 ⟨"LineRules", "find", "(II)I"⟩ ∈ wl_ALL := wl_mem 793 (by decide +kernel) rfl
theorem ml_Law_108 : Cond.methodLink "LineRulesLaw" 108 ⟨"LineRulesLaw", "sign", "(LLineRules;II[J)I"⟩ ∈ wl_ALL := wl_mem 798 (by decide +kernel) rfl
theorem ml_Law_41 : Cond.methodLink "LineRulesLaw" 41 ⟨"LineRules", "sign", "(II)I"⟩ ∈ wl_ALL := wl_mem 801 (by decide +kernel) rfl
theorem ml_LR_199 : Cond.methodLink "LineRules" 199 ⟨"LineRules$Row", "has", "(I)Z"⟩ ∈ wl_ALL := wl_mem 806 (by decide +kernel) rfl
theorem ml_Law_111 : Cond.methodLink "LineRulesLaw" 111 ⟨"LineRulesLaw", "printed", "(LLineRules;I[J)I"⟩ ∈ wl_ALL := wl_mem 811 (by decide +kernel) rfl
theorem ml_Law_44 : Cond.methodLink "LineRulesLaw" 44 ⟨"LineRules", "printed", "(I)I"⟩ ∈ wl_ALL := wl_mem 814 (by decide +kernel) rfl
theorem ml_LR_207 : Cond.methodLink "LineRules" 207 ⟨"LineRules$Output", "has", "(I)Z"⟩ ∈ wl_ALL := wl_mem 818 (by decide +kernel) rfl
theorem ml_LR_210 : Cond.methodLink "LineRules" 210 ⟨"LineRules$Output", "signAt", "(I)I"⟩ ∈ wl_ALL := wl_mem 823 (by decide +kernel) rfl
theorem ml_Law_114 : Cond.methodLink "LineRulesLaw" 114 ⟨"LineRulesLaw", "counter", "(LLineRules;I[J)I"⟩ ∈ wl_ALL := wl_mem 827 (by decide +kernel) rfl
theorem ml_Law_47 : Cond.methodLink "LineRulesLaw" 47 ⟨"LineRules", "counter", "(I)I"⟩ ∈ wl_ALL := wl_mem 830 (by decide +kernel) rfl
theorem ml_Law_117 : Cond.methodLink "LineRulesLaw" 117 ⟨"LineRulesLaw", "key", "(LLineRules;II[J)I"⟩ ∈ wl_ALL := wl_mem 835 (by decide +kernel) rfl
theorem ml_Law_50 : Cond.methodLink "LineRulesLaw" 50 ⟨"LineRules", "key", "(II)I"⟩ ∈ wl_ALL := wl_mem 838 (by decide +kernel) rfl
theorem ml_Law_120 : Cond.methodLink "LineRulesLaw" 120 ⟨"LineRulesLaw", "count", "(LLineRules;I[J)I"⟩ ∈ wl_ALL := wl_mem 843 (by decide +kernel) rfl
theorem ml_Law_53 : Cond.methodLink "LineRulesLaw" 53 ⟨"LineRules", "count", "(I)I"⟩ ∈ wl_ALL := wl_mem 846 (by decide +kernel) rfl
theorem nw_Law_57 : wf_nw "LineRulesLaw" 57 8 40 := ⟨_, rfl, rfl, wl_mem 851 (by decide +kernel) rfl, wl_mem 852 (by decide +kernel) rfl, wl_mem 72 (by decide +kernel) rfl, by decide⟩
theorem cl_Law_57 : Cond.classLink "LineRulesLaw" 57 "LineRulesModel" ∈ wl_ALL := wl_mem 851 (by decide +kernel) rfl
theorem ml_Law_59 : Cond.methodLink "LineRulesLaw" 59 ⟨"LineRulesModel", "<init>", "()V"⟩ ∈ wl_ALL := wl_mem 853 (by decide +kernel) rfl
theorem ml_Mod_1 : Cond.methodLink "LineRulesModel" 1 ⟨"java/lang/Object", "<init>", "()V"⟩ ∈ wl_ALL := wl_mem 856 (by decide +kernel) rfl
theorem ml_Law_66 : Cond.methodLink "LineRulesLaw" 66 ⟨"LineRulesModel", "thrown", "()I"⟩ ∈ wl_ALL := wl_mem 978 (by decide +kernel) rfl
theorem ml_Law_65 : Cond.methodLink "LineRulesLaw" 65 ⟨"LineRulesModel", "feed", "(IIIII)I"⟩ ∈ wl_ALL := wl_mem 982 (by decide +kernel) rfl
theorem ml_Mod_102 : Cond.methodLink "LineRulesModel" 102 ⟨"LineRulesModel", "signsOf", "(I)I"⟩ ∈ wl_ALL := wl_mem 986 (by decide +kernel) rfl
theorem ml_Mod_106 : Cond.methodLink "LineRulesModel" 106 ⟨"LineRulesModel", "goes", "(ZZ)Z"⟩ ∈ wl_ALL := wl_mem 989 (by decide +kernel) rfl
theorem ml_Mod_110 : Cond.methodLink "LineRulesModel" 110 ⟨"LineRulesModel", "feedOne", "(I)V"⟩ ∈ wl_ALL := wl_mem 993 (by decide +kernel) rfl
theorem ml_Law_73 : Cond.methodLink "LineRulesLaw" 73 ⟨"LineRulesModel", "clear", "()I"⟩ ∈ wl_ALL := wl_mem 997 (by decide +kernel) rfl
theorem ml_Law_77 : Cond.methodLink "LineRulesLaw" 77 ⟨"LineRulesModel", "expression", "(I)I"⟩ ∈ wl_ALL := wl_mem 1001 (by decide +kernel) rfl
theorem ml_Mod_142 : Cond.methodLink "LineRulesModel" 142 ⟨"LineRulesModel", "within", "(III)Z"⟩ ∈ wl_ALL := wl_mem 1005 (by decide +kernel) rfl
theorem ml_Mod_146 : Cond.methodLink "LineRulesModel" 146 ⟨"LineRulesModel", "draw", "(I)V"⟩ ∈ wl_ALL := wl_mem 1008 (by decide +kernel) rfl
theorem ml_Mod_130 : Cond.methodLink "LineRulesModel" 130 ⟨"LineRulesModel", "point", "()I"⟩ ∈ wl_ALL := wl_mem 1012 (by decide +kernel) rfl
theorem ml_Mod_134 : Cond.methodLink "LineRulesModel" 134 ⟨"LineRulesModel", "edge", "(IIII)V"⟩ ∈ wl_ALL := wl_mem 1016 (by decide +kernel) rfl
theorem ml_Mod_127 : Cond.methodLink "LineRulesModel" 127 ⟨"LineRulesModel", "fail", "(I)V"⟩ ∈ wl_ALL := wl_mem 1020 (by decide +kernel) rfl
theorem ml_Mod_138 : Cond.methodLink "LineRulesModel" 138 ⟨"LineRulesModel", "items", "(II)I"⟩ ∈ wl_ALL := wl_mem 1024 (by decide +kernel) rfl
theorem ml_Mod_123 : Cond.methodLink "LineRulesModel" 123 ⟨"LineRulesModel", "isItem", "(I)Z"⟩ ∈ wl_ALL := wl_mem 1028 (by decide +kernel) rfl
theorem ml_Law_80 : Cond.methodLink "LineRulesLaw" 80 ⟨"LineRulesModel", "text", "(I)I"⟩ ∈ wl_ALL := wl_mem 1031 (by decide +kernel) rfl
theorem ml_Mod_166 : Cond.methodLink "LineRulesModel" 166 ⟨"LineRulesModel", "copyRow", "(II)V"⟩ ∈ wl_ALL := wl_mem 1035 (by decide +kernel) rfl
theorem ml_Law_83 : Cond.methodLink "LineRulesLaw" 83 ⟨"LineRulesModel", "separator", "(I)I"⟩ ∈ wl_ALL := wl_mem 1039 (by decide +kernel) rfl
theorem ml_Law_87 : Cond.methodLink "LineRulesLaw" 87 ⟨"LineRulesModel", "rule", "(III)I"⟩ ∈ wl_ALL := wl_mem 1043 (by decide +kernel) rfl
theorem ml_Mod_169 : Cond.methodLink "LineRulesModel" 169 ⟨"LineRulesModel", "isField", "(I)Z"⟩ ∈ wl_ALL := wl_mem 1047 (by decide +kernel) rfl
theorem ml_Law_91 : Cond.methodLink "LineRulesLaw" 91 ⟨"LineRulesModel", "action", "(IIII)I"⟩ ∈ wl_ALL := wl_mem 1050 (by decide +kernel) rfl
theorem ml_Mod_175 : Cond.methodLink "LineRulesModel" 175 ⟨"LineRulesModel", "isAction", "(III)Z"⟩ ∈ wl_ALL := wl_mem 1054 (by decide +kernel) rfl
theorem ml_Law_95 : Cond.methodLink "LineRulesLaw" 95 ⟨"LineRulesModel", "forget", "()I"⟩ ∈ wl_ALL := wl_mem 1057 (by decide +kernel) rfl
theorem ml_Law_99 : Cond.methodLink "LineRulesLaw" 99 ⟨"LineRulesModel", "line", "()I"⟩ ∈ wl_ALL := wl_mem 1061 (by decide +kernel) rfl
theorem ml_Mod_215 : Cond.methodLink "LineRulesModel" 215 ⟨"LineRulesModel", "part", "()V"⟩ ∈ wl_ALL := wl_mem 1065 (by decide +kernel) rfl
theorem ml_Mod_181 : Cond.methodLink "LineRulesModel" 181 ⟨"LineRulesModel", "field", "(II)V"⟩ ∈ wl_ALL := wl_mem 1069 (by decide +kernel) rfl
theorem ml_Mod_244 : Cond.methodLink "LineRulesModel" 244 ⟨"LineRulesModel", "has", "(III)Z"⟩ ∈ wl_ALL := wl_mem 1073 (by decide +kernel) rfl
theorem ml_Mod_212 : Cond.methodLink "LineRulesModel" 212 ⟨"LineRulesModel", "seek", "(III)Z"⟩ ∈ wl_ALL := wl_mem 1077 (by decide +kernel) rfl
theorem ml_Mod_157 : Cond.methodLink "LineRulesModel" 157 ⟨"LineRulesModel", "longest", "(II)I"⟩ ∈ wl_ALL := wl_mem 1081 (by decide +kernel) rfl
theorem ml_Mod_149 : Cond.methodLink "LineRulesModel" 149 ⟨"LineRulesModel", "spread", "(II)V"⟩ ∈ wl_ALL := wl_mem 1085 (by decide +kernel) rfl
theorem ml_Mod_153 : Cond.methodLink "LineRulesModel" 153 ⟨"LineRulesModel", "isSign", "(II)Z"⟩ ∈ wl_ALL := wl_mem 1089 (by decide +kernel) rfl
theorem ml_Mod_222 : Cond.methodLink "LineRulesModel" 222 ⟨"LineRulesModel", "fieldToRow", "(I)V"⟩ ∈ wl_ALL := wl_mem 1093 (by decide +kernel) rfl
theorem ml_Mod_184 : Cond.methodLink "LineRulesModel" 184 ⟨"LineRulesModel", "sizeOf", "(I)I"⟩ ∈ wl_ALL := wl_mem 1097 (by decide +kernel) rfl
theorem ml_Mod_187 : Cond.methodLink "LineRulesModel" 187 ⟨"LineRulesModel", "signOf", "(II)I"⟩ ∈ wl_ALL := wl_mem 1101 (by decide +kernel) rfl
theorem ml_Mod_225 : Cond.methodLink "LineRulesModel" 225 ⟨"LineRulesModel", "numberOf", "(I)I"⟩ ∈ wl_ALL := wl_mem 1105 (by decide +kernel) rfl
theorem ml_Mod_247 : Cond.methodLink "LineRulesModel" 247 ⟨"LineRulesModel", "act", "(III)V"⟩ ∈ wl_ALL := wl_mem 1109 (by decide +kernel) rfl
theorem ml_Mod_218 : Cond.methodLink "LineRulesModel" 218 ⟨"LineRulesModel", "printRow", "(III)V"⟩ ∈ wl_ALL := wl_mem 1113 (by decide +kernel) rfl
theorem ml_Mod_197 : Cond.methodLink "LineRulesModel" 197 ⟨"LineRulesModel", "put", "(I)V"⟩ ∈ wl_ALL := wl_mem 1117 (by decide +kernel) rfl
theorem ml_Mod_228 : Cond.methodLink "LineRulesModel" 228 ⟨"LineRulesModel", "grow", "(II)V"⟩ ∈ wl_ALL := wl_mem 1121 (by decide +kernel) rfl
theorem ml_Mod_203 : Cond.methodLink "LineRulesModel" 203 ⟨"LineRulesModel", "compared", "(II)I"⟩ ∈ wl_ALL := wl_mem 1125 (by decide +kernel) rfl
theorem ml_Mod_206 : Cond.methodLink "LineRulesModel" 206 ⟨"LineRulesModel", "copyKey", "(II)V"⟩ ∈ wl_ALL := wl_mem 1129 (by decide +kernel) rfl
theorem ml_Mod_231 : Cond.methodLink "LineRulesModel" 231 ⟨"LineRulesModel", "setField", "(I)V"⟩ ∈ wl_ALL := wl_mem 1133 (by decide +kernel) rfl
theorem ml_Mod_209 : Cond.methodLink "LineRulesModel" 209 ⟨"LineRulesModel", "write", "(I)V"⟩ ∈ wl_ALL := wl_mem 1137 (by decide +kernel) rfl
theorem ml_Mod_234 : Cond.methodLink "LineRulesModel" 234 ⟨"LineRulesModel", "spell", "(I)V"⟩ ∈ wl_ALL := wl_mem 1141 (by decide +kernel) rfl
theorem kl_Mod_193 : Cond.constantLong "LineRulesModel" 193 9 ∈ wl_ALL := wl_mem 1145 (by decide +kernel) rfl
theorem kl_Mod_195 : Cond.constantLong "LineRulesModel" 195 10 ∈ wl_ALL := wl_mem 1146 (by decide +kernel) rfl
theorem ml_Mod_237 : Cond.methodLink "LineRulesModel" 237 ⟨"LineRulesModel", "replace", "(IIZ)V"⟩ ∈ wl_ALL := wl_mem 1147 (by decide +kernel) rfl
theorem ml_Law_103 : Cond.methodLink "LineRulesLaw" 103 ⟨"LineRulesModel", "find", "(II)I"⟩ ∈ wl_ALL := wl_mem 1151 (by decide +kernel) rfl
theorem ml_Law_107 : Cond.methodLink "LineRulesLaw" 107 ⟨"LineRulesModel", "end", "()I"⟩ ∈ wl_ALL := wl_mem 1155 (by decide +kernel) rfl
theorem ml_Law_110 : Cond.methodLink "LineRulesLaw" 110 ⟨"LineRulesModel", "sign", "(II)I"⟩ ∈ wl_ALL := wl_mem 1159 (by decide +kernel) rfl
theorem ml_Law_113 : Cond.methodLink "LineRulesLaw" 113 ⟨"LineRulesModel", "printed", "(I)I"⟩ ∈ wl_ALL := wl_mem 1163 (by decide +kernel) rfl
theorem ml_Law_116 : Cond.methodLink "LineRulesLaw" 116 ⟨"LineRulesModel", "counter", "(I)I"⟩ ∈ wl_ALL := wl_mem 1167 (by decide +kernel) rfl
theorem ml_Law_119 : Cond.methodLink "LineRulesLaw" 119 ⟨"LineRulesModel", "key", "(II)I"⟩ ∈ wl_ALL := wl_mem 1171 (by decide +kernel) rfl
theorem ml_Law_122 : Cond.methodLink "LineRulesLaw" 122 ⟨"LineRulesModel", "count", "(I)I"⟩ ∈ wl_ALL := wl_mem 1175 (by decide +kernel) rfl
theorem tg_LR_init : wf_tg mt_LR_init 0 := ⟨wl_mem 86 (by decide +kernel) rfl, wl_mem 64 (by decide +kernel) rfl, by decide +kernel, by decide +kernel, by decide⟩
theorem im_LR_init : Cond.instanceMethod ⟨"LineRules", "<init>", "()V"⟩ ∈ wl_ALL := wl_mem 85 (by decide +kernel) rfl
theorem tg_LR_feed : wf_tg mt_LR_feed 5 := ⟨wl_mem 497 (by decide +kernel) rfl, wl_mem 64 (by decide +kernel) rfl, by decide +kernel, by decide +kernel, by decide⟩
theorem im_LR_feed : Cond.instanceMethod ⟨"LineRules", "feed", "(IIIII)I"⟩ ∈ wl_ALL := wl_mem 495 (by decide +kernel) rfl
theorem se_LR_feed : Cond.selects "LineRules" ⟨"LineRules", "feed", "(IIIII)I"⟩ ⟨"LineRules", "feed", "(IIIII)I"⟩ ∈ wl_ALL := wl_mem 496 (by decide +kernel) rfl
theorem tg_LR_clear : wf_tg mt_LR_clear 0 := ⟨wl_mem 336 (by decide +kernel) rfl, wl_mem 64 (by decide +kernel) rfl, by decide +kernel, by decide +kernel, by decide⟩
theorem im_LR_clear : Cond.instanceMethod ⟨"LineRules", "clear", "()I"⟩ ∈ wl_ALL := wl_mem 334 (by decide +kernel) rfl
theorem se_LR_clear : Cond.selects "LineRules" ⟨"LineRules", "clear", "()I"⟩ ⟨"LineRules", "clear", "()I"⟩ ∈ wl_ALL := wl_mem 335 (by decide +kernel) rfl
theorem tg_LR_expression : wf_tg mt_LR_expression 1 := ⟨wl_mem 581 (by decide +kernel) rfl, wl_mem 64 (by decide +kernel) rfl, by decide +kernel, by decide +kernel, by decide⟩
theorem im_LR_expression : Cond.instanceMethod ⟨"LineRules", "expression", "(I)I"⟩ ∈ wl_ALL := wl_mem 579 (by decide +kernel) rfl
theorem se_LR_expression : Cond.selects "LineRules" ⟨"LineRules", "expression", "(I)I"⟩ ⟨"LineRules", "expression", "(I)I"⟩ ∈ wl_ALL := wl_mem 580 (by decide +kernel) rfl
theorem tg_LR_text : wf_tg mt_LR_text 1 := ⟨wl_mem 716 (by decide +kernel) rfl, wl_mem 64 (by decide +kernel) rfl, by decide +kernel, by decide +kernel, by decide⟩
theorem im_LR_text : Cond.instanceMethod ⟨"LineRules", "text", "(I)I"⟩ ∈ wl_ALL := wl_mem 714 (by decide +kernel) rfl
theorem se_LR_text : Cond.selects "LineRules" ⟨"LineRules", "text", "(I)I"⟩ ⟨"LineRules", "text", "(I)I"⟩ ∈ wl_ALL := wl_mem 715 (by decide +kernel) rfl
theorem tg_LR_separator : wf_tg mt_LR_separator 1 := ⟨wl_mem 730 (by decide +kernel) rfl, wl_mem 64 (by decide +kernel) rfl, by decide +kernel, by decide +kernel, by decide⟩
theorem im_LR_separator : Cond.instanceMethod ⟨"LineRules", "separator", "(I)I"⟩ ∈ wl_ALL := wl_mem 728 (by decide +kernel) rfl
theorem se_LR_separator : Cond.selects "LineRules" ⟨"LineRules", "separator", "(I)I"⟩ ⟨"LineRules", "separator", "(I)I"⟩ ∈ wl_ALL := wl_mem 729 (by decide +kernel) rfl
theorem tg_LR_rule : wf_tg mt_LR_rule 3 := ⟨wl_mem 753 (by decide +kernel) rfl, wl_mem 64 (by decide +kernel) rfl, by decide +kernel, by decide +kernel, by decide⟩
theorem im_LR_rule : Cond.instanceMethod ⟨"LineRules", "rule", "(III)I"⟩ ∈ wl_ALL := wl_mem 751 (by decide +kernel) rfl
theorem se_LR_rule : Cond.selects "LineRules" ⟨"LineRules", "rule", "(III)I"⟩ ⟨"LineRules", "rule", "(III)I"⟩ ∈ wl_ALL := wl_mem 752 (by decide +kernel) rfl
theorem tg_LR_action : wf_tg mt_LR_action 4 := ⟨wl_mem 772 (by decide +kernel) rfl, wl_mem 64 (by decide +kernel) rfl, by decide +kernel, by decide +kernel, by decide⟩
theorem im_LR_action : Cond.instanceMethod ⟨"LineRules", "action", "(IIII)I"⟩ ∈ wl_ALL := wl_mem 770 (by decide +kernel) rfl
theorem se_LR_action : Cond.selects "LineRules" ⟨"LineRules", "action", "(IIII)I"⟩ ⟨"LineRules", "action", "(IIII)I"⟩ ∈ wl_ALL := wl_mem 771 (by decide +kernel) rfl
theorem tg_LR_forget : wf_tg mt_LR_forget 0 := ⟨wl_mem 344 (by decide +kernel) rfl, wl_mem 64 (by decide +kernel) rfl, by decide +kernel, by decide +kernel, by decide⟩
theorem im_LR_forget : Cond.instanceMethod ⟨"LineRules", "forget", "()I"⟩ ∈ wl_ALL := wl_mem 342 (by decide +kernel) rfl
theorem se_LR_forget : Cond.selects "LineRules" ⟨"LineRules", "forget", "()I"⟩ ⟨"LineRules", "forget", "()I"⟩ ∈ wl_ALL := wl_mem 343 (by decide +kernel) rfl
theorem tg_LR_line : wf_tg mt_LR_line 0 := ⟨wl_mem 348 (by decide +kernel) rfl, wl_mem 64 (by decide +kernel) rfl, by decide +kernel, by decide +kernel, by decide⟩
theorem im_LR_line : Cond.instanceMethod ⟨"LineRules", "line", "()I"⟩ ∈ wl_ALL := wl_mem 346 (by decide +kernel) rfl
theorem se_LR_line : Cond.selects "LineRules" ⟨"LineRules", "line", "()I"⟩ ⟨"LineRules", "line", "()I"⟩ ∈ wl_ALL := wl_mem 347 (by decide +kernel) rfl
theorem tg_LR_find : wf_tg mt_LR_find 2 := ⟨wl_mem 796 (by decide +kernel) rfl, wl_mem 64 (by decide +kernel) rfl, by decide +kernel, by decide +kernel, by decide⟩
theorem im_LR_find : Cond.instanceMethod ⟨"LineRules", "find", "(II)I"⟩ ∈ wl_ALL := wl_mem 794 (by decide +kernel) rfl
theorem se_LR_find : Cond.selects "LineRules" ⟨"LineRules", "find", "(II)I"⟩ ⟨"LineRules", "find", "(II)I"⟩ ∈ wl_ALL := wl_mem 795 (by decide +kernel) rfl
theorem tg_LR_end : wf_tg mt_LR_end 0 := ⟨wl_mem 489 (by decide +kernel) rfl, wl_mem 64 (by decide +kernel) rfl, by decide +kernel, by decide +kernel, by decide⟩
theorem im_LR_end : Cond.instanceMethod ⟨"LineRules", "end", "()I"⟩ ∈ wl_ALL := wl_mem 487 (by decide +kernel) rfl
theorem se_LR_end : Cond.selects "LineRules" ⟨"LineRules", "end", "()I"⟩ ⟨"LineRules", "end", "()I"⟩ ∈ wl_ALL := wl_mem 488 (by decide +kernel) rfl
theorem tg_LR_sign : wf_tg mt_LR_sign 2 := ⟨wl_mem 804 (by decide +kernel) rfl, wl_mem 64 (by decide +kernel) rfl, by decide +kernel, by decide +kernel, by decide⟩
theorem im_LR_sign : Cond.instanceMethod ⟨"LineRules", "sign", "(II)I"⟩ ∈ wl_ALL := wl_mem 802 (by decide +kernel) rfl
theorem se_LR_sign : Cond.selects "LineRules" ⟨"LineRules", "sign", "(II)I"⟩ ⟨"LineRules", "sign", "(II)I"⟩ ∈ wl_ALL := wl_mem 803 (by decide +kernel) rfl
theorem tg_LR_printed : wf_tg mt_LR_printed 1 := ⟨wl_mem 817 (by decide +kernel) rfl, wl_mem 64 (by decide +kernel) rfl, by decide +kernel, by decide +kernel, by decide⟩
theorem im_LR_printed : Cond.instanceMethod ⟨"LineRules", "printed", "(I)I"⟩ ∈ wl_ALL := wl_mem 815 (by decide +kernel) rfl
theorem se_LR_printed : Cond.selects "LineRules" ⟨"LineRules", "printed", "(I)I"⟩ ⟨"LineRules", "printed", "(I)I"⟩ ∈ wl_ALL := wl_mem 816 (by decide +kernel) rfl
theorem tg_LR_counter : wf_tg mt_LR_counter 1 := ⟨wl_mem 833 (by decide +kernel) rfl, wl_mem 64 (by decide +kernel) rfl, by decide +kernel, by decide +kernel, by decide⟩
theorem im_LR_counter : Cond.instanceMethod ⟨"LineRules", "counter", "(I)I"⟩ ∈ wl_ALL := wl_mem 831 (by decide +kernel) rfl
theorem se_LR_counter : Cond.selects "LineRules" ⟨"LineRules", "counter", "(I)I"⟩ ⟨"LineRules", "counter", "(I)I"⟩ ∈ wl_ALL := wl_mem 832 (by decide +kernel) rfl
theorem tg_LR_key : wf_tg mt_LR_key 2 := ⟨wl_mem 841 (by decide +kernel) rfl, wl_mem 64 (by decide +kernel) rfl, by decide +kernel, by decide +kernel, by decide⟩
theorem im_LR_key : Cond.instanceMethod ⟨"LineRules", "key", "(II)I"⟩ ∈ wl_ALL := wl_mem 839 (by decide +kernel) rfl
theorem se_LR_key : Cond.selects "LineRules" ⟨"LineRules", "key", "(II)I"⟩ ⟨"LineRules", "key", "(II)I"⟩ ∈ wl_ALL := wl_mem 840 (by decide +kernel) rfl
theorem tg_LR_count : wf_tg mt_LR_count 1 := ⟨wl_mem 849 (by decide +kernel) rfl, wl_mem 64 (by decide +kernel) rfl, by decide +kernel, by decide +kernel, by decide⟩
theorem im_LR_count : Cond.instanceMethod ⟨"LineRules", "count", "(I)I"⟩ ∈ wl_ALL := wl_mem 847 (by decide +kernel) rfl
theorem se_LR_count : Cond.selects "LineRules" ⟨"LineRules", "count", "(I)I"⟩ ⟨"LineRules", "count", "(I)I"⟩ ∈ wl_ALL := wl_mem 848 (by decide +kernel) rfl
theorem tg_LR_signsIn : wf_tg mt_LR_signsIn 1 := ⟨wl_mem 500 (by decide +kernel) rfl, wl_mem 64 (by decide +kernel) rfl, by decide +kernel, by decide +kernel, by decide⟩
theorem sm_LR_signsIn : Cond.static ⟨"LineRules", "signsIn", "(I)I"⟩ ∈ wl_ALL := wl_mem 499 (by decide +kernel) rfl
theorem tg_LR_addToPad : wf_tg mt_LR_addToPad 1 := ⟨wl_mem 572 (by decide +kernel) rfl, wl_mem 64 (by decide +kernel) rfl, by decide +kernel, by decide +kernel, by decide⟩
theorem im_LR_addToPad : Cond.instanceMethod ⟨"LineRules", "addToPad", "(I)V"⟩ ∈ wl_ALL := wl_mem 571 (by decide +kernel) rfl
theorem se_LR_addToPad : Cond.selects "LineRules" ⟨"LineRules", "addToPad", "(I)V"⟩ ⟨"LineRules", "addToPad", "(I)V"⟩ ∈ wl_ALL := wl_mem 12 (by decide +kernel) rfl
theorem tg_LR_isExpression : wf_tg mt_LR_isExpression 1 := ⟨wl_mem 584 (by decide +kernel) rfl, wl_mem 64 (by decide +kernel) rfl, by decide +kernel, by decide +kernel, by decide⟩
theorem sm_LR_isExpression : Cond.static ⟨"LineRules", "isExpression", "(I)Z"⟩ ∈ wl_ALL := wl_mem 583 (by decide +kernel) rfl
theorem tg_LR_isText : wf_tg mt_LR_isText 1 := ⟨wl_mem 719 (by decide +kernel) rfl, wl_mem 64 (by decide +kernel) rfl, by decide +kernel, by decide +kernel, by decide⟩
theorem sm_LR_isText : Cond.static ⟨"LineRules", "isText", "(I)Z"⟩ ∈ wl_ALL := wl_mem 718 (by decide +kernel) rfl
theorem tg_LR_isCounter : wf_tg mt_LR_isCounter 1 := ⟨wl_mem 778 (by decide +kernel) rfl, wl_mem 64 (by decide +kernel) rfl, by decide +kernel, by decide +kernel, by decide⟩
theorem sm_LR_isCounter : Cond.static ⟨"LineRules", "isCounter", "(I)Z"⟩ ∈ wl_ALL := wl_mem 777 (by decide +kernel) rfl
theorem tg_LR_isField : wf_tg mt_LR_isField 1 := ⟨wl_mem 759 (by decide +kernel) rfl, wl_mem 64 (by decide +kernel) rfl, by decide +kernel, by decide +kernel, by decide⟩
theorem sm_LR_isField : Cond.static ⟨"LineRules", "isField", "(I)Z"⟩ ∈ wl_ALL := wl_mem 758 (by decide +kernel) rfl
theorem tg_LR_isPattern : wf_tg mt_LR_isPattern 3 := ⟨wl_mem 756 (by decide +kernel) rfl, wl_mem 64 (by decide +kernel) rfl, by decide +kernel, by decide +kernel, by decide⟩
theorem sm_LR_isPattern : Cond.static ⟨"LineRules", "isPattern", "(III)Z"⟩ ∈ wl_ALL := wl_mem 755 (by decide +kernel) rfl
theorem tg_LR_isAction : wf_tg mt_LR_isAction 3 := ⟨wl_mem 775 (by decide +kernel) rfl, wl_mem 64 (by decide +kernel) rfl, by decide +kernel, by decide +kernel, by decide⟩
theorem sm_LR_isAction : Cond.static ⟨"LineRules", "isAction", "(III)Z"⟩ ∈ wl_ALL := wl_mem 774 (by decide +kernel) rfl
theorem tg_LR_hasPattern : wf_tg mt_LR_hasPattern 1 := ⟨wl_mem 379 (by decide +kernel) rfl, wl_mem 64 (by decide +kernel) rfl, by decide +kernel, by decide +kernel, by decide⟩
theorem im_LR_hasPattern : Cond.instanceMethod ⟨"LineRules", "hasPattern", "(LLineRules$Rule;)Z"⟩ ∈ wl_ALL := wl_mem 378 (by decide +kernel) rfl
theorem se_LR_hasPattern : Cond.selects "LineRules" ⟨"LineRules", "hasPattern", "(LLineRules$Rule;)Z"⟩ ⟨"LineRules", "hasPattern", "(LLineRules$Rule;)Z"⟩ ∈ wl_ALL := wl_mem 1 (by decide +kernel) rfl
theorem tg_LR_doActions : wf_tg mt_LR_doActions 1 := ⟨wl_mem 406 (by decide +kernel) rfl, wl_mem 64 (by decide +kernel) rfl, by decide +kernel, by decide +kernel, by decide⟩
theorem im_LR_doActions : Cond.instanceMethod ⟨"LineRules", "doActions", "(LLineRules$Rule;)Z"⟩ ∈ wl_ALL := wl_mem 405 (by decide +kernel) rfl
theorem se_LR_doActions : Cond.selects "LineRules" ⟨"LineRules", "doActions", "(LLineRules$Rule;)Z"⟩ ⟨"LineRules", "doActions", "(LLineRules$Rule;)Z"⟩ ∈ wl_ALL := wl_mem 3 (by decide +kernel) rfl
theorem tg_LR_doAction : wf_tg mt_LR_doAction 3 := ⟨wl_mem 410 (by decide +kernel) rfl, wl_mem 64 (by decide +kernel) rfl, by decide +kernel, by decide +kernel, by decide⟩
theorem im_LR_doAction : Cond.instanceMethod ⟨"LineRules", "doAction", "(III)V"⟩ ∈ wl_ALL := wl_mem 409 (by decide +kernel) rfl
theorem se_LR_doAction : Cond.selects "LineRules" ⟨"LineRules", "doAction", "(III)V"⟩ ⟨"LineRules", "doAction", "(III)V"⟩ ∈ wl_ALL := wl_mem 4 (by decide +kernel) rfl
theorem tg_LR_printMatch : wf_tg mt_LR_printMatch 1 := ⟨wl_mem 483 (by decide +kernel) rfl, wl_mem 64 (by decide +kernel) rfl, by decide +kernel, by decide +kernel, by decide⟩
theorem im_LR_printMatch : Cond.instanceMethod ⟨"LineRules", "printMatch", "(LLineRules$Expression;)V"⟩ ∈ wl_ALL := wl_mem 482 (by decide +kernel) rfl
theorem se_LR_printMatch : Cond.selects "LineRules" ⟨"LineRules", "printMatch", "(LLineRules$Expression;)V"⟩ ⟨"LineRules", "printMatch", "(LLineRules$Expression;)V"⟩ ∈ wl_ALL := wl_mem 10 (by decide +kernel) rfl
theorem tg_Mod_init : wf_tg mt_Mod_init 0 := ⟨wl_mem 855 (by decide +kernel) rfl, wl_mem 72 (by decide +kernel) rfl, by decide +kernel, by decide +kernel, by decide⟩
theorem im_Mod_init : Cond.instanceMethod ⟨"LineRulesModel", "<init>", "()V"⟩ ∈ wl_ALL := wl_mem 854 (by decide +kernel) rfl
theorem tg_Mod_thrown : wf_tg mt_Mod_thrown 0 := ⟨wl_mem 981 (by decide +kernel) rfl, wl_mem 72 (by decide +kernel) rfl, by decide +kernel, by decide +kernel, by decide⟩
theorem im_Mod_thrown : Cond.instanceMethod ⟨"LineRulesModel", "thrown", "()I"⟩ ∈ wl_ALL := wl_mem 979 (by decide +kernel) rfl
theorem se_Mod_thrown : Cond.selects "LineRulesModel" ⟨"LineRulesModel", "thrown", "()I"⟩ ⟨"LineRulesModel", "thrown", "()I"⟩ ∈ wl_ALL := wl_mem 980 (by decide +kernel) rfl
theorem tg_Mod_goes : wf_tg mt_Mod_goes 2 := ⟨wl_mem 992 (by decide +kernel) rfl, wl_mem 72 (by decide +kernel) rfl, by decide +kernel, by decide +kernel, by decide⟩
theorem im_Mod_goes : Cond.instanceMethod ⟨"LineRulesModel", "goes", "(ZZ)Z"⟩ ∈ wl_ALL := wl_mem 991 (by decide +kernel) rfl
theorem se_Mod_goes : Cond.selects "LineRulesModel" ⟨"LineRulesModel", "goes", "(ZZ)Z"⟩ ⟨"LineRulesModel", "goes", "(ZZ)Z"⟩ ∈ wl_ALL := wl_mem 34 (by decide +kernel) rfl
theorem tg_Mod_within : wf_tg mt_Mod_within 3 := ⟨wl_mem 1007 (by decide +kernel) rfl, wl_mem 72 (by decide +kernel) rfl, by decide +kernel, by decide +kernel, by decide⟩
theorem sm_Mod_within : Cond.static ⟨"LineRulesModel", "within", "(III)Z"⟩ ∈ wl_ALL := wl_mem 1006 (by decide +kernel) rfl
theorem tg_Mod_signsOf : wf_tg mt_Mod_signsOf 1 := ⟨wl_mem 988 (by decide +kernel) rfl, wl_mem 72 (by decide +kernel) rfl, by decide +kernel, by decide +kernel, by decide⟩
theorem sm_Mod_signsOf : Cond.static ⟨"LineRulesModel", "signsOf", "(I)I"⟩ ∈ wl_ALL := wl_mem 987 (by decide +kernel) rfl
theorem tg_Mod_feedOne : wf_tg mt_Mod_feedOne 1 := ⟨wl_mem 996 (by decide +kernel) rfl, wl_mem 72 (by decide +kernel) rfl, by decide +kernel, by decide +kernel, by decide⟩
theorem im_Mod_feedOne : Cond.instanceMethod ⟨"LineRulesModel", "feedOne", "(I)V"⟩ ∈ wl_ALL := wl_mem 995 (by decide +kernel) rfl
theorem se_Mod_feedOne : Cond.selects "LineRulesModel" ⟨"LineRulesModel", "feedOne", "(I)V"⟩ ⟨"LineRulesModel", "feedOne", "(I)V"⟩ ∈ wl_ALL := wl_mem 35 (by decide +kernel) rfl
theorem tg_Mod_feed : wf_tg mt_Mod_feed 5 := ⟨wl_mem 985 (by decide +kernel) rfl, wl_mem 72 (by decide +kernel) rfl, by decide +kernel, by decide +kernel, by decide⟩
theorem im_Mod_feed : Cond.instanceMethod ⟨"LineRulesModel", "feed", "(IIIII)I"⟩ ∈ wl_ALL := wl_mem 983 (by decide +kernel) rfl
theorem se_Mod_feed : Cond.selects "LineRulesModel" ⟨"LineRulesModel", "feed", "(IIIII)I"⟩ ⟨"LineRulesModel", "feed", "(IIIII)I"⟩ ∈ wl_ALL := wl_mem 984 (by decide +kernel) rfl
theorem tg_Mod_clear : wf_tg mt_Mod_clear 0 := ⟨wl_mem 1000 (by decide +kernel) rfl, wl_mem 72 (by decide +kernel) rfl, by decide +kernel, by decide +kernel, by decide⟩
theorem im_Mod_clear : Cond.instanceMethod ⟨"LineRulesModel", "clear", "()I"⟩ ∈ wl_ALL := wl_mem 998 (by decide +kernel) rfl
theorem se_Mod_clear : Cond.selects "LineRulesModel" ⟨"LineRulesModel", "clear", "()I"⟩ ⟨"LineRulesModel", "clear", "()I"⟩ ∈ wl_ALL := wl_mem 999 (by decide +kernel) rfl
theorem tg_Mod_point : wf_tg mt_Mod_point 0 := ⟨wl_mem 1015 (by decide +kernel) rfl, wl_mem 72 (by decide +kernel) rfl, by decide +kernel, by decide +kernel, by decide⟩
theorem im_Mod_point : Cond.instanceMethod ⟨"LineRulesModel", "point", "()I"⟩ ∈ wl_ALL := wl_mem 1014 (by decide +kernel) rfl
theorem se_Mod_point : Cond.selects "LineRulesModel" ⟨"LineRulesModel", "point", "()I"⟩ ⟨"LineRulesModel", "point", "()I"⟩ ∈ wl_ALL := wl_mem 37 (by decide +kernel) rfl
theorem tg_Mod_edge : wf_tg mt_Mod_edge 4 := ⟨wl_mem 1019 (by decide +kernel) rfl, wl_mem 72 (by decide +kernel) rfl, by decide +kernel, by decide +kernel, by decide⟩
theorem im_Mod_edge : Cond.instanceMethod ⟨"LineRulesModel", "edge", "(IIII)V"⟩ ∈ wl_ALL := wl_mem 1018 (by decide +kernel) rfl
theorem se_Mod_edge : Cond.selects "LineRulesModel" ⟨"LineRulesModel", "edge", "(IIII)V"⟩ ⟨"LineRulesModel", "edge", "(IIII)V"⟩ ∈ wl_ALL := wl_mem 38 (by decide +kernel) rfl
theorem tg_Mod_fail : wf_tg mt_Mod_fail 1 := ⟨wl_mem 1023 (by decide +kernel) rfl, wl_mem 72 (by decide +kernel) rfl, by decide +kernel, by decide +kernel, by decide⟩
theorem im_Mod_fail : Cond.instanceMethod ⟨"LineRulesModel", "fail", "(I)V"⟩ ∈ wl_ALL := wl_mem 1022 (by decide +kernel) rfl
theorem se_Mod_fail : Cond.selects "LineRulesModel" ⟨"LineRulesModel", "fail", "(I)V"⟩ ⟨"LineRulesModel", "fail", "(I)V"⟩ ∈ wl_ALL := wl_mem 39 (by decide +kernel) rfl
theorem tg_Mod_isItem : wf_tg mt_Mod_isItem 1 := ⟨wl_mem 1030 (by decide +kernel) rfl, wl_mem 72 (by decide +kernel) rfl, by decide +kernel, by decide +kernel, by decide⟩
theorem sm_Mod_isItem : Cond.static ⟨"LineRulesModel", "isItem", "(I)Z"⟩ ∈ wl_ALL := wl_mem 1029 (by decide +kernel) rfl
theorem tg_Mod_items : wf_tg mt_Mod_items 2 := ⟨wl_mem 1027 (by decide +kernel) rfl, wl_mem 72 (by decide +kernel) rfl, by decide +kernel, by decide +kernel, by decide⟩
theorem im_Mod_items : Cond.instanceMethod ⟨"LineRulesModel", "items", "(II)I"⟩ ∈ wl_ALL := wl_mem 1026 (by decide +kernel) rfl
theorem se_Mod_items : Cond.selects "LineRulesModel" ⟨"LineRulesModel", "items", "(II)I"⟩ ⟨"LineRulesModel", "items", "(II)I"⟩ ∈ wl_ALL := wl_mem 40 (by decide +kernel) rfl
theorem tg_Mod_draw : wf_tg mt_Mod_draw 1 := ⟨wl_mem 1011 (by decide +kernel) rfl, wl_mem 72 (by decide +kernel) rfl, by decide +kernel, by decide +kernel, by decide⟩
theorem im_Mod_draw : Cond.instanceMethod ⟨"LineRulesModel", "draw", "(I)V"⟩ ∈ wl_ALL := wl_mem 1010 (by decide +kernel) rfl
theorem se_Mod_draw : Cond.selects "LineRulesModel" ⟨"LineRulesModel", "draw", "(I)V"⟩ ⟨"LineRulesModel", "draw", "(I)V"⟩ ∈ wl_ALL := wl_mem 36 (by decide +kernel) rfl
theorem tg_Mod_isSign : wf_tg mt_Mod_isSign 2 := ⟨wl_mem 1092 (by decide +kernel) rfl, wl_mem 72 (by decide +kernel) rfl, by decide +kernel, by decide +kernel, by decide⟩
theorem im_Mod_isSign : Cond.instanceMethod ⟨"LineRulesModel", "isSign", "(II)Z"⟩ ∈ wl_ALL := wl_mem 1091 (by decide +kernel) rfl
theorem se_Mod_isSign : Cond.selects "LineRulesModel" ⟨"LineRulesModel", "isSign", "(II)Z"⟩ ⟨"LineRulesModel", "isSign", "(II)Z"⟩ ∈ wl_ALL := wl_mem 48 (by decide +kernel) rfl
theorem tg_Mod_expression : wf_tg mt_Mod_expression 1 := ⟨wl_mem 1004 (by decide +kernel) rfl, wl_mem 72 (by decide +kernel) rfl, by decide +kernel, by decide +kernel, by decide⟩
theorem im_Mod_expression : Cond.instanceMethod ⟨"LineRulesModel", "expression", "(I)I"⟩ ∈ wl_ALL := wl_mem 1002 (by decide +kernel) rfl
theorem se_Mod_expression : Cond.selects "LineRulesModel" ⟨"LineRulesModel", "expression", "(I)I"⟩ ⟨"LineRulesModel", "expression", "(I)I"⟩ ∈ wl_ALL := wl_mem 1003 (by decide +kernel) rfl
theorem tg_Mod_spread : wf_tg mt_Mod_spread 2 := ⟨wl_mem 1088 (by decide +kernel) rfl, wl_mem 72 (by decide +kernel) rfl, by decide +kernel, by decide +kernel, by decide⟩
theorem im_Mod_spread : Cond.instanceMethod ⟨"LineRulesModel", "spread", "(II)V"⟩ ∈ wl_ALL := wl_mem 1087 (by decide +kernel) rfl
theorem se_Mod_spread : Cond.selects "LineRulesModel" ⟨"LineRulesModel", "spread", "(II)V"⟩ ⟨"LineRulesModel", "spread", "(II)V"⟩ ∈ wl_ALL := wl_mem 47 (by decide +kernel) rfl
theorem tg_Mod_longest : wf_tg mt_Mod_longest 2 := ⟨wl_mem 1084 (by decide +kernel) rfl, wl_mem 72 (by decide +kernel) rfl, by decide +kernel, by decide +kernel, by decide⟩
theorem im_Mod_longest : Cond.instanceMethod ⟨"LineRulesModel", "longest", "(II)I"⟩ ∈ wl_ALL := wl_mem 1083 (by decide +kernel) rfl
theorem se_Mod_longest : Cond.selects "LineRulesModel" ⟨"LineRulesModel", "longest", "(II)I"⟩ ⟨"LineRulesModel", "longest", "(II)I"⟩ ∈ wl_ALL := wl_mem 46 (by decide +kernel) rfl
theorem tg_Mod_seek : wf_tg mt_Mod_seek 3 := ⟨wl_mem 1080 (by decide +kernel) rfl, wl_mem 72 (by decide +kernel) rfl, by decide +kernel, by decide +kernel, by decide⟩
theorem im_Mod_seek : Cond.instanceMethod ⟨"LineRulesModel", "seek", "(III)Z"⟩ ∈ wl_ALL := wl_mem 1079 (by decide +kernel) rfl
theorem se_Mod_seek : Cond.selects "LineRulesModel" ⟨"LineRulesModel", "seek", "(III)Z"⟩ ⟨"LineRulesModel", "seek", "(III)Z"⟩ ∈ wl_ALL := wl_mem 45 (by decide +kernel) rfl
theorem tg_Mod_copyRow : wf_tg mt_Mod_copyRow 2 := ⟨wl_mem 1038 (by decide +kernel) rfl, wl_mem 72 (by decide +kernel) rfl, by decide +kernel, by decide +kernel, by decide⟩
theorem im_Mod_copyRow : Cond.instanceMethod ⟨"LineRulesModel", "copyRow", "(II)V"⟩ ∈ wl_ALL := wl_mem 1037 (by decide +kernel) rfl
theorem se_Mod_copyRow : Cond.selects "LineRulesModel" ⟨"LineRulesModel", "copyRow", "(II)V"⟩ ⟨"LineRulesModel", "copyRow", "(II)V"⟩ ∈ wl_ALL := wl_mem 41 (by decide +kernel) rfl
theorem tg_Mod_text : wf_tg mt_Mod_text 1 := ⟨wl_mem 1034 (by decide +kernel) rfl, wl_mem 72 (by decide +kernel) rfl, by decide +kernel, by decide +kernel, by decide⟩
theorem im_Mod_text : Cond.instanceMethod ⟨"LineRulesModel", "text", "(I)I"⟩ ∈ wl_ALL := wl_mem 1032 (by decide +kernel) rfl
theorem se_Mod_text : Cond.selects "LineRulesModel" ⟨"LineRulesModel", "text", "(I)I"⟩ ⟨"LineRulesModel", "text", "(I)I"⟩ ∈ wl_ALL := wl_mem 1033 (by decide +kernel) rfl
theorem tg_Mod_separator : wf_tg mt_Mod_separator 1 := ⟨wl_mem 1042 (by decide +kernel) rfl, wl_mem 72 (by decide +kernel) rfl, by decide +kernel, by decide +kernel, by decide⟩
theorem im_Mod_separator : Cond.instanceMethod ⟨"LineRulesModel", "separator", "(I)I"⟩ ∈ wl_ALL := wl_mem 1040 (by decide +kernel) rfl
theorem se_Mod_separator : Cond.selects "LineRulesModel" ⟨"LineRulesModel", "separator", "(I)I"⟩ ⟨"LineRulesModel", "separator", "(I)I"⟩ ∈ wl_ALL := wl_mem 1041 (by decide +kernel) rfl
theorem tg_Mod_isField : wf_tg mt_Mod_isField 1 := ⟨wl_mem 1049 (by decide +kernel) rfl, wl_mem 72 (by decide +kernel) rfl, by decide +kernel, by decide +kernel, by decide⟩
theorem sm_Mod_isField : Cond.static ⟨"LineRulesModel", "isField", "(I)Z"⟩ ∈ wl_ALL := wl_mem 1048 (by decide +kernel) rfl
theorem tg_Mod_rule : wf_tg mt_Mod_rule 3 := ⟨wl_mem 1046 (by decide +kernel) rfl, wl_mem 72 (by decide +kernel) rfl, by decide +kernel, by decide +kernel, by decide⟩
theorem im_Mod_rule : Cond.instanceMethod ⟨"LineRulesModel", "rule", "(III)I"⟩ ∈ wl_ALL := wl_mem 1044 (by decide +kernel) rfl
theorem se_Mod_rule : Cond.selects "LineRulesModel" ⟨"LineRulesModel", "rule", "(III)I"⟩ ⟨"LineRulesModel", "rule", "(III)I"⟩ ∈ wl_ALL := wl_mem 1045 (by decide +kernel) rfl
theorem tg_Mod_isAction : wf_tg mt_Mod_isAction 3 := ⟨wl_mem 1056 (by decide +kernel) rfl, wl_mem 72 (by decide +kernel) rfl, by decide +kernel, by decide +kernel, by decide⟩
theorem sm_Mod_isAction : Cond.static ⟨"LineRulesModel", "isAction", "(III)Z"⟩ ∈ wl_ALL := wl_mem 1055 (by decide +kernel) rfl
theorem tg_Mod_action : wf_tg mt_Mod_action 4 := ⟨wl_mem 1053 (by decide +kernel) rfl, wl_mem 72 (by decide +kernel) rfl, by decide +kernel, by decide +kernel, by decide⟩
theorem im_Mod_action : Cond.instanceMethod ⟨"LineRulesModel", "action", "(IIII)I"⟩ ∈ wl_ALL := wl_mem 1051 (by decide +kernel) rfl
theorem se_Mod_action : Cond.selects "LineRulesModel" ⟨"LineRulesModel", "action", "(IIII)I"⟩ ⟨"LineRulesModel", "action", "(IIII)I"⟩ ∈ wl_ALL := wl_mem 1052 (by decide +kernel) rfl
theorem tg_Mod_forget : wf_tg mt_Mod_forget 0 := ⟨wl_mem 1060 (by decide +kernel) rfl, wl_mem 72 (by decide +kernel) rfl, by decide +kernel, by decide +kernel, by decide⟩
theorem im_Mod_forget : Cond.instanceMethod ⟨"LineRulesModel", "forget", "()I"⟩ ∈ wl_ALL := wl_mem 1058 (by decide +kernel) rfl
theorem se_Mod_forget : Cond.selects "LineRulesModel" ⟨"LineRulesModel", "forget", "()I"⟩ ⟨"LineRulesModel", "forget", "()I"⟩ ∈ wl_ALL := wl_mem 1059 (by decide +kernel) rfl
theorem tg_Mod_field : wf_tg mt_Mod_field 2 := ⟨wl_mem 1072 (by decide +kernel) rfl, wl_mem 72 (by decide +kernel) rfl, by decide +kernel, by decide +kernel, by decide⟩
theorem im_Mod_field : Cond.instanceMethod ⟨"LineRulesModel", "field", "(II)V"⟩ ∈ wl_ALL := wl_mem 1071 (by decide +kernel) rfl
theorem se_Mod_field : Cond.selects "LineRulesModel" ⟨"LineRulesModel", "field", "(II)V"⟩ ⟨"LineRulesModel", "field", "(II)V"⟩ ∈ wl_ALL := wl_mem 43 (by decide +kernel) rfl
theorem tg_Mod_part : wf_tg mt_Mod_part 0 := ⟨wl_mem 1068 (by decide +kernel) rfl, wl_mem 72 (by decide +kernel) rfl, by decide +kernel, by decide +kernel, by decide⟩
theorem im_Mod_part : Cond.instanceMethod ⟨"LineRulesModel", "part", "()V"⟩ ∈ wl_ALL := wl_mem 1067 (by decide +kernel) rfl
theorem se_Mod_part : Cond.selects "LineRulesModel" ⟨"LineRulesModel", "part", "()V"⟩ ⟨"LineRulesModel", "part", "()V"⟩ ∈ wl_ALL := wl_mem 42 (by decide +kernel) rfl
theorem tg_Mod_sizeOf : wf_tg mt_Mod_sizeOf 1 := ⟨wl_mem 1100 (by decide +kernel) rfl, wl_mem 72 (by decide +kernel) rfl, by decide +kernel, by decide +kernel, by decide⟩
theorem im_Mod_sizeOf : Cond.instanceMethod ⟨"LineRulesModel", "sizeOf", "(I)I"⟩ ∈ wl_ALL := wl_mem 1099 (by decide +kernel) rfl
theorem se_Mod_sizeOf : Cond.selects "LineRulesModel" ⟨"LineRulesModel", "sizeOf", "(I)I"⟩ ⟨"LineRulesModel", "sizeOf", "(I)I"⟩ ∈ wl_ALL := wl_mem 50 (by decide +kernel) rfl
theorem tg_Mod_signOf : wf_tg mt_Mod_signOf 2 := ⟨wl_mem 1104 (by decide +kernel) rfl, wl_mem 72 (by decide +kernel) rfl, by decide +kernel, by decide +kernel, by decide⟩
theorem im_Mod_signOf : Cond.instanceMethod ⟨"LineRulesModel", "signOf", "(II)I"⟩ ∈ wl_ALL := wl_mem 1103 (by decide +kernel) rfl
theorem se_Mod_signOf : Cond.selects "LineRulesModel" ⟨"LineRulesModel", "signOf", "(II)I"⟩ ⟨"LineRulesModel", "signOf", "(II)I"⟩ ∈ wl_ALL := wl_mem 51 (by decide +kernel) rfl
theorem tg_Mod_numberOf : wf_tg mt_Mod_numberOf 1 := ⟨wl_mem 1108 (by decide +kernel) rfl, wl_mem 72 (by decide +kernel) rfl, by decide +kernel, by decide +kernel, by decide⟩
theorem im_Mod_numberOf : Cond.instanceMethod ⟨"LineRulesModel", "numberOf", "(I)I"⟩ ∈ wl_ALL := wl_mem 1107 (by decide +kernel) rfl
theorem se_Mod_numberOf : Cond.selects "LineRulesModel" ⟨"LineRulesModel", "numberOf", "(I)I"⟩ ⟨"LineRulesModel", "numberOf", "(I)I"⟩ ∈ wl_ALL := wl_mem 52 (by decide +kernel) rfl
theorem tg_Mod_put : wf_tg mt_Mod_put 1 := ⟨wl_mem 1120 (by decide +kernel) rfl, wl_mem 72 (by decide +kernel) rfl, by decide +kernel, by decide +kernel, by decide⟩
theorem im_Mod_put : Cond.instanceMethod ⟨"LineRulesModel", "put", "(I)V"⟩ ∈ wl_ALL := wl_mem 1119 (by decide +kernel) rfl
theorem se_Mod_put : Cond.selects "LineRulesModel" ⟨"LineRulesModel", "put", "(I)V"⟩ ⟨"LineRulesModel", "put", "(I)V"⟩ ∈ wl_ALL := wl_mem 55 (by decide +kernel) rfl
theorem tg_Mod_spell : wf_tg mt_Mod_spell 1 := ⟨wl_mem 1144 (by decide +kernel) rfl, wl_mem 72 (by decide +kernel) rfl, by decide +kernel, by decide +kernel, by decide⟩
theorem im_Mod_spell : Cond.instanceMethod ⟨"LineRulesModel", "spell", "(I)V"⟩ ∈ wl_ALL := wl_mem 1143 (by decide +kernel) rfl
theorem se_Mod_spell : Cond.selects "LineRulesModel" ⟨"LineRulesModel", "spell", "(I)V"⟩ ⟨"LineRulesModel", "spell", "(I)V"⟩ ∈ wl_ALL := wl_mem 61 (by decide +kernel) rfl
theorem tg_Mod_printRow : wf_tg mt_Mod_printRow 3 := ⟨wl_mem 1116 (by decide +kernel) rfl, wl_mem 72 (by decide +kernel) rfl, by decide +kernel, by decide +kernel, by decide⟩
theorem im_Mod_printRow : Cond.instanceMethod ⟨"LineRulesModel", "printRow", "(III)V"⟩ ∈ wl_ALL := wl_mem 1115 (by decide +kernel) rfl
theorem se_Mod_printRow : Cond.selects "LineRulesModel" ⟨"LineRulesModel", "printRow", "(III)V"⟩ ⟨"LineRulesModel", "printRow", "(III)V"⟩ ∈ wl_ALL := wl_mem 54 (by decide +kernel) rfl
theorem tg_Mod_compared : wf_tg mt_Mod_compared 2 := ⟨wl_mem 1128 (by decide +kernel) rfl, wl_mem 72 (by decide +kernel) rfl, by decide +kernel, by decide +kernel, by decide⟩
theorem im_Mod_compared : Cond.instanceMethod ⟨"LineRulesModel", "compared", "(II)I"⟩ ∈ wl_ALL := wl_mem 1127 (by decide +kernel) rfl
theorem se_Mod_compared : Cond.selects "LineRulesModel" ⟨"LineRulesModel", "compared", "(II)I"⟩ ⟨"LineRulesModel", "compared", "(II)I"⟩ ∈ wl_ALL := wl_mem 57 (by decide +kernel) rfl
theorem tg_Mod_copyKey : wf_tg mt_Mod_copyKey 2 := ⟨wl_mem 1132 (by decide +kernel) rfl, wl_mem 72 (by decide +kernel) rfl, by decide +kernel, by decide +kernel, by decide⟩
theorem im_Mod_copyKey : Cond.instanceMethod ⟨"LineRulesModel", "copyKey", "(II)V"⟩ ∈ wl_ALL := wl_mem 1131 (by decide +kernel) rfl
theorem se_Mod_copyKey : Cond.selects "LineRulesModel" ⟨"LineRulesModel", "copyKey", "(II)V"⟩ ⟨"LineRulesModel", "copyKey", "(II)V"⟩ ∈ wl_ALL := wl_mem 58 (by decide +kernel) rfl
theorem tg_Mod_grow : wf_tg mt_Mod_grow 2 := ⟨wl_mem 1124 (by decide +kernel) rfl, wl_mem 72 (by decide +kernel) rfl, by decide +kernel, by decide +kernel, by decide⟩
theorem im_Mod_grow : Cond.instanceMethod ⟨"LineRulesModel", "grow", "(II)V"⟩ ∈ wl_ALL := wl_mem 1123 (by decide +kernel) rfl
theorem se_Mod_grow : Cond.selects "LineRulesModel" ⟨"LineRulesModel", "grow", "(II)V"⟩ ⟨"LineRulesModel", "grow", "(II)V"⟩ ∈ wl_ALL := wl_mem 56 (by decide +kernel) rfl
theorem tg_Mod_write : wf_tg mt_Mod_write 1 := ⟨wl_mem 1140 (by decide +kernel) rfl, wl_mem 72 (by decide +kernel) rfl, by decide +kernel, by decide +kernel, by decide⟩
theorem im_Mod_write : Cond.instanceMethod ⟨"LineRulesModel", "write", "(I)V"⟩ ∈ wl_ALL := wl_mem 1139 (by decide +kernel) rfl
theorem se_Mod_write : Cond.selects "LineRulesModel" ⟨"LineRulesModel", "write", "(I)V"⟩ ⟨"LineRulesModel", "write", "(I)V"⟩ ∈ wl_ALL := wl_mem 60 (by decide +kernel) rfl
theorem tg_Mod_setField : wf_tg mt_Mod_setField 1 := ⟨wl_mem 1136 (by decide +kernel) rfl, wl_mem 72 (by decide +kernel) rfl, by decide +kernel, by decide +kernel, by decide⟩
theorem im_Mod_setField : Cond.instanceMethod ⟨"LineRulesModel", "setField", "(I)V"⟩ ∈ wl_ALL := wl_mem 1135 (by decide +kernel) rfl
theorem se_Mod_setField : Cond.selects "LineRulesModel" ⟨"LineRulesModel", "setField", "(I)V"⟩ ⟨"LineRulesModel", "setField", "(I)V"⟩ ∈ wl_ALL := wl_mem 59 (by decide +kernel) rfl
theorem tg_Mod_fieldToRow : wf_tg mt_Mod_fieldToRow 1 := ⟨wl_mem 1096 (by decide +kernel) rfl, wl_mem 72 (by decide +kernel) rfl, by decide +kernel, by decide +kernel, by decide⟩
theorem im_Mod_fieldToRow : Cond.instanceMethod ⟨"LineRulesModel", "fieldToRow", "(I)V"⟩ ∈ wl_ALL := wl_mem 1095 (by decide +kernel) rfl
theorem se_Mod_fieldToRow : Cond.selects "LineRulesModel" ⟨"LineRulesModel", "fieldToRow", "(I)V"⟩ ⟨"LineRulesModel", "fieldToRow", "(I)V"⟩ ∈ wl_ALL := wl_mem 49 (by decide +kernel) rfl
theorem tg_Mod_replace : wf_tg mt_Mod_replace 3 := ⟨wl_mem 1150 (by decide +kernel) rfl, wl_mem 72 (by decide +kernel) rfl, by decide +kernel, by decide +kernel, by decide⟩
theorem im_Mod_replace : Cond.instanceMethod ⟨"LineRulesModel", "replace", "(IIZ)V"⟩ ∈ wl_ALL := wl_mem 1149 (by decide +kernel) rfl
theorem se_Mod_replace : Cond.selects "LineRulesModel" ⟨"LineRulesModel", "replace", "(IIZ)V"⟩ ⟨"LineRulesModel", "replace", "(IIZ)V"⟩ ∈ wl_ALL := wl_mem 62 (by decide +kernel) rfl
theorem tg_Mod_act : wf_tg mt_Mod_act 3 := ⟨wl_mem 1112 (by decide +kernel) rfl, wl_mem 72 (by decide +kernel) rfl, by decide +kernel, by decide +kernel, by decide⟩
theorem im_Mod_act : Cond.instanceMethod ⟨"LineRulesModel", "act", "(III)V"⟩ ∈ wl_ALL := wl_mem 1111 (by decide +kernel) rfl
theorem se_Mod_act : Cond.selects "LineRulesModel" ⟨"LineRulesModel", "act", "(III)V"⟩ ⟨"LineRulesModel", "act", "(III)V"⟩ ∈ wl_ALL := wl_mem 53 (by decide +kernel) rfl
theorem tg_Mod_has : wf_tg mt_Mod_has 3 := ⟨wl_mem 1076 (by decide +kernel) rfl, wl_mem 72 (by decide +kernel) rfl, by decide +kernel, by decide +kernel, by decide⟩
theorem im_Mod_has : Cond.instanceMethod ⟨"LineRulesModel", "has", "(III)Z"⟩ ∈ wl_ALL := wl_mem 1075 (by decide +kernel) rfl
theorem se_Mod_has : Cond.selects "LineRulesModel" ⟨"LineRulesModel", "has", "(III)Z"⟩ ⟨"LineRulesModel", "has", "(III)Z"⟩ ∈ wl_ALL := wl_mem 44 (by decide +kernel) rfl
theorem tg_Mod_line : wf_tg mt_Mod_line 0 := ⟨wl_mem 1064 (by decide +kernel) rfl, wl_mem 72 (by decide +kernel) rfl, by decide +kernel, by decide +kernel, by decide⟩
theorem im_Mod_line : Cond.instanceMethod ⟨"LineRulesModel", "line", "()I"⟩ ∈ wl_ALL := wl_mem 1062 (by decide +kernel) rfl
theorem se_Mod_line : Cond.selects "LineRulesModel" ⟨"LineRulesModel", "line", "()I"⟩ ⟨"LineRulesModel", "line", "()I"⟩ ∈ wl_ALL := wl_mem 1063 (by decide +kernel) rfl
theorem tg_Mod_find : wf_tg mt_Mod_find 2 := ⟨wl_mem 1154 (by decide +kernel) rfl, wl_mem 72 (by decide +kernel) rfl, by decide +kernel, by decide +kernel, by decide⟩
theorem im_Mod_find : Cond.instanceMethod ⟨"LineRulesModel", "find", "(II)I"⟩ ∈ wl_ALL := wl_mem 1152 (by decide +kernel) rfl
theorem se_Mod_find : Cond.selects "LineRulesModel" ⟨"LineRulesModel", "find", "(II)I"⟩ ⟨"LineRulesModel", "find", "(II)I"⟩ ∈ wl_ALL := wl_mem 1153 (by decide +kernel) rfl
theorem tg_Mod_end : wf_tg mt_Mod_end 0 := ⟨wl_mem 1158 (by decide +kernel) rfl, wl_mem 72 (by decide +kernel) rfl, by decide +kernel, by decide +kernel, by decide⟩
theorem im_Mod_end : Cond.instanceMethod ⟨"LineRulesModel", "end", "()I"⟩ ∈ wl_ALL := wl_mem 1156 (by decide +kernel) rfl
theorem se_Mod_end : Cond.selects "LineRulesModel" ⟨"LineRulesModel", "end", "()I"⟩ ⟨"LineRulesModel", "end", "()I"⟩ ∈ wl_ALL := wl_mem 1157 (by decide +kernel) rfl
theorem tg_Mod_sign : wf_tg mt_Mod_sign 2 := ⟨wl_mem 1162 (by decide +kernel) rfl, wl_mem 72 (by decide +kernel) rfl, by decide +kernel, by decide +kernel, by decide⟩
theorem im_Mod_sign : Cond.instanceMethod ⟨"LineRulesModel", "sign", "(II)I"⟩ ∈ wl_ALL := wl_mem 1160 (by decide +kernel) rfl
theorem se_Mod_sign : Cond.selects "LineRulesModel" ⟨"LineRulesModel", "sign", "(II)I"⟩ ⟨"LineRulesModel", "sign", "(II)I"⟩ ∈ wl_ALL := wl_mem 1161 (by decide +kernel) rfl
theorem tg_Mod_printed : wf_tg mt_Mod_printed 1 := ⟨wl_mem 1166 (by decide +kernel) rfl, wl_mem 72 (by decide +kernel) rfl, by decide +kernel, by decide +kernel, by decide⟩
theorem im_Mod_printed : Cond.instanceMethod ⟨"LineRulesModel", "printed", "(I)I"⟩ ∈ wl_ALL := wl_mem 1164 (by decide +kernel) rfl
theorem se_Mod_printed : Cond.selects "LineRulesModel" ⟨"LineRulesModel", "printed", "(I)I"⟩ ⟨"LineRulesModel", "printed", "(I)I"⟩ ∈ wl_ALL := wl_mem 1165 (by decide +kernel) rfl
theorem tg_Mod_counter : wf_tg mt_Mod_counter 1 := ⟨wl_mem 1170 (by decide +kernel) rfl, wl_mem 72 (by decide +kernel) rfl, by decide +kernel, by decide +kernel, by decide⟩
theorem im_Mod_counter : Cond.instanceMethod ⟨"LineRulesModel", "counter", "(I)I"⟩ ∈ wl_ALL := wl_mem 1168 (by decide +kernel) rfl
theorem se_Mod_counter : Cond.selects "LineRulesModel" ⟨"LineRulesModel", "counter", "(I)I"⟩ ⟨"LineRulesModel", "counter", "(I)I"⟩ ∈ wl_ALL := wl_mem 1169 (by decide +kernel) rfl
theorem tg_Mod_key : wf_tg mt_Mod_key 2 := ⟨wl_mem 1174 (by decide +kernel) rfl, wl_mem 72 (by decide +kernel) rfl, by decide +kernel, by decide +kernel, by decide⟩
theorem im_Mod_key : Cond.instanceMethod ⟨"LineRulesModel", "key", "(II)I"⟩ ∈ wl_ALL := wl_mem 1172 (by decide +kernel) rfl
theorem se_Mod_key : Cond.selects "LineRulesModel" ⟨"LineRulesModel", "key", "(II)I"⟩ ⟨"LineRulesModel", "key", "(II)I"⟩ ∈ wl_ALL := wl_mem 1173 (by decide +kernel) rfl
theorem tg_Mod_count : wf_tg mt_Mod_count 1 := ⟨wl_mem 1178 (by decide +kernel) rfl, wl_mem 72 (by decide +kernel) rfl, by decide +kernel, by decide +kernel, by decide⟩
theorem im_Mod_count : Cond.instanceMethod ⟨"LineRulesModel", "count", "(I)I"⟩ ∈ wl_ALL := wl_mem 1176 (by decide +kernel) rfl
theorem se_Mod_count : Cond.selects "LineRulesModel" ⟨"LineRulesModel", "count", "(I)I"⟩ ⟨"LineRulesModel", "count", "(I)I"⟩ ∈ wl_ALL := wl_mem 1177 (by decide +kernel) rfl
theorem tg_Cut_init : wf_tg mt_Cut_init 0 := ⟨wl_mem 199 (by decide +kernel) rfl, wl_mem 68 (by decide +kernel) rfl, by decide +kernel, by decide +kernel, by decide⟩
theorem im_Cut_init : Cond.instanceMethod ⟨"LineRules$CutLine", "<init>", "()V"⟩ ∈ wl_ALL := wl_mem 198 (by decide +kernel) rfl
theorem tg_Cut_begin : wf_tg mt_Cut_begin 2 := ⟨wl_mem 352 (by decide +kernel) rfl, wl_mem 68 (by decide +kernel) rfl, by decide +kernel, by decide +kernel, by decide⟩
theorem im_Cut_begin : Cond.instanceMethod ⟨"LineRules$CutLine", "begin", "(LLineRules$Row;I)V"⟩ ∈ wl_ALL := wl_mem 350 (by decide +kernel) rfl
theorem se_Cut_begin : Cond.selects "LineRules$CutLine" ⟨"LineRules$CutLine", "begin", "(LLineRules$Row;I)V"⟩ ⟨"LineRules$CutLine", "begin", "(LLineRules$Row;I)V"⟩ ∈ wl_ALL := wl_mem 351 (by decide +kernel) rfl
theorem tg_Cut_cut : wf_tg mt_Cut_cut 1 := ⟨wl_mem 366 (by decide +kernel) rfl, wl_mem 68 (by decide +kernel) rfl, by decide +kernel, by decide +kernel, by decide⟩
theorem im_Cut_cut : Cond.instanceMethod ⟨"LineRules$CutLine", "cut", "(I)V"⟩ ∈ wl_ALL := wl_mem 364 (by decide +kernel) rfl
theorem se_Cut_cut : Cond.selects "LineRules$CutLine" ⟨"LineRules$CutLine", "cut", "(I)V"⟩ ⟨"LineRules$CutLine", "cut", "(I)V"⟩ ∈ wl_ALL := wl_mem 365 (by decide +kernel) rfl
theorem tg_Cut_addField : wf_tg mt_Cut_addField 2 := ⟨wl_mem 370 (by decide +kernel) rfl, wl_mem 68 (by decide +kernel) rfl, by decide +kernel, by decide +kernel, by decide⟩
theorem im_Cut_addField : Cond.instanceMethod ⟨"LineRules$CutLine", "addField", "(II)V"⟩ ∈ wl_ALL := wl_mem 369 (by decide +kernel) rfl
theorem se_Cut_addField : Cond.selects "LineRules$CutLine" ⟨"LineRules$CutLine", "addField", "(II)V"⟩ ⟨"LineRules$CutLine", "addField", "(II)V"⟩ ∈ wl_ALL := wl_mem 0 (by decide +kernel) rfl
theorem tg_Cut_fieldText : wf_tg mt_Cut_fieldText 1 := ⟨wl_mem 398 (by decide +kernel) rfl, wl_mem 68 (by decide +kernel) rfl, by decide +kernel, by decide +kernel, by decide⟩
theorem im_Cut_fieldText : Cond.instanceMethod ⟨"LineRules$CutLine", "fieldText", "(I)LLineRules$Row;"⟩ ∈ wl_ALL := wl_mem 396 (by decide +kernel) rfl
theorem se_Cut_fieldText : Cond.selects "LineRules$CutLine" ⟨"LineRules$CutLine", "fieldText", "(I)LLineRules$Row;"⟩ ⟨"LineRules$CutLine", "fieldText", "(I)LLineRules$Row;"⟩ ∈ wl_ALL := wl_mem 397 (by decide +kernel) rfl
theorem tg_Cut_setField : wf_tg mt_Cut_setField 3 := ⟨wl_mem 447 (by decide +kernel) rfl, wl_mem 68 (by decide +kernel) rfl, by decide +kernel, by decide +kernel, by decide⟩
theorem im_Cut_setField : Cond.instanceMethod ⟨"LineRules$CutLine", "setField", "(ILLineRules$Row;I)V"⟩ ∈ wl_ALL := wl_mem 445 (by decide +kernel) rfl
theorem se_Cut_setField : Cond.selects "LineRules$CutLine" ⟨"LineRules$CutLine", "setField", "(ILLineRules$Row;I)V"⟩ ⟨"LineRules$CutLine", "setField", "(ILLineRules$Row;I)V"⟩ ∈ wl_ALL := wl_mem 446 (by decide +kernel) rfl
theorem tg_Cut_join : wf_tg mt_Cut_join 1 := ⟨wl_mem 452 (by decide +kernel) rfl, wl_mem 68 (by decide +kernel) rfl, by decide +kernel, by decide +kernel, by decide⟩
theorem im_Cut_join : Cond.instanceMethod ⟨"LineRules$CutLine", "join", "(I)V"⟩ ∈ wl_ALL := wl_mem 451 (by decide +kernel) rfl
theorem se_Cut_join : Cond.selects "LineRules$CutLine" ⟨"LineRules$CutLine", "join", "(I)V"⟩ ⟨"LineRules$CutLine", "join", "(I)V"⟩ ∈ wl_ALL := wl_mem 8 (by decide +kernel) rfl
theorem tg_Cut_replace : wf_tg mt_Cut_replace 3 := ⟨wl_mem 472 (by decide +kernel) rfl, wl_mem 68 (by decide +kernel) rfl, by decide +kernel, by decide +kernel, by decide⟩
theorem im_Cut_replace : Cond.instanceMethod ⟨"LineRules$CutLine", "replace", "(LLineRules$Expression;LLineRules$Row;I)V"⟩ ∈ wl_ALL := wl_mem 470 (by decide +kernel) rfl
theorem se_Cut_replace : Cond.selects "LineRules$CutLine" ⟨"LineRules$CutLine", "replace", "(LLineRules$Expression;LLineRules$Row;I)V"⟩ ⟨"LineRules$CutLine", "replace", "(LLineRules$Expression;LLineRules$Row;I)V"⟩ ∈ wl_ALL := wl_mem 471 (by decide +kernel) rfl
theorem tg_Cut_matchBehind : wf_tg mt_Cut_matchBehind 2 := ⟨wl_mem 478 (by decide +kernel) rfl, wl_mem 68 (by decide +kernel) rfl, by decide +kernel, by decide +kernel, by decide⟩
theorem im_Cut_matchBehind : Cond.instanceMethod ⟨"LineRules$CutLine", "matchBehind", "(LLineRules$Expression;I)I"⟩ ∈ wl_ALL := wl_mem 477 (by decide +kernel) rfl
theorem se_Cut_matchBehind : Cond.selects "LineRules$CutLine" ⟨"LineRules$CutLine", "matchBehind", "(LLineRules$Expression;I)I"⟩ ⟨"LineRules$CutLine", "matchBehind", "(LLineRules$Expression;I)I"⟩ ∈ wl_ALL := wl_mem 9 (by decide +kernel) rfl
theorem tg_Exp_init : wf_tg mt_Exp_init 0 := ⟨wl_mem 128 (by decide +kernel) rfl, wl_mem 67 (by decide +kernel) rfl, by decide +kernel, by decide +kernel, by decide⟩
theorem im_Exp_init : Cond.instanceMethod ⟨"LineRules$Expression", "<init>", "()V"⟩ ∈ wl_ALL := wl_mem 127 (by decide +kernel) rfl
theorem tg_Exp_drop : wf_tg mt_Exp_drop 0 := ⟨wl_mem 609 (by decide +kernel) rfl, wl_mem 67 (by decide +kernel) rfl, by decide +kernel, by decide +kernel, by decide⟩
theorem im_Exp_drop : Cond.instanceMethod ⟨"LineRules$Expression", "drop", "()V"⟩ ∈ wl_ALL := wl_mem 607 (by decide +kernel) rfl
theorem se_Exp_drop : Cond.selects "LineRules$Expression" ⟨"LineRules$Expression", "drop", "()V"⟩ ⟨"LineRules$Expression", "drop", "()V"⟩ ∈ wl_ALL := wl_mem 608 (by decide +kernel) rfl
theorem tg_Exp_firstFrom : wf_tg mt_Exp_firstFrom 2 := ⟨wl_mem 383 (by decide +kernel) rfl, wl_mem 67 (by decide +kernel) rfl, by decide +kernel, by decide +kernel, by decide⟩
theorem im_Exp_firstFrom : Cond.instanceMethod ⟨"LineRules$Expression", "firstFrom", "(LLineRules$Row;I)I"⟩ ∈ wl_ALL := wl_mem 381 (by decide +kernel) rfl
theorem se_Exp_firstFrom : Cond.selects "LineRules$Expression" ⟨"LineRules$Expression", "firstFrom", "(LLineRules$Row;I)I"⟩ ⟨"LineRules$Expression", "firstFrom", "(LLineRules$Row;I)I"⟩ ∈ wl_ALL := wl_mem 382 (by decide +kernel) rfl
theorem tg_Exp_longestFrom : wf_tg mt_Exp_longestFrom 2 := ⟨wl_mem 387 (by decide +kernel) rfl, wl_mem 67 (by decide +kernel) rfl, by decide +kernel, by decide +kernel, by decide⟩
theorem im_Exp_longestFrom : Cond.instanceMethod ⟨"LineRules$Expression", "longestFrom", "(LLineRules$Row;I)I"⟩ ∈ wl_ALL := wl_mem 385 (by decide +kernel) rfl
theorem se_Exp_longestFrom : Cond.selects "LineRules$Expression" ⟨"LineRules$Expression", "longestFrom", "(LLineRules$Row;I)I"⟩ ⟨"LineRules$Expression", "longestFrom", "(LLineRules$Row;I)I"⟩ ∈ wl_ALL := wl_mem 386 (by decide +kernel) rfl
theorem tg_Exp_kindOf : wf_tg mt_Exp_kindOf 2 := ⟨wl_mem 390 (by decide +kernel) rfl, wl_mem 67 (by decide +kernel) rfl, by decide +kernel, by decide +kernel, by decide⟩
theorem sm_Exp_kindOf : Cond.static ⟨"LineRules$Expression", "kindOf", "(II)I"⟩ ∈ wl_ALL := wl_mem 389 (by decide +kernel) rfl
theorem tg_Exp_followersOf : wf_tg mt_Exp_followersOf 1 := ⟨wl_mem 394 (by decide +kernel) rfl, wl_mem 67 (by decide +kernel) rfl, by decide +kernel, by decide +kernel, by decide⟩
theorem im_Exp_followersOf : Cond.instanceMethod ⟨"LineRules$Expression", "followersOf", "(J)J"⟩ ∈ wl_ALL := wl_mem 393 (by decide +kernel) rfl
theorem se_Exp_followersOf : Cond.selects "LineRules$Expression" ⟨"LineRules$Expression", "followersOf", "(J)J"⟩ ⟨"LineRules$Expression", "followersOf", "(J)J"⟩ ∈ wl_ALL := wl_mem 2 (by decide +kernel) rfl
theorem tg_Out_init : wf_tg mt_Out_init 0 := ⟨wl_mem 245 (by decide +kernel) rfl, wl_mem 70 (by decide +kernel) rfl, by decide +kernel, by decide +kernel, by decide⟩
theorem im_Out_init : Cond.instanceMethod ⟨"LineRules$Output", "<init>", "()V"⟩ ∈ wl_ALL := wl_mem 244 (by decide +kernel) rfl
theorem tg_Out_print : wf_tg mt_Out_print 1 := ⟨wl_mem 414 (by decide +kernel) rfl, wl_mem 70 (by decide +kernel) rfl, by decide +kernel, by decide +kernel, by decide⟩
theorem im_Out_print : Cond.instanceMethod ⟨"LineRules$Output", "print", "(LLineRules$Row;)V"⟩ ∈ wl_ALL := wl_mem 412 (by decide +kernel) rfl
theorem se_Out_print : Cond.selects "LineRules$Output" ⟨"LineRules$Output", "print", "(LLineRules$Row;)V"⟩ ⟨"LineRules$Output", "print", "(LLineRules$Row;)V"⟩ ∈ wl_ALL := wl_mem 413 (by decide +kernel) rfl
theorem tg_Out_printPart : wf_tg mt_Out_printPart 3 := ⟨wl_mem 418 (by decide +kernel) rfl, wl_mem 70 (by decide +kernel) rfl, by decide +kernel, by decide +kernel, by decide⟩
theorem im_Out_printPart : Cond.instanceMethod ⟨"LineRules$Output", "printPart", "(LLineRules$Row;II)V"⟩ ∈ wl_ALL := wl_mem 416 (by decide +kernel) rfl
theorem se_Out_printPart : Cond.selects "LineRules$Output" ⟨"LineRules$Output", "printPart", "(LLineRules$Row;II)V"⟩ ⟨"LineRules$Output", "printPart", "(LLineRules$Row;II)V"⟩ ∈ wl_ALL := wl_mem 417 (by decide +kernel) rfl
theorem tg_Out_add : wf_tg mt_Out_add 1 := ⟨wl_mem 422 (by decide +kernel) rfl, wl_mem 70 (by decide +kernel) rfl, by decide +kernel, by decide +kernel, by decide⟩
theorem im_Out_add : Cond.instanceMethod ⟨"LineRules$Output", "add", "(I)V"⟩ ∈ wl_ALL := wl_mem 421 (by decide +kernel) rfl
theorem se_Out_add : Cond.selects "LineRules$Output" ⟨"LineRules$Output", "add", "(I)V"⟩ ⟨"LineRules$Output", "add", "(I)V"⟩ ∈ wl_ALL := wl_mem 5 (by decide +kernel) rfl
theorem tg_Out_has : wf_tg mt_Out_has 1 := ⟨wl_mem 821 (by decide +kernel) rfl, wl_mem 70 (by decide +kernel) rfl, by decide +kernel, by decide +kernel, by decide⟩
theorem im_Out_has : Cond.instanceMethod ⟨"LineRules$Output", "has", "(I)Z"⟩ ∈ wl_ALL := wl_mem 819 (by decide +kernel) rfl
theorem se_Out_has : Cond.selects "LineRules$Output" ⟨"LineRules$Output", "has", "(I)Z"⟩ ⟨"LineRules$Output", "has", "(I)Z"⟩ ∈ wl_ALL := wl_mem 820 (by decide +kernel) rfl
theorem tg_Out_signAt : wf_tg mt_Out_signAt 1 := ⟨wl_mem 826 (by decide +kernel) rfl, wl_mem 70 (by decide +kernel) rfl, by decide +kernel, by decide +kernel, by decide⟩
theorem im_Out_signAt : Cond.instanceMethod ⟨"LineRules$Output", "signAt", "(I)I"⟩ ∈ wl_ALL := wl_mem 824 (by decide +kernel) rfl
theorem se_Out_signAt : Cond.selects "LineRules$Output" ⟨"LineRules$Output", "signAt", "(I)I"⟩ ⟨"LineRules$Output", "signAt", "(I)I"⟩ ∈ wl_ALL := wl_mem 825 (by decide +kernel) rfl
theorem tg_Rdr_init : wf_tg mt_Rdr_init 0 := ⟨wl_mem 122 (by decide +kernel) rfl, wl_mem 66 (by decide +kernel) rfl, by decide +kernel, by decide +kernel, by decide⟩
theorem im_Rdr_init : Cond.instanceMethod ⟨"LineRules$Reader", "<init>", "()V"⟩ ∈ wl_ALL := wl_mem 121 (by decide +kernel) rfl
theorem tg_Rdr_read : wf_tg mt_Rdr_read 1 := ⟨wl_mem 605 (by decide +kernel) rfl, wl_mem 66 (by decide +kernel) rfl, by decide +kernel, by decide +kernel, by decide⟩
theorem im_Rdr_read : Cond.instanceMethod ⟨"LineRules$Reader", "read", "(LLineRules$Row;)I"⟩ ∈ wl_ALL := wl_mem 603 (by decide +kernel) rfl
theorem se_Rdr_read : Cond.selects "LineRules$Reader" ⟨"LineRules$Reader", "read", "(LLineRules$Row;)I"⟩ ⟨"LineRules$Reader", "read", "(LLineRules$Row;)I"⟩ ∈ wl_ALL := wl_mem 604 (by decide +kernel) rfl
theorem tg_Rdr_exchange : wf_tg mt_Rdr_exchange 1 := ⟨wl_mem 709 (by decide +kernel) rfl, wl_mem 66 (by decide +kernel) rfl, by decide +kernel, by decide +kernel, by decide⟩
theorem im_Rdr_exchange : Cond.instanceMethod ⟨"LineRules$Reader", "exchange", "(LLineRules$Expression;)LLineRules$Expression;"⟩ ∈ wl_ALL := wl_mem 707 (by decide +kernel) rfl
theorem se_Rdr_exchange : Cond.selects "LineRules$Reader" ⟨"LineRules$Reader", "exchange", "(LLineRules$Expression;)LLineRules$Expression;"⟩ ⟨"LineRules$Reader", "exchange", "(LLineRules$Expression;)LLineRules$Expression;"⟩ ∈ wl_ALL := wl_mem 708 (by decide +kernel) rfl
theorem tg_Rdr_alternation : wf_tg mt_Rdr_alternation 1 := ⟨wl_mem 616 (by decide +kernel) rfl, wl_mem 66 (by decide +kernel) rfl, by decide +kernel, by decide +kernel, by decide⟩
theorem im_Rdr_alternation : Cond.instanceMethod ⟨"LineRules$Reader", "alternation", "(I)I"⟩ ∈ wl_ALL := wl_mem 615 (by decide +kernel) rfl
theorem se_Rdr_alternation : Cond.selects "LineRules$Reader" ⟨"LineRules$Reader", "alternation", "(I)I"⟩ ⟨"LineRules$Reader", "alternation", "(I)I"⟩ ∈ wl_ALL := wl_mem 13 (by decide +kernel) rfl
theorem tg_Rdr_sequence : wf_tg mt_Rdr_sequence 1 := ⟨wl_mem 620 (by decide +kernel) rfl, wl_mem 66 (by decide +kernel) rfl, by decide +kernel, by decide +kernel, by decide⟩
theorem im_Rdr_sequence : Cond.instanceMethod ⟨"LineRules$Reader", "sequence", "(I)I"⟩ ∈ wl_ALL := wl_mem 619 (by decide +kernel) rfl
theorem se_Rdr_sequence : Cond.selects "LineRules$Reader" ⟨"LineRules$Reader", "sequence", "(I)I"⟩ ⟨"LineRules$Reader", "sequence", "(I)I"⟩ ∈ wl_ALL := wl_mem 14 (by decide +kernel) rfl
theorem tg_Rdr_repeated : wf_tg mt_Rdr_repeated 1 := ⟨wl_mem 682 (by decide +kernel) rfl, wl_mem 66 (by decide +kernel) rfl, by decide +kernel, by decide +kernel, by decide⟩
theorem im_Rdr_repeated : Cond.instanceMethod ⟨"LineRules$Reader", "repeated", "(I)I"⟩ ∈ wl_ALL := wl_mem 681 (by decide +kernel) rfl
theorem se_Rdr_repeated : Cond.selects "LineRules$Reader" ⟨"LineRules$Reader", "repeated", "(I)I"⟩ ⟨"LineRules$Reader", "repeated", "(I)I"⟩ ∈ wl_ALL := wl_mem 28 (by decide +kernel) rfl
theorem tg_Rdr_isRepeat : wf_tg mt_Rdr_isRepeat 1 := ⟨wl_mem 639 (by decide +kernel) rfl, wl_mem 66 (by decide +kernel) rfl, by decide +kernel, by decide +kernel, by decide⟩
theorem sm_Rdr_isRepeat : Cond.static ⟨"LineRules$Reader", "isRepeat", "(I)Z"⟩ ∈ wl_ALL := wl_mem 638 (by decide +kernel) rfl
theorem tg_Rdr_repeatKind : wf_tg mt_Rdr_repeatKind 1 := ⟨wl_mem 685 (by decide +kernel) rfl, wl_mem 66 (by decide +kernel) rfl, by decide +kernel, by decide +kernel, by decide⟩
theorem sm_Rdr_repeatKind : Cond.static ⟨"LineRules$Reader", "repeatKind", "(I)I"⟩ ∈ wl_ALL := wl_mem 684 (by decide +kernel) rfl
theorem tg_Rdr_atom : wf_tg mt_Rdr_atom 1 := ⟨wl_mem 636 (by decide +kernel) rfl, wl_mem 66 (by decide +kernel) rfl, by decide +kernel, by decide +kernel, by decide⟩
theorem im_Rdr_atom : Cond.instanceMethod ⟨"LineRules$Reader", "atom", "(I)I"⟩ ∈ wl_ALL := wl_mem 635 (by decide +kernel) rfl
theorem se_Rdr_atom : Cond.selects "LineRules$Reader" ⟨"LineRules$Reader", "atom", "(I)I"⟩ ⟨"LineRules$Reader", "atom", "(I)I"⟩ ∈ wl_ALL := wl_mem 18 (by decide +kernel) rfl
theorem tg_Rdr_group : wf_tg mt_Rdr_group 1 := ⟨wl_mem 678 (by decide +kernel) rfl, wl_mem 66 (by decide +kernel) rfl, by decide +kernel, by decide +kernel, by decide⟩
theorem im_Rdr_group : Cond.instanceMethod ⟨"LineRules$Reader", "group", "(I)I"⟩ ∈ wl_ALL := wl_mem 677 (by decide +kernel) rfl
theorem se_Rdr_group : Cond.selects "LineRules$Reader" ⟨"LineRules$Reader", "group", "(I)I"⟩ ⟨"LineRules$Reader", "group", "(I)I"⟩ ∈ wl_ALL := wl_mem 27 (by decide +kernel) rfl
theorem tg_Rdr_escaped : wf_tg mt_Rdr_escaped 0 := ⟨wl_mem 655 (by decide +kernel) rfl, wl_mem 66 (by decide +kernel) rfl, by decide +kernel, by decide +kernel, by decide⟩
theorem im_Rdr_escaped : Cond.instanceMethod ⟨"LineRules$Reader", "escaped", "()I"⟩ ∈ wl_ALL := wl_mem 654 (by decide +kernel) rfl
theorem se_Rdr_escaped : Cond.selects "LineRules$Reader" ⟨"LineRules$Reader", "escaped", "()I"⟩ ⟨"LineRules$Reader", "escaped", "()I"⟩ ∈ wl_ALL := wl_mem 22 (by decide +kernel) rfl
theorem tg_Rdr_one : wf_tg mt_Rdr_one 1 := ⟨wl_mem 659 (by decide +kernel) rfl, wl_mem 66 (by decide +kernel) rfl, by decide +kernel, by decide +kernel, by decide⟩
theorem im_Rdr_one : Cond.instanceMethod ⟨"LineRules$Reader", "one", "(I)I"⟩ ∈ wl_ALL := wl_mem 658 (by decide +kernel) rfl
theorem se_Rdr_one : Cond.selects "LineRules$Reader" ⟨"LineRules$Reader", "one", "(I)I"⟩ ⟨"LineRules$Reader", "one", "(I)I"⟩ ∈ wl_ALL := wl_mem 23 (by decide +kernel) rfl
theorem tg_Rdr_anySign : wf_tg mt_Rdr_anySign 0 := ⟨wl_mem 643 (by decide +kernel) rfl, wl_mem 66 (by decide +kernel) rfl, by decide +kernel, by decide +kernel, by decide⟩
theorem im_Rdr_anySign : Cond.instanceMethod ⟨"LineRules$Reader", "anySign", "()I"⟩ ∈ wl_ALL := wl_mem 642 (by decide +kernel) rfl
theorem se_Rdr_anySign : Cond.selects "LineRules$Reader" ⟨"LineRules$Reader", "anySign", "()I"⟩ ⟨"LineRules$Reader", "anySign", "()I"⟩ ∈ wl_ALL := wl_mem 19 (by decide +kernel) rfl
theorem tg_Rdr_items : wf_tg mt_Rdr_items 0 := ⟨wl_mem 663 (by decide +kernel) rfl, wl_mem 66 (by decide +kernel) rfl, by decide +kernel, by decide +kernel, by decide⟩
theorem im_Rdr_items : Cond.instanceMethod ⟨"LineRules$Reader", "items", "()I"⟩ ∈ wl_ALL := wl_mem 662 (by decide +kernel) rfl
theorem se_Rdr_items : Cond.selects "LineRules$Reader" ⟨"LineRules$Reader", "items", "()I"⟩ ⟨"LineRules$Reader", "items", "()I"⟩ ∈ wl_ALL := wl_mem 24 (by decide +kernel) rfl
theorem tg_Rdr_item : wf_tg mt_Rdr_item 1 := ⟨wl_mem 667 (by decide +kernel) rfl, wl_mem 66 (by decide +kernel) rfl, by decide +kernel, by decide +kernel, by decide⟩
theorem im_Rdr_item : Cond.instanceMethod ⟨"LineRules$Reader", "item", "(J)V"⟩ ∈ wl_ALL := wl_mem 666 (by decide +kernel) rfl
theorem se_Rdr_item : Cond.selects "LineRules$Reader" ⟨"LineRules$Reader", "item", "(J)V"⟩ ⟨"LineRules$Reader", "item", "(J)V"⟩ ∈ wl_ALL := wl_mem 25 (by decide +kernel) rfl
theorem tg_Rdr_isItemSign : wf_tg mt_Rdr_isItemSign 1 := ⟨wl_mem 670 (by decide +kernel) rfl, wl_mem 66 (by decide +kernel) rfl, by decide +kernel, by decide +kernel, by decide⟩
theorem sm_Rdr_isItemSign : Cond.static ⟨"LineRules$Reader", "isItemSign", "(I)Z"⟩ ∈ wl_ALL := wl_mem 669 (by decide +kernel) rfl
theorem tg_Rdr_next : wf_tg mt_Rdr_next 0 := ⟨wl_mem 632 (by decide +kernel) rfl, wl_mem 66 (by decide +kernel) rfl, by decide +kernel, by decide +kernel, by decide⟩
theorem im_Rdr_next : Cond.instanceMethod ⟨"LineRules$Reader", "next", "()I"⟩ ∈ wl_ALL := wl_mem 631 (by decide +kernel) rfl
theorem se_Rdr_next : Cond.selects "LineRules$Reader" ⟨"LineRules$Reader", "next", "()I"⟩ ⟨"LineRules$Reader", "next", "()I"⟩ ∈ wl_ALL := wl_mem 17 (by decide +kernel) rfl
theorem tg_Rdr_refuse : wf_tg mt_Rdr_refuse 0 := ⟨wl_mem 628 (by decide +kernel) rfl, wl_mem 66 (by decide +kernel) rfl, by decide +kernel, by decide +kernel, by decide⟩
theorem im_Rdr_refuse : Cond.instanceMethod ⟨"LineRules$Reader", "refuse", "()I"⟩ ∈ wl_ALL := wl_mem 627 (by decide +kernel) rfl
theorem se_Rdr_refuse : Cond.selects "LineRules$Reader" ⟨"LineRules$Reader", "refuse", "()I"⟩ ⟨"LineRules$Reader", "refuse", "()I"⟩ ∈ wl_ALL := wl_mem 16 (by decide +kernel) rfl
theorem tg_Rdr_newAtom : wf_tg mt_Rdr_newAtom 0 := ⟨wl_mem 647 (by decide +kernel) rfl, wl_mem 66 (by decide +kernel) rfl, by decide +kernel, by decide +kernel, by decide⟩
theorem im_Rdr_newAtom : Cond.instanceMethod ⟨"LineRules$Reader", "newAtom", "()J"⟩ ∈ wl_ALL := wl_mem 646 (by decide +kernel) rfl
theorem se_Rdr_newAtom : Cond.selects "LineRules$Reader" ⟨"LineRules$Reader", "newAtom", "()J"⟩ ⟨"LineRules$Reader", "newAtom", "()J"⟩ ∈ wl_ALL := wl_mem 20 (by decide +kernel) rfl
theorem tg_Rdr_take : wf_tg mt_Rdr_take 3 := ⟨wl_mem 651 (by decide +kernel) rfl, wl_mem 66 (by decide +kernel) rfl, by decide +kernel, by decide +kernel, by decide⟩
theorem im_Rdr_take : Cond.instanceMethod ⟨"LineRules$Reader", "take", "(JII)V"⟩ ∈ wl_ALL := wl_mem 650 (by decide +kernel) rfl
theorem se_Rdr_take : Cond.selects "LineRules$Reader" ⟨"LineRules$Reader", "take", "(JII)V"⟩ ⟨"LineRules$Reader", "take", "(JII)V"⟩ ∈ wl_ALL := wl_mem 21 (by decide +kernel) rfl
theorem tg_Rdr_takeOthers : wf_tg mt_Rdr_takeOthers 1 := ⟨wl_mem 674 (by decide +kernel) rfl, wl_mem 66 (by decide +kernel) rfl, by decide +kernel, by decide +kernel, by decide⟩
theorem im_Rdr_takeOthers : Cond.instanceMethod ⟨"LineRules$Reader", "takeOthers", "(J)V"⟩ ∈ wl_ALL := wl_mem 673 (by decide +kernel) rfl
theorem se_Rdr_takeOthers : Cond.selects "LineRules$Reader" ⟨"LineRules$Reader", "takeOthers", "(J)V"⟩ ⟨"LineRules$Reader", "takeOthers", "(J)V"⟩ ∈ wl_ALL := wl_mem 26 (by decide +kernel) rfl
theorem tg_Rdr_node : wf_tg mt_Rdr_node 3 := ⟨wl_mem 624 (by decide +kernel) rfl, wl_mem 66 (by decide +kernel) rfl, by decide +kernel, by decide +kernel, by decide⟩
theorem im_Rdr_node : Cond.instanceMethod ⟨"LineRules$Reader", "node", "(III)I"⟩ ∈ wl_ALL := wl_mem 623 (by decide +kernel) rfl
theorem se_Rdr_node : Cond.selects "LineRules$Reader" ⟨"LineRules$Reader", "node", "(III)I"⟩ ⟨"LineRules$Reader", "node", "(III)I"⟩ ∈ wl_ALL := wl_mem 15 (by decide +kernel) rfl
theorem tg_Rdr_weighAll : wf_tg mt_Rdr_weighAll 1 := ⟨wl_mem 689 (by decide +kernel) rfl, wl_mem 66 (by decide +kernel) rfl, by decide +kernel, by decide +kernel, by decide⟩
theorem im_Rdr_weighAll : Cond.instanceMethod ⟨"LineRules$Reader", "weighAll", "(I)V"⟩ ∈ wl_ALL := wl_mem 688 (by decide +kernel) rfl
theorem se_Rdr_weighAll : Cond.selects "LineRules$Reader" ⟨"LineRules$Reader", "weighAll", "(I)V"⟩ ⟨"LineRules$Reader", "weighAll", "(I)V"⟩ ∈ wl_ALL := wl_mem 29 (by decide +kernel) rfl
theorem tg_Rdr_weigh : wf_tg mt_Rdr_weigh 2 := ⟨wl_mem 693 (by decide +kernel) rfl, wl_mem 66 (by decide +kernel) rfl, by decide +kernel, by decide +kernel, by decide⟩
theorem im_Rdr_weigh : Cond.instanceMethod ⟨"LineRules$Reader", "weigh", "(II)V"⟩ ∈ wl_ALL := wl_mem 692 (by decide +kernel) rfl
theorem se_Rdr_weigh : Cond.selects "LineRules$Reader" ⟨"LineRules$Reader", "weigh", "(II)V"⟩ ⟨"LineRules$Reader", "weigh", "(II)V"⟩ ∈ wl_ALL := wl_mem 30 (by decide +kernel) rfl
theorem tg_Rdr_set : wf_tg mt_Rdr_set 4 := ⟨wl_mem 697 (by decide +kernel) rfl, wl_mem 66 (by decide +kernel) rfl, by decide +kernel, by decide +kernel, by decide⟩
theorem im_Rdr_set : Cond.instanceMethod ⟨"LineRules$Reader", "set", "(IZJJ)V"⟩ ∈ wl_ALL := wl_mem 696 (by decide +kernel) rfl
theorem se_Rdr_set : Cond.selects "LineRules$Reader" ⟨"LineRules$Reader", "set", "(IZJJ)V"⟩ ⟨"LineRules$Reader", "set", "(IZJJ)V"⟩ ∈ wl_ALL := wl_mem 31 (by decide +kernel) rfl
theorem tg_Rdr_link : wf_tg mt_Rdr_link 1 := ⟨wl_mem 701 (by decide +kernel) rfl, wl_mem 66 (by decide +kernel) rfl, by decide +kernel, by decide +kernel, by decide⟩
theorem im_Rdr_link : Cond.instanceMethod ⟨"LineRules$Reader", "link", "(I)V"⟩ ∈ wl_ALL := wl_mem 700 (by decide +kernel) rfl
theorem se_Rdr_link : Cond.selects "LineRules$Reader" ⟨"LineRules$Reader", "link", "(I)V"⟩ ⟨"LineRules$Reader", "link", "(I)V"⟩ ∈ wl_ALL := wl_mem 32 (by decide +kernel) rfl
theorem tg_Rdr_follow : wf_tg mt_Rdr_follow 2 := ⟨wl_mem 705 (by decide +kernel) rfl, wl_mem 66 (by decide +kernel) rfl, by decide +kernel, by decide +kernel, by decide⟩
theorem im_Rdr_follow : Cond.instanceMethod ⟨"LineRules$Reader", "follow", "(JJ)V"⟩ ∈ wl_ALL := wl_mem 704 (by decide +kernel) rfl
theorem se_Rdr_follow : Cond.selects "LineRules$Reader" ⟨"LineRules$Reader", "follow", "(JJ)V"⟩ ⟨"LineRules$Reader", "follow", "(JJ)V"⟩ ∈ wl_ALL := wl_mem 33 (by decide +kernel) rfl
theorem tg_Row_init : wf_tg mt_Row_init 1 := ⟨wl_mem 94 (by decide +kernel) rfl, wl_mem 65 (by decide +kernel) rfl, by decide +kernel, by decide +kernel, by decide⟩
theorem im_Row_init : Cond.instanceMethod ⟨"LineRules$Row", "<init>", "(I)V"⟩ ∈ wl_ALL := wl_mem 93 (by decide +kernel) rfl
theorem tg_Row_drop : wf_tg mt_Row_drop 0 := ⟨wl_mem 340 (by decide +kernel) rfl, wl_mem 65 (by decide +kernel) rfl, by decide +kernel, by decide +kernel, by decide⟩
theorem im_Row_drop : Cond.instanceMethod ⟨"LineRules$Row", "drop", "()V"⟩ ∈ wl_ALL := wl_mem 338 (by decide +kernel) rfl
theorem se_Row_drop : Cond.selects "LineRules$Row" ⟨"LineRules$Row", "drop", "()V"⟩ ⟨"LineRules$Row", "drop", "()V"⟩ ∈ wl_ALL := wl_mem 339 (by decide +kernel) rfl
theorem tg_Row_has : wf_tg mt_Row_has 1 := ⟨wl_mem 809 (by decide +kernel) rfl, wl_mem 65 (by decide +kernel) rfl, by decide +kernel, by decide +kernel, by decide⟩
theorem im_Row_has : Cond.instanceMethod ⟨"LineRules$Row", "has", "(I)Z"⟩ ∈ wl_ALL := wl_mem 807 (by decide +kernel) rfl
theorem se_Row_has : Cond.selects "LineRules$Row" ⟨"LineRules$Row", "has", "(I)Z"⟩ ⟨"LineRules$Row", "has", "(I)Z"⟩ ∈ wl_ALL := wl_mem 808 (by decide +kernel) rfl
theorem tg_Row_add : wf_tg mt_Row_add 1 := ⟨wl_mem 456 (by decide +kernel) rfl, wl_mem 65 (by decide +kernel) rfl, by decide +kernel, by decide +kernel, by decide⟩
theorem im_Row_add : Cond.instanceMethod ⟨"LineRules$Row", "add", "(I)V"⟩ ∈ wl_ALL := wl_mem 454 (by decide +kernel) rfl
theorem se_Row_add : Cond.selects "LineRules$Row" ⟨"LineRules$Row", "add", "(I)V"⟩ ⟨"LineRules$Row", "add", "(I)V"⟩ ∈ wl_ALL := wl_mem 455 (by decide +kernel) rfl
theorem tg_Row_addPart : wf_tg mt_Row_addPart 3 := ⟨wl_mem 375 (by decide +kernel) rfl, wl_mem 65 (by decide +kernel) rfl, by decide +kernel, by decide +kernel, by decide⟩
theorem im_Row_addPart : Cond.instanceMethod ⟨"LineRules$Row", "addPart", "(LLineRules$Row;II)V"⟩ ∈ wl_ALL := wl_mem 373 (by decide +kernel) rfl
theorem se_Row_addPart : Cond.selects "LineRules$Row" ⟨"LineRules$Row", "addPart", "(LLineRules$Row;II)V"⟩ ⟨"LineRules$Row", "addPart", "(LLineRules$Row;II)V"⟩ ∈ wl_ALL := wl_mem 374 (by decide +kernel) rfl
theorem tg_Row_addAll : wf_tg mt_Row_addAll 1 := ⟨wl_mem 460 (by decide +kernel) rfl, wl_mem 65 (by decide +kernel) rfl, by decide +kernel, by decide +kernel, by decide⟩
theorem im_Row_addAll : Cond.instanceMethod ⟨"LineRules$Row", "addAll", "(LLineRules$Row;)V"⟩ ∈ wl_ALL := wl_mem 458 (by decide +kernel) rfl
theorem se_Row_addAll : Cond.selects "LineRules$Row" ⟨"LineRules$Row", "addAll", "(LLineRules$Row;)V"⟩ ⟨"LineRules$Row", "addAll", "(LLineRules$Row;)V"⟩ ∈ wl_ALL := wl_mem 459 (by decide +kernel) rfl
theorem tg_Row_become : wf_tg mt_Row_become 1 := ⟨wl_mem 356 (by decide +kernel) rfl, wl_mem 65 (by decide +kernel) rfl, by decide +kernel, by decide +kernel, by decide⟩
theorem im_Row_become : Cond.instanceMethod ⟨"LineRules$Row", "become", "(LLineRules$Row;)V"⟩ ∈ wl_ALL := wl_mem 354 (by decide +kernel) rfl
theorem se_Row_become : Cond.selects "LineRules$Row" ⟨"LineRules$Row", "become", "(LLineRules$Row;)V"⟩ ⟨"LineRules$Row", "become", "(LLineRules$Row;)V"⟩ ∈ wl_ALL := wl_mem 355 (by decide +kernel) rfl
theorem tg_Row_becomeNumber : wf_tg mt_Row_becomeNumber 1 := ⟨wl_mem 465 (by decide +kernel) rfl, wl_mem 65 (by decide +kernel) rfl, by decide +kernel, by decide +kernel, by decide⟩
theorem im_Row_becomeNumber : Cond.instanceMethod ⟨"LineRules$Row", "becomeNumber", "(I)V"⟩ ∈ wl_ALL := wl_mem 463 (by decide +kernel) rfl
theorem se_Row_becomeNumber : Cond.selects "LineRules$Row" ⟨"LineRules$Row", "becomeNumber", "(I)V"⟩ ⟨"LineRules$Row", "becomeNumber", "(I)V"⟩ ∈ wl_ALL := wl_mem 464 (by decide +kernel) rfl
theorem tg_Row_toNumber : wf_tg mt_Row_toNumber 0 := ⟨wl_mem 402 (by decide +kernel) rfl, wl_mem 65 (by decide +kernel) rfl, by decide +kernel, by decide +kernel, by decide⟩
theorem im_Row_toNumber : Cond.instanceMethod ⟨"LineRules$Row", "toNumber", "()I"⟩ ∈ wl_ALL := wl_mem 400 (by decide +kernel) rfl
theorem se_Row_toNumber : Cond.selects "LineRules$Row" ⟨"LineRules$Row", "toNumber", "()I"⟩ ⟨"LineRules$Row", "toNumber", "()I"⟩ ∈ wl_ALL := wl_mem 401 (by decide +kernel) rfl
theorem tg_Row_compareWith : wf_tg mt_Row_compareWith 1 := ⟨wl_mem 437 (by decide +kernel) rfl, wl_mem 65 (by decide +kernel) rfl, by decide +kernel, by decide +kernel, by decide⟩
theorem im_Row_compareWith : Cond.instanceMethod ⟨"LineRules$Row", "compareWith", "(LLineRules$Row;)I"⟩ ∈ wl_ALL := wl_mem 435 (by decide +kernel) rfl
theorem se_Row_compareWith : Cond.selects "LineRules$Row" ⟨"LineRules$Row", "compareWith", "(LLineRules$Row;)I"⟩ ⟨"LineRules$Row", "compareWith", "(LLineRules$Row;)I"⟩ ∈ wl_ALL := wl_mem 436 (by decide +kernel) rfl
theorem tg_Rul_init : wf_tg mt_Rul_init 0 := ⟨wl_mem 259 (by decide +kernel) rfl, wl_mem 71 (by decide +kernel) rfl, by decide +kernel, by decide +kernel, by decide⟩
theorem im_Rul_init : Cond.instanceMethod ⟨"LineRules$Rule", "<init>", "()V"⟩ ∈ wl_ALL := wl_mem 258 (by decide +kernel) rfl
theorem tg_Rul_begin : wf_tg mt_Rul_begin 3 := ⟨wl_mem 765 (by decide +kernel) rfl, wl_mem 71 (by decide +kernel) rfl, by decide +kernel, by decide +kernel, by decide⟩
theorem im_Rul_begin : Cond.instanceMethod ⟨"LineRules$Rule", "begin", "(III)V"⟩ ∈ wl_ALL := wl_mem 763 (by decide +kernel) rfl
theorem se_Rul_begin : Cond.selects "LineRules$Rule" ⟨"LineRules$Rule", "begin", "(III)V"⟩ ⟨"LineRules$Rule", "begin", "(III)V"⟩ ∈ wl_ALL := wl_mem 764 (by decide +kernel) rfl
theorem tg_Rul_isFull : wf_tg mt_Rul_isFull 0 := ⟨wl_mem 783 (by decide +kernel) rfl, wl_mem 71 (by decide +kernel) rfl, by decide +kernel, by decide +kernel, by decide⟩
theorem im_Rul_isFull : Cond.instanceMethod ⟨"LineRules$Rule", "isFull", "()Z"⟩ ∈ wl_ALL := wl_mem 781 (by decide +kernel) rfl
theorem se_Rul_isFull : Cond.selects "LineRules$Rule" ⟨"LineRules$Rule", "isFull", "()Z"⟩ ⟨"LineRules$Rule", "isFull", "()Z"⟩ ∈ wl_ALL := wl_mem 782 (by decide +kernel) rfl
theorem tg_Rul_add : wf_tg mt_Rul_add 3 := ⟨wl_mem 788 (by decide +kernel) rfl, wl_mem 71 (by decide +kernel) rfl, by decide +kernel, by decide +kernel, by decide⟩
theorem im_Rul_add : Cond.instanceMethod ⟨"LineRules$Rule", "add", "(III)I"⟩ ∈ wl_ALL := wl_mem 786 (by decide +kernel) rfl
theorem se_Rul_add : Cond.selects "LineRules$Rule" ⟨"LineRules$Rule", "add", "(III)I"⟩ ⟨"LineRules$Rule", "add", "(III)I"⟩ ∈ wl_ALL := wl_mem 787 (by decide +kernel) rfl
theorem tg_Tab_init : wf_tg mt_Tab_init 0 := ⟨wl_mem 225 (by decide +kernel) rfl, wl_mem 69 (by decide +kernel) rfl, by decide +kernel, by decide +kernel, by decide⟩
theorem im_Tab_init : Cond.instanceMethod ⟨"LineRules$Table", "<init>", "()V"⟩ ∈ wl_ALL := wl_mem 224 (by decide +kernel) rfl
theorem tg_Tab_grow : wf_tg mt_Tab_grow 2 := ⟨wl_mem 429 (by decide +kernel) rfl, wl_mem 69 (by decide +kernel) rfl, by decide +kernel, by decide +kernel, by decide⟩
theorem im_Tab_grow : Cond.instanceMethod ⟨"LineRules$Table", "grow", "(LLineRules$Row;I)V"⟩ ∈ wl_ALL := wl_mem 427 (by decide +kernel) rfl
theorem se_Tab_grow : Cond.selects "LineRules$Table" ⟨"LineRules$Table", "grow", "(LLineRules$Row;I)V"⟩ ⟨"LineRules$Table", "grow", "(LLineRules$Row;I)V"⟩ ∈ wl_ALL := wl_mem 428 (by decide +kernel) rfl
theorem tg_Tab_placeOf : wf_tg mt_Tab_placeOf 1 := ⟨wl_mem 433 (by decide +kernel) rfl, wl_mem 69 (by decide +kernel) rfl, by decide +kernel, by decide +kernel, by decide⟩
theorem im_Tab_placeOf : Cond.instanceMethod ⟨"LineRules$Table", "placeOf", "(LLineRules$Row;)I"⟩ ∈ wl_ALL := wl_mem 432 (by decide +kernel) rfl
theorem se_Tab_placeOf : Cond.selects "LineRules$Table" ⟨"LineRules$Table", "placeOf", "(LLineRules$Row;)I"⟩ ⟨"LineRules$Table", "placeOf", "(LLineRules$Row;)I"⟩ ∈ wl_ALL := wl_mem 6 (by decide +kernel) rfl
theorem tg_Tab_insert : wf_tg mt_Tab_insert 3 := ⟨wl_mem 441 (by decide +kernel) rfl, wl_mem 69 (by decide +kernel) rfl, by decide +kernel, by decide +kernel, by decide⟩
theorem im_Tab_insert : Cond.instanceMethod ⟨"LineRules$Table", "insert", "(ILLineRules$Row;I)V"⟩ ∈ wl_ALL := wl_mem 440 (by decide +kernel) rfl
theorem se_Tab_insert : Cond.selects "LineRules$Table" ⟨"LineRules$Table", "insert", "(ILLineRules$Row;I)V"⟩ ⟨"LineRules$Table", "insert", "(ILLineRules$Row;I)V"⟩ ∈ wl_ALL := wl_mem 7 (by decide +kernel) rfl
theorem tg_Mth_floorMod : wf_tg mt_Mth_floorMod 2 := ⟨wl_mem 425 (by decide +kernel) rfl, wl_mem 79 (by decide +kernel) rfl, by decide +kernel, by decide +kernel, by decide⟩
theorem sm_Mth_floorMod : Cond.static ⟨"java/lang/Math", "floorMod", "(II)I"⟩ ∈ wl_ALL := wl_mem 424 (by decide +kernel) rfl
theorem tg_Mth_min : wf_tg mt_Mth_min 2 := ⟨wl_mem 359 (by decide +kernel) rfl, wl_mem 79 (by decide +kernel) rfl, by decide +kernel, by decide +kernel, by decide⟩
theorem sm_Mth_min : Cond.static ⟨"java/lang/Math", "min", "(II)I"⟩ ∈ wl_ALL := wl_mem 358 (by decide +kernel) rfl
theorem tg_Arr_fill : wf_tg mt_Arr_fill 2 := ⟨wl_mem 612 (by decide +kernel) rfl, wl_mem 78 (by decide +kernel) rfl, by decide +kernel, by decide +kernel, by decide⟩
theorem sm_Arr_fill : Cond.static ⟨"java/util/Arrays", "fill", "([JJ)V"⟩ ∈ wl_ALL := wl_mem 611 (by decide +kernel) rfl
theorem im_obj : Cond.instanceMethod Lib.objectInit ∈ wl_ALL := wl_mem 88 (by decide +kernel) rfl
theorem co_obj : Cond.code Lib.objectInit ⟨#[0xb1]⟩ 1 none ∈ wl_ALL := wl_mem 89 (by decide +kernel) rfl
end
section
/-! ends of methods that make no cell and change ints alone (qI, qV, qR: an int, nothing, a reference), that change ints and longs (qIl, qVl); and calls of such methods -/
abbrev qI (nx : Nat) (t : Wt) (r : Wr) (g : Wl) (post : Int32 → Wi → Prop) : Wq := fun o nx' t' r' i' g' => ∃ x : Int32, o = .inl (some (.int x)) ∧ nx' = nx ∧ t' = t ∧ r' = r ∧ g' = g ∧ post x i'
abbrev qV (nx : Nat) (t : Wt) (r : Wr) (g : Wl) (post : Wi → Prop) : Wq := fun o nx' t' r' i' g' => o = .inl none ∧ nx' = nx ∧ t' = t ∧ r' = r ∧ g' = g ∧ post i'
abbrev qL (nx : Nat) (t : Wt) (r : Wr) (g : Wl) (post : Int64 → Wi → Prop) : Wq := fun o nx' t' r' i' g' => ∃ x : Int64, o = .inl (some (.long x)) ∧ nx' = nx ∧ t' = t ∧ r' = r ∧ g' = g ∧ post x i'
abbrev qR (nx : Nat) (t : Wt) (r : Wr) (g : Wl) (post : Nat → Wi → Prop) : Wq := fun o nx' t' r' i' g' => ∃ x : Nat, o = .inl (some (.ref x)) ∧ nx' = nx ∧ t' = t ∧ r' = r ∧ g' = g ∧ post x i'
abbrev qIl (nx : Nat) (t : Wt) (r : Wr) (post : Int32 → Wi → Wl → Prop) : Wq := fun o nx' t' r' i' g' => ∃ x : Int32, o = .inl (some (.int x)) ∧ nx' = nx ∧ t' = t ∧ r' = r ∧ post x i' g'
abbrev qVl (nx : Nat) (t : Wt) (r : Wr) (post : Wi → Wl → Prop) : Wq := fun o nx' t' r' i' g' => o = .inl none ∧ nx' = nx ∧ t' = t ∧ r' = r ∧ post i' g'
section WfPosts
variable {l : Launch} {E : We} {n0 : Nat} {M : Wm} {d mc ms : Nat} {Q : Wq} {bk bn pc : Nat} {L : List (Nat × Value)} {st : List Value} {nx : Nat} {t : Wt} {r : Wr} {i : Wi} {g : Wl}
theorem qI_nt {post : Int32 → Wi → Prop} : ∀ X nx' t' r' i' g', ¬ qI nx t r g post (.inr X) nx' t' r' i' g' := by
  rintro X nx' t' r' i' g' ⟨x, h, -⟩
  cases h
theorem qV_nt {post : Wi → Prop} : ∀ X nx' t' r' i' g', ¬ qV nx t r g post (.inr X) nx' t' r' i' g' := by
  rintro X nx' t' r' i' g' ⟨h, -⟩
  cases h
theorem qL_nt {post : Int64 → Wi → Prop} : ∀ X nx' t' r' i' g', ¬ qL nx t r g post (.inr X) nx' t' r' i' g' := by
  rintro X nx' t' r' i' g' ⟨x, h, -⟩
  cases h
theorem qR_nt {post : Nat → Wi → Prop} : ∀ X nx' t' r' i' g', ¬ qR nx t r g post (.inr X) nx' t' r' i' g' := by
  rintro X nx' t' r' i' g' ⟨x, h, -⟩
  cases h
theorem qIl_nt {post : Int32 → Wi → Wl → Prop} : ∀ X nx' t' r' i' g', ¬ qIl nx t r post (.inr X) nx' t' r' i' g' := by
  rintro X nx' t' r' i' g' ⟨x, h, -⟩
  cases h
theorem qVl_nt {post : Wi → Wl → Prop} : ∀ X nx' t' r' i' g', ¬ qVl nx t r post (.inr X) nx' t' r' i' g' := by
  rintro X nx' t' r' i' g' ⟨h, -⟩
  cases h
theorem qI_go {post : Int32 → Wi → Prop} (k : ∀ x i', post x i' → Wf l E n0 M d mc ms Q bk bn pc L (.int x :: st) nx t r i' g) : ∀ v nx' t' r' i' g', qI nx t r g post (.inl v) nx' t' r' i' g' → Wf l E n0 M d mc ms Q bk bn pc L (v.toList ++ st) nx' t' r' i' g' := by
  rintro v nx' t' r' i' g' ⟨x, h, rfl, rfl, rfl, rfl, hp⟩
  cases h
  exact k x i' hp
theorem qV_go {post : Wi → Prop} (k : ∀ i', post i' → Wf l E n0 M d mc ms Q bk bn pc L st nx t r i' g) : ∀ v nx' t' r' i' g', qV nx t r g post (.inl v) nx' t' r' i' g' → Wf l E n0 M d mc ms Q bk bn pc L (v.toList ++ st) nx' t' r' i' g' := by
  rintro v nx' t' r' i' g' ⟨h, rfl, rfl, rfl, rfl, hp⟩
  cases h
  exact k i' hp
theorem qL_go {post : Int64 → Wi → Prop} (k : ∀ x i', post x i' → Wf l E n0 M d mc ms Q bk bn pc L (.long x :: st) nx t r i' g) : ∀ v nx' t' r' i' g', qL nx t r g post (.inl v) nx' t' r' i' g' → Wf l E n0 M d mc ms Q bk bn pc L (v.toList ++ st) nx' t' r' i' g' := by
  rintro v nx' t' r' i' g' ⟨x, h, rfl, rfl, rfl, rfl, hp⟩
  cases h
  exact k x i' hp
theorem qR_go {post : Nat → Wi → Prop} (k : ∀ x i', post x i' → Wf l E n0 M d mc ms Q bk bn pc L (.ref x :: st) nx t r i' g) : ∀ v nx' t' r' i' g', qR nx t r g post (.inl v) nx' t' r' i' g' → Wf l E n0 M d mc ms Q bk bn pc L (v.toList ++ st) nx' t' r' i' g' := by
  rintro v nx' t' r' i' g' ⟨x, h, rfl, rfl, rfl, rfl, hp⟩
  cases h
  exact k x i' hp
theorem qIl_go {post : Int32 → Wi → Wl → Prop} (k : ∀ x i' g', post x i' g' → Wf l E n0 M d mc ms Q bk bn pc L (.int x :: st) nx t r i' g') : ∀ v nx' t' r' i' g', qIl nx t r post (.inl v) nx' t' r' i' g' → Wf l E n0 M d mc ms Q bk bn pc L (v.toList ++ st) nx' t' r' i' g' := by
  rintro v nx' t' r' i' g' ⟨x, h, rfl, rfl, rfl, hp⟩
  cases h
  exact k x i' g' hp
theorem qVl_go {post : Wi → Wl → Prop} (k : ∀ i' g', post i' g' → Wf l E n0 M d mc ms Q bk bn pc L st nx t r i' g') : ∀ v nx' t' r' i' g', qVl nx t r post (.inl v) nx' t' r' i' g' → Wf l E n0 M d mc ms Q bk bn pc L (v.toList ++ st) nx' t' r' i' g' := by
  rintro v nx' t' r' i' g' ⟨h, rfl, rfl, rfl, hp⟩
  cases h
  exact k i' g' hp
end WfPosts
/-! what stays -/
def fr_is {α : Type} (S : List Nat) (f f' : Nat → Nat → α) : Prop := ∀ b, b ∉ S → ∀ k, f' b k = f b k
theorem fr_rf {α : Type} {S : List Nat} {f : Nat → Nat → α} : fr_is S f f := fun _ _ _ => rfl
theorem fr_tr {α : Type} {S S' : List Nat} {f f' f'' : Nat → Nat → α} (h : fr_is S f f') (h' : fr_is S' f' f'') : fr_is (S ++ S') f f'' := fun b hb k => (h' b (fun q => hb (List.mem_append_right _ q)) k).trans (h b (fun q => hb (List.mem_append_left _ q)) k)
theorem fr_ss {α : Type} {S : List Nat} {f f' f'' : Nat → Nat → α} (h : fr_is S f f') (h' : fr_is S f' f'') : fr_is S f f'' := fun b hb k => (h' b hb k).trans (h b hb k)
theorem fr_mo {α : Type} {S S' : List Nat} {f f' : Nat → Nat → α} (h : fr_is S f f') (hs : ∀ b ∈ S, b ∈ S') : fr_is S' f f' := fun b hb k => h b (fun q => hb (hs b q)) k
theorem fr_up {α : Type} {S : List Nat} {f f' : Nat → Nat → α} {a k : Nat} {v : α} (h : fr_is S f f') (ha : a ∈ S) : fr_is S f (wf_up f' a k v) := fun b hb j => (wf_up_a (fun (q : b = a) => hb (by rw [q]; exact ha))).trans (h b hb j)
end
section
theorem dc_Out_init_0 : decode prog_4_method_1_code 0 = .ok (.aload_n 0, 1) := by decide +kernel
theorem dc_Out_init_1 : decode prog_4_method_1_code 1 = .ok (.invokespecial 3, 3) := by decide +kernel
theorem dc_Out_init_4 : decode prog_4_method_1_code 4 = .ok (.aload_n 0, 1) := by decide +kernel
theorem dc_Out_init_5 : decode prog_4_method_1_code 5 = .ok (.sipush 1500, 3) := by decide +kernel
theorem dc_Out_init_8 : decode prog_4_method_1_code 8 = .ok (.newarray .int, 2) := by decide +kernel
theorem dc_Out_init_10 : decode prog_4_method_1_code 10 = .ok (.putfield 9, 3) := by decide +kernel
theorem dc_Out_init_13 : decode prog_4_method_1_code 13 = .ok (.return_, 1) := by decide +kernel
theorem dc_Out_print_0 : decode prog_4_method_2_code 0 = .ok (.aload_n 0, 1) := by decide +kernel
theorem dc_Out_print_1 : decode prog_4_method_2_code 1 = .ok (.aload_n 1, 1) := by decide +kernel
theorem dc_Out_print_2 : decode prog_4_method_2_code 2 = .ok (.iconst 0, 1) := by decide +kernel
theorem dc_Out_print_3 : decode prog_4_method_2_code 3 = .ok (.aload_n 1, 1) := by decide +kernel
theorem dc_Out_print_4 : decode prog_4_method_2_code 4 = .ok (.getfield 15, 3) := by decide +kernel
theorem dc_Out_print_7 : decode prog_4_method_2_code 7 = .ok (.invokevirtual 21, 3) := by decide +kernel
theorem dc_Out_print_10 : decode prog_4_method_2_code 10 = .ok (.return_, 1) := by decide +kernel
theorem dc_Out_printPart_0 : decode prog_4_method_3_code 0 = .ok (.iload_n 2, 1) := by decide +kernel
theorem dc_Out_printPart_1 : decode prog_4_method_3_code 1 = .ok (.istore 4, 2) := by decide +kernel
theorem dc_Out_printPart_3 : decode prog_4_method_3_code 3 = .ok (.iload 4, 2) := by decide +kernel
theorem dc_Out_printPart_5 : decode prog_4_method_3_code 5 = .ok (.iload_n 3, 1) := by decide +kernel
theorem dc_Out_printPart_6 : decode prog_4_method_3_code 6 = .ok (.if_icmp .ge 20, 3) := by decide +kernel
theorem dc_Out_printPart_9 : decode prog_4_method_3_code 9 = .ok (.aload_n 0, 1) := by decide +kernel
theorem dc_Out_printPart_10 : decode prog_4_method_3_code 10 = .ok (.aload_n 1, 1) := by decide +kernel
theorem dc_Out_printPart_11 : decode prog_4_method_3_code 11 = .ok (.getfield 25, 3) := by decide +kernel
theorem dc_Out_printPart_14 : decode prog_4_method_3_code 14 = .ok (.iload 4, 2) := by decide +kernel
theorem dc_Out_printPart_16 : decode prog_4_method_3_code 16 = .ok (.iaload, 1) := by decide +kernel
theorem dc_Out_printPart_17 : decode prog_4_method_3_code 17 = .ok (.invokevirtual 28, 3) := by decide +kernel
theorem dc_Out_printPart_20 : decode prog_4_method_3_code 20 = .ok (.iinc 4 1, 3) := by decide +kernel
theorem dc_Out_printPart_23 : decode prog_4_method_3_code 23 = .ok (.goto (-20), 3) := by decide +kernel
theorem dc_Out_printPart_26 : decode prog_4_method_3_code 26 = .ok (.aload_n 0, 1) := by decide +kernel
theorem dc_Out_printPart_27 : decode prog_4_method_3_code 27 = .ok (.bipush 10, 2) := by decide +kernel
theorem dc_Out_printPart_29 : decode prog_4_method_3_code 29 = .ok (.invokevirtual 28, 3) := by decide +kernel
theorem dc_Out_printPart_32 : decode prog_4_method_3_code 32 = .ok (.return_, 1) := by decide +kernel
theorem dc_Out_add_0 : decode prog_4_method_4_code 0 = .ok (.aload_n 0, 1) := by decide +kernel
theorem dc_Out_add_1 : decode prog_4_method_4_code 1 = .ok (.getfield 9, 3) := by decide +kernel
theorem dc_Out_add_4 : decode prog_4_method_4_code 4 = .ok (.aload_n 0, 1) := by decide +kernel
theorem dc_Out_add_5 : decode prog_4_method_4_code 5 = .ok (.getfield 32, 3) := by decide +kernel
theorem dc_Out_add_8 : decode prog_4_method_4_code 8 = .ok (.sipush 1500, 3) := by decide +kernel
theorem dc_Out_add_11 : decode prog_4_method_4_code 11 = .ok (.invokestatic 35, 3) := by decide +kernel
theorem dc_Out_add_14 : decode prog_4_method_4_code 14 = .ok (.iload_n 1, 1) := by decide +kernel
theorem dc_Out_add_15 : decode prog_4_method_4_code 15 = .ok (.iastore, 1) := by decide +kernel
theorem dc_Out_add_16 : decode prog_4_method_4_code 16 = .ok (.aload_n 0, 1) := by decide +kernel
theorem dc_Out_add_17 : decode prog_4_method_4_code 17 = .ok (.dup, 1) := by decide +kernel
theorem dc_Out_add_18 : decode prog_4_method_4_code 18 = .ok (.getfield 32, 3) := by decide +kernel
theorem dc_Out_add_21 : decode prog_4_method_4_code 21 = .ok (.iconst 1, 1) := by decide +kernel
theorem dc_Out_add_22 : decode prog_4_method_4_code 22 = .ok (.iadd, 1) := by decide +kernel
theorem dc_Out_add_23 : decode prog_4_method_4_code 23 = .ok (.putfield 32, 3) := by decide +kernel
theorem dc_Out_add_26 : decode prog_4_method_4_code 26 = .ok (.return_, 1) := by decide +kernel
theorem dc_Out_has_0 : decode prog_4_method_5_code 0 = .ok (.iload_n 1, 1) := by decide +kernel
theorem dc_Out_has_1 : decode prog_4_method_5_code 1 = .ok (.ifCond .lt 27, 3) := by decide +kernel
theorem dc_Out_has_4 : decode prog_4_method_5_code 4 = .ok (.iload_n 1, 1) := by decide +kernel
theorem dc_Out_has_5 : decode prog_4_method_5_code 5 = .ok (.aload_n 0, 1) := by decide +kernel
theorem dc_Out_has_6 : decode prog_4_method_5_code 6 = .ok (.getfield 32, 3) := by decide +kernel
theorem dc_Out_has_9 : decode prog_4_method_5_code 9 = .ok (.if_icmp .ge 19, 3) := by decide +kernel
theorem dc_Out_has_12 : decode prog_4_method_5_code 12 = .ok (.iload_n 1, 1) := by decide +kernel
theorem dc_Out_has_13 : decode prog_4_method_5_code 13 = .ok (.aload_n 0, 1) := by decide +kernel
theorem dc_Out_has_14 : decode prog_4_method_5_code 14 = .ok (.getfield 32, 3) := by decide +kernel
theorem dc_Out_has_17 : decode prog_4_method_5_code 17 = .ok (.sipush 1500, 3) := by decide +kernel
theorem dc_Out_has_20 : decode prog_4_method_5_code 20 = .ok (.isub, 1) := by decide +kernel
theorem dc_Out_has_21 : decode prog_4_method_5_code 21 = .ok (.if_icmp .lt 7, 3) := by decide +kernel
theorem dc_Out_has_24 : decode prog_4_method_5_code 24 = .ok (.iconst 1, 1) := by decide +kernel
theorem dc_Out_has_25 : decode prog_4_method_5_code 25 = .ok (.goto 4, 3) := by decide +kernel
theorem dc_Out_has_28 : decode prog_4_method_5_code 28 = .ok (.iconst 0, 1) := by decide +kernel
theorem dc_Out_has_29 : decode prog_4_method_5_code 29 = .ok (.ireturn, 1) := by decide +kernel
theorem dc_Out_signAt_0 : decode prog_4_method_6_code 0 = .ok (.aload_n 0, 1) := by decide +kernel
theorem dc_Out_signAt_1 : decode prog_4_method_6_code 1 = .ok (.getfield 9, 3) := by decide +kernel
theorem dc_Out_signAt_4 : decode prog_4_method_6_code 4 = .ok (.iload_n 1, 1) := by decide +kernel
theorem dc_Out_signAt_5 : decode prog_4_method_6_code 5 = .ok (.sipush 1500, 3) := by decide +kernel
theorem dc_Out_signAt_8 : decode prog_4_method_6_code 8 = .ok (.invokestatic 35, 3) := by decide +kernel
theorem dc_Out_signAt_11 : decode prog_4_method_6_code 11 = .ok (.iaload, 1) := by decide +kernel
theorem dc_Out_signAt_12 : decode prog_4_method_6_code 12 = .ok (.ireturn, 1) := by decide +kernel
theorem dc_Row_init_0 : decode prog_6_method_1_code 0 = .ok (.aload_n 0, 1) := by decide +kernel
theorem dc_Row_init_1 : decode prog_6_method_1_code 1 = .ok (.invokespecial 3, 3) := by decide +kernel
theorem dc_Row_init_4 : decode prog_6_method_1_code 4 = .ok (.aload_n 0, 1) := by decide +kernel
theorem dc_Row_init_5 : decode prog_6_method_1_code 5 = .ok (.iload_n 1, 1) := by decide +kernel
theorem dc_Row_init_6 : decode prog_6_method_1_code 6 = .ok (.newarray .int, 2) := by decide +kernel
theorem dc_Row_init_8 : decode prog_6_method_1_code 8 = .ok (.putfield 9, 3) := by decide +kernel
theorem dc_Row_init_11 : decode prog_6_method_1_code 11 = .ok (.return_, 1) := by decide +kernel
theorem dc_Row_drop_0 : decode prog_6_method_2_code 0 = .ok (.aload_n 0, 1) := by decide +kernel
theorem dc_Row_drop_1 : decode prog_6_method_2_code 1 = .ok (.iconst 0, 1) := by decide +kernel
theorem dc_Row_drop_2 : decode prog_6_method_2_code 2 = .ok (.putfield 15, 3) := by decide +kernel
theorem dc_Row_drop_5 : decode prog_6_method_2_code 5 = .ok (.return_, 1) := by decide +kernel
theorem dc_Row_has_0 : decode prog_6_method_3_code 0 = .ok (.iload_n 1, 1) := by decide +kernel
theorem dc_Row_has_1 : decode prog_6_method_3_code 1 = .ok (.ifCond .lt 15, 3) := by decide +kernel
theorem dc_Row_has_4 : decode prog_6_method_3_code 4 = .ok (.iload_n 1, 1) := by decide +kernel
theorem dc_Row_has_5 : decode prog_6_method_3_code 5 = .ok (.aload_n 0, 1) := by decide +kernel
theorem dc_Row_has_6 : decode prog_6_method_3_code 6 = .ok (.getfield 15, 3) := by decide +kernel
theorem dc_Row_has_9 : decode prog_6_method_3_code 9 = .ok (.if_icmp .ge 7, 3) := by decide +kernel
theorem dc_Row_has_12 : decode prog_6_method_3_code 12 = .ok (.iconst 1, 1) := by decide +kernel
theorem dc_Row_has_13 : decode prog_6_method_3_code 13 = .ok (.goto 4, 3) := by decide +kernel
theorem dc_Row_has_16 : decode prog_6_method_3_code 16 = .ok (.iconst 0, 1) := by decide +kernel
theorem dc_Row_has_17 : decode prog_6_method_3_code 17 = .ok (.ireturn, 1) := by decide +kernel
theorem dc_Row_add_0 : decode prog_6_method_4_code 0 = .ok (.aload_n 0, 1) := by decide +kernel
theorem dc_Row_add_1 : decode prog_6_method_4_code 1 = .ok (.getfield 15, 3) := by decide +kernel
theorem dc_Row_add_4 : decode prog_6_method_4_code 4 = .ok (.aload_n 0, 1) := by decide +kernel
theorem dc_Row_add_5 : decode prog_6_method_4_code 5 = .ok (.getfield 9, 3) := by decide +kernel
theorem dc_Row_add_8 : decode prog_6_method_4_code 8 = .ok (.arraylength, 1) := by decide +kernel
theorem dc_Row_add_9 : decode prog_6_method_4_code 9 = .ok (.if_icmp .ge 23, 3) := by decide +kernel
theorem dc_Row_add_12 : decode prog_6_method_4_code 12 = .ok (.aload_n 0, 1) := by decide +kernel
theorem dc_Row_add_13 : decode prog_6_method_4_code 13 = .ok (.getfield 9, 3) := by decide +kernel
theorem dc_Row_add_16 : decode prog_6_method_4_code 16 = .ok (.aload_n 0, 1) := by decide +kernel
theorem dc_Row_add_17 : decode prog_6_method_4_code 17 = .ok (.getfield 15, 3) := by decide +kernel
theorem dc_Row_add_20 : decode prog_6_method_4_code 20 = .ok (.iload_n 1, 1) := by decide +kernel
theorem dc_Row_add_21 : decode prog_6_method_4_code 21 = .ok (.iastore, 1) := by decide +kernel
theorem dc_Row_add_22 : decode prog_6_method_4_code 22 = .ok (.aload_n 0, 1) := by decide +kernel
theorem dc_Row_add_23 : decode prog_6_method_4_code 23 = .ok (.dup, 1) := by decide +kernel
theorem dc_Row_add_24 : decode prog_6_method_4_code 24 = .ok (.getfield 15, 3) := by decide +kernel
theorem dc_Row_add_27 : decode prog_6_method_4_code 27 = .ok (.iconst 1, 1) := by decide +kernel
theorem dc_Row_add_28 : decode prog_6_method_4_code 28 = .ok (.iadd, 1) := by decide +kernel
theorem dc_Row_add_29 : decode prog_6_method_4_code 29 = .ok (.putfield 15, 3) := by decide +kernel
theorem dc_Row_add_32 : decode prog_6_method_4_code 32 = .ok (.return_, 1) := by decide +kernel
theorem dc_Row_addPart_0 : decode prog_6_method_5_code 0 = .ok (.iload_n 3, 1) := by decide +kernel
theorem dc_Row_addPart_1 : decode prog_6_method_5_code 1 = .ok (.iload_n 2, 1) := by decide +kernel
theorem dc_Row_addPart_2 : decode prog_6_method_5_code 2 = .ok (.isub, 1) := by decide +kernel
theorem dc_Row_addPart_3 : decode prog_6_method_5_code 3 = .ok (.aload_n 0, 1) := by decide +kernel
theorem dc_Row_addPart_4 : decode prog_6_method_5_code 4 = .ok (.getfield 9, 3) := by decide +kernel
theorem dc_Row_addPart_7 : decode prog_6_method_5_code 7 = .ok (.arraylength, 1) := by decide +kernel
theorem dc_Row_addPart_8 : decode prog_6_method_5_code 8 = .ok (.aload_n 0, 1) := by decide +kernel
theorem dc_Row_addPart_9 : decode prog_6_method_5_code 9 = .ok (.getfield 15, 3) := by decide +kernel
theorem dc_Row_addPart_12 : decode prog_6_method_5_code 12 = .ok (.isub, 1) := by decide +kernel
theorem dc_Row_addPart_13 : decode prog_6_method_5_code 13 = .ok (.invokestatic 19, 3) := by decide +kernel
theorem dc_Row_addPart_16 : decode prog_6_method_5_code 16 = .ok (.istore 4, 2) := by decide +kernel
theorem dc_Row_addPart_18 : decode prog_6_method_5_code 18 = .ok (.iload 4, 2) := by decide +kernel
theorem dc_Row_addPart_20 : decode prog_6_method_5_code 20 = .ok (.ifCond .le 32, 3) := by decide +kernel
theorem dc_Row_addPart_23 : decode prog_6_method_5_code 23 = .ok (.aload_n 1, 1) := by decide +kernel
theorem dc_Row_addPart_24 : decode prog_6_method_5_code 24 = .ok (.getfield 9, 3) := by decide +kernel
theorem dc_Row_addPart_27 : decode prog_6_method_5_code 27 = .ok (.iload_n 2, 1) := by decide +kernel
theorem dc_Row_addPart_28 : decode prog_6_method_5_code 28 = .ok (.aload_n 0, 1) := by decide +kernel
theorem dc_Row_addPart_29 : decode prog_6_method_5_code 29 = .ok (.getfield 9, 3) := by decide +kernel
theorem dc_Row_addPart_32 : decode prog_6_method_5_code 32 = .ok (.aload_n 0, 1) := by decide +kernel
theorem dc_Row_addPart_33 : decode prog_6_method_5_code 33 = .ok (.getfield 15, 3) := by decide +kernel
theorem dc_Row_addPart_36 : decode prog_6_method_5_code 36 = .ok (.iload 4, 2) := by decide +kernel
theorem dc_Row_addPart_38 : decode prog_6_method_5_code 38 = .ok (.invokestatic 25, 3) := by decide +kernel
theorem dc_Row_addPart_41 : decode prog_6_method_5_code 41 = .ok (.aload_n 0, 1) := by decide +kernel
theorem dc_Row_addPart_42 : decode prog_6_method_5_code 42 = .ok (.dup, 1) := by decide +kernel
theorem dc_Row_addPart_43 : decode prog_6_method_5_code 43 = .ok (.getfield 15, 3) := by decide +kernel
theorem dc_Row_addPart_46 : decode prog_6_method_5_code 46 = .ok (.iload 4, 2) := by decide +kernel
theorem dc_Row_addPart_48 : decode prog_6_method_5_code 48 = .ok (.iadd, 1) := by decide +kernel
theorem dc_Row_addPart_49 : decode prog_6_method_5_code 49 = .ok (.putfield 15, 3) := by decide +kernel
theorem dc_Row_addPart_52 : decode prog_6_method_5_code 52 = .ok (.return_, 1) := by decide +kernel
theorem dc_Row_addAll_0 : decode prog_6_method_6_code 0 = .ok (.aload_n 0, 1) := by decide +kernel
theorem dc_Row_addAll_1 : decode prog_6_method_6_code 1 = .ok (.aload_n 1, 1) := by decide +kernel
theorem dc_Row_addAll_2 : decode prog_6_method_6_code 2 = .ok (.iconst 0, 1) := by decide +kernel
theorem dc_Row_addAll_3 : decode prog_6_method_6_code 3 = .ok (.aload_n 1, 1) := by decide +kernel
theorem dc_Row_addAll_4 : decode prog_6_method_6_code 4 = .ok (.getfield 15, 3) := by decide +kernel
theorem dc_Row_addAll_7 : decode prog_6_method_6_code 7 = .ok (.invokevirtual 31, 3) := by decide +kernel
theorem dc_Row_addAll_10 : decode prog_6_method_6_code 10 = .ok (.return_, 1) := by decide +kernel
theorem dc_Row_become_0 : decode prog_6_method_7_code 0 = .ok (.aload_n 1, 1) := by decide +kernel
theorem dc_Row_become_1 : decode prog_6_method_7_code 1 = .ok (.getfield 15, 3) := by decide +kernel
theorem dc_Row_become_4 : decode prog_6_method_7_code 4 = .ok (.aload_n 0, 1) := by decide +kernel
theorem dc_Row_become_5 : decode prog_6_method_7_code 5 = .ok (.getfield 9, 3) := by decide +kernel
theorem dc_Row_become_8 : decode prog_6_method_7_code 8 = .ok (.arraylength, 1) := by decide +kernel
theorem dc_Row_become_9 : decode prog_6_method_7_code 9 = .ok (.invokestatic 19, 3) := by decide +kernel
theorem dc_Row_become_12 : decode prog_6_method_7_code 12 = .ok (.istore_n 2, 1) := by decide +kernel
theorem dc_Row_become_13 : decode prog_6_method_7_code 13 = .ok (.aload_n 1, 1) := by decide +kernel
theorem dc_Row_become_14 : decode prog_6_method_7_code 14 = .ok (.getfield 9, 3) := by decide +kernel
theorem dc_Row_become_17 : decode prog_6_method_7_code 17 = .ok (.iconst 0, 1) := by decide +kernel
theorem dc_Row_become_18 : decode prog_6_method_7_code 18 = .ok (.aload_n 0, 1) := by decide +kernel
theorem dc_Row_become_19 : decode prog_6_method_7_code 19 = .ok (.getfield 9, 3) := by decide +kernel
theorem dc_Row_become_22 : decode prog_6_method_7_code 22 = .ok (.iconst 0, 1) := by decide +kernel
theorem dc_Row_become_23 : decode prog_6_method_7_code 23 = .ok (.iload_n 2, 1) := by decide +kernel
theorem dc_Row_become_24 : decode prog_6_method_7_code 24 = .ok (.invokestatic 25, 3) := by decide +kernel
theorem dc_Row_become_27 : decode prog_6_method_7_code 27 = .ok (.aload_n 0, 1) := by decide +kernel
theorem dc_Row_become_28 : decode prog_6_method_7_code 28 = .ok (.iload_n 2, 1) := by decide +kernel
theorem dc_Row_become_29 : decode prog_6_method_7_code 29 = .ok (.putfield 15, 3) := by decide +kernel
theorem dc_Row_become_32 : decode prog_6_method_7_code 32 = .ok (.return_, 1) := by decide +kernel
theorem dc_Row_becomeNumber_0 : decode prog_6_method_8_code 0 = .ok (.aload_n 0, 1) := by decide +kernel
theorem dc_Row_becomeNumber_1 : decode prog_6_method_8_code 1 = .ok (.invokevirtual 35, 3) := by decide +kernel
theorem dc_Row_becomeNumber_4 : decode prog_6_method_8_code 4 = .ok (.iload_n 1, 1) := by decide +kernel
theorem dc_Row_becomeNumber_5 : decode prog_6_method_8_code 5 = .ok (.i2l, 1) := by decide +kernel
theorem dc_Row_becomeNumber_6 : decode prog_6_method_8_code 6 = .ok (.lstore_n 2, 1) := by decide +kernel
theorem dc_Row_becomeNumber_7 : decode prog_6_method_8_code 7 = .ok (.lload_n 2, 1) := by decide +kernel
theorem dc_Row_becomeNumber_8 : decode prog_6_method_8_code 8 = .ok (.lconst 0, 1) := by decide +kernel
theorem dc_Row_becomeNumber_9 : decode prog_6_method_8_code 9 = .ok (.lcmp, 1) := by decide +kernel
theorem dc_Row_becomeNumber_10 : decode prog_6_method_8_code 10 = .ok (.ifCond .ge 12, 3) := by decide +kernel
theorem dc_Row_becomeNumber_13 : decode prog_6_method_8_code 13 = .ok (.aload_n 0, 1) := by decide +kernel
theorem dc_Row_becomeNumber_14 : decode prog_6_method_8_code 14 = .ok (.bipush 45, 2) := by decide +kernel
theorem dc_Row_becomeNumber_16 : decode prog_6_method_8_code 16 = .ok (.invokevirtual 38, 3) := by decide +kernel
theorem dc_Row_becomeNumber_19 : decode prog_6_method_8_code 19 = .ok (.lload_n 2, 1) := by decide +kernel
theorem dc_Row_becomeNumber_20 : decode prog_6_method_8_code 20 = .ok (.lneg, 1) := by decide +kernel
theorem dc_Row_becomeNumber_21 : decode prog_6_method_8_code 21 = .ok (.lstore_n 2, 1) := by decide +kernel
theorem dc_Row_becomeNumber_22 : decode prog_6_method_8_code 22 = .ok (.lconst 1, 1) := by decide +kernel
theorem dc_Row_becomeNumber_23 : decode prog_6_method_8_code 23 = .ok (.lstore 4, 2) := by decide +kernel
theorem dc_Row_becomeNumber_25 : decode prog_6_method_8_code 25 = .ok (.iconst 1, 1) := by decide +kernel
theorem dc_Row_becomeNumber_26 : decode prog_6_method_8_code 26 = .ok (.istore 6, 2) := by decide +kernel
theorem dc_Row_becomeNumber_28 : decode prog_6_method_8_code 28 = .ok (.iload 6, 2) := by decide +kernel
theorem dc_Row_becomeNumber_30 : decode prog_6_method_8_code 30 = .ok (.bipush 11, 2) := by decide +kernel
theorem dc_Row_becomeNumber_32 : decode prog_6_method_8_code 32 = .ok (.if_icmp .ge 28, 3) := by decide +kernel
theorem dc_Row_becomeNumber_35 : decode prog_6_method_8_code 35 = .ok (.lload 4, 2) := by decide +kernel
theorem dc_Row_becomeNumber_37 : decode prog_6_method_8_code 37 = .ok (.ldc2_w 42, 3) := by decide +kernel
theorem dc_Row_becomeNumber_40 : decode prog_6_method_8_code 40 = .ok (.lmul, 1) := by decide +kernel
theorem dc_Row_becomeNumber_41 : decode prog_6_method_8_code 41 = .ok (.lload_n 2, 1) := by decide +kernel
theorem dc_Row_becomeNumber_42 : decode prog_6_method_8_code 42 = .ok (.lcmp, 1) := by decide +kernel
theorem dc_Row_becomeNumber_43 : decode prog_6_method_8_code 43 = .ok (.ifCond .gt 17, 3) := by decide +kernel
theorem dc_Row_becomeNumber_46 : decode prog_6_method_8_code 46 = .ok (.lload 4, 2) := by decide +kernel
theorem dc_Row_becomeNumber_48 : decode prog_6_method_8_code 48 = .ok (.ldc2_w 42, 3) := by decide +kernel
theorem dc_Row_becomeNumber_51 : decode prog_6_method_8_code 51 = .ok (.lmul, 1) := by decide +kernel
theorem dc_Row_becomeNumber_52 : decode prog_6_method_8_code 52 = .ok (.lstore 4, 2) := by decide +kernel
theorem dc_Row_becomeNumber_54 : decode prog_6_method_8_code 54 = .ok (.iinc 6 1, 3) := by decide +kernel
theorem dc_Row_becomeNumber_57 : decode prog_6_method_8_code 57 = .ok (.goto (-29), 3) := by decide +kernel
theorem dc_Row_becomeNumber_60 : decode prog_6_method_8_code 60 = .ok (.iconst 0, 1) := by decide +kernel
theorem dc_Row_becomeNumber_61 : decode prog_6_method_8_code 61 = .ok (.istore 6, 2) := by decide +kernel
theorem dc_Row_becomeNumber_63 : decode prog_6_method_8_code 63 = .ok (.iload 6, 2) := by decide +kernel
theorem dc_Row_becomeNumber_65 : decode prog_6_method_8_code 65 = .ok (.bipush 11, 2) := by decide +kernel
theorem dc_Row_becomeNumber_67 : decode prog_6_method_8_code 67 = .ok (.if_icmp .ge 40, 3) := by decide +kernel
theorem dc_Row_becomeNumber_70 : decode prog_6_method_8_code 70 = .ok (.lload 4, 2) := by decide +kernel
theorem dc_Row_becomeNumber_72 : decode prog_6_method_8_code 72 = .ok (.lconst 0, 1) := by decide +kernel
theorem dc_Row_becomeNumber_73 : decode prog_6_method_8_code 73 = .ok (.lcmp, 1) := by decide +kernel
theorem dc_Row_becomeNumber_74 : decode prog_6_method_8_code 74 = .ok (.ifCond .le 33, 3) := by decide +kernel
theorem dc_Row_becomeNumber_77 : decode prog_6_method_8_code 77 = .ok (.aload_n 0, 1) := by decide +kernel
theorem dc_Row_becomeNumber_78 : decode prog_6_method_8_code 78 = .ok (.bipush 48, 2) := by decide +kernel
theorem dc_Row_becomeNumber_80 : decode prog_6_method_8_code 80 = .ok (.lload_n 2, 1) := by decide +kernel
theorem dc_Row_becomeNumber_81 : decode prog_6_method_8_code 81 = .ok (.lload 4, 2) := by decide +kernel
theorem dc_Row_becomeNumber_83 : decode prog_6_method_8_code 83 = .ok (.ldiv, 1) := by decide +kernel
theorem dc_Row_becomeNumber_84 : decode prog_6_method_8_code 84 = .ok (.ldc2_w 42, 3) := by decide +kernel
theorem dc_Row_becomeNumber_87 : decode prog_6_method_8_code 87 = .ok (.lrem, 1) := by decide +kernel
theorem dc_Row_becomeNumber_88 : decode prog_6_method_8_code 88 = .ok (.l2i, 1) := by decide +kernel
theorem dc_Row_becomeNumber_89 : decode prog_6_method_8_code 89 = .ok (.iadd, 1) := by decide +kernel
theorem dc_Row_becomeNumber_90 : decode prog_6_method_8_code 90 = .ok (.invokevirtual 38, 3) := by decide +kernel
theorem dc_Row_becomeNumber_93 : decode prog_6_method_8_code 93 = .ok (.lload 4, 2) := by decide +kernel
theorem dc_Row_becomeNumber_95 : decode prog_6_method_8_code 95 = .ok (.ldc2_w 42, 3) := by decide +kernel
theorem dc_Row_becomeNumber_98 : decode prog_6_method_8_code 98 = .ok (.ldiv, 1) := by decide +kernel
theorem dc_Row_becomeNumber_99 : decode prog_6_method_8_code 99 = .ok (.lstore 4, 2) := by decide +kernel
theorem dc_Row_becomeNumber_101 : decode prog_6_method_8_code 101 = .ok (.iinc 6 1, 3) := by decide +kernel
theorem dc_Row_becomeNumber_104 : decode prog_6_method_8_code 104 = .ok (.goto (-41), 3) := by decide +kernel
theorem dc_Row_becomeNumber_107 : decode prog_6_method_8_code 107 = .ok (.return_, 1) := by decide +kernel
theorem dc_Row_toNumber_0 : decode prog_6_method_9_code 0 = .ok (.aload_n 0, 1) := by decide +kernel
theorem dc_Row_toNumber_1 : decode prog_6_method_9_code 1 = .ok (.getfield 15, 3) := by decide +kernel
theorem dc_Row_toNumber_4 : decode prog_6_method_9_code 4 = .ok (.ifCond .le 18, 3) := by decide +kernel
theorem dc_Row_toNumber_7 : decode prog_6_method_9_code 7 = .ok (.aload_n 0, 1) := by decide +kernel
theorem dc_Row_toNumber_8 : decode prog_6_method_9_code 8 = .ok (.getfield 9, 3) := by decide +kernel
theorem dc_Row_toNumber_11 : decode prog_6_method_9_code 11 = .ok (.iconst 0, 1) := by decide +kernel
theorem dc_Row_toNumber_12 : decode prog_6_method_9_code 12 = .ok (.iaload, 1) := by decide +kernel
theorem dc_Row_toNumber_13 : decode prog_6_method_9_code 13 = .ok (.bipush 45, 2) := by decide +kernel
theorem dc_Row_toNumber_15 : decode prog_6_method_9_code 15 = .ok (.if_icmp .ne 7, 3) := by decide +kernel
theorem dc_Row_toNumber_18 : decode prog_6_method_9_code 18 = .ok (.iconst 1, 1) := by decide +kernel
theorem dc_Row_toNumber_19 : decode prog_6_method_9_code 19 = .ok (.goto 4, 3) := by decide +kernel
theorem dc_Row_toNumber_22 : decode prog_6_method_9_code 22 = .ok (.iconst 0, 1) := by decide +kernel
theorem dc_Row_toNumber_23 : decode prog_6_method_9_code 23 = .ok (.istore_n 1, 1) := by decide +kernel
theorem dc_Row_toNumber_24 : decode prog_6_method_9_code 24 = .ok (.iconst 0, 1) := by decide +kernel
theorem dc_Row_toNumber_25 : decode prog_6_method_9_code 25 = .ok (.istore_n 2, 1) := by decide +kernel
theorem dc_Row_toNumber_26 : decode prog_6_method_9_code 26 = .ok (.iload_n 1, 1) := by decide +kernel
theorem dc_Row_toNumber_27 : decode prog_6_method_9_code 27 = .ok (.ifCond .eq 7, 3) := by decide +kernel
theorem dc_Row_toNumber_30 : decode prog_6_method_9_code 30 = .ok (.iconst 1, 1) := by decide +kernel
theorem dc_Row_toNumber_31 : decode prog_6_method_9_code 31 = .ok (.goto 4, 3) := by decide +kernel
theorem dc_Row_toNumber_34 : decode prog_6_method_9_code 34 = .ok (.iconst 0, 1) := by decide +kernel
theorem dc_Row_toNumber_35 : decode prog_6_method_9_code 35 = .ok (.istore_n 3, 1) := by decide +kernel
theorem dc_Row_toNumber_36 : decode prog_6_method_9_code 36 = .ok (.iload_n 3, 1) := by decide +kernel
theorem dc_Row_toNumber_37 : decode prog_6_method_9_code 37 = .ok (.aload_n 0, 1) := by decide +kernel
theorem dc_Row_toNumber_38 : decode prog_6_method_9_code 38 = .ok (.getfield 15, 3) := by decide +kernel
theorem dc_Row_toNumber_41 : decode prog_6_method_9_code 41 = .ok (.if_icmp .ge 46, 3) := by decide +kernel
theorem dc_Row_toNumber_44 : decode prog_6_method_9_code 44 = .ok (.aload_n 0, 1) := by decide +kernel
theorem dc_Row_toNumber_45 : decode prog_6_method_9_code 45 = .ok (.getfield 9, 3) := by decide +kernel
theorem dc_Row_toNumber_48 : decode prog_6_method_9_code 48 = .ok (.iload_n 3, 1) := by decide +kernel
theorem dc_Row_toNumber_49 : decode prog_6_method_9_code 49 = .ok (.iaload, 1) := by decide +kernel
theorem dc_Row_toNumber_50 : decode prog_6_method_9_code 50 = .ok (.bipush 48, 2) := by decide +kernel
theorem dc_Row_toNumber_52 : decode prog_6_method_9_code 52 = .ok (.if_icmp .lt 35, 3) := by decide +kernel
theorem dc_Row_toNumber_55 : decode prog_6_method_9_code 55 = .ok (.aload_n 0, 1) := by decide +kernel
theorem dc_Row_toNumber_56 : decode prog_6_method_9_code 56 = .ok (.getfield 9, 3) := by decide +kernel
theorem dc_Row_toNumber_59 : decode prog_6_method_9_code 59 = .ok (.iload_n 3, 1) := by decide +kernel
theorem dc_Row_toNumber_60 : decode prog_6_method_9_code 60 = .ok (.iaload, 1) := by decide +kernel
theorem dc_Row_toNumber_61 : decode prog_6_method_9_code 61 = .ok (.bipush 57, 2) := by decide +kernel
theorem dc_Row_toNumber_63 : decode prog_6_method_9_code 63 = .ok (.if_icmp .gt 24, 3) := by decide +kernel
theorem dc_Row_toNumber_66 : decode prog_6_method_9_code 66 = .ok (.iload_n 2, 1) := by decide +kernel
theorem dc_Row_toNumber_67 : decode prog_6_method_9_code 67 = .ok (.bipush 10, 2) := by decide +kernel
theorem dc_Row_toNumber_69 : decode prog_6_method_9_code 69 = .ok (.imul, 1) := by decide +kernel
theorem dc_Row_toNumber_70 : decode prog_6_method_9_code 70 = .ok (.aload_n 0, 1) := by decide +kernel
theorem dc_Row_toNumber_71 : decode prog_6_method_9_code 71 = .ok (.getfield 9, 3) := by decide +kernel
theorem dc_Row_toNumber_74 : decode prog_6_method_9_code 74 = .ok (.iload_n 3, 1) := by decide +kernel
theorem dc_Row_toNumber_75 : decode prog_6_method_9_code 75 = .ok (.iaload, 1) := by decide +kernel
theorem dc_Row_toNumber_76 : decode prog_6_method_9_code 76 = .ok (.bipush 48, 2) := by decide +kernel
theorem dc_Row_toNumber_78 : decode prog_6_method_9_code 78 = .ok (.isub, 1) := by decide +kernel
theorem dc_Row_toNumber_79 : decode prog_6_method_9_code 79 = .ok (.iadd, 1) := by decide +kernel
theorem dc_Row_toNumber_80 : decode prog_6_method_9_code 80 = .ok (.istore_n 2, 1) := by decide +kernel
theorem dc_Row_toNumber_81 : decode prog_6_method_9_code 81 = .ok (.iinc 3 1, 3) := by decide +kernel
theorem dc_Row_toNumber_84 : decode prog_6_method_9_code 84 = .ok (.goto (-48), 3) := by decide +kernel
theorem dc_Row_toNumber_87 : decode prog_6_method_9_code 87 = .ok (.iload_n 1, 1) := by decide +kernel
theorem dc_Row_toNumber_88 : decode prog_6_method_9_code 88 = .ok (.ifCond .eq 8, 3) := by decide +kernel
theorem dc_Row_toNumber_91 : decode prog_6_method_9_code 91 = .ok (.iload_n 2, 1) := by decide +kernel
theorem dc_Row_toNumber_92 : decode prog_6_method_9_code 92 = .ok (.ineg, 1) := by decide +kernel
theorem dc_Row_toNumber_93 : decode prog_6_method_9_code 93 = .ok (.goto 4, 3) := by decide +kernel
theorem dc_Row_toNumber_96 : decode prog_6_method_9_code 96 = .ok (.iload_n 2, 1) := by decide +kernel
theorem dc_Row_toNumber_97 : decode prog_6_method_9_code 97 = .ok (.ireturn, 1) := by decide +kernel
theorem dc_Row_compareWith_0 : decode prog_6_method_10_code 0 = .ok (.aload_n 0, 1) := by decide +kernel
theorem dc_Row_compareWith_1 : decode prog_6_method_10_code 1 = .ok (.getfield 15, 3) := by decide +kernel
theorem dc_Row_compareWith_4 : decode prog_6_method_10_code 4 = .ok (.aload_n 1, 1) := by decide +kernel
theorem dc_Row_compareWith_5 : decode prog_6_method_10_code 5 = .ok (.getfield 15, 3) := by decide +kernel
theorem dc_Row_compareWith_8 : decode prog_6_method_10_code 8 = .ok (.invokestatic 19, 3) := by decide +kernel
theorem dc_Row_compareWith_11 : decode prog_6_method_10_code 11 = .ok (.istore_n 2, 1) := by decide +kernel
theorem dc_Row_compareWith_12 : decode prog_6_method_10_code 12 = .ok (.iconst 0, 1) := by decide +kernel
theorem dc_Row_compareWith_13 : decode prog_6_method_10_code 13 = .ok (.istore_n 3, 1) := by decide +kernel
theorem dc_Row_compareWith_14 : decode prog_6_method_10_code 14 = .ok (.iload_n 3, 1) := by decide +kernel
theorem dc_Row_compareWith_15 : decode prog_6_method_10_code 15 = .ok (.iload_n 2, 1) := by decide +kernel
theorem dc_Row_compareWith_16 : decode prog_6_method_10_code 16 = .ok (.if_icmp .ge 38, 3) := by decide +kernel
theorem dc_Row_compareWith_19 : decode prog_6_method_10_code 19 = .ok (.aload_n 0, 1) := by decide +kernel
theorem dc_Row_compareWith_20 : decode prog_6_method_10_code 20 = .ok (.getfield 9, 3) := by decide +kernel
theorem dc_Row_compareWith_23 : decode prog_6_method_10_code 23 = .ok (.iload_n 3, 1) := by decide +kernel
theorem dc_Row_compareWith_24 : decode prog_6_method_10_code 24 = .ok (.iaload, 1) := by decide +kernel
theorem dc_Row_compareWith_25 : decode prog_6_method_10_code 25 = .ok (.aload_n 1, 1) := by decide +kernel
theorem dc_Row_compareWith_26 : decode prog_6_method_10_code 26 = .ok (.getfield 9, 3) := by decide +kernel
theorem dc_Row_compareWith_29 : decode prog_6_method_10_code 29 = .ok (.iload_n 3, 1) := by decide +kernel
theorem dc_Row_compareWith_30 : decode prog_6_method_10_code 30 = .ok (.iaload, 1) := by decide +kernel
theorem dc_Row_compareWith_31 : decode prog_6_method_10_code 31 = .ok (.if_icmp .eq 17, 3) := by decide +kernel
theorem dc_Row_compareWith_34 : decode prog_6_method_10_code 34 = .ok (.aload_n 0, 1) := by decide +kernel
theorem dc_Row_compareWith_35 : decode prog_6_method_10_code 35 = .ok (.getfield 9, 3) := by decide +kernel
theorem dc_Row_compareWith_38 : decode prog_6_method_10_code 38 = .ok (.iload_n 3, 1) := by decide +kernel
theorem dc_Row_compareWith_39 : decode prog_6_method_10_code 39 = .ok (.iaload, 1) := by decide +kernel
theorem dc_Row_compareWith_40 : decode prog_6_method_10_code 40 = .ok (.aload_n 1, 1) := by decide +kernel
theorem dc_Row_compareWith_41 : decode prog_6_method_10_code 41 = .ok (.getfield 9, 3) := by decide +kernel
theorem dc_Row_compareWith_44 : decode prog_6_method_10_code 44 = .ok (.iload_n 3, 1) := by decide +kernel
theorem dc_Row_compareWith_45 : decode prog_6_method_10_code 45 = .ok (.iaload, 1) := by decide +kernel
theorem dc_Row_compareWith_46 : decode prog_6_method_10_code 46 = .ok (.isub, 1) := by decide +kernel
theorem dc_Row_compareWith_47 : decode prog_6_method_10_code 47 = .ok (.ireturn, 1) := by decide +kernel
theorem dc_Row_compareWith_48 : decode prog_6_method_10_code 48 = .ok (.iinc 3 1, 3) := by decide +kernel
theorem dc_Row_compareWith_51 : decode prog_6_method_10_code 51 = .ok (.goto (-37), 3) := by decide +kernel
theorem dc_Row_compareWith_54 : decode prog_6_method_10_code 54 = .ok (.aload_n 0, 1) := by decide +kernel
theorem dc_Row_compareWith_55 : decode prog_6_method_10_code 55 = .ok (.getfield 15, 3) := by decide +kernel
theorem dc_Row_compareWith_58 : decode prog_6_method_10_code 58 = .ok (.aload_n 1, 1) := by decide +kernel
theorem dc_Row_compareWith_59 : decode prog_6_method_10_code 59 = .ok (.getfield 15, 3) := by decide +kernel
theorem dc_Row_compareWith_62 : decode prog_6_method_10_code 62 = .ok (.isub, 1) := by decide +kernel
theorem dc_Row_compareWith_63 : decode prog_6_method_10_code 63 = .ok (.ireturn, 1) := by decide +kernel
theorem dc_Rul_init_0 : decode prog_7_method_1_code 0 = .ok (.aload_n 0, 1) := by decide +kernel
theorem dc_Rul_init_1 : decode prog_7_method_1_code 1 = .ok (.invokespecial 3, 3) := by decide +kernel
theorem dc_Rul_init_4 : decode prog_7_method_1_code 4 = .ok (.aload_n 0, 1) := by decide +kernel
theorem dc_Rul_init_5 : decode prog_7_method_1_code 5 = .ok (.bipush 10, 2) := by decide +kernel
theorem dc_Rul_init_7 : decode prog_7_method_1_code 7 = .ok (.newarray .int, 2) := by decide +kernel
theorem dc_Rul_init_9 : decode prog_7_method_1_code 9 = .ok (.putfield 9, 3) := by decide +kernel
theorem dc_Rul_init_12 : decode prog_7_method_1_code 12 = .ok (.aload_n 0, 1) := by decide +kernel
theorem dc_Rul_init_13 : decode prog_7_method_1_code 13 = .ok (.bipush 10, 2) := by decide +kernel
theorem dc_Rul_init_15 : decode prog_7_method_1_code 15 = .ok (.newarray .int, 2) := by decide +kernel
theorem dc_Rul_init_17 : decode prog_7_method_1_code 17 = .ok (.putfield 15, 3) := by decide +kernel
theorem dc_Rul_init_20 : decode prog_7_method_1_code 20 = .ok (.aload_n 0, 1) := by decide +kernel
theorem dc_Rul_init_21 : decode prog_7_method_1_code 21 = .ok (.bipush 10, 2) := by decide +kernel
theorem dc_Rul_init_23 : decode prog_7_method_1_code 23 = .ok (.newarray .int, 2) := by decide +kernel
theorem dc_Rul_init_25 : decode prog_7_method_1_code 25 = .ok (.putfield 18, 3) := by decide +kernel
theorem dc_Rul_init_28 : decode prog_7_method_1_code 28 = .ok (.return_, 1) := by decide +kernel
theorem dc_Rul_begin_0 : decode prog_7_method_2_code 0 = .ok (.aload_n 0, 1) := by decide +kernel
theorem dc_Rul_begin_1 : decode prog_7_method_2_code 1 = .ok (.iload_n 1, 1) := by decide +kernel
theorem dc_Rul_begin_2 : decode prog_7_method_2_code 2 = .ok (.putfield 21, 3) := by decide +kernel
theorem dc_Rul_begin_5 : decode prog_7_method_2_code 5 = .ok (.aload_n 0, 1) := by decide +kernel
theorem dc_Rul_begin_6 : decode prog_7_method_2_code 6 = .ok (.iload_n 2, 1) := by decide +kernel
theorem dc_Rul_begin_7 : decode prog_7_method_2_code 7 = .ok (.putfield 25, 3) := by decide +kernel
theorem dc_Rul_begin_10 : decode prog_7_method_2_code 10 = .ok (.aload_n 0, 1) := by decide +kernel
theorem dc_Rul_begin_11 : decode prog_7_method_2_code 11 = .ok (.iload_n 3, 1) := by decide +kernel
theorem dc_Rul_begin_12 : decode prog_7_method_2_code 12 = .ok (.putfield 28, 3) := by decide +kernel
theorem dc_Rul_begin_15 : decode prog_7_method_2_code 15 = .ok (.aload_n 0, 1) := by decide +kernel
theorem dc_Rul_begin_16 : decode prog_7_method_2_code 16 = .ok (.iconst 0, 1) := by decide +kernel
theorem dc_Rul_begin_17 : decode prog_7_method_2_code 17 = .ok (.putfield 31, 3) := by decide +kernel
theorem dc_Rul_begin_20 : decode prog_7_method_2_code 20 = .ok (.return_, 1) := by decide +kernel
theorem dc_Rul_isFull_0 : decode prog_7_method_3_code 0 = .ok (.aload_n 0, 1) := by decide +kernel
theorem dc_Rul_isFull_1 : decode prog_7_method_3_code 1 = .ok (.getfield 31, 3) := by decide +kernel
theorem dc_Rul_isFull_4 : decode prog_7_method_3_code 4 = .ok (.bipush 10, 2) := by decide +kernel
theorem dc_Rul_isFull_6 : decode prog_7_method_3_code 6 = .ok (.if_icmp .ne 7, 3) := by decide +kernel
theorem dc_Rul_isFull_9 : decode prog_7_method_3_code 9 = .ok (.iconst 1, 1) := by decide +kernel
theorem dc_Rul_isFull_10 : decode prog_7_method_3_code 10 = .ok (.goto 4, 3) := by decide +kernel
theorem dc_Rul_isFull_13 : decode prog_7_method_3_code 13 = .ok (.iconst 0, 1) := by decide +kernel
theorem dc_Rul_isFull_14 : decode prog_7_method_3_code 14 = .ok (.ireturn, 1) := by decide +kernel
theorem dc_Rul_add_0 : decode prog_7_method_4_code 0 = .ok (.aload_n 0, 1) := by decide +kernel
theorem dc_Rul_add_1 : decode prog_7_method_4_code 1 = .ok (.invokevirtual 34, 3) := by decide +kernel
theorem dc_Rul_add_4 : decode prog_7_method_4_code 4 = .ok (.ifCond .ne 43, 3) := by decide +kernel
theorem dc_Rul_add_7 : decode prog_7_method_4_code 7 = .ok (.aload_n 0, 1) := by decide +kernel
theorem dc_Rul_add_8 : decode prog_7_method_4_code 8 = .ok (.getfield 9, 3) := by decide +kernel
theorem dc_Rul_add_11 : decode prog_7_method_4_code 11 = .ok (.aload_n 0, 1) := by decide +kernel
theorem dc_Rul_add_12 : decode prog_7_method_4_code 12 = .ok (.getfield 31, 3) := by decide +kernel
theorem dc_Rul_add_15 : decode prog_7_method_4_code 15 = .ok (.iload_n 1, 1) := by decide +kernel
theorem dc_Rul_add_16 : decode prog_7_method_4_code 16 = .ok (.iastore, 1) := by decide +kernel
theorem dc_Rul_add_17 : decode prog_7_method_4_code 17 = .ok (.aload_n 0, 1) := by decide +kernel
theorem dc_Rul_add_18 : decode prog_7_method_4_code 18 = .ok (.getfield 15, 3) := by decide +kernel
theorem dc_Rul_add_21 : decode prog_7_method_4_code 21 = .ok (.aload_n 0, 1) := by decide +kernel
theorem dc_Rul_add_22 : decode prog_7_method_4_code 22 = .ok (.getfield 31, 3) := by decide +kernel
theorem dc_Rul_add_25 : decode prog_7_method_4_code 25 = .ok (.iload_n 2, 1) := by decide +kernel
theorem dc_Rul_add_26 : decode prog_7_method_4_code 26 = .ok (.iastore, 1) := by decide +kernel
theorem dc_Rul_add_27 : decode prog_7_method_4_code 27 = .ok (.aload_n 0, 1) := by decide +kernel
theorem dc_Rul_add_28 : decode prog_7_method_4_code 28 = .ok (.getfield 18, 3) := by decide +kernel
theorem dc_Rul_add_31 : decode prog_7_method_4_code 31 = .ok (.aload_n 0, 1) := by decide +kernel
theorem dc_Rul_add_32 : decode prog_7_method_4_code 32 = .ok (.getfield 31, 3) := by decide +kernel
theorem dc_Rul_add_35 : decode prog_7_method_4_code 35 = .ok (.iload_n 3, 1) := by decide +kernel
theorem dc_Rul_add_36 : decode prog_7_method_4_code 36 = .ok (.iastore, 1) := by decide +kernel
theorem dc_Rul_add_37 : decode prog_7_method_4_code 37 = .ok (.aload_n 0, 1) := by decide +kernel
theorem dc_Rul_add_38 : decode prog_7_method_4_code 38 = .ok (.dup, 1) := by decide +kernel
theorem dc_Rul_add_39 : decode prog_7_method_4_code 39 = .ok (.getfield 31, 3) := by decide +kernel
theorem dc_Rul_add_42 : decode prog_7_method_4_code 42 = .ok (.iconst 1, 1) := by decide +kernel
theorem dc_Rul_add_43 : decode prog_7_method_4_code 43 = .ok (.iadd, 1) := by decide +kernel
theorem dc_Rul_add_44 : decode prog_7_method_4_code 44 = .ok (.putfield 31, 3) := by decide +kernel
theorem dc_Rul_add_47 : decode prog_7_method_4_code 47 = .ok (.aload_n 0, 1) := by decide +kernel
theorem dc_Rul_add_48 : decode prog_7_method_4_code 48 = .ok (.getfield 31, 3) := by decide +kernel
theorem dc_Rul_add_51 : decode prog_7_method_4_code 51 = .ok (.ireturn, 1) := by decide +kernel
theorem dc_Tab_init_0 : decode prog_8_method_1_code 0 = .ok (.aload_n 0, 1) := by decide +kernel
theorem dc_Tab_init_1 : decode prog_8_method_1_code 1 = .ok (.invokespecial 3, 3) := by decide +kernel
theorem dc_Tab_init_4 : decode prog_8_method_1_code 4 = .ok (.aload_n 0, 1) := by decide +kernel
theorem dc_Tab_init_5 : decode prog_8_method_1_code 5 = .ok (.bipush 40, 2) := by decide +kernel
theorem dc_Tab_init_7 : decode prog_8_method_1_code 7 = .ok (.anewarray 9, 3) := by decide +kernel
theorem dc_Tab_init_10 : decode prog_8_method_1_code 10 = .ok (.putfield 11, 3) := by decide +kernel
theorem dc_Tab_init_13 : decode prog_8_method_1_code 13 = .ok (.aload_n 0, 1) := by decide +kernel
theorem dc_Tab_init_14 : decode prog_8_method_1_code 14 = .ok (.bipush 40, 2) := by decide +kernel
theorem dc_Tab_init_16 : decode prog_8_method_1_code 16 = .ok (.newarray .int, 2) := by decide +kernel
theorem dc_Tab_init_18 : decode prog_8_method_1_code 18 = .ok (.putfield 17, 3) := by decide +kernel
theorem dc_Tab_init_21 : decode prog_8_method_1_code 21 = .ok (.return_, 1) := by decide +kernel
theorem dc_Tab_grow_0 : decode prog_8_method_2_code 0 = .ok (.aload_n 0, 1) := by decide +kernel
theorem dc_Tab_grow_1 : decode prog_8_method_2_code 1 = .ok (.aload_n 1, 1) := by decide +kernel
theorem dc_Tab_grow_2 : decode prog_8_method_2_code 2 = .ok (.invokevirtual 21, 3) := by decide +kernel
theorem dc_Tab_grow_5 : decode prog_8_method_2_code 5 = .ok (.istore_n 3, 1) := by decide +kernel
theorem dc_Tab_grow_6 : decode prog_8_method_2_code 6 = .ok (.iload_n 3, 1) := by decide +kernel
theorem dc_Tab_grow_7 : decode prog_8_method_2_code 7 = .ok (.aload_n 0, 1) := by decide +kernel
theorem dc_Tab_grow_8 : decode prog_8_method_2_code 8 = .ok (.getfield 25, 3) := by decide +kernel
theorem dc_Tab_grow_11 : decode prog_8_method_2_code 11 = .ok (.if_icmp .ge 29, 3) := by decide +kernel
theorem dc_Tab_grow_14 : decode prog_8_method_2_code 14 = .ok (.aload_n 0, 1) := by decide +kernel
theorem dc_Tab_grow_15 : decode prog_8_method_2_code 15 = .ok (.getfield 11, 3) := by decide +kernel
theorem dc_Tab_grow_18 : decode prog_8_method_2_code 18 = .ok (.iload_n 3, 1) := by decide +kernel
theorem dc_Tab_grow_19 : decode prog_8_method_2_code 19 = .ok (.aaload, 1) := by decide +kernel
theorem dc_Tab_grow_20 : decode prog_8_method_2_code 20 = .ok (.aload_n 1, 1) := by decide +kernel
theorem dc_Tab_grow_21 : decode prog_8_method_2_code 21 = .ok (.invokevirtual 29, 3) := by decide +kernel
theorem dc_Tab_grow_24 : decode prog_8_method_2_code 24 = .ok (.ifCond .ne 16, 3) := by decide +kernel
theorem dc_Tab_grow_27 : decode prog_8_method_2_code 27 = .ok (.aload_n 0, 1) := by decide +kernel
theorem dc_Tab_grow_28 : decode prog_8_method_2_code 28 = .ok (.getfield 17, 3) := by decide +kernel
theorem dc_Tab_grow_31 : decode prog_8_method_2_code 31 = .ok (.iload_n 3, 1) := by decide +kernel
theorem dc_Tab_grow_32 : decode prog_8_method_2_code 32 = .ok (.dup2, 1) := by decide +kernel
theorem dc_Tab_grow_33 : decode prog_8_method_2_code 33 = .ok (.iaload, 1) := by decide +kernel
theorem dc_Tab_grow_34 : decode prog_8_method_2_code 34 = .ok (.iload_n 2, 1) := by decide +kernel
theorem dc_Tab_grow_35 : decode prog_8_method_2_code 35 = .ok (.iadd, 1) := by decide +kernel
theorem dc_Tab_grow_36 : decode prog_8_method_2_code 36 = .ok (.iastore, 1) := by decide +kernel
theorem dc_Tab_grow_37 : decode prog_8_method_2_code 37 = .ok (.goto 19, 3) := by decide +kernel
theorem dc_Tab_grow_40 : decode prog_8_method_2_code 40 = .ok (.aload_n 0, 1) := by decide +kernel
theorem dc_Tab_grow_41 : decode prog_8_method_2_code 41 = .ok (.getfield 25, 3) := by decide +kernel
theorem dc_Tab_grow_44 : decode prog_8_method_2_code 44 = .ok (.bipush 40, 2) := by decide +kernel
theorem dc_Tab_grow_46 : decode prog_8_method_2_code 46 = .ok (.if_icmp .ge 10, 3) := by decide +kernel
theorem dc_Tab_grow_49 : decode prog_8_method_2_code 49 = .ok (.aload_n 0, 1) := by decide +kernel
theorem dc_Tab_grow_50 : decode prog_8_method_2_code 50 = .ok (.iload_n 3, 1) := by decide +kernel
theorem dc_Tab_grow_51 : decode prog_8_method_2_code 51 = .ok (.aload_n 1, 1) := by decide +kernel
theorem dc_Tab_grow_52 : decode prog_8_method_2_code 52 = .ok (.iload_n 2, 1) := by decide +kernel
theorem dc_Tab_grow_53 : decode prog_8_method_2_code 53 = .ok (.invokevirtual 32, 3) := by decide +kernel
theorem dc_Tab_grow_56 : decode prog_8_method_2_code 56 = .ok (.return_, 1) := by decide +kernel
theorem dc_Tab_placeOf_0 : decode prog_8_method_3_code 0 = .ok (.iconst 0, 1) := by decide +kernel
theorem dc_Tab_placeOf_1 : decode prog_8_method_3_code 1 = .ok (.istore_n 2, 1) := by decide +kernel
theorem dc_Tab_placeOf_2 : decode prog_8_method_3_code 2 = .ok (.iload_n 2, 1) := by decide +kernel
theorem dc_Tab_placeOf_3 : decode prog_8_method_3_code 3 = .ok (.aload_n 0, 1) := by decide +kernel
theorem dc_Tab_placeOf_4 : decode prog_8_method_3_code 4 = .ok (.getfield 25, 3) := by decide +kernel
theorem dc_Tab_placeOf_7 : decode prog_8_method_3_code 7 = .ok (.if_icmp .ge 24, 3) := by decide +kernel
theorem dc_Tab_placeOf_10 : decode prog_8_method_3_code 10 = .ok (.aload_n 0, 1) := by decide +kernel
theorem dc_Tab_placeOf_11 : decode prog_8_method_3_code 11 = .ok (.getfield 11, 3) := by decide +kernel
theorem dc_Tab_placeOf_14 : decode prog_8_method_3_code 14 = .ok (.iload_n 2, 1) := by decide +kernel
theorem dc_Tab_placeOf_15 : decode prog_8_method_3_code 15 = .ok (.aaload, 1) := by decide +kernel
theorem dc_Tab_placeOf_16 : decode prog_8_method_3_code 16 = .ok (.aload_n 1, 1) := by decide +kernel
theorem dc_Tab_placeOf_17 : decode prog_8_method_3_code 17 = .ok (.invokevirtual 29, 3) := by decide +kernel
theorem dc_Tab_placeOf_20 : decode prog_8_method_3_code 20 = .ok (.ifCond .lt 5, 3) := by decide +kernel
theorem dc_Tab_placeOf_23 : decode prog_8_method_3_code 23 = .ok (.iload_n 2, 1) := by decide +kernel
theorem dc_Tab_placeOf_24 : decode prog_8_method_3_code 24 = .ok (.ireturn, 1) := by decide +kernel
theorem dc_Tab_placeOf_25 : decode prog_8_method_3_code 25 = .ok (.iinc 2 1, 3) := by decide +kernel
theorem dc_Tab_placeOf_28 : decode prog_8_method_3_code 28 = .ok (.goto (-26), 3) := by decide +kernel
theorem dc_Tab_placeOf_31 : decode prog_8_method_3_code 31 = .ok (.aload_n 0, 1) := by decide +kernel
theorem dc_Tab_placeOf_32 : decode prog_8_method_3_code 32 = .ok (.getfield 25, 3) := by decide +kernel
theorem dc_Tab_placeOf_35 : decode prog_8_method_3_code 35 = .ok (.ireturn, 1) := by decide +kernel
theorem dc_Tab_insert_0 : decode prog_8_method_4_code 0 = .ok (.aload_n 0, 1) := by decide +kernel
theorem dc_Tab_insert_1 : decode prog_8_method_4_code 1 = .ok (.getfield 25, 3) := by decide +kernel
theorem dc_Tab_insert_4 : decode prog_8_method_4_code 4 = .ok (.istore 4, 2) := by decide +kernel
theorem dc_Tab_insert_6 : decode prog_8_method_4_code 6 = .ok (.iload 4, 2) := by decide +kernel
theorem dc_Tab_insert_8 : decode prog_8_method_4_code 8 = .ok (.iload_n 1, 1) := by decide +kernel
theorem dc_Tab_insert_9 : decode prog_8_method_4_code 9 = .ok (.if_icmp .le 41, 3) := by decide +kernel
theorem dc_Tab_insert_12 : decode prog_8_method_4_code 12 = .ok (.aload_n 0, 1) := by decide +kernel
theorem dc_Tab_insert_13 : decode prog_8_method_4_code 13 = .ok (.getfield 11, 3) := by decide +kernel
theorem dc_Tab_insert_16 : decode prog_8_method_4_code 16 = .ok (.iload 4, 2) := by decide +kernel
theorem dc_Tab_insert_18 : decode prog_8_method_4_code 18 = .ok (.aload_n 0, 1) := by decide +kernel
theorem dc_Tab_insert_19 : decode prog_8_method_4_code 19 = .ok (.getfield 11, 3) := by decide +kernel
theorem dc_Tab_insert_22 : decode prog_8_method_4_code 22 = .ok (.iload 4, 2) := by decide +kernel
theorem dc_Tab_insert_24 : decode prog_8_method_4_code 24 = .ok (.iconst 1, 1) := by decide +kernel
theorem dc_Tab_insert_25 : decode prog_8_method_4_code 25 = .ok (.isub, 1) := by decide +kernel
theorem dc_Tab_insert_26 : decode prog_8_method_4_code 26 = .ok (.aaload, 1) := by decide +kernel
theorem dc_Tab_insert_27 : decode prog_8_method_4_code 27 = .ok (.aastore, 1) := by decide +kernel
theorem dc_Tab_insert_28 : decode prog_8_method_4_code 28 = .ok (.aload_n 0, 1) := by decide +kernel
theorem dc_Tab_insert_29 : decode prog_8_method_4_code 29 = .ok (.getfield 17, 3) := by decide +kernel
theorem dc_Tab_insert_32 : decode prog_8_method_4_code 32 = .ok (.iload 4, 2) := by decide +kernel
theorem dc_Tab_insert_34 : decode prog_8_method_4_code 34 = .ok (.aload_n 0, 1) := by decide +kernel
theorem dc_Tab_insert_35 : decode prog_8_method_4_code 35 = .ok (.getfield 17, 3) := by decide +kernel
theorem dc_Tab_insert_38 : decode prog_8_method_4_code 38 = .ok (.iload 4, 2) := by decide +kernel
theorem dc_Tab_insert_40 : decode prog_8_method_4_code 40 = .ok (.iconst 1, 1) := by decide +kernel
theorem dc_Tab_insert_41 : decode prog_8_method_4_code 41 = .ok (.isub, 1) := by decide +kernel
theorem dc_Tab_insert_42 : decode prog_8_method_4_code 42 = .ok (.iaload, 1) := by decide +kernel
theorem dc_Tab_insert_43 : decode prog_8_method_4_code 43 = .ok (.iastore, 1) := by decide +kernel
theorem dc_Tab_insert_44 : decode prog_8_method_4_code 44 = .ok (.iinc 4 (-1), 3) := by decide +kernel
theorem dc_Tab_insert_47 : decode prog_8_method_4_code 47 = .ok (.goto (-41), 3) := by decide +kernel
theorem dc_Tab_insert_50 : decode prog_8_method_4_code 50 = .ok (.aload_n 0, 1) := by decide +kernel
theorem dc_Tab_insert_51 : decode prog_8_method_4_code 51 = .ok (.getfield 11, 3) := by decide +kernel
theorem dc_Tab_insert_54 : decode prog_8_method_4_code 54 = .ok (.iload_n 1, 1) := by decide +kernel
theorem dc_Tab_insert_55 : decode prog_8_method_4_code 55 = .ok (.new 9, 3) := by decide +kernel
theorem dc_Tab_insert_58 : decode prog_8_method_4_code 58 = .ok (.dup, 1) := by decide +kernel
theorem dc_Tab_insert_59 : decode prog_8_method_4_code 59 = .ok (.aload_n 2, 1) := by decide +kernel
theorem dc_Tab_insert_60 : decode prog_8_method_4_code 60 = .ok (.getfield 36, 3) := by decide +kernel
theorem dc_Tab_insert_63 : decode prog_8_method_4_code 63 = .ok (.invokespecial 39, 3) := by decide +kernel
theorem dc_Tab_insert_66 : decode prog_8_method_4_code 66 = .ok (.aastore, 1) := by decide +kernel
theorem dc_Tab_insert_67 : decode prog_8_method_4_code 67 = .ok (.aload_n 0, 1) := by decide +kernel
theorem dc_Tab_insert_68 : decode prog_8_method_4_code 68 = .ok (.getfield 11, 3) := by decide +kernel
theorem dc_Tab_insert_71 : decode prog_8_method_4_code 71 = .ok (.iload_n 1, 1) := by decide +kernel
theorem dc_Tab_insert_72 : decode prog_8_method_4_code 72 = .ok (.aaload, 1) := by decide +kernel
theorem dc_Tab_insert_73 : decode prog_8_method_4_code 73 = .ok (.aload_n 2, 1) := by decide +kernel
theorem dc_Tab_insert_74 : decode prog_8_method_4_code 74 = .ok (.invokevirtual 42, 3) := by decide +kernel
theorem dc_Tab_insert_77 : decode prog_8_method_4_code 77 = .ok (.aload_n 0, 1) := by decide +kernel
theorem dc_Tab_insert_78 : decode prog_8_method_4_code 78 = .ok (.getfield 17, 3) := by decide +kernel
theorem dc_Tab_insert_81 : decode prog_8_method_4_code 81 = .ok (.iload_n 1, 1) := by decide +kernel
theorem dc_Tab_insert_82 : decode prog_8_method_4_code 82 = .ok (.iload_n 3, 1) := by decide +kernel
theorem dc_Tab_insert_83 : decode prog_8_method_4_code 83 = .ok (.iastore, 1) := by decide +kernel
theorem dc_Tab_insert_84 : decode prog_8_method_4_code 84 = .ok (.aload_n 0, 1) := by decide +kernel
theorem dc_Tab_insert_85 : decode prog_8_method_4_code 85 = .ok (.dup, 1) := by decide +kernel
theorem dc_Tab_insert_86 : decode prog_8_method_4_code 86 = .ok (.getfield 25, 3) := by decide +kernel
theorem dc_Tab_insert_89 : decode prog_8_method_4_code 89 = .ok (.iconst 1, 1) := by decide +kernel
theorem dc_Tab_insert_90 : decode prog_8_method_4_code 90 = .ok (.iadd, 1) := by decide +kernel
theorem dc_Tab_insert_91 : decode prog_8_method_4_code 91 = .ok (.putfield 25, 3) := by decide +kernel
theorem dc_Tab_insert_94 : decode prog_8_method_4_code 94 = .ok (.return_, 1) := by decide +kernel
theorem dc_Mth_floorMod_0 : decode prog_14_method_50_code 0 = .ok (.iload_n 0, 1) := by decide +kernel
theorem dc_Mth_floorMod_1 : decode prog_14_method_50_code 1 = .ok (.iload_n 1, 1) := by decide +kernel
theorem dc_Mth_floorMod_2 : decode prog_14_method_50_code 2 = .ok (.irem, 1) := by decide +kernel
theorem dc_Mth_floorMod_3 : decode prog_14_method_50_code 3 = .ok (.istore_n 2, 1) := by decide +kernel
theorem dc_Mth_floorMod_4 : decode prog_14_method_50_code 4 = .ok (.iload_n 0, 1) := by decide +kernel
theorem dc_Mth_floorMod_5 : decode prog_14_method_50_code 5 = .ok (.iload_n 1, 1) := by decide +kernel
theorem dc_Mth_floorMod_6 : decode prog_14_method_50_code 6 = .ok (.ixor, 1) := by decide +kernel
theorem dc_Mth_floorMod_7 : decode prog_14_method_50_code 7 = .ok (.ifCond .ge 11, 3) := by decide +kernel
theorem dc_Mth_floorMod_10 : decode prog_14_method_50_code 10 = .ok (.iload_n 2, 1) := by decide +kernel
theorem dc_Mth_floorMod_11 : decode prog_14_method_50_code 11 = .ok (.ifCond .eq 7, 3) := by decide +kernel
theorem dc_Mth_floorMod_14 : decode prog_14_method_50_code 14 = .ok (.iload_n 2, 1) := by decide +kernel
theorem dc_Mth_floorMod_15 : decode prog_14_method_50_code 15 = .ok (.iload_n 1, 1) := by decide +kernel
theorem dc_Mth_floorMod_16 : decode prog_14_method_50_code 16 = .ok (.iadd, 1) := by decide +kernel
theorem dc_Mth_floorMod_17 : decode prog_14_method_50_code 17 = .ok (.ireturn, 1) := by decide +kernel
theorem dc_Mth_floorMod_18 : decode prog_14_method_50_code 18 = .ok (.iload_n 2, 1) := by decide +kernel
theorem dc_Mth_floorMod_19 : decode prog_14_method_50_code 19 = .ok (.ireturn, 1) := by decide +kernel
theorem dc_Mth_min_0 : decode prog_14_method_69_code 0 = .ok (.iload_n 0, 1) := by decide +kernel
theorem dc_Mth_min_1 : decode prog_14_method_69_code 1 = .ok (.iload_n 1, 1) := by decide +kernel
theorem dc_Mth_min_2 : decode prog_14_method_69_code 2 = .ok (.if_icmp .gt 7, 3) := by decide +kernel
theorem dc_Mth_min_5 : decode prog_14_method_69_code 5 = .ok (.iload_n 0, 1) := by decide +kernel
theorem dc_Mth_min_6 : decode prog_14_method_69_code 6 = .ok (.goto 4, 3) := by decide +kernel
theorem dc_Mth_min_9 : decode prog_14_method_69_code 9 = .ok (.iload_n 1, 1) := by decide +kernel
theorem dc_Mth_min_10 : decode prog_14_method_69_code 10 = .ok (.ireturn, 1) := by decide +kernel
theorem dc_Arr_fill_0 : decode prog_19_method_101_code 0 = .ok (.iconst 0, 1) := by decide +kernel
theorem dc_Arr_fill_1 : decode prog_19_method_101_code 1 = .ok (.istore_n 3, 1) := by decide +kernel
theorem dc_Arr_fill_2 : decode prog_19_method_101_code 2 = .ok (.aload_n 0, 1) := by decide +kernel
theorem dc_Arr_fill_3 : decode prog_19_method_101_code 3 = .ok (.arraylength, 1) := by decide +kernel
theorem dc_Arr_fill_4 : decode prog_19_method_101_code 4 = .ok (.istore 4, 2) := by decide +kernel
theorem dc_Arr_fill_6 : decode prog_19_method_101_code 6 = .ok (.iload_n 3, 1) := by decide +kernel
theorem dc_Arr_fill_7 : decode prog_19_method_101_code 7 = .ok (.iload 4, 2) := by decide +kernel
theorem dc_Arr_fill_9 : decode prog_19_method_101_code 9 = .ok (.if_icmp .ge 13, 3) := by decide +kernel
theorem dc_Arr_fill_12 : decode prog_19_method_101_code 12 = .ok (.aload_n 0, 1) := by decide +kernel
theorem dc_Arr_fill_13 : decode prog_19_method_101_code 13 = .ok (.iload_n 3, 1) := by decide +kernel
theorem dc_Arr_fill_14 : decode prog_19_method_101_code 14 = .ok (.lload_n 1, 1) := by decide +kernel
theorem dc_Arr_fill_15 : decode prog_19_method_101_code 15 = .ok (.lastore, 1) := by decide +kernel
theorem dc_Arr_fill_16 : decode prog_19_method_101_code 16 = .ok (.iinc 3 1, 3) := by decide +kernel
theorem dc_Arr_fill_19 : decode prog_19_method_101_code 19 = .ok (.goto (-13), 3) := by decide +kernel
theorem dc_Arr_fill_22 : decode prog_19_method_101_code 22 = .ok (.return_, 1) := by decide +kernel
end
section
theorem dc_Cut_init_0 : decode prog_2_method_1_code 0 = .ok (.aload_n 0, 1) := by decide +kernel
theorem dc_Cut_init_1 : decode prog_2_method_1_code 1 = .ok (.invokespecial 3, 3) := by decide +kernel
theorem dc_Cut_init_4 : decode prog_2_method_1_code 4 = .ok (.aload_n 0, 1) := by decide +kernel
theorem dc_Cut_init_5 : decode prog_2_method_1_code 5 = .ok (.new 9, 3) := by decide +kernel
theorem dc_Cut_init_8 : decode prog_2_method_1_code 8 = .ok (.dup, 1) := by decide +kernel
theorem dc_Cut_init_9 : decode prog_2_method_1_code 9 = .ok (.bipush 120, 2) := by decide +kernel
theorem dc_Cut_init_11 : decode prog_2_method_1_code 11 = .ok (.invokespecial 11, 3) := by decide +kernel
theorem dc_Cut_init_14 : decode prog_2_method_1_code 14 = .ok (.putfield 14, 3) := by decide +kernel
theorem dc_Cut_init_17 : decode prog_2_method_1_code 17 = .ok (.aload_n 0, 1) := by decide +kernel
theorem dc_Cut_init_18 : decode prog_2_method_1_code 18 = .ok (.bipush 30, 2) := by decide +kernel
theorem dc_Cut_init_20 : decode prog_2_method_1_code 20 = .ok (.anewarray 9, 3) := by decide +kernel
theorem dc_Cut_init_23 : decode prog_2_method_1_code 23 = .ok (.putfield 20, 3) := by decide +kernel
theorem dc_Cut_init_26 : decode prog_2_method_1_code 26 = .ok (.aload_n 0, 1) := by decide +kernel
theorem dc_Cut_init_27 : decode prog_2_method_1_code 27 = .ok (.new 9, 3) := by decide +kernel
theorem dc_Cut_init_30 : decode prog_2_method_1_code 30 = .ok (.dup, 1) := by decide +kernel
theorem dc_Cut_init_31 : decode prog_2_method_1_code 31 = .ok (.iconst 0, 1) := by decide +kernel
theorem dc_Cut_init_32 : decode prog_2_method_1_code 32 = .ok (.invokespecial 11, 3) := by decide +kernel
theorem dc_Cut_init_35 : decode prog_2_method_1_code 35 = .ok (.putfield 24, 3) := by decide +kernel
theorem dc_Cut_init_38 : decode prog_2_method_1_code 38 = .ok (.aload_n 0, 1) := by decide +kernel
theorem dc_Cut_init_39 : decode prog_2_method_1_code 39 = .ok (.new 9, 3) := by decide +kernel
theorem dc_Cut_init_42 : decode prog_2_method_1_code 42 = .ok (.dup, 1) := by decide +kernel
theorem dc_Cut_init_43 : decode prog_2_method_1_code 43 = .ok (.bipush 120, 2) := by decide +kernel
theorem dc_Cut_init_45 : decode prog_2_method_1_code 45 = .ok (.invokespecial 11, 3) := by decide +kernel
theorem dc_Cut_init_48 : decode prog_2_method_1_code 48 = .ok (.putfield 27, 3) := by decide +kernel
theorem dc_Cut_init_51 : decode prog_2_method_1_code 51 = .ok (.iconst 0, 1) := by decide +kernel
theorem dc_Cut_init_52 : decode prog_2_method_1_code 52 = .ok (.istore_n 1, 1) := by decide +kernel
theorem dc_Cut_init_53 : decode prog_2_method_1_code 53 = .ok (.iload_n 1, 1) := by decide +kernel
theorem dc_Cut_init_54 : decode prog_2_method_1_code 54 = .ok (.bipush 30, 2) := by decide +kernel
theorem dc_Cut_init_56 : decode prog_2_method_1_code 56 = .ok (.if_icmp .ge 24, 3) := by decide +kernel
theorem dc_Cut_init_59 : decode prog_2_method_1_code 59 = .ok (.aload_n 0, 1) := by decide +kernel
theorem dc_Cut_init_60 : decode prog_2_method_1_code 60 = .ok (.getfield 20, 3) := by decide +kernel
theorem dc_Cut_init_63 : decode prog_2_method_1_code 63 = .ok (.iload_n 1, 1) := by decide +kernel
theorem dc_Cut_init_64 : decode prog_2_method_1_code 64 = .ok (.new 9, 3) := by decide +kernel
theorem dc_Cut_init_67 : decode prog_2_method_1_code 67 = .ok (.dup, 1) := by decide +kernel
theorem dc_Cut_init_68 : decode prog_2_method_1_code 68 = .ok (.bipush 120, 2) := by decide +kernel
theorem dc_Cut_init_70 : decode prog_2_method_1_code 70 = .ok (.invokespecial 11, 3) := by decide +kernel
theorem dc_Cut_init_73 : decode prog_2_method_1_code 73 = .ok (.aastore, 1) := by decide +kernel
theorem dc_Cut_init_74 : decode prog_2_method_1_code 74 = .ok (.iinc 1 1, 3) := by decide +kernel
theorem dc_Cut_init_77 : decode prog_2_method_1_code 77 = .ok (.goto (-24), 3) := by decide +kernel
theorem dc_Cut_init_80 : decode prog_2_method_1_code 80 = .ok (.return_, 1) := by decide +kernel
theorem dc_Cut_begin_0 : decode prog_2_method_2_code 0 = .ok (.aload_n 0, 1) := by decide +kernel
theorem dc_Cut_begin_1 : decode prog_2_method_2_code 1 = .ok (.getfield 14, 3) := by decide +kernel
theorem dc_Cut_begin_4 : decode prog_2_method_2_code 4 = .ok (.aload_n 1, 1) := by decide +kernel
theorem dc_Cut_begin_5 : decode prog_2_method_2_code 5 = .ok (.invokevirtual 30, 3) := by decide +kernel
theorem dc_Cut_begin_8 : decode prog_2_method_2_code 8 = .ok (.aload_n 0, 1) := by decide +kernel
theorem dc_Cut_begin_9 : decode prog_2_method_2_code 9 = .ok (.iload_n 2, 1) := by decide +kernel
theorem dc_Cut_begin_10 : decode prog_2_method_2_code 10 = .ok (.invokevirtual 34, 3) := by decide +kernel
theorem dc_Cut_begin_13 : decode prog_2_method_2_code 13 = .ok (.return_, 1) := by decide +kernel
theorem dc_Cut_cut_0 : decode prog_2_method_3_code 0 = .ok (.aload_n 0, 1) := by decide +kernel
theorem dc_Cut_cut_1 : decode prog_2_method_3_code 1 = .ok (.iconst 0, 1) := by decide +kernel
theorem dc_Cut_cut_2 : decode prog_2_method_3_code 2 = .ok (.putfield 37, 3) := by decide +kernel
theorem dc_Cut_cut_5 : decode prog_2_method_3_code 5 = .ok (.iload_n 1, 1) := by decide +kernel
theorem dc_Cut_cut_6 : decode prog_2_method_3_code 6 = .ok (.bipush 32, 2) := by decide +kernel
theorem dc_Cut_cut_8 : decode prog_2_method_3_code 8 = .ok (.if_icmp .eq 17, 3) := by decide +kernel
theorem dc_Cut_cut_11 : decode prog_2_method_3_code 11 = .ok (.aload_n 0, 1) := by decide +kernel
theorem dc_Cut_cut_12 : decode prog_2_method_3_code 12 = .ok (.getfield 14, 3) := by decide +kernel
theorem dc_Cut_cut_15 : decode prog_2_method_3_code 15 = .ok (.getfield 41, 3) := by decide +kernel
theorem dc_Cut_cut_18 : decode prog_2_method_3_code 18 = .ok (.ifCond .le 7, 3) := by decide +kernel
theorem dc_Cut_cut_21 : decode prog_2_method_3_code 21 = .ok (.iconst 1, 1) := by decide +kernel
theorem dc_Cut_cut_22 : decode prog_2_method_3_code 22 = .ok (.goto 4, 3) := by decide +kernel
theorem dc_Cut_cut_25 : decode prog_2_method_3_code 25 = .ok (.iconst 0, 1) := by decide +kernel
theorem dc_Cut_cut_26 : decode prog_2_method_3_code 26 = .ok (.istore_n 2, 1) := by decide +kernel
theorem dc_Cut_cut_27 : decode prog_2_method_3_code 27 = .ok (.iconst 0, 1) := by decide +kernel
theorem dc_Cut_cut_28 : decode prog_2_method_3_code 28 = .ok (.istore_n 3, 1) := by decide +kernel
theorem dc_Cut_cut_29 : decode prog_2_method_3_code 29 = .ok (.iconst 0, 1) := by decide +kernel
theorem dc_Cut_cut_30 : decode prog_2_method_3_code 30 = .ok (.istore 4, 2) := by decide +kernel
theorem dc_Cut_cut_32 : decode prog_2_method_3_code 32 = .ok (.iload 4, 2) := by decide +kernel
theorem dc_Cut_cut_34 : decode prog_2_method_3_code 34 = .ok (.aload_n 0, 1) := by decide +kernel
theorem dc_Cut_cut_35 : decode prog_2_method_3_code 35 = .ok (.getfield 14, 3) := by decide +kernel
theorem dc_Cut_cut_38 : decode prog_2_method_3_code 38 = .ok (.getfield 41, 3) := by decide +kernel
theorem dc_Cut_cut_41 : decode prog_2_method_3_code 41 = .ok (.if_icmp .gt 57, 3) := by decide +kernel
theorem dc_Cut_cut_44 : decode prog_2_method_3_code 44 = .ok (.iload 4, 2) := by decide +kernel
theorem dc_Cut_cut_46 : decode prog_2_method_3_code 46 = .ok (.aload_n 0, 1) := by decide +kernel
theorem dc_Cut_cut_47 : decode prog_2_method_3_code 47 = .ok (.getfield 14, 3) := by decide +kernel
theorem dc_Cut_cut_50 : decode prog_2_method_3_code 50 = .ok (.getfield 41, 3) := by decide +kernel
theorem dc_Cut_cut_53 : decode prog_2_method_3_code 53 = .ok (.if_icmp .eq 17, 3) := by decide +kernel
theorem dc_Cut_cut_56 : decode prog_2_method_3_code 56 = .ok (.aload_n 0, 1) := by decide +kernel
theorem dc_Cut_cut_57 : decode prog_2_method_3_code 57 = .ok (.getfield 14, 3) := by decide +kernel
theorem dc_Cut_cut_60 : decode prog_2_method_3_code 60 = .ok (.getfield 44, 3) := by decide +kernel
theorem dc_Cut_cut_63 : decode prog_2_method_3_code 63 = .ok (.iload 4, 2) := by decide +kernel
theorem dc_Cut_cut_65 : decode prog_2_method_3_code 65 = .ok (.iaload, 1) := by decide +kernel
theorem dc_Cut_cut_66 : decode prog_2_method_3_code 66 = .ok (.iload_n 1, 1) := by decide +kernel
theorem dc_Cut_cut_67 : decode prog_2_method_3_code 67 = .ok (.if_icmp .ne 25, 3) := by decide +kernel
theorem dc_Cut_cut_70 : decode prog_2_method_3_code 70 = .ok (.iload 4, 2) := by decide +kernel
theorem dc_Cut_cut_72 : decode prog_2_method_3_code 72 = .ok (.iload_n 3, 1) := by decide +kernel
theorem dc_Cut_cut_73 : decode prog_2_method_3_code 73 = .ok (.if_icmp .gt 7, 3) := by decide +kernel
theorem dc_Cut_cut_76 : decode prog_2_method_3_code 76 = .ok (.iload_n 2, 1) := by decide +kernel
theorem dc_Cut_cut_77 : decode prog_2_method_3_code 77 = .ok (.ifCond .eq 10, 3) := by decide +kernel
theorem dc_Cut_cut_80 : decode prog_2_method_3_code 80 = .ok (.aload_n 0, 1) := by decide +kernel
theorem dc_Cut_cut_81 : decode prog_2_method_3_code 81 = .ok (.iload_n 3, 1) := by decide +kernel
theorem dc_Cut_cut_82 : decode prog_2_method_3_code 82 = .ok (.iload 4, 2) := by decide +kernel
theorem dc_Cut_cut_84 : decode prog_2_method_3_code 84 = .ok (.invokevirtual 48, 3) := by decide +kernel
theorem dc_Cut_cut_87 : decode prog_2_method_3_code 87 = .ok (.iload 4, 2) := by decide +kernel
theorem dc_Cut_cut_89 : decode prog_2_method_3_code 89 = .ok (.iconst 1, 1) := by decide +kernel
theorem dc_Cut_cut_90 : decode prog_2_method_3_code 90 = .ok (.iadd, 1) := by decide +kernel
theorem dc_Cut_cut_91 : decode prog_2_method_3_code 91 = .ok (.istore_n 3, 1) := by decide +kernel
theorem dc_Cut_cut_92 : decode prog_2_method_3_code 92 = .ok (.iinc 4 1, 3) := by decide +kernel
theorem dc_Cut_cut_95 : decode prog_2_method_3_code 95 = .ok (.goto (-63), 3) := by decide +kernel
theorem dc_Cut_cut_98 : decode prog_2_method_3_code 98 = .ok (.return_, 1) := by decide +kernel
theorem dc_Cut_addField_0 : decode prog_2_method_4_code 0 = .ok (.aload_n 0, 1) := by decide +kernel
theorem dc_Cut_addField_1 : decode prog_2_method_4_code 1 = .ok (.getfield 37, 3) := by decide +kernel
theorem dc_Cut_addField_4 : decode prog_2_method_4_code 4 = .ok (.bipush 30, 2) := by decide +kernel
theorem dc_Cut_addField_6 : decode prog_2_method_4_code 6 = .ok (.if_icmp .ge 43, 3) := by decide +kernel
theorem dc_Cut_addField_9 : decode prog_2_method_4_code 9 = .ok (.aload_n 0, 1) := by decide +kernel
theorem dc_Cut_addField_10 : decode prog_2_method_4_code 10 = .ok (.getfield 20, 3) := by decide +kernel
theorem dc_Cut_addField_13 : decode prog_2_method_4_code 13 = .ok (.aload_n 0, 1) := by decide +kernel
theorem dc_Cut_addField_14 : decode prog_2_method_4_code 14 = .ok (.getfield 37, 3) := by decide +kernel
theorem dc_Cut_addField_17 : decode prog_2_method_4_code 17 = .ok (.aaload, 1) := by decide +kernel
theorem dc_Cut_addField_18 : decode prog_2_method_4_code 18 = .ok (.invokevirtual 52, 3) := by decide +kernel
theorem dc_Cut_addField_21 : decode prog_2_method_4_code 21 = .ok (.aload_n 0, 1) := by decide +kernel
theorem dc_Cut_addField_22 : decode prog_2_method_4_code 22 = .ok (.getfield 20, 3) := by decide +kernel
theorem dc_Cut_addField_25 : decode prog_2_method_4_code 25 = .ok (.aload_n 0, 1) := by decide +kernel
theorem dc_Cut_addField_26 : decode prog_2_method_4_code 26 = .ok (.getfield 37, 3) := by decide +kernel
theorem dc_Cut_addField_29 : decode prog_2_method_4_code 29 = .ok (.aaload, 1) := by decide +kernel
theorem dc_Cut_addField_30 : decode prog_2_method_4_code 30 = .ok (.aload_n 0, 1) := by decide +kernel
theorem dc_Cut_addField_31 : decode prog_2_method_4_code 31 = .ok (.getfield 14, 3) := by decide +kernel
theorem dc_Cut_addField_34 : decode prog_2_method_4_code 34 = .ok (.iload_n 1, 1) := by decide +kernel
theorem dc_Cut_addField_35 : decode prog_2_method_4_code 35 = .ok (.iload_n 2, 1) := by decide +kernel
theorem dc_Cut_addField_36 : decode prog_2_method_4_code 36 = .ok (.invokevirtual 55, 3) := by decide +kernel
theorem dc_Cut_addField_39 : decode prog_2_method_4_code 39 = .ok (.aload_n 0, 1) := by decide +kernel
theorem dc_Cut_addField_40 : decode prog_2_method_4_code 40 = .ok (.dup, 1) := by decide +kernel
theorem dc_Cut_addField_41 : decode prog_2_method_4_code 41 = .ok (.getfield 37, 3) := by decide +kernel
theorem dc_Cut_addField_44 : decode prog_2_method_4_code 44 = .ok (.iconst 1, 1) := by decide +kernel
theorem dc_Cut_addField_45 : decode prog_2_method_4_code 45 = .ok (.iadd, 1) := by decide +kernel
theorem dc_Cut_addField_46 : decode prog_2_method_4_code 46 = .ok (.putfield 37, 3) := by decide +kernel
theorem dc_Cut_addField_49 : decode prog_2_method_4_code 49 = .ok (.return_, 1) := by decide +kernel
theorem dc_Cut_fieldText_0 : decode prog_2_method_5_code 0 = .ok (.iload_n 1, 1) := by decide +kernel
theorem dc_Cut_fieldText_1 : decode prog_2_method_5_code 1 = .ok (.iconst 1, 1) := by decide +kernel
theorem dc_Cut_fieldText_2 : decode prog_2_method_5_code 2 = .ok (.if_icmp .lt 22, 3) := by decide +kernel
theorem dc_Cut_fieldText_5 : decode prog_2_method_5_code 5 = .ok (.iload_n 1, 1) := by decide +kernel
theorem dc_Cut_fieldText_6 : decode prog_2_method_5_code 6 = .ok (.aload_n 0, 1) := by decide +kernel
theorem dc_Cut_fieldText_7 : decode prog_2_method_5_code 7 = .ok (.getfield 37, 3) := by decide +kernel
theorem dc_Cut_fieldText_10 : decode prog_2_method_5_code 10 = .ok (.if_icmp .gt 14, 3) := by decide +kernel
theorem dc_Cut_fieldText_13 : decode prog_2_method_5_code 13 = .ok (.aload_n 0, 1) := by decide +kernel
theorem dc_Cut_fieldText_14 : decode prog_2_method_5_code 14 = .ok (.getfield 20, 3) := by decide +kernel
theorem dc_Cut_fieldText_17 : decode prog_2_method_5_code 17 = .ok (.iload_n 1, 1) := by decide +kernel
theorem dc_Cut_fieldText_18 : decode prog_2_method_5_code 18 = .ok (.iconst 1, 1) := by decide +kernel
theorem dc_Cut_fieldText_19 : decode prog_2_method_5_code 19 = .ok (.isub, 1) := by decide +kernel
theorem dc_Cut_fieldText_20 : decode prog_2_method_5_code 20 = .ok (.aaload, 1) := by decide +kernel
theorem dc_Cut_fieldText_21 : decode prog_2_method_5_code 21 = .ok (.goto 7, 3) := by decide +kernel
theorem dc_Cut_fieldText_24 : decode prog_2_method_5_code 24 = .ok (.aload_n 0, 1) := by decide +kernel
theorem dc_Cut_fieldText_25 : decode prog_2_method_5_code 25 = .ok (.getfield 24, 3) := by decide +kernel
theorem dc_Cut_fieldText_28 : decode prog_2_method_5_code 28 = .ok (.areturn, 1) := by decide +kernel
theorem dc_Cut_setField_0 : decode prog_2_method_6_code 0 = .ok (.aload_n 0, 1) := by decide +kernel
theorem dc_Cut_setField_1 : decode prog_2_method_6_code 1 = .ok (.getfield 37, 3) := by decide +kernel
theorem dc_Cut_setField_4 : decode prog_2_method_6_code 4 = .ok (.istore 4, 2) := by decide +kernel
theorem dc_Cut_setField_6 : decode prog_2_method_6_code 6 = .ok (.iload 4, 2) := by decide +kernel
theorem dc_Cut_setField_8 : decode prog_2_method_6_code 8 = .ok (.iload_n 1, 1) := by decide +kernel
theorem dc_Cut_setField_9 : decode prog_2_method_6_code 9 = .ok (.if_icmp .ge 36, 3) := by decide +kernel
theorem dc_Cut_setField_12 : decode prog_2_method_6_code 12 = .ok (.iload 4, 2) := by decide +kernel
theorem dc_Cut_setField_14 : decode prog_2_method_6_code 14 = .ok (.bipush 30, 2) := by decide +kernel
theorem dc_Cut_setField_16 : decode prog_2_method_6_code 16 = .ok (.if_icmp .ge 29, 3) := by decide +kernel
theorem dc_Cut_setField_19 : decode prog_2_method_6_code 19 = .ok (.aload_n 0, 1) := by decide +kernel
theorem dc_Cut_setField_20 : decode prog_2_method_6_code 20 = .ok (.getfield 20, 3) := by decide +kernel
theorem dc_Cut_setField_23 : decode prog_2_method_6_code 23 = .ok (.iload 4, 2) := by decide +kernel
theorem dc_Cut_setField_25 : decode prog_2_method_6_code 25 = .ok (.aaload, 1) := by decide +kernel
theorem dc_Cut_setField_26 : decode prog_2_method_6_code 26 = .ok (.invokevirtual 52, 3) := by decide +kernel
theorem dc_Cut_setField_29 : decode prog_2_method_6_code 29 = .ok (.aload_n 0, 1) := by decide +kernel
theorem dc_Cut_setField_30 : decode prog_2_method_6_code 30 = .ok (.dup, 1) := by decide +kernel
theorem dc_Cut_setField_31 : decode prog_2_method_6_code 31 = .ok (.getfield 37, 3) := by decide +kernel
theorem dc_Cut_setField_34 : decode prog_2_method_6_code 34 = .ok (.iconst 1, 1) := by decide +kernel
theorem dc_Cut_setField_35 : decode prog_2_method_6_code 35 = .ok (.iadd, 1) := by decide +kernel
theorem dc_Cut_setField_36 : decode prog_2_method_6_code 36 = .ok (.putfield 37, 3) := by decide +kernel
theorem dc_Cut_setField_39 : decode prog_2_method_6_code 39 = .ok (.iinc 4 1, 3) := by decide +kernel
theorem dc_Cut_setField_42 : decode prog_2_method_6_code 42 = .ok (.goto (-36), 3) := by decide +kernel
theorem dc_Cut_setField_45 : decode prog_2_method_6_code 45 = .ok (.aload_n 0, 1) := by decide +kernel
theorem dc_Cut_setField_46 : decode prog_2_method_6_code 46 = .ok (.iload_n 1, 1) := by decide +kernel
theorem dc_Cut_setField_47 : decode prog_2_method_6_code 47 = .ok (.invokevirtual 59, 3) := by decide +kernel
theorem dc_Cut_setField_50 : decode prog_2_method_6_code 50 = .ok (.aload_n 2, 1) := by decide +kernel
theorem dc_Cut_setField_51 : decode prog_2_method_6_code 51 = .ok (.invokevirtual 30, 3) := by decide +kernel
theorem dc_Cut_setField_54 : decode prog_2_method_6_code 54 = .ok (.aload_n 0, 1) := by decide +kernel
theorem dc_Cut_setField_55 : decode prog_2_method_6_code 55 = .ok (.iload_n 3, 1) := by decide +kernel
theorem dc_Cut_setField_56 : decode prog_2_method_6_code 56 = .ok (.invokevirtual 63, 3) := by decide +kernel
theorem dc_Cut_setField_59 : decode prog_2_method_6_code 59 = .ok (.return_, 1) := by decide +kernel
theorem dc_Cut_join_0 : decode prog_2_method_7_code 0 = .ok (.aload_n 0, 1) := by decide +kernel
theorem dc_Cut_join_1 : decode prog_2_method_7_code 1 = .ok (.getfield 14, 3) := by decide +kernel
theorem dc_Cut_join_4 : decode prog_2_method_7_code 4 = .ok (.invokevirtual 52, 3) := by decide +kernel
theorem dc_Cut_join_7 : decode prog_2_method_7_code 7 = .ok (.iconst 0, 1) := by decide +kernel
theorem dc_Cut_join_8 : decode prog_2_method_7_code 8 = .ok (.istore_n 2, 1) := by decide +kernel
theorem dc_Cut_join_9 : decode prog_2_method_7_code 9 = .ok (.iload_n 2, 1) := by decide +kernel
theorem dc_Cut_join_10 : decode prog_2_method_7_code 10 = .ok (.aload_n 0, 1) := by decide +kernel
theorem dc_Cut_join_11 : decode prog_2_method_7_code 11 = .ok (.getfield 37, 3) := by decide +kernel
theorem dc_Cut_join_14 : decode prog_2_method_7_code 14 = .ok (.if_icmp .ge 34, 3) := by decide +kernel
theorem dc_Cut_join_17 : decode prog_2_method_7_code 17 = .ok (.iload_n 2, 1) := by decide +kernel
theorem dc_Cut_join_18 : decode prog_2_method_7_code 18 = .ok (.ifCond .le 11, 3) := by decide +kernel
theorem dc_Cut_join_21 : decode prog_2_method_7_code 21 = .ok (.aload_n 0, 1) := by decide +kernel
theorem dc_Cut_join_22 : decode prog_2_method_7_code 22 = .ok (.getfield 14, 3) := by decide +kernel
theorem dc_Cut_join_25 : decode prog_2_method_7_code 25 = .ok (.iload_n 1, 1) := by decide +kernel
theorem dc_Cut_join_26 : decode prog_2_method_7_code 26 = .ok (.invokevirtual 66, 3) := by decide +kernel
theorem dc_Cut_join_29 : decode prog_2_method_7_code 29 = .ok (.aload_n 0, 1) := by decide +kernel
theorem dc_Cut_join_30 : decode prog_2_method_7_code 30 = .ok (.getfield 14, 3) := by decide +kernel
theorem dc_Cut_join_33 : decode prog_2_method_7_code 33 = .ok (.aload_n 0, 1) := by decide +kernel
theorem dc_Cut_join_34 : decode prog_2_method_7_code 34 = .ok (.getfield 20, 3) := by decide +kernel
theorem dc_Cut_join_37 : decode prog_2_method_7_code 37 = .ok (.iload_n 2, 1) := by decide +kernel
theorem dc_Cut_join_38 : decode prog_2_method_7_code 38 = .ok (.aaload, 1) := by decide +kernel
theorem dc_Cut_join_39 : decode prog_2_method_7_code 39 = .ok (.invokevirtual 69, 3) := by decide +kernel
theorem dc_Cut_join_42 : decode prog_2_method_7_code 42 = .ok (.iinc 2 1, 3) := by decide +kernel
theorem dc_Cut_join_45 : decode prog_2_method_7_code 45 = .ok (.goto (-36), 3) := by decide +kernel
theorem dc_Cut_join_48 : decode prog_2_method_7_code 48 = .ok (.return_, 1) := by decide +kernel
theorem dc_Cut_replace_0 : decode prog_2_method_8_code 0 = .ok (.aload_n 0, 1) := by decide +kernel
theorem dc_Cut_replace_1 : decode prog_2_method_8_code 1 = .ok (.getfield 27, 3) := by decide +kernel
theorem dc_Cut_replace_4 : decode prog_2_method_8_code 4 = .ok (.invokevirtual 52, 3) := by decide +kernel
theorem dc_Cut_replace_7 : decode prog_2_method_8_code 7 = .ok (.iconst 0, 1) := by decide +kernel
theorem dc_Cut_replace_8 : decode prog_2_method_8_code 8 = .ok (.istore 4, 2) := by decide +kernel
theorem dc_Cut_replace_10 : decode prog_2_method_8_code 10 = .ok (.aload_n 1, 1) := by decide +kernel
theorem dc_Cut_replace_11 : decode prog_2_method_8_code 11 = .ok (.aload_n 0, 1) := by decide +kernel
theorem dc_Cut_replace_12 : decode prog_2_method_8_code 12 = .ok (.getfield 14, 3) := by decide +kernel
theorem dc_Cut_replace_15 : decode prog_2_method_8_code 15 = .ok (.iconst 0, 1) := by decide +kernel
theorem dc_Cut_replace_16 : decode prog_2_method_8_code 16 = .ok (.invokevirtual 72, 3) := by decide +kernel
theorem dc_Cut_replace_19 : decode prog_2_method_8_code 19 = .ok (.istore 5, 2) := by decide +kernel
theorem dc_Cut_replace_21 : decode prog_2_method_8_code 21 = .ok (.iconst 0, 1) := by decide +kernel
theorem dc_Cut_replace_22 : decode prog_2_method_8_code 22 = .ok (.istore 6, 2) := by decide +kernel
theorem dc_Cut_replace_24 : decode prog_2_method_8_code 24 = .ok (.iload 6, 2) := by decide +kernel
theorem dc_Cut_replace_26 : decode prog_2_method_8_code 26 = .ok (.iload_n 3, 1) := by decide +kernel
theorem dc_Cut_replace_27 : decode prog_2_method_8_code 27 = .ok (.if_icmp .ge 59, 3) := by decide +kernel
theorem dc_Cut_replace_30 : decode prog_2_method_8_code 30 = .ok (.iload 5, 2) := by decide +kernel
theorem dc_Cut_replace_32 : decode prog_2_method_8_code 32 = .ok (.iconst (-1), 1) := by decide +kernel
theorem dc_Cut_replace_33 : decode prog_2_method_8_code 33 = .ok (.if_icmp .eq 53, 3) := by decide +kernel
theorem dc_Cut_replace_36 : decode prog_2_method_8_code 36 = .ok (.aload_n 0, 1) := by decide +kernel
theorem dc_Cut_replace_37 : decode prog_2_method_8_code 37 = .ok (.getfield 27, 3) := by decide +kernel
theorem dc_Cut_replace_40 : decode prog_2_method_8_code 40 = .ok (.aload_n 0, 1) := by decide +kernel
theorem dc_Cut_replace_41 : decode prog_2_method_8_code 41 = .ok (.getfield 14, 3) := by decide +kernel
theorem dc_Cut_replace_44 : decode prog_2_method_8_code 44 = .ok (.iload 4, 2) := by decide +kernel
theorem dc_Cut_replace_46 : decode prog_2_method_8_code 46 = .ok (.iload 5, 2) := by decide +kernel
theorem dc_Cut_replace_48 : decode prog_2_method_8_code 48 = .ok (.invokevirtual 55, 3) := by decide +kernel
theorem dc_Cut_replace_51 : decode prog_2_method_8_code 51 = .ok (.aload_n 0, 1) := by decide +kernel
theorem dc_Cut_replace_52 : decode prog_2_method_8_code 52 = .ok (.getfield 27, 3) := by decide +kernel
theorem dc_Cut_replace_55 : decode prog_2_method_8_code 55 = .ok (.aload_n 2, 1) := by decide +kernel
theorem dc_Cut_replace_56 : decode prog_2_method_8_code 56 = .ok (.invokevirtual 69, 3) := by decide +kernel
theorem dc_Cut_replace_59 : decode prog_2_method_8_code 59 = .ok (.aload_n 1, 1) := by decide +kernel
theorem dc_Cut_replace_60 : decode prog_2_method_8_code 60 = .ok (.aload_n 0, 1) := by decide +kernel
theorem dc_Cut_replace_61 : decode prog_2_method_8_code 61 = .ok (.getfield 14, 3) := by decide +kernel
theorem dc_Cut_replace_64 : decode prog_2_method_8_code 64 = .ok (.iload 5, 2) := by decide +kernel
theorem dc_Cut_replace_66 : decode prog_2_method_8_code 66 = .ok (.invokevirtual 78, 3) := by decide +kernel
theorem dc_Cut_replace_69 : decode prog_2_method_8_code 69 = .ok (.istore 4, 2) := by decide +kernel
theorem dc_Cut_replace_71 : decode prog_2_method_8_code 71 = .ok (.aload_n 0, 1) := by decide +kernel
theorem dc_Cut_replace_72 : decode prog_2_method_8_code 72 = .ok (.aload_n 1, 1) := by decide +kernel
theorem dc_Cut_replace_73 : decode prog_2_method_8_code 73 = .ok (.iload 4, 2) := by decide +kernel
theorem dc_Cut_replace_75 : decode prog_2_method_8_code 75 = .ok (.invokevirtual 81, 3) := by decide +kernel
theorem dc_Cut_replace_78 : decode prog_2_method_8_code 78 = .ok (.istore 5, 2) := by decide +kernel
theorem dc_Cut_replace_80 : decode prog_2_method_8_code 80 = .ok (.iinc 6 1, 3) := by decide +kernel
theorem dc_Cut_replace_83 : decode prog_2_method_8_code 83 = .ok (.goto (-59), 3) := by decide +kernel
theorem dc_Cut_replace_86 : decode prog_2_method_8_code 86 = .ok (.aload_n 0, 1) := by decide +kernel
theorem dc_Cut_replace_87 : decode prog_2_method_8_code 87 = .ok (.getfield 27, 3) := by decide +kernel
theorem dc_Cut_replace_90 : decode prog_2_method_8_code 90 = .ok (.aload_n 0, 1) := by decide +kernel
theorem dc_Cut_replace_91 : decode prog_2_method_8_code 91 = .ok (.getfield 14, 3) := by decide +kernel
theorem dc_Cut_replace_94 : decode prog_2_method_8_code 94 = .ok (.iload 4, 2) := by decide +kernel
theorem dc_Cut_replace_96 : decode prog_2_method_8_code 96 = .ok (.aload_n 0, 1) := by decide +kernel
theorem dc_Cut_replace_97 : decode prog_2_method_8_code 97 = .ok (.getfield 14, 3) := by decide +kernel
theorem dc_Cut_replace_100 : decode prog_2_method_8_code 100 = .ok (.getfield 41, 3) := by decide +kernel
theorem dc_Cut_replace_103 : decode prog_2_method_8_code 103 = .ok (.invokevirtual 55, 3) := by decide +kernel
theorem dc_Cut_replace_106 : decode prog_2_method_8_code 106 = .ok (.aload_n 0, 1) := by decide +kernel
theorem dc_Cut_replace_107 : decode prog_2_method_8_code 107 = .ok (.getfield 14, 3) := by decide +kernel
theorem dc_Cut_replace_110 : decode prog_2_method_8_code 110 = .ok (.aload_n 0, 1) := by decide +kernel
theorem dc_Cut_replace_111 : decode prog_2_method_8_code 111 = .ok (.getfield 27, 3) := by decide +kernel
theorem dc_Cut_replace_114 : decode prog_2_method_8_code 114 = .ok (.invokevirtual 30, 3) := by decide +kernel
theorem dc_Cut_replace_117 : decode prog_2_method_8_code 117 = .ok (.return_, 1) := by decide +kernel
theorem dc_Cut_matchBehind_0 : decode prog_2_method_9_code 0 = .ok (.aload_n 1, 1) := by decide +kernel
theorem dc_Cut_matchBehind_1 : decode prog_2_method_9_code 1 = .ok (.aload_n 0, 1) := by decide +kernel
theorem dc_Cut_matchBehind_2 : decode prog_2_method_9_code 2 = .ok (.getfield 14, 3) := by decide +kernel
theorem dc_Cut_matchBehind_5 : decode prog_2_method_9_code 5 = .ok (.iload_n 2, 1) := by decide +kernel
theorem dc_Cut_matchBehind_6 : decode prog_2_method_9_code 6 = .ok (.invokevirtual 72, 3) := by decide +kernel
theorem dc_Cut_matchBehind_9 : decode prog_2_method_9_code 9 = .ok (.istore_n 3, 1) := by decide +kernel
theorem dc_Cut_matchBehind_10 : decode prog_2_method_9_code 10 = .ok (.iload_n 3, 1) := by decide +kernel
theorem dc_Cut_matchBehind_11 : decode prog_2_method_9_code 11 = .ok (.iload_n 2, 1) := by decide +kernel
theorem dc_Cut_matchBehind_12 : decode prog_2_method_9_code 12 = .ok (.if_icmp .ne 28, 3) := by decide +kernel
theorem dc_Cut_matchBehind_15 : decode prog_2_method_9_code 15 = .ok (.aload_n 1, 1) := by decide +kernel
theorem dc_Cut_matchBehind_16 : decode prog_2_method_9_code 16 = .ok (.aload_n 0, 1) := by decide +kernel
theorem dc_Cut_matchBehind_17 : decode prog_2_method_9_code 17 = .ok (.getfield 14, 3) := by decide +kernel
theorem dc_Cut_matchBehind_20 : decode prog_2_method_9_code 20 = .ok (.iload_n 3, 1) := by decide +kernel
theorem dc_Cut_matchBehind_21 : decode prog_2_method_9_code 21 = .ok (.invokevirtual 78, 3) := by decide +kernel
theorem dc_Cut_matchBehind_24 : decode prog_2_method_9_code 24 = .ok (.iload_n 2, 1) := by decide +kernel
theorem dc_Cut_matchBehind_25 : decode prog_2_method_9_code 25 = .ok (.if_icmp .ne 15, 3) := by decide +kernel
theorem dc_Cut_matchBehind_28 : decode prog_2_method_9_code 28 = .ok (.aload_n 1, 1) := by decide +kernel
theorem dc_Cut_matchBehind_29 : decode prog_2_method_9_code 29 = .ok (.aload_n 0, 1) := by decide +kernel
theorem dc_Cut_matchBehind_30 : decode prog_2_method_9_code 30 = .ok (.getfield 14, 3) := by decide +kernel
theorem dc_Cut_matchBehind_33 : decode prog_2_method_9_code 33 = .ok (.iload_n 2, 1) := by decide +kernel
theorem dc_Cut_matchBehind_34 : decode prog_2_method_9_code 34 = .ok (.iconst 1, 1) := by decide +kernel
theorem dc_Cut_matchBehind_35 : decode prog_2_method_9_code 35 = .ok (.iadd, 1) := by decide +kernel
theorem dc_Cut_matchBehind_36 : decode prog_2_method_9_code 36 = .ok (.invokevirtual 72, 3) := by decide +kernel
theorem dc_Cut_matchBehind_39 : decode prog_2_method_9_code 39 = .ok (.ireturn, 1) := by decide +kernel
theorem dc_Cut_matchBehind_40 : decode prog_2_method_9_code 40 = .ok (.iload_n 3, 1) := by decide +kernel
theorem dc_Cut_matchBehind_41 : decode prog_2_method_9_code 41 = .ok (.ireturn, 1) := by decide +kernel
theorem dc_Exp_init_0 : decode prog_3_method_1_code 0 = .ok (.aload_n 0, 1) := by decide +kernel
theorem dc_Exp_init_1 : decode prog_3_method_1_code 1 = .ok (.invokespecial 3, 3) := by decide +kernel
theorem dc_Exp_init_4 : decode prog_3_method_1_code 4 = .ok (.aload_n 0, 1) := by decide +kernel
theorem dc_Exp_init_5 : decode prog_3_method_1_code 5 = .ok (.sipush 256, 3) := by decide +kernel
theorem dc_Exp_init_8 : decode prog_3_method_1_code 8 = .ok (.newarray .long, 2) := by decide +kernel
theorem dc_Exp_init_10 : decode prog_3_method_1_code 10 = .ok (.putfield 9, 3) := by decide +kernel
theorem dc_Exp_init_13 : decode prog_3_method_1_code 13 = .ok (.aload_n 0, 1) := by decide +kernel
theorem dc_Exp_init_14 : decode prog_3_method_1_code 14 = .ok (.bipush 60, 2) := by decide +kernel
theorem dc_Exp_init_16 : decode prog_3_method_1_code 16 = .ok (.newarray .long, 2) := by decide +kernel
theorem dc_Exp_init_18 : decode prog_3_method_1_code 18 = .ok (.putfield 15, 3) := by decide +kernel
theorem dc_Exp_init_21 : decode prog_3_method_1_code 21 = .ok (.aload_n 0, 1) := by decide +kernel
theorem dc_Exp_init_22 : decode prog_3_method_1_code 22 = .ok (.iconst 4, 1) := by decide +kernel
theorem dc_Exp_init_23 : decode prog_3_method_1_code 23 = .ok (.newarray .long, 2) := by decide +kernel
theorem dc_Exp_init_25 : decode prog_3_method_1_code 25 = .ok (.putfield 18, 3) := by decide +kernel
theorem dc_Exp_init_28 : decode prog_3_method_1_code 28 = .ok (.aload_n 0, 1) := by decide +kernel
theorem dc_Exp_init_29 : decode prog_3_method_1_code 29 = .ok (.iconst 4, 1) := by decide +kernel
theorem dc_Exp_init_30 : decode prog_3_method_1_code 30 = .ok (.newarray .long, 2) := by decide +kernel
theorem dc_Exp_init_32 : decode prog_3_method_1_code 32 = .ok (.putfield 21, 3) := by decide +kernel
theorem dc_Exp_init_35 : decode prog_3_method_1_code 35 = .ok (.aload_n 0, 1) := by decide +kernel
theorem dc_Exp_init_36 : decode prog_3_method_1_code 36 = .ok (.iconst 4, 1) := by decide +kernel
theorem dc_Exp_init_37 : decode prog_3_method_1_code 37 = .ok (.newarray .boolean, 2) := by decide +kernel
theorem dc_Exp_init_39 : decode prog_3_method_1_code 39 = .ok (.dup, 1) := by decide +kernel
theorem dc_Exp_init_40 : decode prog_3_method_1_code 40 = .ok (.iconst 0, 1) := by decide +kernel
theorem dc_Exp_init_41 : decode prog_3_method_1_code 41 = .ok (.iconst 1, 1) := by decide +kernel
theorem dc_Exp_init_42 : decode prog_3_method_1_code 42 = .ok (.bastore, 1) := by decide +kernel
theorem dc_Exp_init_43 : decode prog_3_method_1_code 43 = .ok (.dup, 1) := by decide +kernel
theorem dc_Exp_init_44 : decode prog_3_method_1_code 44 = .ok (.iconst 1, 1) := by decide +kernel
theorem dc_Exp_init_45 : decode prog_3_method_1_code 45 = .ok (.iconst 1, 1) := by decide +kernel
theorem dc_Exp_init_46 : decode prog_3_method_1_code 46 = .ok (.bastore, 1) := by decide +kernel
theorem dc_Exp_init_47 : decode prog_3_method_1_code 47 = .ok (.dup, 1) := by decide +kernel
theorem dc_Exp_init_48 : decode prog_3_method_1_code 48 = .ok (.iconst 2, 1) := by decide +kernel
theorem dc_Exp_init_49 : decode prog_3_method_1_code 49 = .ok (.iconst 1, 1) := by decide +kernel
theorem dc_Exp_init_50 : decode prog_3_method_1_code 50 = .ok (.bastore, 1) := by decide +kernel
theorem dc_Exp_init_51 : decode prog_3_method_1_code 51 = .ok (.dup, 1) := by decide +kernel
theorem dc_Exp_init_52 : decode prog_3_method_1_code 52 = .ok (.iconst 3, 1) := by decide +kernel
theorem dc_Exp_init_53 : decode prog_3_method_1_code 53 = .ok (.iconst 1, 1) := by decide +kernel
theorem dc_Exp_init_54 : decode prog_3_method_1_code 54 = .ok (.bastore, 1) := by decide +kernel
theorem dc_Exp_init_55 : decode prog_3_method_1_code 55 = .ok (.putfield 24, 3) := by decide +kernel
theorem dc_Exp_init_58 : decode prog_3_method_1_code 58 = .ok (.return_, 1) := by decide +kernel
theorem dc_Exp_drop_0 : decode prog_3_method_2_code 0 = .ok (.aload_n 0, 1) := by decide +kernel
theorem dc_Exp_drop_1 : decode prog_3_method_2_code 1 = .ok (.getfield 9, 3) := by decide +kernel
theorem dc_Exp_drop_4 : decode prog_3_method_2_code 4 = .ok (.lconst 0, 1) := by decide +kernel
theorem dc_Exp_drop_5 : decode prog_3_method_2_code 5 = .ok (.invokestatic 28, 3) := by decide +kernel
theorem dc_Exp_drop_8 : decode prog_3_method_2_code 8 = .ok (.aload_n 0, 1) := by decide +kernel
theorem dc_Exp_drop_9 : decode prog_3_method_2_code 9 = .ok (.getfield 15, 3) := by decide +kernel
theorem dc_Exp_drop_12 : decode prog_3_method_2_code 12 = .ok (.lconst 0, 1) := by decide +kernel
theorem dc_Exp_drop_13 : decode prog_3_method_2_code 13 = .ok (.invokestatic 28, 3) := by decide +kernel
theorem dc_Exp_drop_16 : decode prog_3_method_2_code 16 = .ok (.aload_n 0, 1) := by decide +kernel
theorem dc_Exp_drop_17 : decode prog_3_method_2_code 17 = .ok (.iconst 0, 1) := by decide +kernel
theorem dc_Exp_drop_18 : decode prog_3_method_2_code 18 = .ok (.putfield 34, 3) := by decide +kernel
theorem dc_Exp_drop_21 : decode prog_3_method_2_code 21 = .ok (.return_, 1) := by decide +kernel
theorem dc_Exp_firstFrom_0 : decode prog_3_method_3_code 0 = .ok (.iload_n 2, 1) := by decide +kernel
theorem dc_Exp_firstFrom_1 : decode prog_3_method_3_code 1 = .ok (.istore_n 3, 1) := by decide +kernel
theorem dc_Exp_firstFrom_2 : decode prog_3_method_3_code 2 = .ok (.iload_n 3, 1) := by decide +kernel
theorem dc_Exp_firstFrom_3 : decode prog_3_method_3_code 3 = .ok (.aload_n 1, 1) := by decide +kernel
theorem dc_Exp_firstFrom_4 : decode prog_3_method_3_code 4 = .ok (.getfield 38, 3) := by decide +kernel
theorem dc_Exp_firstFrom_7 : decode prog_3_method_3_code 7 = .ok (.if_icmp .gt 21, 3) := by decide +kernel
theorem dc_Exp_firstFrom_10 : decode prog_3_method_3_code 10 = .ok (.aload_n 0, 1) := by decide +kernel
theorem dc_Exp_firstFrom_11 : decode prog_3_method_3_code 11 = .ok (.aload_n 1, 1) := by decide +kernel
theorem dc_Exp_firstFrom_12 : decode prog_3_method_3_code 12 = .ok (.iload_n 3, 1) := by decide +kernel
theorem dc_Exp_firstFrom_13 : decode prog_3_method_3_code 13 = .ok (.invokevirtual 43, 3) := by decide +kernel
theorem dc_Exp_firstFrom_16 : decode prog_3_method_3_code 16 = .ok (.iconst (-1), 1) := by decide +kernel
theorem dc_Exp_firstFrom_17 : decode prog_3_method_3_code 17 = .ok (.if_icmp .eq 5, 3) := by decide +kernel
theorem dc_Exp_firstFrom_20 : decode prog_3_method_3_code 20 = .ok (.iload_n 3, 1) := by decide +kernel
theorem dc_Exp_firstFrom_21 : decode prog_3_method_3_code 21 = .ok (.ireturn, 1) := by decide +kernel
theorem dc_Exp_firstFrom_22 : decode prog_3_method_3_code 22 = .ok (.iinc 3 1, 3) := by decide +kernel
theorem dc_Exp_firstFrom_25 : decode prog_3_method_3_code 25 = .ok (.goto (-23), 3) := by decide +kernel
theorem dc_Exp_firstFrom_28 : decode prog_3_method_3_code 28 = .ok (.iconst (-1), 1) := by decide +kernel
theorem dc_Exp_firstFrom_29 : decode prog_3_method_3_code 29 = .ok (.ireturn, 1) := by decide +kernel
theorem dc_Exp_longestFrom_0 : decode prog_3_method_4_code 0 = .ok (.aload_n 0, 1) := by decide +kernel
theorem dc_Exp_longestFrom_1 : decode prog_3_method_4_code 1 = .ok (.getfield 24, 3) := by decide +kernel
theorem dc_Exp_longestFrom_4 : decode prog_3_method_4_code 4 = .ok (.iload_n 2, 1) := by decide +kernel
theorem dc_Exp_longestFrom_5 : decode prog_3_method_4_code 5 = .ok (.aload_n 1, 1) := by decide +kernel
theorem dc_Exp_longestFrom_6 : decode prog_3_method_4_code 6 = .ok (.getfield 38, 3) := by decide +kernel
theorem dc_Exp_longestFrom_9 : decode prog_3_method_4_code 9 = .ok (.invokestatic 47, 3) := by decide +kernel
theorem dc_Exp_longestFrom_12 : decode prog_3_method_4_code 12 = .ok (.baload, 1) := by decide +kernel
theorem dc_Exp_longestFrom_13 : decode prog_3_method_4_code 13 = .ok (.ifCond .eq 7, 3) := by decide +kernel
theorem dc_Exp_longestFrom_16 : decode prog_3_method_4_code 16 = .ok (.iload_n 2, 1) := by decide +kernel
theorem dc_Exp_longestFrom_17 : decode prog_3_method_4_code 17 = .ok (.goto 4, 3) := by decide +kernel
theorem dc_Exp_longestFrom_20 : decode prog_3_method_4_code 20 = .ok (.iconst (-1), 1) := by decide +kernel
theorem dc_Exp_longestFrom_21 : decode prog_3_method_4_code 21 = .ok (.istore_n 3, 1) := by decide +kernel
theorem dc_Exp_longestFrom_22 : decode prog_3_method_4_code 22 = .ok (.aload_n 0, 1) := by decide +kernel
theorem dc_Exp_longestFrom_23 : decode prog_3_method_4_code 23 = .ok (.getfield 18, 3) := by decide +kernel
theorem dc_Exp_longestFrom_26 : decode prog_3_method_4_code 26 = .ok (.iload_n 2, 1) := by decide +kernel
theorem dc_Exp_longestFrom_27 : decode prog_3_method_4_code 27 = .ok (.aload_n 1, 1) := by decide +kernel
theorem dc_Exp_longestFrom_28 : decode prog_3_method_4_code 28 = .ok (.getfield 38, 3) := by decide +kernel
theorem dc_Exp_longestFrom_31 : decode prog_3_method_4_code 31 = .ok (.invokestatic 47, 3) := by decide +kernel
theorem dc_Exp_longestFrom_34 : decode prog_3_method_4_code 34 = .ok (.laload, 1) := by decide +kernel
theorem dc_Exp_longestFrom_35 : decode prog_3_method_4_code 35 = .ok (.lstore 4, 2) := by decide +kernel
theorem dc_Exp_longestFrom_37 : decode prog_3_method_4_code 37 = .ok (.iload_n 2, 1) := by decide +kernel
theorem dc_Exp_longestFrom_38 : decode prog_3_method_4_code 38 = .ok (.istore 6, 2) := by decide +kernel
theorem dc_Exp_longestFrom_40 : decode prog_3_method_4_code 40 = .ok (.iload 6, 2) := by decide +kernel
theorem dc_Exp_longestFrom_42 : decode prog_3_method_4_code 42 = .ok (.aload_n 1, 1) := by decide +kernel
theorem dc_Exp_longestFrom_43 : decode prog_3_method_4_code 43 = .ok (.getfield 38, 3) := by decide +kernel
theorem dc_Exp_longestFrom_46 : decode prog_3_method_4_code 46 = .ok (.if_icmp .ge 70, 3) := by decide +kernel
theorem dc_Exp_longestFrom_49 : decode prog_3_method_4_code 49 = .ok (.lload 4, 2) := by decide +kernel
theorem dc_Exp_longestFrom_51 : decode prog_3_method_4_code 51 = .ok (.lconst 0, 1) := by decide +kernel
theorem dc_Exp_longestFrom_52 : decode prog_3_method_4_code 52 = .ok (.lcmp, 1) := by decide +kernel
theorem dc_Exp_longestFrom_53 : decode prog_3_method_4_code 53 = .ok (.ifCond .eq 63, 3) := by decide +kernel
theorem dc_Exp_longestFrom_56 : decode prog_3_method_4_code 56 = .ok (.lload 4, 2) := by decide +kernel
theorem dc_Exp_longestFrom_58 : decode prog_3_method_4_code 58 = .ok (.aload_n 0, 1) := by decide +kernel
theorem dc_Exp_longestFrom_59 : decode prog_3_method_4_code 59 = .ok (.getfield 9, 3) := by decide +kernel
theorem dc_Exp_longestFrom_62 : decode prog_3_method_4_code 62 = .ok (.aload_n 1, 1) := by decide +kernel
theorem dc_Exp_longestFrom_63 : decode prog_3_method_4_code 63 = .ok (.getfield 51, 3) := by decide +kernel
theorem dc_Exp_longestFrom_66 : decode prog_3_method_4_code 66 = .ok (.iload 6, 2) := by decide +kernel
theorem dc_Exp_longestFrom_68 : decode prog_3_method_4_code 68 = .ok (.iaload, 1) := by decide +kernel
theorem dc_Exp_longestFrom_69 : decode prog_3_method_4_code 69 = .ok (.laload, 1) := by decide +kernel
theorem dc_Exp_longestFrom_70 : decode prog_3_method_4_code 70 = .ok (.land, 1) := by decide +kernel
theorem dc_Exp_longestFrom_71 : decode prog_3_method_4_code 71 = .ok (.lstore 7, 2) := by decide +kernel
theorem dc_Exp_longestFrom_73 : decode prog_3_method_4_code 73 = .ok (.lload 7, 2) := by decide +kernel
theorem dc_Exp_longestFrom_75 : decode prog_3_method_4_code 75 = .ok (.aload_n 0, 1) := by decide +kernel
theorem dc_Exp_longestFrom_76 : decode prog_3_method_4_code 76 = .ok (.getfield 21, 3) := by decide +kernel
theorem dc_Exp_longestFrom_79 : decode prog_3_method_4_code 79 = .ok (.iload 6, 2) := by decide +kernel
theorem dc_Exp_longestFrom_81 : decode prog_3_method_4_code 81 = .ok (.iconst 1, 1) := by decide +kernel
theorem dc_Exp_longestFrom_82 : decode prog_3_method_4_code 82 = .ok (.iadd, 1) := by decide +kernel
theorem dc_Exp_longestFrom_83 : decode prog_3_method_4_code 83 = .ok (.aload_n 1, 1) := by decide +kernel
theorem dc_Exp_longestFrom_84 : decode prog_3_method_4_code 84 = .ok (.getfield 38, 3) := by decide +kernel
theorem dc_Exp_longestFrom_87 : decode prog_3_method_4_code 87 = .ok (.invokestatic 47, 3) := by decide +kernel
theorem dc_Exp_longestFrom_90 : decode prog_3_method_4_code 90 = .ok (.laload, 1) := by decide +kernel
theorem dc_Exp_longestFrom_91 : decode prog_3_method_4_code 91 = .ok (.land, 1) := by decide +kernel
theorem dc_Exp_longestFrom_92 : decode prog_3_method_4_code 92 = .ok (.lconst 0, 1) := by decide +kernel
theorem dc_Exp_longestFrom_93 : decode prog_3_method_4_code 93 = .ok (.lcmp, 1) := by decide +kernel
theorem dc_Exp_longestFrom_94 : decode prog_3_method_4_code 94 = .ok (.ifCond .eq 8, 3) := by decide +kernel
theorem dc_Exp_longestFrom_97 : decode prog_3_method_4_code 97 = .ok (.iload 6, 2) := by decide +kernel
theorem dc_Exp_longestFrom_99 : decode prog_3_method_4_code 99 = .ok (.iconst 1, 1) := by decide +kernel
theorem dc_Exp_longestFrom_100 : decode prog_3_method_4_code 100 = .ok (.iadd, 1) := by decide +kernel
theorem dc_Exp_longestFrom_101 : decode prog_3_method_4_code 101 = .ok (.istore_n 3, 1) := by decide +kernel
theorem dc_Exp_longestFrom_102 : decode prog_3_method_4_code 102 = .ok (.aload_n 0, 1) := by decide +kernel
theorem dc_Exp_longestFrom_103 : decode prog_3_method_4_code 103 = .ok (.lload 7, 2) := by decide +kernel
theorem dc_Exp_longestFrom_105 : decode prog_3_method_4_code 105 = .ok (.invokevirtual 55, 3) := by decide +kernel
theorem dc_Exp_longestFrom_108 : decode prog_3_method_4_code 108 = .ok (.lstore 4, 2) := by decide +kernel
theorem dc_Exp_longestFrom_110 : decode prog_3_method_4_code 110 = .ok (.iinc 6 1, 3) := by decide +kernel
theorem dc_Exp_longestFrom_113 : decode prog_3_method_4_code 113 = .ok (.goto (-73), 3) := by decide +kernel
theorem dc_Exp_longestFrom_116 : decode prog_3_method_4_code 116 = .ok (.iload_n 3, 1) := by decide +kernel
theorem dc_Exp_longestFrom_117 : decode prog_3_method_4_code 117 = .ok (.ireturn, 1) := by decide +kernel
theorem dc_Exp_kindOf_0 : decode prog_3_method_5_code 0 = .ok (.iload_n 0, 1) := by decide +kernel
theorem dc_Exp_kindOf_1 : decode prog_3_method_5_code 1 = .ok (.ifCond .ne 7, 3) := by decide +kernel
theorem dc_Exp_kindOf_4 : decode prog_3_method_5_code 4 = .ok (.iconst 1, 1) := by decide +kernel
theorem dc_Exp_kindOf_5 : decode prog_3_method_5_code 5 = .ok (.goto 4, 3) := by decide +kernel
theorem dc_Exp_kindOf_8 : decode prog_3_method_5_code 8 = .ok (.iconst 0, 1) := by decide +kernel
theorem dc_Exp_kindOf_9 : decode prog_3_method_5_code 9 = .ok (.iload_n 0, 1) := by decide +kernel
theorem dc_Exp_kindOf_10 : decode prog_3_method_5_code 10 = .ok (.iload_n 1, 1) := by decide +kernel
theorem dc_Exp_kindOf_11 : decode prog_3_method_5_code 11 = .ok (.if_icmp .ne 7, 3) := by decide +kernel
theorem dc_Exp_kindOf_14 : decode prog_3_method_5_code 14 = .ok (.iconst 2, 1) := by decide +kernel
theorem dc_Exp_kindOf_15 : decode prog_3_method_5_code 15 = .ok (.goto 4, 3) := by decide +kernel
theorem dc_Exp_kindOf_18 : decode prog_3_method_5_code 18 = .ok (.iconst 0, 1) := by decide +kernel
theorem dc_Exp_kindOf_19 : decode prog_3_method_5_code 19 = .ok (.ior, 1) := by decide +kernel
theorem dc_Exp_kindOf_20 : decode prog_3_method_5_code 20 = .ok (.ireturn, 1) := by decide +kernel
theorem dc_Exp_followersOf_0 : decode prog_3_method_6_code 0 = .ok (.lconst 0, 1) := by decide +kernel
theorem dc_Exp_followersOf_1 : decode prog_3_method_6_code 1 = .ok (.lstore_n 3, 1) := by decide +kernel
theorem dc_Exp_followersOf_2 : decode prog_3_method_6_code 2 = .ok (.lload_n 1, 1) := by decide +kernel
theorem dc_Exp_followersOf_3 : decode prog_3_method_6_code 3 = .ok (.lstore 5, 2) := by decide +kernel
theorem dc_Exp_followersOf_5 : decode prog_3_method_6_code 5 = .ok (.iconst 0, 1) := by decide +kernel
theorem dc_Exp_followersOf_6 : decode prog_3_method_6_code 6 = .ok (.istore 7, 2) := by decide +kernel
theorem dc_Exp_followersOf_8 : decode prog_3_method_6_code 8 = .ok (.iload 7, 2) := by decide +kernel
theorem dc_Exp_followersOf_10 : decode prog_3_method_6_code 10 = .ok (.aload_n 0, 1) := by decide +kernel
theorem dc_Exp_followersOf_11 : decode prog_3_method_6_code 11 = .ok (.getfield 34, 3) := by decide +kernel
theorem dc_Exp_followersOf_14 : decode prog_3_method_6_code 14 = .ok (.if_icmp .ge 41, 3) := by decide +kernel
theorem dc_Exp_followersOf_17 : decode prog_3_method_6_code 17 = .ok (.lload 5, 2) := by decide +kernel
theorem dc_Exp_followersOf_19 : decode prog_3_method_6_code 19 = .ok (.lconst 0, 1) := by decide +kernel
theorem dc_Exp_followersOf_20 : decode prog_3_method_6_code 20 = .ok (.lcmp, 1) := by decide +kernel
theorem dc_Exp_followersOf_21 : decode prog_3_method_6_code 21 = .ok (.ifCond .eq 34, 3) := by decide +kernel
theorem dc_Exp_followersOf_24 : decode prog_3_method_6_code 24 = .ok (.lload 5, 2) := by decide +kernel
theorem dc_Exp_followersOf_26 : decode prog_3_method_6_code 26 = .ok (.lconst 1, 1) := by decide +kernel
theorem dc_Exp_followersOf_27 : decode prog_3_method_6_code 27 = .ok (.land, 1) := by decide +kernel
theorem dc_Exp_followersOf_28 : decode prog_3_method_6_code 28 = .ok (.lconst 0, 1) := by decide +kernel
theorem dc_Exp_followersOf_29 : decode prog_3_method_6_code 29 = .ok (.lcmp, 1) := by decide +kernel
theorem dc_Exp_followersOf_30 : decode prog_3_method_6_code 30 = .ok (.ifCond .eq 13, 3) := by decide +kernel
theorem dc_Exp_followersOf_33 : decode prog_3_method_6_code 33 = .ok (.lload_n 3, 1) := by decide +kernel
theorem dc_Exp_followersOf_34 : decode prog_3_method_6_code 34 = .ok (.aload_n 0, 1) := by decide +kernel
theorem dc_Exp_followersOf_35 : decode prog_3_method_6_code 35 = .ok (.getfield 15, 3) := by decide +kernel
theorem dc_Exp_followersOf_38 : decode prog_3_method_6_code 38 = .ok (.iload 7, 2) := by decide +kernel
theorem dc_Exp_followersOf_40 : decode prog_3_method_6_code 40 = .ok (.laload, 1) := by decide +kernel
theorem dc_Exp_followersOf_41 : decode prog_3_method_6_code 41 = .ok (.lor, 1) := by decide +kernel
theorem dc_Exp_followersOf_42 : decode prog_3_method_6_code 42 = .ok (.lstore_n 3, 1) := by decide +kernel
theorem dc_Exp_followersOf_43 : decode prog_3_method_6_code 43 = .ok (.lload 5, 2) := by decide +kernel
theorem dc_Exp_followersOf_45 : decode prog_3_method_6_code 45 = .ok (.iconst 1, 1) := by decide +kernel
theorem dc_Exp_followersOf_46 : decode prog_3_method_6_code 46 = .ok (.lushr, 1) := by decide +kernel
theorem dc_Exp_followersOf_47 : decode prog_3_method_6_code 47 = .ok (.lstore 5, 2) := by decide +kernel
theorem dc_Exp_followersOf_49 : decode prog_3_method_6_code 49 = .ok (.iinc 7 1, 3) := by decide +kernel
theorem dc_Exp_followersOf_52 : decode prog_3_method_6_code 52 = .ok (.goto (-44), 3) := by decide +kernel
theorem dc_Exp_followersOf_55 : decode prog_3_method_6_code 55 = .ok (.lload_n 3, 1) := by decide +kernel
theorem dc_Exp_followersOf_56 : decode prog_3_method_6_code 56 = .ok (.lreturn, 1) := by decide +kernel
end
section
theorem dc_Rdr_init_0 : decode prog_5_method_1_code 0 = .ok (.aload_n 0, 1) := by decide +kernel
theorem dc_Rdr_init_1 : decode prog_5_method_1_code 1 = .ok (.invokespecial 3, 3) := by decide +kernel
theorem dc_Rdr_init_4 : decode prog_5_method_1_code 4 = .ok (.aload_n 0, 1) := by decide +kernel
theorem dc_Rdr_init_5 : decode prog_5_method_1_code 5 = .ok (.bipush 121, 2) := by decide +kernel
theorem dc_Rdr_init_7 : decode prog_5_method_1_code 7 = .ok (.newarray .int, 2) := by decide +kernel
theorem dc_Rdr_init_9 : decode prog_5_method_1_code 9 = .ok (.putfield 11, 3) := by decide +kernel
theorem dc_Rdr_init_12 : decode prog_5_method_1_code 12 = .ok (.aload_n 0, 1) := by decide +kernel
theorem dc_Rdr_init_13 : decode prog_5_method_1_code 13 = .ok (.bipush 121, 2) := by decide +kernel
theorem dc_Rdr_init_15 : decode prog_5_method_1_code 15 = .ok (.newarray .int, 2) := by decide +kernel
theorem dc_Rdr_init_17 : decode prog_5_method_1_code 17 = .ok (.putfield 15, 3) := by decide +kernel
theorem dc_Rdr_init_20 : decode prog_5_method_1_code 20 = .ok (.aload_n 0, 1) := by decide +kernel
theorem dc_Rdr_init_21 : decode prog_5_method_1_code 21 = .ok (.bipush 121, 2) := by decide +kernel
theorem dc_Rdr_init_23 : decode prog_5_method_1_code 23 = .ok (.newarray .int, 2) := by decide +kernel
theorem dc_Rdr_init_25 : decode prog_5_method_1_code 25 = .ok (.putfield 18, 3) := by decide +kernel
theorem dc_Rdr_init_28 : decode prog_5_method_1_code 28 = .ok (.aload_n 0, 1) := by decide +kernel
theorem dc_Rdr_init_29 : decode prog_5_method_1_code 29 = .ok (.bipush 121, 2) := by decide +kernel
theorem dc_Rdr_init_31 : decode prog_5_method_1_code 31 = .ok (.newarray .boolean, 2) := by decide +kernel
theorem dc_Rdr_init_33 : decode prog_5_method_1_code 33 = .ok (.putfield 21, 3) := by decide +kernel
theorem dc_Rdr_init_36 : decode prog_5_method_1_code 36 = .ok (.aload_n 0, 1) := by decide +kernel
theorem dc_Rdr_init_37 : decode prog_5_method_1_code 37 = .ok (.bipush 121, 2) := by decide +kernel
theorem dc_Rdr_init_39 : decode prog_5_method_1_code 39 = .ok (.newarray .long, 2) := by decide +kernel
theorem dc_Rdr_init_41 : decode prog_5_method_1_code 41 = .ok (.putfield 25, 3) := by decide +kernel
theorem dc_Rdr_init_44 : decode prog_5_method_1_code 44 = .ok (.aload_n 0, 1) := by decide +kernel
theorem dc_Rdr_init_45 : decode prog_5_method_1_code 45 = .ok (.bipush 121, 2) := by decide +kernel
theorem dc_Rdr_init_47 : decode prog_5_method_1_code 47 = .ok (.newarray .long, 2) := by decide +kernel
theorem dc_Rdr_init_49 : decode prog_5_method_1_code 49 = .ok (.putfield 29, 3) := by decide +kernel
theorem dc_Rdr_init_52 : decode prog_5_method_1_code 52 = .ok (.aload_n 0, 1) := by decide +kernel
theorem dc_Rdr_init_53 : decode prog_5_method_1_code 53 = .ok (.new 32, 3) := by decide +kernel
theorem dc_Rdr_init_56 : decode prog_5_method_1_code 56 = .ok (.dup, 1) := by decide +kernel
theorem dc_Rdr_init_57 : decode prog_5_method_1_code 57 = .ok (.invokespecial 34, 3) := by decide +kernel
theorem dc_Rdr_init_60 : decode prog_5_method_1_code 60 = .ok (.putfield 35, 3) := by decide +kernel
theorem dc_Rdr_init_63 : decode prog_5_method_1_code 63 = .ok (.aload_n 0, 1) := by decide +kernel
theorem dc_Rdr_init_64 : decode prog_5_method_1_code 64 = .ok (.new 39, 3) := by decide +kernel
theorem dc_Rdr_init_67 : decode prog_5_method_1_code 67 = .ok (.dup, 1) := by decide +kernel
theorem dc_Rdr_init_68 : decode prog_5_method_1_code 68 = .ok (.iconst 0, 1) := by decide +kernel
theorem dc_Rdr_init_69 : decode prog_5_method_1_code 69 = .ok (.invokespecial 41, 3) := by decide +kernel
theorem dc_Rdr_init_72 : decode prog_5_method_1_code 72 = .ok (.putfield 44, 3) := by decide +kernel
theorem dc_Rdr_init_75 : decode prog_5_method_1_code 75 = .ok (.return_, 1) := by decide +kernel
theorem dc_Rdr_read_0 : decode prog_5_method_2_code 0 = .ok (.aload_n 0, 1) := by decide +kernel
theorem dc_Rdr_read_1 : decode prog_5_method_2_code 1 = .ok (.aload_n 1, 1) := by decide +kernel
theorem dc_Rdr_read_2 : decode prog_5_method_2_code 2 = .ok (.putfield 44, 3) := by decide +kernel
theorem dc_Rdr_read_5 : decode prog_5_method_2_code 5 = .ok (.aload_n 0, 1) := by decide +kernel
theorem dc_Rdr_read_6 : decode prog_5_method_2_code 6 = .ok (.iconst 0, 1) := by decide +kernel
theorem dc_Rdr_read_7 : decode prog_5_method_2_code 7 = .ok (.putfield 48, 3) := by decide +kernel
theorem dc_Rdr_read_10 : decode prog_5_method_2_code 10 = .ok (.aload_n 0, 1) := by decide +kernel
theorem dc_Rdr_read_11 : decode prog_5_method_2_code 11 = .ok (.iconst (-1), 1) := by decide +kernel
theorem dc_Rdr_read_12 : decode prog_5_method_2_code 12 = .ok (.putfield 52, 3) := by decide +kernel
theorem dc_Rdr_read_15 : decode prog_5_method_2_code 15 = .ok (.aload_n 0, 1) := by decide +kernel
theorem dc_Rdr_read_16 : decode prog_5_method_2_code 16 = .ok (.iconst 0, 1) := by decide +kernel
theorem dc_Rdr_read_17 : decode prog_5_method_2_code 17 = .ok (.putfield 55, 3) := by decide +kernel
theorem dc_Rdr_read_20 : decode prog_5_method_2_code 20 = .ok (.aload_n 0, 1) := by decide +kernel
theorem dc_Rdr_read_21 : decode prog_5_method_2_code 21 = .ok (.getfield 35, 3) := by decide +kernel
theorem dc_Rdr_read_24 : decode prog_5_method_2_code 24 = .ok (.invokevirtual 58, 3) := by decide +kernel
theorem dc_Rdr_read_27 : decode prog_5_method_2_code 27 = .ok (.aload_n 0, 1) := by decide +kernel
theorem dc_Rdr_read_28 : decode prog_5_method_2_code 28 = .ok (.iconst 0, 1) := by decide +kernel
theorem dc_Rdr_read_29 : decode prog_5_method_2_code 29 = .ok (.invokevirtual 61, 3) := by decide +kernel
theorem dc_Rdr_read_32 : decode prog_5_method_2_code 32 = .ok (.istore_n 2, 1) := by decide +kernel
theorem dc_Rdr_read_33 : decode prog_5_method_2_code 33 = .ok (.aload_n 0, 1) := by decide +kernel
theorem dc_Rdr_read_34 : decode prog_5_method_2_code 34 = .ok (.getfield 48, 3) := by decide +kernel
theorem dc_Rdr_read_37 : decode prog_5_method_2_code 37 = .ok (.aload_n 0, 1) := by decide +kernel
theorem dc_Rdr_read_38 : decode prog_5_method_2_code 38 = .ok (.getfield 44, 3) := by decide +kernel
theorem dc_Rdr_read_41 : decode prog_5_method_2_code 41 = .ok (.getfield 65, 3) := by decide +kernel
theorem dc_Rdr_read_44 : decode prog_5_method_2_code 44 = .ok (.if_icmp .ge 8, 3) := by decide +kernel
theorem dc_Rdr_read_47 : decode prog_5_method_2_code 47 = .ok (.aload_n 0, 1) := by decide +kernel
theorem dc_Rdr_read_48 : decode prog_5_method_2_code 48 = .ok (.invokevirtual 68, 3) := by decide +kernel
theorem dc_Rdr_read_51 : decode prog_5_method_2_code 51 = .ok (.pop, 1) := by decide +kernel
theorem dc_Rdr_read_52 : decode prog_5_method_2_code 52 = .ok (.aload_n 0, 1) := by decide +kernel
theorem dc_Rdr_read_53 : decode prog_5_method_2_code 53 = .ok (.getfield 52, 3) := by decide +kernel
theorem dc_Rdr_read_56 : decode prog_5_method_2_code 56 = .ok (.iconst (-1), 1) := by decide +kernel
theorem dc_Rdr_read_57 : decode prog_5_method_2_code 57 = .ok (.if_icmp .ne 66, 3) := by decide +kernel
theorem dc_Rdr_read_60 : decode prog_5_method_2_code 60 = .ok (.iconst 0, 1) := by decide +kernel
theorem dc_Rdr_read_61 : decode prog_5_method_2_code 61 = .ok (.istore_n 3, 1) := by decide +kernel
theorem dc_Rdr_read_62 : decode prog_5_method_2_code 62 = .ok (.iload_n 3, 1) := by decide +kernel
theorem dc_Rdr_read_63 : decode prog_5_method_2_code 63 = .ok (.iconst 4, 1) := by decide +kernel
theorem dc_Rdr_read_64 : decode prog_5_method_2_code 64 = .ok (.if_icmp .ge 59, 3) := by decide +kernel
theorem dc_Rdr_read_67 : decode prog_5_method_2_code 67 = .ok (.aload_n 0, 1) := by decide +kernel
theorem dc_Rdr_read_68 : decode prog_5_method_2_code 68 = .ok (.iload_n 3, 1) := by decide +kernel
theorem dc_Rdr_read_69 : decode prog_5_method_2_code 69 = .ok (.invokevirtual 72, 3) := by decide +kernel
theorem dc_Rdr_read_72 : decode prog_5_method_2_code 72 = .ok (.aload_n 0, 1) := by decide +kernel
theorem dc_Rdr_read_73 : decode prog_5_method_2_code 73 = .ok (.getfield 35, 3) := by decide +kernel
theorem dc_Rdr_read_76 : decode prog_5_method_2_code 76 = .ok (.getfield 75, 3) := by decide +kernel
theorem dc_Rdr_read_79 : decode prog_5_method_2_code 79 = .ok (.iload_n 3, 1) := by decide +kernel
theorem dc_Rdr_read_80 : decode prog_5_method_2_code 80 = .ok (.aload_n 0, 1) := by decide +kernel
theorem dc_Rdr_read_81 : decode prog_5_method_2_code 81 = .ok (.getfield 21, 3) := by decide +kernel
theorem dc_Rdr_read_84 : decode prog_5_method_2_code 84 = .ok (.iload_n 2, 1) := by decide +kernel
theorem dc_Rdr_read_85 : decode prog_5_method_2_code 85 = .ok (.baload, 1) := by decide +kernel
theorem dc_Rdr_read_86 : decode prog_5_method_2_code 86 = .ok (.bastore, 1) := by decide +kernel
theorem dc_Rdr_read_87 : decode prog_5_method_2_code 87 = .ok (.aload_n 0, 1) := by decide +kernel
theorem dc_Rdr_read_88 : decode prog_5_method_2_code 88 = .ok (.getfield 35, 3) := by decide +kernel
theorem dc_Rdr_read_91 : decode prog_5_method_2_code 91 = .ok (.getfield 78, 3) := by decide +kernel
theorem dc_Rdr_read_94 : decode prog_5_method_2_code 94 = .ok (.iload_n 3, 1) := by decide +kernel
theorem dc_Rdr_read_95 : decode prog_5_method_2_code 95 = .ok (.aload_n 0, 1) := by decide +kernel
theorem dc_Rdr_read_96 : decode prog_5_method_2_code 96 = .ok (.getfield 25, 3) := by decide +kernel
theorem dc_Rdr_read_99 : decode prog_5_method_2_code 99 = .ok (.iload_n 2, 1) := by decide +kernel
theorem dc_Rdr_read_100 : decode prog_5_method_2_code 100 = .ok (.laload, 1) := by decide +kernel
theorem dc_Rdr_read_101 : decode prog_5_method_2_code 101 = .ok (.lastore, 1) := by decide +kernel
theorem dc_Rdr_read_102 : decode prog_5_method_2_code 102 = .ok (.aload_n 0, 1) := by decide +kernel
theorem dc_Rdr_read_103 : decode prog_5_method_2_code 103 = .ok (.getfield 35, 3) := by decide +kernel
theorem dc_Rdr_read_106 : decode prog_5_method_2_code 106 = .ok (.getfield 79, 3) := by decide +kernel
theorem dc_Rdr_read_109 : decode prog_5_method_2_code 109 = .ok (.iload_n 3, 1) := by decide +kernel
theorem dc_Rdr_read_110 : decode prog_5_method_2_code 110 = .ok (.aload_n 0, 1) := by decide +kernel
theorem dc_Rdr_read_111 : decode prog_5_method_2_code 111 = .ok (.getfield 29, 3) := by decide +kernel
theorem dc_Rdr_read_114 : decode prog_5_method_2_code 114 = .ok (.iload_n 2, 1) := by decide +kernel
theorem dc_Rdr_read_115 : decode prog_5_method_2_code 115 = .ok (.laload, 1) := by decide +kernel
theorem dc_Rdr_read_116 : decode prog_5_method_2_code 116 = .ok (.lastore, 1) := by decide +kernel
theorem dc_Rdr_read_117 : decode prog_5_method_2_code 117 = .ok (.iinc 3 1, 3) := by decide +kernel
theorem dc_Rdr_read_120 : decode prog_5_method_2_code 120 = .ok (.goto (-58), 3) := by decide +kernel
theorem dc_Rdr_read_123 : decode prog_5_method_2_code 123 = .ok (.aload_n 0, 1) := by decide +kernel
theorem dc_Rdr_read_124 : decode prog_5_method_2_code 124 = .ok (.getfield 52, 3) := by decide +kernel
theorem dc_Rdr_read_127 : decode prog_5_method_2_code 127 = .ok (.ireturn, 1) := by decide +kernel
theorem dc_Rdr_exchange_0 : decode prog_5_method_3_code 0 = .ok (.aload_n 0, 1) := by decide +kernel
theorem dc_Rdr_exchange_1 : decode prog_5_method_3_code 1 = .ok (.getfield 35, 3) := by decide +kernel
theorem dc_Rdr_exchange_4 : decode prog_5_method_3_code 4 = .ok (.astore_n 2, 1) := by decide +kernel
theorem dc_Rdr_exchange_5 : decode prog_5_method_3_code 5 = .ok (.aload_n 0, 1) := by decide +kernel
theorem dc_Rdr_exchange_6 : decode prog_5_method_3_code 6 = .ok (.aload_n 1, 1) := by decide +kernel
theorem dc_Rdr_exchange_7 : decode prog_5_method_3_code 7 = .ok (.putfield 35, 3) := by decide +kernel
theorem dc_Rdr_exchange_10 : decode prog_5_method_3_code 10 = .ok (.aload_n 2, 1) := by decide +kernel
theorem dc_Rdr_exchange_11 : decode prog_5_method_3_code 11 = .ok (.areturn, 1) := by decide +kernel
theorem dc_Rdr_alternation_0 : decode prog_5_method_4_code 0 = .ok (.aload_n 0, 1) := by decide +kernel
theorem dc_Rdr_alternation_1 : decode prog_5_method_4_code 1 = .ok (.iload_n 1, 1) := by decide +kernel
theorem dc_Rdr_alternation_2 : decode prog_5_method_4_code 2 = .ok (.invokevirtual 80, 3) := by decide +kernel
theorem dc_Rdr_alternation_5 : decode prog_5_method_4_code 5 = .ok (.istore_n 2, 1) := by decide +kernel
theorem dc_Rdr_alternation_6 : decode prog_5_method_4_code 6 = .ok (.iconst 0, 1) := by decide +kernel
theorem dc_Rdr_alternation_7 : decode prog_5_method_4_code 7 = .ok (.istore_n 3, 1) := by decide +kernel
theorem dc_Rdr_alternation_8 : decode prog_5_method_4_code 8 = .ok (.iload_n 3, 1) := by decide +kernel
theorem dc_Rdr_alternation_9 : decode prog_5_method_4_code 9 = .ok (.bipush 60, 2) := by decide +kernel
theorem dc_Rdr_alternation_11 : decode prog_5_method_4_code 11 = .ok (.if_icmp .ge 44, 3) := by decide +kernel
theorem dc_Rdr_alternation_14 : decode prog_5_method_4_code 14 = .ok (.aload_n 0, 1) := by decide +kernel
theorem dc_Rdr_alternation_15 : decode prog_5_method_4_code 15 = .ok (.invokevirtual 83, 3) := by decide +kernel
theorem dc_Rdr_alternation_18 : decode prog_5_method_4_code 18 = .ok (.bipush 124, 2) := by decide +kernel
theorem dc_Rdr_alternation_20 : decode prog_5_method_4_code 20 = .ok (.if_icmp .ne 35, 3) := by decide +kernel
theorem dc_Rdr_alternation_23 : decode prog_5_method_4_code 23 = .ok (.aload_n 0, 1) := by decide +kernel
theorem dc_Rdr_alternation_24 : decode prog_5_method_4_code 24 = .ok (.dup, 1) := by decide +kernel
theorem dc_Rdr_alternation_25 : decode prog_5_method_4_code 25 = .ok (.getfield 48, 3) := by decide +kernel
theorem dc_Rdr_alternation_28 : decode prog_5_method_4_code 28 = .ok (.iconst 1, 1) := by decide +kernel
theorem dc_Rdr_alternation_29 : decode prog_5_method_4_code 29 = .ok (.iadd, 1) := by decide +kernel
theorem dc_Rdr_alternation_30 : decode prog_5_method_4_code 30 = .ok (.putfield 48, 3) := by decide +kernel
theorem dc_Rdr_alternation_33 : decode prog_5_method_4_code 33 = .ok (.aload_n 0, 1) := by decide +kernel
theorem dc_Rdr_alternation_34 : decode prog_5_method_4_code 34 = .ok (.iload_n 1, 1) := by decide +kernel
theorem dc_Rdr_alternation_35 : decode prog_5_method_4_code 35 = .ok (.invokevirtual 80, 3) := by decide +kernel
theorem dc_Rdr_alternation_38 : decode prog_5_method_4_code 38 = .ok (.istore 4, 2) := by decide +kernel
theorem dc_Rdr_alternation_40 : decode prog_5_method_4_code 40 = .ok (.aload_n 0, 1) := by decide +kernel
theorem dc_Rdr_alternation_41 : decode prog_5_method_4_code 41 = .ok (.iconst 5, 1) := by decide +kernel
theorem dc_Rdr_alternation_42 : decode prog_5_method_4_code 42 = .ok (.iload_n 2, 1) := by decide +kernel
theorem dc_Rdr_alternation_43 : decode prog_5_method_4_code 43 = .ok (.iload 4, 2) := by decide +kernel
theorem dc_Rdr_alternation_45 : decode prog_5_method_4_code 45 = .ok (.invokevirtual 86, 3) := by decide +kernel
theorem dc_Rdr_alternation_48 : decode prog_5_method_4_code 48 = .ok (.istore_n 2, 1) := by decide +kernel
theorem dc_Rdr_alternation_49 : decode prog_5_method_4_code 49 = .ok (.iinc 3 1, 3) := by decide +kernel
theorem dc_Rdr_alternation_52 : decode prog_5_method_4_code 52 = .ok (.goto (-44), 3) := by decide +kernel
theorem dc_Rdr_alternation_55 : decode prog_5_method_4_code 55 = .ok (.iload_n 2, 1) := by decide +kernel
theorem dc_Rdr_alternation_56 : decode prog_5_method_4_code 56 = .ok (.ireturn, 1) := by decide +kernel
theorem dc_Rdr_sequence_0 : decode prog_5_method_5_code 0 = .ok (.aload_n 0, 1) := by decide +kernel
theorem dc_Rdr_sequence_1 : decode prog_5_method_5_code 1 = .ok (.iconst 0, 1) := by decide +kernel
theorem dc_Rdr_sequence_2 : decode prog_5_method_5_code 2 = .ok (.iconst 0, 1) := by decide +kernel
theorem dc_Rdr_sequence_3 : decode prog_5_method_5_code 3 = .ok (.iconst 0, 1) := by decide +kernel
theorem dc_Rdr_sequence_4 : decode prog_5_method_5_code 4 = .ok (.invokevirtual 86, 3) := by decide +kernel
theorem dc_Rdr_sequence_7 : decode prog_5_method_5_code 7 = .ok (.istore_n 2, 1) := by decide +kernel
theorem dc_Rdr_sequence_8 : decode prog_5_method_5_code 8 = .ok (.iconst 0, 1) := by decide +kernel
theorem dc_Rdr_sequence_9 : decode prog_5_method_5_code 9 = .ok (.istore_n 3, 1) := by decide +kernel
theorem dc_Rdr_sequence_10 : decode prog_5_method_5_code 10 = .ok (.iload_n 3, 1) := by decide +kernel
theorem dc_Rdr_sequence_11 : decode prog_5_method_5_code 11 = .ok (.bipush 60, 2) := by decide +kernel
theorem dc_Rdr_sequence_13 : decode prog_5_method_5_code 13 = .ok (.if_icmp .ge 54, 3) := by decide +kernel
theorem dc_Rdr_sequence_16 : decode prog_5_method_5_code 16 = .ok (.aload_n 0, 1) := by decide +kernel
theorem dc_Rdr_sequence_17 : decode prog_5_method_5_code 17 = .ok (.invokevirtual 83, 3) := by decide +kernel
theorem dc_Rdr_sequence_20 : decode prog_5_method_5_code 20 = .ok (.ifCond .eq 47, 3) := by decide +kernel
theorem dc_Rdr_sequence_23 : decode prog_5_method_5_code 23 = .ok (.aload_n 0, 1) := by decide +kernel
theorem dc_Rdr_sequence_24 : decode prog_5_method_5_code 24 = .ok (.invokevirtual 83, 3) := by decide +kernel
theorem dc_Rdr_sequence_27 : decode prog_5_method_5_code 27 = .ok (.bipush 124, 2) := by decide +kernel
theorem dc_Rdr_sequence_29 : decode prog_5_method_5_code 29 = .ok (.if_icmp .eq 38, 3) := by decide +kernel
theorem dc_Rdr_sequence_32 : decode prog_5_method_5_code 32 = .ok (.aload_n 0, 1) := by decide +kernel
theorem dc_Rdr_sequence_33 : decode prog_5_method_5_code 33 = .ok (.invokevirtual 83, 3) := by decide +kernel
theorem dc_Rdr_sequence_36 : decode prog_5_method_5_code 36 = .ok (.bipush 41, 2) := by decide +kernel
theorem dc_Rdr_sequence_38 : decode prog_5_method_5_code 38 = .ok (.if_icmp .eq 29, 3) := by decide +kernel
theorem dc_Rdr_sequence_41 : decode prog_5_method_5_code 41 = .ok (.aload_n 0, 1) := by decide +kernel
theorem dc_Rdr_sequence_42 : decode prog_5_method_5_code 42 = .ok (.aload_n 0, 1) := by decide +kernel
theorem dc_Rdr_sequence_43 : decode prog_5_method_5_code 43 = .ok (.iload_n 1, 1) := by decide +kernel
theorem dc_Rdr_sequence_44 : decode prog_5_method_5_code 44 = .ok (.invokevirtual 90, 3) := by decide +kernel
theorem dc_Rdr_sequence_47 : decode prog_5_method_5_code 47 = .ok (.invokevirtual 93, 3) := by decide +kernel
theorem dc_Rdr_sequence_50 : decode prog_5_method_5_code 50 = .ok (.istore 4, 2) := by decide +kernel
theorem dc_Rdr_sequence_52 : decode prog_5_method_5_code 52 = .ok (.aload_n 0, 1) := by decide +kernel
theorem dc_Rdr_sequence_53 : decode prog_5_method_5_code 53 = .ok (.iconst 4, 1) := by decide +kernel
theorem dc_Rdr_sequence_54 : decode prog_5_method_5_code 54 = .ok (.iload_n 2, 1) := by decide +kernel
theorem dc_Rdr_sequence_55 : decode prog_5_method_5_code 55 = .ok (.iload 4, 2) := by decide +kernel
theorem dc_Rdr_sequence_57 : decode prog_5_method_5_code 57 = .ok (.invokevirtual 86, 3) := by decide +kernel
theorem dc_Rdr_sequence_60 : decode prog_5_method_5_code 60 = .ok (.istore_n 2, 1) := by decide +kernel
theorem dc_Rdr_sequence_61 : decode prog_5_method_5_code 61 = .ok (.iinc 3 1, 3) := by decide +kernel
theorem dc_Rdr_sequence_64 : decode prog_5_method_5_code 64 = .ok (.goto (-54), 3) := by decide +kernel
theorem dc_Rdr_sequence_67 : decode prog_5_method_5_code 67 = .ok (.iload_n 2, 1) := by decide +kernel
theorem dc_Rdr_sequence_68 : decode prog_5_method_5_code 68 = .ok (.ireturn, 1) := by decide +kernel
theorem dc_Rdr_repeated_0 : decode prog_5_method_6_code 0 = .ok (.iload_n 1, 1) := by decide +kernel
theorem dc_Rdr_repeated_1 : decode prog_5_method_6_code 1 = .ok (.istore_n 2, 1) := by decide +kernel
theorem dc_Rdr_repeated_2 : decode prog_5_method_6_code 2 = .ok (.iconst 0, 1) := by decide +kernel
theorem dc_Rdr_repeated_3 : decode prog_5_method_6_code 3 = .ok (.istore_n 3, 1) := by decide +kernel
theorem dc_Rdr_repeated_4 : decode prog_5_method_6_code 4 = .ok (.iload_n 3, 1) := by decide +kernel
theorem dc_Rdr_repeated_5 : decode prog_5_method_6_code 5 = .ok (.bipush 60, 2) := by decide +kernel
theorem dc_Rdr_repeated_7 : decode prog_5_method_6_code 7 = .ok (.if_icmp .ge 43, 3) := by decide +kernel
theorem dc_Rdr_repeated_10 : decode prog_5_method_6_code 10 = .ok (.aload_n 0, 1) := by decide +kernel
theorem dc_Rdr_repeated_11 : decode prog_5_method_6_code 11 = .ok (.invokevirtual 83, 3) := by decide +kernel
theorem dc_Rdr_repeated_14 : decode prog_5_method_6_code 14 = .ok (.invokestatic 96, 3) := by decide +kernel
theorem dc_Rdr_repeated_17 : decode prog_5_method_6_code 17 = .ok (.ifCond .eq 33, 3) := by decide +kernel
theorem dc_Rdr_repeated_20 : decode prog_5_method_6_code 20 = .ok (.aload_n 0, 1) := by decide +kernel
theorem dc_Rdr_repeated_21 : decode prog_5_method_6_code 21 = .ok (.aload_n 0, 1) := by decide +kernel
theorem dc_Rdr_repeated_22 : decode prog_5_method_6_code 22 = .ok (.invokevirtual 83, 3) := by decide +kernel
theorem dc_Rdr_repeated_25 : decode prog_5_method_6_code 25 = .ok (.invokestatic 100, 3) := by decide +kernel
theorem dc_Rdr_repeated_28 : decode prog_5_method_6_code 28 = .ok (.iload_n 2, 1) := by decide +kernel
theorem dc_Rdr_repeated_29 : decode prog_5_method_6_code 29 = .ok (.iconst 0, 1) := by decide +kernel
theorem dc_Rdr_repeated_30 : decode prog_5_method_6_code 30 = .ok (.invokevirtual 86, 3) := by decide +kernel
theorem dc_Rdr_repeated_33 : decode prog_5_method_6_code 33 = .ok (.istore_n 2, 1) := by decide +kernel
theorem dc_Rdr_repeated_34 : decode prog_5_method_6_code 34 = .ok (.aload_n 0, 1) := by decide +kernel
theorem dc_Rdr_repeated_35 : decode prog_5_method_6_code 35 = .ok (.dup, 1) := by decide +kernel
theorem dc_Rdr_repeated_36 : decode prog_5_method_6_code 36 = .ok (.getfield 48, 3) := by decide +kernel
theorem dc_Rdr_repeated_39 : decode prog_5_method_6_code 39 = .ok (.iconst 1, 1) := by decide +kernel
theorem dc_Rdr_repeated_40 : decode prog_5_method_6_code 40 = .ok (.iadd, 1) := by decide +kernel
theorem dc_Rdr_repeated_41 : decode prog_5_method_6_code 41 = .ok (.putfield 48, 3) := by decide +kernel
theorem dc_Rdr_repeated_44 : decode prog_5_method_6_code 44 = .ok (.iinc 3 1, 3) := by decide +kernel
theorem dc_Rdr_repeated_47 : decode prog_5_method_6_code 47 = .ok (.goto (-43), 3) := by decide +kernel
theorem dc_Rdr_repeated_50 : decode prog_5_method_6_code 50 = .ok (.iload_n 2, 1) := by decide +kernel
theorem dc_Rdr_repeated_51 : decode prog_5_method_6_code 51 = .ok (.ireturn, 1) := by decide +kernel
theorem dc_Rdr_isRepeat_0 : decode prog_5_method_7_code 0 = .ok (.iload_n 0, 1) := by decide +kernel
theorem dc_Rdr_isRepeat_1 : decode prog_5_method_7_code 1 = .ok (.bipush 42, 2) := by decide +kernel
theorem dc_Rdr_isRepeat_3 : decode prog_5_method_7_code 3 = .ok (.if_icmp .eq 15, 3) := by decide +kernel
theorem dc_Rdr_isRepeat_6 : decode prog_5_method_7_code 6 = .ok (.iload_n 0, 1) := by decide +kernel
theorem dc_Rdr_isRepeat_7 : decode prog_5_method_7_code 7 = .ok (.bipush 43, 2) := by decide +kernel
theorem dc_Rdr_isRepeat_9 : decode prog_5_method_7_code 9 = .ok (.if_icmp .eq 9, 3) := by decide +kernel
theorem dc_Rdr_isRepeat_12 : decode prog_5_method_7_code 12 = .ok (.iload_n 0, 1) := by decide +kernel
theorem dc_Rdr_isRepeat_13 : decode prog_5_method_7_code 13 = .ok (.bipush 63, 2) := by decide +kernel
theorem dc_Rdr_isRepeat_15 : decode prog_5_method_7_code 15 = .ok (.if_icmp .ne 7, 3) := by decide +kernel
theorem dc_Rdr_isRepeat_18 : decode prog_5_method_7_code 18 = .ok (.iconst 1, 1) := by decide +kernel
theorem dc_Rdr_isRepeat_19 : decode prog_5_method_7_code 19 = .ok (.goto 4, 3) := by decide +kernel
theorem dc_Rdr_isRepeat_22 : decode prog_5_method_7_code 22 = .ok (.iconst 0, 1) := by decide +kernel
theorem dc_Rdr_isRepeat_23 : decode prog_5_method_7_code 23 = .ok (.ireturn, 1) := by decide +kernel
theorem dc_Rdr_repeatKind_0 : decode prog_5_method_8_code 0 = .ok (.iload_n 0, 1) := by decide +kernel
theorem dc_Rdr_repeatKind_1 : decode prog_5_method_8_code 1 = .ok (.bipush 42, 2) := by decide +kernel
theorem dc_Rdr_repeatKind_3 : decode prog_5_method_8_code 3 = .ok (.if_icmp .ne 8, 3) := by decide +kernel
theorem dc_Rdr_repeatKind_6 : decode prog_5_method_8_code 6 = .ok (.bipush 6, 2) := by decide +kernel
theorem dc_Rdr_repeatKind_8 : decode prog_5_method_8_code 8 = .ok (.goto 16, 3) := by decide +kernel
theorem dc_Rdr_repeatKind_11 : decode prog_5_method_8_code 11 = .ok (.iload_n 0, 1) := by decide +kernel
theorem dc_Rdr_repeatKind_12 : decode prog_5_method_8_code 12 = .ok (.bipush 43, 2) := by decide +kernel
theorem dc_Rdr_repeatKind_14 : decode prog_5_method_8_code 14 = .ok (.if_icmp .ne 8, 3) := by decide +kernel
theorem dc_Rdr_repeatKind_17 : decode prog_5_method_8_code 17 = .ok (.bipush 7, 2) := by decide +kernel
theorem dc_Rdr_repeatKind_19 : decode prog_5_method_8_code 19 = .ok (.goto 5, 3) := by decide +kernel
theorem dc_Rdr_repeatKind_22 : decode prog_5_method_8_code 22 = .ok (.bipush 8, 2) := by decide +kernel
theorem dc_Rdr_repeatKind_24 : decode prog_5_method_8_code 24 = .ok (.ireturn, 1) := by decide +kernel
theorem dc_Rdr_atom_0 : decode prog_5_method_9_code 0 = .ok (.aload_n 0, 1) := by decide +kernel
theorem dc_Rdr_atom_1 : decode prog_5_method_9_code 1 = .ok (.invokevirtual 83, 3) := by decide +kernel
theorem dc_Rdr_atom_4 : decode prog_5_method_9_code 4 = .ok (.istore_n 2, 1) := by decide +kernel
theorem dc_Rdr_atom_5 : decode prog_5_method_9_code 5 = .ok (.iload_n 2, 1) := by decide +kernel
theorem dc_Rdr_atom_6 : decode prog_5_method_9_code 6 = .ok (.invokestatic 96, 3) := by decide +kernel
theorem dc_Rdr_atom_9 : decode prog_5_method_9_code 9 = .ok (.ifCond .ne 21, 3) := by decide +kernel
theorem dc_Rdr_atom_12 : decode prog_5_method_9_code 12 = .ok (.iload_n 2, 1) := by decide +kernel
theorem dc_Rdr_atom_13 : decode prog_5_method_9_code 13 = .ok (.bipush 93, 2) := by decide +kernel
theorem dc_Rdr_atom_15 : decode prog_5_method_9_code 15 = .ok (.if_icmp .eq 15, 3) := by decide +kernel
theorem dc_Rdr_atom_18 : decode prog_5_method_9_code 18 = .ok (.iload_n 2, 1) := by decide +kernel
theorem dc_Rdr_atom_19 : decode prog_5_method_9_code 19 = .ok (.bipush 40, 2) := by decide +kernel
theorem dc_Rdr_atom_21 : decode prog_5_method_9_code 21 = .ok (.if_icmp .ne 14, 3) := by decide +kernel
theorem dc_Rdr_atom_24 : decode prog_5_method_9_code 24 = .ok (.iload_n 1, 1) := by decide +kernel
theorem dc_Rdr_atom_25 : decode prog_5_method_9_code 25 = .ok (.bipush 10, 2) := by decide +kernel
theorem dc_Rdr_atom_27 : decode prog_5_method_9_code 27 = .ok (.if_icmp .lt 8, 3) := by decide +kernel
theorem dc_Rdr_atom_30 : decode prog_5_method_9_code 30 = .ok (.aload_n 0, 1) := by decide +kernel
theorem dc_Rdr_atom_31 : decode prog_5_method_9_code 31 = .ok (.invokevirtual 68, 3) := by decide +kernel
theorem dc_Rdr_atom_34 : decode prog_5_method_9_code 34 = .ok (.ireturn, 1) := by decide +kernel
theorem dc_Rdr_atom_35 : decode prog_5_method_9_code 35 = .ok (.aload_n 0, 1) := by decide +kernel
theorem dc_Rdr_atom_36 : decode prog_5_method_9_code 36 = .ok (.dup, 1) := by decide +kernel
theorem dc_Rdr_atom_37 : decode prog_5_method_9_code 37 = .ok (.getfield 48, 3) := by decide +kernel
theorem dc_Rdr_atom_40 : decode prog_5_method_9_code 40 = .ok (.iconst 1, 1) := by decide +kernel
theorem dc_Rdr_atom_41 : decode prog_5_method_9_code 41 = .ok (.iadd, 1) := by decide +kernel
theorem dc_Rdr_atom_42 : decode prog_5_method_9_code 42 = .ok (.putfield 48, 3) := by decide +kernel
theorem dc_Rdr_atom_45 : decode prog_5_method_9_code 45 = .ok (.iload_n 2, 1) := by decide +kernel
theorem dc_Rdr_atom_46 : decode prog_5_method_9_code 46 = .ok (.lookupswitch 99 #[(36, 66), (40, 93), (46, 74), (91, 88), (92, 79), (94, 58)], 58) := by decide +kernel
theorem dc_Rdr_atom_104 : decode prog_5_method_9_code 104 = .ok (.aload_n 0, 1) := by decide +kernel
theorem dc_Rdr_atom_105 : decode prog_5_method_9_code 105 = .ok (.iconst 1, 1) := by decide +kernel
theorem dc_Rdr_atom_106 : decode prog_5_method_9_code 106 = .ok (.iconst 0, 1) := by decide +kernel
theorem dc_Rdr_atom_107 : decode prog_5_method_9_code 107 = .ok (.iconst 0, 1) := by decide +kernel
theorem dc_Rdr_atom_108 : decode prog_5_method_9_code 108 = .ok (.invokevirtual 86, 3) := by decide +kernel
theorem dc_Rdr_atom_111 : decode prog_5_method_9_code 111 = .ok (.ireturn, 1) := by decide +kernel
theorem dc_Rdr_atom_112 : decode prog_5_method_9_code 112 = .ok (.aload_n 0, 1) := by decide +kernel
theorem dc_Rdr_atom_113 : decode prog_5_method_9_code 113 = .ok (.iconst 2, 1) := by decide +kernel
theorem dc_Rdr_atom_114 : decode prog_5_method_9_code 114 = .ok (.iconst 0, 1) := by decide +kernel
theorem dc_Rdr_atom_115 : decode prog_5_method_9_code 115 = .ok (.iconst 0, 1) := by decide +kernel
theorem dc_Rdr_atom_116 : decode prog_5_method_9_code 116 = .ok (.invokevirtual 86, 3) := by decide +kernel
theorem dc_Rdr_atom_119 : decode prog_5_method_9_code 119 = .ok (.ireturn, 1) := by decide +kernel
theorem dc_Rdr_atom_120 : decode prog_5_method_9_code 120 = .ok (.aload_n 0, 1) := by decide +kernel
theorem dc_Rdr_atom_121 : decode prog_5_method_9_code 121 = .ok (.invokevirtual 103, 3) := by decide +kernel
theorem dc_Rdr_atom_124 : decode prog_5_method_9_code 124 = .ok (.ireturn, 1) := by decide +kernel
theorem dc_Rdr_atom_125 : decode prog_5_method_9_code 125 = .ok (.aload_n 0, 1) := by decide +kernel
theorem dc_Rdr_atom_126 : decode prog_5_method_9_code 126 = .ok (.aload_n 0, 1) := by decide +kernel
theorem dc_Rdr_atom_127 : decode prog_5_method_9_code 127 = .ok (.invokevirtual 106, 3) := by decide +kernel
theorem dc_Rdr_atom_130 : decode prog_5_method_9_code 130 = .ok (.invokevirtual 109, 3) := by decide +kernel
theorem dc_Rdr_atom_133 : decode prog_5_method_9_code 133 = .ok (.ireturn, 1) := by decide +kernel
theorem dc_Rdr_atom_134 : decode prog_5_method_9_code 134 = .ok (.aload_n 0, 1) := by decide +kernel
theorem dc_Rdr_atom_135 : decode prog_5_method_9_code 135 = .ok (.invokevirtual 112, 3) := by decide +kernel
theorem dc_Rdr_atom_138 : decode prog_5_method_9_code 138 = .ok (.ireturn, 1) := by decide +kernel
theorem dc_Rdr_atom_139 : decode prog_5_method_9_code 139 = .ok (.aload_n 0, 1) := by decide +kernel
theorem dc_Rdr_atom_140 : decode prog_5_method_9_code 140 = .ok (.iload_n 1, 1) := by decide +kernel
theorem dc_Rdr_atom_141 : decode prog_5_method_9_code 141 = .ok (.invokevirtual 115, 3) := by decide +kernel
theorem dc_Rdr_atom_144 : decode prog_5_method_9_code 144 = .ok (.ireturn, 1) := by decide +kernel
theorem dc_Rdr_atom_145 : decode prog_5_method_9_code 145 = .ok (.aload_n 0, 1) := by decide +kernel
theorem dc_Rdr_atom_146 : decode prog_5_method_9_code 146 = .ok (.iload_n 2, 1) := by decide +kernel
theorem dc_Rdr_atom_147 : decode prog_5_method_9_code 147 = .ok (.invokevirtual 109, 3) := by decide +kernel
theorem dc_Rdr_atom_150 : decode prog_5_method_9_code 150 = .ok (.ireturn, 1) := by decide +kernel
theorem dc_Rdr_group_0 : decode prog_5_method_10_code 0 = .ok (.aload_n 0, 1) := by decide +kernel
theorem dc_Rdr_group_1 : decode prog_5_method_10_code 1 = .ok (.iload_n 1, 1) := by decide +kernel
theorem dc_Rdr_group_2 : decode prog_5_method_10_code 2 = .ok (.iconst 1, 1) := by decide +kernel
theorem dc_Rdr_group_3 : decode prog_5_method_10_code 3 = .ok (.iadd, 1) := by decide +kernel
theorem dc_Rdr_group_4 : decode prog_5_method_10_code 4 = .ok (.invokevirtual 61, 3) := by decide +kernel
theorem dc_Rdr_group_7 : decode prog_5_method_10_code 7 = .ok (.istore_n 2, 1) := by decide +kernel
theorem dc_Rdr_group_8 : decode prog_5_method_10_code 8 = .ok (.aload_n 0, 1) := by decide +kernel
theorem dc_Rdr_group_9 : decode prog_5_method_10_code 9 = .ok (.invokevirtual 83, 3) := by decide +kernel
theorem dc_Rdr_group_12 : decode prog_5_method_10_code 12 = .ok (.bipush 41, 2) := by decide +kernel
theorem dc_Rdr_group_14 : decode prog_5_method_10_code 14 = .ok (.if_icmp .eq 8, 3) := by decide +kernel
theorem dc_Rdr_group_17 : decode prog_5_method_10_code 17 = .ok (.aload_n 0, 1) := by decide +kernel
theorem dc_Rdr_group_18 : decode prog_5_method_10_code 18 = .ok (.invokevirtual 68, 3) := by decide +kernel
theorem dc_Rdr_group_21 : decode prog_5_method_10_code 21 = .ok (.ireturn, 1) := by decide +kernel
theorem dc_Rdr_group_22 : decode prog_5_method_10_code 22 = .ok (.aload_n 0, 1) := by decide +kernel
theorem dc_Rdr_group_23 : decode prog_5_method_10_code 23 = .ok (.dup, 1) := by decide +kernel
theorem dc_Rdr_group_24 : decode prog_5_method_10_code 24 = .ok (.getfield 48, 3) := by decide +kernel
theorem dc_Rdr_group_27 : decode prog_5_method_10_code 27 = .ok (.iconst 1, 1) := by decide +kernel
theorem dc_Rdr_group_28 : decode prog_5_method_10_code 28 = .ok (.iadd, 1) := by decide +kernel
theorem dc_Rdr_group_29 : decode prog_5_method_10_code 29 = .ok (.putfield 48, 3) := by decide +kernel
theorem dc_Rdr_group_32 : decode prog_5_method_10_code 32 = .ok (.iload_n 2, 1) := by decide +kernel
theorem dc_Rdr_group_33 : decode prog_5_method_10_code 33 = .ok (.ireturn, 1) := by decide +kernel
theorem dc_Rdr_escaped_0 : decode prog_5_method_11_code 0 = .ok (.aload_n 0, 1) := by decide +kernel
theorem dc_Rdr_escaped_1 : decode prog_5_method_11_code 1 = .ok (.invokevirtual 83, 3) := by decide +kernel
theorem dc_Rdr_escaped_4 : decode prog_5_method_11_code 4 = .ok (.istore_n 1, 1) := by decide +kernel
theorem dc_Rdr_escaped_5 : decode prog_5_method_11_code 5 = .ok (.iload_n 1, 1) := by decide +kernel
theorem dc_Rdr_escaped_6 : decode prog_5_method_11_code 6 = .ok (.ifCond .ne 11, 3) := by decide +kernel
theorem dc_Rdr_escaped_9 : decode prog_5_method_11_code 9 = .ok (.aload_n 0, 1) := by decide +kernel
theorem dc_Rdr_escaped_10 : decode prog_5_method_11_code 10 = .ok (.invokevirtual 68, 3) := by decide +kernel
theorem dc_Rdr_escaped_13 : decode prog_5_method_11_code 13 = .ok (.pop, 1) := by decide +kernel
theorem dc_Rdr_escaped_14 : decode prog_5_method_11_code 14 = .ok (.goto 13, 3) := by decide +kernel
theorem dc_Rdr_escaped_17 : decode prog_5_method_11_code 17 = .ok (.aload_n 0, 1) := by decide +kernel
theorem dc_Rdr_escaped_18 : decode prog_5_method_11_code 18 = .ok (.dup, 1) := by decide +kernel
theorem dc_Rdr_escaped_19 : decode prog_5_method_11_code 19 = .ok (.getfield 48, 3) := by decide +kernel
theorem dc_Rdr_escaped_22 : decode prog_5_method_11_code 22 = .ok (.iconst 1, 1) := by decide +kernel
theorem dc_Rdr_escaped_23 : decode prog_5_method_11_code 23 = .ok (.iadd, 1) := by decide +kernel
theorem dc_Rdr_escaped_24 : decode prog_5_method_11_code 24 = .ok (.putfield 48, 3) := by decide +kernel
theorem dc_Rdr_escaped_27 : decode prog_5_method_11_code 27 = .ok (.iload_n 1, 1) := by decide +kernel
theorem dc_Rdr_escaped_28 : decode prog_5_method_11_code 28 = .ok (.ireturn, 1) := by decide +kernel
theorem dc_Rdr_one_0 : decode prog_5_method_12_code 0 = .ok (.aload_n 0, 1) := by decide +kernel
theorem dc_Rdr_one_1 : decode prog_5_method_12_code 1 = .ok (.invokevirtual 118, 3) := by decide +kernel
theorem dc_Rdr_one_4 : decode prog_5_method_12_code 4 = .ok (.lstore_n 2, 1) := by decide +kernel
theorem dc_Rdr_one_5 : decode prog_5_method_12_code 5 = .ok (.aload_n 0, 1) := by decide +kernel
theorem dc_Rdr_one_6 : decode prog_5_method_12_code 6 = .ok (.lload_n 2, 1) := by decide +kernel
theorem dc_Rdr_one_7 : decode prog_5_method_12_code 7 = .ok (.iload_n 1, 1) := by decide +kernel
theorem dc_Rdr_one_8 : decode prog_5_method_12_code 8 = .ok (.iload_n 1, 1) := by decide +kernel
theorem dc_Rdr_one_9 : decode prog_5_method_12_code 9 = .ok (.invokevirtual 122, 3) := by decide +kernel
theorem dc_Rdr_one_12 : decode prog_5_method_12_code 12 = .ok (.aload_n 0, 1) := by decide +kernel
theorem dc_Rdr_one_13 : decode prog_5_method_12_code 13 = .ok (.iconst 3, 1) := by decide +kernel
theorem dc_Rdr_one_14 : decode prog_5_method_12_code 14 = .ok (.aload_n 0, 1) := by decide +kernel
theorem dc_Rdr_one_15 : decode prog_5_method_12_code 15 = .ok (.getfield 35, 3) := by decide +kernel
theorem dc_Rdr_one_18 : decode prog_5_method_12_code 18 = .ok (.getfield 126, 3) := by decide +kernel
theorem dc_Rdr_one_21 : decode prog_5_method_12_code 21 = .ok (.iconst 1, 1) := by decide +kernel
theorem dc_Rdr_one_22 : decode prog_5_method_12_code 22 = .ok (.isub, 1) := by decide +kernel
theorem dc_Rdr_one_23 : decode prog_5_method_12_code 23 = .ok (.iconst 0, 1) := by decide +kernel
theorem dc_Rdr_one_24 : decode prog_5_method_12_code 24 = .ok (.invokevirtual 86, 3) := by decide +kernel
theorem dc_Rdr_one_27 : decode prog_5_method_12_code 27 = .ok (.ireturn, 1) := by decide +kernel
theorem dc_Rdr_anySign_0 : decode prog_5_method_13_code 0 = .ok (.aload_n 0, 1) := by decide +kernel
theorem dc_Rdr_anySign_1 : decode prog_5_method_13_code 1 = .ok (.invokevirtual 118, 3) := by decide +kernel
theorem dc_Rdr_anySign_4 : decode prog_5_method_13_code 4 = .ok (.lstore_n 1, 1) := by decide +kernel
theorem dc_Rdr_anySign_5 : decode prog_5_method_13_code 5 = .ok (.aload_n 0, 1) := by decide +kernel
theorem dc_Rdr_anySign_6 : decode prog_5_method_13_code 6 = .ok (.lload_n 1, 1) := by decide +kernel
theorem dc_Rdr_anySign_7 : decode prog_5_method_13_code 7 = .ok (.iconst 1, 1) := by decide +kernel
theorem dc_Rdr_anySign_8 : decode prog_5_method_13_code 8 = .ok (.sipush 255, 3) := by decide +kernel
theorem dc_Rdr_anySign_11 : decode prog_5_method_13_code 11 = .ok (.invokevirtual 122, 3) := by decide +kernel
theorem dc_Rdr_anySign_14 : decode prog_5_method_13_code 14 = .ok (.aload_n 0, 1) := by decide +kernel
theorem dc_Rdr_anySign_15 : decode prog_5_method_13_code 15 = .ok (.iconst 3, 1) := by decide +kernel
theorem dc_Rdr_anySign_16 : decode prog_5_method_13_code 16 = .ok (.aload_n 0, 1) := by decide +kernel
theorem dc_Rdr_anySign_17 : decode prog_5_method_13_code 17 = .ok (.getfield 35, 3) := by decide +kernel
theorem dc_Rdr_anySign_20 : decode prog_5_method_13_code 20 = .ok (.getfield 126, 3) := by decide +kernel
theorem dc_Rdr_anySign_23 : decode prog_5_method_13_code 23 = .ok (.iconst 1, 1) := by decide +kernel
theorem dc_Rdr_anySign_24 : decode prog_5_method_13_code 24 = .ok (.isub, 1) := by decide +kernel
theorem dc_Rdr_anySign_25 : decode prog_5_method_13_code 25 = .ok (.iconst 0, 1) := by decide +kernel
theorem dc_Rdr_anySign_26 : decode prog_5_method_13_code 26 = .ok (.invokevirtual 86, 3) := by decide +kernel
theorem dc_Rdr_anySign_29 : decode prog_5_method_13_code 29 = .ok (.ireturn, 1) := by decide +kernel
theorem dc_Rdr_items_0 : decode prog_5_method_14_code 0 = .ok (.aload_n 0, 1) := by decide +kernel
theorem dc_Rdr_items_1 : decode prog_5_method_14_code 1 = .ok (.invokevirtual 118, 3) := by decide +kernel
theorem dc_Rdr_items_4 : decode prog_5_method_14_code 4 = .ok (.lstore_n 1, 1) := by decide +kernel
theorem dc_Rdr_items_5 : decode prog_5_method_14_code 5 = .ok (.aload_n 0, 1) := by decide +kernel
theorem dc_Rdr_items_6 : decode prog_5_method_14_code 6 = .ok (.invokevirtual 83, 3) := by decide +kernel
theorem dc_Rdr_items_9 : decode prog_5_method_14_code 9 = .ok (.bipush 94, 2) := by decide +kernel
theorem dc_Rdr_items_11 : decode prog_5_method_14_code 11 = .ok (.if_icmp .ne 7, 3) := by decide +kernel
theorem dc_Rdr_items_14 : decode prog_5_method_14_code 14 = .ok (.iconst 1, 1) := by decide +kernel
theorem dc_Rdr_items_15 : decode prog_5_method_14_code 15 = .ok (.goto 4, 3) := by decide +kernel
theorem dc_Rdr_items_18 : decode prog_5_method_14_code 18 = .ok (.iconst 0, 1) := by decide +kernel
theorem dc_Rdr_items_19 : decode prog_5_method_14_code 19 = .ok (.istore_n 3, 1) := by decide +kernel
theorem dc_Rdr_items_20 : decode prog_5_method_14_code 20 = .ok (.iload_n 3, 1) := by decide +kernel
theorem dc_Rdr_items_21 : decode prog_5_method_14_code 21 = .ok (.ifCond .eq 13, 3) := by decide +kernel
theorem dc_Rdr_items_24 : decode prog_5_method_14_code 24 = .ok (.aload_n 0, 1) := by decide +kernel
theorem dc_Rdr_items_25 : decode prog_5_method_14_code 25 = .ok (.dup, 1) := by decide +kernel
theorem dc_Rdr_items_26 : decode prog_5_method_14_code 26 = .ok (.getfield 48, 3) := by decide +kernel
theorem dc_Rdr_items_29 : decode prog_5_method_14_code 29 = .ok (.iconst 1, 1) := by decide +kernel
theorem dc_Rdr_items_30 : decode prog_5_method_14_code 30 = .ok (.iadd, 1) := by decide +kernel
theorem dc_Rdr_items_31 : decode prog_5_method_14_code 31 = .ok (.putfield 48, 3) := by decide +kernel
theorem dc_Rdr_items_34 : decode prog_5_method_14_code 34 = .ok (.aload_n 0, 1) := by decide +kernel
theorem dc_Rdr_items_35 : decode prog_5_method_14_code 35 = .ok (.lload_n 1, 1) := by decide +kernel
theorem dc_Rdr_items_36 : decode prog_5_method_14_code 36 = .ok (.invokevirtual 129, 3) := by decide +kernel
theorem dc_Rdr_items_39 : decode prog_5_method_14_code 39 = .ok (.iconst 0, 1) := by decide +kernel
theorem dc_Rdr_items_40 : decode prog_5_method_14_code 40 = .ok (.istore 4, 2) := by decide +kernel
theorem dc_Rdr_items_42 : decode prog_5_method_14_code 42 = .ok (.iload 4, 2) := by decide +kernel
theorem dc_Rdr_items_44 : decode prog_5_method_14_code 44 = .ok (.bipush 60, 2) := by decide +kernel
theorem dc_Rdr_items_46 : decode prog_5_method_14_code 46 = .ok (.if_icmp .ge 30, 3) := by decide +kernel
theorem dc_Rdr_items_49 : decode prog_5_method_14_code 49 = .ok (.aload_n 0, 1) := by decide +kernel
theorem dc_Rdr_items_50 : decode prog_5_method_14_code 50 = .ok (.invokevirtual 83, 3) := by decide +kernel
theorem dc_Rdr_items_53 : decode prog_5_method_14_code 53 = .ok (.ifCond .eq 23, 3) := by decide +kernel
theorem dc_Rdr_items_56 : decode prog_5_method_14_code 56 = .ok (.aload_n 0, 1) := by decide +kernel
theorem dc_Rdr_items_57 : decode prog_5_method_14_code 57 = .ok (.invokevirtual 83, 3) := by decide +kernel
theorem dc_Rdr_items_60 : decode prog_5_method_14_code 60 = .ok (.bipush 93, 2) := by decide +kernel
theorem dc_Rdr_items_62 : decode prog_5_method_14_code 62 = .ok (.if_icmp .eq 14, 3) := by decide +kernel
theorem dc_Rdr_items_65 : decode prog_5_method_14_code 65 = .ok (.aload_n 0, 1) := by decide +kernel
theorem dc_Rdr_items_66 : decode prog_5_method_14_code 66 = .ok (.lload_n 1, 1) := by decide +kernel
theorem dc_Rdr_items_67 : decode prog_5_method_14_code 67 = .ok (.invokevirtual 129, 3) := by decide +kernel
theorem dc_Rdr_items_70 : decode prog_5_method_14_code 70 = .ok (.iinc 4 1, 3) := by decide +kernel
theorem dc_Rdr_items_73 : decode prog_5_method_14_code 73 = .ok (.goto (-31), 3) := by decide +kernel
theorem dc_Rdr_items_76 : decode prog_5_method_14_code 76 = .ok (.aload_n 0, 1) := by decide +kernel
theorem dc_Rdr_items_77 : decode prog_5_method_14_code 77 = .ok (.invokevirtual 83, 3) := by decide +kernel
theorem dc_Rdr_items_80 : decode prog_5_method_14_code 80 = .ok (.bipush 93, 2) := by decide +kernel
theorem dc_Rdr_items_82 : decode prog_5_method_14_code 82 = .ok (.if_icmp .eq 8, 3) := by decide +kernel
theorem dc_Rdr_items_85 : decode prog_5_method_14_code 85 = .ok (.aload_n 0, 1) := by decide +kernel
theorem dc_Rdr_items_86 : decode prog_5_method_14_code 86 = .ok (.invokevirtual 68, 3) := by decide +kernel
theorem dc_Rdr_items_89 : decode prog_5_method_14_code 89 = .ok (.ireturn, 1) := by decide +kernel
theorem dc_Rdr_items_90 : decode prog_5_method_14_code 90 = .ok (.aload_n 0, 1) := by decide +kernel
theorem dc_Rdr_items_91 : decode prog_5_method_14_code 91 = .ok (.dup, 1) := by decide +kernel
theorem dc_Rdr_items_92 : decode prog_5_method_14_code 92 = .ok (.getfield 48, 3) := by decide +kernel
theorem dc_Rdr_items_95 : decode prog_5_method_14_code 95 = .ok (.iconst 1, 1) := by decide +kernel
theorem dc_Rdr_items_96 : decode prog_5_method_14_code 96 = .ok (.iadd, 1) := by decide +kernel
theorem dc_Rdr_items_97 : decode prog_5_method_14_code 97 = .ok (.putfield 48, 3) := by decide +kernel
theorem dc_Rdr_items_100 : decode prog_5_method_14_code 100 = .ok (.iload_n 3, 1) := by decide +kernel
theorem dc_Rdr_items_101 : decode prog_5_method_14_code 101 = .ok (.ifCond .eq 8, 3) := by decide +kernel
theorem dc_Rdr_items_104 : decode prog_5_method_14_code 104 = .ok (.aload_n 0, 1) := by decide +kernel
theorem dc_Rdr_items_105 : decode prog_5_method_14_code 105 = .ok (.lload_n 1, 1) := by decide +kernel
theorem dc_Rdr_items_106 : decode prog_5_method_14_code 106 = .ok (.invokevirtual 133, 3) := by decide +kernel
theorem dc_Rdr_items_109 : decode prog_5_method_14_code 109 = .ok (.aload_n 0, 1) := by decide +kernel
theorem dc_Rdr_items_110 : decode prog_5_method_14_code 110 = .ok (.iconst 3, 1) := by decide +kernel
theorem dc_Rdr_items_111 : decode prog_5_method_14_code 111 = .ok (.aload_n 0, 1) := by decide +kernel
theorem dc_Rdr_items_112 : decode prog_5_method_14_code 112 = .ok (.getfield 35, 3) := by decide +kernel
theorem dc_Rdr_items_115 : decode prog_5_method_14_code 115 = .ok (.getfield 126, 3) := by decide +kernel
theorem dc_Rdr_items_118 : decode prog_5_method_14_code 118 = .ok (.iconst 1, 1) := by decide +kernel
theorem dc_Rdr_items_119 : decode prog_5_method_14_code 119 = .ok (.isub, 1) := by decide +kernel
theorem dc_Rdr_items_120 : decode prog_5_method_14_code 120 = .ok (.iconst 0, 1) := by decide +kernel
theorem dc_Rdr_items_121 : decode prog_5_method_14_code 121 = .ok (.invokevirtual 86, 3) := by decide +kernel
theorem dc_Rdr_items_124 : decode prog_5_method_14_code 124 = .ok (.ireturn, 1) := by decide +kernel
theorem dc_Rdr_item_0 : decode prog_5_method_15_code 0 = .ok (.aload_n 0, 1) := by decide +kernel
theorem dc_Rdr_item_1 : decode prog_5_method_15_code 1 = .ok (.invokevirtual 83, 3) := by decide +kernel
theorem dc_Rdr_item_4 : decode prog_5_method_15_code 4 = .ok (.istore_n 3, 1) := by decide +kernel
theorem dc_Rdr_item_5 : decode prog_5_method_15_code 5 = .ok (.iload_n 3, 1) := by decide +kernel
theorem dc_Rdr_item_6 : decode prog_5_method_15_code 6 = .ok (.invokestatic 136, 3) := by decide +kernel
theorem dc_Rdr_item_9 : decode prog_5_method_15_code 9 = .ok (.ifCond .ne 9, 3) := by decide +kernel
theorem dc_Rdr_item_12 : decode prog_5_method_15_code 12 = .ok (.aload_n 0, 1) := by decide +kernel
theorem dc_Rdr_item_13 : decode prog_5_method_15_code 13 = .ok (.invokevirtual 68, 3) := by decide +kernel
theorem dc_Rdr_item_16 : decode prog_5_method_15_code 16 = .ok (.pop, 1) := by decide +kernel
theorem dc_Rdr_item_17 : decode prog_5_method_15_code 17 = .ok (.return_, 1) := by decide +kernel
theorem dc_Rdr_item_18 : decode prog_5_method_15_code 18 = .ok (.aload_n 0, 1) := by decide +kernel
theorem dc_Rdr_item_19 : decode prog_5_method_15_code 19 = .ok (.dup, 1) := by decide +kernel
theorem dc_Rdr_item_20 : decode prog_5_method_15_code 20 = .ok (.getfield 48, 3) := by decide +kernel
theorem dc_Rdr_item_23 : decode prog_5_method_15_code 23 = .ok (.iconst 1, 1) := by decide +kernel
theorem dc_Rdr_item_24 : decode prog_5_method_15_code 24 = .ok (.iadd, 1) := by decide +kernel
theorem dc_Rdr_item_25 : decode prog_5_method_15_code 25 = .ok (.putfield 48, 3) := by decide +kernel
theorem dc_Rdr_item_28 : decode prog_5_method_15_code 28 = .ok (.iload_n 3, 1) := by decide +kernel
theorem dc_Rdr_item_29 : decode prog_5_method_15_code 29 = .ok (.istore 4, 2) := by decide +kernel
theorem dc_Rdr_item_31 : decode prog_5_method_15_code 31 = .ok (.aload_n 0, 1) := by decide +kernel
theorem dc_Rdr_item_32 : decode prog_5_method_15_code 32 = .ok (.invokevirtual 83, 3) := by decide +kernel
theorem dc_Rdr_item_35 : decode prog_5_method_15_code 35 = .ok (.bipush 45, 2) := by decide +kernel
theorem dc_Rdr_item_37 : decode prog_5_method_15_code 37 = .ok (.if_icmp .ne 49, 3) := by decide +kernel
theorem dc_Rdr_item_40 : decode prog_5_method_15_code 40 = .ok (.aload_n 0, 1) := by decide +kernel
theorem dc_Rdr_item_41 : decode prog_5_method_15_code 41 = .ok (.dup, 1) := by decide +kernel
theorem dc_Rdr_item_42 : decode prog_5_method_15_code 42 = .ok (.getfield 48, 3) := by decide +kernel
theorem dc_Rdr_item_45 : decode prog_5_method_15_code 45 = .ok (.iconst 1, 1) := by decide +kernel
theorem dc_Rdr_item_46 : decode prog_5_method_15_code 46 = .ok (.iadd, 1) := by decide +kernel
theorem dc_Rdr_item_47 : decode prog_5_method_15_code 47 = .ok (.putfield 48, 3) := by decide +kernel
theorem dc_Rdr_item_50 : decode prog_5_method_15_code 50 = .ok (.aload_n 0, 1) := by decide +kernel
theorem dc_Rdr_item_51 : decode prog_5_method_15_code 51 = .ok (.invokevirtual 83, 3) := by decide +kernel
theorem dc_Rdr_item_54 : decode prog_5_method_15_code 54 = .ok (.istore 4, 2) := by decide +kernel
theorem dc_Rdr_item_56 : decode prog_5_method_15_code 56 = .ok (.iload 4, 2) := by decide +kernel
theorem dc_Rdr_item_58 : decode prog_5_method_15_code 58 = .ok (.invokestatic 136, 3) := by decide +kernel
theorem dc_Rdr_item_61 : decode prog_5_method_15_code 61 = .ok (.ifCond .eq 9, 3) := by decide +kernel
theorem dc_Rdr_item_64 : decode prog_5_method_15_code 64 = .ok (.iload 4, 2) := by decide +kernel
theorem dc_Rdr_item_66 : decode prog_5_method_15_code 66 = .ok (.iload_n 3, 1) := by decide +kernel
theorem dc_Rdr_item_67 : decode prog_5_method_15_code 67 = .ok (.if_icmp .ge 9, 3) := by decide +kernel
theorem dc_Rdr_item_70 : decode prog_5_method_15_code 70 = .ok (.aload_n 0, 1) := by decide +kernel
theorem dc_Rdr_item_71 : decode prog_5_method_15_code 71 = .ok (.invokevirtual 68, 3) := by decide +kernel
theorem dc_Rdr_item_74 : decode prog_5_method_15_code 74 = .ok (.pop, 1) := by decide +kernel
theorem dc_Rdr_item_75 : decode prog_5_method_15_code 75 = .ok (.return_, 1) := by decide +kernel
theorem dc_Rdr_item_76 : decode prog_5_method_15_code 76 = .ok (.aload_n 0, 1) := by decide +kernel
theorem dc_Rdr_item_77 : decode prog_5_method_15_code 77 = .ok (.dup, 1) := by decide +kernel
theorem dc_Rdr_item_78 : decode prog_5_method_15_code 78 = .ok (.getfield 48, 3) := by decide +kernel
theorem dc_Rdr_item_81 : decode prog_5_method_15_code 81 = .ok (.iconst 1, 1) := by decide +kernel
theorem dc_Rdr_item_82 : decode prog_5_method_15_code 82 = .ok (.iadd, 1) := by decide +kernel
theorem dc_Rdr_item_83 : decode prog_5_method_15_code 83 = .ok (.putfield 48, 3) := by decide +kernel
theorem dc_Rdr_item_86 : decode prog_5_method_15_code 86 = .ok (.aload_n 0, 1) := by decide +kernel
theorem dc_Rdr_item_87 : decode prog_5_method_15_code 87 = .ok (.lload_n 1, 1) := by decide +kernel
theorem dc_Rdr_item_88 : decode prog_5_method_15_code 88 = .ok (.iload_n 3, 1) := by decide +kernel
theorem dc_Rdr_item_89 : decode prog_5_method_15_code 89 = .ok (.iload 4, 2) := by decide +kernel
theorem dc_Rdr_item_91 : decode prog_5_method_15_code 91 = .ok (.invokevirtual 122, 3) := by decide +kernel
theorem dc_Rdr_item_94 : decode prog_5_method_15_code 94 = .ok (.return_, 1) := by decide +kernel
theorem dc_Rdr_isItemSign_0 : decode prog_5_method_16_code 0 = .ok (.iload_n 0, 1) := by decide +kernel
theorem dc_Rdr_isItemSign_1 : decode prog_5_method_16_code 1 = .ok (.ifCond .eq 25, 3) := by decide +kernel
theorem dc_Rdr_isItemSign_4 : decode prog_5_method_16_code 4 = .ok (.iload_n 0, 1) := by decide +kernel
theorem dc_Rdr_isItemSign_5 : decode prog_5_method_16_code 5 = .ok (.bipush 93, 2) := by decide +kernel
theorem dc_Rdr_isItemSign_7 : decode prog_5_method_16_code 7 = .ok (.if_icmp .eq 19, 3) := by decide +kernel
theorem dc_Rdr_isItemSign_10 : decode prog_5_method_16_code 10 = .ok (.iload_n 0, 1) := by decide +kernel
theorem dc_Rdr_isItemSign_11 : decode prog_5_method_16_code 11 = .ok (.bipush 92, 2) := by decide +kernel
theorem dc_Rdr_isItemSign_13 : decode prog_5_method_16_code 13 = .ok (.if_icmp .eq 13, 3) := by decide +kernel
theorem dc_Rdr_isItemSign_16 : decode prog_5_method_16_code 16 = .ok (.iload_n 0, 1) := by decide +kernel
theorem dc_Rdr_isItemSign_17 : decode prog_5_method_16_code 17 = .ok (.bipush 45, 2) := by decide +kernel
theorem dc_Rdr_isItemSign_19 : decode prog_5_method_16_code 19 = .ok (.if_icmp .eq 7, 3) := by decide +kernel
theorem dc_Rdr_isItemSign_22 : decode prog_5_method_16_code 22 = .ok (.iconst 1, 1) := by decide +kernel
theorem dc_Rdr_isItemSign_23 : decode prog_5_method_16_code 23 = .ok (.goto 4, 3) := by decide +kernel
theorem dc_Rdr_isItemSign_26 : decode prog_5_method_16_code 26 = .ok (.iconst 0, 1) := by decide +kernel
theorem dc_Rdr_isItemSign_27 : decode prog_5_method_16_code 27 = .ok (.ireturn, 1) := by decide +kernel
theorem dc_Rdr_next_0 : decode prog_5_method_17_code 0 = .ok (.aload_n 0, 1) := by decide +kernel
theorem dc_Rdr_next_1 : decode prog_5_method_17_code 1 = .ok (.getfield 48, 3) := by decide +kernel
theorem dc_Rdr_next_4 : decode prog_5_method_17_code 4 = .ok (.aload_n 0, 1) := by decide +kernel
theorem dc_Rdr_next_5 : decode prog_5_method_17_code 5 = .ok (.getfield 44, 3) := by decide +kernel
theorem dc_Rdr_next_8 : decode prog_5_method_17_code 8 = .ok (.getfield 65, 3) := by decide +kernel
theorem dc_Rdr_next_11 : decode prog_5_method_17_code 11 = .ok (.if_icmp .ge 18, 3) := by decide +kernel
theorem dc_Rdr_next_14 : decode prog_5_method_17_code 14 = .ok (.aload_n 0, 1) := by decide +kernel
theorem dc_Rdr_next_15 : decode prog_5_method_17_code 15 = .ok (.getfield 44, 3) := by decide +kernel
theorem dc_Rdr_next_18 : decode prog_5_method_17_code 18 = .ok (.getfield 139, 3) := by decide +kernel
theorem dc_Rdr_next_21 : decode prog_5_method_17_code 21 = .ok (.aload_n 0, 1) := by decide +kernel
theorem dc_Rdr_next_22 : decode prog_5_method_17_code 22 = .ok (.getfield 48, 3) := by decide +kernel
theorem dc_Rdr_next_25 : decode prog_5_method_17_code 25 = .ok (.iaload, 1) := by decide +kernel
theorem dc_Rdr_next_26 : decode prog_5_method_17_code 26 = .ok (.goto 4, 3) := by decide +kernel
theorem dc_Rdr_next_29 : decode prog_5_method_17_code 29 = .ok (.iconst 0, 1) := by decide +kernel
theorem dc_Rdr_next_30 : decode prog_5_method_17_code 30 = .ok (.ireturn, 1) := by decide +kernel
theorem dc_Rdr_refuse_0 : decode prog_5_method_18_code 0 = .ok (.aload_n 0, 1) := by decide +kernel
theorem dc_Rdr_refuse_1 : decode prog_5_method_18_code 1 = .ok (.getfield 52, 3) := by decide +kernel
theorem dc_Rdr_refuse_4 : decode prog_5_method_18_code 4 = .ok (.iconst (-1), 1) := by decide +kernel
theorem dc_Rdr_refuse_5 : decode prog_5_method_18_code 5 = .ok (.if_icmp .ne 11, 3) := by decide +kernel
theorem dc_Rdr_refuse_8 : decode prog_5_method_18_code 8 = .ok (.aload_n 0, 1) := by decide +kernel
theorem dc_Rdr_refuse_9 : decode prog_5_method_18_code 9 = .ok (.aload_n 0, 1) := by decide +kernel
theorem dc_Rdr_refuse_10 : decode prog_5_method_18_code 10 = .ok (.getfield 48, 3) := by decide +kernel
theorem dc_Rdr_refuse_13 : decode prog_5_method_18_code 13 = .ok (.putfield 52, 3) := by decide +kernel
theorem dc_Rdr_refuse_16 : decode prog_5_method_18_code 16 = .ok (.aload_n 0, 1) := by decide +kernel
theorem dc_Rdr_refuse_17 : decode prog_5_method_18_code 17 = .ok (.aload_n 0, 1) := by decide +kernel
theorem dc_Rdr_refuse_18 : decode prog_5_method_18_code 18 = .ok (.getfield 44, 3) := by decide +kernel
theorem dc_Rdr_refuse_21 : decode prog_5_method_18_code 21 = .ok (.getfield 65, 3) := by decide +kernel
theorem dc_Rdr_refuse_24 : decode prog_5_method_18_code 24 = .ok (.putfield 48, 3) := by decide +kernel
theorem dc_Rdr_refuse_27 : decode prog_5_method_18_code 27 = .ok (.iconst 0, 1) := by decide +kernel
theorem dc_Rdr_refuse_28 : decode prog_5_method_18_code 28 = .ok (.ireturn, 1) := by decide +kernel
theorem dc_Rdr_newAtom_0 : decode prog_5_method_19_code 0 = .ok (.aload_n 0, 1) := by decide +kernel
theorem dc_Rdr_newAtom_1 : decode prog_5_method_19_code 1 = .ok (.getfield 35, 3) := by decide +kernel
theorem dc_Rdr_newAtom_4 : decode prog_5_method_19_code 4 = .ok (.dup, 1) := by decide +kernel
theorem dc_Rdr_newAtom_5 : decode prog_5_method_19_code 5 = .ok (.getfield 126, 3) := by decide +kernel
theorem dc_Rdr_newAtom_8 : decode prog_5_method_19_code 8 = .ok (.iconst 1, 1) := by decide +kernel
theorem dc_Rdr_newAtom_9 : decode prog_5_method_19_code 9 = .ok (.iadd, 1) := by decide +kernel
theorem dc_Rdr_newAtom_10 : decode prog_5_method_19_code 10 = .ok (.putfield 126, 3) := by decide +kernel
theorem dc_Rdr_newAtom_13 : decode prog_5_method_19_code 13 = .ok (.lconst 1, 1) := by decide +kernel
theorem dc_Rdr_newAtom_14 : decode prog_5_method_19_code 14 = .ok (.aload_n 0, 1) := by decide +kernel
theorem dc_Rdr_newAtom_15 : decode prog_5_method_19_code 15 = .ok (.getfield 35, 3) := by decide +kernel
theorem dc_Rdr_newAtom_18 : decode prog_5_method_19_code 18 = .ok (.getfield 126, 3) := by decide +kernel
theorem dc_Rdr_newAtom_21 : decode prog_5_method_19_code 21 = .ok (.iconst 1, 1) := by decide +kernel
theorem dc_Rdr_newAtom_22 : decode prog_5_method_19_code 22 = .ok (.isub, 1) := by decide +kernel
theorem dc_Rdr_newAtom_23 : decode prog_5_method_19_code 23 = .ok (.lshl, 1) := by decide +kernel
theorem dc_Rdr_newAtom_24 : decode prog_5_method_19_code 24 = .ok (.lreturn, 1) := by decide +kernel
theorem dc_Rdr_take_0 : decode prog_5_method_20_code 0 = .ok (.iload_n 3, 1) := by decide +kernel
theorem dc_Rdr_take_1 : decode prog_5_method_20_code 1 = .ok (.istore 5, 2) := by decide +kernel
theorem dc_Rdr_take_3 : decode prog_5_method_20_code 3 = .ok (.iload 5, 2) := by decide +kernel
theorem dc_Rdr_take_5 : decode prog_5_method_20_code 5 = .ok (.iload 4, 2) := by decide +kernel
theorem dc_Rdr_take_7 : decode prog_5_method_20_code 7 = .ok (.if_icmp .gt 23, 3) := by decide +kernel
theorem dc_Rdr_take_10 : decode prog_5_method_20_code 10 = .ok (.aload_n 0, 1) := by decide +kernel
theorem dc_Rdr_take_11 : decode prog_5_method_20_code 11 = .ok (.getfield 35, 3) := by decide +kernel
theorem dc_Rdr_take_14 : decode prog_5_method_20_code 14 = .ok (.getfield 142, 3) := by decide +kernel
theorem dc_Rdr_take_17 : decode prog_5_method_20_code 17 = .ok (.iload 5, 2) := by decide +kernel
theorem dc_Rdr_take_19 : decode prog_5_method_20_code 19 = .ok (.dup2, 1) := by decide +kernel
theorem dc_Rdr_take_20 : decode prog_5_method_20_code 20 = .ok (.laload, 1) := by decide +kernel
theorem dc_Rdr_take_21 : decode prog_5_method_20_code 21 = .ok (.lload_n 1, 1) := by decide +kernel
theorem dc_Rdr_take_22 : decode prog_5_method_20_code 22 = .ok (.lor, 1) := by decide +kernel
theorem dc_Rdr_take_23 : decode prog_5_method_20_code 23 = .ok (.lastore, 1) := by decide +kernel
theorem dc_Rdr_take_24 : decode prog_5_method_20_code 24 = .ok (.iinc 5 1, 3) := by decide +kernel
theorem dc_Rdr_take_27 : decode prog_5_method_20_code 27 = .ok (.goto (-24), 3) := by decide +kernel
theorem dc_Rdr_take_30 : decode prog_5_method_20_code 30 = .ok (.return_, 1) := by decide +kernel
theorem dc_Rdr_takeOthers_0 : decode prog_5_method_21_code 0 = .ok (.iconst 1, 1) := by decide +kernel
theorem dc_Rdr_takeOthers_1 : decode prog_5_method_21_code 1 = .ok (.istore_n 3, 1) := by decide +kernel
theorem dc_Rdr_takeOthers_2 : decode prog_5_method_21_code 2 = .ok (.iload_n 3, 1) := by decide +kernel
theorem dc_Rdr_takeOthers_3 : decode prog_5_method_21_code 3 = .ok (.sipush 255, 3) := by decide +kernel
theorem dc_Rdr_takeOthers_6 : decode prog_5_method_21_code 6 = .ok (.if_icmp .gt 22, 3) := by decide +kernel
theorem dc_Rdr_takeOthers_9 : decode prog_5_method_21_code 9 = .ok (.aload_n 0, 1) := by decide +kernel
theorem dc_Rdr_takeOthers_10 : decode prog_5_method_21_code 10 = .ok (.getfield 35, 3) := by decide +kernel
theorem dc_Rdr_takeOthers_13 : decode prog_5_method_21_code 13 = .ok (.getfield 142, 3) := by decide +kernel
theorem dc_Rdr_takeOthers_16 : decode prog_5_method_21_code 16 = .ok (.iload_n 3, 1) := by decide +kernel
theorem dc_Rdr_takeOthers_17 : decode prog_5_method_21_code 17 = .ok (.dup2, 1) := by decide +kernel
theorem dc_Rdr_takeOthers_18 : decode prog_5_method_21_code 18 = .ok (.laload, 1) := by decide +kernel
theorem dc_Rdr_takeOthers_19 : decode prog_5_method_21_code 19 = .ok (.lload_n 1, 1) := by decide +kernel
theorem dc_Rdr_takeOthers_20 : decode prog_5_method_21_code 20 = .ok (.lxor, 1) := by decide +kernel
theorem dc_Rdr_takeOthers_21 : decode prog_5_method_21_code 21 = .ok (.lastore, 1) := by decide +kernel
theorem dc_Rdr_takeOthers_22 : decode prog_5_method_21_code 22 = .ok (.iinc 3 1, 3) := by decide +kernel
theorem dc_Rdr_takeOthers_25 : decode prog_5_method_21_code 25 = .ok (.goto (-23), 3) := by decide +kernel
theorem dc_Rdr_takeOthers_28 : decode prog_5_method_21_code 28 = .ok (.return_, 1) := by decide +kernel
theorem dc_Rdr_node_0 : decode prog_5_method_22_code 0 = .ok (.aload_n 0, 1) := by decide +kernel
theorem dc_Rdr_node_1 : decode prog_5_method_22_code 1 = .ok (.getfield 55, 3) := by decide +kernel
theorem dc_Rdr_node_4 : decode prog_5_method_22_code 4 = .ok (.bipush 121, 2) := by decide +kernel
theorem dc_Rdr_node_6 : decode prog_5_method_22_code 6 = .ok (.if_icmp .ne 8, 3) := by decide +kernel
theorem dc_Rdr_node_9 : decode prog_5_method_22_code 9 = .ok (.aload_n 0, 1) := by decide +kernel
theorem dc_Rdr_node_10 : decode prog_5_method_22_code 10 = .ok (.invokevirtual 68, 3) := by decide +kernel
theorem dc_Rdr_node_13 : decode prog_5_method_22_code 13 = .ok (.ireturn, 1) := by decide +kernel
theorem dc_Rdr_node_14 : decode prog_5_method_22_code 14 = .ok (.aload_n 0, 1) := by decide +kernel
theorem dc_Rdr_node_15 : decode prog_5_method_22_code 15 = .ok (.getfield 11, 3) := by decide +kernel
theorem dc_Rdr_node_18 : decode prog_5_method_22_code 18 = .ok (.aload_n 0, 1) := by decide +kernel
theorem dc_Rdr_node_19 : decode prog_5_method_22_code 19 = .ok (.getfield 55, 3) := by decide +kernel
theorem dc_Rdr_node_22 : decode prog_5_method_22_code 22 = .ok (.iload_n 1, 1) := by decide +kernel
theorem dc_Rdr_node_23 : decode prog_5_method_22_code 23 = .ok (.iastore, 1) := by decide +kernel
theorem dc_Rdr_node_24 : decode prog_5_method_22_code 24 = .ok (.aload_n 0, 1) := by decide +kernel
theorem dc_Rdr_node_25 : decode prog_5_method_22_code 25 = .ok (.getfield 15, 3) := by decide +kernel
theorem dc_Rdr_node_28 : decode prog_5_method_22_code 28 = .ok (.aload_n 0, 1) := by decide +kernel
theorem dc_Rdr_node_29 : decode prog_5_method_22_code 29 = .ok (.getfield 55, 3) := by decide +kernel
theorem dc_Rdr_node_32 : decode prog_5_method_22_code 32 = .ok (.iload_n 2, 1) := by decide +kernel
theorem dc_Rdr_node_33 : decode prog_5_method_22_code 33 = .ok (.iastore, 1) := by decide +kernel
theorem dc_Rdr_node_34 : decode prog_5_method_22_code 34 = .ok (.aload_n 0, 1) := by decide +kernel
theorem dc_Rdr_node_35 : decode prog_5_method_22_code 35 = .ok (.getfield 18, 3) := by decide +kernel
theorem dc_Rdr_node_38 : decode prog_5_method_22_code 38 = .ok (.aload_n 0, 1) := by decide +kernel
theorem dc_Rdr_node_39 : decode prog_5_method_22_code 39 = .ok (.getfield 55, 3) := by decide +kernel
theorem dc_Rdr_node_42 : decode prog_5_method_22_code 42 = .ok (.iload_n 3, 1) := by decide +kernel
theorem dc_Rdr_node_43 : decode prog_5_method_22_code 43 = .ok (.iastore, 1) := by decide +kernel
theorem dc_Rdr_node_44 : decode prog_5_method_22_code 44 = .ok (.aload_n 0, 1) := by decide +kernel
theorem dc_Rdr_node_45 : decode prog_5_method_22_code 45 = .ok (.dup, 1) := by decide +kernel
theorem dc_Rdr_node_46 : decode prog_5_method_22_code 46 = .ok (.getfield 55, 3) := by decide +kernel
theorem dc_Rdr_node_49 : decode prog_5_method_22_code 49 = .ok (.iconst 1, 1) := by decide +kernel
theorem dc_Rdr_node_50 : decode prog_5_method_22_code 50 = .ok (.iadd, 1) := by decide +kernel
theorem dc_Rdr_node_51 : decode prog_5_method_22_code 51 = .ok (.putfield 55, 3) := by decide +kernel
theorem dc_Rdr_node_54 : decode prog_5_method_22_code 54 = .ok (.aload_n 0, 1) := by decide +kernel
theorem dc_Rdr_node_55 : decode prog_5_method_22_code 55 = .ok (.getfield 55, 3) := by decide +kernel
theorem dc_Rdr_node_58 : decode prog_5_method_22_code 58 = .ok (.iconst 1, 1) := by decide +kernel
theorem dc_Rdr_node_59 : decode prog_5_method_22_code 59 = .ok (.isub, 1) := by decide +kernel
theorem dc_Rdr_node_60 : decode prog_5_method_22_code 60 = .ok (.ireturn, 1) := by decide +kernel
theorem dc_Rdr_weighAll_0 : decode prog_5_method_23_code 0 = .ok (.iconst 0, 1) := by decide +kernel
theorem dc_Rdr_weighAll_1 : decode prog_5_method_23_code 1 = .ok (.istore_n 2, 1) := by decide +kernel
theorem dc_Rdr_weighAll_2 : decode prog_5_method_23_code 2 = .ok (.iload_n 2, 1) := by decide +kernel
theorem dc_Rdr_weighAll_3 : decode prog_5_method_23_code 3 = .ok (.aload_n 0, 1) := by decide +kernel
theorem dc_Rdr_weighAll_4 : decode prog_5_method_23_code 4 = .ok (.getfield 55, 3) := by decide +kernel
theorem dc_Rdr_weighAll_7 : decode prog_5_method_23_code 7 = .ok (.if_icmp .ge 24, 3) := by decide +kernel
theorem dc_Rdr_weighAll_10 : decode prog_5_method_23_code 10 = .ok (.aload_n 0, 1) := by decide +kernel
theorem dc_Rdr_weighAll_11 : decode prog_5_method_23_code 11 = .ok (.iload_n 2, 1) := by decide +kernel
theorem dc_Rdr_weighAll_12 : decode prog_5_method_23_code 12 = .ok (.iload_n 1, 1) := by decide +kernel
theorem dc_Rdr_weighAll_13 : decode prog_5_method_23_code 13 = .ok (.invokevirtual 145, 3) := by decide +kernel
theorem dc_Rdr_weighAll_16 : decode prog_5_method_23_code 16 = .ok (.iload_n 1, 1) := by decide +kernel
theorem dc_Rdr_weighAll_17 : decode prog_5_method_23_code 17 = .ok (.ifCond .ne 8, 3) := by decide +kernel
theorem dc_Rdr_weighAll_20 : decode prog_5_method_23_code 20 = .ok (.aload_n 0, 1) := by decide +kernel
theorem dc_Rdr_weighAll_21 : decode prog_5_method_23_code 21 = .ok (.iload_n 2, 1) := by decide +kernel
theorem dc_Rdr_weighAll_22 : decode prog_5_method_23_code 22 = .ok (.invokevirtual 149, 3) := by decide +kernel
theorem dc_Rdr_weighAll_25 : decode prog_5_method_23_code 25 = .ok (.iinc 2 1, 3) := by decide +kernel
theorem dc_Rdr_weighAll_28 : decode prog_5_method_23_code 28 = .ok (.goto (-26), 3) := by decide +kernel
theorem dc_Rdr_weighAll_31 : decode prog_5_method_23_code 31 = .ok (.return_, 1) := by decide +kernel
theorem dc_Rdr_weigh_0 : decode prog_5_method_24_code 0 = .ok (.aload_n 0, 1) := by decide +kernel
theorem dc_Rdr_weigh_1 : decode prog_5_method_24_code 1 = .ok (.getfield 15, 3) := by decide +kernel
theorem dc_Rdr_weigh_4 : decode prog_5_method_24_code 4 = .ok (.iload_n 1, 1) := by decide +kernel
theorem dc_Rdr_weigh_5 : decode prog_5_method_24_code 5 = .ok (.iaload, 1) := by decide +kernel
theorem dc_Rdr_weigh_6 : decode prog_5_method_24_code 6 = .ok (.istore_n 3, 1) := by decide +kernel
theorem dc_Rdr_weigh_7 : decode prog_5_method_24_code 7 = .ok (.aload_n 0, 1) := by decide +kernel
theorem dc_Rdr_weigh_8 : decode prog_5_method_24_code 8 = .ok (.getfield 18, 3) := by decide +kernel
theorem dc_Rdr_weigh_11 : decode prog_5_method_24_code 11 = .ok (.iload_n 1, 1) := by decide +kernel
theorem dc_Rdr_weigh_12 : decode prog_5_method_24_code 12 = .ok (.iaload, 1) := by decide +kernel
theorem dc_Rdr_weigh_13 : decode prog_5_method_24_code 13 = .ok (.istore 4, 2) := by decide +kernel
theorem dc_Rdr_weigh_15 : decode prog_5_method_24_code 15 = .ok (.aload_n 0, 1) := by decide +kernel
theorem dc_Rdr_weigh_16 : decode prog_5_method_24_code 16 = .ok (.getfield 11, 3) := by decide +kernel
theorem dc_Rdr_weigh_19 : decode prog_5_method_24_code 19 = .ok (.iload_n 1, 1) := by decide +kernel
theorem dc_Rdr_weigh_20 : decode prog_5_method_24_code 20 = .ok (.iaload, 1) := by decide +kernel
theorem dc_Rdr_weigh_21 : decode prog_5_method_24_code 21 = .ok (.tableswitch 298 1 8 #[62, 83, 47, 104, 191, 251, 272, 251], 47) := by decide +kernel
theorem dc_Rdr_weigh_68 : decode prog_5_method_24_code 68 = .ok (.aload_n 0, 1) := by decide +kernel
theorem dc_Rdr_weigh_69 : decode prog_5_method_24_code 69 = .ok (.iload_n 1, 1) := by decide +kernel
theorem dc_Rdr_weigh_70 : decode prog_5_method_24_code 70 = .ok (.iconst 0, 1) := by decide +kernel
theorem dc_Rdr_weigh_71 : decode prog_5_method_24_code 71 = .ok (.lconst 1, 1) := by decide +kernel
theorem dc_Rdr_weigh_72 : decode prog_5_method_24_code 72 = .ok (.iload_n 3, 1) := by decide +kernel
theorem dc_Rdr_weigh_73 : decode prog_5_method_24_code 73 = .ok (.lshl, 1) := by decide +kernel
theorem dc_Rdr_weigh_74 : decode prog_5_method_24_code 74 = .ok (.lconst 1, 1) := by decide +kernel
theorem dc_Rdr_weigh_75 : decode prog_5_method_24_code 75 = .ok (.iload_n 3, 1) := by decide +kernel
theorem dc_Rdr_weigh_76 : decode prog_5_method_24_code 76 = .ok (.lshl, 1) := by decide +kernel
theorem dc_Rdr_weigh_77 : decode prog_5_method_24_code 77 = .ok (.invokevirtual 152, 3) := by decide +kernel
theorem dc_Rdr_weigh_80 : decode prog_5_method_24_code 80 = .ok (.goto 247, 3) := by decide +kernel
theorem dc_Rdr_weigh_83 : decode prog_5_method_24_code 83 = .ok (.aload_n 0, 1) := by decide +kernel
theorem dc_Rdr_weigh_84 : decode prog_5_method_24_code 84 = .ok (.iload_n 1, 1) := by decide +kernel
theorem dc_Rdr_weigh_85 : decode prog_5_method_24_code 85 = .ok (.iload_n 2, 1) := by decide +kernel
theorem dc_Rdr_weigh_86 : decode prog_5_method_24_code 86 = .ok (.iconst 1, 1) := by decide +kernel
theorem dc_Rdr_weigh_87 : decode prog_5_method_24_code 87 = .ok (.iand, 1) := by decide +kernel
theorem dc_Rdr_weigh_88 : decode prog_5_method_24_code 88 = .ok (.ifCond .eq 7, 3) := by decide +kernel
theorem dc_Rdr_weigh_91 : decode prog_5_method_24_code 91 = .ok (.iconst 1, 1) := by decide +kernel
theorem dc_Rdr_weigh_92 : decode prog_5_method_24_code 92 = .ok (.goto 4, 3) := by decide +kernel
theorem dc_Rdr_weigh_95 : decode prog_5_method_24_code 95 = .ok (.iconst 0, 1) := by decide +kernel
theorem dc_Rdr_weigh_96 : decode prog_5_method_24_code 96 = .ok (.lconst 0, 1) := by decide +kernel
theorem dc_Rdr_weigh_97 : decode prog_5_method_24_code 97 = .ok (.lconst 0, 1) := by decide +kernel
theorem dc_Rdr_weigh_98 : decode prog_5_method_24_code 98 = .ok (.invokevirtual 152, 3) := by decide +kernel
theorem dc_Rdr_weigh_101 : decode prog_5_method_24_code 101 = .ok (.goto 226, 3) := by decide +kernel
theorem dc_Rdr_weigh_104 : decode prog_5_method_24_code 104 = .ok (.aload_n 0, 1) := by decide +kernel
theorem dc_Rdr_weigh_105 : decode prog_5_method_24_code 105 = .ok (.iload_n 1, 1) := by decide +kernel
theorem dc_Rdr_weigh_106 : decode prog_5_method_24_code 106 = .ok (.iload_n 2, 1) := by decide +kernel
theorem dc_Rdr_weigh_107 : decode prog_5_method_24_code 107 = .ok (.iconst 2, 1) := by decide +kernel
theorem dc_Rdr_weigh_108 : decode prog_5_method_24_code 108 = .ok (.iand, 1) := by decide +kernel
theorem dc_Rdr_weigh_109 : decode prog_5_method_24_code 109 = .ok (.ifCond .eq 7, 3) := by decide +kernel
theorem dc_Rdr_weigh_112 : decode prog_5_method_24_code 112 = .ok (.iconst 1, 1) := by decide +kernel
theorem dc_Rdr_weigh_113 : decode prog_5_method_24_code 113 = .ok (.goto 4, 3) := by decide +kernel
theorem dc_Rdr_weigh_116 : decode prog_5_method_24_code 116 = .ok (.iconst 0, 1) := by decide +kernel
theorem dc_Rdr_weigh_117 : decode prog_5_method_24_code 117 = .ok (.lconst 0, 1) := by decide +kernel
theorem dc_Rdr_weigh_118 : decode prog_5_method_24_code 118 = .ok (.lconst 0, 1) := by decide +kernel
theorem dc_Rdr_weigh_119 : decode prog_5_method_24_code 119 = .ok (.invokevirtual 152, 3) := by decide +kernel
theorem dc_Rdr_weigh_122 : decode prog_5_method_24_code 122 = .ok (.goto 205, 3) := by decide +kernel
theorem dc_Rdr_weigh_125 : decode prog_5_method_24_code 125 = .ok (.aload_n 0, 1) := by decide +kernel
theorem dc_Rdr_weigh_126 : decode prog_5_method_24_code 126 = .ok (.iload_n 1, 1) := by decide +kernel
theorem dc_Rdr_weigh_127 : decode prog_5_method_24_code 127 = .ok (.aload_n 0, 1) := by decide +kernel
theorem dc_Rdr_weigh_128 : decode prog_5_method_24_code 128 = .ok (.getfield 21, 3) := by decide +kernel
theorem dc_Rdr_weigh_131 : decode prog_5_method_24_code 131 = .ok (.iload_n 3, 1) := by decide +kernel
theorem dc_Rdr_weigh_132 : decode prog_5_method_24_code 132 = .ok (.baload, 1) := by decide +kernel
theorem dc_Rdr_weigh_133 : decode prog_5_method_24_code 133 = .ok (.ifCond .eq 17, 3) := by decide +kernel
theorem dc_Rdr_weigh_136 : decode prog_5_method_24_code 136 = .ok (.aload_n 0, 1) := by decide +kernel
theorem dc_Rdr_weigh_137 : decode prog_5_method_24_code 137 = .ok (.getfield 21, 3) := by decide +kernel
theorem dc_Rdr_weigh_140 : decode prog_5_method_24_code 140 = .ok (.iload 4, 2) := by decide +kernel
theorem dc_Rdr_weigh_142 : decode prog_5_method_24_code 142 = .ok (.baload, 1) := by decide +kernel
theorem dc_Rdr_weigh_143 : decode prog_5_method_24_code 143 = .ok (.ifCond .eq 7, 3) := by decide +kernel
theorem dc_Rdr_weigh_146 : decode prog_5_method_24_code 146 = .ok (.iconst 1, 1) := by decide +kernel
theorem dc_Rdr_weigh_147 : decode prog_5_method_24_code 147 = .ok (.goto 4, 3) := by decide +kernel
theorem dc_Rdr_weigh_150 : decode prog_5_method_24_code 150 = .ok (.iconst 0, 1) := by decide +kernel
theorem dc_Rdr_weigh_151 : decode prog_5_method_24_code 151 = .ok (.aload_n 0, 1) := by decide +kernel
theorem dc_Rdr_weigh_152 : decode prog_5_method_24_code 152 = .ok (.getfield 25, 3) := by decide +kernel
theorem dc_Rdr_weigh_155 : decode prog_5_method_24_code 155 = .ok (.iload_n 3, 1) := by decide +kernel
theorem dc_Rdr_weigh_156 : decode prog_5_method_24_code 156 = .ok (.laload, 1) := by decide +kernel
theorem dc_Rdr_weigh_157 : decode prog_5_method_24_code 157 = .ok (.aload_n 0, 1) := by decide +kernel
theorem dc_Rdr_weigh_158 : decode prog_5_method_24_code 158 = .ok (.getfield 21, 3) := by decide +kernel
theorem dc_Rdr_weigh_161 : decode prog_5_method_24_code 161 = .ok (.iload_n 3, 1) := by decide +kernel
theorem dc_Rdr_weigh_162 : decode prog_5_method_24_code 162 = .ok (.baload, 1) := by decide +kernel
theorem dc_Rdr_weigh_163 : decode prog_5_method_24_code 163 = .ok (.ifCond .eq 13, 3) := by decide +kernel
theorem dc_Rdr_weigh_166 : decode prog_5_method_24_code 166 = .ok (.aload_n 0, 1) := by decide +kernel
theorem dc_Rdr_weigh_167 : decode prog_5_method_24_code 167 = .ok (.getfield 25, 3) := by decide +kernel
theorem dc_Rdr_weigh_170 : decode prog_5_method_24_code 170 = .ok (.iload 4, 2) := by decide +kernel
theorem dc_Rdr_weigh_172 : decode prog_5_method_24_code 172 = .ok (.laload, 1) := by decide +kernel
theorem dc_Rdr_weigh_173 : decode prog_5_method_24_code 173 = .ok (.goto 4, 3) := by decide +kernel
theorem dc_Rdr_weigh_176 : decode prog_5_method_24_code 176 = .ok (.lconst 0, 1) := by decide +kernel
theorem dc_Rdr_weigh_177 : decode prog_5_method_24_code 177 = .ok (.lor, 1) := by decide +kernel
theorem dc_Rdr_weigh_178 : decode prog_5_method_24_code 178 = .ok (.aload_n 0, 1) := by decide +kernel
theorem dc_Rdr_weigh_179 : decode prog_5_method_24_code 179 = .ok (.getfield 29, 3) := by decide +kernel
theorem dc_Rdr_weigh_182 : decode prog_5_method_24_code 182 = .ok (.iload 4, 2) := by decide +kernel
theorem dc_Rdr_weigh_184 : decode prog_5_method_24_code 184 = .ok (.laload, 1) := by decide +kernel
theorem dc_Rdr_weigh_185 : decode prog_5_method_24_code 185 = .ok (.aload_n 0, 1) := by decide +kernel
theorem dc_Rdr_weigh_186 : decode prog_5_method_24_code 186 = .ok (.getfield 21, 3) := by decide +kernel
theorem dc_Rdr_weigh_189 : decode prog_5_method_24_code 189 = .ok (.iload 4, 2) := by decide +kernel
theorem dc_Rdr_weigh_191 : decode prog_5_method_24_code 191 = .ok (.baload, 1) := by decide +kernel
theorem dc_Rdr_weigh_192 : decode prog_5_method_24_code 192 = .ok (.ifCond .eq 12, 3) := by decide +kernel
theorem dc_Rdr_weigh_195 : decode prog_5_method_24_code 195 = .ok (.aload_n 0, 1) := by decide +kernel
theorem dc_Rdr_weigh_196 : decode prog_5_method_24_code 196 = .ok (.getfield 29, 3) := by decide +kernel
theorem dc_Rdr_weigh_199 : decode prog_5_method_24_code 199 = .ok (.iload_n 3, 1) := by decide +kernel
theorem dc_Rdr_weigh_200 : decode prog_5_method_24_code 200 = .ok (.laload, 1) := by decide +kernel
theorem dc_Rdr_weigh_201 : decode prog_5_method_24_code 201 = .ok (.goto 4, 3) := by decide +kernel
theorem dc_Rdr_weigh_204 : decode prog_5_method_24_code 204 = .ok (.lconst 0, 1) := by decide +kernel
theorem dc_Rdr_weigh_205 : decode prog_5_method_24_code 205 = .ok (.lor, 1) := by decide +kernel
theorem dc_Rdr_weigh_206 : decode prog_5_method_24_code 206 = .ok (.invokevirtual 152, 3) := by decide +kernel
theorem dc_Rdr_weigh_209 : decode prog_5_method_24_code 209 = .ok (.goto 118, 3) := by decide +kernel
theorem dc_Rdr_weigh_212 : decode prog_5_method_24_code 212 = .ok (.aload_n 0, 1) := by decide +kernel
theorem dc_Rdr_weigh_213 : decode prog_5_method_24_code 213 = .ok (.iload_n 1, 1) := by decide +kernel
theorem dc_Rdr_weigh_214 : decode prog_5_method_24_code 214 = .ok (.aload_n 0, 1) := by decide +kernel
theorem dc_Rdr_weigh_215 : decode prog_5_method_24_code 215 = .ok (.getfield 21, 3) := by decide +kernel
theorem dc_Rdr_weigh_218 : decode prog_5_method_24_code 218 = .ok (.iload_n 3, 1) := by decide +kernel
theorem dc_Rdr_weigh_219 : decode prog_5_method_24_code 219 = .ok (.baload, 1) := by decide +kernel
theorem dc_Rdr_weigh_220 : decode prog_5_method_24_code 220 = .ok (.ifCond .ne 13, 3) := by decide +kernel
theorem dc_Rdr_weigh_223 : decode prog_5_method_24_code 223 = .ok (.aload_n 0, 1) := by decide +kernel
theorem dc_Rdr_weigh_224 : decode prog_5_method_24_code 224 = .ok (.getfield 21, 3) := by decide +kernel
theorem dc_Rdr_weigh_227 : decode prog_5_method_24_code 227 = .ok (.iload 4, 2) := by decide +kernel
theorem dc_Rdr_weigh_229 : decode prog_5_method_24_code 229 = .ok (.baload, 1) := by decide +kernel
theorem dc_Rdr_weigh_230 : decode prog_5_method_24_code 230 = .ok (.ifCond .eq 7, 3) := by decide +kernel
theorem dc_Rdr_weigh_233 : decode prog_5_method_24_code 233 = .ok (.iconst 1, 1) := by decide +kernel
theorem dc_Rdr_weigh_234 : decode prog_5_method_24_code 234 = .ok (.goto 4, 3) := by decide +kernel
theorem dc_Rdr_weigh_237 : decode prog_5_method_24_code 237 = .ok (.iconst 0, 1) := by decide +kernel
theorem dc_Rdr_weigh_238 : decode prog_5_method_24_code 238 = .ok (.aload_n 0, 1) := by decide +kernel
theorem dc_Rdr_weigh_239 : decode prog_5_method_24_code 239 = .ok (.getfield 25, 3) := by decide +kernel
theorem dc_Rdr_weigh_242 : decode prog_5_method_24_code 242 = .ok (.iload_n 3, 1) := by decide +kernel
theorem dc_Rdr_weigh_243 : decode prog_5_method_24_code 243 = .ok (.laload, 1) := by decide +kernel
theorem dc_Rdr_weigh_244 : decode prog_5_method_24_code 244 = .ok (.aload_n 0, 1) := by decide +kernel
theorem dc_Rdr_weigh_245 : decode prog_5_method_24_code 245 = .ok (.getfield 25, 3) := by decide +kernel
theorem dc_Rdr_weigh_248 : decode prog_5_method_24_code 248 = .ok (.iload 4, 2) := by decide +kernel
theorem dc_Rdr_weigh_250 : decode prog_5_method_24_code 250 = .ok (.laload, 1) := by decide +kernel
theorem dc_Rdr_weigh_251 : decode prog_5_method_24_code 251 = .ok (.lor, 1) := by decide +kernel
theorem dc_Rdr_weigh_252 : decode prog_5_method_24_code 252 = .ok (.aload_n 0, 1) := by decide +kernel
theorem dc_Rdr_weigh_253 : decode prog_5_method_24_code 253 = .ok (.getfield 29, 3) := by decide +kernel
theorem dc_Rdr_weigh_256 : decode prog_5_method_24_code 256 = .ok (.iload_n 3, 1) := by decide +kernel
theorem dc_Rdr_weigh_257 : decode prog_5_method_24_code 257 = .ok (.laload, 1) := by decide +kernel
theorem dc_Rdr_weigh_258 : decode prog_5_method_24_code 258 = .ok (.aload_n 0, 1) := by decide +kernel
theorem dc_Rdr_weigh_259 : decode prog_5_method_24_code 259 = .ok (.getfield 29, 3) := by decide +kernel
theorem dc_Rdr_weigh_262 : decode prog_5_method_24_code 262 = .ok (.iload 4, 2) := by decide +kernel
theorem dc_Rdr_weigh_264 : decode prog_5_method_24_code 264 = .ok (.laload, 1) := by decide +kernel
theorem dc_Rdr_weigh_265 : decode prog_5_method_24_code 265 = .ok (.lor, 1) := by decide +kernel
theorem dc_Rdr_weigh_266 : decode prog_5_method_24_code 266 = .ok (.invokevirtual 152, 3) := by decide +kernel
theorem dc_Rdr_weigh_269 : decode prog_5_method_24_code 269 = .ok (.goto 58, 3) := by decide +kernel
theorem dc_Rdr_weigh_272 : decode prog_5_method_24_code 272 = .ok (.aload_n 0, 1) := by decide +kernel
theorem dc_Rdr_weigh_273 : decode prog_5_method_24_code 273 = .ok (.iload_n 1, 1) := by decide +kernel
theorem dc_Rdr_weigh_274 : decode prog_5_method_24_code 274 = .ok (.iconst 1, 1) := by decide +kernel
theorem dc_Rdr_weigh_275 : decode prog_5_method_24_code 275 = .ok (.aload_n 0, 1) := by decide +kernel
theorem dc_Rdr_weigh_276 : decode prog_5_method_24_code 276 = .ok (.getfield 25, 3) := by decide +kernel
theorem dc_Rdr_weigh_279 : decode prog_5_method_24_code 279 = .ok (.iload_n 3, 1) := by decide +kernel
theorem dc_Rdr_weigh_280 : decode prog_5_method_24_code 280 = .ok (.laload, 1) := by decide +kernel
theorem dc_Rdr_weigh_281 : decode prog_5_method_24_code 281 = .ok (.aload_n 0, 1) := by decide +kernel
theorem dc_Rdr_weigh_282 : decode prog_5_method_24_code 282 = .ok (.getfield 29, 3) := by decide +kernel
theorem dc_Rdr_weigh_285 : decode prog_5_method_24_code 285 = .ok (.iload_n 3, 1) := by decide +kernel
theorem dc_Rdr_weigh_286 : decode prog_5_method_24_code 286 = .ok (.laload, 1) := by decide +kernel
theorem dc_Rdr_weigh_287 : decode prog_5_method_24_code 287 = .ok (.invokevirtual 152, 3) := by decide +kernel
theorem dc_Rdr_weigh_290 : decode prog_5_method_24_code 290 = .ok (.goto 37, 3) := by decide +kernel
theorem dc_Rdr_weigh_293 : decode prog_5_method_24_code 293 = .ok (.aload_n 0, 1) := by decide +kernel
theorem dc_Rdr_weigh_294 : decode prog_5_method_24_code 294 = .ok (.iload_n 1, 1) := by decide +kernel
theorem dc_Rdr_weigh_295 : decode prog_5_method_24_code 295 = .ok (.aload_n 0, 1) := by decide +kernel
theorem dc_Rdr_weigh_296 : decode prog_5_method_24_code 296 = .ok (.getfield 21, 3) := by decide +kernel
theorem dc_Rdr_weigh_299 : decode prog_5_method_24_code 299 = .ok (.iload_n 3, 1) := by decide +kernel
theorem dc_Rdr_weigh_300 : decode prog_5_method_24_code 300 = .ok (.baload, 1) := by decide +kernel
theorem dc_Rdr_weigh_301 : decode prog_5_method_24_code 301 = .ok (.aload_n 0, 1) := by decide +kernel
theorem dc_Rdr_weigh_302 : decode prog_5_method_24_code 302 = .ok (.getfield 25, 3) := by decide +kernel
theorem dc_Rdr_weigh_305 : decode prog_5_method_24_code 305 = .ok (.iload_n 3, 1) := by decide +kernel
theorem dc_Rdr_weigh_306 : decode prog_5_method_24_code 306 = .ok (.laload, 1) := by decide +kernel
theorem dc_Rdr_weigh_307 : decode prog_5_method_24_code 307 = .ok (.aload_n 0, 1) := by decide +kernel
theorem dc_Rdr_weigh_308 : decode prog_5_method_24_code 308 = .ok (.getfield 29, 3) := by decide +kernel
theorem dc_Rdr_weigh_311 : decode prog_5_method_24_code 311 = .ok (.iload_n 3, 1) := by decide +kernel
theorem dc_Rdr_weigh_312 : decode prog_5_method_24_code 312 = .ok (.laload, 1) := by decide +kernel
theorem dc_Rdr_weigh_313 : decode prog_5_method_24_code 313 = .ok (.invokevirtual 152, 3) := by decide +kernel
theorem dc_Rdr_weigh_316 : decode prog_5_method_24_code 316 = .ok (.goto 11, 3) := by decide +kernel
theorem dc_Rdr_weigh_319 : decode prog_5_method_24_code 319 = .ok (.aload_n 0, 1) := by decide +kernel
theorem dc_Rdr_weigh_320 : decode prog_5_method_24_code 320 = .ok (.iload_n 1, 1) := by decide +kernel
theorem dc_Rdr_weigh_321 : decode prog_5_method_24_code 321 = .ok (.iconst 1, 1) := by decide +kernel
theorem dc_Rdr_weigh_322 : decode prog_5_method_24_code 322 = .ok (.lconst 0, 1) := by decide +kernel
theorem dc_Rdr_weigh_323 : decode prog_5_method_24_code 323 = .ok (.lconst 0, 1) := by decide +kernel
theorem dc_Rdr_weigh_324 : decode prog_5_method_24_code 324 = .ok (.invokevirtual 152, 3) := by decide +kernel
theorem dc_Rdr_weigh_327 : decode prog_5_method_24_code 327 = .ok (.return_, 1) := by decide +kernel
theorem dc_Rdr_set_0 : decode prog_5_method_25_code 0 = .ok (.aload_n 0, 1) := by decide +kernel
theorem dc_Rdr_set_1 : decode prog_5_method_25_code 1 = .ok (.getfield 21, 3) := by decide +kernel
theorem dc_Rdr_set_4 : decode prog_5_method_25_code 4 = .ok (.iload_n 1, 1) := by decide +kernel
theorem dc_Rdr_set_5 : decode prog_5_method_25_code 5 = .ok (.iload_n 2, 1) := by decide +kernel
theorem dc_Rdr_set_6 : decode prog_5_method_25_code 6 = .ok (.bastore, 1) := by decide +kernel
theorem dc_Rdr_set_7 : decode prog_5_method_25_code 7 = .ok (.aload_n 0, 1) := by decide +kernel
theorem dc_Rdr_set_8 : decode prog_5_method_25_code 8 = .ok (.getfield 25, 3) := by decide +kernel
theorem dc_Rdr_set_11 : decode prog_5_method_25_code 11 = .ok (.iload_n 1, 1) := by decide +kernel
theorem dc_Rdr_set_12 : decode prog_5_method_25_code 12 = .ok (.lload_n 3, 1) := by decide +kernel
theorem dc_Rdr_set_13 : decode prog_5_method_25_code 13 = .ok (.lastore, 1) := by decide +kernel
theorem dc_Rdr_set_14 : decode prog_5_method_25_code 14 = .ok (.aload_n 0, 1) := by decide +kernel
theorem dc_Rdr_set_15 : decode prog_5_method_25_code 15 = .ok (.getfield 29, 3) := by decide +kernel
theorem dc_Rdr_set_18 : decode prog_5_method_25_code 18 = .ok (.iload_n 1, 1) := by decide +kernel
theorem dc_Rdr_set_19 : decode prog_5_method_25_code 19 = .ok (.lload 5, 2) := by decide +kernel
theorem dc_Rdr_set_21 : decode prog_5_method_25_code 21 = .ok (.lastore, 1) := by decide +kernel
theorem dc_Rdr_set_22 : decode prog_5_method_25_code 22 = .ok (.return_, 1) := by decide +kernel
theorem dc_Rdr_link_0 : decode prog_5_method_26_code 0 = .ok (.aload_n 0, 1) := by decide +kernel
theorem dc_Rdr_link_1 : decode prog_5_method_26_code 1 = .ok (.getfield 11, 3) := by decide +kernel
theorem dc_Rdr_link_4 : decode prog_5_method_26_code 4 = .ok (.iload_n 1, 1) := by decide +kernel
theorem dc_Rdr_link_5 : decode prog_5_method_26_code 5 = .ok (.iaload, 1) := by decide +kernel
theorem dc_Rdr_link_6 : decode prog_5_method_26_code 6 = .ok (.iconst 4, 1) := by decide +kernel
theorem dc_Rdr_link_7 : decode prog_5_method_26_code 7 = .ok (.if_icmp .ne 32, 3) := by decide +kernel
theorem dc_Rdr_link_10 : decode prog_5_method_26_code 10 = .ok (.aload_n 0, 1) := by decide +kernel
theorem dc_Rdr_link_11 : decode prog_5_method_26_code 11 = .ok (.aload_n 0, 1) := by decide +kernel
theorem dc_Rdr_link_12 : decode prog_5_method_26_code 12 = .ok (.getfield 29, 3) := by decide +kernel
theorem dc_Rdr_link_15 : decode prog_5_method_26_code 15 = .ok (.aload_n 0, 1) := by decide +kernel
theorem dc_Rdr_link_16 : decode prog_5_method_26_code 16 = .ok (.getfield 15, 3) := by decide +kernel
theorem dc_Rdr_link_19 : decode prog_5_method_26_code 19 = .ok (.iload_n 1, 1) := by decide +kernel
theorem dc_Rdr_link_20 : decode prog_5_method_26_code 20 = .ok (.iaload, 1) := by decide +kernel
theorem dc_Rdr_link_21 : decode prog_5_method_26_code 21 = .ok (.laload, 1) := by decide +kernel
theorem dc_Rdr_link_22 : decode prog_5_method_26_code 22 = .ok (.aload_n 0, 1) := by decide +kernel
theorem dc_Rdr_link_23 : decode prog_5_method_26_code 23 = .ok (.getfield 25, 3) := by decide +kernel
theorem dc_Rdr_link_26 : decode prog_5_method_26_code 26 = .ok (.aload_n 0, 1) := by decide +kernel
theorem dc_Rdr_link_27 : decode prog_5_method_26_code 27 = .ok (.getfield 18, 3) := by decide +kernel
theorem dc_Rdr_link_30 : decode prog_5_method_26_code 30 = .ok (.iload_n 1, 1) := by decide +kernel
theorem dc_Rdr_link_31 : decode prog_5_method_26_code 31 = .ok (.iaload, 1) := by decide +kernel
theorem dc_Rdr_link_32 : decode prog_5_method_26_code 32 = .ok (.laload, 1) := by decide +kernel
theorem dc_Rdr_link_33 : decode prog_5_method_26_code 33 = .ok (.invokevirtual 156, 3) := by decide +kernel
theorem dc_Rdr_link_36 : decode prog_5_method_26_code 36 = .ok (.goto 51, 3) := by decide +kernel
theorem dc_Rdr_link_39 : decode prog_5_method_26_code 39 = .ok (.aload_n 0, 1) := by decide +kernel
theorem dc_Rdr_link_40 : decode prog_5_method_26_code 40 = .ok (.getfield 11, 3) := by decide +kernel
theorem dc_Rdr_link_43 : decode prog_5_method_26_code 43 = .ok (.iload_n 1, 1) := by decide +kernel
theorem dc_Rdr_link_44 : decode prog_5_method_26_code 44 = .ok (.iaload, 1) := by decide +kernel
theorem dc_Rdr_link_45 : decode prog_5_method_26_code 45 = .ok (.bipush 6, 2) := by decide +kernel
theorem dc_Rdr_link_47 : decode prog_5_method_26_code 47 = .ok (.if_icmp .eq 14, 3) := by decide +kernel
theorem dc_Rdr_link_50 : decode prog_5_method_26_code 50 = .ok (.aload_n 0, 1) := by decide +kernel
theorem dc_Rdr_link_51 : decode prog_5_method_26_code 51 = .ok (.getfield 11, 3) := by decide +kernel
theorem dc_Rdr_link_54 : decode prog_5_method_26_code 54 = .ok (.iload_n 1, 1) := by decide +kernel
theorem dc_Rdr_link_55 : decode prog_5_method_26_code 55 = .ok (.iaload, 1) := by decide +kernel
theorem dc_Rdr_link_56 : decode prog_5_method_26_code 56 = .ok (.bipush 7, 2) := by decide +kernel
theorem dc_Rdr_link_58 : decode prog_5_method_26_code 58 = .ok (.if_icmp .ne 29, 3) := by decide +kernel
theorem dc_Rdr_link_61 : decode prog_5_method_26_code 61 = .ok (.aload_n 0, 1) := by decide +kernel
theorem dc_Rdr_link_62 : decode prog_5_method_26_code 62 = .ok (.aload_n 0, 1) := by decide +kernel
theorem dc_Rdr_link_63 : decode prog_5_method_26_code 63 = .ok (.getfield 29, 3) := by decide +kernel
theorem dc_Rdr_link_66 : decode prog_5_method_26_code 66 = .ok (.aload_n 0, 1) := by decide +kernel
theorem dc_Rdr_link_67 : decode prog_5_method_26_code 67 = .ok (.getfield 15, 3) := by decide +kernel
theorem dc_Rdr_link_70 : decode prog_5_method_26_code 70 = .ok (.iload_n 1, 1) := by decide +kernel
theorem dc_Rdr_link_71 : decode prog_5_method_26_code 71 = .ok (.iaload, 1) := by decide +kernel
theorem dc_Rdr_link_72 : decode prog_5_method_26_code 72 = .ok (.laload, 1) := by decide +kernel
theorem dc_Rdr_link_73 : decode prog_5_method_26_code 73 = .ok (.aload_n 0, 1) := by decide +kernel
theorem dc_Rdr_link_74 : decode prog_5_method_26_code 74 = .ok (.getfield 25, 3) := by decide +kernel
theorem dc_Rdr_link_77 : decode prog_5_method_26_code 77 = .ok (.aload_n 0, 1) := by decide +kernel
theorem dc_Rdr_link_78 : decode prog_5_method_26_code 78 = .ok (.getfield 15, 3) := by decide +kernel
theorem dc_Rdr_link_81 : decode prog_5_method_26_code 81 = .ok (.iload_n 1, 1) := by decide +kernel
theorem dc_Rdr_link_82 : decode prog_5_method_26_code 82 = .ok (.iaload, 1) := by decide +kernel
theorem dc_Rdr_link_83 : decode prog_5_method_26_code 83 = .ok (.laload, 1) := by decide +kernel
theorem dc_Rdr_link_84 : decode prog_5_method_26_code 84 = .ok (.invokevirtual 156, 3) := by decide +kernel
theorem dc_Rdr_link_87 : decode prog_5_method_26_code 87 = .ok (.return_, 1) := by decide +kernel
theorem dc_Rdr_follow_0 : decode prog_5_method_27_code 0 = .ok (.iconst 0, 1) := by decide +kernel
theorem dc_Rdr_follow_1 : decode prog_5_method_27_code 1 = .ok (.istore 5, 2) := by decide +kernel
theorem dc_Rdr_follow_3 : decode prog_5_method_27_code 3 = .ok (.iload 5, 2) := by decide +kernel
theorem dc_Rdr_follow_5 : decode prog_5_method_27_code 5 = .ok (.aload_n 0, 1) := by decide +kernel
theorem dc_Rdr_follow_6 : decode prog_5_method_27_code 6 = .ok (.getfield 35, 3) := by decide +kernel
theorem dc_Rdr_follow_9 : decode prog_5_method_27_code 9 = .ok (.getfield 126, 3) := by decide +kernel
theorem dc_Rdr_follow_12 : decode prog_5_method_27_code 12 = .ok (.if_icmp .ge 34, 3) := by decide +kernel
theorem dc_Rdr_follow_15 : decode prog_5_method_27_code 15 = .ok (.lload_n 1, 1) := by decide +kernel
theorem dc_Rdr_follow_16 : decode prog_5_method_27_code 16 = .ok (.iload 5, 2) := by decide +kernel
theorem dc_Rdr_follow_18 : decode prog_5_method_27_code 18 = .ok (.lushr, 1) := by decide +kernel
theorem dc_Rdr_follow_19 : decode prog_5_method_27_code 19 = .ok (.lconst 1, 1) := by decide +kernel
theorem dc_Rdr_follow_20 : decode prog_5_method_27_code 20 = .ok (.land, 1) := by decide +kernel
theorem dc_Rdr_follow_21 : decode prog_5_method_27_code 21 = .ok (.lconst 0, 1) := by decide +kernel
theorem dc_Rdr_follow_22 : decode prog_5_method_27_code 22 = .ok (.lcmp, 1) := by decide +kernel
theorem dc_Rdr_follow_23 : decode prog_5_method_27_code 23 = .ok (.ifCond .eq 17, 3) := by decide +kernel
theorem dc_Rdr_follow_26 : decode prog_5_method_27_code 26 = .ok (.aload_n 0, 1) := by decide +kernel
theorem dc_Rdr_follow_27 : decode prog_5_method_27_code 27 = .ok (.getfield 35, 3) := by decide +kernel
theorem dc_Rdr_follow_30 : decode prog_5_method_27_code 30 = .ok (.getfield 160, 3) := by decide +kernel
theorem dc_Rdr_follow_33 : decode prog_5_method_27_code 33 = .ok (.iload 5, 2) := by decide +kernel
theorem dc_Rdr_follow_35 : decode prog_5_method_27_code 35 = .ok (.dup2, 1) := by decide +kernel
theorem dc_Rdr_follow_36 : decode prog_5_method_27_code 36 = .ok (.laload, 1) := by decide +kernel
theorem dc_Rdr_follow_37 : decode prog_5_method_27_code 37 = .ok (.lload_n 3, 1) := by decide +kernel
theorem dc_Rdr_follow_38 : decode prog_5_method_27_code 38 = .ok (.lor, 1) := by decide +kernel
theorem dc_Rdr_follow_39 : decode prog_5_method_27_code 39 = .ok (.lastore, 1) := by decide +kernel
theorem dc_Rdr_follow_40 : decode prog_5_method_27_code 40 = .ok (.iinc 5 1, 3) := by decide +kernel
theorem dc_Rdr_follow_43 : decode prog_5_method_27_code 43 = .ok (.goto (-40), 3) := by decide +kernel
theorem dc_Rdr_follow_46 : decode prog_5_method_27_code 46 = .ok (.return_, 1) := by decide +kernel
end
section
theorem dc_LR_init_0 : decode prog_1_method_1_code 0 = .ok (.aload_n 0, 1) := by decide +kernel
theorem dc_LR_init_1 : decode prog_1_method_1_code 1 = .ok (.invokespecial 1, 3) := by decide +kernel
theorem dc_LR_init_4 : decode prog_1_method_1_code 4 = .ok (.aload_n 0, 1) := by decide +kernel
theorem dc_LR_init_5 : decode prog_1_method_1_code 5 = .ok (.new 7, 3) := by decide +kernel
theorem dc_LR_init_8 : decode prog_1_method_1_code 8 = .ok (.dup, 1) := by decide +kernel
theorem dc_LR_init_9 : decode prog_1_method_1_code 9 = .ok (.bipush 120, 2) := by decide +kernel
theorem dc_LR_init_11 : decode prog_1_method_1_code 11 = .ok (.invokespecial 11, 3) := by decide +kernel
theorem dc_LR_init_14 : decode prog_1_method_1_code 14 = .ok (.putfield 14, 3) := by decide +kernel
theorem dc_LR_init_17 : decode prog_1_method_1_code 17 = .ok (.aload_n 0, 1) := by decide +kernel
theorem dc_LR_init_18 : decode prog_1_method_1_code 18 = .ok (.bipush 6, 2) := by decide +kernel
theorem dc_LR_init_20 : decode prog_1_method_1_code 20 = .ok (.anewarray 7, 3) := by decide +kernel
theorem dc_LR_init_23 : decode prog_1_method_1_code 23 = .ok (.putfield 18, 3) := by decide +kernel
theorem dc_LR_init_26 : decode prog_1_method_1_code 26 = .ok (.aload_n 0, 1) := by decide +kernel
theorem dc_LR_init_27 : decode prog_1_method_1_code 27 = .ok (.bipush 6, 2) := by decide +kernel
theorem dc_LR_init_29 : decode prog_1_method_1_code 29 = .ok (.anewarray 22, 3) := by decide +kernel
theorem dc_LR_init_32 : decode prog_1_method_1_code 32 = .ok (.putfield 24, 3) := by decide +kernel
theorem dc_LR_init_35 : decode prog_1_method_1_code 35 = .ok (.aload_n 0, 1) := by decide +kernel
theorem dc_LR_init_36 : decode prog_1_method_1_code 36 = .ok (.new 28, 3) := by decide +kernel
theorem dc_LR_init_39 : decode prog_1_method_1_code 39 = .ok (.dup, 1) := by decide +kernel
theorem dc_LR_init_40 : decode prog_1_method_1_code 40 = .ok (.invokespecial 30, 3) := by decide +kernel
theorem dc_LR_init_43 : decode prog_1_method_1_code 43 = .ok (.putfield 31, 3) := by decide +kernel
theorem dc_LR_init_46 : decode prog_1_method_1_code 46 = .ok (.aload_n 0, 1) := by decide +kernel
theorem dc_LR_init_47 : decode prog_1_method_1_code 47 = .ok (.bipush 12, 2) := by decide +kernel
theorem dc_LR_init_49 : decode prog_1_method_1_code 49 = .ok (.anewarray 35, 3) := by decide +kernel
theorem dc_LR_init_52 : decode prog_1_method_1_code 52 = .ok (.putfield 37, 3) := by decide +kernel
theorem dc_LR_init_55 : decode prog_1_method_1_code 55 = .ok (.aload_n 0, 1) := by decide +kernel
theorem dc_LR_init_56 : decode prog_1_method_1_code 56 = .ok (.new 41, 3) := by decide +kernel
theorem dc_LR_init_59 : decode prog_1_method_1_code 59 = .ok (.dup, 1) := by decide +kernel
theorem dc_LR_init_60 : decode prog_1_method_1_code 60 = .ok (.invokespecial 43, 3) := by decide +kernel
theorem dc_LR_init_63 : decode prog_1_method_1_code 63 = .ok (.putfield 44, 3) := by decide +kernel
theorem dc_LR_init_66 : decode prog_1_method_1_code 66 = .ok (.aload_n 0, 1) := by decide +kernel
theorem dc_LR_init_67 : decode prog_1_method_1_code 67 = .ok (.bipush 8, 2) := by decide +kernel
theorem dc_LR_init_69 : decode prog_1_method_1_code 69 = .ok (.newarray .int, 2) := by decide +kernel
theorem dc_LR_init_71 : decode prog_1_method_1_code 71 = .ok (.putfield 48, 3) := by decide +kernel
theorem dc_LR_init_74 : decode prog_1_method_1_code 74 = .ok (.aload_n 0, 1) := by decide +kernel
theorem dc_LR_init_75 : decode prog_1_method_1_code 75 = .ok (.new 52, 3) := by decide +kernel
theorem dc_LR_init_78 : decode prog_1_method_1_code 78 = .ok (.dup, 1) := by decide +kernel
theorem dc_LR_init_79 : decode prog_1_method_1_code 79 = .ok (.invokespecial 54, 3) := by decide +kernel
theorem dc_LR_init_82 : decode prog_1_method_1_code 82 = .ok (.putfield 55, 3) := by decide +kernel
theorem dc_LR_init_85 : decode prog_1_method_1_code 85 = .ok (.aload_n 0, 1) := by decide +kernel
theorem dc_LR_init_86 : decode prog_1_method_1_code 86 = .ok (.new 59, 3) := by decide +kernel
theorem dc_LR_init_89 : decode prog_1_method_1_code 89 = .ok (.dup, 1) := by decide +kernel
theorem dc_LR_init_90 : decode prog_1_method_1_code 90 = .ok (.invokespecial 61, 3) := by decide +kernel
theorem dc_LR_init_93 : decode prog_1_method_1_code 93 = .ok (.putfield 62, 3) := by decide +kernel
theorem dc_LR_init_96 : decode prog_1_method_1_code 96 = .ok (.aload_n 0, 1) := by decide +kernel
theorem dc_LR_init_97 : decode prog_1_method_1_code 97 = .ok (.new 7, 3) := by decide +kernel
theorem dc_LR_init_100 : decode prog_1_method_1_code 100 = .ok (.dup, 1) := by decide +kernel
theorem dc_LR_init_101 : decode prog_1_method_1_code 101 = .ok (.bipush 11, 2) := by decide +kernel
theorem dc_LR_init_103 : decode prog_1_method_1_code 103 = .ok (.invokespecial 11, 3) := by decide +kernel
theorem dc_LR_init_106 : decode prog_1_method_1_code 106 = .ok (.putfield 66, 3) := by decide +kernel
theorem dc_LR_init_109 : decode prog_1_method_1_code 109 = .ok (.aload_n 0, 1) := by decide +kernel
theorem dc_LR_init_110 : decode prog_1_method_1_code 110 = .ok (.bipush 32, 2) := by decide +kernel
theorem dc_LR_init_112 : decode prog_1_method_1_code 112 = .ok (.putfield 69, 3) := by decide +kernel
theorem dc_LR_init_115 : decode prog_1_method_1_code 115 = .ok (.aload_n 0, 1) := by decide +kernel
theorem dc_LR_init_116 : decode prog_1_method_1_code 116 = .ok (.iconst (-1), 1) := by decide +kernel
theorem dc_LR_init_117 : decode prog_1_method_1_code 117 = .ok (.putfield 73, 3) := by decide +kernel
theorem dc_LR_init_120 : decode prog_1_method_1_code 120 = .ok (.iconst 0, 1) := by decide +kernel
theorem dc_LR_init_121 : decode prog_1_method_1_code 121 = .ok (.istore_n 1, 1) := by decide +kernel
theorem dc_LR_init_122 : decode prog_1_method_1_code 122 = .ok (.iload_n 1, 1) := by decide +kernel
theorem dc_LR_init_123 : decode prog_1_method_1_code 123 = .ok (.bipush 6, 2) := by decide +kernel
theorem dc_LR_init_125 : decode prog_1_method_1_code 125 = .ok (.if_icmp .ge 24, 3) := by decide +kernel
theorem dc_LR_init_128 : decode prog_1_method_1_code 128 = .ok (.aload_n 0, 1) := by decide +kernel
theorem dc_LR_init_129 : decode prog_1_method_1_code 129 = .ok (.getfield 18, 3) := by decide +kernel
theorem dc_LR_init_132 : decode prog_1_method_1_code 132 = .ok (.iload_n 1, 1) := by decide +kernel
theorem dc_LR_init_133 : decode prog_1_method_1_code 133 = .ok (.new 7, 3) := by decide +kernel
theorem dc_LR_init_136 : decode prog_1_method_1_code 136 = .ok (.dup, 1) := by decide +kernel
theorem dc_LR_init_137 : decode prog_1_method_1_code 137 = .ok (.bipush 120, 2) := by decide +kernel
theorem dc_LR_init_139 : decode prog_1_method_1_code 139 = .ok (.invokespecial 11, 3) := by decide +kernel
theorem dc_LR_init_142 : decode prog_1_method_1_code 142 = .ok (.aastore, 1) := by decide +kernel
theorem dc_LR_init_143 : decode prog_1_method_1_code 143 = .ok (.iinc 1 1, 3) := by decide +kernel
theorem dc_LR_init_146 : decode prog_1_method_1_code 146 = .ok (.goto (-24), 3) := by decide +kernel
theorem dc_LR_init_149 : decode prog_1_method_1_code 149 = .ok (.iconst 0, 1) := by decide +kernel
theorem dc_LR_init_150 : decode prog_1_method_1_code 150 = .ok (.istore_n 1, 1) := by decide +kernel
theorem dc_LR_init_151 : decode prog_1_method_1_code 151 = .ok (.iload_n 1, 1) := by decide +kernel
theorem dc_LR_init_152 : decode prog_1_method_1_code 152 = .ok (.bipush 6, 2) := by decide +kernel
theorem dc_LR_init_154 : decode prog_1_method_1_code 154 = .ok (.if_icmp .ge 22, 3) := by decide +kernel
theorem dc_LR_init_157 : decode prog_1_method_1_code 157 = .ok (.aload_n 0, 1) := by decide +kernel
theorem dc_LR_init_158 : decode prog_1_method_1_code 158 = .ok (.getfield 24, 3) := by decide +kernel
theorem dc_LR_init_161 : decode prog_1_method_1_code 161 = .ok (.iload_n 1, 1) := by decide +kernel
theorem dc_LR_init_162 : decode prog_1_method_1_code 162 = .ok (.new 22, 3) := by decide +kernel
theorem dc_LR_init_165 : decode prog_1_method_1_code 165 = .ok (.dup, 1) := by decide +kernel
theorem dc_LR_init_166 : decode prog_1_method_1_code 166 = .ok (.invokespecial 76, 3) := by decide +kernel
theorem dc_LR_init_169 : decode prog_1_method_1_code 169 = .ok (.aastore, 1) := by decide +kernel
theorem dc_LR_init_170 : decode prog_1_method_1_code 170 = .ok (.iinc 1 1, 3) := by decide +kernel
theorem dc_LR_init_173 : decode prog_1_method_1_code 173 = .ok (.goto (-22), 3) := by decide +kernel
theorem dc_LR_init_176 : decode prog_1_method_1_code 176 = .ok (.iconst 0, 1) := by decide +kernel
theorem dc_LR_init_177 : decode prog_1_method_1_code 177 = .ok (.istore_n 1, 1) := by decide +kernel
theorem dc_LR_init_178 : decode prog_1_method_1_code 178 = .ok (.iload_n 1, 1) := by decide +kernel
theorem dc_LR_init_179 : decode prog_1_method_1_code 179 = .ok (.bipush 12, 2) := by decide +kernel
theorem dc_LR_init_181 : decode prog_1_method_1_code 181 = .ok (.if_icmp .ge 22, 3) := by decide +kernel
theorem dc_LR_init_184 : decode prog_1_method_1_code 184 = .ok (.aload_n 0, 1) := by decide +kernel
theorem dc_LR_init_185 : decode prog_1_method_1_code 185 = .ok (.getfield 37, 3) := by decide +kernel
theorem dc_LR_init_188 : decode prog_1_method_1_code 188 = .ok (.iload_n 1, 1) := by decide +kernel
theorem dc_LR_init_189 : decode prog_1_method_1_code 189 = .ok (.new 35, 3) := by decide +kernel
theorem dc_LR_init_192 : decode prog_1_method_1_code 192 = .ok (.dup, 1) := by decide +kernel
theorem dc_LR_init_193 : decode prog_1_method_1_code 193 = .ok (.invokespecial 77, 3) := by decide +kernel
theorem dc_LR_init_196 : decode prog_1_method_1_code 196 = .ok (.aastore, 1) := by decide +kernel
theorem dc_LR_init_197 : decode prog_1_method_1_code 197 = .ok (.iinc 1 1, 3) := by decide +kernel
theorem dc_LR_init_200 : decode prog_1_method_1_code 200 = .ok (.goto (-22), 3) := by decide +kernel
theorem dc_LR_init_203 : decode prog_1_method_1_code 203 = .ok (.return_, 1) := by decide +kernel
theorem dc_LR_feed_0 : decode prog_1_method_2_code 0 = .ok (.iload_n 1, 1) := by decide +kernel
theorem dc_LR_feed_1 : decode prog_1_method_2_code 1 = .ok (.invokestatic 78, 3) := by decide +kernel
theorem dc_LR_feed_4 : decode prog_1_method_2_code 4 = .ok (.iload_n 2, 1) := by decide +kernel
theorem dc_LR_feed_5 : decode prog_1_method_2_code 5 = .ok (.invokestatic 78, 3) := by decide +kernel
theorem dc_LR_feed_8 : decode prog_1_method_2_code 8 = .ok (.iadd, 1) := by decide +kernel
theorem dc_LR_feed_9 : decode prog_1_method_2_code 9 = .ok (.iload_n 3, 1) := by decide +kernel
theorem dc_LR_feed_10 : decode prog_1_method_2_code 10 = .ok (.invokestatic 78, 3) := by decide +kernel
theorem dc_LR_feed_13 : decode prog_1_method_2_code 13 = .ok (.iadd, 1) := by decide +kernel
theorem dc_LR_feed_14 : decode prog_1_method_2_code 14 = .ok (.iload 4, 2) := by decide +kernel
theorem dc_LR_feed_16 : decode prog_1_method_2_code 16 = .ok (.invokestatic 78, 3) := by decide +kernel
theorem dc_LR_feed_19 : decode prog_1_method_2_code 19 = .ok (.iadd, 1) := by decide +kernel
theorem dc_LR_feed_20 : decode prog_1_method_2_code 20 = .ok (.iload 5, 2) := by decide +kernel
theorem dc_LR_feed_22 : decode prog_1_method_2_code 22 = .ok (.invokestatic 78, 3) := by decide +kernel
theorem dc_LR_feed_25 : decode prog_1_method_2_code 25 = .ok (.iadd, 1) := by decide +kernel
theorem dc_LR_feed_26 : decode prog_1_method_2_code 26 = .ok (.istore 6, 2) := by decide +kernel
theorem dc_LR_feed_28 : decode prog_1_method_2_code 28 = .ok (.aload_n 0, 1) := by decide +kernel
theorem dc_LR_feed_29 : decode prog_1_method_2_code 29 = .ok (.getfield 14, 3) := by decide +kernel
theorem dc_LR_feed_32 : decode prog_1_method_2_code 32 = .ok (.getfield 82, 3) := by decide +kernel
theorem dc_LR_feed_35 : decode prog_1_method_2_code 35 = .ok (.iload 6, 2) := by decide +kernel
theorem dc_LR_feed_37 : decode prog_1_method_2_code 37 = .ok (.iadd, 1) := by decide +kernel
theorem dc_LR_feed_38 : decode prog_1_method_2_code 38 = .ok (.bipush 120, 2) := by decide +kernel
theorem dc_LR_feed_40 : decode prog_1_method_2_code 40 = .ok (.if_icmp .le 13, 3) := by decide +kernel
theorem dc_LR_feed_43 : decode prog_1_method_2_code 43 = .ok (.new 85, 3) := by decide +kernel
theorem dc_LR_feed_46 : decode prog_1_method_2_code 46 = .ok (.dup, 1) := by decide +kernel
theorem dc_LR_feed_47 : decode prog_1_method_2_code 47 = .ok (.ldc 87, 2) := by decide +kernel
theorem dc_LR_feed_49 : decode prog_1_method_2_code 49 = .ok (.invokespecial 89, 3) := by decide +kernel
theorem dc_LR_feed_52 : decode prog_1_method_2_code 52 = .ok (.athrow, 1) := by decide +kernel
theorem dc_LR_feed_53 : decode prog_1_method_2_code 53 = .ok (.aload_n 0, 1) := by decide +kernel
theorem dc_LR_feed_54 : decode prog_1_method_2_code 54 = .ok (.iload_n 1, 1) := by decide +kernel
theorem dc_LR_feed_55 : decode prog_1_method_2_code 55 = .ok (.invokevirtual 92, 3) := by decide +kernel
theorem dc_LR_feed_58 : decode prog_1_method_2_code 58 = .ok (.aload_n 0, 1) := by decide +kernel
theorem dc_LR_feed_59 : decode prog_1_method_2_code 59 = .ok (.iload_n 2, 1) := by decide +kernel
theorem dc_LR_feed_60 : decode prog_1_method_2_code 60 = .ok (.invokevirtual 92, 3) := by decide +kernel
theorem dc_LR_feed_63 : decode prog_1_method_2_code 63 = .ok (.aload_n 0, 1) := by decide +kernel
theorem dc_LR_feed_64 : decode prog_1_method_2_code 64 = .ok (.iload_n 3, 1) := by decide +kernel
theorem dc_LR_feed_65 : decode prog_1_method_2_code 65 = .ok (.invokevirtual 92, 3) := by decide +kernel
theorem dc_LR_feed_68 : decode prog_1_method_2_code 68 = .ok (.aload_n 0, 1) := by decide +kernel
theorem dc_LR_feed_69 : decode prog_1_method_2_code 69 = .ok (.iload 4, 2) := by decide +kernel
theorem dc_LR_feed_71 : decode prog_1_method_2_code 71 = .ok (.invokevirtual 92, 3) := by decide +kernel
theorem dc_LR_feed_74 : decode prog_1_method_2_code 74 = .ok (.aload_n 0, 1) := by decide +kernel
theorem dc_LR_feed_75 : decode prog_1_method_2_code 75 = .ok (.iload 5, 2) := by decide +kernel
theorem dc_LR_feed_77 : decode prog_1_method_2_code 77 = .ok (.invokevirtual 92, 3) := by decide +kernel
theorem dc_LR_feed_80 : decode prog_1_method_2_code 80 = .ok (.aload_n 0, 1) := by decide +kernel
theorem dc_LR_feed_81 : decode prog_1_method_2_code 81 = .ok (.getfield 14, 3) := by decide +kernel
theorem dc_LR_feed_84 : decode prog_1_method_2_code 84 = .ok (.getfield 82, 3) := by decide +kernel
theorem dc_LR_feed_87 : decode prog_1_method_2_code 87 = .ok (.ireturn, 1) := by decide +kernel
theorem dc_LR_clear_0 : decode prog_1_method_3_code 0 = .ok (.aload_n 0, 1) := by decide +kernel
theorem dc_LR_clear_1 : decode prog_1_method_3_code 1 = .ok (.getfield 14, 3) := by decide +kernel
theorem dc_LR_clear_4 : decode prog_1_method_3_code 4 = .ok (.getfield 82, 3) := by decide +kernel
theorem dc_LR_clear_7 : decode prog_1_method_3_code 7 = .ok (.istore_n 1, 1) := by decide +kernel
theorem dc_LR_clear_8 : decode prog_1_method_3_code 8 = .ok (.aload_n 0, 1) := by decide +kernel
theorem dc_LR_clear_9 : decode prog_1_method_3_code 9 = .ok (.getfield 14, 3) := by decide +kernel
theorem dc_LR_clear_12 : decode prog_1_method_3_code 12 = .ok (.invokevirtual 95, 3) := by decide +kernel
theorem dc_LR_clear_15 : decode prog_1_method_3_code 15 = .ok (.iload_n 1, 1) := by decide +kernel
theorem dc_LR_clear_16 : decode prog_1_method_3_code 16 = .ok (.ireturn, 1) := by decide +kernel
theorem dc_LR_expression_0 : decode prog_1_method_4_code 0 = .ok (.iload_n 1, 1) := by decide +kernel
theorem dc_LR_expression_1 : decode prog_1_method_4_code 1 = .ok (.invokestatic 98, 3) := by decide +kernel
theorem dc_LR_expression_4 : decode prog_1_method_4_code 4 = .ok (.ifCond .ne 13, 3) := by decide +kernel
theorem dc_LR_expression_7 : decode prog_1_method_4_code 7 = .ok (.new 102, 3) := by decide +kernel
theorem dc_LR_expression_10 : decode prog_1_method_4_code 10 = .ok (.dup, 1) := by decide +kernel
theorem dc_LR_expression_11 : decode prog_1_method_4_code 11 = .ok (.ldc 104, 2) := by decide +kernel
theorem dc_LR_expression_13 : decode prog_1_method_4_code 13 = .ok (.invokespecial 106, 3) := by decide +kernel
theorem dc_LR_expression_16 : decode prog_1_method_4_code 16 = .ok (.athrow, 1) := by decide +kernel
theorem dc_LR_expression_17 : decode prog_1_method_4_code 17 = .ok (.aload_n 0, 1) := by decide +kernel
theorem dc_LR_expression_18 : decode prog_1_method_4_code 18 = .ok (.getfield 14, 3) := by decide +kernel
theorem dc_LR_expression_21 : decode prog_1_method_4_code 21 = .ok (.getfield 82, 3) := by decide +kernel
theorem dc_LR_expression_24 : decode prog_1_method_4_code 24 = .ok (.bipush 60, 2) := by decide +kernel
theorem dc_LR_expression_26 : decode prog_1_method_4_code 26 = .ok (.if_icmp .le 13, 3) := by decide +kernel
theorem dc_LR_expression_29 : decode prog_1_method_4_code 29 = .ok (.new 85, 3) := by decide +kernel
theorem dc_LR_expression_32 : decode prog_1_method_4_code 32 = .ok (.dup, 1) := by decide +kernel
theorem dc_LR_expression_33 : decode prog_1_method_4_code 33 = .ok (.ldc 107, 2) := by decide +kernel
theorem dc_LR_expression_35 : decode prog_1_method_4_code 35 = .ok (.invokespecial 89, 3) := by decide +kernel
theorem dc_LR_expression_38 : decode prog_1_method_4_code 38 = .ok (.athrow, 1) := by decide +kernel
theorem dc_LR_expression_39 : decode prog_1_method_4_code 39 = .ok (.aload_n 0, 1) := by decide +kernel
theorem dc_LR_expression_40 : decode prog_1_method_4_code 40 = .ok (.getfield 31, 3) := by decide +kernel
theorem dc_LR_expression_43 : decode prog_1_method_4_code 43 = .ok (.aload_n 0, 1) := by decide +kernel
theorem dc_LR_expression_44 : decode prog_1_method_4_code 44 = .ok (.getfield 14, 3) := by decide +kernel
theorem dc_LR_expression_47 : decode prog_1_method_4_code 47 = .ok (.invokevirtual 109, 3) := by decide +kernel
theorem dc_LR_expression_50 : decode prog_1_method_4_code 50 = .ok (.istore_n 2, 1) := by decide +kernel
theorem dc_LR_expression_51 : decode prog_1_method_4_code 51 = .ok (.iload_n 2, 1) := by decide +kernel
theorem dc_LR_expression_52 : decode prog_1_method_4_code 52 = .ok (.iconst (-1), 1) := by decide +kernel
theorem dc_LR_expression_53 : decode prog_1_method_4_code 53 = .ok (.if_icmp .eq 7, 3) := by decide +kernel
theorem dc_LR_expression_56 : decode prog_1_method_4_code 56 = .ok (.iload_n 2, 1) := by decide +kernel
theorem dc_LR_expression_57 : decode prog_1_method_4_code 57 = .ok (.iconst 1, 1) := by decide +kernel
theorem dc_LR_expression_58 : decode prog_1_method_4_code 58 = .ok (.iadd, 1) := by decide +kernel
theorem dc_LR_expression_59 : decode prog_1_method_4_code 59 = .ok (.ireturn, 1) := by decide +kernel
theorem dc_LR_expression_60 : decode prog_1_method_4_code 60 = .ok (.aload_n 0, 1) := by decide +kernel
theorem dc_LR_expression_61 : decode prog_1_method_4_code 61 = .ok (.getfield 24, 3) := by decide +kernel
theorem dc_LR_expression_64 : decode prog_1_method_4_code 64 = .ok (.iload_n 1, 1) := by decide +kernel
theorem dc_LR_expression_65 : decode prog_1_method_4_code 65 = .ok (.aload_n 0, 1) := by decide +kernel
theorem dc_LR_expression_66 : decode prog_1_method_4_code 66 = .ok (.getfield 31, 3) := by decide +kernel
theorem dc_LR_expression_69 : decode prog_1_method_4_code 69 = .ok (.aload_n 0, 1) := by decide +kernel
theorem dc_LR_expression_70 : decode prog_1_method_4_code 70 = .ok (.getfield 24, 3) := by decide +kernel
theorem dc_LR_expression_73 : decode prog_1_method_4_code 73 = .ok (.iload_n 1, 1) := by decide +kernel
theorem dc_LR_expression_74 : decode prog_1_method_4_code 74 = .ok (.aaload, 1) := by decide +kernel
theorem dc_LR_expression_75 : decode prog_1_method_4_code 75 = .ok (.invokevirtual 113, 3) := by decide +kernel
theorem dc_LR_expression_78 : decode prog_1_method_4_code 78 = .ok (.aastore, 1) := by decide +kernel
theorem dc_LR_expression_79 : decode prog_1_method_4_code 79 = .ok (.aload_n 0, 1) := by decide +kernel
theorem dc_LR_expression_80 : decode prog_1_method_4_code 80 = .ok (.getfield 14, 3) := by decide +kernel
theorem dc_LR_expression_83 : decode prog_1_method_4_code 83 = .ok (.invokevirtual 95, 3) := by decide +kernel
theorem dc_LR_expression_86 : decode prog_1_method_4_code 86 = .ok (.iconst 0, 1) := by decide +kernel
theorem dc_LR_expression_87 : decode prog_1_method_4_code 87 = .ok (.ireturn, 1) := by decide +kernel
theorem dc_LR_text_0 : decode prog_1_method_5_code 0 = .ok (.iload_n 1, 1) := by decide +kernel
theorem dc_LR_text_1 : decode prog_1_method_5_code 1 = .ok (.invokestatic 117, 3) := by decide +kernel
theorem dc_LR_text_4 : decode prog_1_method_5_code 4 = .ok (.ifCond .ne 13, 3) := by decide +kernel
theorem dc_LR_text_7 : decode prog_1_method_5_code 7 = .ok (.new 102, 3) := by decide +kernel
theorem dc_LR_text_10 : decode prog_1_method_5_code 10 = .ok (.dup, 1) := by decide +kernel
theorem dc_LR_text_11 : decode prog_1_method_5_code 11 = .ok (.ldc 120, 2) := by decide +kernel
theorem dc_LR_text_13 : decode prog_1_method_5_code 13 = .ok (.invokespecial 106, 3) := by decide +kernel
theorem dc_LR_text_16 : decode prog_1_method_5_code 16 = .ok (.athrow, 1) := by decide +kernel
theorem dc_LR_text_17 : decode prog_1_method_5_code 17 = .ok (.aload_n 0, 1) := by decide +kernel
theorem dc_LR_text_18 : decode prog_1_method_5_code 18 = .ok (.getfield 18, 3) := by decide +kernel
theorem dc_LR_text_21 : decode prog_1_method_5_code 21 = .ok (.iload_n 1, 1) := by decide +kernel
theorem dc_LR_text_22 : decode prog_1_method_5_code 22 = .ok (.aaload, 1) := by decide +kernel
theorem dc_LR_text_23 : decode prog_1_method_5_code 23 = .ok (.aload_n 0, 1) := by decide +kernel
theorem dc_LR_text_24 : decode prog_1_method_5_code 24 = .ok (.getfield 14, 3) := by decide +kernel
theorem dc_LR_text_27 : decode prog_1_method_5_code 27 = .ok (.invokevirtual 122, 3) := by decide +kernel
theorem dc_LR_text_30 : decode prog_1_method_5_code 30 = .ok (.aload_n 0, 1) := by decide +kernel
theorem dc_LR_text_31 : decode prog_1_method_5_code 31 = .ok (.invokevirtual 126, 3) := by decide +kernel
theorem dc_LR_text_34 : decode prog_1_method_5_code 34 = .ok (.ireturn, 1) := by decide +kernel
theorem dc_LR_separator_0 : decode prog_1_method_6_code 0 = .ok (.iload_n 1, 1) := by decide +kernel
theorem dc_LR_separator_1 : decode prog_1_method_6_code 1 = .ok (.iconst 1, 1) := by decide +kernel
theorem dc_LR_separator_2 : decode prog_1_method_6_code 2 = .ok (.if_icmp .lt 10, 3) := by decide +kernel
theorem dc_LR_separator_5 : decode prog_1_method_6_code 5 = .ok (.iload_n 1, 1) := by decide +kernel
theorem dc_LR_separator_6 : decode prog_1_method_6_code 6 = .ok (.sipush 255, 3) := by decide +kernel
theorem dc_LR_separator_9 : decode prog_1_method_6_code 9 = .ok (.if_icmp .le 13, 3) := by decide +kernel
theorem dc_LR_separator_12 : decode prog_1_method_6_code 12 = .ok (.new 130, 3) := by decide +kernel
theorem dc_LR_separator_15 : decode prog_1_method_6_code 15 = .ok (.dup, 1) := by decide +kernel
theorem dc_LR_separator_16 : decode prog_1_method_6_code 16 = .ok (.ldc 132, 2) := by decide +kernel
theorem dc_LR_separator_18 : decode prog_1_method_6_code 18 = .ok (.invokespecial 134, 3) := by decide +kernel
theorem dc_LR_separator_21 : decode prog_1_method_6_code 21 = .ok (.athrow, 1) := by decide +kernel
theorem dc_LR_separator_22 : decode prog_1_method_6_code 22 = .ok (.aload_n 0, 1) := by decide +kernel
theorem dc_LR_separator_23 : decode prog_1_method_6_code 23 = .ok (.getfield 69, 3) := by decide +kernel
theorem dc_LR_separator_26 : decode prog_1_method_6_code 26 = .ok (.istore_n 2, 1) := by decide +kernel
theorem dc_LR_separator_27 : decode prog_1_method_6_code 27 = .ok (.aload_n 0, 1) := by decide +kernel
theorem dc_LR_separator_28 : decode prog_1_method_6_code 28 = .ok (.iload_n 1, 1) := by decide +kernel
theorem dc_LR_separator_29 : decode prog_1_method_6_code 29 = .ok (.putfield 69, 3) := by decide +kernel
theorem dc_LR_separator_32 : decode prog_1_method_6_code 32 = .ok (.iload_n 2, 1) := by decide +kernel
theorem dc_LR_separator_33 : decode prog_1_method_6_code 33 = .ok (.ireturn, 1) := by decide +kernel
theorem dc_LR_rule_0 : decode prog_1_method_7_code 0 = .ok (.iload_n 1, 1) := by decide +kernel
theorem dc_LR_rule_1 : decode prog_1_method_7_code 1 = .ok (.iload_n 2, 1) := by decide +kernel
theorem dc_LR_rule_2 : decode prog_1_method_7_code 2 = .ok (.iload_n 3, 1) := by decide +kernel
theorem dc_LR_rule_3 : decode prog_1_method_7_code 3 = .ok (.invokestatic 135, 3) := by decide +kernel
theorem dc_LR_rule_6 : decode prog_1_method_7_code 6 = .ok (.ifCond .ne 13, 3) := by decide +kernel
theorem dc_LR_rule_9 : decode prog_1_method_7_code 9 = .ok (.new 102, 3) := by decide +kernel
theorem dc_LR_rule_12 : decode prog_1_method_7_code 12 = .ok (.dup, 1) := by decide +kernel
theorem dc_LR_rule_13 : decode prog_1_method_7_code 13 = .ok (.ldc 139, 2) := by decide +kernel
theorem dc_LR_rule_15 : decode prog_1_method_7_code 15 = .ok (.invokespecial 106, 3) := by decide +kernel
theorem dc_LR_rule_18 : decode prog_1_method_7_code 18 = .ok (.athrow, 1) := by decide +kernel
theorem dc_LR_rule_19 : decode prog_1_method_7_code 19 = .ok (.aload_n 0, 1) := by decide +kernel
theorem dc_LR_rule_20 : decode prog_1_method_7_code 20 = .ok (.getfield 141, 3) := by decide +kernel
theorem dc_LR_rule_23 : decode prog_1_method_7_code 23 = .ok (.bipush 12, 2) := by decide +kernel
theorem dc_LR_rule_25 : decode prog_1_method_7_code 25 = .ok (.if_icmp .ne 13, 3) := by decide +kernel
theorem dc_LR_rule_28 : decode prog_1_method_7_code 28 = .ok (.new 85, 3) := by decide +kernel
theorem dc_LR_rule_31 : decode prog_1_method_7_code 31 = .ok (.dup, 1) := by decide +kernel
theorem dc_LR_rule_32 : decode prog_1_method_7_code 32 = .ok (.ldc 144, 2) := by decide +kernel
theorem dc_LR_rule_34 : decode prog_1_method_7_code 34 = .ok (.invokespecial 89, 3) := by decide +kernel
theorem dc_LR_rule_37 : decode prog_1_method_7_code 37 = .ok (.athrow, 1) := by decide +kernel
theorem dc_LR_rule_38 : decode prog_1_method_7_code 38 = .ok (.aload_n 0, 1) := by decide +kernel
theorem dc_LR_rule_39 : decode prog_1_method_7_code 39 = .ok (.getfield 37, 3) := by decide +kernel
theorem dc_LR_rule_42 : decode prog_1_method_7_code 42 = .ok (.aload_n 0, 1) := by decide +kernel
theorem dc_LR_rule_43 : decode prog_1_method_7_code 43 = .ok (.getfield 141, 3) := by decide +kernel
theorem dc_LR_rule_46 : decode prog_1_method_7_code 46 = .ok (.aaload, 1) := by decide +kernel
theorem dc_LR_rule_47 : decode prog_1_method_7_code 47 = .ok (.iload_n 1, 1) := by decide +kernel
theorem dc_LR_rule_48 : decode prog_1_method_7_code 48 = .ok (.iload_n 2, 1) := by decide +kernel
theorem dc_LR_rule_49 : decode prog_1_method_7_code 49 = .ok (.iload_n 3, 1) := by decide +kernel
theorem dc_LR_rule_50 : decode prog_1_method_7_code 50 = .ok (.invokevirtual 146, 3) := by decide +kernel
theorem dc_LR_rule_53 : decode prog_1_method_7_code 53 = .ok (.aload_n 0, 1) := by decide +kernel
theorem dc_LR_rule_54 : decode prog_1_method_7_code 54 = .ok (.dup, 1) := by decide +kernel
theorem dc_LR_rule_55 : decode prog_1_method_7_code 55 = .ok (.getfield 141, 3) := by decide +kernel
theorem dc_LR_rule_58 : decode prog_1_method_7_code 58 = .ok (.iconst 1, 1) := by decide +kernel
theorem dc_LR_rule_59 : decode prog_1_method_7_code 59 = .ok (.iadd, 1) := by decide +kernel
theorem dc_LR_rule_60 : decode prog_1_method_7_code 60 = .ok (.putfield 141, 3) := by decide +kernel
theorem dc_LR_rule_63 : decode prog_1_method_7_code 63 = .ok (.aload_n 0, 1) := by decide +kernel
theorem dc_LR_rule_64 : decode prog_1_method_7_code 64 = .ok (.getfield 141, 3) := by decide +kernel
theorem dc_LR_rule_67 : decode prog_1_method_7_code 67 = .ok (.iconst 1, 1) := by decide +kernel
theorem dc_LR_rule_68 : decode prog_1_method_7_code 68 = .ok (.isub, 1) := by decide +kernel
theorem dc_LR_rule_69 : decode prog_1_method_7_code 69 = .ok (.ireturn, 1) := by decide +kernel
theorem dc_LR_action_0 : decode prog_1_method_8_code 0 = .ok (.iload_n 1, 1) := by decide +kernel
theorem dc_LR_action_1 : decode prog_1_method_8_code 1 = .ok (.ifCond .lt 21, 3) := by decide +kernel
theorem dc_LR_action_4 : decode prog_1_method_8_code 4 = .ok (.iload_n 1, 1) := by decide +kernel
theorem dc_LR_action_5 : decode prog_1_method_8_code 5 = .ok (.aload_n 0, 1) := by decide +kernel
theorem dc_LR_action_6 : decode prog_1_method_8_code 6 = .ok (.getfield 141, 3) := by decide +kernel
theorem dc_LR_action_9 : decode prog_1_method_8_code 9 = .ok (.if_icmp .ge 13, 3) := by decide +kernel
theorem dc_LR_action_12 : decode prog_1_method_8_code 12 = .ok (.iload_n 2, 1) := by decide +kernel
theorem dc_LR_action_13 : decode prog_1_method_8_code 13 = .ok (.iload_n 3, 1) := by decide +kernel
theorem dc_LR_action_14 : decode prog_1_method_8_code 14 = .ok (.iload 4, 2) := by decide +kernel
theorem dc_LR_action_16 : decode prog_1_method_8_code 16 = .ok (.invokestatic 150, 3) := by decide +kernel
theorem dc_LR_action_19 : decode prog_1_method_8_code 19 = .ok (.ifCond .ne 13, 3) := by decide +kernel
theorem dc_LR_action_22 : decode prog_1_method_8_code 22 = .ok (.new 102, 3) := by decide +kernel
theorem dc_LR_action_25 : decode prog_1_method_8_code 25 = .ok (.dup, 1) := by decide +kernel
theorem dc_LR_action_26 : decode prog_1_method_8_code 26 = .ok (.ldc 153, 2) := by decide +kernel
theorem dc_LR_action_28 : decode prog_1_method_8_code 28 = .ok (.invokespecial 106, 3) := by decide +kernel
theorem dc_LR_action_31 : decode prog_1_method_8_code 31 = .ok (.athrow, 1) := by decide +kernel
theorem dc_LR_action_32 : decode prog_1_method_8_code 32 = .ok (.aload_n 0, 1) := by decide +kernel
theorem dc_LR_action_33 : decode prog_1_method_8_code 33 = .ok (.getfield 37, 3) := by decide +kernel
theorem dc_LR_action_36 : decode prog_1_method_8_code 36 = .ok (.iload_n 1, 1) := by decide +kernel
theorem dc_LR_action_37 : decode prog_1_method_8_code 37 = .ok (.aaload, 1) := by decide +kernel
theorem dc_LR_action_38 : decode prog_1_method_8_code 38 = .ok (.invokevirtual 155, 3) := by decide +kernel
theorem dc_LR_action_41 : decode prog_1_method_8_code 41 = .ok (.ifCond .eq 13, 3) := by decide +kernel
theorem dc_LR_action_44 : decode prog_1_method_8_code 44 = .ok (.new 85, 3) := by decide +kernel
theorem dc_LR_action_47 : decode prog_1_method_8_code 47 = .ok (.dup, 1) := by decide +kernel
theorem dc_LR_action_48 : decode prog_1_method_8_code 48 = .ok (.ldc 159, 2) := by decide +kernel
theorem dc_LR_action_50 : decode prog_1_method_8_code 50 = .ok (.invokespecial 89, 3) := by decide +kernel
theorem dc_LR_action_53 : decode prog_1_method_8_code 53 = .ok (.athrow, 1) := by decide +kernel
theorem dc_LR_action_54 : decode prog_1_method_8_code 54 = .ok (.aload_n 0, 1) := by decide +kernel
theorem dc_LR_action_55 : decode prog_1_method_8_code 55 = .ok (.getfield 37, 3) := by decide +kernel
theorem dc_LR_action_58 : decode prog_1_method_8_code 58 = .ok (.iload_n 1, 1) := by decide +kernel
theorem dc_LR_action_59 : decode prog_1_method_8_code 59 = .ok (.aaload, 1) := by decide +kernel
theorem dc_LR_action_60 : decode prog_1_method_8_code 60 = .ok (.iload_n 2, 1) := by decide +kernel
theorem dc_LR_action_61 : decode prog_1_method_8_code 61 = .ok (.iload_n 3, 1) := by decide +kernel
theorem dc_LR_action_62 : decode prog_1_method_8_code 62 = .ok (.iload 4, 2) := by decide +kernel
theorem dc_LR_action_64 : decode prog_1_method_8_code 64 = .ok (.invokevirtual 161, 3) := by decide +kernel
theorem dc_LR_action_67 : decode prog_1_method_8_code 67 = .ok (.ireturn, 1) := by decide +kernel
theorem dc_LR_forget_0 : decode prog_1_method_9_code 0 = .ok (.aload_n 0, 1) := by decide +kernel
theorem dc_LR_forget_1 : decode prog_1_method_9_code 1 = .ok (.getfield 141, 3) := by decide +kernel
theorem dc_LR_forget_4 : decode prog_1_method_9_code 4 = .ok (.istore_n 1, 1) := by decide +kernel
theorem dc_LR_forget_5 : decode prog_1_method_9_code 5 = .ok (.aload_n 0, 1) := by decide +kernel
theorem dc_LR_forget_6 : decode prog_1_method_9_code 6 = .ok (.iconst 0, 1) := by decide +kernel
theorem dc_LR_forget_7 : decode prog_1_method_9_code 7 = .ok (.putfield 141, 3) := by decide +kernel
theorem dc_LR_forget_10 : decode prog_1_method_9_code 10 = .ok (.iload_n 1, 1) := by decide +kernel
theorem dc_LR_forget_11 : decode prog_1_method_9_code 11 = .ok (.ireturn, 1) := by decide +kernel
theorem dc_LR_line_0 : decode prog_1_method_10_code 0 = .ok (.aload_n 0, 1) := by decide +kernel
theorem dc_LR_line_1 : decode prog_1_method_10_code 1 = .ok (.getfield 44, 3) := by decide +kernel
theorem dc_LR_line_4 : decode prog_1_method_10_code 4 = .ok (.aload_n 0, 1) := by decide +kernel
theorem dc_LR_line_5 : decode prog_1_method_10_code 5 = .ok (.getfield 14, 3) := by decide +kernel
theorem dc_LR_line_8 : decode prog_1_method_10_code 8 = .ok (.aload_n 0, 1) := by decide +kernel
theorem dc_LR_line_9 : decode prog_1_method_10_code 9 = .ok (.getfield 69, 3) := by decide +kernel
theorem dc_LR_line_12 : decode prog_1_method_10_code 12 = .ok (.invokevirtual 165, 3) := by decide +kernel
theorem dc_LR_line_15 : decode prog_1_method_10_code 15 = .ok (.aload_n 0, 1) := by decide +kernel
theorem dc_LR_line_16 : decode prog_1_method_10_code 16 = .ok (.getfield 14, 3) := by decide +kernel
theorem dc_LR_line_19 : decode prog_1_method_10_code 19 = .ok (.invokevirtual 95, 3) := by decide +kernel
theorem dc_LR_line_22 : decode prog_1_method_10_code 22 = .ok (.aload_n 0, 1) := by decide +kernel
theorem dc_LR_line_23 : decode prog_1_method_10_code 23 = .ok (.dup, 1) := by decide +kernel
theorem dc_LR_line_24 : decode prog_1_method_10_code 24 = .ok (.getfield 168, 3) := by decide +kernel
theorem dc_LR_line_27 : decode prog_1_method_10_code 27 = .ok (.iconst 1, 1) := by decide +kernel
theorem dc_LR_line_28 : decode prog_1_method_10_code 28 = .ok (.iadd, 1) := by decide +kernel
theorem dc_LR_line_29 : decode prog_1_method_10_code 29 = .ok (.putfield 168, 3) := by decide +kernel
theorem dc_LR_line_32 : decode prog_1_method_10_code 32 = .ok (.iconst 0, 1) := by decide +kernel
theorem dc_LR_line_33 : decode prog_1_method_10_code 33 = .ok (.istore_n 1, 1) := by decide +kernel
theorem dc_LR_line_34 : decode prog_1_method_10_code 34 = .ok (.iconst 1, 1) := by decide +kernel
theorem dc_LR_line_35 : decode prog_1_method_10_code 35 = .ok (.istore_n 2, 1) := by decide +kernel
theorem dc_LR_line_36 : decode prog_1_method_10_code 36 = .ok (.iconst 0, 1) := by decide +kernel
theorem dc_LR_line_37 : decode prog_1_method_10_code 37 = .ok (.istore_n 3, 1) := by decide +kernel
theorem dc_LR_line_38 : decode prog_1_method_10_code 38 = .ok (.iload_n 3, 1) := by decide +kernel
theorem dc_LR_line_39 : decode prog_1_method_10_code 39 = .ok (.aload_n 0, 1) := by decide +kernel
theorem dc_LR_line_40 : decode prog_1_method_10_code 40 = .ok (.getfield 141, 3) := by decide +kernel
theorem dc_LR_line_43 : decode prog_1_method_10_code 43 = .ok (.if_icmp .ge 40, 3) := by decide +kernel
theorem dc_LR_line_46 : decode prog_1_method_10_code 46 = .ok (.iload_n 2, 1) := by decide +kernel
theorem dc_LR_line_47 : decode prog_1_method_10_code 47 = .ok (.ifCond .eq 36, 3) := by decide +kernel
theorem dc_LR_line_50 : decode prog_1_method_10_code 50 = .ok (.aload_n 0, 1) := by decide +kernel
theorem dc_LR_line_51 : decode prog_1_method_10_code 51 = .ok (.aload_n 0, 1) := by decide +kernel
theorem dc_LR_line_52 : decode prog_1_method_10_code 52 = .ok (.getfield 37, 3) := by decide +kernel
theorem dc_LR_line_55 : decode prog_1_method_10_code 55 = .ok (.iload_n 3, 1) := by decide +kernel
theorem dc_LR_line_56 : decode prog_1_method_10_code 56 = .ok (.aaload, 1) := by decide +kernel
theorem dc_LR_line_57 : decode prog_1_method_10_code 57 = .ok (.invokevirtual 171, 3) := by decide +kernel
theorem dc_LR_line_60 : decode prog_1_method_10_code 60 = .ok (.ifCond .eq 17, 3) := by decide +kernel
theorem dc_LR_line_63 : decode prog_1_method_10_code 63 = .ok (.iinc 1 1, 3) := by decide +kernel
theorem dc_LR_line_66 : decode prog_1_method_10_code 66 = .ok (.aload_n 0, 1) := by decide +kernel
theorem dc_LR_line_67 : decode prog_1_method_10_code 67 = .ok (.aload_n 0, 1) := by decide +kernel
theorem dc_LR_line_68 : decode prog_1_method_10_code 68 = .ok (.getfield 37, 3) := by decide +kernel
theorem dc_LR_line_71 : decode prog_1_method_10_code 71 = .ok (.iload_n 3, 1) := by decide +kernel
theorem dc_LR_line_72 : decode prog_1_method_10_code 72 = .ok (.aaload, 1) := by decide +kernel
theorem dc_LR_line_73 : decode prog_1_method_10_code 73 = .ok (.invokevirtual 175, 3) := by decide +kernel
theorem dc_LR_line_76 : decode prog_1_method_10_code 76 = .ok (.istore_n 2, 1) := by decide +kernel
theorem dc_LR_line_77 : decode prog_1_method_10_code 77 = .ok (.iinc 3 1, 3) := by decide +kernel
theorem dc_LR_line_80 : decode prog_1_method_10_code 80 = .ok (.goto (-42), 3) := by decide +kernel
theorem dc_LR_line_83 : decode prog_1_method_10_code 83 = .ok (.iload_n 1, 1) := by decide +kernel
theorem dc_LR_line_84 : decode prog_1_method_10_code 84 = .ok (.ireturn, 1) := by decide +kernel
theorem dc_LR_find_0 : decode prog_1_method_11_code 0 = .ok (.iload_n 1, 1) := by decide +kernel
theorem dc_LR_find_1 : decode prog_1_method_11_code 1 = .ok (.invokestatic 98, 3) := by decide +kernel
theorem dc_LR_find_4 : decode prog_1_method_11_code 4 = .ok (.ifCond .eq 18, 3) := by decide +kernel
theorem dc_LR_find_7 : decode prog_1_method_11_code 7 = .ok (.iload_n 2, 1) := by decide +kernel
theorem dc_LR_find_8 : decode prog_1_method_11_code 8 = .ok (.ifCond .lt 14, 3) := by decide +kernel
theorem dc_LR_find_11 : decode prog_1_method_11_code 11 = .ok (.iload_n 2, 1) := by decide +kernel
theorem dc_LR_find_12 : decode prog_1_method_11_code 12 = .ok (.aload_n 0, 1) := by decide +kernel
theorem dc_LR_find_13 : decode prog_1_method_11_code 13 = .ok (.getfield 14, 3) := by decide +kernel
theorem dc_LR_find_16 : decode prog_1_method_11_code 16 = .ok (.getfield 82, 3) := by decide +kernel
theorem dc_LR_find_19 : decode prog_1_method_11_code 19 = .ok (.if_icmp .le 13, 3) := by decide +kernel
theorem dc_LR_find_22 : decode prog_1_method_11_code 22 = .ok (.new 102, 3) := by decide +kernel
theorem dc_LR_find_25 : decode prog_1_method_11_code 25 = .ok (.dup, 1) := by decide +kernel
theorem dc_LR_find_26 : decode prog_1_method_11_code 26 = .ok (.ldc 178, 2) := by decide +kernel
theorem dc_LR_find_28 : decode prog_1_method_11_code 28 = .ok (.invokespecial 106, 3) := by decide +kernel
theorem dc_LR_find_31 : decode prog_1_method_11_code 31 = .ok (.athrow, 1) := by decide +kernel
theorem dc_LR_find_32 : decode prog_1_method_11_code 32 = .ok (.aload_n 0, 1) := by decide +kernel
theorem dc_LR_find_33 : decode prog_1_method_11_code 33 = .ok (.getfield 24, 3) := by decide +kernel
theorem dc_LR_find_36 : decode prog_1_method_11_code 36 = .ok (.iload_n 1, 1) := by decide +kernel
theorem dc_LR_find_37 : decode prog_1_method_11_code 37 = .ok (.aaload, 1) := by decide +kernel
theorem dc_LR_find_38 : decode prog_1_method_11_code 38 = .ok (.aload_n 0, 1) := by decide +kernel
theorem dc_LR_find_39 : decode prog_1_method_11_code 39 = .ok (.getfield 14, 3) := by decide +kernel
theorem dc_LR_find_42 : decode prog_1_method_11_code 42 = .ok (.iload_n 2, 1) := by decide +kernel
theorem dc_LR_find_43 : decode prog_1_method_11_code 43 = .ok (.invokevirtual 180, 3) := by decide +kernel
theorem dc_LR_find_46 : decode prog_1_method_11_code 46 = .ok (.istore_n 3, 1) := by decide +kernel
theorem dc_LR_find_47 : decode prog_1_method_11_code 47 = .ok (.aload_n 0, 1) := by decide +kernel
theorem dc_LR_find_48 : decode prog_1_method_11_code 48 = .ok (.iload_n 3, 1) := by decide +kernel
theorem dc_LR_find_49 : decode prog_1_method_11_code 49 = .ok (.iconst (-1), 1) := by decide +kernel
theorem dc_LR_find_50 : decode prog_1_method_11_code 50 = .ok (.if_icmp .ne 7, 3) := by decide +kernel
theorem dc_LR_find_53 : decode prog_1_method_11_code 53 = .ok (.iconst (-1), 1) := by decide +kernel
theorem dc_LR_find_54 : decode prog_1_method_11_code 54 = .ok (.goto 17, 3) := by decide +kernel
theorem dc_LR_find_57 : decode prog_1_method_11_code 57 = .ok (.aload_n 0, 1) := by decide +kernel
theorem dc_LR_find_58 : decode prog_1_method_11_code 58 = .ok (.getfield 24, 3) := by decide +kernel
theorem dc_LR_find_61 : decode prog_1_method_11_code 61 = .ok (.iload_n 1, 1) := by decide +kernel
theorem dc_LR_find_62 : decode prog_1_method_11_code 62 = .ok (.aaload, 1) := by decide +kernel
theorem dc_LR_find_63 : decode prog_1_method_11_code 63 = .ok (.aload_n 0, 1) := by decide +kernel
theorem dc_LR_find_64 : decode prog_1_method_11_code 64 = .ok (.getfield 14, 3) := by decide +kernel
theorem dc_LR_find_67 : decode prog_1_method_11_code 67 = .ok (.iload_n 3, 1) := by decide +kernel
theorem dc_LR_find_68 : decode prog_1_method_11_code 68 = .ok (.invokevirtual 184, 3) := by decide +kernel
theorem dc_LR_find_71 : decode prog_1_method_11_code 71 = .ok (.putfield 73, 3) := by decide +kernel
theorem dc_LR_find_74 : decode prog_1_method_11_code 74 = .ok (.iload_n 3, 1) := by decide +kernel
theorem dc_LR_find_75 : decode prog_1_method_11_code 75 = .ok (.ireturn, 1) := by decide +kernel
theorem dc_LR_end_0 : decode prog_1_method_12_code 0 = .ok (.aload_n 0, 1) := by decide +kernel
theorem dc_LR_end_1 : decode prog_1_method_12_code 1 = .ok (.getfield 73, 3) := by decide +kernel
theorem dc_LR_end_4 : decode prog_1_method_12_code 4 = .ok (.ireturn, 1) := by decide +kernel
theorem dc_LR_sign_0 : decode prog_1_method_13_code 0 = .ok (.iload_n 1, 1) := by decide +kernel
theorem dc_LR_sign_1 : decode prog_1_method_13_code 1 = .ok (.ifCond .lt 14, 3) := by decide +kernel
theorem dc_LR_sign_4 : decode prog_1_method_13_code 4 = .ok (.iload_n 1, 1) := by decide +kernel
theorem dc_LR_sign_5 : decode prog_1_method_13_code 5 = .ok (.aload_n 0, 1) := by decide +kernel
theorem dc_LR_sign_6 : decode prog_1_method_13_code 6 = .ok (.getfield 44, 3) := by decide +kernel
theorem dc_LR_sign_9 : decode prog_1_method_13_code 9 = .ok (.getfield 187, 3) := by decide +kernel
theorem dc_LR_sign_12 : decode prog_1_method_13_code 12 = .ok (.if_icmp .le 13, 3) := by decide +kernel
theorem dc_LR_sign_15 : decode prog_1_method_13_code 15 = .ok (.new 102, 3) := by decide +kernel
theorem dc_LR_sign_18 : decode prog_1_method_13_code 18 = .ok (.dup, 1) := by decide +kernel
theorem dc_LR_sign_19 : decode prog_1_method_13_code 19 = .ok (.ldc 190, 2) := by decide +kernel
theorem dc_LR_sign_21 : decode prog_1_method_13_code 21 = .ok (.invokespecial 106, 3) := by decide +kernel
theorem dc_LR_sign_24 : decode prog_1_method_13_code 24 = .ok (.athrow, 1) := by decide +kernel
theorem dc_LR_sign_25 : decode prog_1_method_13_code 25 = .ok (.iload_n 1, 1) := by decide +kernel
theorem dc_LR_sign_26 : decode prog_1_method_13_code 26 = .ok (.ifCond .ne 13, 3) := by decide +kernel
theorem dc_LR_sign_29 : decode prog_1_method_13_code 29 = .ok (.aload_n 0, 1) := by decide +kernel
theorem dc_LR_sign_30 : decode prog_1_method_13_code 30 = .ok (.getfield 44, 3) := by decide +kernel
theorem dc_LR_sign_33 : decode prog_1_method_13_code 33 = .ok (.getfield 192, 3) := by decide +kernel
theorem dc_LR_sign_36 : decode prog_1_method_13_code 36 = .ok (.goto 11, 3) := by decide +kernel
theorem dc_LR_sign_39 : decode prog_1_method_13_code 39 = .ok (.aload_n 0, 1) := by decide +kernel
theorem dc_LR_sign_40 : decode prog_1_method_13_code 40 = .ok (.getfield 44, 3) := by decide +kernel
theorem dc_LR_sign_43 : decode prog_1_method_13_code 43 = .ok (.iload_n 1, 1) := by decide +kernel
theorem dc_LR_sign_44 : decode prog_1_method_13_code 44 = .ok (.invokevirtual 195, 3) := by decide +kernel
theorem dc_LR_sign_47 : decode prog_1_method_13_code 47 = .ok (.astore_n 3, 1) := by decide +kernel
theorem dc_LR_sign_48 : decode prog_1_method_13_code 48 = .ok (.iload_n 2, 1) := by decide +kernel
theorem dc_LR_sign_49 : decode prog_1_method_13_code 49 = .ok (.iconst (-1), 1) := by decide +kernel
theorem dc_LR_sign_50 : decode prog_1_method_13_code 50 = .ok (.if_icmp .ne 8, 3) := by decide +kernel
theorem dc_LR_sign_53 : decode prog_1_method_13_code 53 = .ok (.aload_n 3, 1) := by decide +kernel
theorem dc_LR_sign_54 : decode prog_1_method_13_code 54 = .ok (.getfield 82, 3) := by decide +kernel
theorem dc_LR_sign_57 : decode prog_1_method_13_code 57 = .ok (.ireturn, 1) := by decide +kernel
theorem dc_LR_sign_58 : decode prog_1_method_13_code 58 = .ok (.aload_n 3, 1) := by decide +kernel
theorem dc_LR_sign_59 : decode prog_1_method_13_code 59 = .ok (.iload_n 2, 1) := by decide +kernel
theorem dc_LR_sign_60 : decode prog_1_method_13_code 60 = .ok (.invokevirtual 199, 3) := by decide +kernel
theorem dc_LR_sign_63 : decode prog_1_method_13_code 63 = .ok (.ifCond .ne 13, 3) := by decide +kernel
theorem dc_LR_sign_66 : decode prog_1_method_13_code 66 = .ok (.new 102, 3) := by decide +kernel
theorem dc_LR_sign_69 : decode prog_1_method_13_code 69 = .ok (.dup, 1) := by decide +kernel
theorem dc_LR_sign_70 : decode prog_1_method_13_code 70 = .ok (.ldc 202, 2) := by decide +kernel
theorem dc_LR_sign_72 : decode prog_1_method_13_code 72 = .ok (.invokespecial 106, 3) := by decide +kernel
theorem dc_LR_sign_75 : decode prog_1_method_13_code 75 = .ok (.athrow, 1) := by decide +kernel
theorem dc_LR_sign_76 : decode prog_1_method_13_code 76 = .ok (.aload_n 3, 1) := by decide +kernel
theorem dc_LR_sign_77 : decode prog_1_method_13_code 77 = .ok (.getfield 204, 3) := by decide +kernel
theorem dc_LR_sign_80 : decode prog_1_method_13_code 80 = .ok (.iload_n 2, 1) := by decide +kernel
theorem dc_LR_sign_81 : decode prog_1_method_13_code 81 = .ok (.iaload, 1) := by decide +kernel
theorem dc_LR_sign_82 : decode prog_1_method_13_code 82 = .ok (.ireturn, 1) := by decide +kernel
theorem dc_LR_printed_0 : decode prog_1_method_14_code 0 = .ok (.aload_n 0, 1) := by decide +kernel
theorem dc_LR_printed_1 : decode prog_1_method_14_code 1 = .ok (.getfield 62, 3) := by decide +kernel
theorem dc_LR_printed_4 : decode prog_1_method_14_code 4 = .ok (.iload_n 1, 1) := by decide +kernel
theorem dc_LR_printed_5 : decode prog_1_method_14_code 5 = .ok (.invokevirtual 207, 3) := by decide +kernel
theorem dc_LR_printed_8 : decode prog_1_method_14_code 8 = .ok (.ifCond .ne 13, 3) := by decide +kernel
theorem dc_LR_printed_11 : decode prog_1_method_14_code 11 = .ok (.new 102, 3) := by decide +kernel
theorem dc_LR_printed_14 : decode prog_1_method_14_code 14 = .ok (.dup, 1) := by decide +kernel
theorem dc_LR_printed_15 : decode prog_1_method_14_code 15 = .ok (.ldc 208, 2) := by decide +kernel
theorem dc_LR_printed_17 : decode prog_1_method_14_code 17 = .ok (.invokespecial 106, 3) := by decide +kernel
theorem dc_LR_printed_20 : decode prog_1_method_14_code 20 = .ok (.athrow, 1) := by decide +kernel
theorem dc_LR_printed_21 : decode prog_1_method_14_code 21 = .ok (.aload_n 0, 1) := by decide +kernel
theorem dc_LR_printed_22 : decode prog_1_method_14_code 22 = .ok (.getfield 62, 3) := by decide +kernel
theorem dc_LR_printed_25 : decode prog_1_method_14_code 25 = .ok (.iload_n 1, 1) := by decide +kernel
theorem dc_LR_printed_26 : decode prog_1_method_14_code 26 = .ok (.invokevirtual 210, 3) := by decide +kernel
theorem dc_LR_printed_29 : decode prog_1_method_14_code 29 = .ok (.ireturn, 1) := by decide +kernel
theorem dc_LR_counter_0 : decode prog_1_method_15_code 0 = .ok (.iload_n 1, 1) := by decide +kernel
theorem dc_LR_counter_1 : decode prog_1_method_15_code 1 = .ok (.invokestatic 213, 3) := by decide +kernel
theorem dc_LR_counter_4 : decode prog_1_method_15_code 4 = .ok (.ifCond .ne 13, 3) := by decide +kernel
theorem dc_LR_counter_7 : decode prog_1_method_15_code 7 = .ok (.new 102, 3) := by decide +kernel
theorem dc_LR_counter_10 : decode prog_1_method_15_code 10 = .ok (.dup, 1) := by decide +kernel
theorem dc_LR_counter_11 : decode prog_1_method_15_code 11 = .ok (.ldc 216, 2) := by decide +kernel
theorem dc_LR_counter_13 : decode prog_1_method_15_code 13 = .ok (.invokespecial 106, 3) := by decide +kernel
theorem dc_LR_counter_16 : decode prog_1_method_15_code 16 = .ok (.athrow, 1) := by decide +kernel
theorem dc_LR_counter_17 : decode prog_1_method_15_code 17 = .ok (.aload_n 0, 1) := by decide +kernel
theorem dc_LR_counter_18 : decode prog_1_method_15_code 18 = .ok (.getfield 48, 3) := by decide +kernel
theorem dc_LR_counter_21 : decode prog_1_method_15_code 21 = .ok (.iload_n 1, 1) := by decide +kernel
theorem dc_LR_counter_22 : decode prog_1_method_15_code 22 = .ok (.iaload, 1) := by decide +kernel
theorem dc_LR_counter_23 : decode prog_1_method_15_code 23 = .ok (.ireturn, 1) := by decide +kernel
theorem dc_LR_key_0 : decode prog_1_method_16_code 0 = .ok (.iload_n 1, 1) := by decide +kernel
theorem dc_LR_key_1 : decode prog_1_method_16_code 1 = .ok (.ifCond .lt 14, 3) := by decide +kernel
theorem dc_LR_key_4 : decode prog_1_method_16_code 4 = .ok (.iload_n 1, 1) := by decide +kernel
theorem dc_LR_key_5 : decode prog_1_method_16_code 5 = .ok (.aload_n 0, 1) := by decide +kernel
theorem dc_LR_key_6 : decode prog_1_method_16_code 6 = .ok (.getfield 55, 3) := by decide +kernel
theorem dc_LR_key_9 : decode prog_1_method_16_code 9 = .ok (.getfield 218, 3) := by decide +kernel
theorem dc_LR_key_12 : decode prog_1_method_16_code 12 = .ok (.if_icmp .lt 13, 3) := by decide +kernel
theorem dc_LR_key_15 : decode prog_1_method_16_code 15 = .ok (.new 102, 3) := by decide +kernel
theorem dc_LR_key_18 : decode prog_1_method_16_code 18 = .ok (.dup, 1) := by decide +kernel
theorem dc_LR_key_19 : decode prog_1_method_16_code 19 = .ok (.ldc 221, 2) := by decide +kernel
theorem dc_LR_key_21 : decode prog_1_method_16_code 21 = .ok (.invokespecial 106, 3) := by decide +kernel
theorem dc_LR_key_24 : decode prog_1_method_16_code 24 = .ok (.athrow, 1) := by decide +kernel
theorem dc_LR_key_25 : decode prog_1_method_16_code 25 = .ok (.iload_n 2, 1) := by decide +kernel
theorem dc_LR_key_26 : decode prog_1_method_16_code 26 = .ok (.bipush (-2), 2) := by decide +kernel
theorem dc_LR_key_28 : decode prog_1_method_16_code 28 = .ok (.if_icmp .ne 13, 3) := by decide +kernel
theorem dc_LR_key_31 : decode prog_1_method_16_code 31 = .ok (.aload_n 0, 1) := by decide +kernel
theorem dc_LR_key_32 : decode prog_1_method_16_code 32 = .ok (.getfield 55, 3) := by decide +kernel
theorem dc_LR_key_35 : decode prog_1_method_16_code 35 = .ok (.getfield 223, 3) := by decide +kernel
theorem dc_LR_key_38 : decode prog_1_method_16_code 38 = .ok (.iload_n 1, 1) := by decide +kernel
theorem dc_LR_key_39 : decode prog_1_method_16_code 39 = .ok (.iaload, 1) := by decide +kernel
theorem dc_LR_key_40 : decode prog_1_method_16_code 40 = .ok (.ireturn, 1) := by decide +kernel
theorem dc_LR_key_41 : decode prog_1_method_16_code 41 = .ok (.aload_n 0, 1) := by decide +kernel
theorem dc_LR_key_42 : decode prog_1_method_16_code 42 = .ok (.getfield 55, 3) := by decide +kernel
theorem dc_LR_key_45 : decode prog_1_method_16_code 45 = .ok (.getfield 226, 3) := by decide +kernel
theorem dc_LR_key_48 : decode prog_1_method_16_code 48 = .ok (.iload_n 1, 1) := by decide +kernel
theorem dc_LR_key_49 : decode prog_1_method_16_code 49 = .ok (.aaload, 1) := by decide +kernel
theorem dc_LR_key_50 : decode prog_1_method_16_code 50 = .ok (.astore_n 3, 1) := by decide +kernel
theorem dc_LR_key_51 : decode prog_1_method_16_code 51 = .ok (.iload_n 2, 1) := by decide +kernel
theorem dc_LR_key_52 : decode prog_1_method_16_code 52 = .ok (.iconst (-1), 1) := by decide +kernel
theorem dc_LR_key_53 : decode prog_1_method_16_code 53 = .ok (.if_icmp .ne 8, 3) := by decide +kernel
theorem dc_LR_key_56 : decode prog_1_method_16_code 56 = .ok (.aload_n 3, 1) := by decide +kernel
theorem dc_LR_key_57 : decode prog_1_method_16_code 57 = .ok (.getfield 82, 3) := by decide +kernel
theorem dc_LR_key_60 : decode prog_1_method_16_code 60 = .ok (.ireturn, 1) := by decide +kernel
theorem dc_LR_key_61 : decode prog_1_method_16_code 61 = .ok (.aload_n 3, 1) := by decide +kernel
theorem dc_LR_key_62 : decode prog_1_method_16_code 62 = .ok (.iload_n 2, 1) := by decide +kernel
theorem dc_LR_key_63 : decode prog_1_method_16_code 63 = .ok (.invokevirtual 199, 3) := by decide +kernel
theorem dc_LR_key_66 : decode prog_1_method_16_code 66 = .ok (.ifCond .ne 13, 3) := by decide +kernel
theorem dc_LR_key_69 : decode prog_1_method_16_code 69 = .ok (.new 102, 3) := by decide +kernel
theorem dc_LR_key_72 : decode prog_1_method_16_code 72 = .ok (.dup, 1) := by decide +kernel
theorem dc_LR_key_73 : decode prog_1_method_16_code 73 = .ok (.ldc 202, 2) := by decide +kernel
theorem dc_LR_key_75 : decode prog_1_method_16_code 75 = .ok (.invokespecial 106, 3) := by decide +kernel
theorem dc_LR_key_78 : decode prog_1_method_16_code 78 = .ok (.athrow, 1) := by decide +kernel
theorem dc_LR_key_79 : decode prog_1_method_16_code 79 = .ok (.aload_n 3, 1) := by decide +kernel
theorem dc_LR_key_80 : decode prog_1_method_16_code 80 = .ok (.getfield 204, 3) := by decide +kernel
theorem dc_LR_key_83 : decode prog_1_method_16_code 83 = .ok (.iload_n 2, 1) := by decide +kernel
theorem dc_LR_key_84 : decode prog_1_method_16_code 84 = .ok (.iaload, 1) := by decide +kernel
theorem dc_LR_key_85 : decode prog_1_method_16_code 85 = .ok (.ireturn, 1) := by decide +kernel
theorem dc_LR_count_0 : decode prog_1_method_17_code 0 = .ok (.iload_n 1, 1) := by decide +kernel
theorem dc_LR_count_1 : decode prog_1_method_17_code 1 = .ok (.tableswitch 81 0 5 #[39, 47, 52, 57, 65, 73], 39) := by decide +kernel
theorem dc_LR_count_40 : decode prog_1_method_17_code 40 = .ok (.aload_n 0, 1) := by decide +kernel
theorem dc_LR_count_41 : decode prog_1_method_17_code 41 = .ok (.getfield 14, 3) := by decide +kernel
theorem dc_LR_count_44 : decode prog_1_method_17_code 44 = .ok (.getfield 82, 3) := by decide +kernel
theorem dc_LR_count_47 : decode prog_1_method_17_code 47 = .ok (.ireturn, 1) := by decide +kernel
theorem dc_LR_count_48 : decode prog_1_method_17_code 48 = .ok (.aload_n 0, 1) := by decide +kernel
theorem dc_LR_count_49 : decode prog_1_method_17_code 49 = .ok (.getfield 141, 3) := by decide +kernel
theorem dc_LR_count_52 : decode prog_1_method_17_code 52 = .ok (.ireturn, 1) := by decide +kernel
theorem dc_LR_count_53 : decode prog_1_method_17_code 53 = .ok (.aload_n 0, 1) := by decide +kernel
theorem dc_LR_count_54 : decode prog_1_method_17_code 54 = .ok (.getfield 168, 3) := by decide +kernel
theorem dc_LR_count_57 : decode prog_1_method_17_code 57 = .ok (.ireturn, 1) := by decide +kernel
theorem dc_LR_count_58 : decode prog_1_method_17_code 58 = .ok (.aload_n 0, 1) := by decide +kernel
theorem dc_LR_count_59 : decode prog_1_method_17_code 59 = .ok (.getfield 44, 3) := by decide +kernel
theorem dc_LR_count_62 : decode prog_1_method_17_code 62 = .ok (.getfield 187, 3) := by decide +kernel
theorem dc_LR_count_65 : decode prog_1_method_17_code 65 = .ok (.ireturn, 1) := by decide +kernel
theorem dc_LR_count_66 : decode prog_1_method_17_code 66 = .ok (.aload_n 0, 1) := by decide +kernel
theorem dc_LR_count_67 : decode prog_1_method_17_code 67 = .ok (.getfield 62, 3) := by decide +kernel
theorem dc_LR_count_70 : decode prog_1_method_17_code 70 = .ok (.getfield 229, 3) := by decide +kernel
theorem dc_LR_count_73 : decode prog_1_method_17_code 73 = .ok (.ireturn, 1) := by decide +kernel
theorem dc_LR_count_74 : decode prog_1_method_17_code 74 = .ok (.aload_n 0, 1) := by decide +kernel
theorem dc_LR_count_75 : decode prog_1_method_17_code 75 = .ok (.getfield 55, 3) := by decide +kernel
theorem dc_LR_count_78 : decode prog_1_method_17_code 78 = .ok (.getfield 218, 3) := by decide +kernel
theorem dc_LR_count_81 : decode prog_1_method_17_code 81 = .ok (.ireturn, 1) := by decide +kernel
theorem dc_LR_count_82 : decode prog_1_method_17_code 82 = .ok (.new 130, 3) := by decide +kernel
theorem dc_LR_count_85 : decode prog_1_method_17_code 85 = .ok (.dup, 1) := by decide +kernel
theorem dc_LR_count_86 : decode prog_1_method_17_code 86 = .ok (.ldc 232, 2) := by decide +kernel
theorem dc_LR_count_88 : decode prog_1_method_17_code 88 = .ok (.invokespecial 134, 3) := by decide +kernel
theorem dc_LR_count_91 : decode prog_1_method_17_code 91 = .ok (.athrow, 1) := by decide +kernel
theorem dc_LR_signsIn_0 : decode prog_1_method_18_code 0 = .ok (.iconst 0, 1) := by decide +kernel
theorem dc_LR_signsIn_1 : decode prog_1_method_18_code 1 = .ok (.istore_n 1, 1) := by decide +kernel
theorem dc_LR_signsIn_2 : decode prog_1_method_18_code 2 = .ok (.iconst 0, 1) := by decide +kernel
theorem dc_LR_signsIn_3 : decode prog_1_method_18_code 3 = .ok (.istore_n 2, 1) := by decide +kernel
theorem dc_LR_signsIn_4 : decode prog_1_method_18_code 4 = .ok (.iload_n 2, 1) := by decide +kernel
theorem dc_LR_signsIn_5 : decode prog_1_method_18_code 5 = .ok (.bipush 32, 2) := by decide +kernel
theorem dc_LR_signsIn_7 : decode prog_1_method_18_code 7 = .ok (.if_icmp .ge 22, 3) := by decide +kernel
theorem dc_LR_signsIn_10 : decode prog_1_method_18_code 10 = .ok (.iload_n 0, 1) := by decide +kernel
theorem dc_LR_signsIn_11 : decode prog_1_method_18_code 11 = .ok (.iload_n 2, 1) := by decide +kernel
theorem dc_LR_signsIn_12 : decode prog_1_method_18_code 12 = .ok (.iushr, 1) := by decide +kernel
theorem dc_LR_signsIn_13 : decode prog_1_method_18_code 13 = .ok (.sipush 255, 3) := by decide +kernel
theorem dc_LR_signsIn_16 : decode prog_1_method_18_code 16 = .ok (.iand, 1) := by decide +kernel
theorem dc_LR_signsIn_17 : decode prog_1_method_18_code 17 = .ok (.ifCond .eq 6, 3) := by decide +kernel
theorem dc_LR_signsIn_20 : decode prog_1_method_18_code 20 = .ok (.iinc 1 1, 3) := by decide +kernel
theorem dc_LR_signsIn_23 : decode prog_1_method_18_code 23 = .ok (.iinc 2 8, 3) := by decide +kernel
theorem dc_LR_signsIn_26 : decode prog_1_method_18_code 26 = .ok (.goto (-22), 3) := by decide +kernel
theorem dc_LR_signsIn_29 : decode prog_1_method_18_code 29 = .ok (.iload_n 1, 1) := by decide +kernel
theorem dc_LR_signsIn_30 : decode prog_1_method_18_code 30 = .ok (.ireturn, 1) := by decide +kernel
theorem dc_LR_addToPad_0 : decode prog_1_method_19_code 0 = .ok (.iconst 0, 1) := by decide +kernel
theorem dc_LR_addToPad_1 : decode prog_1_method_19_code 1 = .ok (.istore_n 2, 1) := by decide +kernel
theorem dc_LR_addToPad_2 : decode prog_1_method_19_code 2 = .ok (.iload_n 2, 1) := by decide +kernel
theorem dc_LR_addToPad_3 : decode prog_1_method_19_code 3 = .ok (.bipush 32, 2) := by decide +kernel
theorem dc_LR_addToPad_5 : decode prog_1_method_19_code 5 = .ok (.if_icmp .ge 29, 3) := by decide +kernel
theorem dc_LR_addToPad_8 : decode prog_1_method_19_code 8 = .ok (.iload_n 1, 1) := by decide +kernel
theorem dc_LR_addToPad_9 : decode prog_1_method_19_code 9 = .ok (.iload_n 2, 1) := by decide +kernel
theorem dc_LR_addToPad_10 : decode prog_1_method_19_code 10 = .ok (.iushr, 1) := by decide +kernel
theorem dc_LR_addToPad_11 : decode prog_1_method_19_code 11 = .ok (.sipush 255, 3) := by decide +kernel
theorem dc_LR_addToPad_14 : decode prog_1_method_19_code 14 = .ok (.iand, 1) := by decide +kernel
theorem dc_LR_addToPad_15 : decode prog_1_method_19_code 15 = .ok (.istore_n 3, 1) := by decide +kernel
theorem dc_LR_addToPad_16 : decode prog_1_method_19_code 16 = .ok (.iload_n 3, 1) := by decide +kernel
theorem dc_LR_addToPad_17 : decode prog_1_method_19_code 17 = .ok (.ifCond .eq 11, 3) := by decide +kernel
theorem dc_LR_addToPad_20 : decode prog_1_method_19_code 20 = .ok (.aload_n 0, 1) := by decide +kernel
theorem dc_LR_addToPad_21 : decode prog_1_method_19_code 21 = .ok (.getfield 14, 3) := by decide +kernel
theorem dc_LR_addToPad_24 : decode prog_1_method_19_code 24 = .ok (.iload_n 3, 1) := by decide +kernel
theorem dc_LR_addToPad_25 : decode prog_1_method_19_code 25 = .ok (.invokevirtual 234, 3) := by decide +kernel
theorem dc_LR_addToPad_28 : decode prog_1_method_19_code 28 = .ok (.iinc 2 8, 3) := by decide +kernel
theorem dc_LR_addToPad_31 : decode prog_1_method_19_code 31 = .ok (.goto (-29), 3) := by decide +kernel
theorem dc_LR_addToPad_34 : decode prog_1_method_19_code 34 = .ok (.return_, 1) := by decide +kernel
theorem dc_LR_isExpression_0 : decode prog_1_method_20_code 0 = .ok (.iload_n 0, 1) := by decide +kernel
theorem dc_LR_isExpression_1 : decode prog_1_method_20_code 1 = .ok (.ifCond .lt 13, 3) := by decide +kernel
theorem dc_LR_isExpression_4 : decode prog_1_method_20_code 4 = .ok (.iload_n 0, 1) := by decide +kernel
theorem dc_LR_isExpression_5 : decode prog_1_method_20_code 5 = .ok (.bipush 6, 2) := by decide +kernel
theorem dc_LR_isExpression_7 : decode prog_1_method_20_code 7 = .ok (.if_icmp .ge 7, 3) := by decide +kernel
theorem dc_LR_isExpression_10 : decode prog_1_method_20_code 10 = .ok (.iconst 1, 1) := by decide +kernel
theorem dc_LR_isExpression_11 : decode prog_1_method_20_code 11 = .ok (.goto 4, 3) := by decide +kernel
theorem dc_LR_isExpression_14 : decode prog_1_method_20_code 14 = .ok (.iconst 0, 1) := by decide +kernel
theorem dc_LR_isExpression_15 : decode prog_1_method_20_code 15 = .ok (.ireturn, 1) := by decide +kernel
theorem dc_LR_isText_0 : decode prog_1_method_21_code 0 = .ok (.iload_n 0, 1) := by decide +kernel
theorem dc_LR_isText_1 : decode prog_1_method_21_code 1 = .ok (.ifCond .lt 13, 3) := by decide +kernel
theorem dc_LR_isText_4 : decode prog_1_method_21_code 4 = .ok (.iload_n 0, 1) := by decide +kernel
theorem dc_LR_isText_5 : decode prog_1_method_21_code 5 = .ok (.bipush 6, 2) := by decide +kernel
theorem dc_LR_isText_7 : decode prog_1_method_21_code 7 = .ok (.if_icmp .ge 7, 3) := by decide +kernel
theorem dc_LR_isText_10 : decode prog_1_method_21_code 10 = .ok (.iconst 1, 1) := by decide +kernel
theorem dc_LR_isText_11 : decode prog_1_method_21_code 11 = .ok (.goto 4, 3) := by decide +kernel
theorem dc_LR_isText_14 : decode prog_1_method_21_code 14 = .ok (.iconst 0, 1) := by decide +kernel
theorem dc_LR_isText_15 : decode prog_1_method_21_code 15 = .ok (.ireturn, 1) := by decide +kernel
theorem dc_LR_isCounter_0 : decode prog_1_method_22_code 0 = .ok (.iload_n 0, 1) := by decide +kernel
theorem dc_LR_isCounter_1 : decode prog_1_method_22_code 1 = .ok (.ifCond .lt 13, 3) := by decide +kernel
theorem dc_LR_isCounter_4 : decode prog_1_method_22_code 4 = .ok (.iload_n 0, 1) := by decide +kernel
theorem dc_LR_isCounter_5 : decode prog_1_method_22_code 5 = .ok (.bipush 8, 2) := by decide +kernel
theorem dc_LR_isCounter_7 : decode prog_1_method_22_code 7 = .ok (.if_icmp .ge 7, 3) := by decide +kernel
theorem dc_LR_isCounter_10 : decode prog_1_method_22_code 10 = .ok (.iconst 1, 1) := by decide +kernel
theorem dc_LR_isCounter_11 : decode prog_1_method_22_code 11 = .ok (.goto 4, 3) := by decide +kernel
theorem dc_LR_isCounter_14 : decode prog_1_method_22_code 14 = .ok (.iconst 0, 1) := by decide +kernel
theorem dc_LR_isCounter_15 : decode prog_1_method_22_code 15 = .ok (.ireturn, 1) := by decide +kernel
theorem dc_LR_isField_0 : decode prog_1_method_23_code 0 = .ok (.iload_n 0, 1) := by decide +kernel
theorem dc_LR_isField_1 : decode prog_1_method_23_code 1 = .ok (.iconst 1, 1) := by decide +kernel
theorem dc_LR_isField_2 : decode prog_1_method_23_code 2 = .ok (.if_icmp .lt 13, 3) := by decide +kernel
theorem dc_LR_isField_5 : decode prog_1_method_23_code 5 = .ok (.iload_n 0, 1) := by decide +kernel
theorem dc_LR_isField_6 : decode prog_1_method_23_code 6 = .ok (.bipush 30, 2) := by decide +kernel
theorem dc_LR_isField_8 : decode prog_1_method_23_code 8 = .ok (.if_icmp .gt 7, 3) := by decide +kernel
theorem dc_LR_isField_11 : decode prog_1_method_23_code 11 = .ok (.iconst 1, 1) := by decide +kernel
theorem dc_LR_isField_12 : decode prog_1_method_23_code 12 = .ok (.goto 4, 3) := by decide +kernel
theorem dc_LR_isField_15 : decode prog_1_method_23_code 15 = .ok (.iconst 0, 1) := by decide +kernel
theorem dc_LR_isField_16 : decode prog_1_method_23_code 16 = .ok (.ireturn, 1) := by decide +kernel
theorem dc_LR_isPattern_0 : decode prog_1_method_24_code 0 = .ok (.iload_n 0, 1) := by decide +kernel
theorem dc_LR_isPattern_1 : decode prog_1_method_24_code 1 = .ok (.tableswitch 75 0 6 #[43, 45, 50, 70, 70, 43, 43], 43) := by decide +kernel
theorem dc_LR_isPattern_44 : decode prog_1_method_24_code 44 = .ok (.iconst 1, 1) := by decide +kernel
theorem dc_LR_isPattern_45 : decode prog_1_method_24_code 45 = .ok (.ireturn, 1) := by decide +kernel
theorem dc_LR_isPattern_46 : decode prog_1_method_24_code 46 = .ok (.iload_n 1, 1) := by decide +kernel
theorem dc_LR_isPattern_47 : decode prog_1_method_24_code 47 = .ok (.invokestatic 98, 3) := by decide +kernel
theorem dc_LR_isPattern_50 : decode prog_1_method_24_code 50 = .ok (.ireturn, 1) := by decide +kernel
theorem dc_LR_isPattern_51 : decode prog_1_method_24_code 51 = .ok (.iload_n 1, 1) := by decide +kernel
theorem dc_LR_isPattern_52 : decode prog_1_method_24_code 52 = .ok (.invokestatic 98, 3) := by decide +kernel
theorem dc_LR_isPattern_55 : decode prog_1_method_24_code 55 = .ok (.ifCond .eq 14, 3) := by decide +kernel
theorem dc_LR_isPattern_58 : decode prog_1_method_24_code 58 = .ok (.iload_n 2, 1) := by decide +kernel
theorem dc_LR_isPattern_59 : decode prog_1_method_24_code 59 = .ok (.invokestatic 236, 3) := by decide +kernel
theorem dc_LR_isPattern_62 : decode prog_1_method_24_code 62 = .ok (.ifCond .eq 7, 3) := by decide +kernel
theorem dc_LR_isPattern_65 : decode prog_1_method_24_code 65 = .ok (.iconst 1, 1) := by decide +kernel
theorem dc_LR_isPattern_66 : decode prog_1_method_24_code 66 = .ok (.goto 4, 3) := by decide +kernel
theorem dc_LR_isPattern_69 : decode prog_1_method_24_code 69 = .ok (.iconst 0, 1) := by decide +kernel
theorem dc_LR_isPattern_70 : decode prog_1_method_24_code 70 = .ok (.ireturn, 1) := by decide +kernel
theorem dc_LR_isPattern_71 : decode prog_1_method_24_code 71 = .ok (.iload_n 1, 1) := by decide +kernel
theorem dc_LR_isPattern_72 : decode prog_1_method_24_code 72 = .ok (.invokestatic 236, 3) := by decide +kernel
theorem dc_LR_isPattern_75 : decode prog_1_method_24_code 75 = .ok (.ireturn, 1) := by decide +kernel
theorem dc_LR_isPattern_76 : decode prog_1_method_24_code 76 = .ok (.iconst 0, 1) := by decide +kernel
theorem dc_LR_isPattern_77 : decode prog_1_method_24_code 77 = .ok (.ireturn, 1) := by decide +kernel
theorem dc_LR_isAction_0 : decode prog_1_method_25_code 0 = .ok (.iload_n 0, 1) := by decide +kernel
theorem dc_LR_isAction_1 : decode prog_1_method_25_code 1 = .ok (.tableswitch 144 0 12 #[67, 69, 74, 69, 94, 74, 114, 114, 134, 139, 67, 139, 139], 67) := by decide +kernel
theorem dc_LR_isAction_68 : decode prog_1_method_25_code 68 = .ok (.iconst 1, 1) := by decide +kernel
theorem dc_LR_isAction_69 : decode prog_1_method_25_code 69 = .ok (.ireturn, 1) := by decide +kernel
theorem dc_LR_isAction_70 : decode prog_1_method_25_code 70 = .ok (.iload_n 1, 1) := by decide +kernel
theorem dc_LR_isAction_71 : decode prog_1_method_25_code 71 = .ok (.invokestatic 236, 3) := by decide +kernel
theorem dc_LR_isAction_74 : decode prog_1_method_25_code 74 = .ok (.ireturn, 1) := by decide +kernel
theorem dc_LR_isAction_75 : decode prog_1_method_25_code 75 = .ok (.iload_n 1, 1) := by decide +kernel
theorem dc_LR_isAction_76 : decode prog_1_method_25_code 76 = .ok (.invokestatic 236, 3) := by decide +kernel
theorem dc_LR_isAction_79 : decode prog_1_method_25_code 79 = .ok (.ifCond .eq 14, 3) := by decide +kernel
theorem dc_LR_isAction_82 : decode prog_1_method_25_code 82 = .ok (.iload_n 2, 1) := by decide +kernel
theorem dc_LR_isAction_83 : decode prog_1_method_25_code 83 = .ok (.invokestatic 213, 3) := by decide +kernel
theorem dc_LR_isAction_86 : decode prog_1_method_25_code 86 = .ok (.ifCond .eq 7, 3) := by decide +kernel
theorem dc_LR_isAction_89 : decode prog_1_method_25_code 89 = .ok (.iconst 1, 1) := by decide +kernel
theorem dc_LR_isAction_90 : decode prog_1_method_25_code 90 = .ok (.goto 4, 3) := by decide +kernel
theorem dc_LR_isAction_93 : decode prog_1_method_25_code 93 = .ok (.iconst 0, 1) := by decide +kernel
theorem dc_LR_isAction_94 : decode prog_1_method_25_code 94 = .ok (.ireturn, 1) := by decide +kernel
theorem dc_LR_isAction_95 : decode prog_1_method_25_code 95 = .ok (.iload_n 1, 1) := by decide +kernel
theorem dc_LR_isAction_96 : decode prog_1_method_25_code 96 = .ok (.invokestatic 236, 3) := by decide +kernel
theorem dc_LR_isAction_99 : decode prog_1_method_25_code 99 = .ok (.ifCond .eq 14, 3) := by decide +kernel
theorem dc_LR_isAction_102 : decode prog_1_method_25_code 102 = .ok (.iload_n 2, 1) := by decide +kernel
theorem dc_LR_isAction_103 : decode prog_1_method_25_code 103 = .ok (.invokestatic 236, 3) := by decide +kernel
theorem dc_LR_isAction_106 : decode prog_1_method_25_code 106 = .ok (.ifCond .eq 7, 3) := by decide +kernel
theorem dc_LR_isAction_109 : decode prog_1_method_25_code 109 = .ok (.iconst 1, 1) := by decide +kernel
theorem dc_LR_isAction_110 : decode prog_1_method_25_code 110 = .ok (.goto 4, 3) := by decide +kernel
theorem dc_LR_isAction_113 : decode prog_1_method_25_code 113 = .ok (.iconst 0, 1) := by decide +kernel
theorem dc_LR_isAction_114 : decode prog_1_method_25_code 114 = .ok (.ireturn, 1) := by decide +kernel
theorem dc_LR_isAction_115 : decode prog_1_method_25_code 115 = .ok (.iload_n 1, 1) := by decide +kernel
theorem dc_LR_isAction_116 : decode prog_1_method_25_code 116 = .ok (.invokestatic 98, 3) := by decide +kernel
theorem dc_LR_isAction_119 : decode prog_1_method_25_code 119 = .ok (.ifCond .eq 14, 3) := by decide +kernel
theorem dc_LR_isAction_122 : decode prog_1_method_25_code 122 = .ok (.iload_n 2, 1) := by decide +kernel
theorem dc_LR_isAction_123 : decode prog_1_method_25_code 123 = .ok (.invokestatic 117, 3) := by decide +kernel
theorem dc_LR_isAction_126 : decode prog_1_method_25_code 126 = .ok (.ifCond .eq 7, 3) := by decide +kernel
theorem dc_LR_isAction_129 : decode prog_1_method_25_code 129 = .ok (.iconst 1, 1) := by decide +kernel
theorem dc_LR_isAction_130 : decode prog_1_method_25_code 130 = .ok (.goto 4, 3) := by decide +kernel
theorem dc_LR_isAction_133 : decode prog_1_method_25_code 133 = .ok (.iconst 0, 1) := by decide +kernel
theorem dc_LR_isAction_134 : decode prog_1_method_25_code 134 = .ok (.ireturn, 1) := by decide +kernel
theorem dc_LR_isAction_135 : decode prog_1_method_25_code 135 = .ok (.iload_n 1, 1) := by decide +kernel
theorem dc_LR_isAction_136 : decode prog_1_method_25_code 136 = .ok (.invokestatic 98, 3) := by decide +kernel
theorem dc_LR_isAction_139 : decode prog_1_method_25_code 139 = .ok (.ireturn, 1) := by decide +kernel
theorem dc_LR_isAction_140 : decode prog_1_method_25_code 140 = .ok (.iload_n 1, 1) := by decide +kernel
theorem dc_LR_isAction_141 : decode prog_1_method_25_code 141 = .ok (.invokestatic 213, 3) := by decide +kernel
theorem dc_LR_isAction_144 : decode prog_1_method_25_code 144 = .ok (.ireturn, 1) := by decide +kernel
theorem dc_LR_isAction_145 : decode prog_1_method_25_code 145 = .ok (.iconst 0, 1) := by decide +kernel
theorem dc_LR_isAction_146 : decode prog_1_method_25_code 146 = .ok (.ireturn, 1) := by decide +kernel
theorem dc_LR_hasPattern_0 : decode prog_1_method_26_code 0 = .ok (.aload_n 1, 1) := by decide +kernel
theorem dc_LR_hasPattern_1 : decode prog_1_method_26_code 1 = .ok (.getfield 239, 3) := by decide +kernel
theorem dc_LR_hasPattern_4 : decode prog_1_method_26_code 4 = .ok (.istore_n 2, 1) := by decide +kernel
theorem dc_LR_hasPattern_5 : decode prog_1_method_26_code 5 = .ok (.aload_n 1, 1) := by decide +kernel
theorem dc_LR_hasPattern_6 : decode prog_1_method_26_code 6 = .ok (.getfield 242, 3) := by decide +kernel
theorem dc_LR_hasPattern_9 : decode prog_1_method_26_code 9 = .ok (.istore_n 3, 1) := by decide +kernel
theorem dc_LR_hasPattern_10 : decode prog_1_method_26_code 10 = .ok (.aload_n 1, 1) := by decide +kernel
theorem dc_LR_hasPattern_11 : decode prog_1_method_26_code 11 = .ok (.getfield 245, 3) := by decide +kernel
theorem dc_LR_hasPattern_14 : decode prog_1_method_26_code 14 = .ok (.tableswitch 174 1 6 #[38, 65, 93, 114, 135, 157], 38) := by decide +kernel
theorem dc_LR_hasPattern_52 : decode prog_1_method_26_code 52 = .ok (.aload_n 0, 1) := by decide +kernel
theorem dc_LR_hasPattern_53 : decode prog_1_method_26_code 53 = .ok (.getfield 24, 3) := by decide +kernel
theorem dc_LR_hasPattern_56 : decode prog_1_method_26_code 56 = .ok (.iload_n 2, 1) := by decide +kernel
theorem dc_LR_hasPattern_57 : decode prog_1_method_26_code 57 = .ok (.aaload, 1) := by decide +kernel
theorem dc_LR_hasPattern_58 : decode prog_1_method_26_code 58 = .ok (.aload_n 0, 1) := by decide +kernel
theorem dc_LR_hasPattern_59 : decode prog_1_method_26_code 59 = .ok (.getfield 44, 3) := by decide +kernel
theorem dc_LR_hasPattern_62 : decode prog_1_method_26_code 62 = .ok (.getfield 192, 3) := by decide +kernel
theorem dc_LR_hasPattern_65 : decode prog_1_method_26_code 65 = .ok (.iconst 0, 1) := by decide +kernel
theorem dc_LR_hasPattern_66 : decode prog_1_method_26_code 66 = .ok (.invokevirtual 180, 3) := by decide +kernel
theorem dc_LR_hasPattern_69 : decode prog_1_method_26_code 69 = .ok (.iconst (-1), 1) := by decide +kernel
theorem dc_LR_hasPattern_70 : decode prog_1_method_26_code 70 = .ok (.if_icmp .eq 7, 3) := by decide +kernel
theorem dc_LR_hasPattern_73 : decode prog_1_method_26_code 73 = .ok (.iconst 1, 1) := by decide +kernel
theorem dc_LR_hasPattern_74 : decode prog_1_method_26_code 74 = .ok (.goto 4, 3) := by decide +kernel
theorem dc_LR_hasPattern_77 : decode prog_1_method_26_code 77 = .ok (.iconst 0, 1) := by decide +kernel
theorem dc_LR_hasPattern_78 : decode prog_1_method_26_code 78 = .ok (.ireturn, 1) := by decide +kernel
theorem dc_LR_hasPattern_79 : decode prog_1_method_26_code 79 = .ok (.aload_n 0, 1) := by decide +kernel
theorem dc_LR_hasPattern_80 : decode prog_1_method_26_code 80 = .ok (.getfield 24, 3) := by decide +kernel
theorem dc_LR_hasPattern_83 : decode prog_1_method_26_code 83 = .ok (.iload_n 2, 1) := by decide +kernel
theorem dc_LR_hasPattern_84 : decode prog_1_method_26_code 84 = .ok (.aaload, 1) := by decide +kernel
theorem dc_LR_hasPattern_85 : decode prog_1_method_26_code 85 = .ok (.aload_n 0, 1) := by decide +kernel
theorem dc_LR_hasPattern_86 : decode prog_1_method_26_code 86 = .ok (.getfield 44, 3) := by decide +kernel
theorem dc_LR_hasPattern_89 : decode prog_1_method_26_code 89 = .ok (.iload_n 3, 1) := by decide +kernel
theorem dc_LR_hasPattern_90 : decode prog_1_method_26_code 90 = .ok (.invokevirtual 195, 3) := by decide +kernel
theorem dc_LR_hasPattern_93 : decode prog_1_method_26_code 93 = .ok (.iconst 0, 1) := by decide +kernel
theorem dc_LR_hasPattern_94 : decode prog_1_method_26_code 94 = .ok (.invokevirtual 180, 3) := by decide +kernel
theorem dc_LR_hasPattern_97 : decode prog_1_method_26_code 97 = .ok (.iconst (-1), 1) := by decide +kernel
theorem dc_LR_hasPattern_98 : decode prog_1_method_26_code 98 = .ok (.if_icmp .eq 7, 3) := by decide +kernel
theorem dc_LR_hasPattern_101 : decode prog_1_method_26_code 101 = .ok (.iconst 1, 1) := by decide +kernel
theorem dc_LR_hasPattern_102 : decode prog_1_method_26_code 102 = .ok (.goto 4, 3) := by decide +kernel
theorem dc_LR_hasPattern_105 : decode prog_1_method_26_code 105 = .ok (.iconst 0, 1) := by decide +kernel
theorem dc_LR_hasPattern_106 : decode prog_1_method_26_code 106 = .ok (.ireturn, 1) := by decide +kernel
theorem dc_LR_hasPattern_107 : decode prog_1_method_26_code 107 = .ok (.aload_n 0, 1) := by decide +kernel
theorem dc_LR_hasPattern_108 : decode prog_1_method_26_code 108 = .ok (.getfield 44, 3) := by decide +kernel
theorem dc_LR_hasPattern_111 : decode prog_1_method_26_code 111 = .ok (.iload_n 2, 1) := by decide +kernel
theorem dc_LR_hasPattern_112 : decode prog_1_method_26_code 112 = .ok (.invokevirtual 195, 3) := by decide +kernel
theorem dc_LR_hasPattern_115 : decode prog_1_method_26_code 115 = .ok (.invokevirtual 248, 3) := by decide +kernel
theorem dc_LR_hasPattern_118 : decode prog_1_method_26_code 118 = .ok (.iload_n 3, 1) := by decide +kernel
theorem dc_LR_hasPattern_119 : decode prog_1_method_26_code 119 = .ok (.if_icmp .ge 7, 3) := by decide +kernel
theorem dc_LR_hasPattern_122 : decode prog_1_method_26_code 122 = .ok (.iconst 1, 1) := by decide +kernel
theorem dc_LR_hasPattern_123 : decode prog_1_method_26_code 123 = .ok (.goto 4, 3) := by decide +kernel
theorem dc_LR_hasPattern_126 : decode prog_1_method_26_code 126 = .ok (.iconst 0, 1) := by decide +kernel
theorem dc_LR_hasPattern_127 : decode prog_1_method_26_code 127 = .ok (.ireturn, 1) := by decide +kernel
theorem dc_LR_hasPattern_128 : decode prog_1_method_26_code 128 = .ok (.aload_n 0, 1) := by decide +kernel
theorem dc_LR_hasPattern_129 : decode prog_1_method_26_code 129 = .ok (.getfield 44, 3) := by decide +kernel
theorem dc_LR_hasPattern_132 : decode prog_1_method_26_code 132 = .ok (.iload_n 2, 1) := by decide +kernel
theorem dc_LR_hasPattern_133 : decode prog_1_method_26_code 133 = .ok (.invokevirtual 195, 3) := by decide +kernel
theorem dc_LR_hasPattern_136 : decode prog_1_method_26_code 136 = .ok (.invokevirtual 248, 3) := by decide +kernel
theorem dc_LR_hasPattern_139 : decode prog_1_method_26_code 139 = .ok (.iload_n 3, 1) := by decide +kernel
theorem dc_LR_hasPattern_140 : decode prog_1_method_26_code 140 = .ok (.if_icmp .ne 7, 3) := by decide +kernel
theorem dc_LR_hasPattern_143 : decode prog_1_method_26_code 143 = .ok (.iconst 1, 1) := by decide +kernel
theorem dc_LR_hasPattern_144 : decode prog_1_method_26_code 144 = .ok (.goto 4, 3) := by decide +kernel
theorem dc_LR_hasPattern_147 : decode prog_1_method_26_code 147 = .ok (.iconst 0, 1) := by decide +kernel
theorem dc_LR_hasPattern_148 : decode prog_1_method_26_code 148 = .ok (.ireturn, 1) := by decide +kernel
theorem dc_LR_hasPattern_149 : decode prog_1_method_26_code 149 = .ok (.aload_n 0, 1) := by decide +kernel
theorem dc_LR_hasPattern_150 : decode prog_1_method_26_code 150 = .ok (.getfield 168, 3) := by decide +kernel
theorem dc_LR_hasPattern_153 : decode prog_1_method_26_code 153 = .ok (.iload_n 2, 1) := by decide +kernel
theorem dc_LR_hasPattern_154 : decode prog_1_method_26_code 154 = .ok (.if_icmp .lt 15, 3) := by decide +kernel
theorem dc_LR_hasPattern_157 : decode prog_1_method_26_code 157 = .ok (.aload_n 0, 1) := by decide +kernel
theorem dc_LR_hasPattern_158 : decode prog_1_method_26_code 158 = .ok (.getfield 168, 3) := by decide +kernel
theorem dc_LR_hasPattern_161 : decode prog_1_method_26_code 161 = .ok (.iload_n 3, 1) := by decide +kernel
theorem dc_LR_hasPattern_162 : decode prog_1_method_26_code 162 = .ok (.if_icmp .gt 7, 3) := by decide +kernel
theorem dc_LR_hasPattern_165 : decode prog_1_method_26_code 165 = .ok (.iconst 1, 1) := by decide +kernel
theorem dc_LR_hasPattern_166 : decode prog_1_method_26_code 166 = .ok (.goto 4, 3) := by decide +kernel
theorem dc_LR_hasPattern_169 : decode prog_1_method_26_code 169 = .ok (.iconst 0, 1) := by decide +kernel
theorem dc_LR_hasPattern_170 : decode prog_1_method_26_code 170 = .ok (.ireturn, 1) := by decide +kernel
theorem dc_LR_hasPattern_171 : decode prog_1_method_26_code 171 = .ok (.aload_n 0, 1) := by decide +kernel
theorem dc_LR_hasPattern_172 : decode prog_1_method_26_code 172 = .ok (.getfield 44, 3) := by decide +kernel
theorem dc_LR_hasPattern_175 : decode prog_1_method_26_code 175 = .ok (.getfield 187, 3) := by decide +kernel
theorem dc_LR_hasPattern_178 : decode prog_1_method_26_code 178 = .ok (.iload_n 2, 1) := by decide +kernel
theorem dc_LR_hasPattern_179 : decode prog_1_method_26_code 179 = .ok (.if_icmp .le 7, 3) := by decide +kernel
theorem dc_LR_hasPattern_182 : decode prog_1_method_26_code 182 = .ok (.iconst 1, 1) := by decide +kernel
theorem dc_LR_hasPattern_183 : decode prog_1_method_26_code 183 = .ok (.goto 4, 3) := by decide +kernel
theorem dc_LR_hasPattern_186 : decode prog_1_method_26_code 186 = .ok (.iconst 0, 1) := by decide +kernel
theorem dc_LR_hasPattern_187 : decode prog_1_method_26_code 187 = .ok (.ireturn, 1) := by decide +kernel
theorem dc_LR_hasPattern_188 : decode prog_1_method_26_code 188 = .ok (.iconst 1, 1) := by decide +kernel
theorem dc_LR_hasPattern_189 : decode prog_1_method_26_code 189 = .ok (.ireturn, 1) := by decide +kernel
theorem dc_LR_doActions_0 : decode prog_1_method_27_code 0 = .ok (.iconst 1, 1) := by decide +kernel
theorem dc_LR_doActions_1 : decode prog_1_method_27_code 1 = .ok (.istore_n 2, 1) := by decide +kernel
theorem dc_LR_doActions_2 : decode prog_1_method_27_code 2 = .ok (.iconst 0, 1) := by decide +kernel
theorem dc_LR_doActions_3 : decode prog_1_method_27_code 3 = .ok (.istore_n 3, 1) := by decide +kernel
theorem dc_LR_doActions_4 : decode prog_1_method_27_code 4 = .ok (.iload_n 3, 1) := by decide +kernel
theorem dc_LR_doActions_5 : decode prog_1_method_27_code 5 = .ok (.aload_n 1, 1) := by decide +kernel
theorem dc_LR_doActions_6 : decode prog_1_method_27_code 6 = .ok (.getfield 251, 3) := by decide +kernel
theorem dc_LR_doActions_9 : decode prog_1_method_27_code 9 = .ok (.if_icmp .ge 47, 3) := by decide +kernel
theorem dc_LR_doActions_12 : decode prog_1_method_27_code 12 = .ok (.aload_n 1, 1) := by decide +kernel
theorem dc_LR_doActions_13 : decode prog_1_method_27_code 13 = .ok (.getfield 254, 3) := by decide +kernel
theorem dc_LR_doActions_16 : decode prog_1_method_27_code 16 = .ok (.iload_n 3, 1) := by decide +kernel
theorem dc_LR_doActions_17 : decode prog_1_method_27_code 17 = .ok (.iaload, 1) := by decide +kernel
theorem dc_LR_doActions_18 : decode prog_1_method_27_code 18 = .ok (.bipush 10, 2) := by decide +kernel
theorem dc_LR_doActions_20 : decode prog_1_method_27_code 20 = .ok (.if_icmp .ne 8, 3) := by decide +kernel
theorem dc_LR_doActions_23 : decode prog_1_method_27_code 23 = .ok (.iconst 0, 1) := by decide +kernel
theorem dc_LR_doActions_24 : decode prog_1_method_27_code 24 = .ok (.istore_n 2, 1) := by decide +kernel
theorem dc_LR_doActions_25 : decode prog_1_method_27_code 25 = .ok (.goto 25, 3) := by decide +kernel
theorem dc_LR_doActions_28 : decode prog_1_method_27_code 28 = .ok (.aload_n 0, 1) := by decide +kernel
theorem dc_LR_doActions_29 : decode prog_1_method_27_code 29 = .ok (.aload_n 1, 1) := by decide +kernel
theorem dc_LR_doActions_30 : decode prog_1_method_27_code 30 = .ok (.getfield 254, 3) := by decide +kernel
theorem dc_LR_doActions_33 : decode prog_1_method_27_code 33 = .ok (.iload_n 3, 1) := by decide +kernel
theorem dc_LR_doActions_34 : decode prog_1_method_27_code 34 = .ok (.iaload, 1) := by decide +kernel
theorem dc_LR_doActions_35 : decode prog_1_method_27_code 35 = .ok (.aload_n 1, 1) := by decide +kernel
theorem dc_LR_doActions_36 : decode prog_1_method_27_code 36 = .ok (.getfield 257, 3) := by decide +kernel
theorem dc_LR_doActions_39 : decode prog_1_method_27_code 39 = .ok (.iload_n 3, 1) := by decide +kernel
theorem dc_LR_doActions_40 : decode prog_1_method_27_code 40 = .ok (.iaload, 1) := by decide +kernel
theorem dc_LR_doActions_41 : decode prog_1_method_27_code 41 = .ok (.aload_n 1, 1) := by decide +kernel
theorem dc_LR_doActions_42 : decode prog_1_method_27_code 42 = .ok (.getfield 260, 3) := by decide +kernel
theorem dc_LR_doActions_45 : decode prog_1_method_27_code 45 = .ok (.iload_n 3, 1) := by decide +kernel
theorem dc_LR_doActions_46 : decode prog_1_method_27_code 46 = .ok (.iaload, 1) := by decide +kernel
theorem dc_LR_doActions_47 : decode prog_1_method_27_code 47 = .ok (.invokevirtual 263, 3) := by decide +kernel
theorem dc_LR_doActions_50 : decode prog_1_method_27_code 50 = .ok (.iinc 3 1, 3) := by decide +kernel
theorem dc_LR_doActions_53 : decode prog_1_method_27_code 53 = .ok (.goto (-49), 3) := by decide +kernel
theorem dc_LR_doActions_56 : decode prog_1_method_27_code 56 = .ok (.iload_n 2, 1) := by decide +kernel
theorem dc_LR_doActions_57 : decode prog_1_method_27_code 57 = .ok (.ireturn, 1) := by decide +kernel
theorem dc_LR_doAction_0 : decode prog_1_method_28_code 0 = .ok (.iload_n 1, 1) := by decide +kernel
theorem dc_LR_doAction_1 : decode prog_1_method_28_code 1 = .ok (.tableswitch 331 0 12 #[67, 84, 102, 125, 144, 167, 199, 233, 268, 281, 331, 308, 318], 67) := by decide +kernel
theorem dc_LR_doAction_68 : decode prog_1_method_28_code 68 = .ok (.aload_n 0, 1) := by decide +kernel
theorem dc_LR_doAction_69 : decode prog_1_method_28_code 69 = .ok (.getfield 62, 3) := by decide +kernel
theorem dc_LR_doAction_72 : decode prog_1_method_28_code 72 = .ok (.aload_n 0, 1) := by decide +kernel
theorem dc_LR_doAction_73 : decode prog_1_method_28_code 73 = .ok (.getfield 44, 3) := by decide +kernel
theorem dc_LR_doAction_76 : decode prog_1_method_28_code 76 = .ok (.getfield 192, 3) := by decide +kernel
theorem dc_LR_doAction_79 : decode prog_1_method_28_code 79 = .ok (.invokevirtual 266, 3) := by decide +kernel
theorem dc_LR_doAction_82 : decode prog_1_method_28_code 82 = .ok (.goto 250, 3) := by decide +kernel
theorem dc_LR_doAction_85 : decode prog_1_method_28_code 85 = .ok (.aload_n 0, 1) := by decide +kernel
theorem dc_LR_doAction_86 : decode prog_1_method_28_code 86 = .ok (.getfield 62, 3) := by decide +kernel
theorem dc_LR_doAction_89 : decode prog_1_method_28_code 89 = .ok (.aload_n 0, 1) := by decide +kernel
theorem dc_LR_doAction_90 : decode prog_1_method_28_code 90 = .ok (.getfield 44, 3) := by decide +kernel
theorem dc_LR_doAction_93 : decode prog_1_method_28_code 93 = .ok (.iload_n 2, 1) := by decide +kernel
theorem dc_LR_doAction_94 : decode prog_1_method_28_code 94 = .ok (.invokevirtual 195, 3) := by decide +kernel
theorem dc_LR_doAction_97 : decode prog_1_method_28_code 97 = .ok (.invokevirtual 266, 3) := by decide +kernel
theorem dc_LR_doAction_100 : decode prog_1_method_28_code 100 = .ok (.goto 232, 3) := by decide +kernel
theorem dc_LR_doAction_103 : decode prog_1_method_28_code 103 = .ok (.aload_n 0, 1) := by decide +kernel
theorem dc_LR_doAction_104 : decode prog_1_method_28_code 104 = .ok (.getfield 48, 3) := by decide +kernel
theorem dc_LR_doAction_107 : decode prog_1_method_28_code 107 = .ok (.iload_n 3, 1) := by decide +kernel
theorem dc_LR_doAction_108 : decode prog_1_method_28_code 108 = .ok (.dup2, 1) := by decide +kernel
theorem dc_LR_doAction_109 : decode prog_1_method_28_code 109 = .ok (.iaload, 1) := by decide +kernel
theorem dc_LR_doAction_110 : decode prog_1_method_28_code 110 = .ok (.aload_n 0, 1) := by decide +kernel
theorem dc_LR_doAction_111 : decode prog_1_method_28_code 111 = .ok (.getfield 44, 3) := by decide +kernel
theorem dc_LR_doAction_114 : decode prog_1_method_28_code 114 = .ok (.iload_n 2, 1) := by decide +kernel
theorem dc_LR_doAction_115 : decode prog_1_method_28_code 115 = .ok (.invokevirtual 195, 3) := by decide +kernel
theorem dc_LR_doAction_118 : decode prog_1_method_28_code 118 = .ok (.invokevirtual 248, 3) := by decide +kernel
theorem dc_LR_doAction_121 : decode prog_1_method_28_code 121 = .ok (.iadd, 1) := by decide +kernel
theorem dc_LR_doAction_122 : decode prog_1_method_28_code 122 = .ok (.iastore, 1) := by decide +kernel
theorem dc_LR_doAction_123 : decode prog_1_method_28_code 123 = .ok (.goto 209, 3) := by decide +kernel
theorem dc_LR_doAction_126 : decode prog_1_method_28_code 126 = .ok (.aload_n 0, 1) := by decide +kernel
theorem dc_LR_doAction_127 : decode prog_1_method_28_code 127 = .ok (.getfield 55, 3) := by decide +kernel
theorem dc_LR_doAction_130 : decode prog_1_method_28_code 130 = .ok (.aload_n 0, 1) := by decide +kernel
theorem dc_LR_doAction_131 : decode prog_1_method_28_code 131 = .ok (.getfield 44, 3) := by decide +kernel
theorem dc_LR_doAction_134 : decode prog_1_method_28_code 134 = .ok (.iload_n 2, 1) := by decide +kernel
theorem dc_LR_doAction_135 : decode prog_1_method_28_code 135 = .ok (.invokevirtual 195, 3) := by decide +kernel
theorem dc_LR_doAction_138 : decode prog_1_method_28_code 138 = .ok (.iload_n 3, 1) := by decide +kernel
theorem dc_LR_doAction_139 : decode prog_1_method_28_code 139 = .ok (.invokevirtual 269, 3) := by decide +kernel
theorem dc_LR_doAction_142 : decode prog_1_method_28_code 142 = .ok (.goto 190, 3) := by decide +kernel
theorem dc_LR_doAction_145 : decode prog_1_method_28_code 145 = .ok (.aload_n 0, 1) := by decide +kernel
theorem dc_LR_doAction_146 : decode prog_1_method_28_code 146 = .ok (.getfield 44, 3) := by decide +kernel
theorem dc_LR_doAction_149 : decode prog_1_method_28_code 149 = .ok (.iload_n 2, 1) := by decide +kernel
theorem dc_LR_doAction_150 : decode prog_1_method_28_code 150 = .ok (.aload_n 0, 1) := by decide +kernel
theorem dc_LR_doAction_151 : decode prog_1_method_28_code 151 = .ok (.getfield 44, 3) := by decide +kernel
theorem dc_LR_doAction_154 : decode prog_1_method_28_code 154 = .ok (.iload_n 3, 1) := by decide +kernel
theorem dc_LR_doAction_155 : decode prog_1_method_28_code 155 = .ok (.invokevirtual 195, 3) := by decide +kernel
theorem dc_LR_doAction_158 : decode prog_1_method_28_code 158 = .ok (.aload_n 0, 1) := by decide +kernel
theorem dc_LR_doAction_159 : decode prog_1_method_28_code 159 = .ok (.getfield 69, 3) := by decide +kernel
theorem dc_LR_doAction_162 : decode prog_1_method_28_code 162 = .ok (.invokevirtual 272, 3) := by decide +kernel
theorem dc_LR_doAction_165 : decode prog_1_method_28_code 165 = .ok (.goto 167, 3) := by decide +kernel
theorem dc_LR_doAction_168 : decode prog_1_method_28_code 168 = .ok (.aload_n 0, 1) := by decide +kernel
theorem dc_LR_doAction_169 : decode prog_1_method_28_code 169 = .ok (.getfield 66, 3) := by decide +kernel
theorem dc_LR_doAction_172 : decode prog_1_method_28_code 172 = .ok (.aload_n 0, 1) := by decide +kernel
theorem dc_LR_doAction_173 : decode prog_1_method_28_code 173 = .ok (.getfield 48, 3) := by decide +kernel
theorem dc_LR_doAction_176 : decode prog_1_method_28_code 176 = .ok (.iload_n 3, 1) := by decide +kernel
theorem dc_LR_doAction_177 : decode prog_1_method_28_code 177 = .ok (.iaload, 1) := by decide +kernel
theorem dc_LR_doAction_178 : decode prog_1_method_28_code 178 = .ok (.invokevirtual 276, 3) := by decide +kernel
theorem dc_LR_doAction_181 : decode prog_1_method_28_code 181 = .ok (.aload_n 0, 1) := by decide +kernel
theorem dc_LR_doAction_182 : decode prog_1_method_28_code 182 = .ok (.getfield 44, 3) := by decide +kernel
theorem dc_LR_doAction_185 : decode prog_1_method_28_code 185 = .ok (.iload_n 2, 1) := by decide +kernel
theorem dc_LR_doAction_186 : decode prog_1_method_28_code 186 = .ok (.aload_n 0, 1) := by decide +kernel
theorem dc_LR_doAction_187 : decode prog_1_method_28_code 187 = .ok (.getfield 66, 3) := by decide +kernel
theorem dc_LR_doAction_190 : decode prog_1_method_28_code 190 = .ok (.aload_n 0, 1) := by decide +kernel
theorem dc_LR_doAction_191 : decode prog_1_method_28_code 191 = .ok (.getfield 69, 3) := by decide +kernel
theorem dc_LR_doAction_194 : decode prog_1_method_28_code 194 = .ok (.invokevirtual 272, 3) := by decide +kernel
theorem dc_LR_doAction_197 : decode prog_1_method_28_code 197 = .ok (.goto 135, 3) := by decide +kernel
theorem dc_LR_doAction_200 : decode prog_1_method_28_code 200 = .ok (.aload_n 0, 1) := by decide +kernel
theorem dc_LR_doAction_201 : decode prog_1_method_28_code 201 = .ok (.getfield 44, 3) := by decide +kernel
theorem dc_LR_doAction_204 : decode prog_1_method_28_code 204 = .ok (.aload_n 0, 1) := by decide +kernel
theorem dc_LR_doAction_205 : decode prog_1_method_28_code 205 = .ok (.getfield 24, 3) := by decide +kernel
theorem dc_LR_doAction_208 : decode prog_1_method_28_code 208 = .ok (.iload_n 2, 1) := by decide +kernel
theorem dc_LR_doAction_209 : decode prog_1_method_28_code 209 = .ok (.aaload, 1) := by decide +kernel
theorem dc_LR_doAction_210 : decode prog_1_method_28_code 210 = .ok (.aload_n 0, 1) := by decide +kernel
theorem dc_LR_doAction_211 : decode prog_1_method_28_code 211 = .ok (.getfield 18, 3) := by decide +kernel
theorem dc_LR_doAction_214 : decode prog_1_method_28_code 214 = .ok (.iload_n 3, 1) := by decide +kernel
theorem dc_LR_doAction_215 : decode prog_1_method_28_code 215 = .ok (.aaload, 1) := by decide +kernel
theorem dc_LR_doAction_216 : decode prog_1_method_28_code 216 = .ok (.iconst 1, 1) := by decide +kernel
theorem dc_LR_doAction_217 : decode prog_1_method_28_code 217 = .ok (.invokevirtual 279, 3) := by decide +kernel
theorem dc_LR_doAction_220 : decode prog_1_method_28_code 220 = .ok (.aload_n 0, 1) := by decide +kernel
theorem dc_LR_doAction_221 : decode prog_1_method_28_code 221 = .ok (.getfield 44, 3) := by decide +kernel
theorem dc_LR_doAction_224 : decode prog_1_method_28_code 224 = .ok (.aload_n 0, 1) := by decide +kernel
theorem dc_LR_doAction_225 : decode prog_1_method_28_code 225 = .ok (.getfield 69, 3) := by decide +kernel
theorem dc_LR_doAction_228 : decode prog_1_method_28_code 228 = .ok (.invokevirtual 283, 3) := by decide +kernel
theorem dc_LR_doAction_231 : decode prog_1_method_28_code 231 = .ok (.goto 101, 3) := by decide +kernel
theorem dc_LR_doAction_234 : decode prog_1_method_28_code 234 = .ok (.aload_n 0, 1) := by decide +kernel
theorem dc_LR_doAction_235 : decode prog_1_method_28_code 235 = .ok (.getfield 44, 3) := by decide +kernel
theorem dc_LR_doAction_238 : decode prog_1_method_28_code 238 = .ok (.aload_n 0, 1) := by decide +kernel
theorem dc_LR_doAction_239 : decode prog_1_method_28_code 239 = .ok (.getfield 24, 3) := by decide +kernel
theorem dc_LR_doAction_242 : decode prog_1_method_28_code 242 = .ok (.iload_n 2, 1) := by decide +kernel
theorem dc_LR_doAction_243 : decode prog_1_method_28_code 243 = .ok (.aaload, 1) := by decide +kernel
theorem dc_LR_doAction_244 : decode prog_1_method_28_code 244 = .ok (.aload_n 0, 1) := by decide +kernel
theorem dc_LR_doAction_245 : decode prog_1_method_28_code 245 = .ok (.getfield 18, 3) := by decide +kernel
theorem dc_LR_doAction_248 : decode prog_1_method_28_code 248 = .ok (.iload_n 3, 1) := by decide +kernel
theorem dc_LR_doAction_249 : decode prog_1_method_28_code 249 = .ok (.aaload, 1) := by decide +kernel
theorem dc_LR_doAction_250 : decode prog_1_method_28_code 250 = .ok (.bipush 121, 2) := by decide +kernel
theorem dc_LR_doAction_252 : decode prog_1_method_28_code 252 = .ok (.invokevirtual 279, 3) := by decide +kernel
theorem dc_LR_doAction_255 : decode prog_1_method_28_code 255 = .ok (.aload_n 0, 1) := by decide +kernel
theorem dc_LR_doAction_256 : decode prog_1_method_28_code 256 = .ok (.getfield 44, 3) := by decide +kernel
theorem dc_LR_doAction_259 : decode prog_1_method_28_code 259 = .ok (.aload_n 0, 1) := by decide +kernel
theorem dc_LR_doAction_260 : decode prog_1_method_28_code 260 = .ok (.getfield 69, 3) := by decide +kernel
theorem dc_LR_doAction_263 : decode prog_1_method_28_code 263 = .ok (.invokevirtual 283, 3) := by decide +kernel
theorem dc_LR_doAction_266 : decode prog_1_method_28_code 266 = .ok (.goto 66, 3) := by decide +kernel
theorem dc_LR_doAction_269 : decode prog_1_method_28_code 269 = .ok (.aload_n 0, 1) := by decide +kernel
theorem dc_LR_doAction_270 : decode prog_1_method_28_code 270 = .ok (.aload_n 0, 1) := by decide +kernel
theorem dc_LR_doAction_271 : decode prog_1_method_28_code 271 = .ok (.getfield 24, 3) := by decide +kernel
theorem dc_LR_doAction_274 : decode prog_1_method_28_code 274 = .ok (.iload_n 2, 1) := by decide +kernel
theorem dc_LR_doAction_275 : decode prog_1_method_28_code 275 = .ok (.aaload, 1) := by decide +kernel
theorem dc_LR_doAction_276 : decode prog_1_method_28_code 276 = .ok (.invokevirtual 286, 3) := by decide +kernel
theorem dc_LR_doAction_279 : decode prog_1_method_28_code 279 = .ok (.goto 53, 3) := by decide +kernel
theorem dc_LR_doAction_282 : decode prog_1_method_28_code 282 = .ok (.aload_n 0, 1) := by decide +kernel
theorem dc_LR_doAction_283 : decode prog_1_method_28_code 283 = .ok (.getfield 66, 3) := by decide +kernel
theorem dc_LR_doAction_286 : decode prog_1_method_28_code 286 = .ok (.aload_n 0, 1) := by decide +kernel
theorem dc_LR_doAction_287 : decode prog_1_method_28_code 287 = .ok (.getfield 48, 3) := by decide +kernel
theorem dc_LR_doAction_290 : decode prog_1_method_28_code 290 = .ok (.iload_n 2, 1) := by decide +kernel
theorem dc_LR_doAction_291 : decode prog_1_method_28_code 291 = .ok (.iaload, 1) := by decide +kernel
theorem dc_LR_doAction_292 : decode prog_1_method_28_code 292 = .ok (.invokevirtual 276, 3) := by decide +kernel
theorem dc_LR_doAction_295 : decode prog_1_method_28_code 295 = .ok (.aload_n 0, 1) := by decide +kernel
theorem dc_LR_doAction_296 : decode prog_1_method_28_code 296 = .ok (.getfield 62, 3) := by decide +kernel
theorem dc_LR_doAction_299 : decode prog_1_method_28_code 299 = .ok (.aload_n 0, 1) := by decide +kernel
theorem dc_LR_doAction_300 : decode prog_1_method_28_code 300 = .ok (.getfield 66, 3) := by decide +kernel
theorem dc_LR_doAction_303 : decode prog_1_method_28_code 303 = .ok (.invokevirtual 266, 3) := by decide +kernel
theorem dc_LR_doAction_306 : decode prog_1_method_28_code 306 = .ok (.goto 26, 3) := by decide +kernel
theorem dc_LR_doAction_309 : decode prog_1_method_28_code 309 = .ok (.aload_n 0, 1) := by decide +kernel
theorem dc_LR_doAction_310 : decode prog_1_method_28_code 310 = .ok (.getfield 48, 3) := by decide +kernel
theorem dc_LR_doAction_313 : decode prog_1_method_28_code 313 = .ok (.iload_n 2, 1) := by decide +kernel
theorem dc_LR_doAction_314 : decode prog_1_method_28_code 314 = .ok (.iload_n 3, 1) := by decide +kernel
theorem dc_LR_doAction_315 : decode prog_1_method_28_code 315 = .ok (.iastore, 1) := by decide +kernel
theorem dc_LR_doAction_316 : decode prog_1_method_28_code 316 = .ok (.goto 16, 3) := by decide +kernel
theorem dc_LR_doAction_319 : decode prog_1_method_28_code 319 = .ok (.aload_n 0, 1) := by decide +kernel
theorem dc_LR_doAction_320 : decode prog_1_method_28_code 320 = .ok (.getfield 48, 3) := by decide +kernel
theorem dc_LR_doAction_323 : decode prog_1_method_28_code 323 = .ok (.iload_n 2, 1) := by decide +kernel
theorem dc_LR_doAction_324 : decode prog_1_method_28_code 324 = .ok (.aload_n 0, 1) := by decide +kernel
theorem dc_LR_doAction_325 : decode prog_1_method_28_code 325 = .ok (.getfield 168, 3) := by decide +kernel
theorem dc_LR_doAction_328 : decode prog_1_method_28_code 328 = .ok (.iastore, 1) := by decide +kernel
theorem dc_LR_doAction_329 : decode prog_1_method_28_code 329 = .ok (.goto 3, 3) := by decide +kernel
theorem dc_LR_doAction_332 : decode prog_1_method_28_code 332 = .ok (.return_, 1) := by decide +kernel
theorem dc_LR_printMatch_0 : decode prog_1_method_29_code 0 = .ok (.aload_n 1, 1) := by decide +kernel
theorem dc_LR_printMatch_1 : decode prog_1_method_29_code 1 = .ok (.aload_n 0, 1) := by decide +kernel
theorem dc_LR_printMatch_2 : decode prog_1_method_29_code 2 = .ok (.getfield 44, 3) := by decide +kernel
theorem dc_LR_printMatch_5 : decode prog_1_method_29_code 5 = .ok (.getfield 192, 3) := by decide +kernel
theorem dc_LR_printMatch_8 : decode prog_1_method_29_code 8 = .ok (.iconst 0, 1) := by decide +kernel
theorem dc_LR_printMatch_9 : decode prog_1_method_29_code 9 = .ok (.invokevirtual 180, 3) := by decide +kernel
theorem dc_LR_printMatch_12 : decode prog_1_method_29_code 12 = .ok (.istore_n 2, 1) := by decide +kernel
theorem dc_LR_printMatch_13 : decode prog_1_method_29_code 13 = .ok (.iload_n 2, 1) := by decide +kernel
theorem dc_LR_printMatch_14 : decode prog_1_method_29_code 14 = .ok (.iconst (-1), 1) := by decide +kernel
theorem dc_LR_printMatch_15 : decode prog_1_method_29_code 15 = .ok (.if_icmp .eq 30, 3) := by decide +kernel
theorem dc_LR_printMatch_18 : decode prog_1_method_29_code 18 = .ok (.aload_n 0, 1) := by decide +kernel
theorem dc_LR_printMatch_19 : decode prog_1_method_29_code 19 = .ok (.getfield 62, 3) := by decide +kernel
theorem dc_LR_printMatch_22 : decode prog_1_method_29_code 22 = .ok (.aload_n 0, 1) := by decide +kernel
theorem dc_LR_printMatch_23 : decode prog_1_method_29_code 23 = .ok (.getfield 44, 3) := by decide +kernel
theorem dc_LR_printMatch_26 : decode prog_1_method_29_code 26 = .ok (.getfield 192, 3) := by decide +kernel
theorem dc_LR_printMatch_29 : decode prog_1_method_29_code 29 = .ok (.iload_n 2, 1) := by decide +kernel
theorem dc_LR_printMatch_30 : decode prog_1_method_29_code 30 = .ok (.aload_n 1, 1) := by decide +kernel
theorem dc_LR_printMatch_31 : decode prog_1_method_29_code 31 = .ok (.aload_n 0, 1) := by decide +kernel
theorem dc_LR_printMatch_32 : decode prog_1_method_29_code 32 = .ok (.getfield 44, 3) := by decide +kernel
theorem dc_LR_printMatch_35 : decode prog_1_method_29_code 35 = .ok (.getfield 192, 3) := by decide +kernel
theorem dc_LR_printMatch_38 : decode prog_1_method_29_code 38 = .ok (.iload_n 2, 1) := by decide +kernel
theorem dc_LR_printMatch_39 : decode prog_1_method_29_code 39 = .ok (.invokevirtual 184, 3) := by decide +kernel
theorem dc_LR_printMatch_42 : decode prog_1_method_29_code 42 = .ok (.invokevirtual 290, 3) := by decide +kernel
theorem dc_LR_printMatch_45 : decode prog_1_method_29_code 45 = .ok (.return_, 1) := by decide +kernel
end
section
theorem dc_Mod_init_0 : decode prog_10_method_1_code 0 = .ok (.aload_n 0, 1) := by decide +kernel
theorem dc_Mod_init_1 : decode prog_10_method_1_code 1 = .ok (.invokespecial 1, 3) := by decide +kernel
theorem dc_Mod_init_4 : decode prog_10_method_1_code 4 = .ok (.aload_n 0, 1) := by decide +kernel
theorem dc_Mod_init_5 : decode prog_10_method_1_code 5 = .ok (.sipush 1080, 3) := by decide +kernel
theorem dc_Mod_init_8 : decode prog_10_method_1_code 8 = .ok (.newarray .int, 2) := by decide +kernel
theorem dc_Mod_init_10 : decode prog_10_method_1_code 10 = .ok (.putfield 7, 3) := by decide +kernel
theorem dc_Mod_init_13 : decode prog_10_method_1_code 13 = .ok (.aload_n 0, 1) := by decide +kernel
theorem dc_Mod_init_14 : decode prog_10_method_1_code 14 = .ok (.bipush 9, 2) := by decide +kernel
theorem dc_Mod_init_16 : decode prog_10_method_1_code 16 = .ok (.newarray .int, 2) := by decide +kernel
theorem dc_Mod_init_18 : decode prog_10_method_1_code 18 = .ok (.putfield 13, 3) := by decide +kernel
theorem dc_Mod_init_21 : decode prog_10_method_1_code 21 = .ok (.aload_n 0, 1) := by decide +kernel
theorem dc_Mod_init_22 : decode prog_10_method_1_code 22 = .ok (.sipush 360, 3) := by decide +kernel
theorem dc_Mod_init_25 : decode prog_10_method_1_code 25 = .ok (.newarray .int, 2) := by decide +kernel
theorem dc_Mod_init_27 : decode prog_10_method_1_code 27 = .ok (.putfield 16, 3) := by decide +kernel
theorem dc_Mod_init_30 : decode prog_10_method_1_code 30 = .ok (.aload_n 0, 1) := by decide +kernel
theorem dc_Mod_init_31 : decode prog_10_method_1_code 31 = .ok (.bipush 6, 2) := by decide +kernel
theorem dc_Mod_init_33 : decode prog_10_method_1_code 33 = .ok (.newarray .int, 2) := by decide +kernel
theorem dc_Mod_init_35 : decode prog_10_method_1_code 35 = .ok (.putfield 19, 3) := by decide +kernel
theorem dc_Mod_init_38 : decode prog_10_method_1_code 38 = .ok (.aload_n 0, 1) := by decide +kernel
theorem dc_Mod_init_39 : decode prog_10_method_1_code 39 = .ok (.bipush 32, 2) := by decide +kernel
theorem dc_Mod_init_41 : decode prog_10_method_1_code 41 = .ok (.putfield 22, 3) := by decide +kernel
theorem dc_Mod_init_44 : decode prog_10_method_1_code 44 = .ok (.aload_n 0, 1) := by decide +kernel
theorem dc_Mod_init_45 : decode prog_10_method_1_code 45 = .ok (.bipush 12, 2) := by decide +kernel
theorem dc_Mod_init_47 : decode prog_10_method_1_code 47 = .ok (.newarray .int, 2) := by decide +kernel
theorem dc_Mod_init_49 : decode prog_10_method_1_code 49 = .ok (.putfield 26, 3) := by decide +kernel
theorem dc_Mod_init_52 : decode prog_10_method_1_code 52 = .ok (.aload_n 0, 1) := by decide +kernel
theorem dc_Mod_init_53 : decode prog_10_method_1_code 53 = .ok (.bipush 12, 2) := by decide +kernel
theorem dc_Mod_init_55 : decode prog_10_method_1_code 55 = .ok (.newarray .int, 2) := by decide +kernel
theorem dc_Mod_init_57 : decode prog_10_method_1_code 57 = .ok (.putfield 29, 3) := by decide +kernel
theorem dc_Mod_init_60 : decode prog_10_method_1_code 60 = .ok (.aload_n 0, 1) := by decide +kernel
theorem dc_Mod_init_61 : decode prog_10_method_1_code 61 = .ok (.bipush 12, 2) := by decide +kernel
theorem dc_Mod_init_63 : decode prog_10_method_1_code 63 = .ok (.newarray .int, 2) := by decide +kernel
theorem dc_Mod_init_65 : decode prog_10_method_1_code 65 = .ok (.putfield 32, 3) := by decide +kernel
theorem dc_Mod_init_68 : decode prog_10_method_1_code 68 = .ok (.aload_n 0, 1) := by decide +kernel
theorem dc_Mod_init_69 : decode prog_10_method_1_code 69 = .ok (.bipush 12, 2) := by decide +kernel
theorem dc_Mod_init_71 : decode prog_10_method_1_code 71 = .ok (.newarray .int, 2) := by decide +kernel
theorem dc_Mod_init_73 : decode prog_10_method_1_code 73 = .ok (.putfield 35, 3) := by decide +kernel
theorem dc_Mod_init_76 : decode prog_10_method_1_code 76 = .ok (.aload_n 0, 1) := by decide +kernel
theorem dc_Mod_init_77 : decode prog_10_method_1_code 77 = .ok (.bipush 120, 2) := by decide +kernel
theorem dc_Mod_init_79 : decode prog_10_method_1_code 79 = .ok (.newarray .int, 2) := by decide +kernel
theorem dc_Mod_init_81 : decode prog_10_method_1_code 81 = .ok (.putfield 38, 3) := by decide +kernel
theorem dc_Mod_init_84 : decode prog_10_method_1_code 84 = .ok (.aload_n 0, 1) := by decide +kernel
theorem dc_Mod_init_85 : decode prog_10_method_1_code 85 = .ok (.bipush 120, 2) := by decide +kernel
theorem dc_Mod_init_87 : decode prog_10_method_1_code 87 = .ok (.newarray .int, 2) := by decide +kernel
theorem dc_Mod_init_89 : decode prog_10_method_1_code 89 = .ok (.putfield 41, 3) := by decide +kernel
theorem dc_Mod_init_92 : decode prog_10_method_1_code 92 = .ok (.aload_n 0, 1) := by decide +kernel
theorem dc_Mod_init_93 : decode prog_10_method_1_code 93 = .ok (.bipush 120, 2) := by decide +kernel
theorem dc_Mod_init_95 : decode prog_10_method_1_code 95 = .ok (.newarray .int, 2) := by decide +kernel
theorem dc_Mod_init_97 : decode prog_10_method_1_code 97 = .ok (.putfield 44, 3) := by decide +kernel
theorem dc_Mod_init_100 : decode prog_10_method_1_code 100 = .ok (.aload_n 0, 1) := by decide +kernel
theorem dc_Mod_init_101 : decode prog_10_method_1_code 101 = .ok (.sipush 3600, 3) := by decide +kernel
theorem dc_Mod_init_104 : decode prog_10_method_1_code 104 = .ok (.newarray .int, 2) := by decide +kernel
theorem dc_Mod_init_106 : decode prog_10_method_1_code 106 = .ok (.putfield 47, 3) := by decide +kernel
theorem dc_Mod_init_109 : decode prog_10_method_1_code 109 = .ok (.aload_n 0, 1) := by decide +kernel
theorem dc_Mod_init_110 : decode prog_10_method_1_code 110 = .ok (.bipush 30, 2) := by decide +kernel
theorem dc_Mod_init_112 : decode prog_10_method_1_code 112 = .ok (.newarray .int, 2) := by decide +kernel
theorem dc_Mod_init_114 : decode prog_10_method_1_code 114 = .ok (.putfield 50, 3) := by decide +kernel
theorem dc_Mod_init_117 : decode prog_10_method_1_code 117 = .ok (.aload_n 0, 1) := by decide +kernel
theorem dc_Mod_init_118 : decode prog_10_method_1_code 118 = .ok (.bipush 8, 2) := by decide +kernel
theorem dc_Mod_init_120 : decode prog_10_method_1_code 120 = .ok (.newarray .int, 2) := by decide +kernel
theorem dc_Mod_init_122 : decode prog_10_method_1_code 122 = .ok (.putfield 53, 3) := by decide +kernel
theorem dc_Mod_init_125 : decode prog_10_method_1_code 125 = .ok (.aload_n 0, 1) := by decide +kernel
theorem dc_Mod_init_126 : decode prog_10_method_1_code 126 = .ok (.sipush 4800, 3) := by decide +kernel
theorem dc_Mod_init_129 : decode prog_10_method_1_code 129 = .ok (.newarray .int, 2) := by decide +kernel
theorem dc_Mod_init_131 : decode prog_10_method_1_code 131 = .ok (.putfield 56, 3) := by decide +kernel
theorem dc_Mod_init_134 : decode prog_10_method_1_code 134 = .ok (.aload_n 0, 1) := by decide +kernel
theorem dc_Mod_init_135 : decode prog_10_method_1_code 135 = .ok (.bipush 40, 2) := by decide +kernel
theorem dc_Mod_init_137 : decode prog_10_method_1_code 137 = .ok (.newarray .int, 2) := by decide +kernel
theorem dc_Mod_init_139 : decode prog_10_method_1_code 139 = .ok (.putfield 59, 3) := by decide +kernel
theorem dc_Mod_init_142 : decode prog_10_method_1_code 142 = .ok (.aload_n 0, 1) := by decide +kernel
theorem dc_Mod_init_143 : decode prog_10_method_1_code 143 = .ok (.bipush 40, 2) := by decide +kernel
theorem dc_Mod_init_145 : decode prog_10_method_1_code 145 = .ok (.newarray .int, 2) := by decide +kernel
theorem dc_Mod_init_147 : decode prog_10_method_1_code 147 = .ok (.putfield 62, 3) := by decide +kernel
theorem dc_Mod_init_150 : decode prog_10_method_1_code 150 = .ok (.aload_n 0, 1) := by decide +kernel
theorem dc_Mod_init_151 : decode prog_10_method_1_code 151 = .ok (.sipush 1500, 3) := by decide +kernel
theorem dc_Mod_init_154 : decode prog_10_method_1_code 154 = .ok (.newarray .int, 2) := by decide +kernel
theorem dc_Mod_init_156 : decode prog_10_method_1_code 156 = .ok (.putfield 65, 3) := by decide +kernel
theorem dc_Mod_init_159 : decode prog_10_method_1_code 159 = .ok (.aload_n 0, 1) := by decide +kernel
theorem dc_Mod_init_160 : decode prog_10_method_1_code 160 = .ok (.iconst (-1), 1) := by decide +kernel
theorem dc_Mod_init_161 : decode prog_10_method_1_code 161 = .ok (.putfield 68, 3) := by decide +kernel
theorem dc_Mod_init_164 : decode prog_10_method_1_code 164 = .ok (.aload_n 0, 1) := by decide +kernel
theorem dc_Mod_init_165 : decode prog_10_method_1_code 165 = .ok (.sipush 800, 3) := by decide +kernel
theorem dc_Mod_init_168 : decode prog_10_method_1_code 168 = .ok (.newarray .int, 2) := by decide +kernel
theorem dc_Mod_init_170 : decode prog_10_method_1_code 170 = .ok (.putfield 71, 3) := by decide +kernel
theorem dc_Mod_init_173 : decode prog_10_method_1_code 173 = .ok (.aload_n 0, 1) := by decide +kernel
theorem dc_Mod_init_174 : decode prog_10_method_1_code 174 = .ok (.sipush 800, 3) := by decide +kernel
theorem dc_Mod_init_177 : decode prog_10_method_1_code 177 = .ok (.newarray .int, 2) := by decide +kernel
theorem dc_Mod_init_179 : decode prog_10_method_1_code 179 = .ok (.putfield 74, 3) := by decide +kernel
theorem dc_Mod_init_182 : decode prog_10_method_1_code 182 = .ok (.aload_n 0, 1) := by decide +kernel
theorem dc_Mod_init_183 : decode prog_10_method_1_code 183 = .ok (.sipush 800, 3) := by decide +kernel
theorem dc_Mod_init_186 : decode prog_10_method_1_code 186 = .ok (.newarray .int, 2) := by decide +kernel
theorem dc_Mod_init_188 : decode prog_10_method_1_code 188 = .ok (.putfield 77, 3) := by decide +kernel
theorem dc_Mod_init_191 : decode prog_10_method_1_code 191 = .ok (.aload_n 0, 1) := by decide +kernel
theorem dc_Mod_init_192 : decode prog_10_method_1_code 192 = .ok (.sipush 800, 3) := by decide +kernel
theorem dc_Mod_init_195 : decode prog_10_method_1_code 195 = .ok (.newarray .int, 2) := by decide +kernel
theorem dc_Mod_init_197 : decode prog_10_method_1_code 197 = .ok (.putfield 80, 3) := by decide +kernel
theorem dc_Mod_init_200 : decode prog_10_method_1_code 200 = .ok (.aload_n 0, 1) := by decide +kernel
theorem dc_Mod_init_201 : decode prog_10_method_1_code 201 = .ok (.sipush 400, 3) := by decide +kernel
theorem dc_Mod_init_204 : decode prog_10_method_1_code 204 = .ok (.newarray .boolean, 2) := by decide +kernel
theorem dc_Mod_init_206 : decode prog_10_method_1_code 206 = .ok (.putfield 83, 3) := by decide +kernel
theorem dc_Mod_init_209 : decode prog_10_method_1_code 209 = .ok (.aload_n 0, 1) := by decide +kernel
theorem dc_Mod_init_210 : decode prog_10_method_1_code 210 = .ok (.sipush 400, 3) := by decide +kernel
theorem dc_Mod_init_213 : decode prog_10_method_1_code 213 = .ok (.newarray .boolean, 2) := by decide +kernel
theorem dc_Mod_init_215 : decode prog_10_method_1_code 215 = .ok (.putfield 87, 3) := by decide +kernel
theorem dc_Mod_init_218 : decode prog_10_method_1_code 218 = .ok (.aload_n 0, 1) := by decide +kernel
theorem dc_Mod_init_219 : decode prog_10_method_1_code 219 = .ok (.bipush 12, 2) := by decide +kernel
theorem dc_Mod_init_221 : decode prog_10_method_1_code 221 = .ok (.newarray .int, 2) := by decide +kernel
theorem dc_Mod_init_223 : decode prog_10_method_1_code 223 = .ok (.putfield 90, 3) := by decide +kernel
theorem dc_Mod_init_226 : decode prog_10_method_1_code 226 = .ok (.aload_n 0, 1) := by decide +kernel
theorem dc_Mod_init_227 : decode prog_10_method_1_code 227 = .ok (.bipush 12, 2) := by decide +kernel
theorem dc_Mod_init_229 : decode prog_10_method_1_code 229 = .ok (.newarray .int, 2) := by decide +kernel
theorem dc_Mod_init_231 : decode prog_10_method_1_code 231 = .ok (.putfield 93, 3) := by decide +kernel
theorem dc_Mod_init_234 : decode prog_10_method_1_code 234 = .ok (.aload_n 0, 1) := by decide +kernel
theorem dc_Mod_init_235 : decode prog_10_method_1_code 235 = .ok (.bipush 12, 2) := by decide +kernel
theorem dc_Mod_init_237 : decode prog_10_method_1_code 237 = .ok (.newarray .int, 2) := by decide +kernel
theorem dc_Mod_init_239 : decode prog_10_method_1_code 239 = .ok (.putfield 96, 3) := by decide +kernel
theorem dc_Mod_init_242 : decode prog_10_method_1_code 242 = .ok (.return_, 1) := by decide +kernel
theorem dc_Mod_thrown_0 : decode prog_10_method_2_code 0 = .ok (.aload_n 0, 1) := by decide +kernel
theorem dc_Mod_thrown_1 : decode prog_10_method_2_code 1 = .ok (.getfield 99, 3) := by decide +kernel
theorem dc_Mod_thrown_4 : decode prog_10_method_2_code 4 = .ok (.ireturn, 1) := by decide +kernel
theorem dc_Mod_goes_0 : decode prog_10_method_3_code 0 = .ok (.aload_n 0, 1) := by decide +kernel
theorem dc_Mod_goes_1 : decode prog_10_method_3_code 1 = .ok (.iload_n 1, 1) := by decide +kernel
theorem dc_Mod_goes_2 : decode prog_10_method_3_code 2 = .ok (.ifCond .ne 7, 3) := by decide +kernel
theorem dc_Mod_goes_5 : decode prog_10_method_3_code 5 = .ok (.iconst 1, 1) := by decide +kernel
theorem dc_Mod_goes_6 : decode prog_10_method_3_code 6 = .ok (.goto 12, 3) := by decide +kernel
theorem dc_Mod_goes_9 : decode prog_10_method_3_code 9 = .ok (.iload_n 2, 1) := by decide +kernel
theorem dc_Mod_goes_10 : decode prog_10_method_3_code 10 = .ok (.ifCond .ne 7, 3) := by decide +kernel
theorem dc_Mod_goes_13 : decode prog_10_method_3_code 13 = .ok (.iconst 2, 1) := by decide +kernel
theorem dc_Mod_goes_14 : decode prog_10_method_3_code 14 = .ok (.goto 4, 3) := by decide +kernel
theorem dc_Mod_goes_17 : decode prog_10_method_3_code 17 = .ok (.iconst 0, 1) := by decide +kernel
theorem dc_Mod_goes_18 : decode prog_10_method_3_code 18 = .ok (.putfield 99, 3) := by decide +kernel
theorem dc_Mod_goes_21 : decode prog_10_method_3_code 21 = .ok (.aload_n 0, 1) := by decide +kernel
theorem dc_Mod_goes_22 : decode prog_10_method_3_code 22 = .ok (.getfield 99, 3) := by decide +kernel
theorem dc_Mod_goes_25 : decode prog_10_method_3_code 25 = .ok (.ifCond .ne 7, 3) := by decide +kernel
theorem dc_Mod_goes_28 : decode prog_10_method_3_code 28 = .ok (.iconst 1, 1) := by decide +kernel
theorem dc_Mod_goes_29 : decode prog_10_method_3_code 29 = .ok (.goto 4, 3) := by decide +kernel
theorem dc_Mod_goes_32 : decode prog_10_method_3_code 32 = .ok (.iconst 0, 1) := by decide +kernel
theorem dc_Mod_goes_33 : decode prog_10_method_3_code 33 = .ok (.ireturn, 1) := by decide +kernel
theorem dc_Mod_within_0 : decode prog_10_method_4_code 0 = .ok (.iload_n 0, 1) := by decide +kernel
theorem dc_Mod_within_1 : decode prog_10_method_4_code 1 = .ok (.iload_n 1, 1) := by decide +kernel
theorem dc_Mod_within_2 : decode prog_10_method_4_code 2 = .ok (.if_icmp .lt 12, 3) := by decide +kernel
theorem dc_Mod_within_5 : decode prog_10_method_4_code 5 = .ok (.iload_n 0, 1) := by decide +kernel
theorem dc_Mod_within_6 : decode prog_10_method_4_code 6 = .ok (.iload_n 2, 1) := by decide +kernel
theorem dc_Mod_within_7 : decode prog_10_method_4_code 7 = .ok (.if_icmp .gt 7, 3) := by decide +kernel
theorem dc_Mod_within_10 : decode prog_10_method_4_code 10 = .ok (.iconst 1, 1) := by decide +kernel
theorem dc_Mod_within_11 : decode prog_10_method_4_code 11 = .ok (.goto 4, 3) := by decide +kernel
theorem dc_Mod_within_14 : decode prog_10_method_4_code 14 = .ok (.iconst 0, 1) := by decide +kernel
theorem dc_Mod_within_15 : decode prog_10_method_4_code 15 = .ok (.ireturn, 1) := by decide +kernel
theorem dc_Mod_signsOf_0 : decode prog_10_method_5_code 0 = .ok (.iconst 0, 1) := by decide +kernel
theorem dc_Mod_signsOf_1 : decode prog_10_method_5_code 1 = .ok (.istore_n 1, 1) := by decide +kernel
theorem dc_Mod_signsOf_2 : decode prog_10_method_5_code 2 = .ok (.iconst 0, 1) := by decide +kernel
theorem dc_Mod_signsOf_3 : decode prog_10_method_5_code 3 = .ok (.istore_n 2, 1) := by decide +kernel
theorem dc_Mod_signsOf_4 : decode prog_10_method_5_code 4 = .ok (.iload_n 2, 1) := by decide +kernel
theorem dc_Mod_signsOf_5 : decode prog_10_method_5_code 5 = .ok (.iconst 4, 1) := by decide +kernel
theorem dc_Mod_signsOf_6 : decode prog_10_method_5_code 6 = .ok (.if_icmp .ge 30, 3) := by decide +kernel
theorem dc_Mod_signsOf_9 : decode prog_10_method_5_code 9 = .ok (.iload_n 0, 1) := by decide +kernel
theorem dc_Mod_signsOf_10 : decode prog_10_method_5_code 10 = .ok (.bipush 8, 2) := by decide +kernel
theorem dc_Mod_signsOf_12 : decode prog_10_method_5_code 12 = .ok (.iload_n 2, 1) := by decide +kernel
theorem dc_Mod_signsOf_13 : decode prog_10_method_5_code 13 = .ok (.imul, 1) := by decide +kernel
theorem dc_Mod_signsOf_14 : decode prog_10_method_5_code 14 = .ok (.iushr, 1) := by decide +kernel
theorem dc_Mod_signsOf_15 : decode prog_10_method_5_code 15 = .ok (.sipush 255, 3) := by decide +kernel
theorem dc_Mod_signsOf_18 : decode prog_10_method_5_code 18 = .ok (.iand, 1) := by decide +kernel
theorem dc_Mod_signsOf_19 : decode prog_10_method_5_code 19 = .ok (.ifCond .ne 7, 3) := by decide +kernel
theorem dc_Mod_signsOf_22 : decode prog_10_method_5_code 22 = .ok (.iload_n 1, 1) := by decide +kernel
theorem dc_Mod_signsOf_23 : decode prog_10_method_5_code 23 = .ok (.goto 6, 3) := by decide +kernel
theorem dc_Mod_signsOf_26 : decode prog_10_method_5_code 26 = .ok (.iload_n 1, 1) := by decide +kernel
theorem dc_Mod_signsOf_27 : decode prog_10_method_5_code 27 = .ok (.iconst 1, 1) := by decide +kernel
theorem dc_Mod_signsOf_28 : decode prog_10_method_5_code 28 = .ok (.iadd, 1) := by decide +kernel
theorem dc_Mod_signsOf_29 : decode prog_10_method_5_code 29 = .ok (.istore_n 1, 1) := by decide +kernel
theorem dc_Mod_signsOf_30 : decode prog_10_method_5_code 30 = .ok (.iinc 2 1, 3) := by decide +kernel
theorem dc_Mod_signsOf_33 : decode prog_10_method_5_code 33 = .ok (.goto (-29), 3) := by decide +kernel
theorem dc_Mod_signsOf_36 : decode prog_10_method_5_code 36 = .ok (.iload_n 1, 1) := by decide +kernel
theorem dc_Mod_signsOf_37 : decode prog_10_method_5_code 37 = .ok (.ireturn, 1) := by decide +kernel
theorem dc_Mod_feedOne_0 : decode prog_10_method_6_code 0 = .ok (.iconst 0, 1) := by decide +kernel
theorem dc_Mod_feedOne_1 : decode prog_10_method_6_code 1 = .ok (.istore_n 2, 1) := by decide +kernel
theorem dc_Mod_feedOne_2 : decode prog_10_method_6_code 2 = .ok (.iload_n 2, 1) := by decide +kernel
theorem dc_Mod_feedOne_3 : decode prog_10_method_6_code 3 = .ok (.iconst 4, 1) := by decide +kernel
theorem dc_Mod_feedOne_4 : decode prog_10_method_6_code 4 = .ok (.if_icmp .ge 46, 3) := by decide +kernel
theorem dc_Mod_feedOne_7 : decode prog_10_method_6_code 7 = .ok (.iload_n 1, 1) := by decide +kernel
theorem dc_Mod_feedOne_8 : decode prog_10_method_6_code 8 = .ok (.bipush 8, 2) := by decide +kernel
theorem dc_Mod_feedOne_10 : decode prog_10_method_6_code 10 = .ok (.iload_n 2, 1) := by decide +kernel
theorem dc_Mod_feedOne_11 : decode prog_10_method_6_code 11 = .ok (.imul, 1) := by decide +kernel
theorem dc_Mod_feedOne_12 : decode prog_10_method_6_code 12 = .ok (.iushr, 1) := by decide +kernel
theorem dc_Mod_feedOne_13 : decode prog_10_method_6_code 13 = .ok (.sipush 255, 3) := by decide +kernel
theorem dc_Mod_feedOne_16 : decode prog_10_method_6_code 16 = .ok (.iand, 1) := by decide +kernel
theorem dc_Mod_feedOne_17 : decode prog_10_method_6_code 17 = .ok (.istore_n 3, 1) := by decide +kernel
theorem dc_Mod_feedOne_18 : decode prog_10_method_6_code 18 = .ok (.iload_n 3, 1) := by decide +kernel
theorem dc_Mod_feedOne_19 : decode prog_10_method_6_code 19 = .ok (.ifCond .eq 25, 3) := by decide +kernel
theorem dc_Mod_feedOne_22 : decode prog_10_method_6_code 22 = .ok (.aload_n 0, 1) := by decide +kernel
theorem dc_Mod_feedOne_23 : decode prog_10_method_6_code 23 = .ok (.getfield 7, 3) := by decide +kernel
theorem dc_Mod_feedOne_26 : decode prog_10_method_6_code 26 = .ok (.aload_n 0, 1) := by decide +kernel
theorem dc_Mod_feedOne_27 : decode prog_10_method_6_code 27 = .ok (.getfield 13, 3) := by decide +kernel
theorem dc_Mod_feedOne_30 : decode prog_10_method_6_code 30 = .ok (.iconst 0, 1) := by decide +kernel
theorem dc_Mod_feedOne_31 : decode prog_10_method_6_code 31 = .ok (.iaload, 1) := by decide +kernel
theorem dc_Mod_feedOne_32 : decode prog_10_method_6_code 32 = .ok (.iload_n 3, 1) := by decide +kernel
theorem dc_Mod_feedOne_33 : decode prog_10_method_6_code 33 = .ok (.iastore, 1) := by decide +kernel
theorem dc_Mod_feedOne_34 : decode prog_10_method_6_code 34 = .ok (.aload_n 0, 1) := by decide +kernel
theorem dc_Mod_feedOne_35 : decode prog_10_method_6_code 35 = .ok (.getfield 13, 3) := by decide +kernel
theorem dc_Mod_feedOne_38 : decode prog_10_method_6_code 38 = .ok (.iconst 0, 1) := by decide +kernel
theorem dc_Mod_feedOne_39 : decode prog_10_method_6_code 39 = .ok (.dup2, 1) := by decide +kernel
theorem dc_Mod_feedOne_40 : decode prog_10_method_6_code 40 = .ok (.iaload, 1) := by decide +kernel
theorem dc_Mod_feedOne_41 : decode prog_10_method_6_code 41 = .ok (.iconst 1, 1) := by decide +kernel
theorem dc_Mod_feedOne_42 : decode prog_10_method_6_code 42 = .ok (.iadd, 1) := by decide +kernel
theorem dc_Mod_feedOne_43 : decode prog_10_method_6_code 43 = .ok (.iastore, 1) := by decide +kernel
theorem dc_Mod_feedOne_44 : decode prog_10_method_6_code 44 = .ok (.iinc 2 1, 3) := by decide +kernel
theorem dc_Mod_feedOne_47 : decode prog_10_method_6_code 47 = .ok (.goto (-45), 3) := by decide +kernel
theorem dc_Mod_feedOne_50 : decode prog_10_method_6_code 50 = .ok (.return_, 1) := by decide +kernel
theorem dc_Mod_feed_0 : decode prog_10_method_7_code 0 = .ok (.aload_n 0, 1) := by decide +kernel
theorem dc_Mod_feed_1 : decode prog_10_method_7_code 1 = .ok (.aload_n 0, 1) := by decide +kernel
theorem dc_Mod_feed_2 : decode prog_10_method_7_code 2 = .ok (.getfield 13, 3) := by decide +kernel
theorem dc_Mod_feed_5 : decode prog_10_method_7_code 5 = .ok (.iconst 0, 1) := by decide +kernel
theorem dc_Mod_feed_6 : decode prog_10_method_7_code 6 = .ok (.iaload, 1) := by decide +kernel
theorem dc_Mod_feed_7 : decode prog_10_method_7_code 7 = .ok (.iload_n 1, 1) := by decide +kernel
theorem dc_Mod_feed_8 : decode prog_10_method_7_code 8 = .ok (.invokestatic 102, 3) := by decide +kernel
theorem dc_Mod_feed_11 : decode prog_10_method_7_code 11 = .ok (.iadd, 1) := by decide +kernel
theorem dc_Mod_feed_12 : decode prog_10_method_7_code 12 = .ok (.iload_n 2, 1) := by decide +kernel
theorem dc_Mod_feed_13 : decode prog_10_method_7_code 13 = .ok (.invokestatic 102, 3) := by decide +kernel
theorem dc_Mod_feed_16 : decode prog_10_method_7_code 16 = .ok (.iadd, 1) := by decide +kernel
theorem dc_Mod_feed_17 : decode prog_10_method_7_code 17 = .ok (.iload_n 3, 1) := by decide +kernel
theorem dc_Mod_feed_18 : decode prog_10_method_7_code 18 = .ok (.invokestatic 102, 3) := by decide +kernel
theorem dc_Mod_feed_21 : decode prog_10_method_7_code 21 = .ok (.iadd, 1) := by decide +kernel
theorem dc_Mod_feed_22 : decode prog_10_method_7_code 22 = .ok (.iload 4, 2) := by decide +kernel
theorem dc_Mod_feed_24 : decode prog_10_method_7_code 24 = .ok (.invokestatic 102, 3) := by decide +kernel
theorem dc_Mod_feed_27 : decode prog_10_method_7_code 27 = .ok (.iadd, 1) := by decide +kernel
theorem dc_Mod_feed_28 : decode prog_10_method_7_code 28 = .ok (.iload 5, 2) := by decide +kernel
theorem dc_Mod_feed_30 : decode prog_10_method_7_code 30 = .ok (.invokestatic 102, 3) := by decide +kernel
theorem dc_Mod_feed_33 : decode prog_10_method_7_code 33 = .ok (.iadd, 1) := by decide +kernel
theorem dc_Mod_feed_34 : decode prog_10_method_7_code 34 = .ok (.bipush 120, 2) := by decide +kernel
theorem dc_Mod_feed_36 : decode prog_10_method_7_code 36 = .ok (.if_icmp .gt 7, 3) := by decide +kernel
theorem dc_Mod_feed_39 : decode prog_10_method_7_code 39 = .ok (.iconst 1, 1) := by decide +kernel
theorem dc_Mod_feed_40 : decode prog_10_method_7_code 40 = .ok (.goto 4, 3) := by decide +kernel
theorem dc_Mod_feed_43 : decode prog_10_method_7_code 43 = .ok (.iconst 0, 1) := by decide +kernel
theorem dc_Mod_feed_44 : decode prog_10_method_7_code 44 = .ok (.iconst 1, 1) := by decide +kernel
theorem dc_Mod_feed_45 : decode prog_10_method_7_code 45 = .ok (.invokevirtual 106, 3) := by decide +kernel
theorem dc_Mod_feed_48 : decode prog_10_method_7_code 48 = .ok (.ifCond .ne 5, 3) := by decide +kernel
theorem dc_Mod_feed_51 : decode prog_10_method_7_code 51 = .ok (.iconst 0, 1) := by decide +kernel
theorem dc_Mod_feed_52 : decode prog_10_method_7_code 52 = .ok (.ireturn, 1) := by decide +kernel
theorem dc_Mod_feed_53 : decode prog_10_method_7_code 53 = .ok (.aload_n 0, 1) := by decide +kernel
theorem dc_Mod_feed_54 : decode prog_10_method_7_code 54 = .ok (.iload_n 1, 1) := by decide +kernel
theorem dc_Mod_feed_55 : decode prog_10_method_7_code 55 = .ok (.invokevirtual 110, 3) := by decide +kernel
theorem dc_Mod_feed_58 : decode prog_10_method_7_code 58 = .ok (.aload_n 0, 1) := by decide +kernel
theorem dc_Mod_feed_59 : decode prog_10_method_7_code 59 = .ok (.iload_n 2, 1) := by decide +kernel
theorem dc_Mod_feed_60 : decode prog_10_method_7_code 60 = .ok (.invokevirtual 110, 3) := by decide +kernel
theorem dc_Mod_feed_63 : decode prog_10_method_7_code 63 = .ok (.aload_n 0, 1) := by decide +kernel
theorem dc_Mod_feed_64 : decode prog_10_method_7_code 64 = .ok (.iload_n 3, 1) := by decide +kernel
theorem dc_Mod_feed_65 : decode prog_10_method_7_code 65 = .ok (.invokevirtual 110, 3) := by decide +kernel
theorem dc_Mod_feed_68 : decode prog_10_method_7_code 68 = .ok (.aload_n 0, 1) := by decide +kernel
theorem dc_Mod_feed_69 : decode prog_10_method_7_code 69 = .ok (.iload 4, 2) := by decide +kernel
theorem dc_Mod_feed_71 : decode prog_10_method_7_code 71 = .ok (.invokevirtual 110, 3) := by decide +kernel
theorem dc_Mod_feed_74 : decode prog_10_method_7_code 74 = .ok (.aload_n 0, 1) := by decide +kernel
theorem dc_Mod_feed_75 : decode prog_10_method_7_code 75 = .ok (.iload 5, 2) := by decide +kernel
theorem dc_Mod_feed_77 : decode prog_10_method_7_code 77 = .ok (.invokevirtual 110, 3) := by decide +kernel
theorem dc_Mod_feed_80 : decode prog_10_method_7_code 80 = .ok (.aload_n 0, 1) := by decide +kernel
theorem dc_Mod_feed_81 : decode prog_10_method_7_code 81 = .ok (.getfield 13, 3) := by decide +kernel
theorem dc_Mod_feed_84 : decode prog_10_method_7_code 84 = .ok (.iconst 0, 1) := by decide +kernel
theorem dc_Mod_feed_85 : decode prog_10_method_7_code 85 = .ok (.iaload, 1) := by decide +kernel
theorem dc_Mod_feed_86 : decode prog_10_method_7_code 86 = .ok (.ireturn, 1) := by decide +kernel
theorem dc_Mod_clear_0 : decode prog_10_method_8_code 0 = .ok (.aload_n 0, 1) := by decide +kernel
theorem dc_Mod_clear_1 : decode prog_10_method_8_code 1 = .ok (.iconst 0, 1) := by decide +kernel
theorem dc_Mod_clear_2 : decode prog_10_method_8_code 2 = .ok (.putfield 99, 3) := by decide +kernel
theorem dc_Mod_clear_5 : decode prog_10_method_8_code 5 = .ok (.aload_n 0, 1) := by decide +kernel
theorem dc_Mod_clear_6 : decode prog_10_method_8_code 6 = .ok (.getfield 13, 3) := by decide +kernel
theorem dc_Mod_clear_9 : decode prog_10_method_8_code 9 = .ok (.iconst 0, 1) := by decide +kernel
theorem dc_Mod_clear_10 : decode prog_10_method_8_code 10 = .ok (.iaload, 1) := by decide +kernel
theorem dc_Mod_clear_11 : decode prog_10_method_8_code 11 = .ok (.istore_n 1, 1) := by decide +kernel
theorem dc_Mod_clear_12 : decode prog_10_method_8_code 12 = .ok (.aload_n 0, 1) := by decide +kernel
theorem dc_Mod_clear_13 : decode prog_10_method_8_code 13 = .ok (.getfield 13, 3) := by decide +kernel
theorem dc_Mod_clear_16 : decode prog_10_method_8_code 16 = .ok (.iconst 0, 1) := by decide +kernel
theorem dc_Mod_clear_17 : decode prog_10_method_8_code 17 = .ok (.iconst 0, 1) := by decide +kernel
theorem dc_Mod_clear_18 : decode prog_10_method_8_code 18 = .ok (.iastore, 1) := by decide +kernel
theorem dc_Mod_clear_19 : decode prog_10_method_8_code 19 = .ok (.iload_n 1, 1) := by decide +kernel
theorem dc_Mod_clear_20 : decode prog_10_method_8_code 20 = .ok (.ireturn, 1) := by decide +kernel
theorem dc_Mod_point_0 : decode prog_10_method_9_code 0 = .ok (.aload_n 0, 1) := by decide +kernel
theorem dc_Mod_point_1 : decode prog_10_method_9_code 1 = .ok (.dup, 1) := by decide +kernel
theorem dc_Mod_point_2 : decode prog_10_method_9_code 2 = .ok (.getfield 114, 3) := by decide +kernel
theorem dc_Mod_point_5 : decode prog_10_method_9_code 5 = .ok (.iconst 1, 1) := by decide +kernel
theorem dc_Mod_point_6 : decode prog_10_method_9_code 6 = .ok (.iadd, 1) := by decide +kernel
theorem dc_Mod_point_7 : decode prog_10_method_9_code 7 = .ok (.putfield 114, 3) := by decide +kernel
theorem dc_Mod_point_10 : decode prog_10_method_9_code 10 = .ok (.aload_n 0, 1) := by decide +kernel
theorem dc_Mod_point_11 : decode prog_10_method_9_code 11 = .ok (.getfield 114, 3) := by decide +kernel
theorem dc_Mod_point_14 : decode prog_10_method_9_code 14 = .ok (.iconst 1, 1) := by decide +kernel
theorem dc_Mod_point_15 : decode prog_10_method_9_code 15 = .ok (.isub, 1) := by decide +kernel
theorem dc_Mod_point_16 : decode prog_10_method_9_code 16 = .ok (.ireturn, 1) := by decide +kernel
theorem dc_Mod_edge_0 : decode prog_10_method_10_code 0 = .ok (.aload_n 0, 1) := by decide +kernel
theorem dc_Mod_edge_1 : decode prog_10_method_10_code 1 = .ok (.getfield 71, 3) := by decide +kernel
theorem dc_Mod_edge_4 : decode prog_10_method_10_code 4 = .ok (.aload_n 0, 1) := by decide +kernel
theorem dc_Mod_edge_5 : decode prog_10_method_10_code 5 = .ok (.getfield 117, 3) := by decide +kernel
theorem dc_Mod_edge_8 : decode prog_10_method_10_code 8 = .ok (.iload_n 1, 1) := by decide +kernel
theorem dc_Mod_edge_9 : decode prog_10_method_10_code 9 = .ok (.iastore, 1) := by decide +kernel
theorem dc_Mod_edge_10 : decode prog_10_method_10_code 10 = .ok (.aload_n 0, 1) := by decide +kernel
theorem dc_Mod_edge_11 : decode prog_10_method_10_code 11 = .ok (.getfield 74, 3) := by decide +kernel
theorem dc_Mod_edge_14 : decode prog_10_method_10_code 14 = .ok (.aload_n 0, 1) := by decide +kernel
theorem dc_Mod_edge_15 : decode prog_10_method_10_code 15 = .ok (.getfield 117, 3) := by decide +kernel
theorem dc_Mod_edge_18 : decode prog_10_method_10_code 18 = .ok (.iload_n 2, 1) := by decide +kernel
theorem dc_Mod_edge_19 : decode prog_10_method_10_code 19 = .ok (.iastore, 1) := by decide +kernel
theorem dc_Mod_edge_20 : decode prog_10_method_10_code 20 = .ok (.aload_n 0, 1) := by decide +kernel
theorem dc_Mod_edge_21 : decode prog_10_method_10_code 21 = .ok (.getfield 77, 3) := by decide +kernel
theorem dc_Mod_edge_24 : decode prog_10_method_10_code 24 = .ok (.aload_n 0, 1) := by decide +kernel
theorem dc_Mod_edge_25 : decode prog_10_method_10_code 25 = .ok (.getfield 117, 3) := by decide +kernel
theorem dc_Mod_edge_28 : decode prog_10_method_10_code 28 = .ok (.iload_n 3, 1) := by decide +kernel
theorem dc_Mod_edge_29 : decode prog_10_method_10_code 29 = .ok (.iastore, 1) := by decide +kernel
theorem dc_Mod_edge_30 : decode prog_10_method_10_code 30 = .ok (.aload_n 0, 1) := by decide +kernel
theorem dc_Mod_edge_31 : decode prog_10_method_10_code 31 = .ok (.getfield 80, 3) := by decide +kernel
theorem dc_Mod_edge_34 : decode prog_10_method_10_code 34 = .ok (.aload_n 0, 1) := by decide +kernel
theorem dc_Mod_edge_35 : decode prog_10_method_10_code 35 = .ok (.getfield 117, 3) := by decide +kernel
theorem dc_Mod_edge_38 : decode prog_10_method_10_code 38 = .ok (.iload 4, 2) := by decide +kernel
theorem dc_Mod_edge_40 : decode prog_10_method_10_code 40 = .ok (.iastore, 1) := by decide +kernel
theorem dc_Mod_edge_41 : decode prog_10_method_10_code 41 = .ok (.aload_n 0, 1) := by decide +kernel
theorem dc_Mod_edge_42 : decode prog_10_method_10_code 42 = .ok (.dup, 1) := by decide +kernel
theorem dc_Mod_edge_43 : decode prog_10_method_10_code 43 = .ok (.getfield 117, 3) := by decide +kernel
theorem dc_Mod_edge_46 : decode prog_10_method_10_code 46 = .ok (.iconst 1, 1) := by decide +kernel
theorem dc_Mod_edge_47 : decode prog_10_method_10_code 47 = .ok (.iadd, 1) := by decide +kernel
theorem dc_Mod_edge_48 : decode prog_10_method_10_code 48 = .ok (.putfield 117, 3) := by decide +kernel
theorem dc_Mod_edge_51 : decode prog_10_method_10_code 51 = .ok (.return_, 1) := by decide +kernel
theorem dc_Mod_fail_0 : decode prog_10_method_11_code 0 = .ok (.aload_n 0, 1) := by decide +kernel
theorem dc_Mod_fail_1 : decode prog_10_method_11_code 1 = .ok (.aload_n 0, 1) := by decide +kernel
theorem dc_Mod_fail_2 : decode prog_10_method_11_code 2 = .ok (.getfield 120, 3) := by decide +kernel
theorem dc_Mod_fail_5 : decode prog_10_method_11_code 5 = .ok (.iconst (-1), 1) := by decide +kernel
theorem dc_Mod_fail_6 : decode prog_10_method_11_code 6 = .ok (.if_icmp .ne 7, 3) := by decide +kernel
theorem dc_Mod_fail_9 : decode prog_10_method_11_code 9 = .ok (.iload_n 1, 1) := by decide +kernel
theorem dc_Mod_fail_10 : decode prog_10_method_11_code 10 = .ok (.goto 7, 3) := by decide +kernel
theorem dc_Mod_fail_13 : decode prog_10_method_11_code 13 = .ok (.aload_n 0, 1) := by decide +kernel
theorem dc_Mod_fail_14 : decode prog_10_method_11_code 14 = .ok (.getfield 120, 3) := by decide +kernel
theorem dc_Mod_fail_17 : decode prog_10_method_11_code 17 = .ok (.putfield 120, 3) := by decide +kernel
theorem dc_Mod_fail_20 : decode prog_10_method_11_code 20 = .ok (.return_, 1) := by decide +kernel
theorem dc_Mod_isItem_0 : decode prog_10_method_12_code 0 = .ok (.iload_n 0, 1) := by decide +kernel
theorem dc_Mod_isItem_1 : decode prog_10_method_12_code 1 = .ok (.bipush 93, 2) := by decide +kernel
theorem dc_Mod_isItem_3 : decode prog_10_method_12_code 3 = .ok (.if_icmp .eq 19, 3) := by decide +kernel
theorem dc_Mod_isItem_6 : decode prog_10_method_12_code 6 = .ok (.iload_n 0, 1) := by decide +kernel
theorem dc_Mod_isItem_7 : decode prog_10_method_12_code 7 = .ok (.bipush 92, 2) := by decide +kernel
theorem dc_Mod_isItem_9 : decode prog_10_method_12_code 9 = .ok (.if_icmp .eq 13, 3) := by decide +kernel
theorem dc_Mod_isItem_12 : decode prog_10_method_12_code 12 = .ok (.iload_n 0, 1) := by decide +kernel
theorem dc_Mod_isItem_13 : decode prog_10_method_12_code 13 = .ok (.bipush 45, 2) := by decide +kernel
theorem dc_Mod_isItem_15 : decode prog_10_method_12_code 15 = .ok (.if_icmp .eq 7, 3) := by decide +kernel
theorem dc_Mod_isItem_18 : decode prog_10_method_12_code 18 = .ok (.iconst 1, 1) := by decide +kernel
theorem dc_Mod_isItem_19 : decode prog_10_method_12_code 19 = .ok (.goto 4, 3) := by decide +kernel
theorem dc_Mod_isItem_22 : decode prog_10_method_12_code 22 = .ok (.iconst 0, 1) := by decide +kernel
theorem dc_Mod_isItem_23 : decode prog_10_method_12_code 23 = .ok (.ireturn, 1) := by decide +kernel
theorem dc_Mod_items_0 : decode prog_10_method_13_code 0 = .ok (.iload_n 1, 1) := by decide +kernel
theorem dc_Mod_items_1 : decode prog_10_method_13_code 1 = .ok (.istore_n 3, 1) := by decide +kernel
theorem dc_Mod_items_2 : decode prog_10_method_13_code 2 = .ok (.iload_n 3, 1) := by decide +kernel
theorem dc_Mod_items_3 : decode prog_10_method_13_code 3 = .ok (.iload_n 2, 1) := by decide +kernel
theorem dc_Mod_items_4 : decode prog_10_method_13_code 4 = .ok (.if_icmp .ge 20, 3) := by decide +kernel
theorem dc_Mod_items_7 : decode prog_10_method_13_code 7 = .ok (.aload_n 0, 1) := by decide +kernel
theorem dc_Mod_items_8 : decode prog_10_method_13_code 8 = .ok (.getfield 16, 3) := by decide +kernel
theorem dc_Mod_items_11 : decode prog_10_method_13_code 11 = .ok (.iload_n 3, 1) := by decide +kernel
theorem dc_Mod_items_12 : decode prog_10_method_13_code 12 = .ok (.iaload, 1) := by decide +kernel
theorem dc_Mod_items_13 : decode prog_10_method_13_code 13 = .ok (.bipush 94, 2) := by decide +kernel
theorem dc_Mod_items_15 : decode prog_10_method_13_code 15 = .ok (.if_icmp .ne 9, 3) := by decide +kernel
theorem dc_Mod_items_18 : decode prog_10_method_13_code 18 = .ok (.iload_n 3, 1) := by decide +kernel
theorem dc_Mod_items_19 : decode prog_10_method_13_code 19 = .ok (.iconst 1, 1) := by decide +kernel
theorem dc_Mod_items_20 : decode prog_10_method_13_code 20 = .ok (.iadd, 1) := by decide +kernel
theorem dc_Mod_items_21 : decode prog_10_method_13_code 21 = .ok (.goto 4, 3) := by decide +kernel
theorem dc_Mod_items_24 : decode prog_10_method_13_code 24 = .ok (.iload_n 3, 1) := by decide +kernel
theorem dc_Mod_items_25 : decode prog_10_method_13_code 25 = .ok (.istore_n 3, 1) := by decide +kernel
theorem dc_Mod_items_26 : decode prog_10_method_13_code 26 = .ok (.iconst 0, 1) := by decide +kernel
theorem dc_Mod_items_27 : decode prog_10_method_13_code 27 = .ok (.istore 4, 2) := by decide +kernel
theorem dc_Mod_items_29 : decode prog_10_method_13_code 29 = .ok (.iload_n 3, 1) := by decide +kernel
theorem dc_Mod_items_30 : decode prog_10_method_13_code 30 = .ok (.iload_n 2, 1) := by decide +kernel
theorem dc_Mod_items_31 : decode prog_10_method_13_code 31 = .ok (.if_icmp .ge 139, 3) := by decide +kernel
theorem dc_Mod_items_34 : decode prog_10_method_13_code 34 = .ok (.iload 4, 2) := by decide +kernel
theorem dc_Mod_items_36 : decode prog_10_method_13_code 36 = .ok (.ifCond .eq 14, 3) := by decide +kernel
theorem dc_Mod_items_39 : decode prog_10_method_13_code 39 = .ok (.aload_n 0, 1) := by decide +kernel
theorem dc_Mod_items_40 : decode prog_10_method_13_code 40 = .ok (.getfield 16, 3) := by decide +kernel
theorem dc_Mod_items_43 : decode prog_10_method_13_code 43 = .ok (.iload_n 3, 1) := by decide +kernel
theorem dc_Mod_items_44 : decode prog_10_method_13_code 44 = .ok (.iaload, 1) := by decide +kernel
theorem dc_Mod_items_45 : decode prog_10_method_13_code 45 = .ok (.bipush 93, 2) := by decide +kernel
theorem dc_Mod_items_47 : decode prog_10_method_13_code 47 = .ok (.if_icmp .eq 123, 3) := by decide +kernel
theorem dc_Mod_items_50 : decode prog_10_method_13_code 50 = .ok (.aload_n 0, 1) := by decide +kernel
theorem dc_Mod_items_51 : decode prog_10_method_13_code 51 = .ok (.getfield 120, 3) := by decide +kernel
theorem dc_Mod_items_54 : decode prog_10_method_13_code 54 = .ok (.iconst (-1), 1) := by decide +kernel
theorem dc_Mod_items_55 : decode prog_10_method_13_code 55 = .ok (.if_icmp .ne 115, 3) := by decide +kernel
theorem dc_Mod_items_58 : decode prog_10_method_13_code 58 = .ok (.aload_n 0, 1) := by decide +kernel
theorem dc_Mod_items_59 : decode prog_10_method_13_code 59 = .ok (.getfield 16, 3) := by decide +kernel
theorem dc_Mod_items_62 : decode prog_10_method_13_code 62 = .ok (.iload_n 3, 1) := by decide +kernel
theorem dc_Mod_items_63 : decode prog_10_method_13_code 63 = .ok (.iaload, 1) := by decide +kernel
theorem dc_Mod_items_64 : decode prog_10_method_13_code 64 = .ok (.invokestatic 123, 3) := by decide +kernel
theorem dc_Mod_items_67 : decode prog_10_method_13_code 67 = .ok (.ifCond .ne 8, 3) := by decide +kernel
theorem dc_Mod_items_70 : decode prog_10_method_13_code 70 = .ok (.aload_n 0, 1) := by decide +kernel
theorem dc_Mod_items_71 : decode prog_10_method_13_code 71 = .ok (.iload_n 3, 1) := by decide +kernel
theorem dc_Mod_items_72 : decode prog_10_method_13_code 72 = .ok (.invokevirtual 127, 3) := by decide +kernel
theorem dc_Mod_items_75 : decode prog_10_method_13_code 75 = .ok (.aload_n 0, 1) := by decide +kernel
theorem dc_Mod_items_76 : decode prog_10_method_13_code 76 = .ok (.getfield 16, 3) := by decide +kernel
theorem dc_Mod_items_79 : decode prog_10_method_13_code 79 = .ok (.iload_n 3, 1) := by decide +kernel
theorem dc_Mod_items_80 : decode prog_10_method_13_code 80 = .ok (.iaload, 1) := by decide +kernel
theorem dc_Mod_items_81 : decode prog_10_method_13_code 81 = .ok (.istore 5, 2) := by decide +kernel
theorem dc_Mod_items_83 : decode prog_10_method_13_code 83 = .ok (.iinc 3 1, 3) := by decide +kernel
theorem dc_Mod_items_86 : decode prog_10_method_13_code 86 = .ok (.iinc 4 1, 3) := by decide +kernel
theorem dc_Mod_items_89 : decode prog_10_method_13_code 89 = .ok (.iload_n 3, 1) := by decide +kernel
theorem dc_Mod_items_90 : decode prog_10_method_13_code 90 = .ok (.iload_n 2, 1) := by decide +kernel
theorem dc_Mod_items_91 : decode prog_10_method_13_code 91 = .ok (.if_icmp .ge 76, 3) := by decide +kernel
theorem dc_Mod_items_94 : decode prog_10_method_13_code 94 = .ok (.aload_n 0, 1) := by decide +kernel
theorem dc_Mod_items_95 : decode prog_10_method_13_code 95 = .ok (.getfield 16, 3) := by decide +kernel
theorem dc_Mod_items_98 : decode prog_10_method_13_code 98 = .ok (.iload_n 3, 1) := by decide +kernel
theorem dc_Mod_items_99 : decode prog_10_method_13_code 99 = .ok (.iaload, 1) := by decide +kernel
theorem dc_Mod_items_100 : decode prog_10_method_13_code 100 = .ok (.bipush 45, 2) := by decide +kernel
theorem dc_Mod_items_102 : decode prog_10_method_13_code 102 = .ok (.if_icmp .ne 65, 3) := by decide +kernel
theorem dc_Mod_items_105 : decode prog_10_method_13_code 105 = .ok (.iinc 3 1, 3) := by decide +kernel
theorem dc_Mod_items_108 : decode prog_10_method_13_code 108 = .ok (.iload_n 3, 1) := by decide +kernel
theorem dc_Mod_items_109 : decode prog_10_method_13_code 109 = .ok (.iload_n 2, 1) := by decide +kernel
theorem dc_Mod_items_110 : decode prog_10_method_13_code 110 = .ok (.if_icmp .ge 31, 3) := by decide +kernel
theorem dc_Mod_items_113 : decode prog_10_method_13_code 113 = .ok (.aload_n 0, 1) := by decide +kernel
theorem dc_Mod_items_114 : decode prog_10_method_13_code 114 = .ok (.getfield 16, 3) := by decide +kernel
theorem dc_Mod_items_117 : decode prog_10_method_13_code 117 = .ok (.iload_n 3, 1) := by decide +kernel
theorem dc_Mod_items_118 : decode prog_10_method_13_code 118 = .ok (.iaload, 1) := by decide +kernel
theorem dc_Mod_items_119 : decode prog_10_method_13_code 119 = .ok (.invokestatic 123, 3) := by decide +kernel
theorem dc_Mod_items_122 : decode prog_10_method_13_code 122 = .ok (.ifCond .eq 14, 3) := by decide +kernel
theorem dc_Mod_items_125 : decode prog_10_method_13_code 125 = .ok (.aload_n 0, 1) := by decide +kernel
theorem dc_Mod_items_126 : decode prog_10_method_13_code 126 = .ok (.getfield 16, 3) := by decide +kernel
theorem dc_Mod_items_129 : decode prog_10_method_13_code 129 = .ok (.iload_n 3, 1) := by decide +kernel
theorem dc_Mod_items_130 : decode prog_10_method_13_code 130 = .ok (.iaload, 1) := by decide +kernel
theorem dc_Mod_items_131 : decode prog_10_method_13_code 131 = .ok (.iload 5, 2) := by decide +kernel
theorem dc_Mod_items_133 : decode prog_10_method_13_code 133 = .ok (.if_icmp .ge 8, 3) := by decide +kernel
theorem dc_Mod_items_136 : decode prog_10_method_13_code 136 = .ok (.aload_n 0, 1) := by decide +kernel
theorem dc_Mod_items_137 : decode prog_10_method_13_code 137 = .ok (.iload_n 3, 1) := by decide +kernel
theorem dc_Mod_items_138 : decode prog_10_method_13_code 138 = .ok (.invokevirtual 127, 3) := by decide +kernel
theorem dc_Mod_items_141 : decode prog_10_method_13_code 141 = .ok (.iload_n 3, 1) := by decide +kernel
theorem dc_Mod_items_142 : decode prog_10_method_13_code 142 = .ok (.iload_n 2, 1) := by decide +kernel
theorem dc_Mod_items_143 : decode prog_10_method_13_code 143 = .ok (.if_icmp .ge 8, 3) := by decide +kernel
theorem dc_Mod_items_146 : decode prog_10_method_13_code 146 = .ok (.iload 4, 2) := by decide +kernel
theorem dc_Mod_items_148 : decode prog_10_method_13_code 148 = .ok (.goto 4, 3) := by decide +kernel
theorem dc_Mod_items_151 : decode prog_10_method_13_code 151 = .ok (.iconst 0, 1) := by decide +kernel
theorem dc_Mod_items_152 : decode prog_10_method_13_code 152 = .ok (.istore 4, 2) := by decide +kernel
theorem dc_Mod_items_154 : decode prog_10_method_13_code 154 = .ok (.iload_n 3, 1) := by decide +kernel
theorem dc_Mod_items_155 : decode prog_10_method_13_code 155 = .ok (.iload_n 2, 1) := by decide +kernel
theorem dc_Mod_items_156 : decode prog_10_method_13_code 156 = .ok (.if_icmp .ge 9, 3) := by decide +kernel
theorem dc_Mod_items_159 : decode prog_10_method_13_code 159 = .ok (.iload_n 3, 1) := by decide +kernel
theorem dc_Mod_items_160 : decode prog_10_method_13_code 160 = .ok (.iconst 1, 1) := by decide +kernel
theorem dc_Mod_items_161 : decode prog_10_method_13_code 161 = .ok (.iadd, 1) := by decide +kernel
theorem dc_Mod_items_162 : decode prog_10_method_13_code 162 = .ok (.goto 4, 3) := by decide +kernel
theorem dc_Mod_items_165 : decode prog_10_method_13_code 165 = .ok (.iload_n 3, 1) := by decide +kernel
theorem dc_Mod_items_166 : decode prog_10_method_13_code 166 = .ok (.istore_n 3, 1) := by decide +kernel
theorem dc_Mod_items_167 : decode prog_10_method_13_code 167 = .ok (.goto (-138), 3) := by decide +kernel
theorem dc_Mod_items_170 : decode prog_10_method_13_code 170 = .ok (.iload_n 3, 1) := by decide +kernel
theorem dc_Mod_items_171 : decode prog_10_method_13_code 171 = .ok (.iload_n 2, 1) := by decide +kernel
theorem dc_Mod_items_172 : decode prog_10_method_13_code 172 = .ok (.if_icmp .lt 8, 3) := by decide +kernel
theorem dc_Mod_items_175 : decode prog_10_method_13_code 175 = .ok (.aload_n 0, 1) := by decide +kernel
theorem dc_Mod_items_176 : decode prog_10_method_13_code 176 = .ok (.iload_n 2, 1) := by decide +kernel
theorem dc_Mod_items_177 : decode prog_10_method_13_code 177 = .ok (.invokevirtual 127, 3) := by decide +kernel
theorem dc_Mod_items_180 : decode prog_10_method_13_code 180 = .ok (.iload_n 3, 1) := by decide +kernel
theorem dc_Mod_items_181 : decode prog_10_method_13_code 181 = .ok (.ireturn, 1) := by decide +kernel
theorem dc_Mod_draw_0 : decode prog_10_method_14_code 0 = .ok (.bipush 60, 2) := by decide +kernel
theorem dc_Mod_draw_2 : decode prog_10_method_14_code 2 = .ok (.iload_n 1, 1) := by decide +kernel
theorem dc_Mod_draw_3 : decode prog_10_method_14_code 3 = .ok (.imul, 1) := by decide +kernel
theorem dc_Mod_draw_4 : decode prog_10_method_14_code 4 = .ok (.istore_n 2, 1) := by decide +kernel
theorem dc_Mod_draw_5 : decode prog_10_method_14_code 5 = .ok (.iload_n 2, 1) := by decide +kernel
theorem dc_Mod_draw_6 : decode prog_10_method_14_code 6 = .ok (.aload_n 0, 1) := by decide +kernel
theorem dc_Mod_draw_7 : decode prog_10_method_14_code 7 = .ok (.getfield 19, 3) := by decide +kernel
theorem dc_Mod_draw_10 : decode prog_10_method_14_code 10 = .ok (.iload_n 1, 1) := by decide +kernel
theorem dc_Mod_draw_11 : decode prog_10_method_14_code 11 = .ok (.iaload, 1) := by decide +kernel
theorem dc_Mod_draw_12 : decode prog_10_method_14_code 12 = .ok (.iadd, 1) := by decide +kernel
theorem dc_Mod_draw_13 : decode prog_10_method_14_code 13 = .ok (.istore_n 3, 1) := by decide +kernel
theorem dc_Mod_draw_14 : decode prog_10_method_14_code 14 = .ok (.aload_n 0, 1) := by decide +kernel
theorem dc_Mod_draw_15 : decode prog_10_method_14_code 15 = .ok (.iconst 2, 1) := by decide +kernel
theorem dc_Mod_draw_16 : decode prog_10_method_14_code 16 = .ok (.putfield 114, 3) := by decide +kernel
theorem dc_Mod_draw_19 : decode prog_10_method_14_code 19 = .ok (.aload_n 0, 1) := by decide +kernel
theorem dc_Mod_draw_20 : decode prog_10_method_14_code 20 = .ok (.iconst 0, 1) := by decide +kernel
theorem dc_Mod_draw_21 : decode prog_10_method_14_code 21 = .ok (.putfield 117, 3) := by decide +kernel
theorem dc_Mod_draw_24 : decode prog_10_method_14_code 24 = .ok (.aload_n 0, 1) := by decide +kernel
theorem dc_Mod_draw_25 : decode prog_10_method_14_code 25 = .ok (.iconst (-1), 1) := by decide +kernel
theorem dc_Mod_draw_26 : decode prog_10_method_14_code 26 = .ok (.putfield 120, 3) := by decide +kernel
theorem dc_Mod_draw_29 : decode prog_10_method_14_code 29 = .ok (.iconst 0, 1) := by decide +kernel
theorem dc_Mod_draw_30 : decode prog_10_method_14_code 30 = .ok (.istore 4, 2) := by decide +kernel
theorem dc_Mod_draw_32 : decode prog_10_method_14_code 32 = .ok (.aload_n 0, 1) := by decide +kernel
theorem dc_Mod_draw_33 : decode prog_10_method_14_code 33 = .ok (.getfield 90, 3) := by decide +kernel
theorem dc_Mod_draw_36 : decode prog_10_method_14_code 36 = .ok (.iconst 0, 1) := by decide +kernel
theorem dc_Mod_draw_37 : decode prog_10_method_14_code 37 = .ok (.iconst 0, 1) := by decide +kernel
theorem dc_Mod_draw_38 : decode prog_10_method_14_code 38 = .ok (.iastore, 1) := by decide +kernel
theorem dc_Mod_draw_39 : decode prog_10_method_14_code 39 = .ok (.aload_n 0, 1) := by decide +kernel
theorem dc_Mod_draw_40 : decode prog_10_method_14_code 40 = .ok (.getfield 93, 3) := by decide +kernel
theorem dc_Mod_draw_43 : decode prog_10_method_14_code 43 = .ok (.iconst 0, 1) := by decide +kernel
theorem dc_Mod_draw_44 : decode prog_10_method_14_code 44 = .ok (.iconst 1, 1) := by decide +kernel
theorem dc_Mod_draw_45 : decode prog_10_method_14_code 45 = .ok (.iastore, 1) := by decide +kernel
theorem dc_Mod_draw_46 : decode prog_10_method_14_code 46 = .ok (.aload_n 0, 1) := by decide +kernel
theorem dc_Mod_draw_47 : decode prog_10_method_14_code 47 = .ok (.invokevirtual 130, 3) := by decide +kernel
theorem dc_Mod_draw_50 : decode prog_10_method_14_code 50 = .ok (.istore 5, 2) := by decide +kernel
theorem dc_Mod_draw_52 : decode prog_10_method_14_code 52 = .ok (.aload_n 0, 1) := by decide +kernel
theorem dc_Mod_draw_53 : decode prog_10_method_14_code 53 = .ok (.iconst 0, 1) := by decide +kernel
theorem dc_Mod_draw_54 : decode prog_10_method_14_code 54 = .ok (.iload 5, 2) := by decide +kernel
theorem dc_Mod_draw_56 : decode prog_10_method_14_code 56 = .ok (.iconst 0, 1) := by decide +kernel
theorem dc_Mod_draw_57 : decode prog_10_method_14_code 57 = .ok (.iconst 0, 1) := by decide +kernel
theorem dc_Mod_draw_58 : decode prog_10_method_14_code 58 = .ok (.invokevirtual 134, 3) := by decide +kernel
theorem dc_Mod_draw_61 : decode prog_10_method_14_code 61 = .ok (.iconst (-1), 1) := by decide +kernel
theorem dc_Mod_draw_62 : decode prog_10_method_14_code 62 = .ok (.istore 6, 2) := by decide +kernel
theorem dc_Mod_draw_64 : decode prog_10_method_14_code 64 = .ok (.iload_n 2, 1) := by decide +kernel
theorem dc_Mod_draw_65 : decode prog_10_method_14_code 65 = .ok (.istore 7, 2) := by decide +kernel
theorem dc_Mod_draw_67 : decode prog_10_method_14_code 67 = .ok (.iload 7, 2) := by decide +kernel
theorem dc_Mod_draw_69 : decode prog_10_method_14_code 69 = .ok (.iload_n 3, 1) := by decide +kernel
theorem dc_Mod_draw_70 : decode prog_10_method_14_code 70 = .ok (.if_icmp .ge 451, 3) := by decide +kernel
theorem dc_Mod_draw_73 : decode prog_10_method_14_code 73 = .ok (.aload_n 0, 1) := by decide +kernel
theorem dc_Mod_draw_74 : decode prog_10_method_14_code 74 = .ok (.getfield 120, 3) := by decide +kernel
theorem dc_Mod_draw_77 : decode prog_10_method_14_code 77 = .ok (.iconst (-1), 1) := by decide +kernel
theorem dc_Mod_draw_78 : decode prog_10_method_14_code 78 = .ok (.if_icmp .ne 443, 3) := by decide +kernel
theorem dc_Mod_draw_81 : decode prog_10_method_14_code 81 = .ok (.aload_n 0, 1) := by decide +kernel
theorem dc_Mod_draw_82 : decode prog_10_method_14_code 82 = .ok (.getfield 16, 3) := by decide +kernel
theorem dc_Mod_draw_85 : decode prog_10_method_14_code 85 = .ok (.iload 7, 2) := by decide +kernel
theorem dc_Mod_draw_87 : decode prog_10_method_14_code 87 = .ok (.iaload, 1) := by decide +kernel
theorem dc_Mod_draw_88 : decode prog_10_method_14_code 88 = .ok (.istore 8, 2) := by decide +kernel
theorem dc_Mod_draw_90 : decode prog_10_method_14_code 90 = .ok (.iload 8, 2) := by decide +kernel
theorem dc_Mod_draw_92 : decode prog_10_method_14_code 92 = .ok (.bipush 42, 2) := by decide +kernel
theorem dc_Mod_draw_94 : decode prog_10_method_14_code 94 = .ok (.if_icmp .eq 17, 3) := by decide +kernel
theorem dc_Mod_draw_97 : decode prog_10_method_14_code 97 = .ok (.iload 8, 2) := by decide +kernel
theorem dc_Mod_draw_99 : decode prog_10_method_14_code 99 = .ok (.bipush 43, 2) := by decide +kernel
theorem dc_Mod_draw_101 : decode prog_10_method_14_code 101 = .ok (.if_icmp .eq 10, 3) := by decide +kernel
theorem dc_Mod_draw_104 : decode prog_10_method_14_code 104 = .ok (.iload 8, 2) := by decide +kernel
theorem dc_Mod_draw_106 : decode prog_10_method_14_code 106 = .ok (.bipush 63, 2) := by decide +kernel
theorem dc_Mod_draw_108 : decode prog_10_method_14_code 108 = .ok (.if_icmp .ne 55, 3) := by decide +kernel
theorem dc_Mod_draw_111 : decode prog_10_method_14_code 111 = .ok (.iload 6, 2) := by decide +kernel
theorem dc_Mod_draw_113 : decode prog_10_method_14_code 113 = .ok (.iconst (-1), 1) := by decide +kernel
theorem dc_Mod_draw_114 : decode prog_10_method_14_code 114 = .ok (.if_icmp .ne 12, 3) := by decide +kernel
theorem dc_Mod_draw_117 : decode prog_10_method_14_code 117 = .ok (.aload_n 0, 1) := by decide +kernel
theorem dc_Mod_draw_118 : decode prog_10_method_14_code 118 = .ok (.iload 7, 2) := by decide +kernel
theorem dc_Mod_draw_120 : decode prog_10_method_14_code 120 = .ok (.invokevirtual 127, 3) := by decide +kernel
theorem dc_Mod_draw_123 : decode prog_10_method_14_code 123 = .ok (.goto 392, 3) := by decide +kernel
theorem dc_Mod_draw_126 : decode prog_10_method_14_code 126 = .ok (.iload 8, 2) := by decide +kernel
theorem dc_Mod_draw_128 : decode prog_10_method_14_code 128 = .ok (.bipush 43, 2) := by decide +kernel
theorem dc_Mod_draw_130 : decode prog_10_method_14_code 130 = .ok (.if_icmp .eq 13, 3) := by decide +kernel
theorem dc_Mod_draw_133 : decode prog_10_method_14_code 133 = .ok (.aload_n 0, 1) := by decide +kernel
theorem dc_Mod_draw_134 : decode prog_10_method_14_code 134 = .ok (.iload 6, 2) := by decide +kernel
theorem dc_Mod_draw_136 : decode prog_10_method_14_code 136 = .ok (.iload 5, 2) := by decide +kernel
theorem dc_Mod_draw_138 : decode prog_10_method_14_code 138 = .ok (.iconst 0, 1) := by decide +kernel
theorem dc_Mod_draw_139 : decode prog_10_method_14_code 139 = .ok (.iconst 0, 1) := by decide +kernel
theorem dc_Mod_draw_140 : decode prog_10_method_14_code 140 = .ok (.invokevirtual 134, 3) := by decide +kernel
theorem dc_Mod_draw_143 : decode prog_10_method_14_code 143 = .ok (.iload 8, 2) := by decide +kernel
theorem dc_Mod_draw_145 : decode prog_10_method_14_code 145 = .ok (.bipush 63, 2) := by decide +kernel
theorem dc_Mod_draw_147 : decode prog_10_method_14_code 147 = .ok (.if_icmp .eq 368, 3) := by decide +kernel
theorem dc_Mod_draw_150 : decode prog_10_method_14_code 150 = .ok (.aload_n 0, 1) := by decide +kernel
theorem dc_Mod_draw_151 : decode prog_10_method_14_code 151 = .ok (.iload 5, 2) := by decide +kernel
theorem dc_Mod_draw_153 : decode prog_10_method_14_code 153 = .ok (.iload 6, 2) := by decide +kernel
theorem dc_Mod_draw_155 : decode prog_10_method_14_code 155 = .ok (.iconst 0, 1) := by decide +kernel
theorem dc_Mod_draw_156 : decode prog_10_method_14_code 156 = .ok (.iconst 0, 1) := by decide +kernel
theorem dc_Mod_draw_157 : decode prog_10_method_14_code 157 = .ok (.invokevirtual 134, 3) := by decide +kernel
theorem dc_Mod_draw_160 : decode prog_10_method_14_code 160 = .ok (.goto 355, 3) := by decide +kernel
theorem dc_Mod_draw_163 : decode prog_10_method_14_code 163 = .ok (.iload 8, 2) := by decide +kernel
theorem dc_Mod_draw_165 : decode prog_10_method_14_code 165 = .ok (.bipush 124, 2) := by decide +kernel
theorem dc_Mod_draw_167 : decode prog_10_method_14_code 167 = .ok (.if_icmp .ne 45, 3) := by decide +kernel
theorem dc_Mod_draw_170 : decode prog_10_method_14_code 170 = .ok (.aload_n 0, 1) := by decide +kernel
theorem dc_Mod_draw_171 : decode prog_10_method_14_code 171 = .ok (.iload 5, 2) := by decide +kernel
theorem dc_Mod_draw_173 : decode prog_10_method_14_code 173 = .ok (.aload_n 0, 1) := by decide +kernel
theorem dc_Mod_draw_174 : decode prog_10_method_14_code 174 = .ok (.getfield 93, 3) := by decide +kernel
theorem dc_Mod_draw_177 : decode prog_10_method_14_code 177 = .ok (.iload 4, 2) := by decide +kernel
theorem dc_Mod_draw_179 : decode prog_10_method_14_code 179 = .ok (.iaload, 1) := by decide +kernel
theorem dc_Mod_draw_180 : decode prog_10_method_14_code 180 = .ok (.iconst 0, 1) := by decide +kernel
theorem dc_Mod_draw_181 : decode prog_10_method_14_code 181 = .ok (.iconst 0, 1) := by decide +kernel
theorem dc_Mod_draw_182 : decode prog_10_method_14_code 182 = .ok (.invokevirtual 134, 3) := by decide +kernel
theorem dc_Mod_draw_185 : decode prog_10_method_14_code 185 = .ok (.aload_n 0, 1) := by decide +kernel
theorem dc_Mod_draw_186 : decode prog_10_method_14_code 186 = .ok (.invokevirtual 130, 3) := by decide +kernel
theorem dc_Mod_draw_189 : decode prog_10_method_14_code 189 = .ok (.istore 5, 2) := by decide +kernel
theorem dc_Mod_draw_191 : decode prog_10_method_14_code 191 = .ok (.aload_n 0, 1) := by decide +kernel
theorem dc_Mod_draw_192 : decode prog_10_method_14_code 192 = .ok (.aload_n 0, 1) := by decide +kernel
theorem dc_Mod_draw_193 : decode prog_10_method_14_code 193 = .ok (.getfield 90, 3) := by decide +kernel
theorem dc_Mod_draw_196 : decode prog_10_method_14_code 196 = .ok (.iload 4, 2) := by decide +kernel
theorem dc_Mod_draw_198 : decode prog_10_method_14_code 198 = .ok (.iaload, 1) := by decide +kernel
theorem dc_Mod_draw_199 : decode prog_10_method_14_code 199 = .ok (.iload 5, 2) := by decide +kernel
theorem dc_Mod_draw_201 : decode prog_10_method_14_code 201 = .ok (.iconst 0, 1) := by decide +kernel
theorem dc_Mod_draw_202 : decode prog_10_method_14_code 202 = .ok (.iconst 0, 1) := by decide +kernel
theorem dc_Mod_draw_203 : decode prog_10_method_14_code 203 = .ok (.invokevirtual 134, 3) := by decide +kernel
theorem dc_Mod_draw_206 : decode prog_10_method_14_code 206 = .ok (.iconst (-1), 1) := by decide +kernel
theorem dc_Mod_draw_207 : decode prog_10_method_14_code 207 = .ok (.istore 6, 2) := by decide +kernel
theorem dc_Mod_draw_209 : decode prog_10_method_14_code 209 = .ok (.goto 306, 3) := by decide +kernel
theorem dc_Mod_draw_212 : decode prog_10_method_14_code 212 = .ok (.iload 8, 2) := by decide +kernel
theorem dc_Mod_draw_214 : decode prog_10_method_14_code 214 = .ok (.bipush 40, 2) := by decide +kernel
theorem dc_Mod_draw_216 : decode prog_10_method_14_code 216 = .ok (.if_icmp .ne 114, 3) := by decide +kernel
theorem dc_Mod_draw_219 : decode prog_10_method_14_code 219 = .ok (.iload 4, 2) := by decide +kernel
theorem dc_Mod_draw_221 : decode prog_10_method_14_code 221 = .ok (.bipush 10, 2) := by decide +kernel
theorem dc_Mod_draw_223 : decode prog_10_method_14_code 223 = .ok (.if_icmp .ne 9, 3) := by decide +kernel
theorem dc_Mod_draw_226 : decode prog_10_method_14_code 226 = .ok (.aload_n 0, 1) := by decide +kernel
theorem dc_Mod_draw_227 : decode prog_10_method_14_code 227 = .ok (.iload 7, 2) := by decide +kernel
theorem dc_Mod_draw_229 : decode prog_10_method_14_code 229 = .ok (.invokevirtual 127, 3) := by decide +kernel
theorem dc_Mod_draw_232 : decode prog_10_method_14_code 232 = .ok (.iinc 4 1, 3) := by decide +kernel
theorem dc_Mod_draw_235 : decode prog_10_method_14_code 235 = .ok (.aload_n 0, 1) := by decide +kernel
theorem dc_Mod_draw_236 : decode prog_10_method_14_code 236 = .ok (.getfield 96, 3) := by decide +kernel
theorem dc_Mod_draw_239 : decode prog_10_method_14_code 239 = .ok (.iload 4, 2) := by decide +kernel
theorem dc_Mod_draw_241 : decode prog_10_method_14_code 241 = .ok (.aload_n 0, 1) := by decide +kernel
theorem dc_Mod_draw_242 : decode prog_10_method_14_code 242 = .ok (.invokevirtual 130, 3) := by decide +kernel
theorem dc_Mod_draw_245 : decode prog_10_method_14_code 245 = .ok (.iastore, 1) := by decide +kernel
theorem dc_Mod_draw_246 : decode prog_10_method_14_code 246 = .ok (.aload_n 0, 1) := by decide +kernel
theorem dc_Mod_draw_247 : decode prog_10_method_14_code 247 = .ok (.iload 5, 2) := by decide +kernel
theorem dc_Mod_draw_249 : decode prog_10_method_14_code 249 = .ok (.aload_n 0, 1) := by decide +kernel
theorem dc_Mod_draw_250 : decode prog_10_method_14_code 250 = .ok (.getfield 96, 3) := by decide +kernel
theorem dc_Mod_draw_253 : decode prog_10_method_14_code 253 = .ok (.iload 4, 2) := by decide +kernel
theorem dc_Mod_draw_255 : decode prog_10_method_14_code 255 = .ok (.iaload, 1) := by decide +kernel
theorem dc_Mod_draw_256 : decode prog_10_method_14_code 256 = .ok (.iconst 0, 1) := by decide +kernel
theorem dc_Mod_draw_257 : decode prog_10_method_14_code 257 = .ok (.iconst 0, 1) := by decide +kernel
theorem dc_Mod_draw_258 : decode prog_10_method_14_code 258 = .ok (.invokevirtual 134, 3) := by decide +kernel
theorem dc_Mod_draw_261 : decode prog_10_method_14_code 261 = .ok (.aload_n 0, 1) := by decide +kernel
theorem dc_Mod_draw_262 : decode prog_10_method_14_code 262 = .ok (.getfield 90, 3) := by decide +kernel
theorem dc_Mod_draw_265 : decode prog_10_method_14_code 265 = .ok (.iload 4, 2) := by decide +kernel
theorem dc_Mod_draw_267 : decode prog_10_method_14_code 267 = .ok (.aload_n 0, 1) := by decide +kernel
theorem dc_Mod_draw_268 : decode prog_10_method_14_code 268 = .ok (.invokevirtual 130, 3) := by decide +kernel
theorem dc_Mod_draw_271 : decode prog_10_method_14_code 271 = .ok (.iastore, 1) := by decide +kernel
theorem dc_Mod_draw_272 : decode prog_10_method_14_code 272 = .ok (.aload_n 0, 1) := by decide +kernel
theorem dc_Mod_draw_273 : decode prog_10_method_14_code 273 = .ok (.getfield 93, 3) := by decide +kernel
theorem dc_Mod_draw_276 : decode prog_10_method_14_code 276 = .ok (.iload 4, 2) := by decide +kernel
theorem dc_Mod_draw_278 : decode prog_10_method_14_code 278 = .ok (.aload_n 0, 1) := by decide +kernel
theorem dc_Mod_draw_279 : decode prog_10_method_14_code 279 = .ok (.invokevirtual 130, 3) := by decide +kernel
theorem dc_Mod_draw_282 : decode prog_10_method_14_code 282 = .ok (.iastore, 1) := by decide +kernel
theorem dc_Mod_draw_283 : decode prog_10_method_14_code 283 = .ok (.aload_n 0, 1) := by decide +kernel
theorem dc_Mod_draw_284 : decode prog_10_method_14_code 284 = .ok (.aload_n 0, 1) := by decide +kernel
theorem dc_Mod_draw_285 : decode prog_10_method_14_code 285 = .ok (.getfield 96, 3) := by decide +kernel
theorem dc_Mod_draw_288 : decode prog_10_method_14_code 288 = .ok (.iload 4, 2) := by decide +kernel
theorem dc_Mod_draw_290 : decode prog_10_method_14_code 290 = .ok (.iaload, 1) := by decide +kernel
theorem dc_Mod_draw_291 : decode prog_10_method_14_code 291 = .ok (.aload_n 0, 1) := by decide +kernel
theorem dc_Mod_draw_292 : decode prog_10_method_14_code 292 = .ok (.getfield 90, 3) := by decide +kernel
theorem dc_Mod_draw_295 : decode prog_10_method_14_code 295 = .ok (.iload 4, 2) := by decide +kernel
theorem dc_Mod_draw_297 : decode prog_10_method_14_code 297 = .ok (.iaload, 1) := by decide +kernel
theorem dc_Mod_draw_298 : decode prog_10_method_14_code 298 = .ok (.iconst 0, 1) := by decide +kernel
theorem dc_Mod_draw_299 : decode prog_10_method_14_code 299 = .ok (.iconst 0, 1) := by decide +kernel
theorem dc_Mod_draw_300 : decode prog_10_method_14_code 300 = .ok (.invokevirtual 134, 3) := by decide +kernel
theorem dc_Mod_draw_303 : decode prog_10_method_14_code 303 = .ok (.aload_n 0, 1) := by decide +kernel
theorem dc_Mod_draw_304 : decode prog_10_method_14_code 304 = .ok (.invokevirtual 130, 3) := by decide +kernel
theorem dc_Mod_draw_307 : decode prog_10_method_14_code 307 = .ok (.istore 5, 2) := by decide +kernel
theorem dc_Mod_draw_309 : decode prog_10_method_14_code 309 = .ok (.aload_n 0, 1) := by decide +kernel
theorem dc_Mod_draw_310 : decode prog_10_method_14_code 310 = .ok (.aload_n 0, 1) := by decide +kernel
theorem dc_Mod_draw_311 : decode prog_10_method_14_code 311 = .ok (.getfield 90, 3) := by decide +kernel
theorem dc_Mod_draw_314 : decode prog_10_method_14_code 314 = .ok (.iload 4, 2) := by decide +kernel
theorem dc_Mod_draw_316 : decode prog_10_method_14_code 316 = .ok (.iaload, 1) := by decide +kernel
theorem dc_Mod_draw_317 : decode prog_10_method_14_code 317 = .ok (.iload 5, 2) := by decide +kernel
theorem dc_Mod_draw_319 : decode prog_10_method_14_code 319 = .ok (.iconst 0, 1) := by decide +kernel
theorem dc_Mod_draw_320 : decode prog_10_method_14_code 320 = .ok (.iconst 0, 1) := by decide +kernel
theorem dc_Mod_draw_321 : decode prog_10_method_14_code 321 = .ok (.invokevirtual 134, 3) := by decide +kernel
theorem dc_Mod_draw_324 : decode prog_10_method_14_code 324 = .ok (.iconst (-1), 1) := by decide +kernel
theorem dc_Mod_draw_325 : decode prog_10_method_14_code 325 = .ok (.istore 6, 2) := by decide +kernel
theorem dc_Mod_draw_327 : decode prog_10_method_14_code 327 = .ok (.goto 188, 3) := by decide +kernel
theorem dc_Mod_draw_330 : decode prog_10_method_14_code 330 = .ok (.iload 8, 2) := by decide +kernel
theorem dc_Mod_draw_332 : decode prog_10_method_14_code 332 = .ok (.bipush 41, 2) := by decide +kernel
theorem dc_Mod_draw_334 : decode prog_10_method_14_code 334 = .ok (.if_icmp .ne 68, 3) := by decide +kernel
theorem dc_Mod_draw_337 : decode prog_10_method_14_code 337 = .ok (.iload 4, 2) := by decide +kernel
theorem dc_Mod_draw_339 : decode prog_10_method_14_code 339 = .ok (.ifCond .ne 12, 3) := by decide +kernel
theorem dc_Mod_draw_342 : decode prog_10_method_14_code 342 = .ok (.aload_n 0, 1) := by decide +kernel
theorem dc_Mod_draw_343 : decode prog_10_method_14_code 343 = .ok (.iload 7, 2) := by decide +kernel
theorem dc_Mod_draw_345 : decode prog_10_method_14_code 345 = .ok (.invokevirtual 127, 3) := by decide +kernel
theorem dc_Mod_draw_348 : decode prog_10_method_14_code 348 = .ok (.goto 167, 3) := by decide +kernel
theorem dc_Mod_draw_351 : decode prog_10_method_14_code 351 = .ok (.aload_n 0, 1) := by decide +kernel
theorem dc_Mod_draw_352 : decode prog_10_method_14_code 352 = .ok (.iload 5, 2) := by decide +kernel
theorem dc_Mod_draw_354 : decode prog_10_method_14_code 354 = .ok (.aload_n 0, 1) := by decide +kernel
theorem dc_Mod_draw_355 : decode prog_10_method_14_code 355 = .ok (.getfield 93, 3) := by decide +kernel
theorem dc_Mod_draw_358 : decode prog_10_method_14_code 358 = .ok (.iload 4, 2) := by decide +kernel
theorem dc_Mod_draw_360 : decode prog_10_method_14_code 360 = .ok (.iaload, 1) := by decide +kernel
theorem dc_Mod_draw_361 : decode prog_10_method_14_code 361 = .ok (.iconst 0, 1) := by decide +kernel
theorem dc_Mod_draw_362 : decode prog_10_method_14_code 362 = .ok (.iconst 0, 1) := by decide +kernel
theorem dc_Mod_draw_363 : decode prog_10_method_14_code 363 = .ok (.invokevirtual 134, 3) := by decide +kernel
theorem dc_Mod_draw_366 : decode prog_10_method_14_code 366 = .ok (.aload_n 0, 1) := by decide +kernel
theorem dc_Mod_draw_367 : decode prog_10_method_14_code 367 = .ok (.invokevirtual 130, 3) := by decide +kernel
theorem dc_Mod_draw_370 : decode prog_10_method_14_code 370 = .ok (.istore 5, 2) := by decide +kernel
theorem dc_Mod_draw_372 : decode prog_10_method_14_code 372 = .ok (.aload_n 0, 1) := by decide +kernel
theorem dc_Mod_draw_373 : decode prog_10_method_14_code 373 = .ok (.aload_n 0, 1) := by decide +kernel
theorem dc_Mod_draw_374 : decode prog_10_method_14_code 374 = .ok (.getfield 93, 3) := by decide +kernel
theorem dc_Mod_draw_377 : decode prog_10_method_14_code 377 = .ok (.iload 4, 2) := by decide +kernel
theorem dc_Mod_draw_379 : decode prog_10_method_14_code 379 = .ok (.iaload, 1) := by decide +kernel
theorem dc_Mod_draw_380 : decode prog_10_method_14_code 380 = .ok (.iload 5, 2) := by decide +kernel
theorem dc_Mod_draw_382 : decode prog_10_method_14_code 382 = .ok (.iconst 0, 1) := by decide +kernel
theorem dc_Mod_draw_383 : decode prog_10_method_14_code 383 = .ok (.iconst 0, 1) := by decide +kernel
theorem dc_Mod_draw_384 : decode prog_10_method_14_code 384 = .ok (.invokevirtual 134, 3) := by decide +kernel
theorem dc_Mod_draw_387 : decode prog_10_method_14_code 387 = .ok (.aload_n 0, 1) := by decide +kernel
theorem dc_Mod_draw_388 : decode prog_10_method_14_code 388 = .ok (.getfield 96, 3) := by decide +kernel
theorem dc_Mod_draw_391 : decode prog_10_method_14_code 391 = .ok (.iload 4, 2) := by decide +kernel
theorem dc_Mod_draw_393 : decode prog_10_method_14_code 393 = .ok (.iaload, 1) := by decide +kernel
theorem dc_Mod_draw_394 : decode prog_10_method_14_code 394 = .ok (.istore 6, 2) := by decide +kernel
theorem dc_Mod_draw_396 : decode prog_10_method_14_code 396 = .ok (.iinc 4 (-1), 3) := by decide +kernel
theorem dc_Mod_draw_399 : decode prog_10_method_14_code 399 = .ok (.goto 116, 3) := by decide +kernel
theorem dc_Mod_draw_402 : decode prog_10_method_14_code 402 = .ok (.iload 8, 2) := by decide +kernel
theorem dc_Mod_draw_404 : decode prog_10_method_14_code 404 = .ok (.bipush 93, 2) := by decide +kernel
theorem dc_Mod_draw_406 : decode prog_10_method_14_code 406 = .ok (.if_icmp .ne 12, 3) := by decide +kernel
theorem dc_Mod_draw_409 : decode prog_10_method_14_code 409 = .ok (.aload_n 0, 1) := by decide +kernel
theorem dc_Mod_draw_410 : decode prog_10_method_14_code 410 = .ok (.iload 7, 2) := by decide +kernel
theorem dc_Mod_draw_412 : decode prog_10_method_14_code 412 = .ok (.invokevirtual 127, 3) := by decide +kernel
theorem dc_Mod_draw_415 : decode prog_10_method_14_code 415 = .ok (.goto 100, 3) := by decide +kernel
theorem dc_Mod_draw_418 : decode prog_10_method_14_code 418 = .ok (.aload_n 0, 1) := by decide +kernel
theorem dc_Mod_draw_419 : decode prog_10_method_14_code 419 = .ok (.invokevirtual 130, 3) := by decide +kernel
theorem dc_Mod_draw_422 : decode prog_10_method_14_code 422 = .ok (.istore 6, 2) := by decide +kernel
theorem dc_Mod_draw_424 : decode prog_10_method_14_code 424 = .ok (.aload_n 0, 1) := by decide +kernel
theorem dc_Mod_draw_425 : decode prog_10_method_14_code 425 = .ok (.iload 5, 2) := by decide +kernel
theorem dc_Mod_draw_427 : decode prog_10_method_14_code 427 = .ok (.iload 6, 2) := by decide +kernel
theorem dc_Mod_draw_429 : decode prog_10_method_14_code 429 = .ok (.iconst 0, 1) := by decide +kernel
theorem dc_Mod_draw_430 : decode prog_10_method_14_code 430 = .ok (.iconst 0, 1) := by decide +kernel
theorem dc_Mod_draw_431 : decode prog_10_method_14_code 431 = .ok (.invokevirtual 134, 3) := by decide +kernel
theorem dc_Mod_draw_434 : decode prog_10_method_14_code 434 = .ok (.aload_n 0, 1) := by decide +kernel
theorem dc_Mod_draw_435 : decode prog_10_method_14_code 435 = .ok (.invokevirtual 130, 3) := by decide +kernel
theorem dc_Mod_draw_438 : decode prog_10_method_14_code 438 = .ok (.istore 5, 2) := by decide +kernel
theorem dc_Mod_draw_440 : decode prog_10_method_14_code 440 = .ok (.aload_n 0, 1) := by decide +kernel
theorem dc_Mod_draw_441 : decode prog_10_method_14_code 441 = .ok (.iload 6, 2) := by decide +kernel
theorem dc_Mod_draw_443 : decode prog_10_method_14_code 443 = .ok (.iload 5, 2) := by decide +kernel
theorem dc_Mod_draw_445 : decode prog_10_method_14_code 445 = .ok (.iload 8, 2) := by decide +kernel
theorem dc_Mod_draw_447 : decode prog_10_method_14_code 447 = .ok (.bipush 94, 2) := by decide +kernel
theorem dc_Mod_draw_449 : decode prog_10_method_14_code 449 = .ok (.if_icmp .ne 7, 3) := by decide +kernel
theorem dc_Mod_draw_452 : decode prog_10_method_14_code 452 = .ok (.iconst 1, 1) := by decide +kernel
theorem dc_Mod_draw_453 : decode prog_10_method_14_code 453 = .ok (.goto 15, 3) := by decide +kernel
theorem dc_Mod_draw_456 : decode prog_10_method_14_code 456 = .ok (.iload 8, 2) := by decide +kernel
theorem dc_Mod_draw_458 : decode prog_10_method_14_code 458 = .ok (.bipush 36, 2) := by decide +kernel
theorem dc_Mod_draw_460 : decode prog_10_method_14_code 460 = .ok (.if_icmp .ne 7, 3) := by decide +kernel
theorem dc_Mod_draw_463 : decode prog_10_method_14_code 463 = .ok (.iconst 2, 1) := by decide +kernel
theorem dc_Mod_draw_464 : decode prog_10_method_14_code 464 = .ok (.goto 4, 3) := by decide +kernel
theorem dc_Mod_draw_467 : decode prog_10_method_14_code 467 = .ok (.iconst 3, 1) := by decide +kernel
theorem dc_Mod_draw_468 : decode prog_10_method_14_code 468 = .ok (.iload 7, 2) := by decide +kernel
theorem dc_Mod_draw_470 : decode prog_10_method_14_code 470 = .ok (.invokevirtual 134, 3) := by decide +kernel
theorem dc_Mod_draw_473 : decode prog_10_method_14_code 473 = .ok (.iload 8, 2) := by decide +kernel
theorem dc_Mod_draw_475 : decode prog_10_method_14_code 475 = .ok (.bipush 92, 2) := by decide +kernel
theorem dc_Mod_draw_477 : decode prog_10_method_14_code 477 = .ok (.if_icmp .ne 20, 3) := by decide +kernel
theorem dc_Mod_draw_480 : decode prog_10_method_14_code 480 = .ok (.iinc 7 1, 3) := by decide +kernel
theorem dc_Mod_draw_483 : decode prog_10_method_14_code 483 = .ok (.iload 7, 2) := by decide +kernel
theorem dc_Mod_draw_485 : decode prog_10_method_14_code 485 = .ok (.iload_n 3, 1) := by decide +kernel
theorem dc_Mod_draw_486 : decode prog_10_method_14_code 486 = .ok (.if_icmp .lt 29, 3) := by decide +kernel
theorem dc_Mod_draw_489 : decode prog_10_method_14_code 489 = .ok (.aload_n 0, 1) := by decide +kernel
theorem dc_Mod_draw_490 : decode prog_10_method_14_code 490 = .ok (.iload_n 3, 1) := by decide +kernel
theorem dc_Mod_draw_491 : decode prog_10_method_14_code 491 = .ok (.invokevirtual 127, 3) := by decide +kernel
theorem dc_Mod_draw_494 : decode prog_10_method_14_code 494 = .ok (.goto 21, 3) := by decide +kernel
theorem dc_Mod_draw_497 : decode prog_10_method_14_code 497 = .ok (.iload 8, 2) := by decide +kernel
theorem dc_Mod_draw_499 : decode prog_10_method_14_code 499 = .ok (.bipush 91, 2) := by decide +kernel
theorem dc_Mod_draw_501 : decode prog_10_method_14_code 501 = .ok (.if_icmp .ne 14, 3) := by decide +kernel
theorem dc_Mod_draw_504 : decode prog_10_method_14_code 504 = .ok (.aload_n 0, 1) := by decide +kernel
theorem dc_Mod_draw_505 : decode prog_10_method_14_code 505 = .ok (.iload 7, 2) := by decide +kernel
theorem dc_Mod_draw_507 : decode prog_10_method_14_code 507 = .ok (.iconst 1, 1) := by decide +kernel
theorem dc_Mod_draw_508 : decode prog_10_method_14_code 508 = .ok (.iadd, 1) := by decide +kernel
theorem dc_Mod_draw_509 : decode prog_10_method_14_code 509 = .ok (.iload_n 3, 1) := by decide +kernel
theorem dc_Mod_draw_510 : decode prog_10_method_14_code 510 = .ok (.invokevirtual 138, 3) := by decide +kernel
theorem dc_Mod_draw_513 : decode prog_10_method_14_code 513 = .ok (.istore 7, 2) := by decide +kernel
theorem dc_Mod_draw_515 : decode prog_10_method_14_code 515 = .ok (.iinc 7 1, 3) := by decide +kernel
theorem dc_Mod_draw_518 : decode prog_10_method_14_code 518 = .ok (.goto (-451), 3) := by decide +kernel
theorem dc_Mod_draw_521 : decode prog_10_method_14_code 521 = .ok (.aload_n 0, 1) := by decide +kernel
theorem dc_Mod_draw_522 : decode prog_10_method_14_code 522 = .ok (.getfield 120, 3) := by decide +kernel
theorem dc_Mod_draw_525 : decode prog_10_method_14_code 525 = .ok (.iconst (-1), 1) := by decide +kernel
theorem dc_Mod_draw_526 : decode prog_10_method_14_code 526 = .ok (.if_icmp .ne 13, 3) := by decide +kernel
theorem dc_Mod_draw_529 : decode prog_10_method_14_code 529 = .ok (.iload 4, 2) := by decide +kernel
theorem dc_Mod_draw_531 : decode prog_10_method_14_code 531 = .ok (.ifCond .le 8, 3) := by decide +kernel
theorem dc_Mod_draw_534 : decode prog_10_method_14_code 534 = .ok (.aload_n 0, 1) := by decide +kernel
theorem dc_Mod_draw_535 : decode prog_10_method_14_code 535 = .ok (.iload_n 3, 1) := by decide +kernel
theorem dc_Mod_draw_536 : decode prog_10_method_14_code 536 = .ok (.invokevirtual 127, 3) := by decide +kernel
theorem dc_Mod_draw_539 : decode prog_10_method_14_code 539 = .ok (.aload_n 0, 1) := by decide +kernel
theorem dc_Mod_draw_540 : decode prog_10_method_14_code 540 = .ok (.iload 5, 2) := by decide +kernel
theorem dc_Mod_draw_542 : decode prog_10_method_14_code 542 = .ok (.iconst 1, 1) := by decide +kernel
theorem dc_Mod_draw_543 : decode prog_10_method_14_code 543 = .ok (.iconst 0, 1) := by decide +kernel
theorem dc_Mod_draw_544 : decode prog_10_method_14_code 544 = .ok (.iconst 0, 1) := by decide +kernel
theorem dc_Mod_draw_545 : decode prog_10_method_14_code 545 = .ok (.invokevirtual 134, 3) := by decide +kernel
theorem dc_Mod_draw_548 : decode prog_10_method_14_code 548 = .ok (.aload_n 0, 1) := by decide +kernel
theorem dc_Mod_draw_549 : decode prog_10_method_14_code 549 = .ok (.aload_n 0, 1) := by decide +kernel
theorem dc_Mod_draw_550 : decode prog_10_method_14_code 550 = .ok (.getfield 120, 3) := by decide +kernel
theorem dc_Mod_draw_553 : decode prog_10_method_14_code 553 = .ok (.iconst (-1), 1) := by decide +kernel
theorem dc_Mod_draw_554 : decode prog_10_method_14_code 554 = .ok (.if_icmp .ne 7, 3) := by decide +kernel
theorem dc_Mod_draw_557 : decode prog_10_method_14_code 557 = .ok (.iconst (-1), 1) := by decide +kernel
theorem dc_Mod_draw_558 : decode prog_10_method_14_code 558 = .ok (.goto 9, 3) := by decide +kernel
theorem dc_Mod_draw_561 : decode prog_10_method_14_code 561 = .ok (.aload_n 0, 1) := by decide +kernel
theorem dc_Mod_draw_562 : decode prog_10_method_14_code 562 = .ok (.getfield 120, 3) := by decide +kernel
theorem dc_Mod_draw_565 : decode prog_10_method_14_code 565 = .ok (.iload_n 2, 1) := by decide +kernel
theorem dc_Mod_draw_566 : decode prog_10_method_14_code 566 = .ok (.isub, 1) := by decide +kernel
theorem dc_Mod_draw_567 : decode prog_10_method_14_code 567 = .ok (.putfield 120, 3) := by decide +kernel
theorem dc_Mod_draw_570 : decode prog_10_method_14_code 570 = .ok (.return_, 1) := by decide +kernel
theorem dc_Mod_isSign_0 : decode prog_10_method_15_code 0 = .ok (.aload_n 0, 1) := by decide +kernel
theorem dc_Mod_isSign_1 : decode prog_10_method_15_code 1 = .ok (.getfield 16, 3) := by decide +kernel
theorem dc_Mod_isSign_4 : decode prog_10_method_15_code 4 = .ok (.iload_n 1, 1) := by decide +kernel
theorem dc_Mod_isSign_5 : decode prog_10_method_15_code 5 = .ok (.iaload, 1) := by decide +kernel
theorem dc_Mod_isSign_6 : decode prog_10_method_15_code 6 = .ok (.istore_n 3, 1) := by decide +kernel
theorem dc_Mod_isSign_7 : decode prog_10_method_15_code 7 = .ok (.iload_n 3, 1) := by decide +kernel
theorem dc_Mod_isSign_8 : decode prog_10_method_15_code 8 = .ok (.bipush 46, 2) := by decide +kernel
theorem dc_Mod_isSign_10 : decode prog_10_method_15_code 10 = .ok (.if_icmp .ne 5, 3) := by decide +kernel
theorem dc_Mod_isSign_13 : decode prog_10_method_15_code 13 = .ok (.iconst 1, 1) := by decide +kernel
theorem dc_Mod_isSign_14 : decode prog_10_method_15_code 14 = .ok (.ireturn, 1) := by decide +kernel
theorem dc_Mod_isSign_15 : decode prog_10_method_15_code 15 = .ok (.iload_n 3, 1) := by decide +kernel
theorem dc_Mod_isSign_16 : decode prog_10_method_15_code 16 = .ok (.bipush 92, 2) := by decide +kernel
theorem dc_Mod_isSign_18 : decode prog_10_method_15_code 18 = .ok (.if_icmp .ne 21, 3) := by decide +kernel
theorem dc_Mod_isSign_21 : decode prog_10_method_15_code 21 = .ok (.aload_n 0, 1) := by decide +kernel
theorem dc_Mod_isSign_22 : decode prog_10_method_15_code 22 = .ok (.getfield 16, 3) := by decide +kernel
theorem dc_Mod_isSign_25 : decode prog_10_method_15_code 25 = .ok (.iload_n 1, 1) := by decide +kernel
theorem dc_Mod_isSign_26 : decode prog_10_method_15_code 26 = .ok (.iconst 1, 1) := by decide +kernel
theorem dc_Mod_isSign_27 : decode prog_10_method_15_code 27 = .ok (.iadd, 1) := by decide +kernel
theorem dc_Mod_isSign_28 : decode prog_10_method_15_code 28 = .ok (.iaload, 1) := by decide +kernel
theorem dc_Mod_isSign_29 : decode prog_10_method_15_code 29 = .ok (.iload_n 2, 1) := by decide +kernel
theorem dc_Mod_isSign_30 : decode prog_10_method_15_code 30 = .ok (.if_icmp .ne 7, 3) := by decide +kernel
theorem dc_Mod_isSign_33 : decode prog_10_method_15_code 33 = .ok (.iconst 1, 1) := by decide +kernel
theorem dc_Mod_isSign_34 : decode prog_10_method_15_code 34 = .ok (.goto 4, 3) := by decide +kernel
theorem dc_Mod_isSign_37 : decode prog_10_method_15_code 37 = .ok (.iconst 0, 1) := by decide +kernel
theorem dc_Mod_isSign_38 : decode prog_10_method_15_code 38 = .ok (.ireturn, 1) := by decide +kernel
theorem dc_Mod_isSign_39 : decode prog_10_method_15_code 39 = .ok (.iload_n 3, 1) := by decide +kernel
theorem dc_Mod_isSign_40 : decode prog_10_method_15_code 40 = .ok (.bipush 91, 2) := by decide +kernel
theorem dc_Mod_isSign_42 : decode prog_10_method_15_code 42 = .ok (.if_icmp .eq 14, 3) := by decide +kernel
theorem dc_Mod_isSign_45 : decode prog_10_method_15_code 45 = .ok (.iload_n 3, 1) := by decide +kernel
theorem dc_Mod_isSign_46 : decode prog_10_method_15_code 46 = .ok (.iload_n 2, 1) := by decide +kernel
theorem dc_Mod_isSign_47 : decode prog_10_method_15_code 47 = .ok (.if_icmp .ne 7, 3) := by decide +kernel
theorem dc_Mod_isSign_50 : decode prog_10_method_15_code 50 = .ok (.iconst 1, 1) := by decide +kernel
theorem dc_Mod_isSign_51 : decode prog_10_method_15_code 51 = .ok (.goto 4, 3) := by decide +kernel
theorem dc_Mod_isSign_54 : decode prog_10_method_15_code 54 = .ok (.iconst 0, 1) := by decide +kernel
theorem dc_Mod_isSign_55 : decode prog_10_method_15_code 55 = .ok (.ireturn, 1) := by decide +kernel
theorem dc_Mod_isSign_56 : decode prog_10_method_15_code 56 = .ok (.aload_n 0, 1) := by decide +kernel
theorem dc_Mod_isSign_57 : decode prog_10_method_15_code 57 = .ok (.getfield 16, 3) := by decide +kernel
theorem dc_Mod_isSign_60 : decode prog_10_method_15_code 60 = .ok (.iload_n 1, 1) := by decide +kernel
theorem dc_Mod_isSign_61 : decode prog_10_method_15_code 61 = .ok (.iconst 1, 1) := by decide +kernel
theorem dc_Mod_isSign_62 : decode prog_10_method_15_code 62 = .ok (.iadd, 1) := by decide +kernel
theorem dc_Mod_isSign_63 : decode prog_10_method_15_code 63 = .ok (.iaload, 1) := by decide +kernel
theorem dc_Mod_isSign_64 : decode prog_10_method_15_code 64 = .ok (.bipush 94, 2) := by decide +kernel
theorem dc_Mod_isSign_66 : decode prog_10_method_15_code 66 = .ok (.if_icmp .ne 7, 3) := by decide +kernel
theorem dc_Mod_isSign_69 : decode prog_10_method_15_code 69 = .ok (.iconst 1, 1) := by decide +kernel
theorem dc_Mod_isSign_70 : decode prog_10_method_15_code 70 = .ok (.goto 4, 3) := by decide +kernel
theorem dc_Mod_isSign_73 : decode prog_10_method_15_code 73 = .ok (.iconst 0, 1) := by decide +kernel
theorem dc_Mod_isSign_74 : decode prog_10_method_15_code 74 = .ok (.istore 4, 2) := by decide +kernel
theorem dc_Mod_isSign_76 : decode prog_10_method_15_code 76 = .ok (.iload 4, 2) := by decide +kernel
theorem dc_Mod_isSign_78 : decode prog_10_method_15_code 78 = .ok (.ifCond .eq 9, 3) := by decide +kernel
theorem dc_Mod_isSign_81 : decode prog_10_method_15_code 81 = .ok (.iload_n 1, 1) := by decide +kernel
theorem dc_Mod_isSign_82 : decode prog_10_method_15_code 82 = .ok (.iconst 2, 1) := by decide +kernel
theorem dc_Mod_isSign_83 : decode prog_10_method_15_code 83 = .ok (.iadd, 1) := by decide +kernel
theorem dc_Mod_isSign_84 : decode prog_10_method_15_code 84 = .ok (.goto 6, 3) := by decide +kernel
theorem dc_Mod_isSign_87 : decode prog_10_method_15_code 87 = .ok (.iload_n 1, 1) := by decide +kernel
theorem dc_Mod_isSign_88 : decode prog_10_method_15_code 88 = .ok (.iconst 1, 1) := by decide +kernel
theorem dc_Mod_isSign_89 : decode prog_10_method_15_code 89 = .ok (.iadd, 1) := by decide +kernel
theorem dc_Mod_isSign_90 : decode prog_10_method_15_code 90 = .ok (.istore 5, 2) := by decide +kernel
theorem dc_Mod_isSign_92 : decode prog_10_method_15_code 92 = .ok (.iconst 0, 1) := by decide +kernel
theorem dc_Mod_isSign_93 : decode prog_10_method_15_code 93 = .ok (.istore 6, 2) := by decide +kernel
theorem dc_Mod_isSign_95 : decode prog_10_method_15_code 95 = .ok (.aload_n 0, 1) := by decide +kernel
theorem dc_Mod_isSign_96 : decode prog_10_method_15_code 96 = .ok (.getfield 16, 3) := by decide +kernel
theorem dc_Mod_isSign_99 : decode prog_10_method_15_code 99 = .ok (.iload 5, 2) := by decide +kernel
theorem dc_Mod_isSign_101 : decode prog_10_method_15_code 101 = .ok (.iaload, 1) := by decide +kernel
theorem dc_Mod_isSign_102 : decode prog_10_method_15_code 102 = .ok (.bipush 93, 2) := by decide +kernel
theorem dc_Mod_isSign_104 : decode prog_10_method_15_code 104 = .ok (.if_icmp .eq 99, 3) := by decide +kernel
theorem dc_Mod_isSign_107 : decode prog_10_method_15_code 107 = .ok (.aload_n 0, 1) := by decide +kernel
theorem dc_Mod_isSign_108 : decode prog_10_method_15_code 108 = .ok (.getfield 16, 3) := by decide +kernel
theorem dc_Mod_isSign_111 : decode prog_10_method_15_code 111 = .ok (.iload 5, 2) := by decide +kernel
theorem dc_Mod_isSign_113 : decode prog_10_method_15_code 113 = .ok (.iaload, 1) := by decide +kernel
theorem dc_Mod_isSign_114 : decode prog_10_method_15_code 114 = .ok (.istore 7, 2) := by decide +kernel
theorem dc_Mod_isSign_116 : decode prog_10_method_15_code 116 = .ok (.aload_n 0, 1) := by decide +kernel
theorem dc_Mod_isSign_117 : decode prog_10_method_15_code 117 = .ok (.getfield 16, 3) := by decide +kernel
theorem dc_Mod_isSign_120 : decode prog_10_method_15_code 120 = .ok (.iload 5, 2) := by decide +kernel
theorem dc_Mod_isSign_122 : decode prog_10_method_15_code 122 = .ok (.iconst 1, 1) := by decide +kernel
theorem dc_Mod_isSign_123 : decode prog_10_method_15_code 123 = .ok (.iadd, 1) := by decide +kernel
theorem dc_Mod_isSign_124 : decode prog_10_method_15_code 124 = .ok (.iaload, 1) := by decide +kernel
theorem dc_Mod_isSign_125 : decode prog_10_method_15_code 125 = .ok (.bipush 45, 2) := by decide +kernel
theorem dc_Mod_isSign_127 : decode prog_10_method_15_code 127 = .ok (.if_icmp .ne 7, 3) := by decide +kernel
theorem dc_Mod_isSign_130 : decode prog_10_method_15_code 130 = .ok (.iconst 1, 1) := by decide +kernel
theorem dc_Mod_isSign_131 : decode prog_10_method_15_code 131 = .ok (.goto 4, 3) := by decide +kernel
theorem dc_Mod_isSign_134 : decode prog_10_method_15_code 134 = .ok (.iconst 0, 1) := by decide +kernel
theorem dc_Mod_isSign_135 : decode prog_10_method_15_code 135 = .ok (.istore 8, 2) := by decide +kernel
theorem dc_Mod_isSign_137 : decode prog_10_method_15_code 137 = .ok (.iload 8, 2) := by decide +kernel
theorem dc_Mod_isSign_139 : decode prog_10_method_15_code 139 = .ok (.ifCond .eq 15, 3) := by decide +kernel
theorem dc_Mod_isSign_142 : decode prog_10_method_15_code 142 = .ok (.aload_n 0, 1) := by decide +kernel
theorem dc_Mod_isSign_143 : decode prog_10_method_15_code 143 = .ok (.getfield 16, 3) := by decide +kernel
theorem dc_Mod_isSign_146 : decode prog_10_method_15_code 146 = .ok (.iload 5, 2) := by decide +kernel
theorem dc_Mod_isSign_148 : decode prog_10_method_15_code 148 = .ok (.iconst 2, 1) := by decide +kernel
theorem dc_Mod_isSign_149 : decode prog_10_method_15_code 149 = .ok (.iadd, 1) := by decide +kernel
theorem dc_Mod_isSign_150 : decode prog_10_method_15_code 150 = .ok (.iaload, 1) := by decide +kernel
theorem dc_Mod_isSign_151 : decode prog_10_method_15_code 151 = .ok (.goto 5, 3) := by decide +kernel
theorem dc_Mod_isSign_154 : decode prog_10_method_15_code 154 = .ok (.iload 7, 2) := by decide +kernel
theorem dc_Mod_isSign_156 : decode prog_10_method_15_code 156 = .ok (.istore 9, 2) := by decide +kernel
theorem dc_Mod_isSign_158 : decode prog_10_method_15_code 158 = .ok (.iload 6, 2) := by decide +kernel
theorem dc_Mod_isSign_160 : decode prog_10_method_15_code 160 = .ok (.ifCond .ne 15, 3) := by decide +kernel
theorem dc_Mod_isSign_163 : decode prog_10_method_15_code 163 = .ok (.iload_n 2, 1) := by decide +kernel
theorem dc_Mod_isSign_164 : decode prog_10_method_15_code 164 = .ok (.iload 7, 2) := by decide +kernel
theorem dc_Mod_isSign_166 : decode prog_10_method_15_code 166 = .ok (.if_icmp .lt 13, 3) := by decide +kernel
theorem dc_Mod_isSign_169 : decode prog_10_method_15_code 169 = .ok (.iload_n 2, 1) := by decide +kernel
theorem dc_Mod_isSign_170 : decode prog_10_method_15_code 170 = .ok (.iload 9, 2) := by decide +kernel
theorem dc_Mod_isSign_172 : decode prog_10_method_15_code 172 = .ok (.if_icmp .gt 7, 3) := by decide +kernel
theorem dc_Mod_isSign_175 : decode prog_10_method_15_code 175 = .ok (.iconst 1, 1) := by decide +kernel
theorem dc_Mod_isSign_176 : decode prog_10_method_15_code 176 = .ok (.goto 4, 3) := by decide +kernel
theorem dc_Mod_isSign_179 : decode prog_10_method_15_code 179 = .ok (.iconst 0, 1) := by decide +kernel
theorem dc_Mod_isSign_180 : decode prog_10_method_15_code 180 = .ok (.istore 6, 2) := by decide +kernel
theorem dc_Mod_isSign_182 : decode prog_10_method_15_code 182 = .ok (.iload 8, 2) := by decide +kernel
theorem dc_Mod_isSign_184 : decode prog_10_method_15_code 184 = .ok (.ifCond .eq 10, 3) := by decide +kernel
theorem dc_Mod_isSign_187 : decode prog_10_method_15_code 187 = .ok (.iload 5, 2) := by decide +kernel
theorem dc_Mod_isSign_189 : decode prog_10_method_15_code 189 = .ok (.iconst 3, 1) := by decide +kernel
theorem dc_Mod_isSign_190 : decode prog_10_method_15_code 190 = .ok (.iadd, 1) := by decide +kernel
theorem dc_Mod_isSign_191 : decode prog_10_method_15_code 191 = .ok (.goto 7, 3) := by decide +kernel
theorem dc_Mod_isSign_194 : decode prog_10_method_15_code 194 = .ok (.iload 5, 2) := by decide +kernel
theorem dc_Mod_isSign_196 : decode prog_10_method_15_code 196 = .ok (.iconst 1, 1) := by decide +kernel
theorem dc_Mod_isSign_197 : decode prog_10_method_15_code 197 = .ok (.iadd, 1) := by decide +kernel
theorem dc_Mod_isSign_198 : decode prog_10_method_15_code 198 = .ok (.istore 5, 2) := by decide +kernel
theorem dc_Mod_isSign_200 : decode prog_10_method_15_code 200 = .ok (.goto (-105), 3) := by decide +kernel
theorem dc_Mod_isSign_203 : decode prog_10_method_15_code 203 = .ok (.iload 6, 2) := by decide +kernel
theorem dc_Mod_isSign_205 : decode prog_10_method_15_code 205 = .ok (.iload 4, 2) := by decide +kernel
theorem dc_Mod_isSign_207 : decode prog_10_method_15_code 207 = .ok (.if_icmp .eq 7, 3) := by decide +kernel
theorem dc_Mod_isSign_210 : decode prog_10_method_15_code 210 = .ok (.iconst 1, 1) := by decide +kernel
theorem dc_Mod_isSign_211 : decode prog_10_method_15_code 211 = .ok (.goto 4, 3) := by decide +kernel
theorem dc_Mod_isSign_214 : decode prog_10_method_15_code 214 = .ok (.iconst 0, 1) := by decide +kernel
theorem dc_Mod_isSign_215 : decode prog_10_method_15_code 215 = .ok (.ireturn, 1) := by decide +kernel
end
section
theorem dc_Mod_expression_0 : decode prog_10_method_16_code 0 = .ok (.aload_n 0, 1) := by decide +kernel
theorem dc_Mod_expression_1 : decode prog_10_method_16_code 1 = .ok (.iload_n 1, 1) := by decide +kernel
theorem dc_Mod_expression_2 : decode prog_10_method_16_code 2 = .ok (.iconst 0, 1) := by decide +kernel
theorem dc_Mod_expression_3 : decode prog_10_method_16_code 3 = .ok (.iconst 5, 1) := by decide +kernel
theorem dc_Mod_expression_4 : decode prog_10_method_16_code 4 = .ok (.invokestatic 142, 3) := by decide +kernel
theorem dc_Mod_expression_7 : decode prog_10_method_16_code 7 = .ok (.aload_n 0, 1) := by decide +kernel
theorem dc_Mod_expression_8 : decode prog_10_method_16_code 8 = .ok (.getfield 13, 3) := by decide +kernel
theorem dc_Mod_expression_11 : decode prog_10_method_16_code 11 = .ok (.iconst 0, 1) := by decide +kernel
theorem dc_Mod_expression_12 : decode prog_10_method_16_code 12 = .ok (.iaload, 1) := by decide +kernel
theorem dc_Mod_expression_13 : decode prog_10_method_16_code 13 = .ok (.bipush 60, 2) := by decide +kernel
theorem dc_Mod_expression_15 : decode prog_10_method_16_code 15 = .ok (.if_icmp .gt 7, 3) := by decide +kernel
theorem dc_Mod_expression_18 : decode prog_10_method_16_code 18 = .ok (.iconst 1, 1) := by decide +kernel
theorem dc_Mod_expression_19 : decode prog_10_method_16_code 19 = .ok (.goto 4, 3) := by decide +kernel
theorem dc_Mod_expression_22 : decode prog_10_method_16_code 22 = .ok (.iconst 0, 1) := by decide +kernel
theorem dc_Mod_expression_23 : decode prog_10_method_16_code 23 = .ok (.invokevirtual 106, 3) := by decide +kernel
theorem dc_Mod_expression_26 : decode prog_10_method_16_code 26 = .ok (.ifCond .ne 5, 3) := by decide +kernel
theorem dc_Mod_expression_29 : decode prog_10_method_16_code 29 = .ok (.iconst 0, 1) := by decide +kernel
theorem dc_Mod_expression_30 : decode prog_10_method_16_code 30 = .ok (.ireturn, 1) := by decide +kernel
theorem dc_Mod_expression_31 : decode prog_10_method_16_code 31 = .ok (.aload_n 0, 1) := by decide +kernel
theorem dc_Mod_expression_32 : decode prog_10_method_16_code 32 = .ok (.getfield 19, 3) := by decide +kernel
theorem dc_Mod_expression_35 : decode prog_10_method_16_code 35 = .ok (.iload_n 1, 1) := by decide +kernel
theorem dc_Mod_expression_36 : decode prog_10_method_16_code 36 = .ok (.iaload, 1) := by decide +kernel
theorem dc_Mod_expression_37 : decode prog_10_method_16_code 37 = .ok (.istore_n 2, 1) := by decide +kernel
theorem dc_Mod_expression_38 : decode prog_10_method_16_code 38 = .ok (.iconst 0, 1) := by decide +kernel
theorem dc_Mod_expression_39 : decode prog_10_method_16_code 39 = .ok (.istore_n 3, 1) := by decide +kernel
theorem dc_Mod_expression_40 : decode prog_10_method_16_code 40 = .ok (.iload_n 3, 1) := by decide +kernel
theorem dc_Mod_expression_41 : decode prog_10_method_16_code 41 = .ok (.bipush 60, 2) := by decide +kernel
theorem dc_Mod_expression_43 : decode prog_10_method_16_code 43 = .ok (.if_icmp .ge 30, 3) := by decide +kernel
theorem dc_Mod_expression_46 : decode prog_10_method_16_code 46 = .ok (.aload_n 0, 1) := by decide +kernel
theorem dc_Mod_expression_47 : decode prog_10_method_16_code 47 = .ok (.getfield 7, 3) := by decide +kernel
theorem dc_Mod_expression_50 : decode prog_10_method_16_code 50 = .ok (.sipush 960, 3) := by decide +kernel
theorem dc_Mod_expression_53 : decode prog_10_method_16_code 53 = .ok (.iload_n 3, 1) := by decide +kernel
theorem dc_Mod_expression_54 : decode prog_10_method_16_code 54 = .ok (.iadd, 1) := by decide +kernel
theorem dc_Mod_expression_55 : decode prog_10_method_16_code 55 = .ok (.aload_n 0, 1) := by decide +kernel
theorem dc_Mod_expression_56 : decode prog_10_method_16_code 56 = .ok (.getfield 16, 3) := by decide +kernel
theorem dc_Mod_expression_59 : decode prog_10_method_16_code 59 = .ok (.bipush 60, 2) := by decide +kernel
theorem dc_Mod_expression_61 : decode prog_10_method_16_code 61 = .ok (.iload_n 1, 1) := by decide +kernel
theorem dc_Mod_expression_62 : decode prog_10_method_16_code 62 = .ok (.imul, 1) := by decide +kernel
theorem dc_Mod_expression_63 : decode prog_10_method_16_code 63 = .ok (.iload_n 3, 1) := by decide +kernel
theorem dc_Mod_expression_64 : decode prog_10_method_16_code 64 = .ok (.iadd, 1) := by decide +kernel
theorem dc_Mod_expression_65 : decode prog_10_method_16_code 65 = .ok (.iaload, 1) := by decide +kernel
theorem dc_Mod_expression_66 : decode prog_10_method_16_code 66 = .ok (.iastore, 1) := by decide +kernel
theorem dc_Mod_expression_67 : decode prog_10_method_16_code 67 = .ok (.iinc 3 1, 3) := by decide +kernel
theorem dc_Mod_expression_70 : decode prog_10_method_16_code 70 = .ok (.goto (-30), 3) := by decide +kernel
theorem dc_Mod_expression_73 : decode prog_10_method_16_code 73 = .ok (.aload_n 0, 1) := by decide +kernel
theorem dc_Mod_expression_74 : decode prog_10_method_16_code 74 = .ok (.getfield 19, 3) := by decide +kernel
theorem dc_Mod_expression_77 : decode prog_10_method_16_code 77 = .ok (.iload_n 1, 1) := by decide +kernel
theorem dc_Mod_expression_78 : decode prog_10_method_16_code 78 = .ok (.aload_n 0, 1) := by decide +kernel
theorem dc_Mod_expression_79 : decode prog_10_method_16_code 79 = .ok (.getfield 13, 3) := by decide +kernel
theorem dc_Mod_expression_82 : decode prog_10_method_16_code 82 = .ok (.iconst 0, 1) := by decide +kernel
theorem dc_Mod_expression_83 : decode prog_10_method_16_code 83 = .ok (.iaload, 1) := by decide +kernel
theorem dc_Mod_expression_84 : decode prog_10_method_16_code 84 = .ok (.iastore, 1) := by decide +kernel
theorem dc_Mod_expression_85 : decode prog_10_method_16_code 85 = .ok (.iconst 0, 1) := by decide +kernel
theorem dc_Mod_expression_86 : decode prog_10_method_16_code 86 = .ok (.istore_n 3, 1) := by decide +kernel
theorem dc_Mod_expression_87 : decode prog_10_method_16_code 87 = .ok (.iload_n 3, 1) := by decide +kernel
theorem dc_Mod_expression_88 : decode prog_10_method_16_code 88 = .ok (.aload_n 0, 1) := by decide +kernel
theorem dc_Mod_expression_89 : decode prog_10_method_16_code 89 = .ok (.getfield 13, 3) := by decide +kernel
theorem dc_Mod_expression_92 : decode prog_10_method_16_code 92 = .ok (.iconst 0, 1) := by decide +kernel
theorem dc_Mod_expression_93 : decode prog_10_method_16_code 93 = .ok (.iaload, 1) := by decide +kernel
theorem dc_Mod_expression_94 : decode prog_10_method_16_code 94 = .ok (.if_icmp .ge 26, 3) := by decide +kernel
theorem dc_Mod_expression_97 : decode prog_10_method_16_code 97 = .ok (.aload_n 0, 1) := by decide +kernel
theorem dc_Mod_expression_98 : decode prog_10_method_16_code 98 = .ok (.getfield 16, 3) := by decide +kernel
theorem dc_Mod_expression_101 : decode prog_10_method_16_code 101 = .ok (.bipush 60, 2) := by decide +kernel
theorem dc_Mod_expression_103 : decode prog_10_method_16_code 103 = .ok (.iload_n 1, 1) := by decide +kernel
theorem dc_Mod_expression_104 : decode prog_10_method_16_code 104 = .ok (.imul, 1) := by decide +kernel
theorem dc_Mod_expression_105 : decode prog_10_method_16_code 105 = .ok (.iload_n 3, 1) := by decide +kernel
theorem dc_Mod_expression_106 : decode prog_10_method_16_code 106 = .ok (.iadd, 1) := by decide +kernel
theorem dc_Mod_expression_107 : decode prog_10_method_16_code 107 = .ok (.aload_n 0, 1) := by decide +kernel
theorem dc_Mod_expression_108 : decode prog_10_method_16_code 108 = .ok (.getfield 7, 3) := by decide +kernel
theorem dc_Mod_expression_111 : decode prog_10_method_16_code 111 = .ok (.iload_n 3, 1) := by decide +kernel
theorem dc_Mod_expression_112 : decode prog_10_method_16_code 112 = .ok (.iaload, 1) := by decide +kernel
theorem dc_Mod_expression_113 : decode prog_10_method_16_code 113 = .ok (.iastore, 1) := by decide +kernel
theorem dc_Mod_expression_114 : decode prog_10_method_16_code 114 = .ok (.iinc 3 1, 3) := by decide +kernel
theorem dc_Mod_expression_117 : decode prog_10_method_16_code 117 = .ok (.goto (-30), 3) := by decide +kernel
theorem dc_Mod_expression_120 : decode prog_10_method_16_code 120 = .ok (.aload_n 0, 1) := by decide +kernel
theorem dc_Mod_expression_121 : decode prog_10_method_16_code 121 = .ok (.iload_n 1, 1) := by decide +kernel
theorem dc_Mod_expression_122 : decode prog_10_method_16_code 122 = .ok (.invokevirtual 146, 3) := by decide +kernel
theorem dc_Mod_expression_125 : decode prog_10_method_16_code 125 = .ok (.aload_n 0, 1) := by decide +kernel
theorem dc_Mod_expression_126 : decode prog_10_method_16_code 126 = .ok (.getfield 120, 3) := by decide +kernel
theorem dc_Mod_expression_129 : decode prog_10_method_16_code 129 = .ok (.iconst (-1), 1) := by decide +kernel
theorem dc_Mod_expression_130 : decode prog_10_method_16_code 130 = .ok (.if_icmp .eq 52, 3) := by decide +kernel
theorem dc_Mod_expression_133 : decode prog_10_method_16_code 133 = .ok (.aload_n 0, 1) := by decide +kernel
theorem dc_Mod_expression_134 : decode prog_10_method_16_code 134 = .ok (.getfield 19, 3) := by decide +kernel
theorem dc_Mod_expression_137 : decode prog_10_method_16_code 137 = .ok (.iload_n 1, 1) := by decide +kernel
theorem dc_Mod_expression_138 : decode prog_10_method_16_code 138 = .ok (.iload_n 2, 1) := by decide +kernel
theorem dc_Mod_expression_139 : decode prog_10_method_16_code 139 = .ok (.iastore, 1) := by decide +kernel
theorem dc_Mod_expression_140 : decode prog_10_method_16_code 140 = .ok (.iconst 0, 1) := by decide +kernel
theorem dc_Mod_expression_141 : decode prog_10_method_16_code 141 = .ok (.istore_n 3, 1) := by decide +kernel
theorem dc_Mod_expression_142 : decode prog_10_method_16_code 142 = .ok (.iload_n 3, 1) := by decide +kernel
theorem dc_Mod_expression_143 : decode prog_10_method_16_code 143 = .ok (.bipush 60, 2) := by decide +kernel
theorem dc_Mod_expression_145 : decode prog_10_method_16_code 145 = .ok (.if_icmp .ge 30, 3) := by decide +kernel
theorem dc_Mod_expression_148 : decode prog_10_method_16_code 148 = .ok (.aload_n 0, 1) := by decide +kernel
theorem dc_Mod_expression_149 : decode prog_10_method_16_code 149 = .ok (.getfield 16, 3) := by decide +kernel
theorem dc_Mod_expression_152 : decode prog_10_method_16_code 152 = .ok (.bipush 60, 2) := by decide +kernel
theorem dc_Mod_expression_154 : decode prog_10_method_16_code 154 = .ok (.iload_n 1, 1) := by decide +kernel
theorem dc_Mod_expression_155 : decode prog_10_method_16_code 155 = .ok (.imul, 1) := by decide +kernel
theorem dc_Mod_expression_156 : decode prog_10_method_16_code 156 = .ok (.iload_n 3, 1) := by decide +kernel
theorem dc_Mod_expression_157 : decode prog_10_method_16_code 157 = .ok (.iadd, 1) := by decide +kernel
theorem dc_Mod_expression_158 : decode prog_10_method_16_code 158 = .ok (.aload_n 0, 1) := by decide +kernel
theorem dc_Mod_expression_159 : decode prog_10_method_16_code 159 = .ok (.getfield 7, 3) := by decide +kernel
theorem dc_Mod_expression_162 : decode prog_10_method_16_code 162 = .ok (.sipush 960, 3) := by decide +kernel
theorem dc_Mod_expression_165 : decode prog_10_method_16_code 165 = .ok (.iload_n 3, 1) := by decide +kernel
theorem dc_Mod_expression_166 : decode prog_10_method_16_code 166 = .ok (.iadd, 1) := by decide +kernel
theorem dc_Mod_expression_167 : decode prog_10_method_16_code 167 = .ok (.iaload, 1) := by decide +kernel
theorem dc_Mod_expression_168 : decode prog_10_method_16_code 168 = .ok (.iastore, 1) := by decide +kernel
theorem dc_Mod_expression_169 : decode prog_10_method_16_code 169 = .ok (.iinc 3 1, 3) := by decide +kernel
theorem dc_Mod_expression_172 : decode prog_10_method_16_code 172 = .ok (.goto (-30), 3) := by decide +kernel
theorem dc_Mod_expression_175 : decode prog_10_method_16_code 175 = .ok (.aload_n 0, 1) := by decide +kernel
theorem dc_Mod_expression_176 : decode prog_10_method_16_code 176 = .ok (.getfield 120, 3) := by decide +kernel
theorem dc_Mod_expression_179 : decode prog_10_method_16_code 179 = .ok (.iconst 1, 1) := by decide +kernel
theorem dc_Mod_expression_180 : decode prog_10_method_16_code 180 = .ok (.iadd, 1) := by decide +kernel
theorem dc_Mod_expression_181 : decode prog_10_method_16_code 181 = .ok (.ireturn, 1) := by decide +kernel
theorem dc_Mod_expression_182 : decode prog_10_method_16_code 182 = .ok (.aload_n 0, 1) := by decide +kernel
theorem dc_Mod_expression_183 : decode prog_10_method_16_code 183 = .ok (.getfield 13, 3) := by decide +kernel
theorem dc_Mod_expression_186 : decode prog_10_method_16_code 186 = .ok (.iconst 0, 1) := by decide +kernel
theorem dc_Mod_expression_187 : decode prog_10_method_16_code 187 = .ok (.iconst 0, 1) := by decide +kernel
theorem dc_Mod_expression_188 : decode prog_10_method_16_code 188 = .ok (.iastore, 1) := by decide +kernel
theorem dc_Mod_expression_189 : decode prog_10_method_16_code 189 = .ok (.iconst 0, 1) := by decide +kernel
theorem dc_Mod_expression_190 : decode prog_10_method_16_code 190 = .ok (.ireturn, 1) := by decide +kernel
theorem dc_Mod_spread_0 : decode prog_10_method_17_code 0 = .ok (.iconst 1, 1) := by decide +kernel
theorem dc_Mod_spread_1 : decode prog_10_method_17_code 1 = .ok (.istore_n 3, 1) := by decide +kernel
theorem dc_Mod_spread_2 : decode prog_10_method_17_code 2 = .ok (.iload_n 3, 1) := by decide +kernel
theorem dc_Mod_spread_3 : decode prog_10_method_17_code 3 = .ok (.ifCond .eq 124, 3) := by decide +kernel
theorem dc_Mod_spread_6 : decode prog_10_method_17_code 6 = .ok (.iconst 0, 1) := by decide +kernel
theorem dc_Mod_spread_7 : decode prog_10_method_17_code 7 = .ok (.istore_n 3, 1) := by decide +kernel
theorem dc_Mod_spread_8 : decode prog_10_method_17_code 8 = .ok (.iconst 0, 1) := by decide +kernel
theorem dc_Mod_spread_9 : decode prog_10_method_17_code 9 = .ok (.istore 4, 2) := by decide +kernel
theorem dc_Mod_spread_11 : decode prog_10_method_17_code 11 = .ok (.iload 4, 2) := by decide +kernel
theorem dc_Mod_spread_13 : decode prog_10_method_17_code 13 = .ok (.aload_n 0, 1) := by decide +kernel
theorem dc_Mod_spread_14 : decode prog_10_method_17_code 14 = .ok (.getfield 117, 3) := by decide +kernel
theorem dc_Mod_spread_17 : decode prog_10_method_17_code 17 = .ok (.if_icmp .ge 107, 3) := by decide +kernel
theorem dc_Mod_spread_20 : decode prog_10_method_17_code 20 = .ok (.aload_n 0, 1) := by decide +kernel
theorem dc_Mod_spread_21 : decode prog_10_method_17_code 21 = .ok (.getfield 77, 3) := by decide +kernel
theorem dc_Mod_spread_24 : decode prog_10_method_17_code 24 = .ok (.iload 4, 2) := by decide +kernel
theorem dc_Mod_spread_26 : decode prog_10_method_17_code 26 = .ok (.iaload, 1) := by decide +kernel
theorem dc_Mod_spread_27 : decode prog_10_method_17_code 27 = .ok (.ifCond .eq 34, 3) := by decide +kernel
theorem dc_Mod_spread_30 : decode prog_10_method_17_code 30 = .ok (.aload_n 0, 1) := by decide +kernel
theorem dc_Mod_spread_31 : decode prog_10_method_17_code 31 = .ok (.getfield 77, 3) := by decide +kernel
theorem dc_Mod_spread_34 : decode prog_10_method_17_code 34 = .ok (.iload 4, 2) := by decide +kernel
theorem dc_Mod_spread_36 : decode prog_10_method_17_code 36 = .ok (.iaload, 1) := by decide +kernel
theorem dc_Mod_spread_37 : decode prog_10_method_17_code 37 = .ok (.iconst 1, 1) := by decide +kernel
theorem dc_Mod_spread_38 : decode prog_10_method_17_code 38 = .ok (.if_icmp .ne 7, 3) := by decide +kernel
theorem dc_Mod_spread_41 : decode prog_10_method_17_code 41 = .ok (.iload_n 1, 1) := by decide +kernel
theorem dc_Mod_spread_42 : decode prog_10_method_17_code 42 = .ok (.ifCond .eq 19, 3) := by decide +kernel
theorem dc_Mod_spread_45 : decode prog_10_method_17_code 45 = .ok (.aload_n 0, 1) := by decide +kernel
theorem dc_Mod_spread_46 : decode prog_10_method_17_code 46 = .ok (.getfield 77, 3) := by decide +kernel
theorem dc_Mod_spread_49 : decode prog_10_method_17_code 49 = .ok (.iload 4, 2) := by decide +kernel
theorem dc_Mod_spread_51 : decode prog_10_method_17_code 51 = .ok (.iaload, 1) := by decide +kernel
theorem dc_Mod_spread_52 : decode prog_10_method_17_code 52 = .ok (.iconst 2, 1) := by decide +kernel
theorem dc_Mod_spread_53 : decode prog_10_method_17_code 53 = .ok (.if_icmp .ne 12, 3) := by decide +kernel
theorem dc_Mod_spread_56 : decode prog_10_method_17_code 56 = .ok (.iload_n 1, 1) := by decide +kernel
theorem dc_Mod_spread_57 : decode prog_10_method_17_code 57 = .ok (.iload_n 2, 1) := by decide +kernel
theorem dc_Mod_spread_58 : decode prog_10_method_17_code 58 = .ok (.if_icmp .ne 7, 3) := by decide +kernel
theorem dc_Mod_spread_61 : decode prog_10_method_17_code 61 = .ok (.iconst 1, 1) := by decide +kernel
theorem dc_Mod_spread_62 : decode prog_10_method_17_code 62 = .ok (.goto 4, 3) := by decide +kernel
theorem dc_Mod_spread_65 : decode prog_10_method_17_code 65 = .ok (.iconst 0, 1) := by decide +kernel
theorem dc_Mod_spread_66 : decode prog_10_method_17_code 66 = .ok (.istore 5, 2) := by decide +kernel
theorem dc_Mod_spread_68 : decode prog_10_method_17_code 68 = .ok (.iload 5, 2) := by decide +kernel
theorem dc_Mod_spread_70 : decode prog_10_method_17_code 70 = .ok (.ifCond .eq 48, 3) := by decide +kernel
theorem dc_Mod_spread_73 : decode prog_10_method_17_code 73 = .ok (.aload_n 0, 1) := by decide +kernel
theorem dc_Mod_spread_74 : decode prog_10_method_17_code 74 = .ok (.getfield 83, 3) := by decide +kernel
theorem dc_Mod_spread_77 : decode prog_10_method_17_code 77 = .ok (.aload_n 0, 1) := by decide +kernel
theorem dc_Mod_spread_78 : decode prog_10_method_17_code 78 = .ok (.getfield 71, 3) := by decide +kernel
theorem dc_Mod_spread_81 : decode prog_10_method_17_code 81 = .ok (.iload 4, 2) := by decide +kernel
theorem dc_Mod_spread_83 : decode prog_10_method_17_code 83 = .ok (.iaload, 1) := by decide +kernel
theorem dc_Mod_spread_84 : decode prog_10_method_17_code 84 = .ok (.baload, 1) := by decide +kernel
theorem dc_Mod_spread_85 : decode prog_10_method_17_code 85 = .ok (.ifCond .eq 33, 3) := by decide +kernel
theorem dc_Mod_spread_88 : decode prog_10_method_17_code 88 = .ok (.aload_n 0, 1) := by decide +kernel
theorem dc_Mod_spread_89 : decode prog_10_method_17_code 89 = .ok (.getfield 83, 3) := by decide +kernel
theorem dc_Mod_spread_92 : decode prog_10_method_17_code 92 = .ok (.aload_n 0, 1) := by decide +kernel
theorem dc_Mod_spread_93 : decode prog_10_method_17_code 93 = .ok (.getfield 74, 3) := by decide +kernel
theorem dc_Mod_spread_96 : decode prog_10_method_17_code 96 = .ok (.iload 4, 2) := by decide +kernel
theorem dc_Mod_spread_98 : decode prog_10_method_17_code 98 = .ok (.iaload, 1) := by decide +kernel
theorem dc_Mod_spread_99 : decode prog_10_method_17_code 99 = .ok (.baload, 1) := by decide +kernel
theorem dc_Mod_spread_100 : decode prog_10_method_17_code 100 = .ok (.ifCond .ne 18, 3) := by decide +kernel
theorem dc_Mod_spread_103 : decode prog_10_method_17_code 103 = .ok (.aload_n 0, 1) := by decide +kernel
theorem dc_Mod_spread_104 : decode prog_10_method_17_code 104 = .ok (.getfield 83, 3) := by decide +kernel
theorem dc_Mod_spread_107 : decode prog_10_method_17_code 107 = .ok (.aload_n 0, 1) := by decide +kernel
theorem dc_Mod_spread_108 : decode prog_10_method_17_code 108 = .ok (.getfield 74, 3) := by decide +kernel
theorem dc_Mod_spread_111 : decode prog_10_method_17_code 111 = .ok (.iload 4, 2) := by decide +kernel
theorem dc_Mod_spread_113 : decode prog_10_method_17_code 113 = .ok (.iaload, 1) := by decide +kernel
theorem dc_Mod_spread_114 : decode prog_10_method_17_code 114 = .ok (.iconst 1, 1) := by decide +kernel
theorem dc_Mod_spread_115 : decode prog_10_method_17_code 115 = .ok (.bastore, 1) := by decide +kernel
theorem dc_Mod_spread_116 : decode prog_10_method_17_code 116 = .ok (.iconst 1, 1) := by decide +kernel
theorem dc_Mod_spread_117 : decode prog_10_method_17_code 117 = .ok (.istore_n 3, 1) := by decide +kernel
theorem dc_Mod_spread_118 : decode prog_10_method_17_code 118 = .ok (.iinc 4 1, 3) := by decide +kernel
theorem dc_Mod_spread_121 : decode prog_10_method_17_code 121 = .ok (.goto (-110), 3) := by decide +kernel
theorem dc_Mod_spread_124 : decode prog_10_method_17_code 124 = .ok (.goto (-122), 3) := by decide +kernel
theorem dc_Mod_spread_127 : decode prog_10_method_17_code 127 = .ok (.return_, 1) := by decide +kernel
theorem dc_Mod_longest_0 : decode prog_10_method_18_code 0 = .ok (.iconst 0, 1) := by decide +kernel
theorem dc_Mod_longest_1 : decode prog_10_method_18_code 1 = .ok (.istore_n 3, 1) := by decide +kernel
theorem dc_Mod_longest_2 : decode prog_10_method_18_code 2 = .ok (.iload_n 3, 1) := by decide +kernel
theorem dc_Mod_longest_3 : decode prog_10_method_18_code 3 = .ok (.aload_n 0, 1) := by decide +kernel
theorem dc_Mod_longest_4 : decode prog_10_method_18_code 4 = .ok (.getfield 114, 3) := by decide +kernel
theorem dc_Mod_longest_7 : decode prog_10_method_18_code 7 = .ok (.if_icmp .ge 24, 3) := by decide +kernel
theorem dc_Mod_longest_10 : decode prog_10_method_18_code 10 = .ok (.aload_n 0, 1) := by decide +kernel
theorem dc_Mod_longest_11 : decode prog_10_method_18_code 11 = .ok (.getfield 83, 3) := by decide +kernel
theorem dc_Mod_longest_14 : decode prog_10_method_18_code 14 = .ok (.iload_n 3, 1) := by decide +kernel
theorem dc_Mod_longest_15 : decode prog_10_method_18_code 15 = .ok (.iload_n 3, 1) := by decide +kernel
theorem dc_Mod_longest_16 : decode prog_10_method_18_code 16 = .ok (.ifCond .ne 7, 3) := by decide +kernel
theorem dc_Mod_longest_19 : decode prog_10_method_18_code 19 = .ok (.iconst 1, 1) := by decide +kernel
theorem dc_Mod_longest_20 : decode prog_10_method_18_code 20 = .ok (.goto 4, 3) := by decide +kernel
theorem dc_Mod_longest_23 : decode prog_10_method_18_code 23 = .ok (.iconst 0, 1) := by decide +kernel
theorem dc_Mod_longest_24 : decode prog_10_method_18_code 24 = .ok (.bastore, 1) := by decide +kernel
theorem dc_Mod_longest_25 : decode prog_10_method_18_code 25 = .ok (.iinc 3 1, 3) := by decide +kernel
theorem dc_Mod_longest_28 : decode prog_10_method_18_code 28 = .ok (.goto (-26), 3) := by decide +kernel
theorem dc_Mod_longest_31 : decode prog_10_method_18_code 31 = .ok (.iconst (-1), 1) := by decide +kernel
theorem dc_Mod_longest_32 : decode prog_10_method_18_code 32 = .ok (.istore_n 3, 1) := by decide +kernel
theorem dc_Mod_longest_33 : decode prog_10_method_18_code 33 = .ok (.iconst 1, 1) := by decide +kernel
theorem dc_Mod_longest_34 : decode prog_10_method_18_code 34 = .ok (.istore 4, 2) := by decide +kernel
theorem dc_Mod_longest_36 : decode prog_10_method_18_code 36 = .ok (.iload_n 2, 1) := by decide +kernel
theorem dc_Mod_longest_37 : decode prog_10_method_18_code 37 = .ok (.istore 5, 2) := by decide +kernel
theorem dc_Mod_longest_39 : decode prog_10_method_18_code 39 = .ok (.iload 5, 2) := by decide +kernel
theorem dc_Mod_longest_41 : decode prog_10_method_18_code 41 = .ok (.aload_n 0, 1) := by decide +kernel
theorem dc_Mod_longest_42 : decode prog_10_method_18_code 42 = .ok (.getfield 13, 3) := by decide +kernel
theorem dc_Mod_longest_45 : decode prog_10_method_18_code 45 = .ok (.iload_n 1, 1) := by decide +kernel
theorem dc_Mod_longest_46 : decode prog_10_method_18_code 46 = .ok (.iaload, 1) := by decide +kernel
theorem dc_Mod_longest_47 : decode prog_10_method_18_code 47 = .ok (.if_icmp .gt 200, 3) := by decide +kernel
theorem dc_Mod_longest_50 : decode prog_10_method_18_code 50 = .ok (.iload 4, 2) := by decide +kernel
theorem dc_Mod_longest_52 : decode prog_10_method_18_code 52 = .ok (.ifCond .eq 195, 3) := by decide +kernel
theorem dc_Mod_longest_55 : decode prog_10_method_18_code 55 = .ok (.aload_n 0, 1) := by decide +kernel
theorem dc_Mod_longest_56 : decode prog_10_method_18_code 56 = .ok (.iload 5, 2) := by decide +kernel
theorem dc_Mod_longest_58 : decode prog_10_method_18_code 58 = .ok (.aload_n 0, 1) := by decide +kernel
theorem dc_Mod_longest_59 : decode prog_10_method_18_code 59 = .ok (.getfield 13, 3) := by decide +kernel
theorem dc_Mod_longest_62 : decode prog_10_method_18_code 62 = .ok (.iload_n 1, 1) := by decide +kernel
theorem dc_Mod_longest_63 : decode prog_10_method_18_code 63 = .ok (.iaload, 1) := by decide +kernel
theorem dc_Mod_longest_64 : decode prog_10_method_18_code 64 = .ok (.invokevirtual 149, 3) := by decide +kernel
theorem dc_Mod_longest_67 : decode prog_10_method_18_code 67 = .ok (.aload_n 0, 1) := by decide +kernel
theorem dc_Mod_longest_68 : decode prog_10_method_18_code 68 = .ok (.getfield 83, 3) := by decide +kernel
theorem dc_Mod_longest_71 : decode prog_10_method_18_code 71 = .ok (.iconst 1, 1) := by decide +kernel
theorem dc_Mod_longest_72 : decode prog_10_method_18_code 72 = .ok (.baload, 1) := by decide +kernel
theorem dc_Mod_longest_73 : decode prog_10_method_18_code 73 = .ok (.ifCond .eq 8, 3) := by decide +kernel
theorem dc_Mod_longest_76 : decode prog_10_method_18_code 76 = .ok (.iload 5, 2) := by decide +kernel
theorem dc_Mod_longest_78 : decode prog_10_method_18_code 78 = .ok (.goto 4, 3) := by decide +kernel
theorem dc_Mod_longest_81 : decode prog_10_method_18_code 81 = .ok (.iload_n 3, 1) := by decide +kernel
theorem dc_Mod_longest_82 : decode prog_10_method_18_code 82 = .ok (.istore_n 3, 1) := by decide +kernel
theorem dc_Mod_longest_83 : decode prog_10_method_18_code 83 = .ok (.iconst 0, 1) := by decide +kernel
theorem dc_Mod_longest_84 : decode prog_10_method_18_code 84 = .ok (.istore 4, 2) := by decide +kernel
theorem dc_Mod_longest_86 : decode prog_10_method_18_code 86 = .ok (.iconst 0, 1) := by decide +kernel
theorem dc_Mod_longest_87 : decode prog_10_method_18_code 87 = .ok (.istore 6, 2) := by decide +kernel
theorem dc_Mod_longest_89 : decode prog_10_method_18_code 89 = .ok (.iload 6, 2) := by decide +kernel
theorem dc_Mod_longest_91 : decode prog_10_method_18_code 91 = .ok (.aload_n 0, 1) := by decide +kernel
theorem dc_Mod_longest_92 : decode prog_10_method_18_code 92 = .ok (.getfield 114, 3) := by decide +kernel
theorem dc_Mod_longest_95 : decode prog_10_method_18_code 95 = .ok (.if_icmp .ge 17, 3) := by decide +kernel
theorem dc_Mod_longest_98 : decode prog_10_method_18_code 98 = .ok (.aload_n 0, 1) := by decide +kernel
theorem dc_Mod_longest_99 : decode prog_10_method_18_code 99 = .ok (.getfield 87, 3) := by decide +kernel
theorem dc_Mod_longest_102 : decode prog_10_method_18_code 102 = .ok (.iload 6, 2) := by decide +kernel
theorem dc_Mod_longest_104 : decode prog_10_method_18_code 104 = .ok (.iconst 0, 1) := by decide +kernel
theorem dc_Mod_longest_105 : decode prog_10_method_18_code 105 = .ok (.bastore, 1) := by decide +kernel
theorem dc_Mod_longest_106 : decode prog_10_method_18_code 106 = .ok (.iinc 6 1, 3) := by decide +kernel
theorem dc_Mod_longest_109 : decode prog_10_method_18_code 109 = .ok (.goto (-20), 3) := by decide +kernel
theorem dc_Mod_longest_112 : decode prog_10_method_18_code 112 = .ok (.iconst 0, 1) := by decide +kernel
theorem dc_Mod_longest_113 : decode prog_10_method_18_code 113 = .ok (.istore 6, 2) := by decide +kernel
theorem dc_Mod_longest_115 : decode prog_10_method_18_code 115 = .ok (.iload 6, 2) := by decide +kernel
theorem dc_Mod_longest_117 : decode prog_10_method_18_code 117 = .ok (.aload_n 0, 1) := by decide +kernel
theorem dc_Mod_longest_118 : decode prog_10_method_18_code 118 = .ok (.getfield 117, 3) := by decide +kernel
theorem dc_Mod_longest_121 : decode prog_10_method_18_code 121 = .ok (.if_icmp .ge 88, 3) := by decide +kernel
theorem dc_Mod_longest_124 : decode prog_10_method_18_code 124 = .ok (.iload 5, 2) := by decide +kernel
theorem dc_Mod_longest_126 : decode prog_10_method_18_code 126 = .ok (.aload_n 0, 1) := by decide +kernel
theorem dc_Mod_longest_127 : decode prog_10_method_18_code 127 = .ok (.getfield 13, 3) := by decide +kernel
theorem dc_Mod_longest_130 : decode prog_10_method_18_code 130 = .ok (.iload_n 1, 1) := by decide +kernel
theorem dc_Mod_longest_131 : decode prog_10_method_18_code 131 = .ok (.iaload, 1) := by decide +kernel
theorem dc_Mod_longest_132 : decode prog_10_method_18_code 132 = .ok (.if_icmp .ge 77, 3) := by decide +kernel
theorem dc_Mod_longest_135 : decode prog_10_method_18_code 135 = .ok (.aload_n 0, 1) := by decide +kernel
theorem dc_Mod_longest_136 : decode prog_10_method_18_code 136 = .ok (.getfield 77, 3) := by decide +kernel
theorem dc_Mod_longest_139 : decode prog_10_method_18_code 139 = .ok (.iload 6, 2) := by decide +kernel
theorem dc_Mod_longest_141 : decode prog_10_method_18_code 141 = .ok (.iaload, 1) := by decide +kernel
theorem dc_Mod_longest_142 : decode prog_10_method_18_code 142 = .ok (.iconst 3, 1) := by decide +kernel
theorem dc_Mod_longest_143 : decode prog_10_method_18_code 143 = .ok (.if_icmp .ne 60, 3) := by decide +kernel
theorem dc_Mod_longest_146 : decode prog_10_method_18_code 146 = .ok (.aload_n 0, 1) := by decide +kernel
theorem dc_Mod_longest_147 : decode prog_10_method_18_code 147 = .ok (.getfield 83, 3) := by decide +kernel
theorem dc_Mod_longest_150 : decode prog_10_method_18_code 150 = .ok (.aload_n 0, 1) := by decide +kernel
theorem dc_Mod_longest_151 : decode prog_10_method_18_code 151 = .ok (.getfield 71, 3) := by decide +kernel
theorem dc_Mod_longest_154 : decode prog_10_method_18_code 154 = .ok (.iload 6, 2) := by decide +kernel
theorem dc_Mod_longest_156 : decode prog_10_method_18_code 156 = .ok (.iaload, 1) := by decide +kernel
theorem dc_Mod_longest_157 : decode prog_10_method_18_code 157 = .ok (.baload, 1) := by decide +kernel
theorem dc_Mod_longest_158 : decode prog_10_method_18_code 158 = .ok (.ifCond .eq 45, 3) := by decide +kernel
theorem dc_Mod_longest_161 : decode prog_10_method_18_code 161 = .ok (.aload_n 0, 1) := by decide +kernel
theorem dc_Mod_longest_162 : decode prog_10_method_18_code 162 = .ok (.aload_n 0, 1) := by decide +kernel
theorem dc_Mod_longest_163 : decode prog_10_method_18_code 163 = .ok (.getfield 80, 3) := by decide +kernel
theorem dc_Mod_longest_166 : decode prog_10_method_18_code 166 = .ok (.iload 6, 2) := by decide +kernel
theorem dc_Mod_longest_168 : decode prog_10_method_18_code 168 = .ok (.iaload, 1) := by decide +kernel
theorem dc_Mod_longest_169 : decode prog_10_method_18_code 169 = .ok (.aload_n 0, 1) := by decide +kernel
theorem dc_Mod_longest_170 : decode prog_10_method_18_code 170 = .ok (.getfield 7, 3) := by decide +kernel
theorem dc_Mod_longest_173 : decode prog_10_method_18_code 173 = .ok (.bipush 120, 2) := by decide +kernel
theorem dc_Mod_longest_175 : decode prog_10_method_18_code 175 = .ok (.iload_n 1, 1) := by decide +kernel
theorem dc_Mod_longest_176 : decode prog_10_method_18_code 176 = .ok (.imul, 1) := by decide +kernel
theorem dc_Mod_longest_177 : decode prog_10_method_18_code 177 = .ok (.iload 5, 2) := by decide +kernel
theorem dc_Mod_longest_179 : decode prog_10_method_18_code 179 = .ok (.iadd, 1) := by decide +kernel
theorem dc_Mod_longest_180 : decode prog_10_method_18_code 180 = .ok (.iaload, 1) := by decide +kernel
theorem dc_Mod_longest_181 : decode prog_10_method_18_code 181 = .ok (.invokevirtual 153, 3) := by decide +kernel
theorem dc_Mod_longest_184 : decode prog_10_method_18_code 184 = .ok (.ifCond .eq 19, 3) := by decide +kernel
theorem dc_Mod_longest_187 : decode prog_10_method_18_code 187 = .ok (.aload_n 0, 1) := by decide +kernel
theorem dc_Mod_longest_188 : decode prog_10_method_18_code 188 = .ok (.getfield 87, 3) := by decide +kernel
theorem dc_Mod_longest_191 : decode prog_10_method_18_code 191 = .ok (.aload_n 0, 1) := by decide +kernel
theorem dc_Mod_longest_192 : decode prog_10_method_18_code 192 = .ok (.getfield 74, 3) := by decide +kernel
theorem dc_Mod_longest_195 : decode prog_10_method_18_code 195 = .ok (.iload 6, 2) := by decide +kernel
theorem dc_Mod_longest_197 : decode prog_10_method_18_code 197 = .ok (.iaload, 1) := by decide +kernel
theorem dc_Mod_longest_198 : decode prog_10_method_18_code 198 = .ok (.iconst 1, 1) := by decide +kernel
theorem dc_Mod_longest_199 : decode prog_10_method_18_code 199 = .ok (.bastore, 1) := by decide +kernel
theorem dc_Mod_longest_200 : decode prog_10_method_18_code 200 = .ok (.iconst 1, 1) := by decide +kernel
theorem dc_Mod_longest_201 : decode prog_10_method_18_code 201 = .ok (.istore 4, 2) := by decide +kernel
theorem dc_Mod_longest_203 : decode prog_10_method_18_code 203 = .ok (.iinc 6 1, 3) := by decide +kernel
theorem dc_Mod_longest_206 : decode prog_10_method_18_code 206 = .ok (.goto (-91), 3) := by decide +kernel
theorem dc_Mod_longest_209 : decode prog_10_method_18_code 209 = .ok (.iconst 0, 1) := by decide +kernel
theorem dc_Mod_longest_210 : decode prog_10_method_18_code 210 = .ok (.istore 6, 2) := by decide +kernel
theorem dc_Mod_longest_212 : decode prog_10_method_18_code 212 = .ok (.iload 6, 2) := by decide +kernel
theorem dc_Mod_longest_214 : decode prog_10_method_18_code 214 = .ok (.aload_n 0, 1) := by decide +kernel
theorem dc_Mod_longest_215 : decode prog_10_method_18_code 215 = .ok (.getfield 114, 3) := by decide +kernel
theorem dc_Mod_longest_218 : decode prog_10_method_18_code 218 = .ok (.if_icmp .ge 23, 3) := by decide +kernel
theorem dc_Mod_longest_221 : decode prog_10_method_18_code 221 = .ok (.aload_n 0, 1) := by decide +kernel
theorem dc_Mod_longest_222 : decode prog_10_method_18_code 222 = .ok (.getfield 83, 3) := by decide +kernel
theorem dc_Mod_longest_225 : decode prog_10_method_18_code 225 = .ok (.iload 6, 2) := by decide +kernel
theorem dc_Mod_longest_227 : decode prog_10_method_18_code 227 = .ok (.aload_n 0, 1) := by decide +kernel
theorem dc_Mod_longest_228 : decode prog_10_method_18_code 228 = .ok (.getfield 87, 3) := by decide +kernel
theorem dc_Mod_longest_231 : decode prog_10_method_18_code 231 = .ok (.iload 6, 2) := by decide +kernel
theorem dc_Mod_longest_233 : decode prog_10_method_18_code 233 = .ok (.baload, 1) := by decide +kernel
theorem dc_Mod_longest_234 : decode prog_10_method_18_code 234 = .ok (.bastore, 1) := by decide +kernel
theorem dc_Mod_longest_235 : decode prog_10_method_18_code 235 = .ok (.iinc 6 1, 3) := by decide +kernel
theorem dc_Mod_longest_238 : decode prog_10_method_18_code 238 = .ok (.goto (-26), 3) := by decide +kernel
theorem dc_Mod_longest_241 : decode prog_10_method_18_code 241 = .ok (.iinc 5 1, 3) := by decide +kernel
theorem dc_Mod_longest_244 : decode prog_10_method_18_code 244 = .ok (.goto (-205), 3) := by decide +kernel
theorem dc_Mod_longest_247 : decode prog_10_method_18_code 247 = .ok (.iload_n 3, 1) := by decide +kernel
theorem dc_Mod_longest_248 : decode prog_10_method_18_code 248 = .ok (.ireturn, 1) := by decide +kernel
theorem dc_Mod_seek_0 : decode prog_10_method_19_code 0 = .ok (.aload_n 0, 1) := by decide +kernel
theorem dc_Mod_seek_1 : decode prog_10_method_19_code 1 = .ok (.iload_n 1, 1) := by decide +kernel
theorem dc_Mod_seek_2 : decode prog_10_method_19_code 2 = .ok (.invokevirtual 146, 3) := by decide +kernel
theorem dc_Mod_seek_5 : decode prog_10_method_19_code 5 = .ok (.iload_n 3, 1) := by decide +kernel
theorem dc_Mod_seek_6 : decode prog_10_method_19_code 6 = .ok (.istore 4, 2) := by decide +kernel
theorem dc_Mod_seek_8 : decode prog_10_method_19_code 8 = .ok (.iload 4, 2) := by decide +kernel
theorem dc_Mod_seek_10 : decode prog_10_method_19_code 10 = .ok (.aload_n 0, 1) := by decide +kernel
theorem dc_Mod_seek_11 : decode prog_10_method_19_code 11 = .ok (.getfield 13, 3) := by decide +kernel
theorem dc_Mod_seek_14 : decode prog_10_method_19_code 14 = .ok (.iload_n 2, 1) := by decide +kernel
theorem dc_Mod_seek_15 : decode prog_10_method_19_code 15 = .ok (.iaload, 1) := by decide +kernel
theorem dc_Mod_seek_16 : decode prog_10_method_19_code 16 = .ok (.if_icmp .gt 38, 3) := by decide +kernel
theorem dc_Mod_seek_19 : decode prog_10_method_19_code 19 = .ok (.aload_n 0, 1) := by decide +kernel
theorem dc_Mod_seek_20 : decode prog_10_method_19_code 20 = .ok (.iload_n 2, 1) := by decide +kernel
theorem dc_Mod_seek_21 : decode prog_10_method_19_code 21 = .ok (.iload 4, 2) := by decide +kernel
theorem dc_Mod_seek_23 : decode prog_10_method_19_code 23 = .ok (.invokevirtual 157, 3) := by decide +kernel
theorem dc_Mod_seek_26 : decode prog_10_method_19_code 26 = .ok (.istore 5, 2) := by decide +kernel
theorem dc_Mod_seek_28 : decode prog_10_method_19_code 28 = .ok (.iload 5, 2) := by decide +kernel
theorem dc_Mod_seek_30 : decode prog_10_method_19_code 30 = .ok (.iconst (-1), 1) := by decide +kernel
theorem dc_Mod_seek_31 : decode prog_10_method_19_code 31 = .ok (.if_icmp .eq 17, 3) := by decide +kernel
theorem dc_Mod_seek_34 : decode prog_10_method_19_code 34 = .ok (.aload_n 0, 1) := by decide +kernel
theorem dc_Mod_seek_35 : decode prog_10_method_19_code 35 = .ok (.iload 4, 2) := by decide +kernel
theorem dc_Mod_seek_37 : decode prog_10_method_19_code 37 = .ok (.putfield 160, 3) := by decide +kernel
theorem dc_Mod_seek_40 : decode prog_10_method_19_code 40 = .ok (.aload_n 0, 1) := by decide +kernel
theorem dc_Mod_seek_41 : decode prog_10_method_19_code 41 = .ok (.iload 5, 2) := by decide +kernel
theorem dc_Mod_seek_43 : decode prog_10_method_19_code 43 = .ok (.putfield 163, 3) := by decide +kernel
theorem dc_Mod_seek_46 : decode prog_10_method_19_code 46 = .ok (.iconst 1, 1) := by decide +kernel
theorem dc_Mod_seek_47 : decode prog_10_method_19_code 47 = .ok (.ireturn, 1) := by decide +kernel
theorem dc_Mod_seek_48 : decode prog_10_method_19_code 48 = .ok (.iinc 4 1, 3) := by decide +kernel
theorem dc_Mod_seek_51 : decode prog_10_method_19_code 51 = .ok (.goto (-43), 3) := by decide +kernel
theorem dc_Mod_seek_54 : decode prog_10_method_19_code 54 = .ok (.iconst 0, 1) := by decide +kernel
theorem dc_Mod_seek_55 : decode prog_10_method_19_code 55 = .ok (.ireturn, 1) := by decide +kernel
theorem dc_Mod_copyRow_0 : decode prog_10_method_20_code 0 = .ok (.aload_n 0, 1) := by decide +kernel
theorem dc_Mod_copyRow_1 : decode prog_10_method_20_code 1 = .ok (.getfield 13, 3) := by decide +kernel
theorem dc_Mod_copyRow_4 : decode prog_10_method_20_code 4 = .ok (.iload_n 2, 1) := by decide +kernel
theorem dc_Mod_copyRow_5 : decode prog_10_method_20_code 5 = .ok (.aload_n 0, 1) := by decide +kernel
theorem dc_Mod_copyRow_6 : decode prog_10_method_20_code 6 = .ok (.getfield 13, 3) := by decide +kernel
theorem dc_Mod_copyRow_9 : decode prog_10_method_20_code 9 = .ok (.iload_n 1, 1) := by decide +kernel
theorem dc_Mod_copyRow_10 : decode prog_10_method_20_code 10 = .ok (.iaload, 1) := by decide +kernel
theorem dc_Mod_copyRow_11 : decode prog_10_method_20_code 11 = .ok (.iastore, 1) := by decide +kernel
theorem dc_Mod_copyRow_12 : decode prog_10_method_20_code 12 = .ok (.iconst 0, 1) := by decide +kernel
theorem dc_Mod_copyRow_13 : decode prog_10_method_20_code 13 = .ok (.istore_n 3, 1) := by decide +kernel
theorem dc_Mod_copyRow_14 : decode prog_10_method_20_code 14 = .ok (.iload_n 3, 1) := by decide +kernel
theorem dc_Mod_copyRow_15 : decode prog_10_method_20_code 15 = .ok (.aload_n 0, 1) := by decide +kernel
theorem dc_Mod_copyRow_16 : decode prog_10_method_20_code 16 = .ok (.getfield 13, 3) := by decide +kernel
theorem dc_Mod_copyRow_19 : decode prog_10_method_20_code 19 = .ok (.iload_n 1, 1) := by decide +kernel
theorem dc_Mod_copyRow_20 : decode prog_10_method_20_code 20 = .ok (.iaload, 1) := by decide +kernel
theorem dc_Mod_copyRow_21 : decode prog_10_method_20_code 21 = .ok (.if_icmp .ge 31, 3) := by decide +kernel
theorem dc_Mod_copyRow_24 : decode prog_10_method_20_code 24 = .ok (.aload_n 0, 1) := by decide +kernel
theorem dc_Mod_copyRow_25 : decode prog_10_method_20_code 25 = .ok (.getfield 7, 3) := by decide +kernel
theorem dc_Mod_copyRow_28 : decode prog_10_method_20_code 28 = .ok (.bipush 120, 2) := by decide +kernel
theorem dc_Mod_copyRow_30 : decode prog_10_method_20_code 30 = .ok (.iload_n 2, 1) := by decide +kernel
theorem dc_Mod_copyRow_31 : decode prog_10_method_20_code 31 = .ok (.imul, 1) := by decide +kernel
theorem dc_Mod_copyRow_32 : decode prog_10_method_20_code 32 = .ok (.iload_n 3, 1) := by decide +kernel
theorem dc_Mod_copyRow_33 : decode prog_10_method_20_code 33 = .ok (.iadd, 1) := by decide +kernel
theorem dc_Mod_copyRow_34 : decode prog_10_method_20_code 34 = .ok (.aload_n 0, 1) := by decide +kernel
theorem dc_Mod_copyRow_35 : decode prog_10_method_20_code 35 = .ok (.getfield 7, 3) := by decide +kernel
theorem dc_Mod_copyRow_38 : decode prog_10_method_20_code 38 = .ok (.bipush 120, 2) := by decide +kernel
theorem dc_Mod_copyRow_40 : decode prog_10_method_20_code 40 = .ok (.iload_n 1, 1) := by decide +kernel
theorem dc_Mod_copyRow_41 : decode prog_10_method_20_code 41 = .ok (.imul, 1) := by decide +kernel
theorem dc_Mod_copyRow_42 : decode prog_10_method_20_code 42 = .ok (.iload_n 3, 1) := by decide +kernel
theorem dc_Mod_copyRow_43 : decode prog_10_method_20_code 43 = .ok (.iadd, 1) := by decide +kernel
theorem dc_Mod_copyRow_44 : decode prog_10_method_20_code 44 = .ok (.iaload, 1) := by decide +kernel
theorem dc_Mod_copyRow_45 : decode prog_10_method_20_code 45 = .ok (.iastore, 1) := by decide +kernel
theorem dc_Mod_copyRow_46 : decode prog_10_method_20_code 46 = .ok (.iinc 3 1, 3) := by decide +kernel
theorem dc_Mod_copyRow_49 : decode prog_10_method_20_code 49 = .ok (.goto (-35), 3) := by decide +kernel
theorem dc_Mod_copyRow_52 : decode prog_10_method_20_code 52 = .ok (.return_, 1) := by decide +kernel
theorem dc_Mod_text_0 : decode prog_10_method_21_code 0 = .ok (.aload_n 0, 1) := by decide +kernel
theorem dc_Mod_text_1 : decode prog_10_method_21_code 1 = .ok (.iload_n 1, 1) := by decide +kernel
theorem dc_Mod_text_2 : decode prog_10_method_21_code 2 = .ok (.iconst 0, 1) := by decide +kernel
theorem dc_Mod_text_3 : decode prog_10_method_21_code 3 = .ok (.iconst 5, 1) := by decide +kernel
theorem dc_Mod_text_4 : decode prog_10_method_21_code 4 = .ok (.invokestatic 142, 3) := by decide +kernel
theorem dc_Mod_text_7 : decode prog_10_method_21_code 7 = .ok (.iconst 1, 1) := by decide +kernel
theorem dc_Mod_text_8 : decode prog_10_method_21_code 8 = .ok (.invokevirtual 106, 3) := by decide +kernel
theorem dc_Mod_text_11 : decode prog_10_method_21_code 11 = .ok (.ifCond .ne 5, 3) := by decide +kernel
theorem dc_Mod_text_14 : decode prog_10_method_21_code 14 = .ok (.iconst 0, 1) := by decide +kernel
theorem dc_Mod_text_15 : decode prog_10_method_21_code 15 = .ok (.ireturn, 1) := by decide +kernel
theorem dc_Mod_text_16 : decode prog_10_method_21_code 16 = .ok (.aload_n 0, 1) := by decide +kernel
theorem dc_Mod_text_17 : decode prog_10_method_21_code 17 = .ok (.iconst 0, 1) := by decide +kernel
theorem dc_Mod_text_18 : decode prog_10_method_21_code 18 = .ok (.iconst 2, 1) := by decide +kernel
theorem dc_Mod_text_19 : decode prog_10_method_21_code 19 = .ok (.iload_n 1, 1) := by decide +kernel
theorem dc_Mod_text_20 : decode prog_10_method_21_code 20 = .ok (.iadd, 1) := by decide +kernel
theorem dc_Mod_text_21 : decode prog_10_method_21_code 21 = .ok (.invokevirtual 166, 3) := by decide +kernel
theorem dc_Mod_text_24 : decode prog_10_method_21_code 24 = .ok (.aload_n 0, 1) := by decide +kernel
theorem dc_Mod_text_25 : decode prog_10_method_21_code 25 = .ok (.getfield 13, 3) := by decide +kernel
theorem dc_Mod_text_28 : decode prog_10_method_21_code 28 = .ok (.iconst 0, 1) := by decide +kernel
theorem dc_Mod_text_29 : decode prog_10_method_21_code 29 = .ok (.iconst 0, 1) := by decide +kernel
theorem dc_Mod_text_30 : decode prog_10_method_21_code 30 = .ok (.iastore, 1) := by decide +kernel
theorem dc_Mod_text_31 : decode prog_10_method_21_code 31 = .ok (.aload_n 0, 1) := by decide +kernel
theorem dc_Mod_text_32 : decode prog_10_method_21_code 32 = .ok (.getfield 13, 3) := by decide +kernel
theorem dc_Mod_text_35 : decode prog_10_method_21_code 35 = .ok (.iconst 2, 1) := by decide +kernel
theorem dc_Mod_text_36 : decode prog_10_method_21_code 36 = .ok (.iload_n 1, 1) := by decide +kernel
theorem dc_Mod_text_37 : decode prog_10_method_21_code 37 = .ok (.iadd, 1) := by decide +kernel
theorem dc_Mod_text_38 : decode prog_10_method_21_code 38 = .ok (.iaload, 1) := by decide +kernel
theorem dc_Mod_text_39 : decode prog_10_method_21_code 39 = .ok (.ireturn, 1) := by decide +kernel
theorem dc_Mod_separator_0 : decode prog_10_method_22_code 0 = .ok (.aload_n 0, 1) := by decide +kernel
theorem dc_Mod_separator_1 : decode prog_10_method_22_code 1 = .ok (.iload_n 1, 1) := by decide +kernel
theorem dc_Mod_separator_2 : decode prog_10_method_22_code 2 = .ok (.iconst 1, 1) := by decide +kernel
theorem dc_Mod_separator_3 : decode prog_10_method_22_code 3 = .ok (.sipush 255, 3) := by decide +kernel
theorem dc_Mod_separator_6 : decode prog_10_method_22_code 6 = .ok (.invokestatic 142, 3) := by decide +kernel
theorem dc_Mod_separator_9 : decode prog_10_method_22_code 9 = .ok (.iconst 1, 1) := by decide +kernel
theorem dc_Mod_separator_10 : decode prog_10_method_22_code 10 = .ok (.invokevirtual 106, 3) := by decide +kernel
theorem dc_Mod_separator_13 : decode prog_10_method_22_code 13 = .ok (.ifCond .ne 5, 3) := by decide +kernel
theorem dc_Mod_separator_16 : decode prog_10_method_22_code 16 = .ok (.iconst 0, 1) := by decide +kernel
theorem dc_Mod_separator_17 : decode prog_10_method_22_code 17 = .ok (.ireturn, 1) := by decide +kernel
theorem dc_Mod_separator_18 : decode prog_10_method_22_code 18 = .ok (.aload_n 0, 1) := by decide +kernel
theorem dc_Mod_separator_19 : decode prog_10_method_22_code 19 = .ok (.getfield 22, 3) := by decide +kernel
theorem dc_Mod_separator_22 : decode prog_10_method_22_code 22 = .ok (.istore_n 2, 1) := by decide +kernel
theorem dc_Mod_separator_23 : decode prog_10_method_22_code 23 = .ok (.aload_n 0, 1) := by decide +kernel
theorem dc_Mod_separator_24 : decode prog_10_method_22_code 24 = .ok (.iload_n 1, 1) := by decide +kernel
theorem dc_Mod_separator_25 : decode prog_10_method_22_code 25 = .ok (.putfield 22, 3) := by decide +kernel
theorem dc_Mod_separator_28 : decode prog_10_method_22_code 28 = .ok (.iload_n 2, 1) := by decide +kernel
theorem dc_Mod_separator_29 : decode prog_10_method_22_code 29 = .ok (.ireturn, 1) := by decide +kernel
theorem dc_Mod_isField_0 : decode prog_10_method_23_code 0 = .ok (.iload_n 0, 1) := by decide +kernel
theorem dc_Mod_isField_1 : decode prog_10_method_23_code 1 = .ok (.iconst 1, 1) := by decide +kernel
theorem dc_Mod_isField_2 : decode prog_10_method_23_code 2 = .ok (.bipush 30, 2) := by decide +kernel
theorem dc_Mod_isField_4 : decode prog_10_method_23_code 4 = .ok (.invokestatic 142, 3) := by decide +kernel
theorem dc_Mod_isField_7 : decode prog_10_method_23_code 7 = .ok (.ireturn, 1) := by decide +kernel
theorem dc_Mod_rule_0 : decode prog_10_method_24_code 0 = .ok (.iload_n 1, 1) := by decide +kernel
theorem dc_Mod_rule_1 : decode prog_10_method_24_code 1 = .ok (.iconst 0, 1) := by decide +kernel
theorem dc_Mod_rule_2 : decode prog_10_method_24_code 2 = .ok (.bipush 6, 2) := by decide +kernel
theorem dc_Mod_rule_4 : decode prog_10_method_24_code 4 = .ok (.invokestatic 142, 3) := by decide +kernel
theorem dc_Mod_rule_7 : decode prog_10_method_24_code 7 = .ok (.ifCond .eq 55, 3) := by decide +kernel
theorem dc_Mod_rule_10 : decode prog_10_method_24_code 10 = .ok (.iload_n 1, 1) := by decide +kernel
theorem dc_Mod_rule_11 : decode prog_10_method_24_code 11 = .ok (.iconst 1, 1) := by decide +kernel
theorem dc_Mod_rule_12 : decode prog_10_method_24_code 12 = .ok (.if_icmp .eq 8, 3) := by decide +kernel
theorem dc_Mod_rule_15 : decode prog_10_method_24_code 15 = .ok (.iload_n 1, 1) := by decide +kernel
theorem dc_Mod_rule_16 : decode prog_10_method_24_code 16 = .ok (.iconst 2, 1) := by decide +kernel
theorem dc_Mod_rule_17 : decode prog_10_method_24_code 17 = .ok (.if_icmp .ne 12, 3) := by decide +kernel
theorem dc_Mod_rule_20 : decode prog_10_method_24_code 20 = .ok (.iload_n 2, 1) := by decide +kernel
theorem dc_Mod_rule_21 : decode prog_10_method_24_code 21 = .ok (.iconst 0, 1) := by decide +kernel
theorem dc_Mod_rule_22 : decode prog_10_method_24_code 22 = .ok (.iconst 5, 1) := by decide +kernel
theorem dc_Mod_rule_23 : decode prog_10_method_24_code 23 = .ok (.invokestatic 142, 3) := by decide +kernel
theorem dc_Mod_rule_26 : decode prog_10_method_24_code 26 = .ok (.ifCond .eq 36, 3) := by decide +kernel
theorem dc_Mod_rule_29 : decode prog_10_method_24_code 29 = .ok (.iload_n 1, 1) := by decide +kernel
theorem dc_Mod_rule_30 : decode prog_10_method_24_code 30 = .ok (.iconst 2, 1) := by decide +kernel
theorem dc_Mod_rule_31 : decode prog_10_method_24_code 31 = .ok (.if_icmp .ne 10, 3) := by decide +kernel
theorem dc_Mod_rule_34 : decode prog_10_method_24_code 34 = .ok (.iload_n 3, 1) := by decide +kernel
theorem dc_Mod_rule_35 : decode prog_10_method_24_code 35 = .ok (.invokestatic 169, 3) := by decide +kernel
theorem dc_Mod_rule_38 : decode prog_10_method_24_code 38 = .ok (.ifCond .eq 24, 3) := by decide +kernel
theorem dc_Mod_rule_41 : decode prog_10_method_24_code 41 = .ok (.iload_n 1, 1) := by decide +kernel
theorem dc_Mod_rule_42 : decode prog_10_method_24_code 42 = .ok (.iconst 3, 1) := by decide +kernel
theorem dc_Mod_rule_43 : decode prog_10_method_24_code 43 = .ok (.if_icmp .eq 8, 3) := by decide +kernel
theorem dc_Mod_rule_46 : decode prog_10_method_24_code 46 = .ok (.iload_n 1, 1) := by decide +kernel
theorem dc_Mod_rule_47 : decode prog_10_method_24_code 47 = .ok (.iconst 4, 1) := by decide +kernel
theorem dc_Mod_rule_48 : decode prog_10_method_24_code 48 = .ok (.if_icmp .ne 10, 3) := by decide +kernel
theorem dc_Mod_rule_51 : decode prog_10_method_24_code 51 = .ok (.iload_n 2, 1) := by decide +kernel
theorem dc_Mod_rule_52 : decode prog_10_method_24_code 52 = .ok (.invokestatic 169, 3) := by decide +kernel
theorem dc_Mod_rule_55 : decode prog_10_method_24_code 55 = .ok (.ifCond .eq 7, 3) := by decide +kernel
theorem dc_Mod_rule_58 : decode prog_10_method_24_code 58 = .ok (.iconst 1, 1) := by decide +kernel
theorem dc_Mod_rule_59 : decode prog_10_method_24_code 59 = .ok (.goto 4, 3) := by decide +kernel
theorem dc_Mod_rule_62 : decode prog_10_method_24_code 62 = .ok (.iconst 0, 1) := by decide +kernel
theorem dc_Mod_rule_63 : decode prog_10_method_24_code 63 = .ok (.istore 4, 2) := by decide +kernel
theorem dc_Mod_rule_65 : decode prog_10_method_24_code 65 = .ok (.aload_n 0, 1) := by decide +kernel
theorem dc_Mod_rule_66 : decode prog_10_method_24_code 66 = .ok (.iload 4, 2) := by decide +kernel
theorem dc_Mod_rule_68 : decode prog_10_method_24_code 68 = .ok (.aload_n 0, 1) := by decide +kernel
theorem dc_Mod_rule_69 : decode prog_10_method_24_code 69 = .ok (.getfield 172, 3) := by decide +kernel
theorem dc_Mod_rule_72 : decode prog_10_method_24_code 72 = .ok (.bipush 12, 2) := by decide +kernel
theorem dc_Mod_rule_74 : decode prog_10_method_24_code 74 = .ok (.if_icmp .ge 7, 3) := by decide +kernel
theorem dc_Mod_rule_77 : decode prog_10_method_24_code 77 = .ok (.iconst 1, 1) := by decide +kernel
theorem dc_Mod_rule_78 : decode prog_10_method_24_code 78 = .ok (.goto 4, 3) := by decide +kernel
theorem dc_Mod_rule_81 : decode prog_10_method_24_code 81 = .ok (.iconst 0, 1) := by decide +kernel
theorem dc_Mod_rule_82 : decode prog_10_method_24_code 82 = .ok (.invokevirtual 106, 3) := by decide +kernel
theorem dc_Mod_rule_85 : decode prog_10_method_24_code 85 = .ok (.ifCond .ne 5, 3) := by decide +kernel
theorem dc_Mod_rule_88 : decode prog_10_method_24_code 88 = .ok (.iconst 0, 1) := by decide +kernel
theorem dc_Mod_rule_89 : decode prog_10_method_24_code 89 = .ok (.ireturn, 1) := by decide +kernel
theorem dc_Mod_rule_90 : decode prog_10_method_24_code 90 = .ok (.aload_n 0, 1) := by decide +kernel
theorem dc_Mod_rule_91 : decode prog_10_method_24_code 91 = .ok (.getfield 26, 3) := by decide +kernel
theorem dc_Mod_rule_94 : decode prog_10_method_24_code 94 = .ok (.aload_n 0, 1) := by decide +kernel
theorem dc_Mod_rule_95 : decode prog_10_method_24_code 95 = .ok (.getfield 172, 3) := by decide +kernel
theorem dc_Mod_rule_98 : decode prog_10_method_24_code 98 = .ok (.iload_n 1, 1) := by decide +kernel
theorem dc_Mod_rule_99 : decode prog_10_method_24_code 99 = .ok (.iastore, 1) := by decide +kernel
theorem dc_Mod_rule_100 : decode prog_10_method_24_code 100 = .ok (.aload_n 0, 1) := by decide +kernel
theorem dc_Mod_rule_101 : decode prog_10_method_24_code 101 = .ok (.getfield 29, 3) := by decide +kernel
theorem dc_Mod_rule_104 : decode prog_10_method_24_code 104 = .ok (.aload_n 0, 1) := by decide +kernel
theorem dc_Mod_rule_105 : decode prog_10_method_24_code 105 = .ok (.getfield 172, 3) := by decide +kernel
theorem dc_Mod_rule_108 : decode prog_10_method_24_code 108 = .ok (.iload_n 2, 1) := by decide +kernel
theorem dc_Mod_rule_109 : decode prog_10_method_24_code 109 = .ok (.iastore, 1) := by decide +kernel
theorem dc_Mod_rule_110 : decode prog_10_method_24_code 110 = .ok (.aload_n 0, 1) := by decide +kernel
theorem dc_Mod_rule_111 : decode prog_10_method_24_code 111 = .ok (.getfield 32, 3) := by decide +kernel
theorem dc_Mod_rule_114 : decode prog_10_method_24_code 114 = .ok (.aload_n 0, 1) := by decide +kernel
theorem dc_Mod_rule_115 : decode prog_10_method_24_code 115 = .ok (.getfield 172, 3) := by decide +kernel
theorem dc_Mod_rule_118 : decode prog_10_method_24_code 118 = .ok (.iload_n 3, 1) := by decide +kernel
theorem dc_Mod_rule_119 : decode prog_10_method_24_code 119 = .ok (.iastore, 1) := by decide +kernel
theorem dc_Mod_rule_120 : decode prog_10_method_24_code 120 = .ok (.aload_n 0, 1) := by decide +kernel
theorem dc_Mod_rule_121 : decode prog_10_method_24_code 121 = .ok (.getfield 35, 3) := by decide +kernel
theorem dc_Mod_rule_124 : decode prog_10_method_24_code 124 = .ok (.aload_n 0, 1) := by decide +kernel
theorem dc_Mod_rule_125 : decode prog_10_method_24_code 125 = .ok (.getfield 172, 3) := by decide +kernel
theorem dc_Mod_rule_128 : decode prog_10_method_24_code 128 = .ok (.iconst 0, 1) := by decide +kernel
theorem dc_Mod_rule_129 : decode prog_10_method_24_code 129 = .ok (.iastore, 1) := by decide +kernel
theorem dc_Mod_rule_130 : decode prog_10_method_24_code 130 = .ok (.aload_n 0, 1) := by decide +kernel
theorem dc_Mod_rule_131 : decode prog_10_method_24_code 131 = .ok (.dup, 1) := by decide +kernel
theorem dc_Mod_rule_132 : decode prog_10_method_24_code 132 = .ok (.getfield 172, 3) := by decide +kernel
theorem dc_Mod_rule_135 : decode prog_10_method_24_code 135 = .ok (.iconst 1, 1) := by decide +kernel
theorem dc_Mod_rule_136 : decode prog_10_method_24_code 136 = .ok (.iadd, 1) := by decide +kernel
theorem dc_Mod_rule_137 : decode prog_10_method_24_code 137 = .ok (.putfield 172, 3) := by decide +kernel
theorem dc_Mod_rule_140 : decode prog_10_method_24_code 140 = .ok (.aload_n 0, 1) := by decide +kernel
theorem dc_Mod_rule_141 : decode prog_10_method_24_code 141 = .ok (.getfield 172, 3) := by decide +kernel
theorem dc_Mod_rule_144 : decode prog_10_method_24_code 144 = .ok (.iconst 1, 1) := by decide +kernel
theorem dc_Mod_rule_145 : decode prog_10_method_24_code 145 = .ok (.isub, 1) := by decide +kernel
theorem dc_Mod_rule_146 : decode prog_10_method_24_code 146 = .ok (.ireturn, 1) := by decide +kernel
theorem dc_Mod_isAction_0 : decode prog_10_method_25_code 0 = .ok (.iload_n 0, 1) := by decide +kernel
theorem dc_Mod_isAction_1 : decode prog_10_method_25_code 1 = .ok (.tableswitch 156 0 12 #[67, 69, 74, 69, 97, 74, 117, 117, 141, 148, 67, 148, 148], 67) := by decide +kernel
theorem dc_Mod_isAction_68 : decode prog_10_method_25_code 68 = .ok (.iconst 1, 1) := by decide +kernel
theorem dc_Mod_isAction_69 : decode prog_10_method_25_code 69 = .ok (.ireturn, 1) := by decide +kernel
theorem dc_Mod_isAction_70 : decode prog_10_method_25_code 70 = .ok (.iload_n 1, 1) := by decide +kernel
theorem dc_Mod_isAction_71 : decode prog_10_method_25_code 71 = .ok (.invokestatic 169, 3) := by decide +kernel
theorem dc_Mod_isAction_74 : decode prog_10_method_25_code 74 = .ok (.ireturn, 1) := by decide +kernel
theorem dc_Mod_isAction_75 : decode prog_10_method_25_code 75 = .ok (.iload_n 1, 1) := by decide +kernel
theorem dc_Mod_isAction_76 : decode prog_10_method_25_code 76 = .ok (.invokestatic 169, 3) := by decide +kernel
theorem dc_Mod_isAction_79 : decode prog_10_method_25_code 79 = .ok (.ifCond .eq 17, 3) := by decide +kernel
theorem dc_Mod_isAction_82 : decode prog_10_method_25_code 82 = .ok (.iload_n 2, 1) := by decide +kernel
theorem dc_Mod_isAction_83 : decode prog_10_method_25_code 83 = .ok (.iconst 0, 1) := by decide +kernel
theorem dc_Mod_isAction_84 : decode prog_10_method_25_code 84 = .ok (.bipush 7, 2) := by decide +kernel
theorem dc_Mod_isAction_86 : decode prog_10_method_25_code 86 = .ok (.invokestatic 142, 3) := by decide +kernel
theorem dc_Mod_isAction_89 : decode prog_10_method_25_code 89 = .ok (.ifCond .eq 7, 3) := by decide +kernel
theorem dc_Mod_isAction_92 : decode prog_10_method_25_code 92 = .ok (.iconst 1, 1) := by decide +kernel
theorem dc_Mod_isAction_93 : decode prog_10_method_25_code 93 = .ok (.goto 4, 3) := by decide +kernel
theorem dc_Mod_isAction_96 : decode prog_10_method_25_code 96 = .ok (.iconst 0, 1) := by decide +kernel
theorem dc_Mod_isAction_97 : decode prog_10_method_25_code 97 = .ok (.ireturn, 1) := by decide +kernel
theorem dc_Mod_isAction_98 : decode prog_10_method_25_code 98 = .ok (.iload_n 1, 1) := by decide +kernel
theorem dc_Mod_isAction_99 : decode prog_10_method_25_code 99 = .ok (.invokestatic 169, 3) := by decide +kernel
theorem dc_Mod_isAction_102 : decode prog_10_method_25_code 102 = .ok (.ifCond .eq 14, 3) := by decide +kernel
theorem dc_Mod_isAction_105 : decode prog_10_method_25_code 105 = .ok (.iload_n 2, 1) := by decide +kernel
theorem dc_Mod_isAction_106 : decode prog_10_method_25_code 106 = .ok (.invokestatic 169, 3) := by decide +kernel
theorem dc_Mod_isAction_109 : decode prog_10_method_25_code 109 = .ok (.ifCond .eq 7, 3) := by decide +kernel
theorem dc_Mod_isAction_112 : decode prog_10_method_25_code 112 = .ok (.iconst 1, 1) := by decide +kernel
theorem dc_Mod_isAction_113 : decode prog_10_method_25_code 113 = .ok (.goto 4, 3) := by decide +kernel
theorem dc_Mod_isAction_116 : decode prog_10_method_25_code 116 = .ok (.iconst 0, 1) := by decide +kernel
theorem dc_Mod_isAction_117 : decode prog_10_method_25_code 117 = .ok (.ireturn, 1) := by decide +kernel
theorem dc_Mod_isAction_118 : decode prog_10_method_25_code 118 = .ok (.iload_n 1, 1) := by decide +kernel
theorem dc_Mod_isAction_119 : decode prog_10_method_25_code 119 = .ok (.iconst 0, 1) := by decide +kernel
theorem dc_Mod_isAction_120 : decode prog_10_method_25_code 120 = .ok (.iconst 5, 1) := by decide +kernel
theorem dc_Mod_isAction_121 : decode prog_10_method_25_code 121 = .ok (.invokestatic 142, 3) := by decide +kernel
theorem dc_Mod_isAction_124 : decode prog_10_method_25_code 124 = .ok (.ifCond .eq 16, 3) := by decide +kernel
theorem dc_Mod_isAction_127 : decode prog_10_method_25_code 127 = .ok (.iload_n 2, 1) := by decide +kernel
theorem dc_Mod_isAction_128 : decode prog_10_method_25_code 128 = .ok (.iconst 0, 1) := by decide +kernel
theorem dc_Mod_isAction_129 : decode prog_10_method_25_code 129 = .ok (.iconst 5, 1) := by decide +kernel
theorem dc_Mod_isAction_130 : decode prog_10_method_25_code 130 = .ok (.invokestatic 142, 3) := by decide +kernel
theorem dc_Mod_isAction_133 : decode prog_10_method_25_code 133 = .ok (.ifCond .eq 7, 3) := by decide +kernel
theorem dc_Mod_isAction_136 : decode prog_10_method_25_code 136 = .ok (.iconst 1, 1) := by decide +kernel
theorem dc_Mod_isAction_137 : decode prog_10_method_25_code 137 = .ok (.goto 4, 3) := by decide +kernel
theorem dc_Mod_isAction_140 : decode prog_10_method_25_code 140 = .ok (.iconst 0, 1) := by decide +kernel
theorem dc_Mod_isAction_141 : decode prog_10_method_25_code 141 = .ok (.ireturn, 1) := by decide +kernel
theorem dc_Mod_isAction_142 : decode prog_10_method_25_code 142 = .ok (.iload_n 1, 1) := by decide +kernel
theorem dc_Mod_isAction_143 : decode prog_10_method_25_code 143 = .ok (.iconst 0, 1) := by decide +kernel
theorem dc_Mod_isAction_144 : decode prog_10_method_25_code 144 = .ok (.iconst 5, 1) := by decide +kernel
theorem dc_Mod_isAction_145 : decode prog_10_method_25_code 145 = .ok (.invokestatic 142, 3) := by decide +kernel
theorem dc_Mod_isAction_148 : decode prog_10_method_25_code 148 = .ok (.ireturn, 1) := by decide +kernel
theorem dc_Mod_isAction_149 : decode prog_10_method_25_code 149 = .ok (.iload_n 1, 1) := by decide +kernel
theorem dc_Mod_isAction_150 : decode prog_10_method_25_code 150 = .ok (.iconst 0, 1) := by decide +kernel
theorem dc_Mod_isAction_151 : decode prog_10_method_25_code 151 = .ok (.bipush 7, 2) := by decide +kernel
theorem dc_Mod_isAction_153 : decode prog_10_method_25_code 153 = .ok (.invokestatic 142, 3) := by decide +kernel
theorem dc_Mod_isAction_156 : decode prog_10_method_25_code 156 = .ok (.ireturn, 1) := by decide +kernel
theorem dc_Mod_isAction_157 : decode prog_10_method_25_code 157 = .ok (.iconst 0, 1) := by decide +kernel
theorem dc_Mod_isAction_158 : decode prog_10_method_25_code 158 = .ok (.ireturn, 1) := by decide +kernel
theorem dc_Mod_action_0 : decode prog_10_method_26_code 0 = .ok (.iload_n 1, 1) := by decide +kernel
theorem dc_Mod_action_1 : decode prog_10_method_26_code 1 = .ok (.ifCond .lt 25, 3) := by decide +kernel
theorem dc_Mod_action_4 : decode prog_10_method_26_code 4 = .ok (.iload_n 1, 1) := by decide +kernel
theorem dc_Mod_action_5 : decode prog_10_method_26_code 5 = .ok (.aload_n 0, 1) := by decide +kernel
theorem dc_Mod_action_6 : decode prog_10_method_26_code 6 = .ok (.getfield 172, 3) := by decide +kernel
theorem dc_Mod_action_9 : decode prog_10_method_26_code 9 = .ok (.if_icmp .ge 17, 3) := by decide +kernel
theorem dc_Mod_action_12 : decode prog_10_method_26_code 12 = .ok (.iload_n 2, 1) := by decide +kernel
theorem dc_Mod_action_13 : decode prog_10_method_26_code 13 = .ok (.iload_n 3, 1) := by decide +kernel
theorem dc_Mod_action_14 : decode prog_10_method_26_code 14 = .ok (.iload 4, 2) := by decide +kernel
theorem dc_Mod_action_16 : decode prog_10_method_26_code 16 = .ok (.invokestatic 175, 3) := by decide +kernel
theorem dc_Mod_action_19 : decode prog_10_method_26_code 19 = .ok (.ifCond .eq 7, 3) := by decide +kernel
theorem dc_Mod_action_22 : decode prog_10_method_26_code 22 = .ok (.iconst 1, 1) := by decide +kernel
theorem dc_Mod_action_23 : decode prog_10_method_26_code 23 = .ok (.goto 4, 3) := by decide +kernel
theorem dc_Mod_action_26 : decode prog_10_method_26_code 26 = .ok (.iconst 0, 1) := by decide +kernel
theorem dc_Mod_action_27 : decode prog_10_method_26_code 27 = .ok (.istore 5, 2) := by decide +kernel
theorem dc_Mod_action_29 : decode prog_10_method_26_code 29 = .ok (.aload_n 0, 1) := by decide +kernel
theorem dc_Mod_action_30 : decode prog_10_method_26_code 30 = .ok (.iload 5, 2) := by decide +kernel
theorem dc_Mod_action_32 : decode prog_10_method_26_code 32 = .ok (.iload 5, 2) := by decide +kernel
theorem dc_Mod_action_34 : decode prog_10_method_26_code 34 = .ok (.ifCond .eq 18, 3) := by decide +kernel
theorem dc_Mod_action_37 : decode prog_10_method_26_code 37 = .ok (.aload_n 0, 1) := by decide +kernel
theorem dc_Mod_action_38 : decode prog_10_method_26_code 38 = .ok (.getfield 35, 3) := by decide +kernel
theorem dc_Mod_action_41 : decode prog_10_method_26_code 41 = .ok (.iload_n 1, 1) := by decide +kernel
theorem dc_Mod_action_42 : decode prog_10_method_26_code 42 = .ok (.iaload, 1) := by decide +kernel
theorem dc_Mod_action_43 : decode prog_10_method_26_code 43 = .ok (.bipush 10, 2) := by decide +kernel
theorem dc_Mod_action_45 : decode prog_10_method_26_code 45 = .ok (.if_icmp .ge 7, 3) := by decide +kernel
theorem dc_Mod_action_48 : decode prog_10_method_26_code 48 = .ok (.iconst 1, 1) := by decide +kernel
theorem dc_Mod_action_49 : decode prog_10_method_26_code 49 = .ok (.goto 4, 3) := by decide +kernel
theorem dc_Mod_action_52 : decode prog_10_method_26_code 52 = .ok (.iconst 0, 1) := by decide +kernel
theorem dc_Mod_action_53 : decode prog_10_method_26_code 53 = .ok (.invokevirtual 106, 3) := by decide +kernel
theorem dc_Mod_action_56 : decode prog_10_method_26_code 56 = .ok (.ifCond .ne 5, 3) := by decide +kernel
theorem dc_Mod_action_59 : decode prog_10_method_26_code 59 = .ok (.iconst 0, 1) := by decide +kernel
theorem dc_Mod_action_60 : decode prog_10_method_26_code 60 = .ok (.ireturn, 1) := by decide +kernel
theorem dc_Mod_action_61 : decode prog_10_method_26_code 61 = .ok (.bipush 10, 2) := by decide +kernel
theorem dc_Mod_action_63 : decode prog_10_method_26_code 63 = .ok (.iload_n 1, 1) := by decide +kernel
theorem dc_Mod_action_64 : decode prog_10_method_26_code 64 = .ok (.imul, 1) := by decide +kernel
theorem dc_Mod_action_65 : decode prog_10_method_26_code 65 = .ok (.aload_n 0, 1) := by decide +kernel
theorem dc_Mod_action_66 : decode prog_10_method_26_code 66 = .ok (.getfield 35, 3) := by decide +kernel
theorem dc_Mod_action_69 : decode prog_10_method_26_code 69 = .ok (.iload_n 1, 1) := by decide +kernel
theorem dc_Mod_action_70 : decode prog_10_method_26_code 70 = .ok (.iaload, 1) := by decide +kernel
theorem dc_Mod_action_71 : decode prog_10_method_26_code 71 = .ok (.iadd, 1) := by decide +kernel
theorem dc_Mod_action_72 : decode prog_10_method_26_code 72 = .ok (.istore 6, 2) := by decide +kernel
theorem dc_Mod_action_74 : decode prog_10_method_26_code 74 = .ok (.aload_n 0, 1) := by decide +kernel
theorem dc_Mod_action_75 : decode prog_10_method_26_code 75 = .ok (.getfield 38, 3) := by decide +kernel
theorem dc_Mod_action_78 : decode prog_10_method_26_code 78 = .ok (.iload 6, 2) := by decide +kernel
theorem dc_Mod_action_80 : decode prog_10_method_26_code 80 = .ok (.iload_n 2, 1) := by decide +kernel
theorem dc_Mod_action_81 : decode prog_10_method_26_code 81 = .ok (.iastore, 1) := by decide +kernel
theorem dc_Mod_action_82 : decode prog_10_method_26_code 82 = .ok (.aload_n 0, 1) := by decide +kernel
theorem dc_Mod_action_83 : decode prog_10_method_26_code 83 = .ok (.getfield 41, 3) := by decide +kernel
theorem dc_Mod_action_86 : decode prog_10_method_26_code 86 = .ok (.iload 6, 2) := by decide +kernel
theorem dc_Mod_action_88 : decode prog_10_method_26_code 88 = .ok (.iload_n 3, 1) := by decide +kernel
theorem dc_Mod_action_89 : decode prog_10_method_26_code 89 = .ok (.iastore, 1) := by decide +kernel
theorem dc_Mod_action_90 : decode prog_10_method_26_code 90 = .ok (.aload_n 0, 1) := by decide +kernel
theorem dc_Mod_action_91 : decode prog_10_method_26_code 91 = .ok (.getfield 44, 3) := by decide +kernel
theorem dc_Mod_action_94 : decode prog_10_method_26_code 94 = .ok (.iload 6, 2) := by decide +kernel
theorem dc_Mod_action_96 : decode prog_10_method_26_code 96 = .ok (.iload 4, 2) := by decide +kernel
theorem dc_Mod_action_98 : decode prog_10_method_26_code 98 = .ok (.iastore, 1) := by decide +kernel
theorem dc_Mod_action_99 : decode prog_10_method_26_code 99 = .ok (.aload_n 0, 1) := by decide +kernel
theorem dc_Mod_action_100 : decode prog_10_method_26_code 100 = .ok (.getfield 35, 3) := by decide +kernel
theorem dc_Mod_action_103 : decode prog_10_method_26_code 103 = .ok (.iload_n 1, 1) := by decide +kernel
theorem dc_Mod_action_104 : decode prog_10_method_26_code 104 = .ok (.dup2, 1) := by decide +kernel
theorem dc_Mod_action_105 : decode prog_10_method_26_code 105 = .ok (.iaload, 1) := by decide +kernel
theorem dc_Mod_action_106 : decode prog_10_method_26_code 106 = .ok (.iconst 1, 1) := by decide +kernel
theorem dc_Mod_action_107 : decode prog_10_method_26_code 107 = .ok (.iadd, 1) := by decide +kernel
theorem dc_Mod_action_108 : decode prog_10_method_26_code 108 = .ok (.iastore, 1) := by decide +kernel
theorem dc_Mod_action_109 : decode prog_10_method_26_code 109 = .ok (.aload_n 0, 1) := by decide +kernel
theorem dc_Mod_action_110 : decode prog_10_method_26_code 110 = .ok (.getfield 35, 3) := by decide +kernel
theorem dc_Mod_action_113 : decode prog_10_method_26_code 113 = .ok (.iload_n 1, 1) := by decide +kernel
theorem dc_Mod_action_114 : decode prog_10_method_26_code 114 = .ok (.iaload, 1) := by decide +kernel
theorem dc_Mod_action_115 : decode prog_10_method_26_code 115 = .ok (.ireturn, 1) := by decide +kernel
theorem dc_Mod_forget_0 : decode prog_10_method_27_code 0 = .ok (.aload_n 0, 1) := by decide +kernel
theorem dc_Mod_forget_1 : decode prog_10_method_27_code 1 = .ok (.iconst 0, 1) := by decide +kernel
theorem dc_Mod_forget_2 : decode prog_10_method_27_code 2 = .ok (.putfield 99, 3) := by decide +kernel
theorem dc_Mod_forget_5 : decode prog_10_method_27_code 5 = .ok (.aload_n 0, 1) := by decide +kernel
theorem dc_Mod_forget_6 : decode prog_10_method_27_code 6 = .ok (.getfield 172, 3) := by decide +kernel
theorem dc_Mod_forget_9 : decode prog_10_method_27_code 9 = .ok (.istore_n 1, 1) := by decide +kernel
theorem dc_Mod_forget_10 : decode prog_10_method_27_code 10 = .ok (.aload_n 0, 1) := by decide +kernel
theorem dc_Mod_forget_11 : decode prog_10_method_27_code 11 = .ok (.iconst 0, 1) := by decide +kernel
theorem dc_Mod_forget_12 : decode prog_10_method_27_code 12 = .ok (.putfield 172, 3) := by decide +kernel
theorem dc_Mod_forget_15 : decode prog_10_method_27_code 15 = .ok (.iload_n 1, 1) := by decide +kernel
theorem dc_Mod_forget_16 : decode prog_10_method_27_code 16 = .ok (.ireturn, 1) := by decide +kernel
theorem dc_Mod_field_0 : decode prog_10_method_28_code 0 = .ok (.aload_n 0, 1) := by decide +kernel
theorem dc_Mod_field_1 : decode prog_10_method_28_code 1 = .ok (.getfield 178, 3) := by decide +kernel
theorem dc_Mod_field_4 : decode prog_10_method_28_code 4 = .ok (.bipush 30, 2) := by decide +kernel
theorem dc_Mod_field_6 : decode prog_10_method_28_code 6 = .ok (.if_icmp .ge 63, 3) := by decide +kernel
theorem dc_Mod_field_9 : decode prog_10_method_28_code 9 = .ok (.aload_n 0, 1) := by decide +kernel
theorem dc_Mod_field_10 : decode prog_10_method_28_code 10 = .ok (.getfield 50, 3) := by decide +kernel
theorem dc_Mod_field_13 : decode prog_10_method_28_code 13 = .ok (.aload_n 0, 1) := by decide +kernel
theorem dc_Mod_field_14 : decode prog_10_method_28_code 14 = .ok (.getfield 178, 3) := by decide +kernel
theorem dc_Mod_field_17 : decode prog_10_method_28_code 17 = .ok (.iload_n 2, 1) := by decide +kernel
theorem dc_Mod_field_18 : decode prog_10_method_28_code 18 = .ok (.iload_n 1, 1) := by decide +kernel
theorem dc_Mod_field_19 : decode prog_10_method_28_code 19 = .ok (.isub, 1) := by decide +kernel
theorem dc_Mod_field_20 : decode prog_10_method_28_code 20 = .ok (.iastore, 1) := by decide +kernel
theorem dc_Mod_field_21 : decode prog_10_method_28_code 21 = .ok (.iload_n 1, 1) := by decide +kernel
theorem dc_Mod_field_22 : decode prog_10_method_28_code 22 = .ok (.istore_n 3, 1) := by decide +kernel
theorem dc_Mod_field_23 : decode prog_10_method_28_code 23 = .ok (.iload_n 3, 1) := by decide +kernel
theorem dc_Mod_field_24 : decode prog_10_method_28_code 24 = .ok (.iload_n 2, 1) := by decide +kernel
theorem dc_Mod_field_25 : decode prog_10_method_28_code 25 = .ok (.if_icmp .ge 34, 3) := by decide +kernel
theorem dc_Mod_field_28 : decode prog_10_method_28_code 28 = .ok (.aload_n 0, 1) := by decide +kernel
theorem dc_Mod_field_29 : decode prog_10_method_28_code 29 = .ok (.getfield 47, 3) := by decide +kernel
theorem dc_Mod_field_32 : decode prog_10_method_28_code 32 = .ok (.bipush 120, 2) := by decide +kernel
theorem dc_Mod_field_34 : decode prog_10_method_28_code 34 = .ok (.aload_n 0, 1) := by decide +kernel
theorem dc_Mod_field_35 : decode prog_10_method_28_code 35 = .ok (.getfield 178, 3) := by decide +kernel
theorem dc_Mod_field_38 : decode prog_10_method_28_code 38 = .ok (.imul, 1) := by decide +kernel
theorem dc_Mod_field_39 : decode prog_10_method_28_code 39 = .ok (.iload_n 3, 1) := by decide +kernel
theorem dc_Mod_field_40 : decode prog_10_method_28_code 40 = .ok (.iadd, 1) := by decide +kernel
theorem dc_Mod_field_41 : decode prog_10_method_28_code 41 = .ok (.iload_n 1, 1) := by decide +kernel
theorem dc_Mod_field_42 : decode prog_10_method_28_code 42 = .ok (.isub, 1) := by decide +kernel
theorem dc_Mod_field_43 : decode prog_10_method_28_code 43 = .ok (.aload_n 0, 1) := by decide +kernel
theorem dc_Mod_field_44 : decode prog_10_method_28_code 44 = .ok (.getfield 7, 3) := by decide +kernel
theorem dc_Mod_field_47 : decode prog_10_method_28_code 47 = .ok (.bipush 120, 2) := by decide +kernel
theorem dc_Mod_field_49 : decode prog_10_method_28_code 49 = .ok (.iload_n 3, 1) := by decide +kernel
theorem dc_Mod_field_50 : decode prog_10_method_28_code 50 = .ok (.iadd, 1) := by decide +kernel
theorem dc_Mod_field_51 : decode prog_10_method_28_code 51 = .ok (.iaload, 1) := by decide +kernel
theorem dc_Mod_field_52 : decode prog_10_method_28_code 52 = .ok (.iastore, 1) := by decide +kernel
theorem dc_Mod_field_53 : decode prog_10_method_28_code 53 = .ok (.iinc 3 1, 3) := by decide +kernel
theorem dc_Mod_field_56 : decode prog_10_method_28_code 56 = .ok (.goto (-33), 3) := by decide +kernel
theorem dc_Mod_field_59 : decode prog_10_method_28_code 59 = .ok (.aload_n 0, 1) := by decide +kernel
theorem dc_Mod_field_60 : decode prog_10_method_28_code 60 = .ok (.dup, 1) := by decide +kernel
theorem dc_Mod_field_61 : decode prog_10_method_28_code 61 = .ok (.getfield 178, 3) := by decide +kernel
theorem dc_Mod_field_64 : decode prog_10_method_28_code 64 = .ok (.iconst 1, 1) := by decide +kernel
theorem dc_Mod_field_65 : decode prog_10_method_28_code 65 = .ok (.iadd, 1) := by decide +kernel
theorem dc_Mod_field_66 : decode prog_10_method_28_code 66 = .ok (.putfield 178, 3) := by decide +kernel
theorem dc_Mod_field_69 : decode prog_10_method_28_code 69 = .ok (.return_, 1) := by decide +kernel
theorem dc_Mod_part_0 : decode prog_10_method_29_code 0 = .ok (.aload_n 0, 1) := by decide +kernel
theorem dc_Mod_part_1 : decode prog_10_method_29_code 1 = .ok (.iconst 0, 1) := by decide +kernel
theorem dc_Mod_part_2 : decode prog_10_method_29_code 2 = .ok (.putfield 178, 3) := by decide +kernel
theorem dc_Mod_part_5 : decode prog_10_method_29_code 5 = .ok (.iconst 0, 1) := by decide +kernel
theorem dc_Mod_part_6 : decode prog_10_method_29_code 6 = .ok (.istore_n 1, 1) := by decide +kernel
theorem dc_Mod_part_7 : decode prog_10_method_29_code 7 = .ok (.iconst 0, 1) := by decide +kernel
theorem dc_Mod_part_8 : decode prog_10_method_29_code 8 = .ok (.istore_n 2, 1) := by decide +kernel
theorem dc_Mod_part_9 : decode prog_10_method_29_code 9 = .ok (.iload_n 2, 1) := by decide +kernel
theorem dc_Mod_part_10 : decode prog_10_method_29_code 10 = .ok (.aload_n 0, 1) := by decide +kernel
theorem dc_Mod_part_11 : decode prog_10_method_29_code 11 = .ok (.getfield 13, 3) := by decide +kernel
theorem dc_Mod_part_14 : decode prog_10_method_29_code 14 = .ok (.iconst 1, 1) := by decide +kernel
theorem dc_Mod_part_15 : decode prog_10_method_29_code 15 = .ok (.iaload, 1) := by decide +kernel
theorem dc_Mod_part_16 : decode prog_10_method_29_code 16 = .ok (.if_icmp .gt 68, 3) := by decide +kernel
theorem dc_Mod_part_19 : decode prog_10_method_29_code 19 = .ok (.aload_n 0, 1) := by decide +kernel
theorem dc_Mod_part_20 : decode prog_10_method_29_code 20 = .ok (.getfield 13, 3) := by decide +kernel
theorem dc_Mod_part_23 : decode prog_10_method_29_code 23 = .ok (.iconst 1, 1) := by decide +kernel
theorem dc_Mod_part_24 : decode prog_10_method_29_code 24 = .ok (.iaload, 1) := by decide +kernel
theorem dc_Mod_part_25 : decode prog_10_method_29_code 25 = .ok (.ifCond .le 59, 3) := by decide +kernel
theorem dc_Mod_part_28 : decode prog_10_method_29_code 28 = .ok (.iload_n 2, 1) := by decide +kernel
theorem dc_Mod_part_29 : decode prog_10_method_29_code 29 = .ok (.aload_n 0, 1) := by decide +kernel
theorem dc_Mod_part_30 : decode prog_10_method_29_code 30 = .ok (.getfield 13, 3) := by decide +kernel
theorem dc_Mod_part_33 : decode prog_10_method_29_code 33 = .ok (.iconst 1, 1) := by decide +kernel
theorem dc_Mod_part_34 : decode prog_10_method_29_code 34 = .ok (.iaload, 1) := by decide +kernel
theorem dc_Mod_part_35 : decode prog_10_method_29_code 35 = .ok (.if_icmp .eq 19, 3) := by decide +kernel
theorem dc_Mod_part_38 : decode prog_10_method_29_code 38 = .ok (.aload_n 0, 1) := by decide +kernel
theorem dc_Mod_part_39 : decode prog_10_method_29_code 39 = .ok (.getfield 7, 3) := by decide +kernel
theorem dc_Mod_part_42 : decode prog_10_method_29_code 42 = .ok (.bipush 120, 2) := by decide +kernel
theorem dc_Mod_part_44 : decode prog_10_method_29_code 44 = .ok (.iload_n 2, 1) := by decide +kernel
theorem dc_Mod_part_45 : decode prog_10_method_29_code 45 = .ok (.iadd, 1) := by decide +kernel
theorem dc_Mod_part_46 : decode prog_10_method_29_code 46 = .ok (.iaload, 1) := by decide +kernel
theorem dc_Mod_part_47 : decode prog_10_method_29_code 47 = .ok (.aload_n 0, 1) := by decide +kernel
theorem dc_Mod_part_48 : decode prog_10_method_29_code 48 = .ok (.getfield 22, 3) := by decide +kernel
theorem dc_Mod_part_51 : decode prog_10_method_29_code 51 = .ok (.if_icmp .ne 27, 3) := by decide +kernel
theorem dc_Mod_part_54 : decode prog_10_method_29_code 54 = .ok (.aload_n 0, 1) := by decide +kernel
theorem dc_Mod_part_55 : decode prog_10_method_29_code 55 = .ok (.getfield 22, 3) := by decide +kernel
theorem dc_Mod_part_58 : decode prog_10_method_29_code 58 = .ok (.bipush 32, 2) := by decide +kernel
theorem dc_Mod_part_60 : decode prog_10_method_29_code 60 = .ok (.if_icmp .ne 8, 3) := by decide +kernel
theorem dc_Mod_part_63 : decode prog_10_method_29_code 63 = .ok (.iload_n 2, 1) := by decide +kernel
theorem dc_Mod_part_64 : decode prog_10_method_29_code 64 = .ok (.iload_n 1, 1) := by decide +kernel
theorem dc_Mod_part_65 : decode prog_10_method_29_code 65 = .ok (.if_icmp .le 9, 3) := by decide +kernel
theorem dc_Mod_part_68 : decode prog_10_method_29_code 68 = .ok (.aload_n 0, 1) := by decide +kernel
theorem dc_Mod_part_69 : decode prog_10_method_29_code 69 = .ok (.iload_n 1, 1) := by decide +kernel
theorem dc_Mod_part_70 : decode prog_10_method_29_code 70 = .ok (.iload_n 2, 1) := by decide +kernel
theorem dc_Mod_part_71 : decode prog_10_method_29_code 71 = .ok (.invokevirtual 181, 3) := by decide +kernel
theorem dc_Mod_part_74 : decode prog_10_method_29_code 74 = .ok (.iload_n 2, 1) := by decide +kernel
theorem dc_Mod_part_75 : decode prog_10_method_29_code 75 = .ok (.iconst 1, 1) := by decide +kernel
theorem dc_Mod_part_76 : decode prog_10_method_29_code 76 = .ok (.iadd, 1) := by decide +kernel
theorem dc_Mod_part_77 : decode prog_10_method_29_code 77 = .ok (.istore_n 1, 1) := by decide +kernel
theorem dc_Mod_part_78 : decode prog_10_method_29_code 78 = .ok (.iinc 2 1, 3) := by decide +kernel
theorem dc_Mod_part_81 : decode prog_10_method_29_code 81 = .ok (.goto (-72), 3) := by decide +kernel
theorem dc_Mod_part_84 : decode prog_10_method_29_code 84 = .ok (.return_, 1) := by decide +kernel
theorem dc_Mod_sizeOf_0 : decode prog_10_method_30_code 0 = .ok (.iload_n 1, 1) := by decide +kernel
theorem dc_Mod_sizeOf_1 : decode prog_10_method_30_code 1 = .ok (.aload_n 0, 1) := by decide +kernel
theorem dc_Mod_sizeOf_2 : decode prog_10_method_30_code 2 = .ok (.getfield 178, 3) := by decide +kernel
theorem dc_Mod_sizeOf_5 : decode prog_10_method_30_code 5 = .ok (.if_icmp .gt 14, 3) := by decide +kernel
theorem dc_Mod_sizeOf_8 : decode prog_10_method_30_code 8 = .ok (.aload_n 0, 1) := by decide +kernel
theorem dc_Mod_sizeOf_9 : decode prog_10_method_30_code 9 = .ok (.getfield 50, 3) := by decide +kernel
theorem dc_Mod_sizeOf_12 : decode prog_10_method_30_code 12 = .ok (.iload_n 1, 1) := by decide +kernel
theorem dc_Mod_sizeOf_13 : decode prog_10_method_30_code 13 = .ok (.iconst 1, 1) := by decide +kernel
theorem dc_Mod_sizeOf_14 : decode prog_10_method_30_code 14 = .ok (.isub, 1) := by decide +kernel
theorem dc_Mod_sizeOf_15 : decode prog_10_method_30_code 15 = .ok (.iaload, 1) := by decide +kernel
theorem dc_Mod_sizeOf_16 : decode prog_10_method_30_code 16 = .ok (.goto 4, 3) := by decide +kernel
theorem dc_Mod_sizeOf_19 : decode prog_10_method_30_code 19 = .ok (.iconst 0, 1) := by decide +kernel
theorem dc_Mod_sizeOf_20 : decode prog_10_method_30_code 20 = .ok (.ireturn, 1) := by decide +kernel
theorem dc_Mod_signOf_0 : decode prog_10_method_31_code 0 = .ok (.aload_n 0, 1) := by decide +kernel
theorem dc_Mod_signOf_1 : decode prog_10_method_31_code 1 = .ok (.getfield 47, 3) := by decide +kernel
theorem dc_Mod_signOf_4 : decode prog_10_method_31_code 4 = .ok (.bipush 120, 2) := by decide +kernel
theorem dc_Mod_signOf_6 : decode prog_10_method_31_code 6 = .ok (.iload_n 1, 1) := by decide +kernel
theorem dc_Mod_signOf_7 : decode prog_10_method_31_code 7 = .ok (.imul, 1) := by decide +kernel
theorem dc_Mod_signOf_8 : decode prog_10_method_31_code 8 = .ok (.bipush 120, 2) := by decide +kernel
theorem dc_Mod_signOf_10 : decode prog_10_method_31_code 10 = .ok (.isub, 1) := by decide +kernel
theorem dc_Mod_signOf_11 : decode prog_10_method_31_code 11 = .ok (.iload_n 2, 1) := by decide +kernel
theorem dc_Mod_signOf_12 : decode prog_10_method_31_code 12 = .ok (.iadd, 1) := by decide +kernel
theorem dc_Mod_signOf_13 : decode prog_10_method_31_code 13 = .ok (.iaload, 1) := by decide +kernel
theorem dc_Mod_signOf_14 : decode prog_10_method_31_code 14 = .ok (.ireturn, 1) := by decide +kernel
theorem dc_Mod_numberOf_0 : decode prog_10_method_32_code 0 = .ok (.aload_n 0, 1) := by decide +kernel
theorem dc_Mod_numberOf_1 : decode prog_10_method_32_code 1 = .ok (.iload_n 1, 1) := by decide +kernel
theorem dc_Mod_numberOf_2 : decode prog_10_method_32_code 2 = .ok (.invokevirtual 184, 3) := by decide +kernel
theorem dc_Mod_numberOf_5 : decode prog_10_method_32_code 5 = .ok (.ifCond .le 18, 3) := by decide +kernel
theorem dc_Mod_numberOf_8 : decode prog_10_method_32_code 8 = .ok (.aload_n 0, 1) := by decide +kernel
theorem dc_Mod_numberOf_9 : decode prog_10_method_32_code 9 = .ok (.iload_n 1, 1) := by decide +kernel
theorem dc_Mod_numberOf_10 : decode prog_10_method_32_code 10 = .ok (.iconst 0, 1) := by decide +kernel
theorem dc_Mod_numberOf_11 : decode prog_10_method_32_code 11 = .ok (.invokevirtual 187, 3) := by decide +kernel
theorem dc_Mod_numberOf_14 : decode prog_10_method_32_code 14 = .ok (.bipush 45, 2) := by decide +kernel
theorem dc_Mod_numberOf_16 : decode prog_10_method_32_code 16 = .ok (.if_icmp .ne 7, 3) := by decide +kernel
theorem dc_Mod_numberOf_19 : decode prog_10_method_32_code 19 = .ok (.iconst 1, 1) := by decide +kernel
theorem dc_Mod_numberOf_20 : decode prog_10_method_32_code 20 = .ok (.goto 4, 3) := by decide +kernel
theorem dc_Mod_numberOf_23 : decode prog_10_method_32_code 23 = .ok (.iconst 0, 1) := by decide +kernel
theorem dc_Mod_numberOf_24 : decode prog_10_method_32_code 24 = .ok (.istore_n 2, 1) := by decide +kernel
theorem dc_Mod_numberOf_25 : decode prog_10_method_32_code 25 = .ok (.iconst 0, 1) := by decide +kernel
theorem dc_Mod_numberOf_26 : decode prog_10_method_32_code 26 = .ok (.istore_n 3, 1) := by decide +kernel
theorem dc_Mod_numberOf_27 : decode prog_10_method_32_code 27 = .ok (.iload_n 2, 1) := by decide +kernel
theorem dc_Mod_numberOf_28 : decode prog_10_method_32_code 28 = .ok (.ifCond .eq 7, 3) := by decide +kernel
theorem dc_Mod_numberOf_31 : decode prog_10_method_32_code 31 = .ok (.iconst 1, 1) := by decide +kernel
theorem dc_Mod_numberOf_32 : decode prog_10_method_32_code 32 = .ok (.goto 4, 3) := by decide +kernel
theorem dc_Mod_numberOf_35 : decode prog_10_method_32_code 35 = .ok (.iconst 0, 1) := by decide +kernel
theorem dc_Mod_numberOf_36 : decode prog_10_method_32_code 36 = .ok (.istore 4, 2) := by decide +kernel
theorem dc_Mod_numberOf_38 : decode prog_10_method_32_code 38 = .ok (.iload 4, 2) := by decide +kernel
theorem dc_Mod_numberOf_40 : decode prog_10_method_32_code 40 = .ok (.aload_n 0, 1) := by decide +kernel
theorem dc_Mod_numberOf_41 : decode prog_10_method_32_code 41 = .ok (.iload_n 1, 1) := by decide +kernel
theorem dc_Mod_numberOf_42 : decode prog_10_method_32_code 42 = .ok (.invokevirtual 184, 3) := by decide +kernel
theorem dc_Mod_numberOf_45 : decode prog_10_method_32_code 45 = .ok (.if_icmp .ge 49, 3) := by decide +kernel
theorem dc_Mod_numberOf_48 : decode prog_10_method_32_code 48 = .ok (.aload_n 0, 1) := by decide +kernel
theorem dc_Mod_numberOf_49 : decode prog_10_method_32_code 49 = .ok (.iload_n 1, 1) := by decide +kernel
theorem dc_Mod_numberOf_50 : decode prog_10_method_32_code 50 = .ok (.iload 4, 2) := by decide +kernel
theorem dc_Mod_numberOf_52 : decode prog_10_method_32_code 52 = .ok (.invokevirtual 187, 3) := by decide +kernel
theorem dc_Mod_numberOf_55 : decode prog_10_method_32_code 55 = .ok (.bipush 48, 2) := by decide +kernel
theorem dc_Mod_numberOf_57 : decode prog_10_method_32_code 57 = .ok (.if_icmp .lt 37, 3) := by decide +kernel
theorem dc_Mod_numberOf_60 : decode prog_10_method_32_code 60 = .ok (.aload_n 0, 1) := by decide +kernel
theorem dc_Mod_numberOf_61 : decode prog_10_method_32_code 61 = .ok (.iload_n 1, 1) := by decide +kernel
theorem dc_Mod_numberOf_62 : decode prog_10_method_32_code 62 = .ok (.iload 4, 2) := by decide +kernel
theorem dc_Mod_numberOf_64 : decode prog_10_method_32_code 64 = .ok (.invokevirtual 187, 3) := by decide +kernel
theorem dc_Mod_numberOf_67 : decode prog_10_method_32_code 67 = .ok (.bipush 57, 2) := by decide +kernel
theorem dc_Mod_numberOf_69 : decode prog_10_method_32_code 69 = .ok (.if_icmp .gt 25, 3) := by decide +kernel
theorem dc_Mod_numberOf_72 : decode prog_10_method_32_code 72 = .ok (.bipush 10, 2) := by decide +kernel
theorem dc_Mod_numberOf_74 : decode prog_10_method_32_code 74 = .ok (.iload_n 3, 1) := by decide +kernel
theorem dc_Mod_numberOf_75 : decode prog_10_method_32_code 75 = .ok (.imul, 1) := by decide +kernel
theorem dc_Mod_numberOf_76 : decode prog_10_method_32_code 76 = .ok (.aload_n 0, 1) := by decide +kernel
theorem dc_Mod_numberOf_77 : decode prog_10_method_32_code 77 = .ok (.iload_n 1, 1) := by decide +kernel
theorem dc_Mod_numberOf_78 : decode prog_10_method_32_code 78 = .ok (.iload 4, 2) := by decide +kernel
theorem dc_Mod_numberOf_80 : decode prog_10_method_32_code 80 = .ok (.invokevirtual 187, 3) := by decide +kernel
theorem dc_Mod_numberOf_83 : decode prog_10_method_32_code 83 = .ok (.iadd, 1) := by decide +kernel
theorem dc_Mod_numberOf_84 : decode prog_10_method_32_code 84 = .ok (.bipush 48, 2) := by decide +kernel
theorem dc_Mod_numberOf_86 : decode prog_10_method_32_code 86 = .ok (.isub, 1) := by decide +kernel
theorem dc_Mod_numberOf_87 : decode prog_10_method_32_code 87 = .ok (.istore_n 3, 1) := by decide +kernel
theorem dc_Mod_numberOf_88 : decode prog_10_method_32_code 88 = .ok (.iinc 4 1, 3) := by decide +kernel
theorem dc_Mod_numberOf_91 : decode prog_10_method_32_code 91 = .ok (.goto (-53), 3) := by decide +kernel
theorem dc_Mod_numberOf_94 : decode prog_10_method_32_code 94 = .ok (.iload_n 2, 1) := by decide +kernel
theorem dc_Mod_numberOf_95 : decode prog_10_method_32_code 95 = .ok (.ifCond .eq 9, 3) := by decide +kernel
theorem dc_Mod_numberOf_98 : decode prog_10_method_32_code 98 = .ok (.iconst 0, 1) := by decide +kernel
theorem dc_Mod_numberOf_99 : decode prog_10_method_32_code 99 = .ok (.iload_n 3, 1) := by decide +kernel
theorem dc_Mod_numberOf_100 : decode prog_10_method_32_code 100 = .ok (.isub, 1) := by decide +kernel
theorem dc_Mod_numberOf_101 : decode prog_10_method_32_code 101 = .ok (.goto 4, 3) := by decide +kernel
theorem dc_Mod_numberOf_104 : decode prog_10_method_32_code 104 = .ok (.iload_n 3, 1) := by decide +kernel
theorem dc_Mod_numberOf_105 : decode prog_10_method_32_code 105 = .ok (.ireturn, 1) := by decide +kernel
theorem dc_Mod_put_0 : decode prog_10_method_33_code 0 = .ok (.aload_n 0, 1) := by decide +kernel
theorem dc_Mod_put_1 : decode prog_10_method_33_code 1 = .ok (.getfield 65, 3) := by decide +kernel
theorem dc_Mod_put_4 : decode prog_10_method_33_code 4 = .ok (.aload_n 0, 1) := by decide +kernel
theorem dc_Mod_put_5 : decode prog_10_method_33_code 5 = .ok (.getfield 190, 3) := by decide +kernel
theorem dc_Mod_put_8 : decode prog_10_method_33_code 8 = .ok (.sipush 1500, 3) := by decide +kernel
theorem dc_Mod_put_11 : decode prog_10_method_33_code 11 = .ok (.irem, 1) := by decide +kernel
theorem dc_Mod_put_12 : decode prog_10_method_33_code 12 = .ok (.iload_n 1, 1) := by decide +kernel
theorem dc_Mod_put_13 : decode prog_10_method_33_code 13 = .ok (.iastore, 1) := by decide +kernel
theorem dc_Mod_put_14 : decode prog_10_method_33_code 14 = .ok (.aload_n 0, 1) := by decide +kernel
theorem dc_Mod_put_15 : decode prog_10_method_33_code 15 = .ok (.dup, 1) := by decide +kernel
theorem dc_Mod_put_16 : decode prog_10_method_33_code 16 = .ok (.getfield 190, 3) := by decide +kernel
theorem dc_Mod_put_19 : decode prog_10_method_33_code 19 = .ok (.iconst 1, 1) := by decide +kernel
theorem dc_Mod_put_20 : decode prog_10_method_33_code 20 = .ok (.iadd, 1) := by decide +kernel
theorem dc_Mod_put_21 : decode prog_10_method_33_code 21 = .ok (.putfield 190, 3) := by decide +kernel
theorem dc_Mod_put_24 : decode prog_10_method_33_code 24 = .ok (.return_, 1) := by decide +kernel
theorem dc_Mod_spell_0 : decode prog_10_method_34_code 0 = .ok (.iload_n 1, 1) := by decide +kernel
theorem dc_Mod_spell_1 : decode prog_10_method_34_code 1 = .ok (.ifCond .ge 10, 3) := by decide +kernel
theorem dc_Mod_spell_4 : decode prog_10_method_34_code 4 = .ok (.lconst 0, 1) := by decide +kernel
theorem dc_Mod_spell_5 : decode prog_10_method_34_code 5 = .ok (.iload_n 1, 1) := by decide +kernel
theorem dc_Mod_spell_6 : decode prog_10_method_34_code 6 = .ok (.i2l, 1) := by decide +kernel
theorem dc_Mod_spell_7 : decode prog_10_method_34_code 7 = .ok (.lsub, 1) := by decide +kernel
theorem dc_Mod_spell_8 : decode prog_10_method_34_code 8 = .ok (.goto 5, 3) := by decide +kernel
theorem dc_Mod_spell_11 : decode prog_10_method_34_code 11 = .ok (.iload_n 1, 1) := by decide +kernel
theorem dc_Mod_spell_12 : decode prog_10_method_34_code 12 = .ok (.i2l, 1) := by decide +kernel
theorem dc_Mod_spell_13 : decode prog_10_method_34_code 13 = .ok (.lstore_n 2, 1) := by decide +kernel
theorem dc_Mod_spell_14 : decode prog_10_method_34_code 14 = .ok (.iconst 1, 1) := by decide +kernel
theorem dc_Mod_spell_15 : decode prog_10_method_34_code 15 = .ok (.istore 4, 2) := by decide +kernel
theorem dc_Mod_spell_17 : decode prog_10_method_34_code 17 = .ok (.lload_n 2, 1) := by decide +kernel
theorem dc_Mod_spell_18 : decode prog_10_method_34_code 18 = .ok (.lstore 5, 2) := by decide +kernel
theorem dc_Mod_spell_20 : decode prog_10_method_34_code 20 = .ok (.lload 5, 2) := by decide +kernel
theorem dc_Mod_spell_22 : decode prog_10_method_34_code 22 = .ok (.ldc2_w 193, 3) := by decide +kernel
theorem dc_Mod_spell_25 : decode prog_10_method_34_code 25 = .ok (.lcmp, 1) := by decide +kernel
theorem dc_Mod_spell_26 : decode prog_10_method_34_code 26 = .ok (.ifCond .le 17, 3) := by decide +kernel
theorem dc_Mod_spell_29 : decode prog_10_method_34_code 29 = .ok (.iinc 4 1, 3) := by decide +kernel
theorem dc_Mod_spell_32 : decode prog_10_method_34_code 32 = .ok (.lload 5, 2) := by decide +kernel
theorem dc_Mod_spell_34 : decode prog_10_method_34_code 34 = .ok (.ldc2_w 195, 3) := by decide +kernel
theorem dc_Mod_spell_37 : decode prog_10_method_34_code 37 = .ok (.ldiv, 1) := by decide +kernel
theorem dc_Mod_spell_38 : decode prog_10_method_34_code 38 = .ok (.lstore 5, 2) := by decide +kernel
theorem dc_Mod_spell_40 : decode prog_10_method_34_code 40 = .ok (.goto (-20), 3) := by decide +kernel
theorem dc_Mod_spell_43 : decode prog_10_method_34_code 43 = .ok (.iload_n 1, 1) := by decide +kernel
theorem dc_Mod_spell_44 : decode prog_10_method_34_code 44 = .ok (.ifCond .ge 10, 3) := by decide +kernel
theorem dc_Mod_spell_47 : decode prog_10_method_34_code 47 = .ok (.iload 4, 2) := by decide +kernel
theorem dc_Mod_spell_49 : decode prog_10_method_34_code 49 = .ok (.iconst 1, 1) := by decide +kernel
theorem dc_Mod_spell_50 : decode prog_10_method_34_code 50 = .ok (.iadd, 1) := by decide +kernel
theorem dc_Mod_spell_51 : decode prog_10_method_34_code 51 = .ok (.goto 5, 3) := by decide +kernel
theorem dc_Mod_spell_54 : decode prog_10_method_34_code 54 = .ok (.iload 4, 2) := by decide +kernel
theorem dc_Mod_spell_56 : decode prog_10_method_34_code 56 = .ok (.istore 5, 2) := by decide +kernel
theorem dc_Mod_spell_58 : decode prog_10_method_34_code 58 = .ok (.iload 5, 2) := by decide +kernel
theorem dc_Mod_spell_60 : decode prog_10_method_34_code 60 = .ok (.iconst 1, 1) := by decide +kernel
theorem dc_Mod_spell_61 : decode prog_10_method_34_code 61 = .ok (.isub, 1) := by decide +kernel
theorem dc_Mod_spell_62 : decode prog_10_method_34_code 62 = .ok (.istore 6, 2) := by decide +kernel
theorem dc_Mod_spell_64 : decode prog_10_method_34_code 64 = .ok (.iload 6, 2) := by decide +kernel
theorem dc_Mod_spell_66 : decode prog_10_method_34_code 66 = .ok (.iload 5, 2) := by decide +kernel
theorem dc_Mod_spell_68 : decode prog_10_method_34_code 68 = .ok (.iload 4, 2) := by decide +kernel
theorem dc_Mod_spell_70 : decode prog_10_method_34_code 70 = .ok (.isub, 1) := by decide +kernel
theorem dc_Mod_spell_71 : decode prog_10_method_34_code 71 = .ok (.if_icmp .lt 35, 3) := by decide +kernel
theorem dc_Mod_spell_74 : decode prog_10_method_34_code 74 = .ok (.aload_n 0, 1) := by decide +kernel
theorem dc_Mod_spell_75 : decode prog_10_method_34_code 75 = .ok (.getfield 7, 3) := by decide +kernel
theorem dc_Mod_spell_78 : decode prog_10_method_34_code 78 = .ok (.sipush 960, 3) := by decide +kernel
theorem dc_Mod_spell_81 : decode prog_10_method_34_code 81 = .ok (.iload 6, 2) := by decide +kernel
theorem dc_Mod_spell_83 : decode prog_10_method_34_code 83 = .ok (.iadd, 1) := by decide +kernel
theorem dc_Mod_spell_84 : decode prog_10_method_34_code 84 = .ok (.lload_n 2, 1) := by decide +kernel
theorem dc_Mod_spell_85 : decode prog_10_method_34_code 85 = .ok (.ldc2_w 195, 3) := by decide +kernel
theorem dc_Mod_spell_88 : decode prog_10_method_34_code 88 = .ok (.lrem, 1) := by decide +kernel
theorem dc_Mod_spell_89 : decode prog_10_method_34_code 89 = .ok (.l2i, 1) := by decide +kernel
theorem dc_Mod_spell_90 : decode prog_10_method_34_code 90 = .ok (.bipush 48, 2) := by decide +kernel
theorem dc_Mod_spell_92 : decode prog_10_method_34_code 92 = .ok (.iadd, 1) := by decide +kernel
theorem dc_Mod_spell_93 : decode prog_10_method_34_code 93 = .ok (.iastore, 1) := by decide +kernel
theorem dc_Mod_spell_94 : decode prog_10_method_34_code 94 = .ok (.lload_n 2, 1) := by decide +kernel
theorem dc_Mod_spell_95 : decode prog_10_method_34_code 95 = .ok (.ldc2_w 195, 3) := by decide +kernel
theorem dc_Mod_spell_98 : decode prog_10_method_34_code 98 = .ok (.ldiv, 1) := by decide +kernel
theorem dc_Mod_spell_99 : decode prog_10_method_34_code 99 = .ok (.lstore_n 2, 1) := by decide +kernel
theorem dc_Mod_spell_100 : decode prog_10_method_34_code 100 = .ok (.iinc 6 (-1), 3) := by decide +kernel
theorem dc_Mod_spell_103 : decode prog_10_method_34_code 103 = .ok (.goto (-39), 3) := by decide +kernel
theorem dc_Mod_spell_106 : decode prog_10_method_34_code 106 = .ok (.iload_n 1, 1) := by decide +kernel
theorem dc_Mod_spell_107 : decode prog_10_method_34_code 107 = .ok (.ifCond .ge 13, 3) := by decide +kernel
theorem dc_Mod_spell_110 : decode prog_10_method_34_code 110 = .ok (.aload_n 0, 1) := by decide +kernel
theorem dc_Mod_spell_111 : decode prog_10_method_34_code 111 = .ok (.getfield 7, 3) := by decide +kernel
theorem dc_Mod_spell_114 : decode prog_10_method_34_code 114 = .ok (.sipush 960, 3) := by decide +kernel
theorem dc_Mod_spell_117 : decode prog_10_method_34_code 117 = .ok (.bipush 45, 2) := by decide +kernel
theorem dc_Mod_spell_119 : decode prog_10_method_34_code 119 = .ok (.iastore, 1) := by decide +kernel
theorem dc_Mod_spell_120 : decode prog_10_method_34_code 120 = .ok (.aload_n 0, 1) := by decide +kernel
theorem dc_Mod_spell_121 : decode prog_10_method_34_code 121 = .ok (.getfield 13, 3) := by decide +kernel
theorem dc_Mod_spell_124 : decode prog_10_method_34_code 124 = .ok (.bipush 8, 2) := by decide +kernel
theorem dc_Mod_spell_126 : decode prog_10_method_34_code 126 = .ok (.iload 5, 2) := by decide +kernel
theorem dc_Mod_spell_128 : decode prog_10_method_34_code 128 = .ok (.iastore, 1) := by decide +kernel
theorem dc_Mod_spell_129 : decode prog_10_method_34_code 129 = .ok (.return_, 1) := by decide +kernel
theorem dc_Mod_printRow_0 : decode prog_10_method_35_code 0 = .ok (.iload_n 2, 1) := by decide +kernel
theorem dc_Mod_printRow_1 : decode prog_10_method_35_code 1 = .ok (.istore 4, 2) := by decide +kernel
theorem dc_Mod_printRow_3 : decode prog_10_method_35_code 3 = .ok (.iload 4, 2) := by decide +kernel
theorem dc_Mod_printRow_5 : decode prog_10_method_35_code 5 = .ok (.iload_n 3, 1) := by decide +kernel
theorem dc_Mod_printRow_6 : decode prog_10_method_35_code 6 = .ok (.if_icmp .ge 25, 3) := by decide +kernel
theorem dc_Mod_printRow_9 : decode prog_10_method_35_code 9 = .ok (.aload_n 0, 1) := by decide +kernel
theorem dc_Mod_printRow_10 : decode prog_10_method_35_code 10 = .ok (.aload_n 0, 1) := by decide +kernel
theorem dc_Mod_printRow_11 : decode prog_10_method_35_code 11 = .ok (.getfield 7, 3) := by decide +kernel
theorem dc_Mod_printRow_14 : decode prog_10_method_35_code 14 = .ok (.bipush 120, 2) := by decide +kernel
theorem dc_Mod_printRow_16 : decode prog_10_method_35_code 16 = .ok (.iload_n 1, 1) := by decide +kernel
theorem dc_Mod_printRow_17 : decode prog_10_method_35_code 17 = .ok (.imul, 1) := by decide +kernel
theorem dc_Mod_printRow_18 : decode prog_10_method_35_code 18 = .ok (.iload 4, 2) := by decide +kernel
theorem dc_Mod_printRow_20 : decode prog_10_method_35_code 20 = .ok (.iadd, 1) := by decide +kernel
theorem dc_Mod_printRow_21 : decode prog_10_method_35_code 21 = .ok (.iaload, 1) := by decide +kernel
theorem dc_Mod_printRow_22 : decode prog_10_method_35_code 22 = .ok (.invokevirtual 197, 3) := by decide +kernel
theorem dc_Mod_printRow_25 : decode prog_10_method_35_code 25 = .ok (.iinc 4 1, 3) := by decide +kernel
theorem dc_Mod_printRow_28 : decode prog_10_method_35_code 28 = .ok (.goto (-25), 3) := by decide +kernel
theorem dc_Mod_printRow_31 : decode prog_10_method_35_code 31 = .ok (.aload_n 0, 1) := by decide +kernel
theorem dc_Mod_printRow_32 : decode prog_10_method_35_code 32 = .ok (.bipush 10, 2) := by decide +kernel
theorem dc_Mod_printRow_34 : decode prog_10_method_35_code 34 = .ok (.invokevirtual 197, 3) := by decide +kernel
theorem dc_Mod_printRow_37 : decode prog_10_method_35_code 37 = .ok (.return_, 1) := by decide +kernel
theorem dc_Mod_compared_0 : decode prog_10_method_36_code 0 = .ok (.aload_n 0, 1) := by decide +kernel
theorem dc_Mod_compared_1 : decode prog_10_method_36_code 1 = .ok (.iload_n 1, 1) := by decide +kernel
theorem dc_Mod_compared_2 : decode prog_10_method_36_code 2 = .ok (.invokevirtual 184, 3) := by decide +kernel
theorem dc_Mod_compared_5 : decode prog_10_method_36_code 5 = .ok (.istore_n 3, 1) := by decide +kernel
theorem dc_Mod_compared_6 : decode prog_10_method_36_code 6 = .ok (.iconst 0, 1) := by decide +kernel
theorem dc_Mod_compared_7 : decode prog_10_method_36_code 7 = .ok (.istore 4, 2) := by decide +kernel
theorem dc_Mod_compared_9 : decode prog_10_method_36_code 9 = .ok (.iload 4, 2) := by decide +kernel
theorem dc_Mod_compared_11 : decode prog_10_method_36_code 11 = .ok (.iload_n 3, 1) := by decide +kernel
theorem dc_Mod_compared_12 : decode prog_10_method_36_code 12 = .ok (.if_icmp .ge 63, 3) := by decide +kernel
theorem dc_Mod_compared_15 : decode prog_10_method_36_code 15 = .ok (.iload 4, 2) := by decide +kernel
theorem dc_Mod_compared_17 : decode prog_10_method_36_code 17 = .ok (.aload_n 0, 1) := by decide +kernel
theorem dc_Mod_compared_18 : decode prog_10_method_36_code 18 = .ok (.getfield 59, 3) := by decide +kernel
theorem dc_Mod_compared_21 : decode prog_10_method_36_code 21 = .ok (.iload_n 2, 1) := by decide +kernel
theorem dc_Mod_compared_22 : decode prog_10_method_36_code 22 = .ok (.iaload, 1) := by decide +kernel
theorem dc_Mod_compared_23 : decode prog_10_method_36_code 23 = .ok (.if_icmp .ge 52, 3) := by decide +kernel
theorem dc_Mod_compared_26 : decode prog_10_method_36_code 26 = .ok (.aload_n 0, 1) := by decide +kernel
theorem dc_Mod_compared_27 : decode prog_10_method_36_code 27 = .ok (.iload_n 1, 1) := by decide +kernel
theorem dc_Mod_compared_28 : decode prog_10_method_36_code 28 = .ok (.iload 4, 2) := by decide +kernel
theorem dc_Mod_compared_30 : decode prog_10_method_36_code 30 = .ok (.invokevirtual 187, 3) := by decide +kernel
theorem dc_Mod_compared_33 : decode prog_10_method_36_code 33 = .ok (.istore 5, 2) := by decide +kernel
theorem dc_Mod_compared_35 : decode prog_10_method_36_code 35 = .ok (.aload_n 0, 1) := by decide +kernel
theorem dc_Mod_compared_36 : decode prog_10_method_36_code 36 = .ok (.getfield 56, 3) := by decide +kernel
theorem dc_Mod_compared_39 : decode prog_10_method_36_code 39 = .ok (.bipush 120, 2) := by decide +kernel
theorem dc_Mod_compared_41 : decode prog_10_method_36_code 41 = .ok (.iload_n 2, 1) := by decide +kernel
theorem dc_Mod_compared_42 : decode prog_10_method_36_code 42 = .ok (.imul, 1) := by decide +kernel
theorem dc_Mod_compared_43 : decode prog_10_method_36_code 43 = .ok (.iload 4, 2) := by decide +kernel
theorem dc_Mod_compared_45 : decode prog_10_method_36_code 45 = .ok (.iadd, 1) := by decide +kernel
theorem dc_Mod_compared_46 : decode prog_10_method_36_code 46 = .ok (.iaload, 1) := by decide +kernel
theorem dc_Mod_compared_47 : decode prog_10_method_36_code 47 = .ok (.istore 6, 2) := by decide +kernel
theorem dc_Mod_compared_49 : decode prog_10_method_36_code 49 = .ok (.iload 5, 2) := by decide +kernel
theorem dc_Mod_compared_51 : decode prog_10_method_36_code 51 = .ok (.iload 6, 2) := by decide +kernel
theorem dc_Mod_compared_53 : decode prog_10_method_36_code 53 = .ok (.if_icmp .eq 16, 3) := by decide +kernel
theorem dc_Mod_compared_56 : decode prog_10_method_36_code 56 = .ok (.iload 5, 2) := by decide +kernel
theorem dc_Mod_compared_58 : decode prog_10_method_36_code 58 = .ok (.iload 6, 2) := by decide +kernel
theorem dc_Mod_compared_60 : decode prog_10_method_36_code 60 = .ok (.if_icmp .ge 7, 3) := by decide +kernel
theorem dc_Mod_compared_63 : decode prog_10_method_36_code 63 = .ok (.iconst (-1), 1) := by decide +kernel
theorem dc_Mod_compared_64 : decode prog_10_method_36_code 64 = .ok (.goto 4, 3) := by decide +kernel
theorem dc_Mod_compared_67 : decode prog_10_method_36_code 67 = .ok (.iconst 1, 1) := by decide +kernel
theorem dc_Mod_compared_68 : decode prog_10_method_36_code 68 = .ok (.ireturn, 1) := by decide +kernel
theorem dc_Mod_compared_69 : decode prog_10_method_36_code 69 = .ok (.iinc 4 1, 3) := by decide +kernel
theorem dc_Mod_compared_72 : decode prog_10_method_36_code 72 = .ok (.goto (-63), 3) := by decide +kernel
theorem dc_Mod_compared_75 : decode prog_10_method_36_code 75 = .ok (.iload_n 3, 1) := by decide +kernel
theorem dc_Mod_compared_76 : decode prog_10_method_36_code 76 = .ok (.aload_n 0, 1) := by decide +kernel
theorem dc_Mod_compared_77 : decode prog_10_method_36_code 77 = .ok (.getfield 59, 3) := by decide +kernel
theorem dc_Mod_compared_80 : decode prog_10_method_36_code 80 = .ok (.iload_n 2, 1) := by decide +kernel
theorem dc_Mod_compared_81 : decode prog_10_method_36_code 81 = .ok (.iaload, 1) := by decide +kernel
theorem dc_Mod_compared_82 : decode prog_10_method_36_code 82 = .ok (.if_icmp .ge 7, 3) := by decide +kernel
theorem dc_Mod_compared_85 : decode prog_10_method_36_code 85 = .ok (.iconst (-1), 1) := by decide +kernel
theorem dc_Mod_compared_86 : decode prog_10_method_36_code 86 = .ok (.goto 18, 3) := by decide +kernel
theorem dc_Mod_compared_89 : decode prog_10_method_36_code 89 = .ok (.iload_n 3, 1) := by decide +kernel
theorem dc_Mod_compared_90 : decode prog_10_method_36_code 90 = .ok (.aload_n 0, 1) := by decide +kernel
theorem dc_Mod_compared_91 : decode prog_10_method_36_code 91 = .ok (.getfield 59, 3) := by decide +kernel
theorem dc_Mod_compared_94 : decode prog_10_method_36_code 94 = .ok (.iload_n 2, 1) := by decide +kernel
theorem dc_Mod_compared_95 : decode prog_10_method_36_code 95 = .ok (.iaload, 1) := by decide +kernel
theorem dc_Mod_compared_96 : decode prog_10_method_36_code 96 = .ok (.if_icmp .le 7, 3) := by decide +kernel
theorem dc_Mod_compared_99 : decode prog_10_method_36_code 99 = .ok (.iconst 1, 1) := by decide +kernel
theorem dc_Mod_compared_100 : decode prog_10_method_36_code 100 = .ok (.goto 4, 3) := by decide +kernel
theorem dc_Mod_compared_103 : decode prog_10_method_36_code 103 = .ok (.iconst 0, 1) := by decide +kernel
theorem dc_Mod_compared_104 : decode prog_10_method_36_code 104 = .ok (.ireturn, 1) := by decide +kernel
end
section
theorem dc_Mod_copyKey_0 : decode prog_10_method_37_code 0 = .ok (.aload_n 0, 1) := by decide +kernel
theorem dc_Mod_copyKey_1 : decode prog_10_method_37_code 1 = .ok (.getfield 59, 3) := by decide +kernel
theorem dc_Mod_copyKey_4 : decode prog_10_method_37_code 4 = .ok (.iload_n 2, 1) := by decide +kernel
theorem dc_Mod_copyKey_5 : decode prog_10_method_37_code 5 = .ok (.aload_n 0, 1) := by decide +kernel
theorem dc_Mod_copyKey_6 : decode prog_10_method_37_code 6 = .ok (.getfield 59, 3) := by decide +kernel
theorem dc_Mod_copyKey_9 : decode prog_10_method_37_code 9 = .ok (.iload_n 1, 1) := by decide +kernel
theorem dc_Mod_copyKey_10 : decode prog_10_method_37_code 10 = .ok (.iaload, 1) := by decide +kernel
theorem dc_Mod_copyKey_11 : decode prog_10_method_37_code 11 = .ok (.iastore, 1) := by decide +kernel
theorem dc_Mod_copyKey_12 : decode prog_10_method_37_code 12 = .ok (.aload_n 0, 1) := by decide +kernel
theorem dc_Mod_copyKey_13 : decode prog_10_method_37_code 13 = .ok (.getfield 62, 3) := by decide +kernel
theorem dc_Mod_copyKey_16 : decode prog_10_method_37_code 16 = .ok (.iload_n 2, 1) := by decide +kernel
theorem dc_Mod_copyKey_17 : decode prog_10_method_37_code 17 = .ok (.aload_n 0, 1) := by decide +kernel
theorem dc_Mod_copyKey_18 : decode prog_10_method_37_code 18 = .ok (.getfield 62, 3) := by decide +kernel
theorem dc_Mod_copyKey_21 : decode prog_10_method_37_code 21 = .ok (.iload_n 1, 1) := by decide +kernel
theorem dc_Mod_copyKey_22 : decode prog_10_method_37_code 22 = .ok (.iaload, 1) := by decide +kernel
theorem dc_Mod_copyKey_23 : decode prog_10_method_37_code 23 = .ok (.iastore, 1) := by decide +kernel
theorem dc_Mod_copyKey_24 : decode prog_10_method_37_code 24 = .ok (.iconst 0, 1) := by decide +kernel
theorem dc_Mod_copyKey_25 : decode prog_10_method_37_code 25 = .ok (.istore_n 3, 1) := by decide +kernel
theorem dc_Mod_copyKey_26 : decode prog_10_method_37_code 26 = .ok (.iload_n 3, 1) := by decide +kernel
theorem dc_Mod_copyKey_27 : decode prog_10_method_37_code 27 = .ok (.aload_n 0, 1) := by decide +kernel
theorem dc_Mod_copyKey_28 : decode prog_10_method_37_code 28 = .ok (.getfield 59, 3) := by decide +kernel
theorem dc_Mod_copyKey_31 : decode prog_10_method_37_code 31 = .ok (.iload_n 1, 1) := by decide +kernel
theorem dc_Mod_copyKey_32 : decode prog_10_method_37_code 32 = .ok (.iaload, 1) := by decide +kernel
theorem dc_Mod_copyKey_33 : decode prog_10_method_37_code 33 = .ok (.if_icmp .ge 31, 3) := by decide +kernel
theorem dc_Mod_copyKey_36 : decode prog_10_method_37_code 36 = .ok (.aload_n 0, 1) := by decide +kernel
theorem dc_Mod_copyKey_37 : decode prog_10_method_37_code 37 = .ok (.getfield 56, 3) := by decide +kernel
theorem dc_Mod_copyKey_40 : decode prog_10_method_37_code 40 = .ok (.bipush 120, 2) := by decide +kernel
theorem dc_Mod_copyKey_42 : decode prog_10_method_37_code 42 = .ok (.iload_n 2, 1) := by decide +kernel
theorem dc_Mod_copyKey_43 : decode prog_10_method_37_code 43 = .ok (.imul, 1) := by decide +kernel
theorem dc_Mod_copyKey_44 : decode prog_10_method_37_code 44 = .ok (.iload_n 3, 1) := by decide +kernel
theorem dc_Mod_copyKey_45 : decode prog_10_method_37_code 45 = .ok (.iadd, 1) := by decide +kernel
theorem dc_Mod_copyKey_46 : decode prog_10_method_37_code 46 = .ok (.aload_n 0, 1) := by decide +kernel
theorem dc_Mod_copyKey_47 : decode prog_10_method_37_code 47 = .ok (.getfield 56, 3) := by decide +kernel
theorem dc_Mod_copyKey_50 : decode prog_10_method_37_code 50 = .ok (.bipush 120, 2) := by decide +kernel
theorem dc_Mod_copyKey_52 : decode prog_10_method_37_code 52 = .ok (.iload_n 1, 1) := by decide +kernel
theorem dc_Mod_copyKey_53 : decode prog_10_method_37_code 53 = .ok (.imul, 1) := by decide +kernel
theorem dc_Mod_copyKey_54 : decode prog_10_method_37_code 54 = .ok (.iload_n 3, 1) := by decide +kernel
theorem dc_Mod_copyKey_55 : decode prog_10_method_37_code 55 = .ok (.iadd, 1) := by decide +kernel
theorem dc_Mod_copyKey_56 : decode prog_10_method_37_code 56 = .ok (.iaload, 1) := by decide +kernel
theorem dc_Mod_copyKey_57 : decode prog_10_method_37_code 57 = .ok (.iastore, 1) := by decide +kernel
theorem dc_Mod_copyKey_58 : decode prog_10_method_37_code 58 = .ok (.iinc 3 1, 3) := by decide +kernel
theorem dc_Mod_copyKey_61 : decode prog_10_method_37_code 61 = .ok (.goto (-35), 3) := by decide +kernel
theorem dc_Mod_copyKey_64 : decode prog_10_method_37_code 64 = .ok (.return_, 1) := by decide +kernel
theorem dc_Mod_grow_0 : decode prog_10_method_38_code 0 = .ok (.iconst 0, 1) := by decide +kernel
theorem dc_Mod_grow_1 : decode prog_10_method_38_code 1 = .ok (.istore_n 3, 1) := by decide +kernel
theorem dc_Mod_grow_2 : decode prog_10_method_38_code 2 = .ok (.iload_n 3, 1) := by decide +kernel
theorem dc_Mod_grow_3 : decode prog_10_method_38_code 3 = .ok (.aload_n 0, 1) := by decide +kernel
theorem dc_Mod_grow_4 : decode prog_10_method_38_code 4 = .ok (.getfield 200, 3) := by decide +kernel
theorem dc_Mod_grow_7 : decode prog_10_method_38_code 7 = .ok (.if_icmp .ge 18, 3) := by decide +kernel
theorem dc_Mod_grow_10 : decode prog_10_method_38_code 10 = .ok (.aload_n 0, 1) := by decide +kernel
theorem dc_Mod_grow_11 : decode prog_10_method_38_code 11 = .ok (.iload_n 1, 1) := by decide +kernel
theorem dc_Mod_grow_12 : decode prog_10_method_38_code 12 = .ok (.iload_n 3, 1) := by decide +kernel
theorem dc_Mod_grow_13 : decode prog_10_method_38_code 13 = .ok (.invokevirtual 203, 3) := by decide +kernel
theorem dc_Mod_grow_16 : decode prog_10_method_38_code 16 = .ok (.ifCond .le 9, 3) := by decide +kernel
theorem dc_Mod_grow_19 : decode prog_10_method_38_code 19 = .ok (.iinc 3 1, 3) := by decide +kernel
theorem dc_Mod_grow_22 : decode prog_10_method_38_code 22 = .ok (.goto (-20), 3) := by decide +kernel
theorem dc_Mod_grow_25 : decode prog_10_method_38_code 25 = .ok (.iload_n 3, 1) := by decide +kernel
theorem dc_Mod_grow_26 : decode prog_10_method_38_code 26 = .ok (.aload_n 0, 1) := by decide +kernel
theorem dc_Mod_grow_27 : decode prog_10_method_38_code 27 = .ok (.getfield 200, 3) := by decide +kernel
theorem dc_Mod_grow_30 : decode prog_10_method_38_code 30 = .ok (.if_icmp .ge 29, 3) := by decide +kernel
theorem dc_Mod_grow_33 : decode prog_10_method_38_code 33 = .ok (.aload_n 0, 1) := by decide +kernel
theorem dc_Mod_grow_34 : decode prog_10_method_38_code 34 = .ok (.iload_n 1, 1) := by decide +kernel
theorem dc_Mod_grow_35 : decode prog_10_method_38_code 35 = .ok (.iload_n 3, 1) := by decide +kernel
theorem dc_Mod_grow_36 : decode prog_10_method_38_code 36 = .ok (.invokevirtual 203, 3) := by decide +kernel
theorem dc_Mod_grow_39 : decode prog_10_method_38_code 39 = .ok (.ifCond .ne 20, 3) := by decide +kernel
theorem dc_Mod_grow_42 : decode prog_10_method_38_code 42 = .ok (.aload_n 0, 1) := by decide +kernel
theorem dc_Mod_grow_43 : decode prog_10_method_38_code 43 = .ok (.getfield 62, 3) := by decide +kernel
theorem dc_Mod_grow_46 : decode prog_10_method_38_code 46 = .ok (.iload_n 3, 1) := by decide +kernel
theorem dc_Mod_grow_47 : decode prog_10_method_38_code 47 = .ok (.aload_n 0, 1) := by decide +kernel
theorem dc_Mod_grow_48 : decode prog_10_method_38_code 48 = .ok (.getfield 62, 3) := by decide +kernel
theorem dc_Mod_grow_51 : decode prog_10_method_38_code 51 = .ok (.iload_n 3, 1) := by decide +kernel
theorem dc_Mod_grow_52 : decode prog_10_method_38_code 52 = .ok (.iaload, 1) := by decide +kernel
theorem dc_Mod_grow_53 : decode prog_10_method_38_code 53 = .ok (.iload_n 2, 1) := by decide +kernel
theorem dc_Mod_grow_54 : decode prog_10_method_38_code 54 = .ok (.iadd, 1) := by decide +kernel
theorem dc_Mod_grow_55 : decode prog_10_method_38_code 55 = .ok (.iastore, 1) := by decide +kernel
theorem dc_Mod_grow_56 : decode prog_10_method_38_code 56 = .ok (.goto 106, 3) := by decide +kernel
theorem dc_Mod_grow_59 : decode prog_10_method_38_code 59 = .ok (.aload_n 0, 1) := by decide +kernel
theorem dc_Mod_grow_60 : decode prog_10_method_38_code 60 = .ok (.getfield 200, 3) := by decide +kernel
theorem dc_Mod_grow_63 : decode prog_10_method_38_code 63 = .ok (.bipush 40, 2) := by decide +kernel
theorem dc_Mod_grow_65 : decode prog_10_method_38_code 65 = .ok (.if_icmp .ge 97, 3) := by decide +kernel
theorem dc_Mod_grow_68 : decode prog_10_method_38_code 68 = .ok (.aload_n 0, 1) := by decide +kernel
theorem dc_Mod_grow_69 : decode prog_10_method_38_code 69 = .ok (.getfield 200, 3) := by decide +kernel
theorem dc_Mod_grow_72 : decode prog_10_method_38_code 72 = .ok (.istore 4, 2) := by decide +kernel
theorem dc_Mod_grow_74 : decode prog_10_method_38_code 74 = .ok (.iload 4, 2) := by decide +kernel
theorem dc_Mod_grow_76 : decode prog_10_method_38_code 76 = .ok (.iload_n 3, 1) := by decide +kernel
theorem dc_Mod_grow_77 : decode prog_10_method_38_code 77 = .ok (.if_icmp .le 19, 3) := by decide +kernel
theorem dc_Mod_grow_80 : decode prog_10_method_38_code 80 = .ok (.aload_n 0, 1) := by decide +kernel
theorem dc_Mod_grow_81 : decode prog_10_method_38_code 81 = .ok (.iload 4, 2) := by decide +kernel
theorem dc_Mod_grow_83 : decode prog_10_method_38_code 83 = .ok (.iconst 1, 1) := by decide +kernel
theorem dc_Mod_grow_84 : decode prog_10_method_38_code 84 = .ok (.isub, 1) := by decide +kernel
theorem dc_Mod_grow_85 : decode prog_10_method_38_code 85 = .ok (.iload 4, 2) := by decide +kernel
theorem dc_Mod_grow_87 : decode prog_10_method_38_code 87 = .ok (.invokevirtual 206, 3) := by decide +kernel
theorem dc_Mod_grow_90 : decode prog_10_method_38_code 90 = .ok (.iinc 4 (-1), 3) := by decide +kernel
theorem dc_Mod_grow_93 : decode prog_10_method_38_code 93 = .ok (.goto (-19), 3) := by decide +kernel
theorem dc_Mod_grow_96 : decode prog_10_method_38_code 96 = .ok (.aload_n 0, 1) := by decide +kernel
theorem dc_Mod_grow_97 : decode prog_10_method_38_code 97 = .ok (.dup, 1) := by decide +kernel
theorem dc_Mod_grow_98 : decode prog_10_method_38_code 98 = .ok (.getfield 200, 3) := by decide +kernel
theorem dc_Mod_grow_101 : decode prog_10_method_38_code 101 = .ok (.iconst 1, 1) := by decide +kernel
theorem dc_Mod_grow_102 : decode prog_10_method_38_code 102 = .ok (.iadd, 1) := by decide +kernel
theorem dc_Mod_grow_103 : decode prog_10_method_38_code 103 = .ok (.putfield 200, 3) := by decide +kernel
theorem dc_Mod_grow_106 : decode prog_10_method_38_code 106 = .ok (.aload_n 0, 1) := by decide +kernel
theorem dc_Mod_grow_107 : decode prog_10_method_38_code 107 = .ok (.getfield 59, 3) := by decide +kernel
theorem dc_Mod_grow_110 : decode prog_10_method_38_code 110 = .ok (.iload_n 3, 1) := by decide +kernel
theorem dc_Mod_grow_111 : decode prog_10_method_38_code 111 = .ok (.aload_n 0, 1) := by decide +kernel
theorem dc_Mod_grow_112 : decode prog_10_method_38_code 112 = .ok (.iload_n 1, 1) := by decide +kernel
theorem dc_Mod_grow_113 : decode prog_10_method_38_code 113 = .ok (.invokevirtual 184, 3) := by decide +kernel
theorem dc_Mod_grow_116 : decode prog_10_method_38_code 116 = .ok (.iastore, 1) := by decide +kernel
theorem dc_Mod_grow_117 : decode prog_10_method_38_code 117 = .ok (.aload_n 0, 1) := by decide +kernel
theorem dc_Mod_grow_118 : decode prog_10_method_38_code 118 = .ok (.getfield 62, 3) := by decide +kernel
theorem dc_Mod_grow_121 : decode prog_10_method_38_code 121 = .ok (.iload_n 3, 1) := by decide +kernel
theorem dc_Mod_grow_122 : decode prog_10_method_38_code 122 = .ok (.iload_n 2, 1) := by decide +kernel
theorem dc_Mod_grow_123 : decode prog_10_method_38_code 123 = .ok (.iastore, 1) := by decide +kernel
theorem dc_Mod_grow_124 : decode prog_10_method_38_code 124 = .ok (.iconst 0, 1) := by decide +kernel
theorem dc_Mod_grow_125 : decode prog_10_method_38_code 125 = .ok (.istore 4, 2) := by decide +kernel
theorem dc_Mod_grow_127 : decode prog_10_method_38_code 127 = .ok (.iload 4, 2) := by decide +kernel
theorem dc_Mod_grow_129 : decode prog_10_method_38_code 129 = .ok (.aload_n 0, 1) := by decide +kernel
theorem dc_Mod_grow_130 : decode prog_10_method_38_code 130 = .ok (.iload_n 1, 1) := by decide +kernel
theorem dc_Mod_grow_131 : decode prog_10_method_38_code 131 = .ok (.invokevirtual 184, 3) := by decide +kernel
theorem dc_Mod_grow_134 : decode prog_10_method_38_code 134 = .ok (.if_icmp .ge 28, 3) := by decide +kernel
theorem dc_Mod_grow_137 : decode prog_10_method_38_code 137 = .ok (.aload_n 0, 1) := by decide +kernel
theorem dc_Mod_grow_138 : decode prog_10_method_38_code 138 = .ok (.getfield 56, 3) := by decide +kernel
theorem dc_Mod_grow_141 : decode prog_10_method_38_code 141 = .ok (.bipush 120, 2) := by decide +kernel
theorem dc_Mod_grow_143 : decode prog_10_method_38_code 143 = .ok (.iload_n 3, 1) := by decide +kernel
theorem dc_Mod_grow_144 : decode prog_10_method_38_code 144 = .ok (.imul, 1) := by decide +kernel
theorem dc_Mod_grow_145 : decode prog_10_method_38_code 145 = .ok (.iload 4, 2) := by decide +kernel
theorem dc_Mod_grow_147 : decode prog_10_method_38_code 147 = .ok (.iadd, 1) := by decide +kernel
theorem dc_Mod_grow_148 : decode prog_10_method_38_code 148 = .ok (.aload_n 0, 1) := by decide +kernel
theorem dc_Mod_grow_149 : decode prog_10_method_38_code 149 = .ok (.iload_n 1, 1) := by decide +kernel
theorem dc_Mod_grow_150 : decode prog_10_method_38_code 150 = .ok (.iload 4, 2) := by decide +kernel
theorem dc_Mod_grow_152 : decode prog_10_method_38_code 152 = .ok (.invokevirtual 187, 3) := by decide +kernel
theorem dc_Mod_grow_155 : decode prog_10_method_38_code 155 = .ok (.iastore, 1) := by decide +kernel
theorem dc_Mod_grow_156 : decode prog_10_method_38_code 156 = .ok (.iinc 4 1, 3) := by decide +kernel
theorem dc_Mod_grow_159 : decode prog_10_method_38_code 159 = .ok (.goto (-32), 3) := by decide +kernel
theorem dc_Mod_grow_162 : decode prog_10_method_38_code 162 = .ok (.return_, 1) := by decide +kernel
theorem dc_Mod_write_0 : decode prog_10_method_39_code 0 = .ok (.aload_n 0, 1) := by decide +kernel
theorem dc_Mod_write_1 : decode prog_10_method_39_code 1 = .ok (.getfield 13, 3) := by decide +kernel
theorem dc_Mod_write_4 : decode prog_10_method_39_code 4 = .ok (.iconst 1, 1) := by decide +kernel
theorem dc_Mod_write_5 : decode prog_10_method_39_code 5 = .ok (.iaload, 1) := by decide +kernel
theorem dc_Mod_write_6 : decode prog_10_method_39_code 6 = .ok (.bipush 120, 2) := by decide +kernel
theorem dc_Mod_write_8 : decode prog_10_method_39_code 8 = .ok (.if_icmp .ge 28, 3) := by decide +kernel
theorem dc_Mod_write_11 : decode prog_10_method_39_code 11 = .ok (.aload_n 0, 1) := by decide +kernel
theorem dc_Mod_write_12 : decode prog_10_method_39_code 12 = .ok (.getfield 7, 3) := by decide +kernel
theorem dc_Mod_write_15 : decode prog_10_method_39_code 15 = .ok (.bipush 120, 2) := by decide +kernel
theorem dc_Mod_write_17 : decode prog_10_method_39_code 17 = .ok (.aload_n 0, 1) := by decide +kernel
theorem dc_Mod_write_18 : decode prog_10_method_39_code 18 = .ok (.getfield 13, 3) := by decide +kernel
theorem dc_Mod_write_21 : decode prog_10_method_39_code 21 = .ok (.iconst 1, 1) := by decide +kernel
theorem dc_Mod_write_22 : decode prog_10_method_39_code 22 = .ok (.iaload, 1) := by decide +kernel
theorem dc_Mod_write_23 : decode prog_10_method_39_code 23 = .ok (.iadd, 1) := by decide +kernel
theorem dc_Mod_write_24 : decode prog_10_method_39_code 24 = .ok (.iload_n 1, 1) := by decide +kernel
theorem dc_Mod_write_25 : decode prog_10_method_39_code 25 = .ok (.iastore, 1) := by decide +kernel
theorem dc_Mod_write_26 : decode prog_10_method_39_code 26 = .ok (.aload_n 0, 1) := by decide +kernel
theorem dc_Mod_write_27 : decode prog_10_method_39_code 27 = .ok (.getfield 13, 3) := by decide +kernel
theorem dc_Mod_write_30 : decode prog_10_method_39_code 30 = .ok (.iconst 1, 1) := by decide +kernel
theorem dc_Mod_write_31 : decode prog_10_method_39_code 31 = .ok (.dup2, 1) := by decide +kernel
theorem dc_Mod_write_32 : decode prog_10_method_39_code 32 = .ok (.iaload, 1) := by decide +kernel
theorem dc_Mod_write_33 : decode prog_10_method_39_code 33 = .ok (.iconst 1, 1) := by decide +kernel
theorem dc_Mod_write_34 : decode prog_10_method_39_code 34 = .ok (.iadd, 1) := by decide +kernel
theorem dc_Mod_write_35 : decode prog_10_method_39_code 35 = .ok (.iastore, 1) := by decide +kernel
theorem dc_Mod_write_36 : decode prog_10_method_39_code 36 = .ok (.return_, 1) := by decide +kernel
theorem dc_Mod_setField_0 : decode prog_10_method_40_code 0 = .ok (.aload_n 0, 1) := by decide +kernel
theorem dc_Mod_setField_1 : decode prog_10_method_40_code 1 = .ok (.getfield 178, 3) := by decide +kernel
theorem dc_Mod_setField_4 : decode prog_10_method_40_code 4 = .ok (.istore_n 2, 1) := by decide +kernel
theorem dc_Mod_setField_5 : decode prog_10_method_40_code 5 = .ok (.iload_n 2, 1) := by decide +kernel
theorem dc_Mod_setField_6 : decode prog_10_method_40_code 6 = .ok (.iload_n 1, 1) := by decide +kernel
theorem dc_Mod_setField_7 : decode prog_10_method_40_code 7 = .ok (.if_icmp .ge 16, 3) := by decide +kernel
theorem dc_Mod_setField_10 : decode prog_10_method_40_code 10 = .ok (.aload_n 0, 1) := by decide +kernel
theorem dc_Mod_setField_11 : decode prog_10_method_40_code 11 = .ok (.getfield 50, 3) := by decide +kernel
theorem dc_Mod_setField_14 : decode prog_10_method_40_code 14 = .ok (.iload_n 2, 1) := by decide +kernel
theorem dc_Mod_setField_15 : decode prog_10_method_40_code 15 = .ok (.iconst 0, 1) := by decide +kernel
theorem dc_Mod_setField_16 : decode prog_10_method_40_code 16 = .ok (.iastore, 1) := by decide +kernel
theorem dc_Mod_setField_17 : decode prog_10_method_40_code 17 = .ok (.iinc 2 1, 3) := by decide +kernel
theorem dc_Mod_setField_20 : decode prog_10_method_40_code 20 = .ok (.goto (-15), 3) := by decide +kernel
theorem dc_Mod_setField_23 : decode prog_10_method_40_code 23 = .ok (.aload_n 0, 1) := by decide +kernel
theorem dc_Mod_setField_24 : decode prog_10_method_40_code 24 = .ok (.iload_n 1, 1) := by decide +kernel
theorem dc_Mod_setField_25 : decode prog_10_method_40_code 25 = .ok (.aload_n 0, 1) := by decide +kernel
theorem dc_Mod_setField_26 : decode prog_10_method_40_code 26 = .ok (.getfield 178, 3) := by decide +kernel
theorem dc_Mod_setField_29 : decode prog_10_method_40_code 29 = .ok (.if_icmp .le 7, 3) := by decide +kernel
theorem dc_Mod_setField_32 : decode prog_10_method_40_code 32 = .ok (.iload_n 1, 1) := by decide +kernel
theorem dc_Mod_setField_33 : decode prog_10_method_40_code 33 = .ok (.goto 7, 3) := by decide +kernel
theorem dc_Mod_setField_36 : decode prog_10_method_40_code 36 = .ok (.aload_n 0, 1) := by decide +kernel
theorem dc_Mod_setField_37 : decode prog_10_method_40_code 37 = .ok (.getfield 178, 3) := by decide +kernel
theorem dc_Mod_setField_40 : decode prog_10_method_40_code 40 = .ok (.putfield 178, 3) := by decide +kernel
theorem dc_Mod_setField_43 : decode prog_10_method_40_code 43 = .ok (.aload_n 0, 1) := by decide +kernel
theorem dc_Mod_setField_44 : decode prog_10_method_40_code 44 = .ok (.getfield 50, 3) := by decide +kernel
theorem dc_Mod_setField_47 : decode prog_10_method_40_code 47 = .ok (.iload_n 1, 1) := by decide +kernel
theorem dc_Mod_setField_48 : decode prog_10_method_40_code 48 = .ok (.iconst 1, 1) := by decide +kernel
theorem dc_Mod_setField_49 : decode prog_10_method_40_code 49 = .ok (.isub, 1) := by decide +kernel
theorem dc_Mod_setField_50 : decode prog_10_method_40_code 50 = .ok (.aload_n 0, 1) := by decide +kernel
theorem dc_Mod_setField_51 : decode prog_10_method_40_code 51 = .ok (.getfield 13, 3) := by decide +kernel
theorem dc_Mod_setField_54 : decode prog_10_method_40_code 54 = .ok (.bipush 8, 2) := by decide +kernel
theorem dc_Mod_setField_56 : decode prog_10_method_40_code 56 = .ok (.iaload, 1) := by decide +kernel
theorem dc_Mod_setField_57 : decode prog_10_method_40_code 57 = .ok (.iastore, 1) := by decide +kernel
theorem dc_Mod_setField_58 : decode prog_10_method_40_code 58 = .ok (.iconst 0, 1) := by decide +kernel
theorem dc_Mod_setField_59 : decode prog_10_method_40_code 59 = .ok (.istore_n 2, 1) := by decide +kernel
theorem dc_Mod_setField_60 : decode prog_10_method_40_code 60 = .ok (.iload_n 2, 1) := by decide +kernel
theorem dc_Mod_setField_61 : decode prog_10_method_40_code 61 = .ok (.aload_n 0, 1) := by decide +kernel
theorem dc_Mod_setField_62 : decode prog_10_method_40_code 62 = .ok (.getfield 13, 3) := by decide +kernel
theorem dc_Mod_setField_65 : decode prog_10_method_40_code 65 = .ok (.bipush 8, 2) := by decide +kernel
theorem dc_Mod_setField_67 : decode prog_10_method_40_code 67 = .ok (.iaload, 1) := by decide +kernel
theorem dc_Mod_setField_68 : decode prog_10_method_40_code 68 = .ok (.if_icmp .ge 33, 3) := by decide +kernel
theorem dc_Mod_setField_71 : decode prog_10_method_40_code 71 = .ok (.aload_n 0, 1) := by decide +kernel
theorem dc_Mod_setField_72 : decode prog_10_method_40_code 72 = .ok (.getfield 47, 3) := by decide +kernel
theorem dc_Mod_setField_75 : decode prog_10_method_40_code 75 = .ok (.bipush 120, 2) := by decide +kernel
theorem dc_Mod_setField_77 : decode prog_10_method_40_code 77 = .ok (.iload_n 1, 1) := by decide +kernel
theorem dc_Mod_setField_78 : decode prog_10_method_40_code 78 = .ok (.imul, 1) := by decide +kernel
theorem dc_Mod_setField_79 : decode prog_10_method_40_code 79 = .ok (.bipush 120, 2) := by decide +kernel
theorem dc_Mod_setField_81 : decode prog_10_method_40_code 81 = .ok (.isub, 1) := by decide +kernel
theorem dc_Mod_setField_82 : decode prog_10_method_40_code 82 = .ok (.iload_n 2, 1) := by decide +kernel
theorem dc_Mod_setField_83 : decode prog_10_method_40_code 83 = .ok (.iadd, 1) := by decide +kernel
theorem dc_Mod_setField_84 : decode prog_10_method_40_code 84 = .ok (.aload_n 0, 1) := by decide +kernel
theorem dc_Mod_setField_85 : decode prog_10_method_40_code 85 = .ok (.getfield 7, 3) := by decide +kernel
theorem dc_Mod_setField_88 : decode prog_10_method_40_code 88 = .ok (.sipush 960, 3) := by decide +kernel
theorem dc_Mod_setField_91 : decode prog_10_method_40_code 91 = .ok (.iload_n 2, 1) := by decide +kernel
theorem dc_Mod_setField_92 : decode prog_10_method_40_code 92 = .ok (.iadd, 1) := by decide +kernel
theorem dc_Mod_setField_93 : decode prog_10_method_40_code 93 = .ok (.iaload, 1) := by decide +kernel
theorem dc_Mod_setField_94 : decode prog_10_method_40_code 94 = .ok (.iastore, 1) := by decide +kernel
theorem dc_Mod_setField_95 : decode prog_10_method_40_code 95 = .ok (.iinc 2 1, 3) := by decide +kernel
theorem dc_Mod_setField_98 : decode prog_10_method_40_code 98 = .ok (.goto (-38), 3) := by decide +kernel
theorem dc_Mod_setField_101 : decode prog_10_method_40_code 101 = .ok (.aload_n 0, 1) := by decide +kernel
theorem dc_Mod_setField_102 : decode prog_10_method_40_code 102 = .ok (.getfield 13, 3) := by decide +kernel
theorem dc_Mod_setField_105 : decode prog_10_method_40_code 105 = .ok (.iconst 1, 1) := by decide +kernel
theorem dc_Mod_setField_106 : decode prog_10_method_40_code 106 = .ok (.iconst 0, 1) := by decide +kernel
theorem dc_Mod_setField_107 : decode prog_10_method_40_code 107 = .ok (.iastore, 1) := by decide +kernel
theorem dc_Mod_setField_108 : decode prog_10_method_40_code 108 = .ok (.iconst 1, 1) := by decide +kernel
theorem dc_Mod_setField_109 : decode prog_10_method_40_code 109 = .ok (.istore_n 2, 1) := by decide +kernel
theorem dc_Mod_setField_110 : decode prog_10_method_40_code 110 = .ok (.iload_n 2, 1) := by decide +kernel
theorem dc_Mod_setField_111 : decode prog_10_method_40_code 111 = .ok (.aload_n 0, 1) := by decide +kernel
theorem dc_Mod_setField_112 : decode prog_10_method_40_code 112 = .ok (.getfield 178, 3) := by decide +kernel
theorem dc_Mod_setField_115 : decode prog_10_method_40_code 115 = .ok (.if_icmp .gt 49, 3) := by decide +kernel
theorem dc_Mod_setField_118 : decode prog_10_method_40_code 118 = .ok (.iload_n 2, 1) := by decide +kernel
theorem dc_Mod_setField_119 : decode prog_10_method_40_code 119 = .ok (.iconst 1, 1) := by decide +kernel
theorem dc_Mod_setField_120 : decode prog_10_method_40_code 120 = .ok (.if_icmp .le 11, 3) := by decide +kernel
theorem dc_Mod_setField_123 : decode prog_10_method_40_code 123 = .ok (.aload_n 0, 1) := by decide +kernel
theorem dc_Mod_setField_124 : decode prog_10_method_40_code 124 = .ok (.aload_n 0, 1) := by decide +kernel
theorem dc_Mod_setField_125 : decode prog_10_method_40_code 125 = .ok (.getfield 22, 3) := by decide +kernel
theorem dc_Mod_setField_128 : decode prog_10_method_40_code 128 = .ok (.invokevirtual 209, 3) := by decide +kernel
theorem dc_Mod_setField_131 : decode prog_10_method_40_code 131 = .ok (.iconst 0, 1) := by decide +kernel
theorem dc_Mod_setField_132 : decode prog_10_method_40_code 132 = .ok (.istore_n 3, 1) := by decide +kernel
theorem dc_Mod_setField_133 : decode prog_10_method_40_code 133 = .ok (.iload_n 3, 1) := by decide +kernel
theorem dc_Mod_setField_134 : decode prog_10_method_40_code 134 = .ok (.aload_n 0, 1) := by decide +kernel
theorem dc_Mod_setField_135 : decode prog_10_method_40_code 135 = .ok (.iload_n 2, 1) := by decide +kernel
theorem dc_Mod_setField_136 : decode prog_10_method_40_code 136 = .ok (.invokevirtual 184, 3) := by decide +kernel
theorem dc_Mod_setField_139 : decode prog_10_method_40_code 139 = .ok (.if_icmp .ge 19, 3) := by decide +kernel
theorem dc_Mod_setField_142 : decode prog_10_method_40_code 142 = .ok (.aload_n 0, 1) := by decide +kernel
theorem dc_Mod_setField_143 : decode prog_10_method_40_code 143 = .ok (.aload_n 0, 1) := by decide +kernel
theorem dc_Mod_setField_144 : decode prog_10_method_40_code 144 = .ok (.iload_n 2, 1) := by decide +kernel
theorem dc_Mod_setField_145 : decode prog_10_method_40_code 145 = .ok (.iload_n 3, 1) := by decide +kernel
theorem dc_Mod_setField_146 : decode prog_10_method_40_code 146 = .ok (.invokevirtual 187, 3) := by decide +kernel
theorem dc_Mod_setField_149 : decode prog_10_method_40_code 149 = .ok (.invokevirtual 209, 3) := by decide +kernel
theorem dc_Mod_setField_152 : decode prog_10_method_40_code 152 = .ok (.iinc 3 1, 3) := by decide +kernel
theorem dc_Mod_setField_155 : decode prog_10_method_40_code 155 = .ok (.goto (-22), 3) := by decide +kernel
theorem dc_Mod_setField_158 : decode prog_10_method_40_code 158 = .ok (.iinc 2 1, 3) := by decide +kernel
theorem dc_Mod_setField_161 : decode prog_10_method_40_code 161 = .ok (.goto (-51), 3) := by decide +kernel
theorem dc_Mod_setField_164 : decode prog_10_method_40_code 164 = .ok (.return_, 1) := by decide +kernel
theorem dc_Mod_fieldToRow_0 : decode prog_10_method_41_code 0 = .ok (.aload_n 0, 1) := by decide +kernel
theorem dc_Mod_fieldToRow_1 : decode prog_10_method_41_code 1 = .ok (.getfield 13, 3) := by decide +kernel
theorem dc_Mod_fieldToRow_4 : decode prog_10_method_41_code 4 = .ok (.bipush 8, 2) := by decide +kernel
theorem dc_Mod_fieldToRow_6 : decode prog_10_method_41_code 6 = .ok (.aload_n 0, 1) := by decide +kernel
theorem dc_Mod_fieldToRow_7 : decode prog_10_method_41_code 7 = .ok (.iload_n 1, 1) := by decide +kernel
theorem dc_Mod_fieldToRow_8 : decode prog_10_method_41_code 8 = .ok (.invokevirtual 184, 3) := by decide +kernel
theorem dc_Mod_fieldToRow_11 : decode prog_10_method_41_code 11 = .ok (.iastore, 1) := by decide +kernel
theorem dc_Mod_fieldToRow_12 : decode prog_10_method_41_code 12 = .ok (.iconst 0, 1) := by decide +kernel
theorem dc_Mod_fieldToRow_13 : decode prog_10_method_41_code 13 = .ok (.istore_n 2, 1) := by decide +kernel
theorem dc_Mod_fieldToRow_14 : decode prog_10_method_41_code 14 = .ok (.iload_n 2, 1) := by decide +kernel
theorem dc_Mod_fieldToRow_15 : decode prog_10_method_41_code 15 = .ok (.aload_n 0, 1) := by decide +kernel
theorem dc_Mod_fieldToRow_16 : decode prog_10_method_41_code 16 = .ok (.iload_n 1, 1) := by decide +kernel
theorem dc_Mod_fieldToRow_17 : decode prog_10_method_41_code 17 = .ok (.invokevirtual 184, 3) := by decide +kernel
theorem dc_Mod_fieldToRow_20 : decode prog_10_method_41_code 20 = .ok (.if_icmp .ge 25, 3) := by decide +kernel
theorem dc_Mod_fieldToRow_23 : decode prog_10_method_41_code 23 = .ok (.aload_n 0, 1) := by decide +kernel
theorem dc_Mod_fieldToRow_24 : decode prog_10_method_41_code 24 = .ok (.getfield 7, 3) := by decide +kernel
theorem dc_Mod_fieldToRow_27 : decode prog_10_method_41_code 27 = .ok (.sipush 960, 3) := by decide +kernel
theorem dc_Mod_fieldToRow_30 : decode prog_10_method_41_code 30 = .ok (.iload_n 2, 1) := by decide +kernel
theorem dc_Mod_fieldToRow_31 : decode prog_10_method_41_code 31 = .ok (.iadd, 1) := by decide +kernel
theorem dc_Mod_fieldToRow_32 : decode prog_10_method_41_code 32 = .ok (.aload_n 0, 1) := by decide +kernel
theorem dc_Mod_fieldToRow_33 : decode prog_10_method_41_code 33 = .ok (.iload_n 1, 1) := by decide +kernel
theorem dc_Mod_fieldToRow_34 : decode prog_10_method_41_code 34 = .ok (.iload_n 2, 1) := by decide +kernel
theorem dc_Mod_fieldToRow_35 : decode prog_10_method_41_code 35 = .ok (.invokevirtual 187, 3) := by decide +kernel
theorem dc_Mod_fieldToRow_38 : decode prog_10_method_41_code 38 = .ok (.iastore, 1) := by decide +kernel
theorem dc_Mod_fieldToRow_39 : decode prog_10_method_41_code 39 = .ok (.iinc 2 1, 3) := by decide +kernel
theorem dc_Mod_fieldToRow_42 : decode prog_10_method_41_code 42 = .ok (.goto (-28), 3) := by decide +kernel
theorem dc_Mod_fieldToRow_45 : decode prog_10_method_41_code 45 = .ok (.return_, 1) := by decide +kernel
theorem dc_Mod_replace_0 : decode prog_10_method_42_code 0 = .ok (.aload_n 0, 1) := by decide +kernel
theorem dc_Mod_replace_1 : decode prog_10_method_42_code 1 = .ok (.iconst 1, 1) := by decide +kernel
theorem dc_Mod_replace_2 : decode prog_10_method_42_code 2 = .ok (.bipush 8, 2) := by decide +kernel
theorem dc_Mod_replace_4 : decode prog_10_method_42_code 4 = .ok (.invokevirtual 166, 3) := by decide +kernel
theorem dc_Mod_replace_7 : decode prog_10_method_42_code 7 = .ok (.aload_n 0, 1) := by decide +kernel
theorem dc_Mod_replace_8 : decode prog_10_method_42_code 8 = .ok (.getfield 13, 3) := by decide +kernel
theorem dc_Mod_replace_11 : decode prog_10_method_42_code 11 = .ok (.iconst 1, 1) := by decide +kernel
theorem dc_Mod_replace_12 : decode prog_10_method_42_code 12 = .ok (.iconst 0, 1) := by decide +kernel
theorem dc_Mod_replace_13 : decode prog_10_method_42_code 13 = .ok (.iastore, 1) := by decide +kernel
theorem dc_Mod_replace_14 : decode prog_10_method_42_code 14 = .ok (.iconst 0, 1) := by decide +kernel
theorem dc_Mod_replace_15 : decode prog_10_method_42_code 15 = .ok (.istore 4, 2) := by decide +kernel
theorem dc_Mod_replace_17 : decode prog_10_method_42_code 17 = .ok (.iconst (-1), 1) := by decide +kernel
theorem dc_Mod_replace_18 : decode prog_10_method_42_code 18 = .ok (.istore 5, 2) := by decide +kernel
theorem dc_Mod_replace_20 : decode prog_10_method_42_code 20 = .ok (.iconst 0, 1) := by decide +kernel
theorem dc_Mod_replace_21 : decode prog_10_method_42_code 21 = .ok (.istore 6, 2) := by decide +kernel
theorem dc_Mod_replace_23 : decode prog_10_method_42_code 23 = .ok (.iconst 1, 1) := by decide +kernel
theorem dc_Mod_replace_24 : decode prog_10_method_42_code 24 = .ok (.istore 7, 2) := by decide +kernel
theorem dc_Mod_replace_26 : decode prog_10_method_42_code 26 = .ok (.iload 7, 2) := by decide +kernel
theorem dc_Mod_replace_28 : decode prog_10_method_42_code 28 = .ok (.ifCond .eq 165, 3) := by decide +kernel
theorem dc_Mod_replace_31 : decode prog_10_method_42_code 31 = .ok (.iload 6, 2) := by decide +kernel
theorem dc_Mod_replace_33 : decode prog_10_method_42_code 33 = .ok (.aload_n 0, 1) := by decide +kernel
theorem dc_Mod_replace_34 : decode prog_10_method_42_code 34 = .ok (.getfield 13, 3) := by decide +kernel
theorem dc_Mod_replace_37 : decode prog_10_method_42_code 37 = .ok (.bipush 8, 2) := by decide +kernel
theorem dc_Mod_replace_39 : decode prog_10_method_42_code 39 = .ok (.iaload, 1) := by decide +kernel
theorem dc_Mod_replace_40 : decode prog_10_method_42_code 40 = .ok (.if_icmp .gt 153, 3) := by decide +kernel
theorem dc_Mod_replace_43 : decode prog_10_method_42_code 43 = .ok (.aload_n 0, 1) := by decide +kernel
theorem dc_Mod_replace_44 : decode prog_10_method_42_code 44 = .ok (.iload_n 1, 1) := by decide +kernel
theorem dc_Mod_replace_45 : decode prog_10_method_42_code 45 = .ok (.bipush 8, 2) := by decide +kernel
theorem dc_Mod_replace_47 : decode prog_10_method_42_code 47 = .ok (.iload 6, 2) := by decide +kernel
theorem dc_Mod_replace_49 : decode prog_10_method_42_code 49 = .ok (.invokevirtual 212, 3) := by decide +kernel
theorem dc_Mod_replace_52 : decode prog_10_method_42_code 52 = .ok (.istore 7, 2) := by decide +kernel
theorem dc_Mod_replace_54 : decode prog_10_method_42_code 54 = .ok (.iload 7, 2) := by decide +kernel
theorem dc_Mod_replace_56 : decode prog_10_method_42_code 56 = .ok (.ifCond .eq 32, 3) := by decide +kernel
theorem dc_Mod_replace_59 : decode prog_10_method_42_code 59 = .ok (.aload_n 0, 1) := by decide +kernel
theorem dc_Mod_replace_60 : decode prog_10_method_42_code 60 = .ok (.getfield 160, 3) := by decide +kernel
theorem dc_Mod_replace_63 : decode prog_10_method_42_code 63 = .ok (.aload_n 0, 1) := by decide +kernel
theorem dc_Mod_replace_64 : decode prog_10_method_42_code 64 = .ok (.getfield 163, 3) := by decide +kernel
theorem dc_Mod_replace_67 : decode prog_10_method_42_code 67 = .ok (.if_icmp .ne 21, 3) := by decide +kernel
theorem dc_Mod_replace_70 : decode prog_10_method_42_code 70 = .ok (.aload_n 0, 1) := by decide +kernel
theorem dc_Mod_replace_71 : decode prog_10_method_42_code 71 = .ok (.getfield 160, 3) := by decide +kernel
theorem dc_Mod_replace_74 : decode prog_10_method_42_code 74 = .ok (.iload 5, 2) := by decide +kernel
theorem dc_Mod_replace_76 : decode prog_10_method_42_code 76 = .ok (.if_icmp .ne 12, 3) := by decide +kernel
theorem dc_Mod_replace_79 : decode prog_10_method_42_code 79 = .ok (.iload 5, 2) := by decide +kernel
theorem dc_Mod_replace_81 : decode prog_10_method_42_code 81 = .ok (.iconst 1, 1) := by decide +kernel
theorem dc_Mod_replace_82 : decode prog_10_method_42_code 82 = .ok (.iadd, 1) := by decide +kernel
theorem dc_Mod_replace_83 : decode prog_10_method_42_code 83 = .ok (.istore 6, 2) := by decide +kernel
theorem dc_Mod_replace_85 : decode prog_10_method_42_code 85 = .ok (.goto (-59), 3) := by decide +kernel
theorem dc_Mod_replace_88 : decode prog_10_method_42_code 88 = .ok (.iload 7, 2) := by decide +kernel
theorem dc_Mod_replace_90 : decode prog_10_method_42_code 90 = .ok (.ifCond .eq (-64), 3) := by decide +kernel
theorem dc_Mod_replace_93 : decode prog_10_method_42_code 93 = .ok (.iload 4, 2) := by decide +kernel
theorem dc_Mod_replace_95 : decode prog_10_method_42_code 95 = .ok (.istore 8, 2) := by decide +kernel
theorem dc_Mod_replace_97 : decode prog_10_method_42_code 97 = .ok (.iload 8, 2) := by decide +kernel
theorem dc_Mod_replace_99 : decode prog_10_method_42_code 99 = .ok (.aload_n 0, 1) := by decide +kernel
theorem dc_Mod_replace_100 : decode prog_10_method_42_code 100 = .ok (.getfield 160, 3) := by decide +kernel
theorem dc_Mod_replace_103 : decode prog_10_method_42_code 103 = .ok (.if_icmp .ge 24, 3) := by decide +kernel
theorem dc_Mod_replace_106 : decode prog_10_method_42_code 106 = .ok (.aload_n 0, 1) := by decide +kernel
theorem dc_Mod_replace_107 : decode prog_10_method_42_code 107 = .ok (.aload_n 0, 1) := by decide +kernel
theorem dc_Mod_replace_108 : decode prog_10_method_42_code 108 = .ok (.getfield 7, 3) := by decide +kernel
theorem dc_Mod_replace_111 : decode prog_10_method_42_code 111 = .ok (.sipush 960, 3) := by decide +kernel
theorem dc_Mod_replace_114 : decode prog_10_method_42_code 114 = .ok (.iload 8, 2) := by decide +kernel
theorem dc_Mod_replace_116 : decode prog_10_method_42_code 116 = .ok (.iadd, 1) := by decide +kernel
theorem dc_Mod_replace_117 : decode prog_10_method_42_code 117 = .ok (.iaload, 1) := by decide +kernel
theorem dc_Mod_replace_118 : decode prog_10_method_42_code 118 = .ok (.invokevirtual 209, 3) := by decide +kernel
theorem dc_Mod_replace_121 : decode prog_10_method_42_code 121 = .ok (.iinc 8 1, 3) := by decide +kernel
theorem dc_Mod_replace_124 : decode prog_10_method_42_code 124 = .ok (.goto (-27), 3) := by decide +kernel
theorem dc_Mod_replace_127 : decode prog_10_method_42_code 127 = .ok (.iconst 0, 1) := by decide +kernel
theorem dc_Mod_replace_128 : decode prog_10_method_42_code 128 = .ok (.istore 8, 2) := by decide +kernel
theorem dc_Mod_replace_130 : decode prog_10_method_42_code 130 = .ok (.iload 8, 2) := by decide +kernel
theorem dc_Mod_replace_132 : decode prog_10_method_42_code 132 = .ok (.aload_n 0, 1) := by decide +kernel
theorem dc_Mod_replace_133 : decode prog_10_method_42_code 133 = .ok (.getfield 13, 3) := by decide +kernel
theorem dc_Mod_replace_136 : decode prog_10_method_42_code 136 = .ok (.iconst 2, 1) := by decide +kernel
theorem dc_Mod_replace_137 : decode prog_10_method_42_code 137 = .ok (.iload_n 2, 1) := by decide +kernel
theorem dc_Mod_replace_138 : decode prog_10_method_42_code 138 = .ok (.iadd, 1) := by decide +kernel
theorem dc_Mod_replace_139 : decode prog_10_method_42_code 139 = .ok (.iaload, 1) := by decide +kernel
theorem dc_Mod_replace_140 : decode prog_10_method_42_code 140 = .ok (.if_icmp .ge 29, 3) := by decide +kernel
theorem dc_Mod_replace_143 : decode prog_10_method_42_code 143 = .ok (.aload_n 0, 1) := by decide +kernel
theorem dc_Mod_replace_144 : decode prog_10_method_42_code 144 = .ok (.aload_n 0, 1) := by decide +kernel
theorem dc_Mod_replace_145 : decode prog_10_method_42_code 145 = .ok (.getfield 7, 3) := by decide +kernel
theorem dc_Mod_replace_148 : decode prog_10_method_42_code 148 = .ok (.sipush 240, 3) := by decide +kernel
theorem dc_Mod_replace_151 : decode prog_10_method_42_code 151 = .ok (.bipush 120, 2) := by decide +kernel
theorem dc_Mod_replace_153 : decode prog_10_method_42_code 153 = .ok (.iload_n 2, 1) := by decide +kernel
theorem dc_Mod_replace_154 : decode prog_10_method_42_code 154 = .ok (.imul, 1) := by decide +kernel
theorem dc_Mod_replace_155 : decode prog_10_method_42_code 155 = .ok (.iadd, 1) := by decide +kernel
theorem dc_Mod_replace_156 : decode prog_10_method_42_code 156 = .ok (.iload 8, 2) := by decide +kernel
theorem dc_Mod_replace_158 : decode prog_10_method_42_code 158 = .ok (.iadd, 1) := by decide +kernel
theorem dc_Mod_replace_159 : decode prog_10_method_42_code 159 = .ok (.iaload, 1) := by decide +kernel
theorem dc_Mod_replace_160 : decode prog_10_method_42_code 160 = .ok (.invokevirtual 209, 3) := by decide +kernel
theorem dc_Mod_replace_163 : decode prog_10_method_42_code 163 = .ok (.iinc 8 1, 3) := by decide +kernel
theorem dc_Mod_replace_166 : decode prog_10_method_42_code 166 = .ok (.goto (-36), 3) := by decide +kernel
theorem dc_Mod_replace_169 : decode prog_10_method_42_code 169 = .ok (.aload_n 0, 1) := by decide +kernel
theorem dc_Mod_replace_170 : decode prog_10_method_42_code 170 = .ok (.getfield 163, 3) := by decide +kernel
theorem dc_Mod_replace_173 : decode prog_10_method_42_code 173 = .ok (.istore 4, 2) := by decide +kernel
theorem dc_Mod_replace_175 : decode prog_10_method_42_code 175 = .ok (.aload_n 0, 1) := by decide +kernel
theorem dc_Mod_replace_176 : decode prog_10_method_42_code 176 = .ok (.getfield 163, 3) := by decide +kernel
theorem dc_Mod_replace_179 : decode prog_10_method_42_code 179 = .ok (.istore 5, 2) := by decide +kernel
theorem dc_Mod_replace_181 : decode prog_10_method_42_code 181 = .ok (.aload_n 0, 1) := by decide +kernel
theorem dc_Mod_replace_182 : decode prog_10_method_42_code 182 = .ok (.getfield 163, 3) := by decide +kernel
theorem dc_Mod_replace_185 : decode prog_10_method_42_code 185 = .ok (.istore 6, 2) := by decide +kernel
theorem dc_Mod_replace_187 : decode prog_10_method_42_code 187 = .ok (.iload_n 3, 1) := by decide +kernel
theorem dc_Mod_replace_188 : decode prog_10_method_42_code 188 = .ok (.istore 7, 2) := by decide +kernel
theorem dc_Mod_replace_190 : decode prog_10_method_42_code 190 = .ok (.goto (-164), 3) := by decide +kernel
theorem dc_Mod_replace_193 : decode prog_10_method_42_code 193 = .ok (.iload 4, 2) := by decide +kernel
theorem dc_Mod_replace_195 : decode prog_10_method_42_code 195 = .ok (.istore 8, 2) := by decide +kernel
theorem dc_Mod_replace_197 : decode prog_10_method_42_code 197 = .ok (.iload 8, 2) := by decide +kernel
theorem dc_Mod_replace_199 : decode prog_10_method_42_code 199 = .ok (.aload_n 0, 1) := by decide +kernel
theorem dc_Mod_replace_200 : decode prog_10_method_42_code 200 = .ok (.getfield 13, 3) := by decide +kernel
theorem dc_Mod_replace_203 : decode prog_10_method_42_code 203 = .ok (.bipush 8, 2) := by decide +kernel
theorem dc_Mod_replace_205 : decode prog_10_method_42_code 205 = .ok (.iaload, 1) := by decide +kernel
theorem dc_Mod_replace_206 : decode prog_10_method_42_code 206 = .ok (.if_icmp .ge 24, 3) := by decide +kernel
theorem dc_Mod_replace_209 : decode prog_10_method_42_code 209 = .ok (.aload_n 0, 1) := by decide +kernel
theorem dc_Mod_replace_210 : decode prog_10_method_42_code 210 = .ok (.aload_n 0, 1) := by decide +kernel
theorem dc_Mod_replace_211 : decode prog_10_method_42_code 211 = .ok (.getfield 7, 3) := by decide +kernel
theorem dc_Mod_replace_214 : decode prog_10_method_42_code 214 = .ok (.sipush 960, 3) := by decide +kernel
theorem dc_Mod_replace_217 : decode prog_10_method_42_code 217 = .ok (.iload 8, 2) := by decide +kernel
theorem dc_Mod_replace_219 : decode prog_10_method_42_code 219 = .ok (.iadd, 1) := by decide +kernel
theorem dc_Mod_replace_220 : decode prog_10_method_42_code 220 = .ok (.iaload, 1) := by decide +kernel
theorem dc_Mod_replace_221 : decode prog_10_method_42_code 221 = .ok (.invokevirtual 209, 3) := by decide +kernel
theorem dc_Mod_replace_224 : decode prog_10_method_42_code 224 = .ok (.iinc 8 1, 3) := by decide +kernel
theorem dc_Mod_replace_227 : decode prog_10_method_42_code 227 = .ok (.goto (-30), 3) := by decide +kernel
theorem dc_Mod_replace_230 : decode prog_10_method_42_code 230 = .ok (.aload_n 0, 1) := by decide +kernel
theorem dc_Mod_replace_231 : decode prog_10_method_42_code 231 = .ok (.invokevirtual 215, 3) := by decide +kernel
theorem dc_Mod_replace_234 : decode prog_10_method_42_code 234 = .ok (.return_, 1) := by decide +kernel
theorem dc_Mod_act_0 : decode prog_10_method_43_code 0 = .ok (.iload_n 1, 1) := by decide +kernel
theorem dc_Mod_act_1 : decode prog_10_method_43_code 1 = .ok (.tableswitch 261 0 12 #[67, 82, 104, 125, 134, 147, 165, 165, 185, 211, 261, 238, 248], 67) := by decide +kernel
theorem dc_Mod_act_68 : decode prog_10_method_43_code 68 = .ok (.aload_n 0, 1) := by decide +kernel
theorem dc_Mod_act_69 : decode prog_10_method_43_code 69 = .ok (.iconst 1, 1) := by decide +kernel
theorem dc_Mod_act_70 : decode prog_10_method_43_code 70 = .ok (.iconst 0, 1) := by decide +kernel
theorem dc_Mod_act_71 : decode prog_10_method_43_code 71 = .ok (.aload_n 0, 1) := by decide +kernel
theorem dc_Mod_act_72 : decode prog_10_method_43_code 72 = .ok (.getfield 13, 3) := by decide +kernel
theorem dc_Mod_act_75 : decode prog_10_method_43_code 75 = .ok (.iconst 1, 1) := by decide +kernel
theorem dc_Mod_act_76 : decode prog_10_method_43_code 76 = .ok (.iaload, 1) := by decide +kernel
theorem dc_Mod_act_77 : decode prog_10_method_43_code 77 = .ok (.invokevirtual 218, 3) := by decide +kernel
theorem dc_Mod_act_80 : decode prog_10_method_43_code 80 = .ok (.goto 182, 3) := by decide +kernel
theorem dc_Mod_act_83 : decode prog_10_method_43_code 83 = .ok (.aload_n 0, 1) := by decide +kernel
theorem dc_Mod_act_84 : decode prog_10_method_43_code 84 = .ok (.iload_n 2, 1) := by decide +kernel
theorem dc_Mod_act_85 : decode prog_10_method_43_code 85 = .ok (.invokevirtual 222, 3) := by decide +kernel
theorem dc_Mod_act_88 : decode prog_10_method_43_code 88 = .ok (.aload_n 0, 1) := by decide +kernel
theorem dc_Mod_act_89 : decode prog_10_method_43_code 89 = .ok (.bipush 8, 2) := by decide +kernel
theorem dc_Mod_act_91 : decode prog_10_method_43_code 91 = .ok (.iconst 0, 1) := by decide +kernel
theorem dc_Mod_act_92 : decode prog_10_method_43_code 92 = .ok (.aload_n 0, 1) := by decide +kernel
theorem dc_Mod_act_93 : decode prog_10_method_43_code 93 = .ok (.getfield 13, 3) := by decide +kernel
theorem dc_Mod_act_96 : decode prog_10_method_43_code 96 = .ok (.bipush 8, 2) := by decide +kernel
theorem dc_Mod_act_98 : decode prog_10_method_43_code 98 = .ok (.iaload, 1) := by decide +kernel
theorem dc_Mod_act_99 : decode prog_10_method_43_code 99 = .ok (.invokevirtual 218, 3) := by decide +kernel
theorem dc_Mod_act_102 : decode prog_10_method_43_code 102 = .ok (.goto 160, 3) := by decide +kernel
theorem dc_Mod_act_105 : decode prog_10_method_43_code 105 = .ok (.aload_n 0, 1) := by decide +kernel
theorem dc_Mod_act_106 : decode prog_10_method_43_code 106 = .ok (.getfield 53, 3) := by decide +kernel
theorem dc_Mod_act_109 : decode prog_10_method_43_code 109 = .ok (.iload_n 3, 1) := by decide +kernel
theorem dc_Mod_act_110 : decode prog_10_method_43_code 110 = .ok (.aload_n 0, 1) := by decide +kernel
theorem dc_Mod_act_111 : decode prog_10_method_43_code 111 = .ok (.getfield 53, 3) := by decide +kernel
theorem dc_Mod_act_114 : decode prog_10_method_43_code 114 = .ok (.iload_n 3, 1) := by decide +kernel
theorem dc_Mod_act_115 : decode prog_10_method_43_code 115 = .ok (.iaload, 1) := by decide +kernel
theorem dc_Mod_act_116 : decode prog_10_method_43_code 116 = .ok (.aload_n 0, 1) := by decide +kernel
theorem dc_Mod_act_117 : decode prog_10_method_43_code 117 = .ok (.iload_n 2, 1) := by decide +kernel
theorem dc_Mod_act_118 : decode prog_10_method_43_code 118 = .ok (.invokevirtual 225, 3) := by decide +kernel
theorem dc_Mod_act_121 : decode prog_10_method_43_code 121 = .ok (.iadd, 1) := by decide +kernel
theorem dc_Mod_act_122 : decode prog_10_method_43_code 122 = .ok (.iastore, 1) := by decide +kernel
theorem dc_Mod_act_123 : decode prog_10_method_43_code 123 = .ok (.goto 139, 3) := by decide +kernel
theorem dc_Mod_act_126 : decode prog_10_method_43_code 126 = .ok (.aload_n 0, 1) := by decide +kernel
theorem dc_Mod_act_127 : decode prog_10_method_43_code 127 = .ok (.iload_n 2, 1) := by decide +kernel
theorem dc_Mod_act_128 : decode prog_10_method_43_code 128 = .ok (.iload_n 3, 1) := by decide +kernel
theorem dc_Mod_act_129 : decode prog_10_method_43_code 129 = .ok (.invokevirtual 228, 3) := by decide +kernel
theorem dc_Mod_act_132 : decode prog_10_method_43_code 132 = .ok (.goto 130, 3) := by decide +kernel
theorem dc_Mod_act_135 : decode prog_10_method_43_code 135 = .ok (.aload_n 0, 1) := by decide +kernel
theorem dc_Mod_act_136 : decode prog_10_method_43_code 136 = .ok (.iload_n 3, 1) := by decide +kernel
theorem dc_Mod_act_137 : decode prog_10_method_43_code 137 = .ok (.invokevirtual 222, 3) := by decide +kernel
theorem dc_Mod_act_140 : decode prog_10_method_43_code 140 = .ok (.aload_n 0, 1) := by decide +kernel
theorem dc_Mod_act_141 : decode prog_10_method_43_code 141 = .ok (.iload_n 2, 1) := by decide +kernel
theorem dc_Mod_act_142 : decode prog_10_method_43_code 142 = .ok (.invokevirtual 231, 3) := by decide +kernel
theorem dc_Mod_act_145 : decode prog_10_method_43_code 145 = .ok (.goto 117, 3) := by decide +kernel
theorem dc_Mod_act_148 : decode prog_10_method_43_code 148 = .ok (.aload_n 0, 1) := by decide +kernel
theorem dc_Mod_act_149 : decode prog_10_method_43_code 149 = .ok (.aload_n 0, 1) := by decide +kernel
theorem dc_Mod_act_150 : decode prog_10_method_43_code 150 = .ok (.getfield 53, 3) := by decide +kernel
theorem dc_Mod_act_153 : decode prog_10_method_43_code 153 = .ok (.iload_n 3, 1) := by decide +kernel
theorem dc_Mod_act_154 : decode prog_10_method_43_code 154 = .ok (.iaload, 1) := by decide +kernel
theorem dc_Mod_act_155 : decode prog_10_method_43_code 155 = .ok (.invokevirtual 234, 3) := by decide +kernel
theorem dc_Mod_act_158 : decode prog_10_method_43_code 158 = .ok (.aload_n 0, 1) := by decide +kernel
theorem dc_Mod_act_159 : decode prog_10_method_43_code 159 = .ok (.iload_n 2, 1) := by decide +kernel
theorem dc_Mod_act_160 : decode prog_10_method_43_code 160 = .ok (.invokevirtual 231, 3) := by decide +kernel
theorem dc_Mod_act_163 : decode prog_10_method_43_code 163 = .ok (.goto 99, 3) := by decide +kernel
theorem dc_Mod_act_166 : decode prog_10_method_43_code 166 = .ok (.aload_n 0, 1) := by decide +kernel
theorem dc_Mod_act_167 : decode prog_10_method_43_code 167 = .ok (.iload_n 2, 1) := by decide +kernel
theorem dc_Mod_act_168 : decode prog_10_method_43_code 168 = .ok (.iload_n 3, 1) := by decide +kernel
theorem dc_Mod_act_169 : decode prog_10_method_43_code 169 = .ok (.iload_n 1, 1) := by decide +kernel
theorem dc_Mod_act_170 : decode prog_10_method_43_code 170 = .ok (.bipush 7, 2) := by decide +kernel
theorem dc_Mod_act_172 : decode prog_10_method_43_code 172 = .ok (.if_icmp .ne 7, 3) := by decide +kernel
theorem dc_Mod_act_175 : decode prog_10_method_43_code 175 = .ok (.iconst 1, 1) := by decide +kernel
theorem dc_Mod_act_176 : decode prog_10_method_43_code 176 = .ok (.goto 4, 3) := by decide +kernel
theorem dc_Mod_act_179 : decode prog_10_method_43_code 179 = .ok (.iconst 0, 1) := by decide +kernel
theorem dc_Mod_act_180 : decode prog_10_method_43_code 180 = .ok (.invokevirtual 237, 3) := by decide +kernel
theorem dc_Mod_act_183 : decode prog_10_method_43_code 183 = .ok (.goto 79, 3) := by decide +kernel
theorem dc_Mod_act_186 : decode prog_10_method_43_code 186 = .ok (.aload_n 0, 1) := by decide +kernel
theorem dc_Mod_act_187 : decode prog_10_method_43_code 187 = .ok (.iload_n 2, 1) := by decide +kernel
theorem dc_Mod_act_188 : decode prog_10_method_43_code 188 = .ok (.iconst 1, 1) := by decide +kernel
theorem dc_Mod_act_189 : decode prog_10_method_43_code 189 = .ok (.iconst 0, 1) := by decide +kernel
theorem dc_Mod_act_190 : decode prog_10_method_43_code 190 = .ok (.invokevirtual 212, 3) := by decide +kernel
theorem dc_Mod_act_193 : decode prog_10_method_43_code 193 = .ok (.ifCond .eq 69, 3) := by decide +kernel
theorem dc_Mod_act_196 : decode prog_10_method_43_code 196 = .ok (.aload_n 0, 1) := by decide +kernel
theorem dc_Mod_act_197 : decode prog_10_method_43_code 197 = .ok (.iconst 1, 1) := by decide +kernel
theorem dc_Mod_act_198 : decode prog_10_method_43_code 198 = .ok (.aload_n 0, 1) := by decide +kernel
theorem dc_Mod_act_199 : decode prog_10_method_43_code 199 = .ok (.getfield 160, 3) := by decide +kernel
theorem dc_Mod_act_202 : decode prog_10_method_43_code 202 = .ok (.aload_n 0, 1) := by decide +kernel
theorem dc_Mod_act_203 : decode prog_10_method_43_code 203 = .ok (.getfield 163, 3) := by decide +kernel
theorem dc_Mod_act_206 : decode prog_10_method_43_code 206 = .ok (.invokevirtual 218, 3) := by decide +kernel
theorem dc_Mod_act_209 : decode prog_10_method_43_code 209 = .ok (.goto 53, 3) := by decide +kernel
theorem dc_Mod_act_212 : decode prog_10_method_43_code 212 = .ok (.aload_n 0, 1) := by decide +kernel
theorem dc_Mod_act_213 : decode prog_10_method_43_code 213 = .ok (.aload_n 0, 1) := by decide +kernel
theorem dc_Mod_act_214 : decode prog_10_method_43_code 214 = .ok (.getfield 53, 3) := by decide +kernel
theorem dc_Mod_act_217 : decode prog_10_method_43_code 217 = .ok (.iload_n 2, 1) := by decide +kernel
theorem dc_Mod_act_218 : decode prog_10_method_43_code 218 = .ok (.iaload, 1) := by decide +kernel
theorem dc_Mod_act_219 : decode prog_10_method_43_code 219 = .ok (.invokevirtual 234, 3) := by decide +kernel
theorem dc_Mod_act_222 : decode prog_10_method_43_code 222 = .ok (.aload_n 0, 1) := by decide +kernel
theorem dc_Mod_act_223 : decode prog_10_method_43_code 223 = .ok (.bipush 8, 2) := by decide +kernel
theorem dc_Mod_act_225 : decode prog_10_method_43_code 225 = .ok (.iconst 0, 1) := by decide +kernel
theorem dc_Mod_act_226 : decode prog_10_method_43_code 226 = .ok (.aload_n 0, 1) := by decide +kernel
theorem dc_Mod_act_227 : decode prog_10_method_43_code 227 = .ok (.getfield 13, 3) := by decide +kernel
theorem dc_Mod_act_230 : decode prog_10_method_43_code 230 = .ok (.bipush 8, 2) := by decide +kernel
theorem dc_Mod_act_232 : decode prog_10_method_43_code 232 = .ok (.iaload, 1) := by decide +kernel
theorem dc_Mod_act_233 : decode prog_10_method_43_code 233 = .ok (.invokevirtual 218, 3) := by decide +kernel
theorem dc_Mod_act_236 : decode prog_10_method_43_code 236 = .ok (.goto 26, 3) := by decide +kernel
theorem dc_Mod_act_239 : decode prog_10_method_43_code 239 = .ok (.aload_n 0, 1) := by decide +kernel
theorem dc_Mod_act_240 : decode prog_10_method_43_code 240 = .ok (.getfield 53, 3) := by decide +kernel
theorem dc_Mod_act_243 : decode prog_10_method_43_code 243 = .ok (.iload_n 2, 1) := by decide +kernel
theorem dc_Mod_act_244 : decode prog_10_method_43_code 244 = .ok (.iload_n 3, 1) := by decide +kernel
theorem dc_Mod_act_245 : decode prog_10_method_43_code 245 = .ok (.iastore, 1) := by decide +kernel
theorem dc_Mod_act_246 : decode prog_10_method_43_code 246 = .ok (.goto 16, 3) := by decide +kernel
theorem dc_Mod_act_249 : decode prog_10_method_43_code 249 = .ok (.aload_n 0, 1) := by decide +kernel
theorem dc_Mod_act_250 : decode prog_10_method_43_code 250 = .ok (.getfield 53, 3) := by decide +kernel
theorem dc_Mod_act_253 : decode prog_10_method_43_code 253 = .ok (.iload_n 2, 1) := by decide +kernel
theorem dc_Mod_act_254 : decode prog_10_method_43_code 254 = .ok (.aload_n 0, 1) := by decide +kernel
theorem dc_Mod_act_255 : decode prog_10_method_43_code 255 = .ok (.getfield 241, 3) := by decide +kernel
theorem dc_Mod_act_258 : decode prog_10_method_43_code 258 = .ok (.iastore, 1) := by decide +kernel
theorem dc_Mod_act_259 : decode prog_10_method_43_code 259 = .ok (.goto 3, 3) := by decide +kernel
theorem dc_Mod_act_262 : decode prog_10_method_43_code 262 = .ok (.return_, 1) := by decide +kernel
theorem dc_Mod_has_0 : decode prog_10_method_44_code 0 = .ok (.iload_n 1, 1) := by decide +kernel
theorem dc_Mod_has_1 : decode prog_10_method_44_code 1 = .ok (.tableswitch 115 0 5 #[39, 41, 49, 63, 78, 93], 39) := by decide +kernel
theorem dc_Mod_has_40 : decode prog_10_method_44_code 40 = .ok (.iconst 1, 1) := by decide +kernel
theorem dc_Mod_has_41 : decode prog_10_method_44_code 41 = .ok (.ireturn, 1) := by decide +kernel
theorem dc_Mod_has_42 : decode prog_10_method_44_code 42 = .ok (.aload_n 0, 1) := by decide +kernel
theorem dc_Mod_has_43 : decode prog_10_method_44_code 43 = .ok (.iload_n 2, 1) := by decide +kernel
theorem dc_Mod_has_44 : decode prog_10_method_44_code 44 = .ok (.iconst 1, 1) := by decide +kernel
theorem dc_Mod_has_45 : decode prog_10_method_44_code 45 = .ok (.iconst 0, 1) := by decide +kernel
theorem dc_Mod_has_46 : decode prog_10_method_44_code 46 = .ok (.invokevirtual 212, 3) := by decide +kernel
theorem dc_Mod_has_49 : decode prog_10_method_44_code 49 = .ok (.ireturn, 1) := by decide +kernel
theorem dc_Mod_has_50 : decode prog_10_method_44_code 50 = .ok (.aload_n 0, 1) := by decide +kernel
theorem dc_Mod_has_51 : decode prog_10_method_44_code 51 = .ok (.iload_n 3, 1) := by decide +kernel
theorem dc_Mod_has_52 : decode prog_10_method_44_code 52 = .ok (.invokevirtual 222, 3) := by decide +kernel
theorem dc_Mod_has_55 : decode prog_10_method_44_code 55 = .ok (.aload_n 0, 1) := by decide +kernel
theorem dc_Mod_has_56 : decode prog_10_method_44_code 56 = .ok (.iload_n 2, 1) := by decide +kernel
theorem dc_Mod_has_57 : decode prog_10_method_44_code 57 = .ok (.bipush 8, 2) := by decide +kernel
theorem dc_Mod_has_59 : decode prog_10_method_44_code 59 = .ok (.iconst 0, 1) := by decide +kernel
theorem dc_Mod_has_60 : decode prog_10_method_44_code 60 = .ok (.invokevirtual 212, 3) := by decide +kernel
theorem dc_Mod_has_63 : decode prog_10_method_44_code 63 = .ok (.ireturn, 1) := by decide +kernel
theorem dc_Mod_has_64 : decode prog_10_method_44_code 64 = .ok (.aload_n 0, 1) := by decide +kernel
theorem dc_Mod_has_65 : decode prog_10_method_44_code 65 = .ok (.iload_n 2, 1) := by decide +kernel
theorem dc_Mod_has_66 : decode prog_10_method_44_code 66 = .ok (.invokevirtual 225, 3) := by decide +kernel
theorem dc_Mod_has_69 : decode prog_10_method_44_code 69 = .ok (.iload_n 3, 1) := by decide +kernel
theorem dc_Mod_has_70 : decode prog_10_method_44_code 70 = .ok (.if_icmp .ge 7, 3) := by decide +kernel
theorem dc_Mod_has_73 : decode prog_10_method_44_code 73 = .ok (.iconst 1, 1) := by decide +kernel
theorem dc_Mod_has_74 : decode prog_10_method_44_code 74 = .ok (.goto 4, 3) := by decide +kernel
theorem dc_Mod_has_77 : decode prog_10_method_44_code 77 = .ok (.iconst 0, 1) := by decide +kernel
theorem dc_Mod_has_78 : decode prog_10_method_44_code 78 = .ok (.ireturn, 1) := by decide +kernel
theorem dc_Mod_has_79 : decode prog_10_method_44_code 79 = .ok (.aload_n 0, 1) := by decide +kernel
theorem dc_Mod_has_80 : decode prog_10_method_44_code 80 = .ok (.iload_n 2, 1) := by decide +kernel
theorem dc_Mod_has_81 : decode prog_10_method_44_code 81 = .ok (.invokevirtual 225, 3) := by decide +kernel
theorem dc_Mod_has_84 : decode prog_10_method_44_code 84 = .ok (.iload_n 3, 1) := by decide +kernel
theorem dc_Mod_has_85 : decode prog_10_method_44_code 85 = .ok (.if_icmp .ne 7, 3) := by decide +kernel
theorem dc_Mod_has_88 : decode prog_10_method_44_code 88 = .ok (.iconst 1, 1) := by decide +kernel
theorem dc_Mod_has_89 : decode prog_10_method_44_code 89 = .ok (.goto 4, 3) := by decide +kernel
theorem dc_Mod_has_92 : decode prog_10_method_44_code 92 = .ok (.iconst 0, 1) := by decide +kernel
theorem dc_Mod_has_93 : decode prog_10_method_44_code 93 = .ok (.ireturn, 1) := by decide +kernel
theorem dc_Mod_has_94 : decode prog_10_method_44_code 94 = .ok (.aload_n 0, 1) := by decide +kernel
theorem dc_Mod_has_95 : decode prog_10_method_44_code 95 = .ok (.getfield 241, 3) := by decide +kernel
theorem dc_Mod_has_98 : decode prog_10_method_44_code 98 = .ok (.iload_n 2, 1) := by decide +kernel
theorem dc_Mod_has_99 : decode prog_10_method_44_code 99 = .ok (.if_icmp .lt 15, 3) := by decide +kernel
theorem dc_Mod_has_102 : decode prog_10_method_44_code 102 = .ok (.aload_n 0, 1) := by decide +kernel
theorem dc_Mod_has_103 : decode prog_10_method_44_code 103 = .ok (.getfield 241, 3) := by decide +kernel
theorem dc_Mod_has_106 : decode prog_10_method_44_code 106 = .ok (.iload_n 3, 1) := by decide +kernel
theorem dc_Mod_has_107 : decode prog_10_method_44_code 107 = .ok (.if_icmp .gt 7, 3) := by decide +kernel
theorem dc_Mod_has_110 : decode prog_10_method_44_code 110 = .ok (.iconst 1, 1) := by decide +kernel
theorem dc_Mod_has_111 : decode prog_10_method_44_code 111 = .ok (.goto 4, 3) := by decide +kernel
theorem dc_Mod_has_114 : decode prog_10_method_44_code 114 = .ok (.iconst 0, 1) := by decide +kernel
theorem dc_Mod_has_115 : decode prog_10_method_44_code 115 = .ok (.ireturn, 1) := by decide +kernel
theorem dc_Mod_has_116 : decode prog_10_method_44_code 116 = .ok (.aload_n 0, 1) := by decide +kernel
theorem dc_Mod_has_117 : decode prog_10_method_44_code 117 = .ok (.getfield 178, 3) := by decide +kernel
theorem dc_Mod_has_120 : decode prog_10_method_44_code 120 = .ok (.iload_n 2, 1) := by decide +kernel
theorem dc_Mod_has_121 : decode prog_10_method_44_code 121 = .ok (.if_icmp .le 7, 3) := by decide +kernel
theorem dc_Mod_has_124 : decode prog_10_method_44_code 124 = .ok (.iconst 1, 1) := by decide +kernel
theorem dc_Mod_has_125 : decode prog_10_method_44_code 125 = .ok (.goto 4, 3) := by decide +kernel
theorem dc_Mod_has_128 : decode prog_10_method_44_code 128 = .ok (.iconst 0, 1) := by decide +kernel
theorem dc_Mod_has_129 : decode prog_10_method_44_code 129 = .ok (.ireturn, 1) := by decide +kernel
theorem dc_Mod_line_0 : decode prog_10_method_45_code 0 = .ok (.aload_n 0, 1) := by decide +kernel
theorem dc_Mod_line_1 : decode prog_10_method_45_code 1 = .ok (.iconst 0, 1) := by decide +kernel
theorem dc_Mod_line_2 : decode prog_10_method_45_code 2 = .ok (.putfield 99, 3) := by decide +kernel
theorem dc_Mod_line_5 : decode prog_10_method_45_code 5 = .ok (.aload_n 0, 1) := by decide +kernel
theorem dc_Mod_line_6 : decode prog_10_method_45_code 6 = .ok (.iconst 0, 1) := by decide +kernel
theorem dc_Mod_line_7 : decode prog_10_method_45_code 7 = .ok (.iconst 1, 1) := by decide +kernel
theorem dc_Mod_line_8 : decode prog_10_method_45_code 8 = .ok (.invokevirtual 166, 3) := by decide +kernel
theorem dc_Mod_line_11 : decode prog_10_method_45_code 11 = .ok (.aload_n 0, 1) := by decide +kernel
theorem dc_Mod_line_12 : decode prog_10_method_45_code 12 = .ok (.getfield 13, 3) := by decide +kernel
theorem dc_Mod_line_15 : decode prog_10_method_45_code 15 = .ok (.iconst 0, 1) := by decide +kernel
theorem dc_Mod_line_16 : decode prog_10_method_45_code 16 = .ok (.iconst 0, 1) := by decide +kernel
theorem dc_Mod_line_17 : decode prog_10_method_45_code 17 = .ok (.iastore, 1) := by decide +kernel
theorem dc_Mod_line_18 : decode prog_10_method_45_code 18 = .ok (.aload_n 0, 1) := by decide +kernel
theorem dc_Mod_line_19 : decode prog_10_method_45_code 19 = .ok (.dup, 1) := by decide +kernel
theorem dc_Mod_line_20 : decode prog_10_method_45_code 20 = .ok (.getfield 241, 3) := by decide +kernel
theorem dc_Mod_line_23 : decode prog_10_method_45_code 23 = .ok (.iconst 1, 1) := by decide +kernel
theorem dc_Mod_line_24 : decode prog_10_method_45_code 24 = .ok (.iadd, 1) := by decide +kernel
theorem dc_Mod_line_25 : decode prog_10_method_45_code 25 = .ok (.putfield 241, 3) := by decide +kernel
theorem dc_Mod_line_28 : decode prog_10_method_45_code 28 = .ok (.aload_n 0, 1) := by decide +kernel
theorem dc_Mod_line_29 : decode prog_10_method_45_code 29 = .ok (.invokevirtual 215, 3) := by decide +kernel
theorem dc_Mod_line_32 : decode prog_10_method_45_code 32 = .ok (.iconst 0, 1) := by decide +kernel
theorem dc_Mod_line_33 : decode prog_10_method_45_code 33 = .ok (.istore_n 1, 1) := by decide +kernel
theorem dc_Mod_line_34 : decode prog_10_method_45_code 34 = .ok (.iconst 1, 1) := by decide +kernel
theorem dc_Mod_line_35 : decode prog_10_method_45_code 35 = .ok (.istore_n 2, 1) := by decide +kernel
theorem dc_Mod_line_36 : decode prog_10_method_45_code 36 = .ok (.iconst 0, 1) := by decide +kernel
theorem dc_Mod_line_37 : decode prog_10_method_45_code 37 = .ok (.istore_n 3, 1) := by decide +kernel
theorem dc_Mod_line_38 : decode prog_10_method_45_code 38 = .ok (.iload_n 3, 1) := by decide +kernel
theorem dc_Mod_line_39 : decode prog_10_method_45_code 39 = .ok (.aload_n 0, 1) := by decide +kernel
theorem dc_Mod_line_40 : decode prog_10_method_45_code 40 = .ok (.getfield 172, 3) := by decide +kernel
theorem dc_Mod_line_43 : decode prog_10_method_45_code 43 = .ok (.if_icmp .ge 116, 3) := by decide +kernel
theorem dc_Mod_line_46 : decode prog_10_method_45_code 46 = .ok (.iload_n 2, 1) := by decide +kernel
theorem dc_Mod_line_47 : decode prog_10_method_45_code 47 = .ok (.ifCond .eq 112, 3) := by decide +kernel
theorem dc_Mod_line_50 : decode prog_10_method_45_code 50 = .ok (.aload_n 0, 1) := by decide +kernel
theorem dc_Mod_line_51 : decode prog_10_method_45_code 51 = .ok (.aload_n 0, 1) := by decide +kernel
theorem dc_Mod_line_52 : decode prog_10_method_45_code 52 = .ok (.getfield 26, 3) := by decide +kernel
theorem dc_Mod_line_55 : decode prog_10_method_45_code 55 = .ok (.iload_n 3, 1) := by decide +kernel
theorem dc_Mod_line_56 : decode prog_10_method_45_code 56 = .ok (.iaload, 1) := by decide +kernel
theorem dc_Mod_line_57 : decode prog_10_method_45_code 57 = .ok (.aload_n 0, 1) := by decide +kernel
theorem dc_Mod_line_58 : decode prog_10_method_45_code 58 = .ok (.getfield 29, 3) := by decide +kernel
theorem dc_Mod_line_61 : decode prog_10_method_45_code 61 = .ok (.iload_n 3, 1) := by decide +kernel
theorem dc_Mod_line_62 : decode prog_10_method_45_code 62 = .ok (.iaload, 1) := by decide +kernel
theorem dc_Mod_line_63 : decode prog_10_method_45_code 63 = .ok (.aload_n 0, 1) := by decide +kernel
theorem dc_Mod_line_64 : decode prog_10_method_45_code 64 = .ok (.getfield 32, 3) := by decide +kernel
theorem dc_Mod_line_67 : decode prog_10_method_45_code 67 = .ok (.iload_n 3, 1) := by decide +kernel
theorem dc_Mod_line_68 : decode prog_10_method_45_code 68 = .ok (.iaload, 1) := by decide +kernel
theorem dc_Mod_line_69 : decode prog_10_method_45_code 69 = .ok (.invokevirtual 244, 3) := by decide +kernel
theorem dc_Mod_line_72 : decode prog_10_method_45_code 72 = .ok (.ifCond .eq 81, 3) := by decide +kernel
theorem dc_Mod_line_75 : decode prog_10_method_45_code 75 = .ok (.iinc 1 1, 3) := by decide +kernel
theorem dc_Mod_line_78 : decode prog_10_method_45_code 78 = .ok (.bipush 10, 2) := by decide +kernel
theorem dc_Mod_line_80 : decode prog_10_method_45_code 80 = .ok (.iload_n 3, 1) := by decide +kernel
theorem dc_Mod_line_81 : decode prog_10_method_45_code 81 = .ok (.imul, 1) := by decide +kernel
theorem dc_Mod_line_82 : decode prog_10_method_45_code 82 = .ok (.istore 4, 2) := by decide +kernel
theorem dc_Mod_line_84 : decode prog_10_method_45_code 84 = .ok (.iload 4, 2) := by decide +kernel
theorem dc_Mod_line_86 : decode prog_10_method_45_code 86 = .ok (.bipush 10, 2) := by decide +kernel
theorem dc_Mod_line_88 : decode prog_10_method_45_code 88 = .ok (.iload_n 3, 1) := by decide +kernel
theorem dc_Mod_line_89 : decode prog_10_method_45_code 89 = .ok (.imul, 1) := by decide +kernel
theorem dc_Mod_line_90 : decode prog_10_method_45_code 90 = .ok (.aload_n 0, 1) := by decide +kernel
theorem dc_Mod_line_91 : decode prog_10_method_45_code 91 = .ok (.getfield 35, 3) := by decide +kernel
theorem dc_Mod_line_94 : decode prog_10_method_45_code 94 = .ok (.iload_n 3, 1) := by decide +kernel
theorem dc_Mod_line_95 : decode prog_10_method_45_code 95 = .ok (.iaload, 1) := by decide +kernel
theorem dc_Mod_line_96 : decode prog_10_method_45_code 96 = .ok (.iadd, 1) := by decide +kernel
theorem dc_Mod_line_97 : decode prog_10_method_45_code 97 = .ok (.if_icmp .ge 56, 3) := by decide +kernel
theorem dc_Mod_line_100 : decode prog_10_method_45_code 100 = .ok (.aload_n 0, 1) := by decide +kernel
theorem dc_Mod_line_101 : decode prog_10_method_45_code 101 = .ok (.aload_n 0, 1) := by decide +kernel
theorem dc_Mod_line_102 : decode prog_10_method_45_code 102 = .ok (.getfield 38, 3) := by decide +kernel
theorem dc_Mod_line_105 : decode prog_10_method_45_code 105 = .ok (.iload 4, 2) := by decide +kernel
theorem dc_Mod_line_107 : decode prog_10_method_45_code 107 = .ok (.iaload, 1) := by decide +kernel
theorem dc_Mod_line_108 : decode prog_10_method_45_code 108 = .ok (.aload_n 0, 1) := by decide +kernel
theorem dc_Mod_line_109 : decode prog_10_method_45_code 109 = .ok (.getfield 41, 3) := by decide +kernel
theorem dc_Mod_line_112 : decode prog_10_method_45_code 112 = .ok (.iload 4, 2) := by decide +kernel
theorem dc_Mod_line_114 : decode prog_10_method_45_code 114 = .ok (.iaload, 1) := by decide +kernel
theorem dc_Mod_line_115 : decode prog_10_method_45_code 115 = .ok (.aload_n 0, 1) := by decide +kernel
theorem dc_Mod_line_116 : decode prog_10_method_45_code 116 = .ok (.getfield 44, 3) := by decide +kernel
theorem dc_Mod_line_119 : decode prog_10_method_45_code 119 = .ok (.iload 4, 2) := by decide +kernel
theorem dc_Mod_line_121 : decode prog_10_method_45_code 121 = .ok (.iaload, 1) := by decide +kernel
theorem dc_Mod_line_122 : decode prog_10_method_45_code 122 = .ok (.invokevirtual 247, 3) := by decide +kernel
theorem dc_Mod_line_125 : decode prog_10_method_45_code 125 = .ok (.iload_n 2, 1) := by decide +kernel
theorem dc_Mod_line_126 : decode prog_10_method_45_code 126 = .ok (.ifCond .eq 19, 3) := by decide +kernel
theorem dc_Mod_line_129 : decode prog_10_method_45_code 129 = .ok (.aload_n 0, 1) := by decide +kernel
theorem dc_Mod_line_130 : decode prog_10_method_45_code 130 = .ok (.getfield 38, 3) := by decide +kernel
theorem dc_Mod_line_133 : decode prog_10_method_45_code 133 = .ok (.iload 4, 2) := by decide +kernel
theorem dc_Mod_line_135 : decode prog_10_method_45_code 135 = .ok (.iaload, 1) := by decide +kernel
theorem dc_Mod_line_136 : decode prog_10_method_45_code 136 = .ok (.bipush 10, 2) := by decide +kernel
theorem dc_Mod_line_138 : decode prog_10_method_45_code 138 = .ok (.if_icmp .eq 7, 3) := by decide +kernel
theorem dc_Mod_line_141 : decode prog_10_method_45_code 141 = .ok (.iconst 1, 1) := by decide +kernel
theorem dc_Mod_line_142 : decode prog_10_method_45_code 142 = .ok (.goto 4, 3) := by decide +kernel
theorem dc_Mod_line_145 : decode prog_10_method_45_code 145 = .ok (.iconst 0, 1) := by decide +kernel
theorem dc_Mod_line_146 : decode prog_10_method_45_code 146 = .ok (.istore_n 2, 1) := by decide +kernel
theorem dc_Mod_line_147 : decode prog_10_method_45_code 147 = .ok (.iinc 4 1, 3) := by decide +kernel
theorem dc_Mod_line_150 : decode prog_10_method_45_code 150 = .ok (.goto (-66), 3) := by decide +kernel
theorem dc_Mod_line_153 : decode prog_10_method_45_code 153 = .ok (.iinc 3 1, 3) := by decide +kernel
theorem dc_Mod_line_156 : decode prog_10_method_45_code 156 = .ok (.goto (-118), 3) := by decide +kernel
theorem dc_Mod_line_159 : decode prog_10_method_45_code 159 = .ok (.iload_n 1, 1) := by decide +kernel
theorem dc_Mod_line_160 : decode prog_10_method_45_code 160 = .ok (.ireturn, 1) := by decide +kernel
theorem dc_Mod_find_0 : decode prog_10_method_46_code 0 = .ok (.aload_n 0, 1) := by decide +kernel
theorem dc_Mod_find_1 : decode prog_10_method_46_code 1 = .ok (.iload_n 1, 1) := by decide +kernel
theorem dc_Mod_find_2 : decode prog_10_method_46_code 2 = .ok (.iconst 0, 1) := by decide +kernel
theorem dc_Mod_find_3 : decode prog_10_method_46_code 3 = .ok (.iconst 5, 1) := by decide +kernel
theorem dc_Mod_find_4 : decode prog_10_method_46_code 4 = .ok (.invokestatic 142, 3) := by decide +kernel
theorem dc_Mod_find_7 : decode prog_10_method_46_code 7 = .ok (.ifCond .eq 21, 3) := by decide +kernel
theorem dc_Mod_find_10 : decode prog_10_method_46_code 10 = .ok (.iload_n 2, 1) := by decide +kernel
theorem dc_Mod_find_11 : decode prog_10_method_46_code 11 = .ok (.ifCond .lt 17, 3) := by decide +kernel
theorem dc_Mod_find_14 : decode prog_10_method_46_code 14 = .ok (.iload_n 2, 1) := by decide +kernel
theorem dc_Mod_find_15 : decode prog_10_method_46_code 15 = .ok (.aload_n 0, 1) := by decide +kernel
theorem dc_Mod_find_16 : decode prog_10_method_46_code 16 = .ok (.getfield 13, 3) := by decide +kernel
theorem dc_Mod_find_19 : decode prog_10_method_46_code 19 = .ok (.iconst 0, 1) := by decide +kernel
theorem dc_Mod_find_20 : decode prog_10_method_46_code 20 = .ok (.iaload, 1) := by decide +kernel
theorem dc_Mod_find_21 : decode prog_10_method_46_code 21 = .ok (.if_icmp .gt 7, 3) := by decide +kernel
theorem dc_Mod_find_24 : decode prog_10_method_46_code 24 = .ok (.iconst 1, 1) := by decide +kernel
theorem dc_Mod_find_25 : decode prog_10_method_46_code 25 = .ok (.goto 4, 3) := by decide +kernel
theorem dc_Mod_find_28 : decode prog_10_method_46_code 28 = .ok (.iconst 0, 1) := by decide +kernel
theorem dc_Mod_find_29 : decode prog_10_method_46_code 29 = .ok (.iconst 1, 1) := by decide +kernel
theorem dc_Mod_find_30 : decode prog_10_method_46_code 30 = .ok (.invokevirtual 106, 3) := by decide +kernel
theorem dc_Mod_find_33 : decode prog_10_method_46_code 33 = .ok (.ifCond .ne 5, 3) := by decide +kernel
theorem dc_Mod_find_36 : decode prog_10_method_46_code 36 = .ok (.iconst 0, 1) := by decide +kernel
theorem dc_Mod_find_37 : decode prog_10_method_46_code 37 = .ok (.ireturn, 1) := by decide +kernel
theorem dc_Mod_find_38 : decode prog_10_method_46_code 38 = .ok (.aload_n 0, 1) := by decide +kernel
theorem dc_Mod_find_39 : decode prog_10_method_46_code 39 = .ok (.iload_n 1, 1) := by decide +kernel
theorem dc_Mod_find_40 : decode prog_10_method_46_code 40 = .ok (.iconst 0, 1) := by decide +kernel
theorem dc_Mod_find_41 : decode prog_10_method_46_code 41 = .ok (.iload_n 2, 1) := by decide +kernel
theorem dc_Mod_find_42 : decode prog_10_method_46_code 42 = .ok (.invokevirtual 212, 3) := by decide +kernel
theorem dc_Mod_find_45 : decode prog_10_method_46_code 45 = .ok (.istore_n 3, 1) := by decide +kernel
theorem dc_Mod_find_46 : decode prog_10_method_46_code 46 = .ok (.aload_n 0, 1) := by decide +kernel
theorem dc_Mod_find_47 : decode prog_10_method_46_code 47 = .ok (.iload_n 3, 1) := by decide +kernel
theorem dc_Mod_find_48 : decode prog_10_method_46_code 48 = .ok (.ifCond .eq 10, 3) := by decide +kernel
theorem dc_Mod_find_51 : decode prog_10_method_46_code 51 = .ok (.aload_n 0, 1) := by decide +kernel
theorem dc_Mod_find_52 : decode prog_10_method_46_code 52 = .ok (.getfield 163, 3) := by decide +kernel
theorem dc_Mod_find_55 : decode prog_10_method_46_code 55 = .ok (.goto 4, 3) := by decide +kernel
theorem dc_Mod_find_58 : decode prog_10_method_46_code 58 = .ok (.iconst (-1), 1) := by decide +kernel
theorem dc_Mod_find_59 : decode prog_10_method_46_code 59 = .ok (.putfield 68, 3) := by decide +kernel
theorem dc_Mod_find_62 : decode prog_10_method_46_code 62 = .ok (.iload_n 3, 1) := by decide +kernel
theorem dc_Mod_find_63 : decode prog_10_method_46_code 63 = .ok (.ifCond .eq 10, 3) := by decide +kernel
theorem dc_Mod_find_66 : decode prog_10_method_46_code 66 = .ok (.aload_n 0, 1) := by decide +kernel
theorem dc_Mod_find_67 : decode prog_10_method_46_code 67 = .ok (.getfield 160, 3) := by decide +kernel
theorem dc_Mod_find_70 : decode prog_10_method_46_code 70 = .ok (.goto 4, 3) := by decide +kernel
theorem dc_Mod_find_73 : decode prog_10_method_46_code 73 = .ok (.iconst (-1), 1) := by decide +kernel
theorem dc_Mod_find_74 : decode prog_10_method_46_code 74 = .ok (.ireturn, 1) := by decide +kernel
theorem dc_Mod_end_0 : decode prog_10_method_47_code 0 = .ok (.aload_n 0, 1) := by decide +kernel
theorem dc_Mod_end_1 : decode prog_10_method_47_code 1 = .ok (.iconst 0, 1) := by decide +kernel
theorem dc_Mod_end_2 : decode prog_10_method_47_code 2 = .ok (.putfield 99, 3) := by decide +kernel
theorem dc_Mod_end_5 : decode prog_10_method_47_code 5 = .ok (.aload_n 0, 1) := by decide +kernel
theorem dc_Mod_end_6 : decode prog_10_method_47_code 6 = .ok (.getfield 68, 3) := by decide +kernel
theorem dc_Mod_end_9 : decode prog_10_method_47_code 9 = .ok (.ireturn, 1) := by decide +kernel
theorem dc_Mod_sign_0 : decode prog_10_method_48_code 0 = .ok (.iload_n 1, 1) := by decide +kernel
theorem dc_Mod_sign_1 : decode prog_10_method_48_code 1 = .ok (.ifCond .ne 12, 3) := by decide +kernel
theorem dc_Mod_sign_4 : decode prog_10_method_48_code 4 = .ok (.aload_n 0, 1) := by decide +kernel
theorem dc_Mod_sign_5 : decode prog_10_method_48_code 5 = .ok (.getfield 13, 3) := by decide +kernel
theorem dc_Mod_sign_8 : decode prog_10_method_48_code 8 = .ok (.iconst 1, 1) := by decide +kernel
theorem dc_Mod_sign_9 : decode prog_10_method_48_code 9 = .ok (.iaload, 1) := by decide +kernel
theorem dc_Mod_sign_10 : decode prog_10_method_48_code 10 = .ok (.goto 25, 3) := by decide +kernel
theorem dc_Mod_sign_13 : decode prog_10_method_48_code 13 = .ok (.iload_n 1, 1) := by decide +kernel
theorem dc_Mod_sign_14 : decode prog_10_method_48_code 14 = .ok (.iconst 1, 1) := by decide +kernel
theorem dc_Mod_sign_15 : decode prog_10_method_48_code 15 = .ok (.if_icmp .lt 19, 3) := by decide +kernel
theorem dc_Mod_sign_18 : decode prog_10_method_48_code 18 = .ok (.iload_n 1, 1) := by decide +kernel
theorem dc_Mod_sign_19 : decode prog_10_method_48_code 19 = .ok (.aload_n 0, 1) := by decide +kernel
theorem dc_Mod_sign_20 : decode prog_10_method_48_code 20 = .ok (.getfield 178, 3) := by decide +kernel
theorem dc_Mod_sign_23 : decode prog_10_method_48_code 23 = .ok (.if_icmp .gt 11, 3) := by decide +kernel
theorem dc_Mod_sign_26 : decode prog_10_method_48_code 26 = .ok (.aload_n 0, 1) := by decide +kernel
theorem dc_Mod_sign_27 : decode prog_10_method_48_code 27 = .ok (.iload_n 1, 1) := by decide +kernel
theorem dc_Mod_sign_28 : decode prog_10_method_48_code 28 = .ok (.invokevirtual 184, 3) := by decide +kernel
theorem dc_Mod_sign_31 : decode prog_10_method_48_code 31 = .ok (.goto 4, 3) := by decide +kernel
theorem dc_Mod_sign_34 : decode prog_10_method_48_code 34 = .ok (.iconst (-1), 1) := by decide +kernel
theorem dc_Mod_sign_35 : decode prog_10_method_48_code 35 = .ok (.istore_n 3, 1) := by decide +kernel
theorem dc_Mod_sign_36 : decode prog_10_method_48_code 36 = .ok (.aload_n 0, 1) := by decide +kernel
theorem dc_Mod_sign_37 : decode prog_10_method_48_code 37 = .ok (.iload_n 3, 1) := by decide +kernel
theorem dc_Mod_sign_38 : decode prog_10_method_48_code 38 = .ok (.iconst (-1), 1) := by decide +kernel
theorem dc_Mod_sign_39 : decode prog_10_method_48_code 39 = .ok (.if_icmp .eq 17, 3) := by decide +kernel
theorem dc_Mod_sign_42 : decode prog_10_method_48_code 42 = .ok (.iload_n 2, 1) := by decide +kernel
theorem dc_Mod_sign_43 : decode prog_10_method_48_code 43 = .ok (.iconst (-1), 1) := by decide +kernel
theorem dc_Mod_sign_44 : decode prog_10_method_48_code 44 = .ok (.if_icmp .lt 12, 3) := by decide +kernel
theorem dc_Mod_sign_47 : decode prog_10_method_48_code 47 = .ok (.iload_n 2, 1) := by decide +kernel
theorem dc_Mod_sign_48 : decode prog_10_method_48_code 48 = .ok (.iload_n 3, 1) := by decide +kernel
theorem dc_Mod_sign_49 : decode prog_10_method_48_code 49 = .ok (.if_icmp .ge 7, 3) := by decide +kernel
theorem dc_Mod_sign_52 : decode prog_10_method_48_code 52 = .ok (.iconst 1, 1) := by decide +kernel
theorem dc_Mod_sign_53 : decode prog_10_method_48_code 53 = .ok (.goto 4, 3) := by decide +kernel
theorem dc_Mod_sign_56 : decode prog_10_method_48_code 56 = .ok (.iconst 0, 1) := by decide +kernel
theorem dc_Mod_sign_57 : decode prog_10_method_48_code 57 = .ok (.iconst 1, 1) := by decide +kernel
theorem dc_Mod_sign_58 : decode prog_10_method_48_code 58 = .ok (.invokevirtual 106, 3) := by decide +kernel
theorem dc_Mod_sign_61 : decode prog_10_method_48_code 61 = .ok (.ifCond .ne 5, 3) := by decide +kernel
theorem dc_Mod_sign_64 : decode prog_10_method_48_code 64 = .ok (.iconst 0, 1) := by decide +kernel
theorem dc_Mod_sign_65 : decode prog_10_method_48_code 65 = .ok (.ireturn, 1) := by decide +kernel
theorem dc_Mod_sign_66 : decode prog_10_method_48_code 66 = .ok (.iload_n 2, 1) := by decide +kernel
theorem dc_Mod_sign_67 : decode prog_10_method_48_code 67 = .ok (.iconst (-1), 1) := by decide +kernel
theorem dc_Mod_sign_68 : decode prog_10_method_48_code 68 = .ok (.if_icmp .ne 7, 3) := by decide +kernel
theorem dc_Mod_sign_71 : decode prog_10_method_48_code 71 = .ok (.iload_n 3, 1) := by decide +kernel
theorem dc_Mod_sign_72 : decode prog_10_method_48_code 72 = .ok (.goto 25, 3) := by decide +kernel
theorem dc_Mod_sign_75 : decode prog_10_method_48_code 75 = .ok (.iload_n 1, 1) := by decide +kernel
theorem dc_Mod_sign_76 : decode prog_10_method_48_code 76 = .ok (.ifCond .ne 15, 3) := by decide +kernel
theorem dc_Mod_sign_79 : decode prog_10_method_48_code 79 = .ok (.aload_n 0, 1) := by decide +kernel
theorem dc_Mod_sign_80 : decode prog_10_method_48_code 80 = .ok (.getfield 7, 3) := by decide +kernel
theorem dc_Mod_sign_83 : decode prog_10_method_48_code 83 = .ok (.bipush 120, 2) := by decide +kernel
theorem dc_Mod_sign_85 : decode prog_10_method_48_code 85 = .ok (.iload_n 2, 1) := by decide +kernel
theorem dc_Mod_sign_86 : decode prog_10_method_48_code 86 = .ok (.iadd, 1) := by decide +kernel
theorem dc_Mod_sign_87 : decode prog_10_method_48_code 87 = .ok (.iaload, 1) := by decide +kernel
theorem dc_Mod_sign_88 : decode prog_10_method_48_code 88 = .ok (.goto 9, 3) := by decide +kernel
theorem dc_Mod_sign_91 : decode prog_10_method_48_code 91 = .ok (.aload_n 0, 1) := by decide +kernel
theorem dc_Mod_sign_92 : decode prog_10_method_48_code 92 = .ok (.iload_n 1, 1) := by decide +kernel
theorem dc_Mod_sign_93 : decode prog_10_method_48_code 93 = .ok (.iload_n 2, 1) := by decide +kernel
theorem dc_Mod_sign_94 : decode prog_10_method_48_code 94 = .ok (.invokevirtual 187, 3) := by decide +kernel
theorem dc_Mod_sign_97 : decode prog_10_method_48_code 97 = .ok (.ireturn, 1) := by decide +kernel
theorem dc_Mod_printed_0 : decode prog_10_method_49_code 0 = .ok (.aload_n 0, 1) := by decide +kernel
theorem dc_Mod_printed_1 : decode prog_10_method_49_code 1 = .ok (.iload_n 1, 1) := by decide +kernel
theorem dc_Mod_printed_2 : decode prog_10_method_49_code 2 = .ok (.ifCond .lt 27, 3) := by decide +kernel
theorem dc_Mod_printed_5 : decode prog_10_method_49_code 5 = .ok (.iload_n 1, 1) := by decide +kernel
theorem dc_Mod_printed_6 : decode prog_10_method_49_code 6 = .ok (.aload_n 0, 1) := by decide +kernel
theorem dc_Mod_printed_7 : decode prog_10_method_49_code 7 = .ok (.getfield 190, 3) := by decide +kernel
theorem dc_Mod_printed_10 : decode prog_10_method_49_code 10 = .ok (.if_icmp .ge 19, 3) := by decide +kernel
theorem dc_Mod_printed_13 : decode prog_10_method_49_code 13 = .ok (.iload_n 1, 1) := by decide +kernel
theorem dc_Mod_printed_14 : decode prog_10_method_49_code 14 = .ok (.aload_n 0, 1) := by decide +kernel
theorem dc_Mod_printed_15 : decode prog_10_method_49_code 15 = .ok (.getfield 190, 3) := by decide +kernel
theorem dc_Mod_printed_18 : decode prog_10_method_49_code 18 = .ok (.sipush 1500, 3) := by decide +kernel
theorem dc_Mod_printed_21 : decode prog_10_method_49_code 21 = .ok (.isub, 1) := by decide +kernel
theorem dc_Mod_printed_22 : decode prog_10_method_49_code 22 = .ok (.if_icmp .lt 7, 3) := by decide +kernel
theorem dc_Mod_printed_25 : decode prog_10_method_49_code 25 = .ok (.iconst 1, 1) := by decide +kernel
theorem dc_Mod_printed_26 : decode prog_10_method_49_code 26 = .ok (.goto 4, 3) := by decide +kernel
theorem dc_Mod_printed_29 : decode prog_10_method_49_code 29 = .ok (.iconst 0, 1) := by decide +kernel
theorem dc_Mod_printed_30 : decode prog_10_method_49_code 30 = .ok (.iconst 1, 1) := by decide +kernel
theorem dc_Mod_printed_31 : decode prog_10_method_49_code 31 = .ok (.invokevirtual 106, 3) := by decide +kernel
theorem dc_Mod_printed_34 : decode prog_10_method_49_code 34 = .ok (.ifCond .eq 16, 3) := by decide +kernel
theorem dc_Mod_printed_37 : decode prog_10_method_49_code 37 = .ok (.aload_n 0, 1) := by decide +kernel
theorem dc_Mod_printed_38 : decode prog_10_method_49_code 38 = .ok (.getfield 65, 3) := by decide +kernel
theorem dc_Mod_printed_41 : decode prog_10_method_49_code 41 = .ok (.iload_n 1, 1) := by decide +kernel
theorem dc_Mod_printed_42 : decode prog_10_method_49_code 42 = .ok (.sipush 1500, 3) := by decide +kernel
theorem dc_Mod_printed_45 : decode prog_10_method_49_code 45 = .ok (.irem, 1) := by decide +kernel
theorem dc_Mod_printed_46 : decode prog_10_method_49_code 46 = .ok (.iaload, 1) := by decide +kernel
theorem dc_Mod_printed_47 : decode prog_10_method_49_code 47 = .ok (.goto 4, 3) := by decide +kernel
theorem dc_Mod_printed_50 : decode prog_10_method_49_code 50 = .ok (.iconst 0, 1) := by decide +kernel
theorem dc_Mod_printed_51 : decode prog_10_method_49_code 51 = .ok (.ireturn, 1) := by decide +kernel
theorem dc_Mod_counter_0 : decode prog_10_method_50_code 0 = .ok (.aload_n 0, 1) := by decide +kernel
theorem dc_Mod_counter_1 : decode prog_10_method_50_code 1 = .ok (.iload_n 1, 1) := by decide +kernel
theorem dc_Mod_counter_2 : decode prog_10_method_50_code 2 = .ok (.iconst 0, 1) := by decide +kernel
theorem dc_Mod_counter_3 : decode prog_10_method_50_code 3 = .ok (.bipush 7, 2) := by decide +kernel
theorem dc_Mod_counter_5 : decode prog_10_method_50_code 5 = .ok (.invokestatic 142, 3) := by decide +kernel
theorem dc_Mod_counter_8 : decode prog_10_method_50_code 8 = .ok (.iconst 1, 1) := by decide +kernel
theorem dc_Mod_counter_9 : decode prog_10_method_50_code 9 = .ok (.invokevirtual 106, 3) := by decide +kernel
theorem dc_Mod_counter_12 : decode prog_10_method_50_code 12 = .ok (.ifCond .eq 12, 3) := by decide +kernel
theorem dc_Mod_counter_15 : decode prog_10_method_50_code 15 = .ok (.aload_n 0, 1) := by decide +kernel
theorem dc_Mod_counter_16 : decode prog_10_method_50_code 16 = .ok (.getfield 53, 3) := by decide +kernel
theorem dc_Mod_counter_19 : decode prog_10_method_50_code 19 = .ok (.iload_n 1, 1) := by decide +kernel
theorem dc_Mod_counter_20 : decode prog_10_method_50_code 20 = .ok (.iaload, 1) := by decide +kernel
theorem dc_Mod_counter_21 : decode prog_10_method_50_code 21 = .ok (.goto 4, 3) := by decide +kernel
theorem dc_Mod_counter_24 : decode prog_10_method_50_code 24 = .ok (.iconst 0, 1) := by decide +kernel
theorem dc_Mod_counter_25 : decode prog_10_method_50_code 25 = .ok (.ireturn, 1) := by decide +kernel
theorem dc_Mod_key_0 : decode prog_10_method_51_code 0 = .ok (.iload_n 1, 1) := by decide +kernel
theorem dc_Mod_key_1 : decode prog_10_method_51_code 1 = .ok (.ifCond .lt 21, 3) := by decide +kernel
theorem dc_Mod_key_4 : decode prog_10_method_51_code 4 = .ok (.iload_n 1, 1) := by decide +kernel
theorem dc_Mod_key_5 : decode prog_10_method_51_code 5 = .ok (.aload_n 0, 1) := by decide +kernel
theorem dc_Mod_key_6 : decode prog_10_method_51_code 6 = .ok (.getfield 200, 3) := by decide +kernel
theorem dc_Mod_key_9 : decode prog_10_method_51_code 9 = .ok (.if_icmp .ge 13, 3) := by decide +kernel
theorem dc_Mod_key_12 : decode prog_10_method_51_code 12 = .ok (.iload_n 2, 1) := by decide +kernel
theorem dc_Mod_key_13 : decode prog_10_method_51_code 13 = .ok (.bipush (-2), 2) := by decide +kernel
theorem dc_Mod_key_15 : decode prog_10_method_51_code 15 = .ok (.if_icmp .lt 7, 3) := by decide +kernel
theorem dc_Mod_key_18 : decode prog_10_method_51_code 18 = .ok (.iconst 1, 1) := by decide +kernel
theorem dc_Mod_key_19 : decode prog_10_method_51_code 19 = .ok (.goto 4, 3) := by decide +kernel
theorem dc_Mod_key_22 : decode prog_10_method_51_code 22 = .ok (.iconst 0, 1) := by decide +kernel
theorem dc_Mod_key_23 : decode prog_10_method_51_code 23 = .ok (.istore_n 3, 1) := by decide +kernel
theorem dc_Mod_key_24 : decode prog_10_method_51_code 24 = .ok (.aload_n 0, 1) := by decide +kernel
theorem dc_Mod_key_25 : decode prog_10_method_51_code 25 = .ok (.iload_n 3, 1) := by decide +kernel
theorem dc_Mod_key_26 : decode prog_10_method_51_code 26 = .ok (.ifCond .eq 17, 3) := by decide +kernel
theorem dc_Mod_key_29 : decode prog_10_method_51_code 29 = .ok (.iload_n 2, 1) := by decide +kernel
theorem dc_Mod_key_30 : decode prog_10_method_51_code 30 = .ok (.aload_n 0, 1) := by decide +kernel
theorem dc_Mod_key_31 : decode prog_10_method_51_code 31 = .ok (.getfield 59, 3) := by decide +kernel
theorem dc_Mod_key_34 : decode prog_10_method_51_code 34 = .ok (.iload_n 1, 1) := by decide +kernel
theorem dc_Mod_key_35 : decode prog_10_method_51_code 35 = .ok (.iaload, 1) := by decide +kernel
theorem dc_Mod_key_36 : decode prog_10_method_51_code 36 = .ok (.if_icmp .ge 7, 3) := by decide +kernel
theorem dc_Mod_key_39 : decode prog_10_method_51_code 39 = .ok (.iconst 1, 1) := by decide +kernel
theorem dc_Mod_key_40 : decode prog_10_method_51_code 40 = .ok (.goto 4, 3) := by decide +kernel
theorem dc_Mod_key_43 : decode prog_10_method_51_code 43 = .ok (.iconst 0, 1) := by decide +kernel
theorem dc_Mod_key_44 : decode prog_10_method_51_code 44 = .ok (.iconst 1, 1) := by decide +kernel
theorem dc_Mod_key_45 : decode prog_10_method_51_code 45 = .ok (.invokevirtual 106, 3) := by decide +kernel
theorem dc_Mod_key_48 : decode prog_10_method_51_code 48 = .ok (.ifCond .ne 5, 3) := by decide +kernel
theorem dc_Mod_key_51 : decode prog_10_method_51_code 51 = .ok (.iconst 0, 1) := by decide +kernel
theorem dc_Mod_key_52 : decode prog_10_method_51_code 52 = .ok (.ireturn, 1) := by decide +kernel
theorem dc_Mod_key_53 : decode prog_10_method_51_code 53 = .ok (.iload_n 2, 1) := by decide +kernel
theorem dc_Mod_key_54 : decode prog_10_method_51_code 54 = .ok (.bipush (-2), 2) := by decide +kernel
theorem dc_Mod_key_56 : decode prog_10_method_51_code 56 = .ok (.if_icmp .ne 12, 3) := by decide +kernel
theorem dc_Mod_key_59 : decode prog_10_method_51_code 59 = .ok (.aload_n 0, 1) := by decide +kernel
theorem dc_Mod_key_60 : decode prog_10_method_51_code 60 = .ok (.getfield 62, 3) := by decide +kernel
theorem dc_Mod_key_63 : decode prog_10_method_51_code 63 = .ok (.iload_n 1, 1) := by decide +kernel
theorem dc_Mod_key_64 : decode prog_10_method_51_code 64 = .ok (.iaload, 1) := by decide +kernel
theorem dc_Mod_key_65 : decode prog_10_method_51_code 65 = .ok (.goto 28, 3) := by decide +kernel
theorem dc_Mod_key_68 : decode prog_10_method_51_code 68 = .ok (.iload_n 2, 1) := by decide +kernel
theorem dc_Mod_key_69 : decode prog_10_method_51_code 69 = .ok (.iconst (-1), 1) := by decide +kernel
theorem dc_Mod_key_70 : decode prog_10_method_51_code 70 = .ok (.if_icmp .ne 12, 3) := by decide +kernel
theorem dc_Mod_key_73 : decode prog_10_method_51_code 73 = .ok (.aload_n 0, 1) := by decide +kernel
theorem dc_Mod_key_74 : decode prog_10_method_51_code 74 = .ok (.getfield 59, 3) := by decide +kernel
theorem dc_Mod_key_77 : decode prog_10_method_51_code 77 = .ok (.iload_n 1, 1) := by decide +kernel
theorem dc_Mod_key_78 : decode prog_10_method_51_code 78 = .ok (.iaload, 1) := by decide +kernel
theorem dc_Mod_key_79 : decode prog_10_method_51_code 79 = .ok (.goto 14, 3) := by decide +kernel
theorem dc_Mod_key_82 : decode prog_10_method_51_code 82 = .ok (.aload_n 0, 1) := by decide +kernel
theorem dc_Mod_key_83 : decode prog_10_method_51_code 83 = .ok (.getfield 56, 3) := by decide +kernel
theorem dc_Mod_key_86 : decode prog_10_method_51_code 86 = .ok (.bipush 120, 2) := by decide +kernel
theorem dc_Mod_key_88 : decode prog_10_method_51_code 88 = .ok (.iload_n 1, 1) := by decide +kernel
theorem dc_Mod_key_89 : decode prog_10_method_51_code 89 = .ok (.imul, 1) := by decide +kernel
theorem dc_Mod_key_90 : decode prog_10_method_51_code 90 = .ok (.iload_n 2, 1) := by decide +kernel
theorem dc_Mod_key_91 : decode prog_10_method_51_code 91 = .ok (.iadd, 1) := by decide +kernel
theorem dc_Mod_key_92 : decode prog_10_method_51_code 92 = .ok (.iaload, 1) := by decide +kernel
theorem dc_Mod_key_93 : decode prog_10_method_51_code 93 = .ok (.ireturn, 1) := by decide +kernel
theorem dc_Mod_count_0 : decode prog_10_method_52_code 0 = .ok (.aload_n 0, 1) := by decide +kernel
theorem dc_Mod_count_1 : decode prog_10_method_52_code 1 = .ok (.iload_n 1, 1) := by decide +kernel
theorem dc_Mod_count_2 : decode prog_10_method_52_code 2 = .ok (.iconst 0, 1) := by decide +kernel
theorem dc_Mod_count_3 : decode prog_10_method_52_code 3 = .ok (.iconst 5, 1) := by decide +kernel
theorem dc_Mod_count_4 : decode prog_10_method_52_code 4 = .ok (.invokestatic 142, 3) := by decide +kernel
theorem dc_Mod_count_7 : decode prog_10_method_52_code 7 = .ok (.iconst 1, 1) := by decide +kernel
theorem dc_Mod_count_8 : decode prog_10_method_52_code 8 = .ok (.invokevirtual 106, 3) := by decide +kernel
theorem dc_Mod_count_11 : decode prog_10_method_52_code 11 = .ok (.ifCond .ne 5, 3) := by decide +kernel
theorem dc_Mod_count_14 : decode prog_10_method_52_code 14 = .ok (.iconst 0, 1) := by decide +kernel
theorem dc_Mod_count_15 : decode prog_10_method_52_code 15 = .ok (.ireturn, 1) := by decide +kernel
theorem dc_Mod_count_16 : decode prog_10_method_52_code 16 = .ok (.iload_n 1, 1) := by decide +kernel
theorem dc_Mod_count_17 : decode prog_10_method_52_code 17 = .ok (.tableswitch 62 0 4 #[35, 42, 47, 52, 57], 35) := by decide +kernel
theorem dc_Mod_count_52 : decode prog_10_method_52_code 52 = .ok (.aload_n 0, 1) := by decide +kernel
theorem dc_Mod_count_53 : decode prog_10_method_52_code 53 = .ok (.getfield 13, 3) := by decide +kernel
theorem dc_Mod_count_56 : decode prog_10_method_52_code 56 = .ok (.iconst 0, 1) := by decide +kernel
theorem dc_Mod_count_57 : decode prog_10_method_52_code 57 = .ok (.iaload, 1) := by decide +kernel
theorem dc_Mod_count_58 : decode prog_10_method_52_code 58 = .ok (.ireturn, 1) := by decide +kernel
theorem dc_Mod_count_59 : decode prog_10_method_52_code 59 = .ok (.aload_n 0, 1) := by decide +kernel
theorem dc_Mod_count_60 : decode prog_10_method_52_code 60 = .ok (.getfield 172, 3) := by decide +kernel
theorem dc_Mod_count_63 : decode prog_10_method_52_code 63 = .ok (.ireturn, 1) := by decide +kernel
theorem dc_Mod_count_64 : decode prog_10_method_52_code 64 = .ok (.aload_n 0, 1) := by decide +kernel
theorem dc_Mod_count_65 : decode prog_10_method_52_code 65 = .ok (.getfield 241, 3) := by decide +kernel
theorem dc_Mod_count_68 : decode prog_10_method_52_code 68 = .ok (.ireturn, 1) := by decide +kernel
theorem dc_Mod_count_69 : decode prog_10_method_52_code 69 = .ok (.aload_n 0, 1) := by decide +kernel
theorem dc_Mod_count_70 : decode prog_10_method_52_code 70 = .ok (.getfield 178, 3) := by decide +kernel
theorem dc_Mod_count_73 : decode prog_10_method_52_code 73 = .ok (.ireturn, 1) := by decide +kernel
theorem dc_Mod_count_74 : decode prog_10_method_52_code 74 = .ok (.aload_n 0, 1) := by decide +kernel
theorem dc_Mod_count_75 : decode prog_10_method_52_code 75 = .ok (.getfield 190, 3) := by decide +kernel
theorem dc_Mod_count_78 : decode prog_10_method_52_code 78 = .ok (.ireturn, 1) := by decide +kernel
theorem dc_Mod_count_79 : decode prog_10_method_52_code 79 = .ok (.aload_n 0, 1) := by decide +kernel
theorem dc_Mod_count_80 : decode prog_10_method_52_code 80 = .ok (.getfield 200, 3) := by decide +kernel
theorem dc_Mod_count_83 : decode prog_10_method_52_code 83 = .ok (.ireturn, 1) := by decide +kernel
end
section
theorem dc_Law_feed_0 : decode method_3_code 0 = .ok (.aload 6, 2) := by decide +kernel
theorem dc_Law_feed_2 : decode method_3_code 2 = .ok (.iconst 0, 1) := by decide +kernel
theorem dc_Law_feed_3 : decode method_3_code 3 = .ok (.aload_n 0, 1) := by decide +kernel
theorem dc_Law_feed_4 : decode method_3_code 4 = .ok (.iload_n 1, 1) := by decide +kernel
theorem dc_Law_feed_5 : decode method_3_code 5 = .ok (.iload_n 2, 1) := by decide +kernel
theorem dc_Law_feed_6 : decode method_3_code 6 = .ok (.iload_n 3, 1) := by decide +kernel
theorem dc_Law_feed_7 : decode method_3_code 7 = .ok (.iload 4, 2) := by decide +kernel
theorem dc_Law_feed_9 : decode method_3_code 9 = .ok (.iload 5, 2) := by decide +kernel
theorem dc_Law_feed_11 : decode method_3_code 11 = .ok (.invokevirtual 7, 3) := by decide +kernel
theorem dc_Law_feed_14 : decode method_3_code 14 = .ok (.i2l, 1) := by decide +kernel
theorem dc_Law_feed_15 : decode method_3_code 15 = .ok (.lastore, 1) := by decide +kernel
theorem dc_Law_feed_16 : decode method_3_code 16 = .ok (.goto 7, 3) := by decide +kernel
theorem dc_Law_feed_19 : decode method_3_code 19 = .ok (.astore 7, 2) := by decide +kernel
theorem dc_Law_feed_21 : decode method_3_code 21 = .ok (.iconst 1, 1) := by decide +kernel
theorem dc_Law_feed_22 : decode method_3_code 22 = .ok (.ireturn, 1) := by decide +kernel
theorem dc_Law_feed_23 : decode method_3_code 23 = .ok (.iconst 0, 1) := by decide +kernel
theorem dc_Law_feed_24 : decode method_3_code 24 = .ok (.ireturn, 1) := by decide +kernel
theorem dc_Law_expression_0 : decode method_4_code 0 = .ok (.aload_n 2, 1) := by decide +kernel
theorem dc_Law_expression_1 : decode method_4_code 1 = .ok (.iconst 0, 1) := by decide +kernel
theorem dc_Law_expression_2 : decode method_4_code 2 = .ok (.aload_n 0, 1) := by decide +kernel
theorem dc_Law_expression_3 : decode method_4_code 3 = .ok (.iload_n 1, 1) := by decide +kernel
theorem dc_Law_expression_4 : decode method_4_code 4 = .ok (.invokevirtual 15, 3) := by decide +kernel
theorem dc_Law_expression_7 : decode method_4_code 7 = .ok (.i2l, 1) := by decide +kernel
theorem dc_Law_expression_8 : decode method_4_code 8 = .ok (.lastore, 1) := by decide +kernel
theorem dc_Law_expression_9 : decode method_4_code 9 = .ok (.goto 9, 3) := by decide +kernel
theorem dc_Law_expression_12 : decode method_4_code 12 = .ok (.astore_n 3, 1) := by decide +kernel
theorem dc_Law_expression_13 : decode method_4_code 13 = .ok (.iconst 1, 1) := by decide +kernel
theorem dc_Law_expression_14 : decode method_4_code 14 = .ok (.ireturn, 1) := by decide +kernel
theorem dc_Law_expression_15 : decode method_4_code 15 = .ok (.astore_n 3, 1) := by decide +kernel
theorem dc_Law_expression_16 : decode method_4_code 16 = .ok (.iconst 2, 1) := by decide +kernel
theorem dc_Law_expression_17 : decode method_4_code 17 = .ok (.ireturn, 1) := by decide +kernel
theorem dc_Law_expression_18 : decode method_4_code 18 = .ok (.iconst 0, 1) := by decide +kernel
theorem dc_Law_expression_19 : decode method_4_code 19 = .ok (.ireturn, 1) := by decide +kernel
theorem dc_Law_text_0 : decode method_5_code 0 = .ok (.aload_n 2, 1) := by decide +kernel
theorem dc_Law_text_1 : decode method_5_code 1 = .ok (.iconst 0, 1) := by decide +kernel
theorem dc_Law_text_2 : decode method_5_code 2 = .ok (.aload_n 0, 1) := by decide +kernel
theorem dc_Law_text_3 : decode method_5_code 3 = .ok (.iload_n 1, 1) := by decide +kernel
theorem dc_Law_text_4 : decode method_5_code 4 = .ok (.invokevirtual 21, 3) := by decide +kernel
theorem dc_Law_text_7 : decode method_5_code 7 = .ok (.i2l, 1) := by decide +kernel
theorem dc_Law_text_8 : decode method_5_code 8 = .ok (.lastore, 1) := by decide +kernel
theorem dc_Law_text_9 : decode method_5_code 9 = .ok (.goto 6, 3) := by decide +kernel
theorem dc_Law_text_12 : decode method_5_code 12 = .ok (.astore_n 3, 1) := by decide +kernel
theorem dc_Law_text_13 : decode method_5_code 13 = .ok (.iconst 1, 1) := by decide +kernel
theorem dc_Law_text_14 : decode method_5_code 14 = .ok (.ireturn, 1) := by decide +kernel
theorem dc_Law_text_15 : decode method_5_code 15 = .ok (.iconst 0, 1) := by decide +kernel
theorem dc_Law_text_16 : decode method_5_code 16 = .ok (.ireturn, 1) := by decide +kernel
theorem dc_Law_separator_0 : decode method_6_code 0 = .ok (.aload_n 2, 1) := by decide +kernel
theorem dc_Law_separator_1 : decode method_6_code 1 = .ok (.iconst 0, 1) := by decide +kernel
theorem dc_Law_separator_2 : decode method_6_code 2 = .ok (.aload_n 0, 1) := by decide +kernel
theorem dc_Law_separator_3 : decode method_6_code 3 = .ok (.iload_n 1, 1) := by decide +kernel
theorem dc_Law_separator_4 : decode method_6_code 4 = .ok (.invokevirtual 24, 3) := by decide +kernel
theorem dc_Law_separator_7 : decode method_6_code 7 = .ok (.i2l, 1) := by decide +kernel
theorem dc_Law_separator_8 : decode method_6_code 8 = .ok (.lastore, 1) := by decide +kernel
theorem dc_Law_separator_9 : decode method_6_code 9 = .ok (.goto 6, 3) := by decide +kernel
theorem dc_Law_separator_12 : decode method_6_code 12 = .ok (.astore_n 3, 1) := by decide +kernel
theorem dc_Law_separator_13 : decode method_6_code 13 = .ok (.iconst 1, 1) := by decide +kernel
theorem dc_Law_separator_14 : decode method_6_code 14 = .ok (.ireturn, 1) := by decide +kernel
theorem dc_Law_separator_15 : decode method_6_code 15 = .ok (.iconst 0, 1) := by decide +kernel
theorem dc_Law_separator_16 : decode method_6_code 16 = .ok (.ireturn, 1) := by decide +kernel
theorem dc_Law_rule_0 : decode method_7_code 0 = .ok (.aload 4, 2) := by decide +kernel
theorem dc_Law_rule_2 : decode method_7_code 2 = .ok (.iconst 0, 1) := by decide +kernel
theorem dc_Law_rule_3 : decode method_7_code 3 = .ok (.aload_n 0, 1) := by decide +kernel
theorem dc_Law_rule_4 : decode method_7_code 4 = .ok (.iload_n 1, 1) := by decide +kernel
theorem dc_Law_rule_5 : decode method_7_code 5 = .ok (.iload_n 2, 1) := by decide +kernel
theorem dc_Law_rule_6 : decode method_7_code 6 = .ok (.iload_n 3, 1) := by decide +kernel
theorem dc_Law_rule_7 : decode method_7_code 7 = .ok (.invokevirtual 29, 3) := by decide +kernel
theorem dc_Law_rule_10 : decode method_7_code 10 = .ok (.i2l, 1) := by decide +kernel
theorem dc_Law_rule_11 : decode method_7_code 11 = .ok (.lastore, 1) := by decide +kernel
theorem dc_Law_rule_12 : decode method_7_code 12 = .ok (.goto 11, 3) := by decide +kernel
theorem dc_Law_rule_15 : decode method_7_code 15 = .ok (.astore 5, 2) := by decide +kernel
theorem dc_Law_rule_17 : decode method_7_code 17 = .ok (.iconst 1, 1) := by decide +kernel
theorem dc_Law_rule_18 : decode method_7_code 18 = .ok (.ireturn, 1) := by decide +kernel
theorem dc_Law_rule_19 : decode method_7_code 19 = .ok (.astore 5, 2) := by decide +kernel
theorem dc_Law_rule_21 : decode method_7_code 21 = .ok (.iconst 2, 1) := by decide +kernel
theorem dc_Law_rule_22 : decode method_7_code 22 = .ok (.ireturn, 1) := by decide +kernel
theorem dc_Law_rule_23 : decode method_7_code 23 = .ok (.iconst 0, 1) := by decide +kernel
theorem dc_Law_rule_24 : decode method_7_code 24 = .ok (.ireturn, 1) := by decide +kernel
theorem dc_Law_action_0 : decode method_8_code 0 = .ok (.aload 5, 2) := by decide +kernel
theorem dc_Law_action_2 : decode method_8_code 2 = .ok (.iconst 0, 1) := by decide +kernel
theorem dc_Law_action_3 : decode method_8_code 3 = .ok (.aload_n 0, 1) := by decide +kernel
theorem dc_Law_action_4 : decode method_8_code 4 = .ok (.iload_n 1, 1) := by decide +kernel
theorem dc_Law_action_5 : decode method_8_code 5 = .ok (.iload_n 2, 1) := by decide +kernel
theorem dc_Law_action_6 : decode method_8_code 6 = .ok (.iload_n 3, 1) := by decide +kernel
theorem dc_Law_action_7 : decode method_8_code 7 = .ok (.iload 4, 2) := by decide +kernel
theorem dc_Law_action_9 : decode method_8_code 9 = .ok (.invokevirtual 33, 3) := by decide +kernel
theorem dc_Law_action_12 : decode method_8_code 12 = .ok (.i2l, 1) := by decide +kernel
theorem dc_Law_action_13 : decode method_8_code 13 = .ok (.lastore, 1) := by decide +kernel
theorem dc_Law_action_14 : decode method_8_code 14 = .ok (.goto 11, 3) := by decide +kernel
theorem dc_Law_action_17 : decode method_8_code 17 = .ok (.astore 6, 2) := by decide +kernel
theorem dc_Law_action_19 : decode method_8_code 19 = .ok (.iconst 1, 1) := by decide +kernel
theorem dc_Law_action_20 : decode method_8_code 20 = .ok (.ireturn, 1) := by decide +kernel
theorem dc_Law_action_21 : decode method_8_code 21 = .ok (.astore 6, 2) := by decide +kernel
theorem dc_Law_action_23 : decode method_8_code 23 = .ok (.iconst 2, 1) := by decide +kernel
theorem dc_Law_action_24 : decode method_8_code 24 = .ok (.ireturn, 1) := by decide +kernel
theorem dc_Law_action_25 : decode method_8_code 25 = .ok (.iconst 0, 1) := by decide +kernel
theorem dc_Law_action_26 : decode method_8_code 26 = .ok (.ireturn, 1) := by decide +kernel
theorem dc_Law_find_0 : decode method_9_code 0 = .ok (.aload_n 3, 1) := by decide +kernel
theorem dc_Law_find_1 : decode method_9_code 1 = .ok (.iconst 0, 1) := by decide +kernel
theorem dc_Law_find_2 : decode method_9_code 2 = .ok (.aload_n 0, 1) := by decide +kernel
theorem dc_Law_find_3 : decode method_9_code 3 = .ok (.iload_n 1, 1) := by decide +kernel
theorem dc_Law_find_4 : decode method_9_code 4 = .ok (.iload_n 2, 1) := by decide +kernel
theorem dc_Law_find_5 : decode method_9_code 5 = .ok (.invokevirtual 37, 3) := by decide +kernel
theorem dc_Law_find_8 : decode method_9_code 8 = .ok (.i2l, 1) := by decide +kernel
theorem dc_Law_find_9 : decode method_9_code 9 = .ok (.lastore, 1) := by decide +kernel
theorem dc_Law_find_10 : decode method_9_code 10 = .ok (.goto 7, 3) := by decide +kernel
theorem dc_Law_find_13 : decode method_9_code 13 = .ok (.astore 4, 2) := by decide +kernel
theorem dc_Law_find_15 : decode method_9_code 15 = .ok (.iconst 1, 1) := by decide +kernel
theorem dc_Law_find_16 : decode method_9_code 16 = .ok (.ireturn, 1) := by decide +kernel
theorem dc_Law_find_17 : decode method_9_code 17 = .ok (.iconst 0, 1) := by decide +kernel
theorem dc_Law_find_18 : decode method_9_code 18 = .ok (.ireturn, 1) := by decide +kernel
theorem dc_Law_sign_0 : decode method_10_code 0 = .ok (.aload_n 3, 1) := by decide +kernel
theorem dc_Law_sign_1 : decode method_10_code 1 = .ok (.iconst 0, 1) := by decide +kernel
theorem dc_Law_sign_2 : decode method_10_code 2 = .ok (.aload_n 0, 1) := by decide +kernel
theorem dc_Law_sign_3 : decode method_10_code 3 = .ok (.iload_n 1, 1) := by decide +kernel
theorem dc_Law_sign_4 : decode method_10_code 4 = .ok (.iload_n 2, 1) := by decide +kernel
theorem dc_Law_sign_5 : decode method_10_code 5 = .ok (.invokevirtual 41, 3) := by decide +kernel
theorem dc_Law_sign_8 : decode method_10_code 8 = .ok (.i2l, 1) := by decide +kernel
theorem dc_Law_sign_9 : decode method_10_code 9 = .ok (.lastore, 1) := by decide +kernel
theorem dc_Law_sign_10 : decode method_10_code 10 = .ok (.goto 7, 3) := by decide +kernel
theorem dc_Law_sign_13 : decode method_10_code 13 = .ok (.astore 4, 2) := by decide +kernel
theorem dc_Law_sign_15 : decode method_10_code 15 = .ok (.iconst 1, 1) := by decide +kernel
theorem dc_Law_sign_16 : decode method_10_code 16 = .ok (.ireturn, 1) := by decide +kernel
theorem dc_Law_sign_17 : decode method_10_code 17 = .ok (.iconst 0, 1) := by decide +kernel
theorem dc_Law_sign_18 : decode method_10_code 18 = .ok (.ireturn, 1) := by decide +kernel
theorem dc_Law_printed_0 : decode method_11_code 0 = .ok (.aload_n 2, 1) := by decide +kernel
theorem dc_Law_printed_1 : decode method_11_code 1 = .ok (.iconst 0, 1) := by decide +kernel
theorem dc_Law_printed_2 : decode method_11_code 2 = .ok (.aload_n 0, 1) := by decide +kernel
theorem dc_Law_printed_3 : decode method_11_code 3 = .ok (.iload_n 1, 1) := by decide +kernel
theorem dc_Law_printed_4 : decode method_11_code 4 = .ok (.invokevirtual 44, 3) := by decide +kernel
theorem dc_Law_printed_7 : decode method_11_code 7 = .ok (.i2l, 1) := by decide +kernel
theorem dc_Law_printed_8 : decode method_11_code 8 = .ok (.lastore, 1) := by decide +kernel
theorem dc_Law_printed_9 : decode method_11_code 9 = .ok (.goto 6, 3) := by decide +kernel
theorem dc_Law_printed_12 : decode method_11_code 12 = .ok (.astore_n 3, 1) := by decide +kernel
theorem dc_Law_printed_13 : decode method_11_code 13 = .ok (.iconst 1, 1) := by decide +kernel
theorem dc_Law_printed_14 : decode method_11_code 14 = .ok (.ireturn, 1) := by decide +kernel
theorem dc_Law_printed_15 : decode method_11_code 15 = .ok (.iconst 0, 1) := by decide +kernel
theorem dc_Law_printed_16 : decode method_11_code 16 = .ok (.ireturn, 1) := by decide +kernel
theorem dc_Law_counter_0 : decode method_12_code 0 = .ok (.aload_n 2, 1) := by decide +kernel
theorem dc_Law_counter_1 : decode method_12_code 1 = .ok (.iconst 0, 1) := by decide +kernel
theorem dc_Law_counter_2 : decode method_12_code 2 = .ok (.aload_n 0, 1) := by decide +kernel
theorem dc_Law_counter_3 : decode method_12_code 3 = .ok (.iload_n 1, 1) := by decide +kernel
theorem dc_Law_counter_4 : decode method_12_code 4 = .ok (.invokevirtual 47, 3) := by decide +kernel
theorem dc_Law_counter_7 : decode method_12_code 7 = .ok (.i2l, 1) := by decide +kernel
theorem dc_Law_counter_8 : decode method_12_code 8 = .ok (.lastore, 1) := by decide +kernel
theorem dc_Law_counter_9 : decode method_12_code 9 = .ok (.goto 6, 3) := by decide +kernel
theorem dc_Law_counter_12 : decode method_12_code 12 = .ok (.astore_n 3, 1) := by decide +kernel
theorem dc_Law_counter_13 : decode method_12_code 13 = .ok (.iconst 1, 1) := by decide +kernel
theorem dc_Law_counter_14 : decode method_12_code 14 = .ok (.ireturn, 1) := by decide +kernel
theorem dc_Law_counter_15 : decode method_12_code 15 = .ok (.iconst 0, 1) := by decide +kernel
theorem dc_Law_counter_16 : decode method_12_code 16 = .ok (.ireturn, 1) := by decide +kernel
theorem dc_Law_key_0 : decode method_13_code 0 = .ok (.aload_n 3, 1) := by decide +kernel
theorem dc_Law_key_1 : decode method_13_code 1 = .ok (.iconst 0, 1) := by decide +kernel
theorem dc_Law_key_2 : decode method_13_code 2 = .ok (.aload_n 0, 1) := by decide +kernel
theorem dc_Law_key_3 : decode method_13_code 3 = .ok (.iload_n 1, 1) := by decide +kernel
theorem dc_Law_key_4 : decode method_13_code 4 = .ok (.iload_n 2, 1) := by decide +kernel
theorem dc_Law_key_5 : decode method_13_code 5 = .ok (.invokevirtual 50, 3) := by decide +kernel
theorem dc_Law_key_8 : decode method_13_code 8 = .ok (.i2l, 1) := by decide +kernel
theorem dc_Law_key_9 : decode method_13_code 9 = .ok (.lastore, 1) := by decide +kernel
theorem dc_Law_key_10 : decode method_13_code 10 = .ok (.goto 7, 3) := by decide +kernel
theorem dc_Law_key_13 : decode method_13_code 13 = .ok (.astore 4, 2) := by decide +kernel
theorem dc_Law_key_15 : decode method_13_code 15 = .ok (.iconst 1, 1) := by decide +kernel
theorem dc_Law_key_16 : decode method_13_code 16 = .ok (.ireturn, 1) := by decide +kernel
theorem dc_Law_key_17 : decode method_13_code 17 = .ok (.iconst 0, 1) := by decide +kernel
theorem dc_Law_key_18 : decode method_13_code 18 = .ok (.ireturn, 1) := by decide +kernel
theorem dc_Law_count_0 : decode method_14_code 0 = .ok (.aload_n 2, 1) := by decide +kernel
theorem dc_Law_count_1 : decode method_14_code 1 = .ok (.iconst 0, 1) := by decide +kernel
theorem dc_Law_count_2 : decode method_14_code 2 = .ok (.aload_n 0, 1) := by decide +kernel
theorem dc_Law_count_3 : decode method_14_code 3 = .ok (.iload_n 1, 1) := by decide +kernel
theorem dc_Law_count_4 : decode method_14_code 4 = .ok (.invokevirtual 53, 3) := by decide +kernel
theorem dc_Law_count_7 : decode method_14_code 7 = .ok (.i2l, 1) := by decide +kernel
theorem dc_Law_count_8 : decode method_14_code 8 = .ok (.lastore, 1) := by decide +kernel
theorem dc_Law_count_9 : decode method_14_code 9 = .ok (.goto 6, 3) := by decide +kernel
theorem dc_Law_count_12 : decode method_14_code 12 = .ok (.astore_n 3, 1) := by decide +kernel
theorem dc_Law_count_13 : decode method_14_code 13 = .ok (.iconst 1, 1) := by decide +kernel
theorem dc_Law_count_14 : decode method_14_code 14 = .ok (.ireturn, 1) := by decide +kernel
theorem dc_Law_count_15 : decode method_14_code 15 = .ok (.iconst 0, 1) := by decide +kernel
theorem dc_Law_count_16 : decode method_14_code 16 = .ok (.ireturn, 1) := by decide +kernel
theorem dc_Law_law_0 : decode code 0 = .ok (.new 8, 3) := by decide +kernel
theorem dc_Law_law_3 : decode code 3 = .ok (.dup, 1) := by decide +kernel
theorem dc_Law_law_4 : decode code 4 = .ok (.invokespecial 56, 3) := by decide +kernel
theorem dc_Law_law_7 : decode code 7 = .ok (.astore_n 1, 1) := by decide +kernel
theorem dc_Law_law_8 : decode code 8 = .ok (.new 57, 3) := by decide +kernel
theorem dc_Law_law_11 : decode code 11 = .ok (.dup, 1) := by decide +kernel
theorem dc_Law_law_12 : decode code 12 = .ok (.invokespecial 59, 3) := by decide +kernel
theorem dc_Law_law_15 : decode code 15 = .ok (.astore_n 2, 1) := by decide +kernel
theorem dc_Law_law_16 : decode code 16 = .ok (.iconst 1, 1) := by decide +kernel
theorem dc_Law_law_17 : decode code 17 = .ok (.newarray .long, 2) := by decide +kernel
theorem dc_Law_law_19 : decode code 19 = .ok (.astore_n 3, 1) := by decide +kernel
theorem dc_Law_law_20 : decode code 20 = .ok (.iconst 0, 1) := by decide +kernel
theorem dc_Law_law_21 : decode code 21 = .ok (.istore 4, 2) := by decide +kernel
theorem dc_Law_law_23 : decode code 23 = .ok (.iload 4, 2) := by decide +kernel
theorem dc_Law_law_25 : decode code 25 = .ok (.aload_n 0, 1) := by decide +kernel
theorem dc_Law_law_26 : decode code 26 = .ok (.arraylength, 1) := by decide +kernel
theorem dc_Law_law_27 : decode code 27 = .ok (.bipush 6, 2) := by decide +kernel
theorem dc_Law_law_29 : decode code 29 = .ok (.isub, 1) := by decide +kernel
theorem dc_Law_law_30 : decode code 30 = .ok (.if_icmp .gt 964, 3) := by decide +kernel
theorem dc_Law_law_33 : decode code 33 = .ok (.aload_n 0, 1) := by decide +kernel
theorem dc_Law_law_34 : decode code 34 = .ok (.iload 4, 2) := by decide +kernel
theorem dc_Law_law_36 : decode code 36 = .ok (.iaload, 1) := by decide +kernel
theorem dc_Law_law_37 : decode code 37 = .ok (.bipush 15, 2) := by decide +kernel
theorem dc_Law_law_39 : decode code 39 = .ok (.iand, 1) := by decide +kernel
theorem dc_Law_law_40 : decode code 40 = .ok (.tableswitch 948 0 15 #[80, 184, 197, 253, 309, 365, 445, 537, 550, 563, 631, 644, 712, 768, 824, 892], 80) := by decide +kernel
theorem dc_Law_law_120 : decode code 120 = .ok (.aload_n 1, 1) := by decide +kernel
theorem dc_Law_law_121 : decode code 121 = .ok (.aload_n 0, 1) := by decide +kernel
theorem dc_Law_law_122 : decode code 122 = .ok (.iload 4, 2) := by decide +kernel
theorem dc_Law_law_124 : decode code 124 = .ok (.iconst 1, 1) := by decide +kernel
theorem dc_Law_law_125 : decode code 125 = .ok (.iadd, 1) := by decide +kernel
theorem dc_Law_law_126 : decode code 126 = .ok (.iaload, 1) := by decide +kernel
theorem dc_Law_law_127 : decode code 127 = .ok (.aload_n 0, 1) := by decide +kernel
theorem dc_Law_law_128 : decode code 128 = .ok (.iload 4, 2) := by decide +kernel
theorem dc_Law_law_130 : decode code 130 = .ok (.iconst 2, 1) := by decide +kernel
theorem dc_Law_law_131 : decode code 131 = .ok (.iadd, 1) := by decide +kernel
theorem dc_Law_law_132 : decode code 132 = .ok (.iaload, 1) := by decide +kernel
theorem dc_Law_law_133 : decode code 133 = .ok (.aload_n 0, 1) := by decide +kernel
theorem dc_Law_law_134 : decode code 134 = .ok (.iload 4, 2) := by decide +kernel
theorem dc_Law_law_136 : decode code 136 = .ok (.iconst 3, 1) := by decide +kernel
theorem dc_Law_law_137 : decode code 137 = .ok (.iadd, 1) := by decide +kernel
theorem dc_Law_law_138 : decode code 138 = .ok (.iaload, 1) := by decide +kernel
theorem dc_Law_law_139 : decode code 139 = .ok (.aload_n 0, 1) := by decide +kernel
theorem dc_Law_law_140 : decode code 140 = .ok (.iload 4, 2) := by decide +kernel
theorem dc_Law_law_142 : decode code 142 = .ok (.iconst 4, 1) := by decide +kernel
theorem dc_Law_law_143 : decode code 143 = .ok (.iadd, 1) := by decide +kernel
theorem dc_Law_law_144 : decode code 144 = .ok (.iaload, 1) := by decide +kernel
theorem dc_Law_law_145 : decode code 145 = .ok (.aload_n 0, 1) := by decide +kernel
theorem dc_Law_law_146 : decode code 146 = .ok (.iload 4, 2) := by decide +kernel
theorem dc_Law_law_148 : decode code 148 = .ok (.iconst 5, 1) := by decide +kernel
theorem dc_Law_law_149 : decode code 149 = .ok (.iadd, 1) := by decide +kernel
theorem dc_Law_law_150 : decode code 150 = .ok (.iaload, 1) := by decide +kernel
theorem dc_Law_law_151 : decode code 151 = .ok (.aload_n 3, 1) := by decide +kernel
theorem dc_Law_law_152 : decode code 152 = .ok (.invokestatic 60, 3) := by decide +kernel
theorem dc_Law_law_155 : decode code 155 = .ok (.istore 5, 2) := by decide +kernel
theorem dc_Law_law_157 : decode code 157 = .ok (.aload_n 2, 1) := by decide +kernel
theorem dc_Law_law_158 : decode code 158 = .ok (.aload_n 0, 1) := by decide +kernel
theorem dc_Law_law_159 : decode code 159 = .ok (.iload 4, 2) := by decide +kernel
theorem dc_Law_law_161 : decode code 161 = .ok (.iconst 1, 1) := by decide +kernel
theorem dc_Law_law_162 : decode code 162 = .ok (.iadd, 1) := by decide +kernel
theorem dc_Law_law_163 : decode code 163 = .ok (.iaload, 1) := by decide +kernel
theorem dc_Law_law_164 : decode code 164 = .ok (.aload_n 0, 1) := by decide +kernel
theorem dc_Law_law_165 : decode code 165 = .ok (.iload 4, 2) := by decide +kernel
theorem dc_Law_law_167 : decode code 167 = .ok (.iconst 2, 1) := by decide +kernel
theorem dc_Law_law_168 : decode code 168 = .ok (.iadd, 1) := by decide +kernel
theorem dc_Law_law_169 : decode code 169 = .ok (.iaload, 1) := by decide +kernel
theorem dc_Law_law_170 : decode code 170 = .ok (.aload_n 0, 1) := by decide +kernel
theorem dc_Law_law_171 : decode code 171 = .ok (.iload 4, 2) := by decide +kernel
theorem dc_Law_law_173 : decode code 173 = .ok (.iconst 3, 1) := by decide +kernel
theorem dc_Law_law_174 : decode code 174 = .ok (.iadd, 1) := by decide +kernel
theorem dc_Law_law_175 : decode code 175 = .ok (.iaload, 1) := by decide +kernel
theorem dc_Law_law_176 : decode code 176 = .ok (.aload_n 0, 1) := by decide +kernel
theorem dc_Law_law_177 : decode code 177 = .ok (.iload 4, 2) := by decide +kernel
theorem dc_Law_law_179 : decode code 179 = .ok (.iconst 4, 1) := by decide +kernel
theorem dc_Law_law_180 : decode code 180 = .ok (.iadd, 1) := by decide +kernel
theorem dc_Law_law_181 : decode code 181 = .ok (.iaload, 1) := by decide +kernel
theorem dc_Law_law_182 : decode code 182 = .ok (.aload_n 0, 1) := by decide +kernel
theorem dc_Law_law_183 : decode code 183 = .ok (.iload 4, 2) := by decide +kernel
theorem dc_Law_law_185 : decode code 185 = .ok (.iconst 5, 1) := by decide +kernel
theorem dc_Law_law_186 : decode code 186 = .ok (.iadd, 1) := by decide +kernel
theorem dc_Law_law_187 : decode code 187 = .ok (.iaload, 1) := by decide +kernel
theorem dc_Law_law_188 : decode code 188 = .ok (.invokevirtual 65, 3) := by decide +kernel
theorem dc_Law_law_191 : decode code 191 = .ok (.istore 6, 2) := by decide +kernel
theorem dc_Law_law_193 : decode code 193 = .ok (.aload_n 2, 1) := by decide +kernel
theorem dc_Law_law_194 : decode code 194 = .ok (.invokevirtual 66, 3) := by decide +kernel
theorem dc_Law_law_197 : decode code 197 = .ok (.iload 5, 2) := by decide +kernel
theorem dc_Law_law_199 : decode code 199 = .ok (.if_icmp .eq 5, 3) := by decide +kernel
theorem dc_Law_law_202 : decode code 202 = .ok (.iconst 0, 1) := by decide +kernel
theorem dc_Law_law_203 : decode code 203 = .ok (.ireturn, 1) := by decide +kernel
theorem dc_Law_law_204 : decode code 204 = .ok (.iload 5, 2) := by decide +kernel
theorem dc_Law_law_206 : decode code 206 = .ok (.ifCond .ne 15, 3) := by decide +kernel
theorem dc_Law_law_209 : decode code 209 = .ok (.aload_n 3, 1) := by decide +kernel
theorem dc_Law_law_210 : decode code 210 = .ok (.iconst 0, 1) := by decide +kernel
theorem dc_Law_law_211 : decode code 211 = .ok (.laload, 1) := by decide +kernel
theorem dc_Law_law_212 : decode code 212 = .ok (.iload 6, 2) := by decide +kernel
theorem dc_Law_law_214 : decode code 214 = .ok (.i2l, 1) := by decide +kernel
theorem dc_Law_law_215 : decode code 215 = .ok (.lcmp, 1) := by decide +kernel
theorem dc_Law_law_216 : decode code 216 = .ok (.ifCond .eq 5, 3) := by decide +kernel
theorem dc_Law_law_219 : decode code 219 = .ok (.iconst 0, 1) := by decide +kernel
theorem dc_Law_law_220 : decode code 220 = .ok (.ireturn, 1) := by decide +kernel
theorem dc_Law_law_221 : decode code 221 = .ok (.goto 767, 3) := by decide +kernel
theorem dc_Law_law_224 : decode code 224 = .ok (.aload_n 1, 1) := by decide +kernel
theorem dc_Law_law_225 : decode code 225 = .ok (.invokevirtual 70, 3) := by decide +kernel
theorem dc_Law_law_228 : decode code 228 = .ok (.aload_n 2, 1) := by decide +kernel
theorem dc_Law_law_229 : decode code 229 = .ok (.invokevirtual 73, 3) := by decide +kernel
theorem dc_Law_law_232 : decode code 232 = .ok (.if_icmp .eq 756, 3) := by decide +kernel
theorem dc_Law_law_235 : decode code 235 = .ok (.iconst 0, 1) := by decide +kernel
theorem dc_Law_law_236 : decode code 236 = .ok (.ireturn, 1) := by decide +kernel
theorem dc_Law_law_237 : decode code 237 = .ok (.aload_n 1, 1) := by decide +kernel
theorem dc_Law_law_238 : decode code 238 = .ok (.aload_n 0, 1) := by decide +kernel
theorem dc_Law_law_239 : decode code 239 = .ok (.iload 4, 2) := by decide +kernel
theorem dc_Law_law_241 : decode code 241 = .ok (.iconst 1, 1) := by decide +kernel
theorem dc_Law_law_242 : decode code 242 = .ok (.iadd, 1) := by decide +kernel
theorem dc_Law_law_243 : decode code 243 = .ok (.iaload, 1) := by decide +kernel
theorem dc_Law_law_244 : decode code 244 = .ok (.aload_n 3, 1) := by decide +kernel
theorem dc_Law_law_245 : decode code 245 = .ok (.invokestatic 74, 3) := by decide +kernel
theorem dc_Law_law_248 : decode code 248 = .ok (.istore 5, 2) := by decide +kernel
theorem dc_Law_law_250 : decode code 250 = .ok (.aload_n 2, 1) := by decide +kernel
theorem dc_Law_law_251 : decode code 251 = .ok (.aload_n 0, 1) := by decide +kernel
theorem dc_Law_law_252 : decode code 252 = .ok (.iload 4, 2) := by decide +kernel
theorem dc_Law_law_254 : decode code 254 = .ok (.iconst 1, 1) := by decide +kernel
theorem dc_Law_law_255 : decode code 255 = .ok (.iadd, 1) := by decide +kernel
theorem dc_Law_law_256 : decode code 256 = .ok (.iaload, 1) := by decide +kernel
theorem dc_Law_law_257 : decode code 257 = .ok (.invokevirtual 77, 3) := by decide +kernel
theorem dc_Law_law_260 : decode code 260 = .ok (.istore 6, 2) := by decide +kernel
theorem dc_Law_law_262 : decode code 262 = .ok (.aload_n 2, 1) := by decide +kernel
theorem dc_Law_law_263 : decode code 263 = .ok (.invokevirtual 66, 3) := by decide +kernel
theorem dc_Law_law_266 : decode code 266 = .ok (.iload 5, 2) := by decide +kernel
theorem dc_Law_law_268 : decode code 268 = .ok (.if_icmp .eq 5, 3) := by decide +kernel
theorem dc_Law_law_271 : decode code 271 = .ok (.iconst 0, 1) := by decide +kernel
theorem dc_Law_law_272 : decode code 272 = .ok (.ireturn, 1) := by decide +kernel
theorem dc_Law_law_273 : decode code 273 = .ok (.iload 5, 2) := by decide +kernel
theorem dc_Law_law_275 : decode code 275 = .ok (.ifCond .ne 15, 3) := by decide +kernel
theorem dc_Law_law_278 : decode code 278 = .ok (.aload_n 3, 1) := by decide +kernel
theorem dc_Law_law_279 : decode code 279 = .ok (.iconst 0, 1) := by decide +kernel
theorem dc_Law_law_280 : decode code 280 = .ok (.laload, 1) := by decide +kernel
theorem dc_Law_law_281 : decode code 281 = .ok (.iload 6, 2) := by decide +kernel
theorem dc_Law_law_283 : decode code 283 = .ok (.i2l, 1) := by decide +kernel
theorem dc_Law_law_284 : decode code 284 = .ok (.lcmp, 1) := by decide +kernel
theorem dc_Law_law_285 : decode code 285 = .ok (.ifCond .eq 5, 3) := by decide +kernel
theorem dc_Law_law_288 : decode code 288 = .ok (.iconst 0, 1) := by decide +kernel
theorem dc_Law_law_289 : decode code 289 = .ok (.ireturn, 1) := by decide +kernel
theorem dc_Law_law_290 : decode code 290 = .ok (.goto 698, 3) := by decide +kernel
theorem dc_Law_law_293 : decode code 293 = .ok (.aload_n 1, 1) := by decide +kernel
theorem dc_Law_law_294 : decode code 294 = .ok (.aload_n 0, 1) := by decide +kernel
theorem dc_Law_law_295 : decode code 295 = .ok (.iload 4, 2) := by decide +kernel
theorem dc_Law_law_297 : decode code 297 = .ok (.iconst 1, 1) := by decide +kernel
theorem dc_Law_law_298 : decode code 298 = .ok (.iadd, 1) := by decide +kernel
theorem dc_Law_law_299 : decode code 299 = .ok (.iaload, 1) := by decide +kernel
theorem dc_Law_law_300 : decode code 300 = .ok (.aload_n 3, 1) := by decide +kernel
theorem dc_Law_law_301 : decode code 301 = .ok (.invokestatic 78, 3) := by decide +kernel
theorem dc_Law_law_304 : decode code 304 = .ok (.istore 5, 2) := by decide +kernel
theorem dc_Law_law_306 : decode code 306 = .ok (.aload_n 2, 1) := by decide +kernel
theorem dc_Law_law_307 : decode code 307 = .ok (.aload_n 0, 1) := by decide +kernel
theorem dc_Law_law_308 : decode code 308 = .ok (.iload 4, 2) := by decide +kernel
theorem dc_Law_law_310 : decode code 310 = .ok (.iconst 1, 1) := by decide +kernel
theorem dc_Law_law_311 : decode code 311 = .ok (.iadd, 1) := by decide +kernel
theorem dc_Law_law_312 : decode code 312 = .ok (.iaload, 1) := by decide +kernel
theorem dc_Law_law_313 : decode code 313 = .ok (.invokevirtual 80, 3) := by decide +kernel
theorem dc_Law_law_316 : decode code 316 = .ok (.istore 6, 2) := by decide +kernel
theorem dc_Law_law_318 : decode code 318 = .ok (.aload_n 2, 1) := by decide +kernel
theorem dc_Law_law_319 : decode code 319 = .ok (.invokevirtual 66, 3) := by decide +kernel
theorem dc_Law_law_322 : decode code 322 = .ok (.iload 5, 2) := by decide +kernel
theorem dc_Law_law_324 : decode code 324 = .ok (.if_icmp .eq 5, 3) := by decide +kernel
theorem dc_Law_law_327 : decode code 327 = .ok (.iconst 0, 1) := by decide +kernel
theorem dc_Law_law_328 : decode code 328 = .ok (.ireturn, 1) := by decide +kernel
theorem dc_Law_law_329 : decode code 329 = .ok (.iload 5, 2) := by decide +kernel
theorem dc_Law_law_331 : decode code 331 = .ok (.ifCond .ne 15, 3) := by decide +kernel
theorem dc_Law_law_334 : decode code 334 = .ok (.aload_n 3, 1) := by decide +kernel
theorem dc_Law_law_335 : decode code 335 = .ok (.iconst 0, 1) := by decide +kernel
theorem dc_Law_law_336 : decode code 336 = .ok (.laload, 1) := by decide +kernel
theorem dc_Law_law_337 : decode code 337 = .ok (.iload 6, 2) := by decide +kernel
theorem dc_Law_law_339 : decode code 339 = .ok (.i2l, 1) := by decide +kernel
theorem dc_Law_law_340 : decode code 340 = .ok (.lcmp, 1) := by decide +kernel
theorem dc_Law_law_341 : decode code 341 = .ok (.ifCond .eq 5, 3) := by decide +kernel
theorem dc_Law_law_344 : decode code 344 = .ok (.iconst 0, 1) := by decide +kernel
theorem dc_Law_law_345 : decode code 345 = .ok (.ireturn, 1) := by decide +kernel
theorem dc_Law_law_346 : decode code 346 = .ok (.goto 642, 3) := by decide +kernel
theorem dc_Law_law_349 : decode code 349 = .ok (.aload_n 1, 1) := by decide +kernel
theorem dc_Law_law_350 : decode code 350 = .ok (.aload_n 0, 1) := by decide +kernel
theorem dc_Law_law_351 : decode code 351 = .ok (.iload 4, 2) := by decide +kernel
theorem dc_Law_law_353 : decode code 353 = .ok (.iconst 1, 1) := by decide +kernel
theorem dc_Law_law_354 : decode code 354 = .ok (.iadd, 1) := by decide +kernel
theorem dc_Law_law_355 : decode code 355 = .ok (.iaload, 1) := by decide +kernel
theorem dc_Law_law_356 : decode code 356 = .ok (.aload_n 3, 1) := by decide +kernel
theorem dc_Law_law_357 : decode code 357 = .ok (.invokestatic 81, 3) := by decide +kernel
theorem dc_Law_law_360 : decode code 360 = .ok (.istore 5, 2) := by decide +kernel
theorem dc_Law_law_362 : decode code 362 = .ok (.aload_n 2, 1) := by decide +kernel
theorem dc_Law_law_363 : decode code 363 = .ok (.aload_n 0, 1) := by decide +kernel
theorem dc_Law_law_364 : decode code 364 = .ok (.iload 4, 2) := by decide +kernel
theorem dc_Law_law_366 : decode code 366 = .ok (.iconst 1, 1) := by decide +kernel
theorem dc_Law_law_367 : decode code 367 = .ok (.iadd, 1) := by decide +kernel
theorem dc_Law_law_368 : decode code 368 = .ok (.iaload, 1) := by decide +kernel
theorem dc_Law_law_369 : decode code 369 = .ok (.invokevirtual 83, 3) := by decide +kernel
theorem dc_Law_law_372 : decode code 372 = .ok (.istore 6, 2) := by decide +kernel
theorem dc_Law_law_374 : decode code 374 = .ok (.aload_n 2, 1) := by decide +kernel
theorem dc_Law_law_375 : decode code 375 = .ok (.invokevirtual 66, 3) := by decide +kernel
theorem dc_Law_law_378 : decode code 378 = .ok (.iload 5, 2) := by decide +kernel
theorem dc_Law_law_380 : decode code 380 = .ok (.if_icmp .eq 5, 3) := by decide +kernel
theorem dc_Law_law_383 : decode code 383 = .ok (.iconst 0, 1) := by decide +kernel
theorem dc_Law_law_384 : decode code 384 = .ok (.ireturn, 1) := by decide +kernel
theorem dc_Law_law_385 : decode code 385 = .ok (.iload 5, 2) := by decide +kernel
theorem dc_Law_law_387 : decode code 387 = .ok (.ifCond .ne 15, 3) := by decide +kernel
theorem dc_Law_law_390 : decode code 390 = .ok (.aload_n 3, 1) := by decide +kernel
theorem dc_Law_law_391 : decode code 391 = .ok (.iconst 0, 1) := by decide +kernel
theorem dc_Law_law_392 : decode code 392 = .ok (.laload, 1) := by decide +kernel
theorem dc_Law_law_393 : decode code 393 = .ok (.iload 6, 2) := by decide +kernel
theorem dc_Law_law_395 : decode code 395 = .ok (.i2l, 1) := by decide +kernel
theorem dc_Law_law_396 : decode code 396 = .ok (.lcmp, 1) := by decide +kernel
theorem dc_Law_law_397 : decode code 397 = .ok (.ifCond .eq 5, 3) := by decide +kernel
theorem dc_Law_law_400 : decode code 400 = .ok (.iconst 0, 1) := by decide +kernel
theorem dc_Law_law_401 : decode code 401 = .ok (.ireturn, 1) := by decide +kernel
theorem dc_Law_law_402 : decode code 402 = .ok (.goto 586, 3) := by decide +kernel
theorem dc_Law_law_405 : decode code 405 = .ok (.aload_n 1, 1) := by decide +kernel
theorem dc_Law_law_406 : decode code 406 = .ok (.aload_n 0, 1) := by decide +kernel
theorem dc_Law_law_407 : decode code 407 = .ok (.iload 4, 2) := by decide +kernel
theorem dc_Law_law_409 : decode code 409 = .ok (.iconst 1, 1) := by decide +kernel
theorem dc_Law_law_410 : decode code 410 = .ok (.iadd, 1) := by decide +kernel
theorem dc_Law_law_411 : decode code 411 = .ok (.iaload, 1) := by decide +kernel
theorem dc_Law_law_412 : decode code 412 = .ok (.aload_n 0, 1) := by decide +kernel
theorem dc_Law_law_413 : decode code 413 = .ok (.iload 4, 2) := by decide +kernel
theorem dc_Law_law_415 : decode code 415 = .ok (.iconst 2, 1) := by decide +kernel
theorem dc_Law_law_416 : decode code 416 = .ok (.iadd, 1) := by decide +kernel
theorem dc_Law_law_417 : decode code 417 = .ok (.iaload, 1) := by decide +kernel
theorem dc_Law_law_418 : decode code 418 = .ok (.aload_n 0, 1) := by decide +kernel
theorem dc_Law_law_419 : decode code 419 = .ok (.iload 4, 2) := by decide +kernel
theorem dc_Law_law_421 : decode code 421 = .ok (.iconst 3, 1) := by decide +kernel
theorem dc_Law_law_422 : decode code 422 = .ok (.iadd, 1) := by decide +kernel
theorem dc_Law_law_423 : decode code 423 = .ok (.iaload, 1) := by decide +kernel
theorem dc_Law_law_424 : decode code 424 = .ok (.aload_n 3, 1) := by decide +kernel
theorem dc_Law_law_425 : decode code 425 = .ok (.invokestatic 84, 3) := by decide +kernel
theorem dc_Law_law_428 : decode code 428 = .ok (.istore 5, 2) := by decide +kernel
theorem dc_Law_law_430 : decode code 430 = .ok (.aload_n 2, 1) := by decide +kernel
theorem dc_Law_law_431 : decode code 431 = .ok (.aload_n 0, 1) := by decide +kernel
theorem dc_Law_law_432 : decode code 432 = .ok (.iload 4, 2) := by decide +kernel
theorem dc_Law_law_434 : decode code 434 = .ok (.iconst 1, 1) := by decide +kernel
theorem dc_Law_law_435 : decode code 435 = .ok (.iadd, 1) := by decide +kernel
theorem dc_Law_law_436 : decode code 436 = .ok (.iaload, 1) := by decide +kernel
theorem dc_Law_law_437 : decode code 437 = .ok (.aload_n 0, 1) := by decide +kernel
theorem dc_Law_law_438 : decode code 438 = .ok (.iload 4, 2) := by decide +kernel
theorem dc_Law_law_440 : decode code 440 = .ok (.iconst 2, 1) := by decide +kernel
theorem dc_Law_law_441 : decode code 441 = .ok (.iadd, 1) := by decide +kernel
theorem dc_Law_law_442 : decode code 442 = .ok (.iaload, 1) := by decide +kernel
theorem dc_Law_law_443 : decode code 443 = .ok (.aload_n 0, 1) := by decide +kernel
theorem dc_Law_law_444 : decode code 444 = .ok (.iload 4, 2) := by decide +kernel
theorem dc_Law_law_446 : decode code 446 = .ok (.iconst 3, 1) := by decide +kernel
theorem dc_Law_law_447 : decode code 447 = .ok (.iadd, 1) := by decide +kernel
theorem dc_Law_law_448 : decode code 448 = .ok (.iaload, 1) := by decide +kernel
theorem dc_Law_law_449 : decode code 449 = .ok (.invokevirtual 87, 3) := by decide +kernel
theorem dc_Law_law_452 : decode code 452 = .ok (.istore 6, 2) := by decide +kernel
theorem dc_Law_law_454 : decode code 454 = .ok (.aload_n 2, 1) := by decide +kernel
theorem dc_Law_law_455 : decode code 455 = .ok (.invokevirtual 66, 3) := by decide +kernel
theorem dc_Law_law_458 : decode code 458 = .ok (.iload 5, 2) := by decide +kernel
theorem dc_Law_law_460 : decode code 460 = .ok (.if_icmp .eq 5, 3) := by decide +kernel
theorem dc_Law_law_463 : decode code 463 = .ok (.iconst 0, 1) := by decide +kernel
theorem dc_Law_law_464 : decode code 464 = .ok (.ireturn, 1) := by decide +kernel
theorem dc_Law_law_465 : decode code 465 = .ok (.iload 5, 2) := by decide +kernel
theorem dc_Law_law_467 : decode code 467 = .ok (.ifCond .ne 15, 3) := by decide +kernel
theorem dc_Law_law_470 : decode code 470 = .ok (.aload_n 3, 1) := by decide +kernel
theorem dc_Law_law_471 : decode code 471 = .ok (.iconst 0, 1) := by decide +kernel
theorem dc_Law_law_472 : decode code 472 = .ok (.laload, 1) := by decide +kernel
theorem dc_Law_law_473 : decode code 473 = .ok (.iload 6, 2) := by decide +kernel
theorem dc_Law_law_475 : decode code 475 = .ok (.i2l, 1) := by decide +kernel
theorem dc_Law_law_476 : decode code 476 = .ok (.lcmp, 1) := by decide +kernel
theorem dc_Law_law_477 : decode code 477 = .ok (.ifCond .eq 5, 3) := by decide +kernel
theorem dc_Law_law_480 : decode code 480 = .ok (.iconst 0, 1) := by decide +kernel
theorem dc_Law_law_481 : decode code 481 = .ok (.ireturn, 1) := by decide +kernel
theorem dc_Law_law_482 : decode code 482 = .ok (.goto 506, 3) := by decide +kernel
theorem dc_Law_law_485 : decode code 485 = .ok (.aload_n 1, 1) := by decide +kernel
theorem dc_Law_law_486 : decode code 486 = .ok (.aload_n 0, 1) := by decide +kernel
theorem dc_Law_law_487 : decode code 487 = .ok (.iload 4, 2) := by decide +kernel
theorem dc_Law_law_489 : decode code 489 = .ok (.iconst 1, 1) := by decide +kernel
theorem dc_Law_law_490 : decode code 490 = .ok (.iadd, 1) := by decide +kernel
theorem dc_Law_law_491 : decode code 491 = .ok (.iaload, 1) := by decide +kernel
theorem dc_Law_law_492 : decode code 492 = .ok (.aload_n 0, 1) := by decide +kernel
theorem dc_Law_law_493 : decode code 493 = .ok (.iload 4, 2) := by decide +kernel
theorem dc_Law_law_495 : decode code 495 = .ok (.iconst 2, 1) := by decide +kernel
theorem dc_Law_law_496 : decode code 496 = .ok (.iadd, 1) := by decide +kernel
theorem dc_Law_law_497 : decode code 497 = .ok (.iaload, 1) := by decide +kernel
theorem dc_Law_law_498 : decode code 498 = .ok (.aload_n 0, 1) := by decide +kernel
theorem dc_Law_law_499 : decode code 499 = .ok (.iload 4, 2) := by decide +kernel
theorem dc_Law_law_501 : decode code 501 = .ok (.iconst 3, 1) := by decide +kernel
theorem dc_Law_law_502 : decode code 502 = .ok (.iadd, 1) := by decide +kernel
theorem dc_Law_law_503 : decode code 503 = .ok (.iaload, 1) := by decide +kernel
theorem dc_Law_law_504 : decode code 504 = .ok (.aload_n 0, 1) := by decide +kernel
theorem dc_Law_law_505 : decode code 505 = .ok (.iload 4, 2) := by decide +kernel
theorem dc_Law_law_507 : decode code 507 = .ok (.iconst 4, 1) := by decide +kernel
theorem dc_Law_law_508 : decode code 508 = .ok (.iadd, 1) := by decide +kernel
theorem dc_Law_law_509 : decode code 509 = .ok (.iaload, 1) := by decide +kernel
theorem dc_Law_law_510 : decode code 510 = .ok (.aload_n 3, 1) := by decide +kernel
theorem dc_Law_law_511 : decode code 511 = .ok (.invokestatic 88, 3) := by decide +kernel
theorem dc_Law_law_514 : decode code 514 = .ok (.istore 5, 2) := by decide +kernel
theorem dc_Law_law_516 : decode code 516 = .ok (.aload_n 2, 1) := by decide +kernel
theorem dc_Law_law_517 : decode code 517 = .ok (.aload_n 0, 1) := by decide +kernel
theorem dc_Law_law_518 : decode code 518 = .ok (.iload 4, 2) := by decide +kernel
theorem dc_Law_law_520 : decode code 520 = .ok (.iconst 1, 1) := by decide +kernel
theorem dc_Law_law_521 : decode code 521 = .ok (.iadd, 1) := by decide +kernel
theorem dc_Law_law_522 : decode code 522 = .ok (.iaload, 1) := by decide +kernel
theorem dc_Law_law_523 : decode code 523 = .ok (.aload_n 0, 1) := by decide +kernel
theorem dc_Law_law_524 : decode code 524 = .ok (.iload 4, 2) := by decide +kernel
theorem dc_Law_law_526 : decode code 526 = .ok (.iconst 2, 1) := by decide +kernel
theorem dc_Law_law_527 : decode code 527 = .ok (.iadd, 1) := by decide +kernel
theorem dc_Law_law_528 : decode code 528 = .ok (.iaload, 1) := by decide +kernel
theorem dc_Law_law_529 : decode code 529 = .ok (.aload_n 0, 1) := by decide +kernel
theorem dc_Law_law_530 : decode code 530 = .ok (.iload 4, 2) := by decide +kernel
theorem dc_Law_law_532 : decode code 532 = .ok (.iconst 3, 1) := by decide +kernel
theorem dc_Law_law_533 : decode code 533 = .ok (.iadd, 1) := by decide +kernel
theorem dc_Law_law_534 : decode code 534 = .ok (.iaload, 1) := by decide +kernel
theorem dc_Law_law_535 : decode code 535 = .ok (.aload_n 0, 1) := by decide +kernel
theorem dc_Law_law_536 : decode code 536 = .ok (.iload 4, 2) := by decide +kernel
theorem dc_Law_law_538 : decode code 538 = .ok (.iconst 4, 1) := by decide +kernel
theorem dc_Law_law_539 : decode code 539 = .ok (.iadd, 1) := by decide +kernel
theorem dc_Law_law_540 : decode code 540 = .ok (.iaload, 1) := by decide +kernel
theorem dc_Law_law_541 : decode code 541 = .ok (.invokevirtual 91, 3) := by decide +kernel
theorem dc_Law_law_544 : decode code 544 = .ok (.istore 6, 2) := by decide +kernel
theorem dc_Law_law_546 : decode code 546 = .ok (.aload_n 2, 1) := by decide +kernel
theorem dc_Law_law_547 : decode code 547 = .ok (.invokevirtual 66, 3) := by decide +kernel
theorem dc_Law_law_550 : decode code 550 = .ok (.iload 5, 2) := by decide +kernel
theorem dc_Law_law_552 : decode code 552 = .ok (.if_icmp .eq 5, 3) := by decide +kernel
theorem dc_Law_law_555 : decode code 555 = .ok (.iconst 0, 1) := by decide +kernel
theorem dc_Law_law_556 : decode code 556 = .ok (.ireturn, 1) := by decide +kernel
theorem dc_Law_law_557 : decode code 557 = .ok (.iload 5, 2) := by decide +kernel
theorem dc_Law_law_559 : decode code 559 = .ok (.ifCond .ne 15, 3) := by decide +kernel
theorem dc_Law_law_562 : decode code 562 = .ok (.aload_n 3, 1) := by decide +kernel
theorem dc_Law_law_563 : decode code 563 = .ok (.iconst 0, 1) := by decide +kernel
theorem dc_Law_law_564 : decode code 564 = .ok (.laload, 1) := by decide +kernel
theorem dc_Law_law_565 : decode code 565 = .ok (.iload 6, 2) := by decide +kernel
theorem dc_Law_law_567 : decode code 567 = .ok (.i2l, 1) := by decide +kernel
theorem dc_Law_law_568 : decode code 568 = .ok (.lcmp, 1) := by decide +kernel
theorem dc_Law_law_569 : decode code 569 = .ok (.ifCond .eq 5, 3) := by decide +kernel
theorem dc_Law_law_572 : decode code 572 = .ok (.iconst 0, 1) := by decide +kernel
theorem dc_Law_law_573 : decode code 573 = .ok (.ireturn, 1) := by decide +kernel
theorem dc_Law_law_574 : decode code 574 = .ok (.goto 414, 3) := by decide +kernel
theorem dc_Law_law_577 : decode code 577 = .ok (.aload_n 1, 1) := by decide +kernel
theorem dc_Law_law_578 : decode code 578 = .ok (.invokevirtual 92, 3) := by decide +kernel
theorem dc_Law_law_581 : decode code 581 = .ok (.aload_n 2, 1) := by decide +kernel
theorem dc_Law_law_582 : decode code 582 = .ok (.invokevirtual 95, 3) := by decide +kernel
theorem dc_Law_law_585 : decode code 585 = .ok (.if_icmp .eq 403, 3) := by decide +kernel
theorem dc_Law_law_588 : decode code 588 = .ok (.iconst 0, 1) := by decide +kernel
theorem dc_Law_law_589 : decode code 589 = .ok (.ireturn, 1) := by decide +kernel
theorem dc_Law_law_590 : decode code 590 = .ok (.aload_n 1, 1) := by decide +kernel
theorem dc_Law_law_591 : decode code 591 = .ok (.invokevirtual 96, 3) := by decide +kernel
theorem dc_Law_law_594 : decode code 594 = .ok (.aload_n 2, 1) := by decide +kernel
theorem dc_Law_law_595 : decode code 595 = .ok (.invokevirtual 99, 3) := by decide +kernel
theorem dc_Law_law_598 : decode code 598 = .ok (.if_icmp .eq 390, 3) := by decide +kernel
theorem dc_Law_law_601 : decode code 601 = .ok (.iconst 0, 1) := by decide +kernel
theorem dc_Law_law_602 : decode code 602 = .ok (.ireturn, 1) := by decide +kernel
theorem dc_Law_law_603 : decode code 603 = .ok (.aload_n 1, 1) := by decide +kernel
theorem dc_Law_law_604 : decode code 604 = .ok (.aload_n 0, 1) := by decide +kernel
theorem dc_Law_law_605 : decode code 605 = .ok (.iload 4, 2) := by decide +kernel
theorem dc_Law_law_607 : decode code 607 = .ok (.iconst 1, 1) := by decide +kernel
theorem dc_Law_law_608 : decode code 608 = .ok (.iadd, 1) := by decide +kernel
theorem dc_Law_law_609 : decode code 609 = .ok (.iaload, 1) := by decide +kernel
theorem dc_Law_law_610 : decode code 610 = .ok (.aload_n 0, 1) := by decide +kernel
theorem dc_Law_law_611 : decode code 611 = .ok (.iload 4, 2) := by decide +kernel
theorem dc_Law_law_613 : decode code 613 = .ok (.iconst 2, 1) := by decide +kernel
theorem dc_Law_law_614 : decode code 614 = .ok (.iadd, 1) := by decide +kernel
theorem dc_Law_law_615 : decode code 615 = .ok (.iaload, 1) := by decide +kernel
theorem dc_Law_law_616 : decode code 616 = .ok (.aload_n 3, 1) := by decide +kernel
theorem dc_Law_law_617 : decode code 617 = .ok (.invokestatic 100, 3) := by decide +kernel
theorem dc_Law_law_620 : decode code 620 = .ok (.istore 5, 2) := by decide +kernel
theorem dc_Law_law_622 : decode code 622 = .ok (.aload_n 2, 1) := by decide +kernel
theorem dc_Law_law_623 : decode code 623 = .ok (.aload_n 0, 1) := by decide +kernel
theorem dc_Law_law_624 : decode code 624 = .ok (.iload 4, 2) := by decide +kernel
theorem dc_Law_law_626 : decode code 626 = .ok (.iconst 1, 1) := by decide +kernel
theorem dc_Law_law_627 : decode code 627 = .ok (.iadd, 1) := by decide +kernel
theorem dc_Law_law_628 : decode code 628 = .ok (.iaload, 1) := by decide +kernel
theorem dc_Law_law_629 : decode code 629 = .ok (.aload_n 0, 1) := by decide +kernel
theorem dc_Law_law_630 : decode code 630 = .ok (.iload 4, 2) := by decide +kernel
theorem dc_Law_law_632 : decode code 632 = .ok (.iconst 2, 1) := by decide +kernel
theorem dc_Law_law_633 : decode code 633 = .ok (.iadd, 1) := by decide +kernel
theorem dc_Law_law_634 : decode code 634 = .ok (.iaload, 1) := by decide +kernel
theorem dc_Law_law_635 : decode code 635 = .ok (.invokevirtual 103, 3) := by decide +kernel
theorem dc_Law_law_638 : decode code 638 = .ok (.istore 6, 2) := by decide +kernel
theorem dc_Law_law_640 : decode code 640 = .ok (.aload_n 2, 1) := by decide +kernel
theorem dc_Law_law_641 : decode code 641 = .ok (.invokevirtual 66, 3) := by decide +kernel
theorem dc_Law_law_644 : decode code 644 = .ok (.iload 5, 2) := by decide +kernel
theorem dc_Law_law_646 : decode code 646 = .ok (.if_icmp .eq 5, 3) := by decide +kernel
theorem dc_Law_law_649 : decode code 649 = .ok (.iconst 0, 1) := by decide +kernel
theorem dc_Law_law_650 : decode code 650 = .ok (.ireturn, 1) := by decide +kernel
theorem dc_Law_law_651 : decode code 651 = .ok (.iload 5, 2) := by decide +kernel
theorem dc_Law_law_653 : decode code 653 = .ok (.ifCond .ne 15, 3) := by decide +kernel
theorem dc_Law_law_656 : decode code 656 = .ok (.aload_n 3, 1) := by decide +kernel
theorem dc_Law_law_657 : decode code 657 = .ok (.iconst 0, 1) := by decide +kernel
theorem dc_Law_law_658 : decode code 658 = .ok (.laload, 1) := by decide +kernel
theorem dc_Law_law_659 : decode code 659 = .ok (.iload 6, 2) := by decide +kernel
theorem dc_Law_law_661 : decode code 661 = .ok (.i2l, 1) := by decide +kernel
theorem dc_Law_law_662 : decode code 662 = .ok (.lcmp, 1) := by decide +kernel
theorem dc_Law_law_663 : decode code 663 = .ok (.ifCond .eq 5, 3) := by decide +kernel
theorem dc_Law_law_666 : decode code 666 = .ok (.iconst 0, 1) := by decide +kernel
theorem dc_Law_law_667 : decode code 667 = .ok (.ireturn, 1) := by decide +kernel
theorem dc_Law_law_668 : decode code 668 = .ok (.goto 320, 3) := by decide +kernel
theorem dc_Law_law_671 : decode code 671 = .ok (.aload_n 1, 1) := by decide +kernel
theorem dc_Law_law_672 : decode code 672 = .ok (.invokevirtual 104, 3) := by decide +kernel
theorem dc_Law_law_675 : decode code 675 = .ok (.aload_n 2, 1) := by decide +kernel
theorem dc_Law_law_676 : decode code 676 = .ok (.invokevirtual 107, 3) := by decide +kernel
theorem dc_Law_law_679 : decode code 679 = .ok (.if_icmp .eq 309, 3) := by decide +kernel
theorem dc_Law_law_682 : decode code 682 = .ok (.iconst 0, 1) := by decide +kernel
theorem dc_Law_law_683 : decode code 683 = .ok (.ireturn, 1) := by decide +kernel
theorem dc_Law_law_684 : decode code 684 = .ok (.aload_n 1, 1) := by decide +kernel
theorem dc_Law_law_685 : decode code 685 = .ok (.aload_n 0, 1) := by decide +kernel
theorem dc_Law_law_686 : decode code 686 = .ok (.iload 4, 2) := by decide +kernel
theorem dc_Law_law_688 : decode code 688 = .ok (.iconst 1, 1) := by decide +kernel
theorem dc_Law_law_689 : decode code 689 = .ok (.iadd, 1) := by decide +kernel
theorem dc_Law_law_690 : decode code 690 = .ok (.iaload, 1) := by decide +kernel
theorem dc_Law_law_691 : decode code 691 = .ok (.aload_n 0, 1) := by decide +kernel
theorem dc_Law_law_692 : decode code 692 = .ok (.iload 4, 2) := by decide +kernel
theorem dc_Law_law_694 : decode code 694 = .ok (.iconst 2, 1) := by decide +kernel
theorem dc_Law_law_695 : decode code 695 = .ok (.iadd, 1) := by decide +kernel
theorem dc_Law_law_696 : decode code 696 = .ok (.iaload, 1) := by decide +kernel
theorem dc_Law_law_697 : decode code 697 = .ok (.aload_n 3, 1) := by decide +kernel
theorem dc_Law_law_698 : decode code 698 = .ok (.invokestatic 108, 3) := by decide +kernel
theorem dc_Law_law_701 : decode code 701 = .ok (.istore 5, 2) := by decide +kernel
theorem dc_Law_law_703 : decode code 703 = .ok (.aload_n 2, 1) := by decide +kernel
theorem dc_Law_law_704 : decode code 704 = .ok (.aload_n 0, 1) := by decide +kernel
theorem dc_Law_law_705 : decode code 705 = .ok (.iload 4, 2) := by decide +kernel
theorem dc_Law_law_707 : decode code 707 = .ok (.iconst 1, 1) := by decide +kernel
theorem dc_Law_law_708 : decode code 708 = .ok (.iadd, 1) := by decide +kernel
theorem dc_Law_law_709 : decode code 709 = .ok (.iaload, 1) := by decide +kernel
theorem dc_Law_law_710 : decode code 710 = .ok (.aload_n 0, 1) := by decide +kernel
theorem dc_Law_law_711 : decode code 711 = .ok (.iload 4, 2) := by decide +kernel
theorem dc_Law_law_713 : decode code 713 = .ok (.iconst 2, 1) := by decide +kernel
theorem dc_Law_law_714 : decode code 714 = .ok (.iadd, 1) := by decide +kernel
theorem dc_Law_law_715 : decode code 715 = .ok (.iaload, 1) := by decide +kernel
theorem dc_Law_law_716 : decode code 716 = .ok (.invokevirtual 110, 3) := by decide +kernel
theorem dc_Law_law_719 : decode code 719 = .ok (.istore 6, 2) := by decide +kernel
theorem dc_Law_law_721 : decode code 721 = .ok (.aload_n 2, 1) := by decide +kernel
theorem dc_Law_law_722 : decode code 722 = .ok (.invokevirtual 66, 3) := by decide +kernel
theorem dc_Law_law_725 : decode code 725 = .ok (.iload 5, 2) := by decide +kernel
theorem dc_Law_law_727 : decode code 727 = .ok (.if_icmp .eq 5, 3) := by decide +kernel
theorem dc_Law_law_730 : decode code 730 = .ok (.iconst 0, 1) := by decide +kernel
theorem dc_Law_law_731 : decode code 731 = .ok (.ireturn, 1) := by decide +kernel
theorem dc_Law_law_732 : decode code 732 = .ok (.iload 5, 2) := by decide +kernel
theorem dc_Law_law_734 : decode code 734 = .ok (.ifCond .ne 15, 3) := by decide +kernel
theorem dc_Law_law_737 : decode code 737 = .ok (.aload_n 3, 1) := by decide +kernel
theorem dc_Law_law_738 : decode code 738 = .ok (.iconst 0, 1) := by decide +kernel
theorem dc_Law_law_739 : decode code 739 = .ok (.laload, 1) := by decide +kernel
theorem dc_Law_law_740 : decode code 740 = .ok (.iload 6, 2) := by decide +kernel
theorem dc_Law_law_742 : decode code 742 = .ok (.i2l, 1) := by decide +kernel
theorem dc_Law_law_743 : decode code 743 = .ok (.lcmp, 1) := by decide +kernel
theorem dc_Law_law_744 : decode code 744 = .ok (.ifCond .eq 5, 3) := by decide +kernel
theorem dc_Law_law_747 : decode code 747 = .ok (.iconst 0, 1) := by decide +kernel
theorem dc_Law_law_748 : decode code 748 = .ok (.ireturn, 1) := by decide +kernel
theorem dc_Law_law_749 : decode code 749 = .ok (.goto 239, 3) := by decide +kernel
theorem dc_Law_law_752 : decode code 752 = .ok (.aload_n 1, 1) := by decide +kernel
theorem dc_Law_law_753 : decode code 753 = .ok (.aload_n 0, 1) := by decide +kernel
theorem dc_Law_law_754 : decode code 754 = .ok (.iload 4, 2) := by decide +kernel
theorem dc_Law_law_756 : decode code 756 = .ok (.iconst 1, 1) := by decide +kernel
theorem dc_Law_law_757 : decode code 757 = .ok (.iadd, 1) := by decide +kernel
theorem dc_Law_law_758 : decode code 758 = .ok (.iaload, 1) := by decide +kernel
theorem dc_Law_law_759 : decode code 759 = .ok (.aload_n 3, 1) := by decide +kernel
theorem dc_Law_law_760 : decode code 760 = .ok (.invokestatic 111, 3) := by decide +kernel
theorem dc_Law_law_763 : decode code 763 = .ok (.istore 5, 2) := by decide +kernel
theorem dc_Law_law_765 : decode code 765 = .ok (.aload_n 2, 1) := by decide +kernel
theorem dc_Law_law_766 : decode code 766 = .ok (.aload_n 0, 1) := by decide +kernel
theorem dc_Law_law_767 : decode code 767 = .ok (.iload 4, 2) := by decide +kernel
theorem dc_Law_law_769 : decode code 769 = .ok (.iconst 1, 1) := by decide +kernel
theorem dc_Law_law_770 : decode code 770 = .ok (.iadd, 1) := by decide +kernel
theorem dc_Law_law_771 : decode code 771 = .ok (.iaload, 1) := by decide +kernel
theorem dc_Law_law_772 : decode code 772 = .ok (.invokevirtual 113, 3) := by decide +kernel
theorem dc_Law_law_775 : decode code 775 = .ok (.istore 6, 2) := by decide +kernel
theorem dc_Law_law_777 : decode code 777 = .ok (.aload_n 2, 1) := by decide +kernel
theorem dc_Law_law_778 : decode code 778 = .ok (.invokevirtual 66, 3) := by decide +kernel
theorem dc_Law_law_781 : decode code 781 = .ok (.iload 5, 2) := by decide +kernel
theorem dc_Law_law_783 : decode code 783 = .ok (.if_icmp .eq 5, 3) := by decide +kernel
theorem dc_Law_law_786 : decode code 786 = .ok (.iconst 0, 1) := by decide +kernel
theorem dc_Law_law_787 : decode code 787 = .ok (.ireturn, 1) := by decide +kernel
theorem dc_Law_law_788 : decode code 788 = .ok (.iload 5, 2) := by decide +kernel
theorem dc_Law_law_790 : decode code 790 = .ok (.ifCond .ne 15, 3) := by decide +kernel
theorem dc_Law_law_793 : decode code 793 = .ok (.aload_n 3, 1) := by decide +kernel
theorem dc_Law_law_794 : decode code 794 = .ok (.iconst 0, 1) := by decide +kernel
theorem dc_Law_law_795 : decode code 795 = .ok (.laload, 1) := by decide +kernel
theorem dc_Law_law_796 : decode code 796 = .ok (.iload 6, 2) := by decide +kernel
theorem dc_Law_law_798 : decode code 798 = .ok (.i2l, 1) := by decide +kernel
theorem dc_Law_law_799 : decode code 799 = .ok (.lcmp, 1) := by decide +kernel
theorem dc_Law_law_800 : decode code 800 = .ok (.ifCond .eq 5, 3) := by decide +kernel
theorem dc_Law_law_803 : decode code 803 = .ok (.iconst 0, 1) := by decide +kernel
theorem dc_Law_law_804 : decode code 804 = .ok (.ireturn, 1) := by decide +kernel
theorem dc_Law_law_805 : decode code 805 = .ok (.goto 183, 3) := by decide +kernel
theorem dc_Law_law_808 : decode code 808 = .ok (.aload_n 1, 1) := by decide +kernel
theorem dc_Law_law_809 : decode code 809 = .ok (.aload_n 0, 1) := by decide +kernel
theorem dc_Law_law_810 : decode code 810 = .ok (.iload 4, 2) := by decide +kernel
theorem dc_Law_law_812 : decode code 812 = .ok (.iconst 1, 1) := by decide +kernel
theorem dc_Law_law_813 : decode code 813 = .ok (.iadd, 1) := by decide +kernel
theorem dc_Law_law_814 : decode code 814 = .ok (.iaload, 1) := by decide +kernel
theorem dc_Law_law_815 : decode code 815 = .ok (.aload_n 3, 1) := by decide +kernel
theorem dc_Law_law_816 : decode code 816 = .ok (.invokestatic 114, 3) := by decide +kernel
theorem dc_Law_law_819 : decode code 819 = .ok (.istore 5, 2) := by decide +kernel
theorem dc_Law_law_821 : decode code 821 = .ok (.aload_n 2, 1) := by decide +kernel
theorem dc_Law_law_822 : decode code 822 = .ok (.aload_n 0, 1) := by decide +kernel
theorem dc_Law_law_823 : decode code 823 = .ok (.iload 4, 2) := by decide +kernel
theorem dc_Law_law_825 : decode code 825 = .ok (.iconst 1, 1) := by decide +kernel
theorem dc_Law_law_826 : decode code 826 = .ok (.iadd, 1) := by decide +kernel
theorem dc_Law_law_827 : decode code 827 = .ok (.iaload, 1) := by decide +kernel
theorem dc_Law_law_828 : decode code 828 = .ok (.invokevirtual 116, 3) := by decide +kernel
theorem dc_Law_law_831 : decode code 831 = .ok (.istore 6, 2) := by decide +kernel
theorem dc_Law_law_833 : decode code 833 = .ok (.aload_n 2, 1) := by decide +kernel
theorem dc_Law_law_834 : decode code 834 = .ok (.invokevirtual 66, 3) := by decide +kernel
theorem dc_Law_law_837 : decode code 837 = .ok (.iload 5, 2) := by decide +kernel
theorem dc_Law_law_839 : decode code 839 = .ok (.if_icmp .eq 5, 3) := by decide +kernel
theorem dc_Law_law_842 : decode code 842 = .ok (.iconst 0, 1) := by decide +kernel
theorem dc_Law_law_843 : decode code 843 = .ok (.ireturn, 1) := by decide +kernel
theorem dc_Law_law_844 : decode code 844 = .ok (.iload 5, 2) := by decide +kernel
theorem dc_Law_law_846 : decode code 846 = .ok (.ifCond .ne 15, 3) := by decide +kernel
theorem dc_Law_law_849 : decode code 849 = .ok (.aload_n 3, 1) := by decide +kernel
theorem dc_Law_law_850 : decode code 850 = .ok (.iconst 0, 1) := by decide +kernel
theorem dc_Law_law_851 : decode code 851 = .ok (.laload, 1) := by decide +kernel
theorem dc_Law_law_852 : decode code 852 = .ok (.iload 6, 2) := by decide +kernel
theorem dc_Law_law_854 : decode code 854 = .ok (.i2l, 1) := by decide +kernel
theorem dc_Law_law_855 : decode code 855 = .ok (.lcmp, 1) := by decide +kernel
theorem dc_Law_law_856 : decode code 856 = .ok (.ifCond .eq 5, 3) := by decide +kernel
theorem dc_Law_law_859 : decode code 859 = .ok (.iconst 0, 1) := by decide +kernel
theorem dc_Law_law_860 : decode code 860 = .ok (.ireturn, 1) := by decide +kernel
theorem dc_Law_law_861 : decode code 861 = .ok (.goto 127, 3) := by decide +kernel
theorem dc_Law_law_864 : decode code 864 = .ok (.aload_n 1, 1) := by decide +kernel
theorem dc_Law_law_865 : decode code 865 = .ok (.aload_n 0, 1) := by decide +kernel
theorem dc_Law_law_866 : decode code 866 = .ok (.iload 4, 2) := by decide +kernel
theorem dc_Law_law_868 : decode code 868 = .ok (.iconst 1, 1) := by decide +kernel
theorem dc_Law_law_869 : decode code 869 = .ok (.iadd, 1) := by decide +kernel
theorem dc_Law_law_870 : decode code 870 = .ok (.iaload, 1) := by decide +kernel
theorem dc_Law_law_871 : decode code 871 = .ok (.aload_n 0, 1) := by decide +kernel
theorem dc_Law_law_872 : decode code 872 = .ok (.iload 4, 2) := by decide +kernel
theorem dc_Law_law_874 : decode code 874 = .ok (.iconst 2, 1) := by decide +kernel
theorem dc_Law_law_875 : decode code 875 = .ok (.iadd, 1) := by decide +kernel
theorem dc_Law_law_876 : decode code 876 = .ok (.iaload, 1) := by decide +kernel
theorem dc_Law_law_877 : decode code 877 = .ok (.aload_n 3, 1) := by decide +kernel
theorem dc_Law_law_878 : decode code 878 = .ok (.invokestatic 117, 3) := by decide +kernel
theorem dc_Law_law_881 : decode code 881 = .ok (.istore 5, 2) := by decide +kernel
theorem dc_Law_law_883 : decode code 883 = .ok (.aload_n 2, 1) := by decide +kernel
theorem dc_Law_law_884 : decode code 884 = .ok (.aload_n 0, 1) := by decide +kernel
theorem dc_Law_law_885 : decode code 885 = .ok (.iload 4, 2) := by decide +kernel
theorem dc_Law_law_887 : decode code 887 = .ok (.iconst 1, 1) := by decide +kernel
theorem dc_Law_law_888 : decode code 888 = .ok (.iadd, 1) := by decide +kernel
theorem dc_Law_law_889 : decode code 889 = .ok (.iaload, 1) := by decide +kernel
theorem dc_Law_law_890 : decode code 890 = .ok (.aload_n 0, 1) := by decide +kernel
theorem dc_Law_law_891 : decode code 891 = .ok (.iload 4, 2) := by decide +kernel
theorem dc_Law_law_893 : decode code 893 = .ok (.iconst 2, 1) := by decide +kernel
theorem dc_Law_law_894 : decode code 894 = .ok (.iadd, 1) := by decide +kernel
theorem dc_Law_law_895 : decode code 895 = .ok (.iaload, 1) := by decide +kernel
theorem dc_Law_law_896 : decode code 896 = .ok (.invokevirtual 119, 3) := by decide +kernel
theorem dc_Law_law_899 : decode code 899 = .ok (.istore 6, 2) := by decide +kernel
theorem dc_Law_law_901 : decode code 901 = .ok (.aload_n 2, 1) := by decide +kernel
theorem dc_Law_law_902 : decode code 902 = .ok (.invokevirtual 66, 3) := by decide +kernel
theorem dc_Law_law_905 : decode code 905 = .ok (.iload 5, 2) := by decide +kernel
theorem dc_Law_law_907 : decode code 907 = .ok (.if_icmp .eq 5, 3) := by decide +kernel
theorem dc_Law_law_910 : decode code 910 = .ok (.iconst 0, 1) := by decide +kernel
theorem dc_Law_law_911 : decode code 911 = .ok (.ireturn, 1) := by decide +kernel
theorem dc_Law_law_912 : decode code 912 = .ok (.iload 5, 2) := by decide +kernel
theorem dc_Law_law_914 : decode code 914 = .ok (.ifCond .ne 15, 3) := by decide +kernel
theorem dc_Law_law_917 : decode code 917 = .ok (.aload_n 3, 1) := by decide +kernel
theorem dc_Law_law_918 : decode code 918 = .ok (.iconst 0, 1) := by decide +kernel
theorem dc_Law_law_919 : decode code 919 = .ok (.laload, 1) := by decide +kernel
theorem dc_Law_law_920 : decode code 920 = .ok (.iload 6, 2) := by decide +kernel
theorem dc_Law_law_922 : decode code 922 = .ok (.i2l, 1) := by decide +kernel
theorem dc_Law_law_923 : decode code 923 = .ok (.lcmp, 1) := by decide +kernel
theorem dc_Law_law_924 : decode code 924 = .ok (.ifCond .eq 5, 3) := by decide +kernel
theorem dc_Law_law_927 : decode code 927 = .ok (.iconst 0, 1) := by decide +kernel
theorem dc_Law_law_928 : decode code 928 = .ok (.ireturn, 1) := by decide +kernel
theorem dc_Law_law_929 : decode code 929 = .ok (.goto 59, 3) := by decide +kernel
theorem dc_Law_law_932 : decode code 932 = .ok (.aload_n 1, 1) := by decide +kernel
theorem dc_Law_law_933 : decode code 933 = .ok (.aload_n 0, 1) := by decide +kernel
theorem dc_Law_law_934 : decode code 934 = .ok (.iload 4, 2) := by decide +kernel
theorem dc_Law_law_936 : decode code 936 = .ok (.iconst 1, 1) := by decide +kernel
theorem dc_Law_law_937 : decode code 937 = .ok (.iadd, 1) := by decide +kernel
theorem dc_Law_law_938 : decode code 938 = .ok (.iaload, 1) := by decide +kernel
theorem dc_Law_law_939 : decode code 939 = .ok (.aload_n 3, 1) := by decide +kernel
theorem dc_Law_law_940 : decode code 940 = .ok (.invokestatic 120, 3) := by decide +kernel
theorem dc_Law_law_943 : decode code 943 = .ok (.istore 5, 2) := by decide +kernel
theorem dc_Law_law_945 : decode code 945 = .ok (.aload_n 2, 1) := by decide +kernel
theorem dc_Law_law_946 : decode code 946 = .ok (.aload_n 0, 1) := by decide +kernel
theorem dc_Law_law_947 : decode code 947 = .ok (.iload 4, 2) := by decide +kernel
theorem dc_Law_law_949 : decode code 949 = .ok (.iconst 1, 1) := by decide +kernel
theorem dc_Law_law_950 : decode code 950 = .ok (.iadd, 1) := by decide +kernel
theorem dc_Law_law_951 : decode code 951 = .ok (.iaload, 1) := by decide +kernel
theorem dc_Law_law_952 : decode code 952 = .ok (.invokevirtual 122, 3) := by decide +kernel
theorem dc_Law_law_955 : decode code 955 = .ok (.istore 6, 2) := by decide +kernel
theorem dc_Law_law_957 : decode code 957 = .ok (.aload_n 2, 1) := by decide +kernel
theorem dc_Law_law_958 : decode code 958 = .ok (.invokevirtual 66, 3) := by decide +kernel
theorem dc_Law_law_961 : decode code 961 = .ok (.iload 5, 2) := by decide +kernel
theorem dc_Law_law_963 : decode code 963 = .ok (.if_icmp .eq 5, 3) := by decide +kernel
theorem dc_Law_law_966 : decode code 966 = .ok (.iconst 0, 1) := by decide +kernel
theorem dc_Law_law_967 : decode code 967 = .ok (.ireturn, 1) := by decide +kernel
theorem dc_Law_law_968 : decode code 968 = .ok (.iload 5, 2) := by decide +kernel
theorem dc_Law_law_970 : decode code 970 = .ok (.ifCond .ne 15, 3) := by decide +kernel
theorem dc_Law_law_973 : decode code 973 = .ok (.aload_n 3, 1) := by decide +kernel
theorem dc_Law_law_974 : decode code 974 = .ok (.iconst 0, 1) := by decide +kernel
theorem dc_Law_law_975 : decode code 975 = .ok (.laload, 1) := by decide +kernel
theorem dc_Law_law_976 : decode code 976 = .ok (.iload 6, 2) := by decide +kernel
theorem dc_Law_law_978 : decode code 978 = .ok (.i2l, 1) := by decide +kernel
theorem dc_Law_law_979 : decode code 979 = .ok (.lcmp, 1) := by decide +kernel
theorem dc_Law_law_980 : decode code 980 = .ok (.ifCond .eq 5, 3) := by decide +kernel
theorem dc_Law_law_983 : decode code 983 = .ok (.iconst 0, 1) := by decide +kernel
theorem dc_Law_law_984 : decode code 984 = .ok (.ireturn, 1) := by decide +kernel
theorem dc_Law_law_985 : decode code 985 = .ok (.goto 3, 3) := by decide +kernel
theorem dc_Law_law_988 : decode code 988 = .ok (.iinc 4 6, 3) := by decide +kernel
theorem dc_Law_law_991 : decode code 991 = .ok (.goto (-968), 3) := by decide +kernel
theorem dc_Law_law_994 : decode code 994 = .ok (.iconst 1, 1) := by decide +kernel
theorem dc_Law_law_995 : decode code 995 = .ok (.ireturn, 1) := by decide +kernel
end
section
/-! calls by arity; System.arraycopy between int arrays (one and the same array, too) -/
theorem na_copy : Cond.native arraycopyName ∈ wl_ALL := wl_mem 362 (by decide +kernel) rfl
theorem sm_copy : Cond.static arraycopyName ∈ wl_ALL := wl_mem 361 (by decide +kernel) rfl
theorem in_Sys : Cond.initialized "java/lang/System" ∈ wl_ALL := wl_mem 80 (by decide +kernel) rfl
/-- n ints of cell src from place sp on, laid into cell dst from place dp on -/
def wf_cp (i : Wi) (src dst sp dp n : Nat) : Wi := fun b k => if b = dst ∧ dp ≤ k ∧ k < dp + n then i src (sp + (k - dp)) else i b k
theorem wf_cp_in {i : Wi} {src dst sp dp n k : Nat} (h : dp ≤ k) (h2 : k < dp + n) : wf_cp i src dst sp dp n dst k = i src (sp + (k - dp)) := if_pos ⟨rfl, h, h2⟩
theorem wf_cp_a {i : Wi} {src dst sp dp n b k : Nat} (h : b ≠ dst) : wf_cp i src dst sp dp n b k = i b k := if_neg fun q => h q.1
theorem wf_cp_k {i : Wi} {src dst sp dp n b k : Nat} (h : ¬ (dp ≤ k ∧ k < dp + n)) : wf_cp i src dst sp dp n b k = i b k := if_neg fun q => h q.2
section WfCalls
variable {l : Launch} {E : We} {n0 : Nat} {M : Wm} {d mc ms : Nat} {Q : Wq} {bk bn pc : Nat} {L : List (Nat × Value)} {st : List Value} {nx : Nat} {t : Wt} {r : Wr} {i : Wi} {g : Wl}
theorem wf_iv0 {M' : Wm} {idx b c mc' ms' bk' bn' : Nat} {Q' : Wq} (hd : decode M.2.1 pc = .ok (.invokevirtual idx, 3)) (hT : wf_tg M' 0) (hl : Cond.methodLink M.1.cls idx M'.1 ∈ wl_ALL) (hi : Cond.instanceMethod M'.1 ∈ wl_ALL) (hs : Cond.selects M'.1.cls M'.1 M'.1 ∈ wl_ALL) (hc : ∃ q : vw_C, wl_CL[c]? = some q ∧ q.1 = M'.1.cls) (hb : t b = some (.inl c)) (hrm : (st.map fun v => v.category).sum ≤ 8) (hk : bk' + mc' ≤ bk) (hn : bn' + ms' ≤ bn) (hC : Ct l E n0 M' d mc' ms' [.ref b] nx t r i g Q') (hnt : ∀ X nx t r i g, ¬ Q' (.inr X) nx t r i g) (kk : ∀ v nx t r i g, Q' (.inl v) nx t r i g → Wf l E n0 M (d + 1) mc ms Q bk' bn' (pc + 3) L (v.toList ++ st) nx t r i g) : Wf l E n0 M (d + 1) mc ms Q bk bn pc L (.ref b :: st) nx t r i g :=
  wf_iv (As := []) hd hT hl hi hs hc hb hrm hk hn hC hnt kk
theorem wf_is0 {M' : Wm} {idx mc' ms' bk' bn' : Nat} {Q' : Wq} (hd : decode M.2.1 pc = .ok (.invokestatic idx, 3)) (hT : wf_tg M' 0) (hl : Cond.methodLink M.1.cls idx M'.1 ∈ wl_ALL) (hs : Cond.static M'.1 ∈ wl_ALL) (hrm : (st.map fun v => v.category).sum ≤ 8) (hk : bk' + mc' ≤ bk) (hn : bn' + ms' ≤ bn) (hC : Ct l E n0 M' d mc' ms' [] nx t r i g Q') (hnt : ∀ X nx t r i g, ¬ Q' (.inr X) nx t r i g) (kk : ∀ v nx t r i g, Q' (.inl v) nx t r i g → Wf l E n0 M (d + 1) mc ms Q bk' bn' (pc + 3) L (v.toList ++ st) nx t r i g) : Wf l E n0 M (d + 1) mc ms Q bk bn pc L (st) nx t r i g :=
  wf_is (As := []) hd hT hl hs hrm hk hn hC hnt kk
theorem wf_ii0 {y : MethodName} {cc : ByteArray} {nL idx b mc' ms' bk' bn' : Nat} {Q' : Wq} (hd : decode M.2.1 pc = .ok (.invokespecial idx, 3)) (hT : wf_tg (y, cc, nL, none) 0) (hl : Cond.methodLink M.1.cls idx y ∈ wl_ALL) (hi : Cond.instanceMethod y ∈ wl_ALL) (hy : y.name = "<init>") (hrm : (st.map fun v => v.category).sum ≤ 8) (hk : bk' + mc' ≤ bk) (hn : bn' + ms' ≤ bn) (hC : Ct l E n0 (y, cc, nL, none) d mc' ms' [.ref b] nx t r i g Q') (hnt : ∀ X nx t r i g, ¬ Q' (.inr X) nx t r i g) (kk : ∀ v nx t r i g, Q' (.inl v) nx t r i g → Wf l E n0 M (d + 1) mc ms Q bk' bn' (pc + 3) L (v.toList ++ st) nx t r i g) : Wf l E n0 M (d + 1) mc ms Q bk bn pc L (.ref b :: st) nx t r i g :=
  wf_ii (As := []) hd hT hl hi hy hrm hk hn hC hnt kk
theorem wf_iv1 {M' : Wm} {idx b c mc' ms' bk' bn' : Nat} {x1 : Value} {Q' : Wq} (hd : decode M.2.1 pc = .ok (.invokevirtual idx, 3)) (hT : wf_tg M' 1) (hl : Cond.methodLink M.1.cls idx M'.1 ∈ wl_ALL) (hi : Cond.instanceMethod M'.1 ∈ wl_ALL) (hs : Cond.selects M'.1.cls M'.1 M'.1 ∈ wl_ALL) (hc : ∃ q : vw_C, wl_CL[c]? = some q ∧ q.1 = M'.1.cls) (hb : t b = some (.inl c)) (hrm : (st.map fun v => v.category).sum ≤ 8) (hk : bk' + mc' ≤ bk) (hn : bn' + ms' ≤ bn) (hC : Ct l E n0 M' d mc' ms' [.ref b, x1] nx t r i g Q') (hnt : ∀ X nx t r i g, ¬ Q' (.inr X) nx t r i g) (kk : ∀ v nx t r i g, Q' (.inl v) nx t r i g → Wf l E n0 M (d + 1) mc ms Q bk' bn' (pc + 3) L (v.toList ++ st) nx t r i g) : Wf l E n0 M (d + 1) mc ms Q bk bn pc L (x1 :: .ref b :: st) nx t r i g :=
  wf_iv (As := [x1]) hd hT hl hi hs hc hb hrm hk hn hC hnt kk
theorem wf_is1 {M' : Wm} {idx mc' ms' bk' bn' : Nat} {x1 : Value} {Q' : Wq} (hd : decode M.2.1 pc = .ok (.invokestatic idx, 3)) (hT : wf_tg M' 1) (hl : Cond.methodLink M.1.cls idx M'.1 ∈ wl_ALL) (hs : Cond.static M'.1 ∈ wl_ALL) (hrm : (st.map fun v => v.category).sum ≤ 8) (hk : bk' + mc' ≤ bk) (hn : bn' + ms' ≤ bn) (hC : Ct l E n0 M' d mc' ms' [x1] nx t r i g Q') (hnt : ∀ X nx t r i g, ¬ Q' (.inr X) nx t r i g) (kk : ∀ v nx t r i g, Q' (.inl v) nx t r i g → Wf l E n0 M (d + 1) mc ms Q bk' bn' (pc + 3) L (v.toList ++ st) nx t r i g) : Wf l E n0 M (d + 1) mc ms Q bk bn pc L (x1 :: st) nx t r i g :=
  wf_is (As := [x1]) hd hT hl hs hrm hk hn hC hnt kk
theorem wf_ii1 {y : MethodName} {cc : ByteArray} {nL idx b mc' ms' bk' bn' : Nat} {x1 : Value} {Q' : Wq} (hd : decode M.2.1 pc = .ok (.invokespecial idx, 3)) (hT : wf_tg (y, cc, nL, none) 1) (hl : Cond.methodLink M.1.cls idx y ∈ wl_ALL) (hi : Cond.instanceMethod y ∈ wl_ALL) (hy : y.name = "<init>") (hrm : (st.map fun v => v.category).sum ≤ 8) (hk : bk' + mc' ≤ bk) (hn : bn' + ms' ≤ bn) (hC : Ct l E n0 (y, cc, nL, none) d mc' ms' [.ref b, x1] nx t r i g Q') (hnt : ∀ X nx t r i g, ¬ Q' (.inr X) nx t r i g) (kk : ∀ v nx t r i g, Q' (.inl v) nx t r i g → Wf l E n0 M (d + 1) mc ms Q bk' bn' (pc + 3) L (v.toList ++ st) nx t r i g) : Wf l E n0 M (d + 1) mc ms Q bk bn pc L (x1 :: .ref b :: st) nx t r i g :=
  wf_ii (As := [x1]) hd hT hl hi hy hrm hk hn hC hnt kk
theorem wf_iv2 {M' : Wm} {idx b c mc' ms' bk' bn' : Nat} {x1 x2 : Value} {Q' : Wq} (hd : decode M.2.1 pc = .ok (.invokevirtual idx, 3)) (hT : wf_tg M' 2) (hl : Cond.methodLink M.1.cls idx M'.1 ∈ wl_ALL) (hi : Cond.instanceMethod M'.1 ∈ wl_ALL) (hs : Cond.selects M'.1.cls M'.1 M'.1 ∈ wl_ALL) (hc : ∃ q : vw_C, wl_CL[c]? = some q ∧ q.1 = M'.1.cls) (hb : t b = some (.inl c)) (hrm : (st.map fun v => v.category).sum ≤ 8) (hk : bk' + mc' ≤ bk) (hn : bn' + ms' ≤ bn) (hC : Ct l E n0 M' d mc' ms' [.ref b, x1, x2] nx t r i g Q') (hnt : ∀ X nx t r i g, ¬ Q' (.inr X) nx t r i g) (kk : ∀ v nx t r i g, Q' (.inl v) nx t r i g → Wf l E n0 M (d + 1) mc ms Q bk' bn' (pc + 3) L (v.toList ++ st) nx t r i g) : Wf l E n0 M (d + 1) mc ms Q bk bn pc L (x2 :: x1 :: .ref b :: st) nx t r i g :=
  wf_iv (As := [x1, x2]) hd hT hl hi hs hc hb hrm hk hn hC hnt kk
theorem wf_is2 {M' : Wm} {idx mc' ms' bk' bn' : Nat} {x1 x2 : Value} {Q' : Wq} (hd : decode M.2.1 pc = .ok (.invokestatic idx, 3)) (hT : wf_tg M' 2) (hl : Cond.methodLink M.1.cls idx M'.1 ∈ wl_ALL) (hs : Cond.static M'.1 ∈ wl_ALL) (hrm : (st.map fun v => v.category).sum ≤ 8) (hk : bk' + mc' ≤ bk) (hn : bn' + ms' ≤ bn) (hC : Ct l E n0 M' d mc' ms' [x1, x2] nx t r i g Q') (hnt : ∀ X nx t r i g, ¬ Q' (.inr X) nx t r i g) (kk : ∀ v nx t r i g, Q' (.inl v) nx t r i g → Wf l E n0 M (d + 1) mc ms Q bk' bn' (pc + 3) L (v.toList ++ st) nx t r i g) : Wf l E n0 M (d + 1) mc ms Q bk bn pc L (x2 :: x1 :: st) nx t r i g :=
  wf_is (As := [x1, x2]) hd hT hl hs hrm hk hn hC hnt kk
theorem wf_ii2 {y : MethodName} {cc : ByteArray} {nL idx b mc' ms' bk' bn' : Nat} {x1 x2 : Value} {Q' : Wq} (hd : decode M.2.1 pc = .ok (.invokespecial idx, 3)) (hT : wf_tg (y, cc, nL, none) 2) (hl : Cond.methodLink M.1.cls idx y ∈ wl_ALL) (hi : Cond.instanceMethod y ∈ wl_ALL) (hy : y.name = "<init>") (hrm : (st.map fun v => v.category).sum ≤ 8) (hk : bk' + mc' ≤ bk) (hn : bn' + ms' ≤ bn) (hC : Ct l E n0 (y, cc, nL, none) d mc' ms' [.ref b, x1, x2] nx t r i g Q') (hnt : ∀ X nx t r i g, ¬ Q' (.inr X) nx t r i g) (kk : ∀ v nx t r i g, Q' (.inl v) nx t r i g → Wf l E n0 M (d + 1) mc ms Q bk' bn' (pc + 3) L (v.toList ++ st) nx t r i g) : Wf l E n0 M (d + 1) mc ms Q bk bn pc L (x2 :: x1 :: .ref b :: st) nx t r i g :=
  wf_ii (As := [x1, x2]) hd hT hl hi hy hrm hk hn hC hnt kk
theorem wf_iv3 {M' : Wm} {idx b c mc' ms' bk' bn' : Nat} {x1 x2 x3 : Value} {Q' : Wq} (hd : decode M.2.1 pc = .ok (.invokevirtual idx, 3)) (hT : wf_tg M' 3) (hl : Cond.methodLink M.1.cls idx M'.1 ∈ wl_ALL) (hi : Cond.instanceMethod M'.1 ∈ wl_ALL) (hs : Cond.selects M'.1.cls M'.1 M'.1 ∈ wl_ALL) (hc : ∃ q : vw_C, wl_CL[c]? = some q ∧ q.1 = M'.1.cls) (hb : t b = some (.inl c)) (hrm : (st.map fun v => v.category).sum ≤ 8) (hk : bk' + mc' ≤ bk) (hn : bn' + ms' ≤ bn) (hC : Ct l E n0 M' d mc' ms' [.ref b, x1, x2, x3] nx t r i g Q') (hnt : ∀ X nx t r i g, ¬ Q' (.inr X) nx t r i g) (kk : ∀ v nx t r i g, Q' (.inl v) nx t r i g → Wf l E n0 M (d + 1) mc ms Q bk' bn' (pc + 3) L (v.toList ++ st) nx t r i g) : Wf l E n0 M (d + 1) mc ms Q bk bn pc L (x3 :: x2 :: x1 :: .ref b :: st) nx t r i g :=
  wf_iv (As := [x1, x2, x3]) hd hT hl hi hs hc hb hrm hk hn hC hnt kk
theorem wf_is3 {M' : Wm} {idx mc' ms' bk' bn' : Nat} {x1 x2 x3 : Value} {Q' : Wq} (hd : decode M.2.1 pc = .ok (.invokestatic idx, 3)) (hT : wf_tg M' 3) (hl : Cond.methodLink M.1.cls idx M'.1 ∈ wl_ALL) (hs : Cond.static M'.1 ∈ wl_ALL) (hrm : (st.map fun v => v.category).sum ≤ 8) (hk : bk' + mc' ≤ bk) (hn : bn' + ms' ≤ bn) (hC : Ct l E n0 M' d mc' ms' [x1, x2, x3] nx t r i g Q') (hnt : ∀ X nx t r i g, ¬ Q' (.inr X) nx t r i g) (kk : ∀ v nx t r i g, Q' (.inl v) nx t r i g → Wf l E n0 M (d + 1) mc ms Q bk' bn' (pc + 3) L (v.toList ++ st) nx t r i g) : Wf l E n0 M (d + 1) mc ms Q bk bn pc L (x3 :: x2 :: x1 :: st) nx t r i g :=
  wf_is (As := [x1, x2, x3]) hd hT hl hs hrm hk hn hC hnt kk
theorem wf_iv4 {M' : Wm} {idx b c mc' ms' bk' bn' : Nat} {x1 x2 x3 x4 : Value} {Q' : Wq} (hd : decode M.2.1 pc = .ok (.invokevirtual idx, 3)) (hT : wf_tg M' 4) (hl : Cond.methodLink M.1.cls idx M'.1 ∈ wl_ALL) (hi : Cond.instanceMethod M'.1 ∈ wl_ALL) (hs : Cond.selects M'.1.cls M'.1 M'.1 ∈ wl_ALL) (hc : ∃ q : vw_C, wl_CL[c]? = some q ∧ q.1 = M'.1.cls) (hb : t b = some (.inl c)) (hrm : (st.map fun v => v.category).sum ≤ 8) (hk : bk' + mc' ≤ bk) (hn : bn' + ms' ≤ bn) (hC : Ct l E n0 M' d mc' ms' [.ref b, x1, x2, x3, x4] nx t r i g Q') (hnt : ∀ X nx t r i g, ¬ Q' (.inr X) nx t r i g) (kk : ∀ v nx t r i g, Q' (.inl v) nx t r i g → Wf l E n0 M (d + 1) mc ms Q bk' bn' (pc + 3) L (v.toList ++ st) nx t r i g) : Wf l E n0 M (d + 1) mc ms Q bk bn pc L (x4 :: x3 :: x2 :: x1 :: .ref b :: st) nx t r i g :=
  wf_iv (As := [x1, x2, x3, x4]) hd hT hl hi hs hc hb hrm hk hn hC hnt kk
theorem wf_is4 {M' : Wm} {idx mc' ms' bk' bn' : Nat} {x1 x2 x3 x4 : Value} {Q' : Wq} (hd : decode M.2.1 pc = .ok (.invokestatic idx, 3)) (hT : wf_tg M' 4) (hl : Cond.methodLink M.1.cls idx M'.1 ∈ wl_ALL) (hs : Cond.static M'.1 ∈ wl_ALL) (hrm : (st.map fun v => v.category).sum ≤ 8) (hk : bk' + mc' ≤ bk) (hn : bn' + ms' ≤ bn) (hC : Ct l E n0 M' d mc' ms' [x1, x2, x3, x4] nx t r i g Q') (hnt : ∀ X nx t r i g, ¬ Q' (.inr X) nx t r i g) (kk : ∀ v nx t r i g, Q' (.inl v) nx t r i g → Wf l E n0 M (d + 1) mc ms Q bk' bn' (pc + 3) L (v.toList ++ st) nx t r i g) : Wf l E n0 M (d + 1) mc ms Q bk bn pc L (x4 :: x3 :: x2 :: x1 :: st) nx t r i g :=
  wf_is (As := [x1, x2, x3, x4]) hd hT hl hs hrm hk hn hC hnt kk
theorem wf_iv5 {M' : Wm} {idx b c mc' ms' bk' bn' : Nat} {x1 x2 x3 x4 x5 : Value} {Q' : Wq} (hd : decode M.2.1 pc = .ok (.invokevirtual idx, 3)) (hT : wf_tg M' 5) (hl : Cond.methodLink M.1.cls idx M'.1 ∈ wl_ALL) (hi : Cond.instanceMethod M'.1 ∈ wl_ALL) (hs : Cond.selects M'.1.cls M'.1 M'.1 ∈ wl_ALL) (hc : ∃ q : vw_C, wl_CL[c]? = some q ∧ q.1 = M'.1.cls) (hb : t b = some (.inl c)) (hrm : (st.map fun v => v.category).sum ≤ 8) (hk : bk' + mc' ≤ bk) (hn : bn' + ms' ≤ bn) (hC : Ct l E n0 M' d mc' ms' [.ref b, x1, x2, x3, x4, x5] nx t r i g Q') (hnt : ∀ X nx t r i g, ¬ Q' (.inr X) nx t r i g) (kk : ∀ v nx t r i g, Q' (.inl v) nx t r i g → Wf l E n0 M (d + 1) mc ms Q bk' bn' (pc + 3) L (v.toList ++ st) nx t r i g) : Wf l E n0 M (d + 1) mc ms Q bk bn pc L (x5 :: x4 :: x3 :: x2 :: x1 :: .ref b :: st) nx t r i g :=
  wf_iv (As := [x1, x2, x3, x4, x5]) hd hT hl hi hs hc hb hrm hk hn hC hnt kk
theorem wf_is5 {M' : Wm} {idx mc' ms' bk' bn' : Nat} {x1 x2 x3 x4 x5 : Value} {Q' : Wq} (hd : decode M.2.1 pc = .ok (.invokestatic idx, 3)) (hT : wf_tg M' 5) (hl : Cond.methodLink M.1.cls idx M'.1 ∈ wl_ALL) (hs : Cond.static M'.1 ∈ wl_ALL) (hrm : (st.map fun v => v.category).sum ≤ 8) (hk : bk' + mc' ≤ bk) (hn : bn' + ms' ≤ bn) (hC : Ct l E n0 M' d mc' ms' [x1, x2, x3, x4, x5] nx t r i g Q') (hnt : ∀ X nx t r i g, ¬ Q' (.inr X) nx t r i g) (kk : ∀ v nx t r i g, Q' (.inl v) nx t r i g → Wf l E n0 M (d + 1) mc ms Q bk' bn' (pc + 3) L (v.toList ++ st) nx t r i g) : Wf l E n0 M (d + 1) mc ms Q bk bn pc L (x5 :: x4 :: x3 :: x2 :: x1 :: st) nx t r i g :=
  wf_is (As := [x1, x2, x3, x4, x5]) hd hT hl hs hrm hk hn hC hnt kk
theorem wf_copy {idx src dst ns nd : Nat} {sp dp n : Int32} (hd : decode M.2.1 pc = .ok (.invokestatic idx, 3)) (hl : Cond.methodLink M.1.cls idx arraycopyName ∈ wl_ALL) (hs : t src = some (.inr (0, ns))) (ht : t dst = some (.inr (0, nd))) (a1 : ¬ sp < 0) (a2 : ¬ dp < 0) (a3 : ¬ n < 0) (a4 : sp.toNatClampNeg + n.toNatClampNeg ≤ ns) (a5 : dp.toNatClampNeg + n.toNatClampNeg ≤ nd) (hrm : (st.map fun v => v.category).sum ≤ 8)
    (kk : Wf l E n0 M (d + 1) mc ms Q bk bn (pc + 3) L st nx t r (wf_cp i src dst sp.toNatClampNeg dp.toNatClampNeg n.toNatClampNeg) g) : Wf l E n0 M (d + 1) mc ms Q bk bn pc L (.int n :: .int dp :: .ref dst :: .int sp :: .ref src :: st) nx t r i g := by
  intro p e s m args below meth cd C H locs cells slots ls h1 h2 h3 h4 h5 h6
  have nn : ∀ z : Int32, ¬ z < 0 → z.toInt = (z.toNatClampNeg : Int) := by
    intro z hz
    have hz0 : (0 : Int) ≤ z.toInt := by
      have := Int32.not_lt.mp hz
      simpa using Int32.le_iff_toInt_le.mp this
    show z.toInt = ((z.toInt.toNat : Nat) : Int)
    omega
  have hc0 : H[src]? = some (arrV (E.2.2 0) ns (fun j => .int (i src j))) := ((h3.2.2.1 src).a hs).2
  have hc1 : H[dst]? = some (arrV (E.2.2 0) nd (fun j => .int (i dst j))) := ((h3.2.2.1 dst).a ht).2
  have hA := (C.2.2.2.2.2.2.2.2.1.2.1 0 (by decide)).1
  have hn0 := wf_own h3 ht (by decide)
  intro T hT X
  obtain ⟨-, k0, hk0, cm0, hkk0⟩ := hA ns (fun j => .int (i src j))
  obtain ⟨-, k1, hk1, cm1, hkk1⟩ := hA nd (fun j => .int (i dst j))
  obtain ⟨vm', X', step⟩ := X.arraycopy C.1 C.2.2.2.2.1 (C.2.2.2.2.2.1 _ hl) (C.2.2.2.2.2.1 _ na_copy) (C.2.2.2.2.2.1 _ sm_copy) (C.2.2.2.2.2.1 _ in_Sys) (src := src) (dst := dst) (srcPos := sp) (destPos := dp) (n := n) (by rw [hT]; exact hc0) (by rw [hT]; exact hc1)
    (fun _ h => by cases h) (fun _ h => by cases h) (fun h => by cases h) (fun h => by cases h) hk0 hk1 hkk0 hkk1 (by decide) a1 a2 a3
    (by rw [nn sp a1, nn n a3, arrV_size]; omega) (by rw [nn dp a2, nn n a3, arrV_size]; omega)
    (fun vm₁ _ j hj => by
      have e : (arrV (E.2.2 0) ns (fun j => Value.int (i src j))).slots.getD (sp.toNatClampNeg + j) .null = .int (i src (sp.toNatClampNeg + j)) := by
        rw [Array.getD_eq_getD_getElem?, arrV_read _ _ (by omega)]
        rfl
      refine ⟨?_, ?_⟩
      · rw [e]
        rfl
      · rw [e]
        exact trivial)
    (g := F0 m pc ls (.int n :: .int dp :: .ref dst :: .int sp :: .ref src :: st)) rfl (h6.1.trans C.2.2.1.symm) (rest := st) rfl (by rw [C.2.1]; exact hd) (show 1 ≤ d + 1 by omega) (by show 2 * 0 + _ + (7 + 11) ≤ 40 * (d + 1); omega)
  have e1 : copied (arrV (E.2.2 0) ns (fun j => .int (i src j))) (arrV (E.2.2 0) nd (fun j => .int (i dst j))) sp dp n = arrV (E.2.2 0) nd (fun j => .int (va_cpy (i src) (i dst) sp.toNatClampNeg dp.toNatClampNeg n.toNatClampNeg j)) := va_copied (fun z => .int z) _ _ (i src) (i dst) a4
  rw [e1] at X' step
  have hlt : dst < H.size := (Array.getElem?_eq_some_iff.mp hc1).1
  have hheap : ((T.setVm vm').setCell dst (arrV (E.2.2 0) nd (fun j => .int (va_cpy (i src) (i dst) sp.toNatClampNeg dp.toNatClampNeg n.toNatClampNeg j)))).heap = H.setIfInBounds dst (arrV (E.2.2 0) nd (fun j => .int (va_cpy (i src) (i dst) sp.toNatClampNeg dp.toNatClampNeg n.toNatClampNeg j))) := by rw [← hT]; rfl
  have oq : ∀ q : Nat, q ≠ dst → (H.setIfInBounds dst (arrV (E.2.2 0) nd (fun j => .int (va_cpy (i src) (i dst) sp.toNatClampNeg dp.toNatClampNeg n.toNatClampNeg j))))[q]? = H[q]? := fun q hq => by simp [Array.getElem?_setIfInBounds, Ne.symm hq]
  have hR : wf_R E n0 nx t r (wf_cp i src dst sp.toNatClampNeg dp.toNatClampNeg n.toNatClampNeg) g (H.setIfInBounds dst (arrV (E.2.2 0) nd (fun j => .int (va_cpy (i src) (i dst) sp.toNatClampNeg dp.toNatClampNeg n.toNatClampNeg j)))) := by
    refine h3.put (by simp) oq ht (wf_A.ia ht ⟨by decide, ?_⟩) (fun b hb k => ⟨rfl, wf_cp_a hb, rfl⟩)
    simp only [Array.getElem?_setIfInBounds, hlt]
    simp only [if_true]
    congr 2
    funext k
    show Value.int _ = Value.int _
    congr 1
    by_cases hk : dp.toNatClampNeg ≤ k ∧ k < dp.toNatClampNeg + n.toNatClampNeg
    · rw [wf_cp_in hk.1 hk.2]
      exact if_pos hk
    · rw [wf_cp_k hk]
      exact if_neg hk
  obtain ⟨u, b1, b2⟩ := kk p e s m args below meth cd C _ _ cells slots ls h1 h2 hR (fun q hq => (oq q (Nat.ne_of_lt (Nat.lt_of_lt_of_le hq hn0))).trans (h4 q hq)) (fun q hq => by
      rcases List.mem_append.mp hq with h | h
      · exact h5 q h
      · obtain ⟨z, -, hz⟩ := List.mem_map.mp h
        rw [← hz]
        exact hn0) h6 _ hheap X'
  exact ⟨u, step u b1, b2⟩
end WfCalls
end
section
section
variable {l : Launch} {E : We} {n0 : Nat} {M : Wm} {d mc ms : Nat} {Q : Wq} {nx : Nat} {t : Wt} {r : Wr} {i : Wi} {g : Wl}
/-- a contract out of the walk, for a method of a class with natives that is none itself -/
theorem Ct.ofF {av : List Value} (hy : plainFor M.1 = true) (hn : (lg_sl av).length ≤ M.2.2.1) (h : Wf l E n0 M d mc ms Q mc ms 0 (lv_args 0 av) [] nx t r i g) : Ct l E n0 M d mc ms av nx t r i g Q := by
  refine MetFree.of_bodySF (code := M.2.1) (maxLocals := M.2.2.1) (ret := M.2.2.2) hy ?_ ?_
  · intro args s m h hn
    obtain ⟨meth, c, h1, h2, h3, h4, h5, h6, -, -⟩ := Cond.code_spec hn (atoms_spec (ws := wf_ws M) h _ List.mem_cons_self)
    exact ⟨meth, c, h1, h2, h3, h4, h5, h6⟩
  · intro p e s m args below meth c s₁ B hml hP _
    obtain ⟨rfl, hR, hK, hJ⟩ := hP
    have hh0 : s₁.heap = s.heap := by rw [B.state]; rfl
    have hts := atoms_spec (ws := wf_ws M) B.pre
    have C : wf_C E n0 M p s m av.toArray meth c := ⟨B.exec, B.bytes, hml, B.returns, findClass_of_methodNamed B.named, fun w hw => hts w (List.mem_cons_of_mem _ hw), B.notSynchronized, (name_of_methodNamed B.named B.method).1, hK, hJ⟩
    have K := h p e s m av.toArray below meth c C s.heap [] 0 0 _ (by omega) (by omega) hR (fun _ _ => rfl) (fun q hq => by cases hq) (lv_entry av hn)
    rw [← lg_entry_eq] at K
    obtain ⟨u, a1, o, b1, b2, b3, b4⟩ := K s₁ hh0 (Stand.of_body B)
    exact ⟨u, o, a1, b1, b2, b3, b4⟩
end
end
section
/-! Math.min, Math.floorMod; class Row: an object (class 5) with its int array: a row of signs, the list w -/
section
variable {l : Launch} {E : We} {n0 d nx : Nat} {t : Wt} {r : Wr} {i : Wi} {g : Wl}
theorem c_Mth_min {x y : Int32} : Ct l E n0 mt_Mth_min d 0 0 [.int x, .int y] nx t r i g (qI nx t r g (fun z i' => z = (if x ≤ y then x else y) ∧ i' = i)) := by
  refine Ct.ofF (by decide +kernel) (Nat.le_of_ble_eq_true rfl) ?_
  refine wf_iload_n dc_Mth_min_0 rfl ?_
  refine wf_iload_n dc_Mth_min_1 rfl ?_
  refine wf_icmp_gt 9 dc_Mth_min_2 (by decide) (fun hc => ?_) (fun hc => ?_)
  · refine wf_iload_n dc_Mth_min_9 rfl ?_
    exact wf_ireturn rfl dc_Mth_min_10 ⟨y, rfl, rfl, rfl, rfl, rfl, by rw [if_neg (Int32.not_le.mpr hc)], rfl⟩
  · refine wf_iload_n dc_Mth_min_5 rfl ?_
    refine wf_goto 10 dc_Mth_min_6 (by decide) ?_
    exact wf_ireturn rfl dc_Mth_min_10 ⟨x, rfl, rfl, rfl, rfl, rfl, by rw [if_pos (Int32.not_lt.mp hc)], rfl⟩
theorem gd_l {w v : List Int32} {j : Nat} (h : j < w.length) : (w ++ v).getD j 0 = w.getD j 0 := by
  rw [List.getD_eq_getElem?_getD, List.getD_eq_getElem?_getD, List.getElem?_append_left h]
theorem gd_r {w v : List Int32} {j : Nat} : (w ++ v).getD (w.length + j) 0 = v.getD j 0 := by
  rw [List.getD_eq_getElem?_getD, List.getD_eq_getElem?_getD, List.getElem?_append_right (Nat.le_add_right _ _), Nat.add_sub_cancel_left]
/-- row object a with array s of n places -/
def rw_at (t : Wt) (r : Wr) (a s n : Nat) : Prop := t a = some (.inl 5) ∧ r a 0 = some s ∧ t s = some (.inr (0, n)) ∧ n ≤ 120
/-- it holds w -/
def rw_is (i : Wi) (a s : Nat) (w : List Int32) : Prop := i a 1 = nI w.length ∧ ∀ j, j < w.length → i s j = w.getD j 0
theorem rw_at.ne {a s n : Nat} (h : rw_at t r a s n) : a ≠ s := fun q => by
  obtain ⟨h1, -, h3, -⟩ := h
  rw [q, h3] at h1
  cases h1
theorem rw_is.fr {i' : Wi} {a s : Nat} {w : List Int32} {S : List Nat} (h : rw_is i a s w) (hf : fr_is S i i') (ha : a ∉ S) (hs : s ∉ S) : rw_is i' a s w := ⟨(hf a ha 1).trans h.1, fun j hj => (hf s hs j).trans (h.2 j hj)⟩
theorem c_Row_drop {a s n : Nat} (hA : rw_at t r a s n) : Ct l E n0 mt_Row_drop d 0 0 [.ref a] nx t r i g (qV nx t r g (fun i' => rw_is i' a s [] ∧ fr_is [a] i i')) := by
  obtain ⟨ha, hr, hs, hn⟩ := hA
  refine Ct.of (by decide) (Nat.le_of_ble_eq_true rfl) ?_
  refine wf_aload_n dc_Row_drop_0 rfl ?_
  refine wf_iconst 0 dc_Row_drop_1 (by decide) ?_
  refine wf_puti dc_Row_drop_2 fl_Row_15 (Or.inl nf_Row_1) rfl rfl rfl (by assumption) ?_
  exact wf_return rfl dc_Row_drop_5 ⟨rfl, rfl, rfl, rfl, rfl, ⟨wf_up_s, fun j hj => absurd hj (Nat.not_lt_zero _)⟩, fr_up fr_rf List.mem_cons_self⟩
theorem c_Row_has {a s n : Nat} {j : Int32} {w : List Int32} (hA : rw_at t r a s n) (hw : rw_is i a s w) (hl : w.length ≤ n) : Ct l E n0 mt_Row_has d 0 0 [.ref a, .int j] nx t r i g (qI nx t r g (fun z i' => z = (if ¬ j < 0 ∧ j < nI w.length then 1 else 0) ∧ i' = i)) := by
  obtain ⟨ha, hr, hs, hn⟩ := hA
  obtain ⟨h1, h2⟩ := hw
  refine Ct.of (by decide) (Nat.le_of_ble_eq_true rfl) ?_
  refine wf_iload_n dc_Row_has_0 rfl ?_
  refine wf_if_lt 16 dc_Row_has_1 (by decide) (fun hc => ?_) (fun hc => ?_)
  · refine wf_iconst 0 dc_Row_has_16 (by decide) ?_
    exact wf_zreturn rfl rfl dc_Row_has_17 ⟨0, rfl, rfl, rfl, rfl, rfl, by rw [if_neg (fun q => q.1 hc)], rfl⟩
  · refine wf_iload_n dc_Row_has_4 rfl ?_
    refine wf_aload_n dc_Row_has_5 rfl ?_
    refine wf_geti dc_Row_has_6 fl_Row_15 rfl (by assumption) ?_
    rw [h1]
    refine wf_icmp_ge 16 dc_Row_has_9 (by decide) (fun hc2 => ?_) (fun hc2 => ?_)
    · refine wf_iconst 0 dc_Row_has_16 (by decide) ?_
      exact wf_zreturn rfl rfl dc_Row_has_17 ⟨0, rfl, rfl, rfl, rfl, rfl, by rw [if_neg (fun q => Int32.not_lt.mpr hc2 q.2)], rfl⟩
    · refine wf_iconst 1 dc_Row_has_12 (by decide) ?_
      refine wf_goto 17 dc_Row_has_13 (by decide) ?_
      exact wf_zreturn rfl rfl dc_Row_has_17 ⟨1, rfl, rfl, rfl, rfl, rfl, by rw [if_pos ⟨hc, Int32.not_le.mp hc2⟩], rfl⟩
theorem c_Row_add {a s n : Nat} {x : Int32} {w : List Int32} (hA : rw_at t r a s n) (hw : rw_is i a s w) (hl : w.length ≤ n) : Ct l E n0 mt_Row_add d 0 0 [.ref a, .int x] nx t r i g (qV nx t r g (fun i' => rw_is i' a s (if w.length < n then w ++ [x] else w) ∧ fr_is [a, s] i i')) := by
  have hne := hA.ne
  obtain ⟨ha, hr, hs, hn⟩ := hA
  obtain ⟨h1, h2⟩ := hw
  refine Ct.of (by decide) (Nat.le_of_ble_eq_true rfl) ?_
  refine wf_aload_n dc_Row_add_0 rfl ?_
  refine wf_geti dc_Row_add_1 fl_Row_15 rfl (by assumption) ?_
  refine wf_aload_n dc_Row_add_4 rfl ?_
  refine wf_getr dc_Row_add_5 fl_Row_9 rfl (by assumption) (by assumption) ?_
  refine wf_alen dc_Row_add_8 (by assumption) ?_
  rw [h1]
  refine wf_icmp_ge 32 dc_Row_add_9 (by decide) (fun hc => ?_) (fun hc => ?_)
  · have hge : n ≤ w.length := (nI_leI (by omega) (by omega)).mp hc
    exact wf_return rfl dc_Row_add_32 ⟨rfl, rfl, rfl, rfl, rfl, by rw [if_neg (by omega)]; exact ⟨h1, h2⟩, fr_rf⟩
  · have hlt : w.length < n := Nat.not_le.mp fun q => hc ((nI_leI (by omega) (by omega)).mpr q)
    refine wf_aload_n dc_Row_add_12 rfl ?_
    refine wf_getr dc_Row_add_13 fl_Row_9 rfl (by assumption) (by assumption) ?_
    refine wf_aload_n dc_Row_add_16 rfl ?_
    refine wf_geti dc_Row_add_17 fl_Row_15 rfl (by assumption) ?_
    rw [h1]
    refine wf_iload_n dc_Row_add_20 rfl ?_
    refine wf_iastore (y := 0) dc_Row_add_21 rfl (by decide) (by assumption) (vp_in_nI hlt (by omega)) ?_
    rw [nI_clamp (by omega)]
    refine wf_aload_n dc_Row_add_22 rfl ?_
    refine wf_dup dc_Row_add_23 rfl ?_
    refine wf_geti dc_Row_add_24 fl_Row_15 rfl (by assumption) ?_
    refine wf_iconst 1 dc_Row_add_27 (by decide) ?_
    refine wf_iadd dc_Row_add_28 ?_
    refine wf_puti dc_Row_add_29 fl_Row_15 (Or.inl nf_Row_1) rfl rfl rfl (by assumption) ?_
    rw [wf_up_a hne, h1, nI_1]
    refine wf_return rfl dc_Row_add_32 ⟨rfl, rfl, rfl, rfl, rfl, ⟨?_, ?_⟩, ?_⟩
    · rw [wf_up_s, if_pos hlt, List.length_append]
      rfl
    · rw [if_pos hlt]
      intro j hj
      rw [List.length_append] at hj
      have hj : j < w.length + 1 := hj
      rw [wf_up_a hne.symm]
      by_cases hj2 : j = w.length
      · rw [hj2, wf_up_s]
        exact (gd_r (w := w) (v := [x]) (j := 0)).symm
      · rw [wf_up_k hj2, h2 j (by omega), gd_l (by omega)]
    · exact fr_up (fr_up fr_rf (by simp)) (by simp)
end
end
section
/-! class Row: parts of rows, rows from rows, numbers, order -/
theorem gd_d {v : List Int32} {p k : Nat} : (v.drop p).getD k 0 = v.getD (p + k) 0 := by
  rw [List.getD_eq_getElem?_getD, List.getD_eq_getElem?_getD, List.getElem?_drop]
theorem gd_t {v : List Int32} {m k : Nat} (h : k < m) : (v.take m).getD k 0 = v.getD k 0 := by
  rw [List.getD_eq_getElem?_getD, List.getD_eq_getElem?_getD, List.getElem?_take, if_pos h]
theorem mn_nI {a b : Nat} (ha : a < 2 ^ 31) (hb : b < 2 ^ 31) : (if nI a ≤ nI b then nI a else nI b) = nI (min a b) := by
  by_cases h : a ≤ b
  · rw [if_pos ((nI_leI ha hb).mpr h), Nat.min_eq_left h]
  · rw [if_neg (fun q => h ((nI_leI ha hb).mp q)), Nat.min_eq_right (by omega)]
section
variable {l : Launch} {E : We} {n0 d nx : Nat} {t : Wt} {r : Wr} {i : Wi} {g : Wl}
/-- signs p .. q of row b (v) come behind row a's (w), as far as they fit -/
theorem c_Row_addPart {a s n b s2 n2 p q : Nat} {w v : List Int32} (hA : rw_at t r a s n) (hw : rw_is i a s w) (hl : w.length ≤ n) (hB : rw_at t r b s2 n2) (hv : rw_is i b s2 v) (hl2 : v.length ≤ n2) (hss : s ≠ s2) (hpq : p ≤ q) (hq : q ≤ v.length) :
    Ct l E n0 mt_Row_addPart (d + 1) 0 0 [.ref a, .ref b, .int (nI p), .int (nI q)] nx t r i g (qV nx t r g (fun i' => rw_is i' a s (w ++ (v.drop p).take (min (q - p) (n - w.length))) ∧ fr_is [a, s] i i')) := by
  have hne := hA.ne
  obtain ⟨ha, hr, hs, hn⟩ := hA
  obtain ⟨h1, h2⟩ := hw
  obtain ⟨hb, hrb, hsb, hnb⟩ := hB
  obtain ⟨g1, g2⟩ := hv
  refine Ct.of (by decide) (Nat.le_of_ble_eq_true rfl) ?_
  refine wf_iload_n dc_Row_addPart_0 rfl ?_
  refine wf_iload_n dc_Row_addPart_1 rfl ?_
  refine wf_isub dc_Row_addPart_2 ?_
  refine wf_aload_n dc_Row_addPart_3 rfl ?_
  refine wf_getr dc_Row_addPart_4 fl_Row_9 rfl (by assumption) (by assumption) ?_
  refine wf_alen dc_Row_addPart_7 (by assumption) ?_
  refine wf_aload_n dc_Row_addPart_8 rfl ?_
  refine wf_geti dc_Row_addPart_9 fl_Row_15 rfl (by assumption) ?_
  rw [h1]
  refine wf_isub dc_Row_addPart_12 ?_
  rw [pk_sub hpq, pk_sub hl]
  refine wf_is2 (M' := mt_Mth_min) dc_Row_addPart_13 tg_Mth_min ml_Row_19 sm_Mth_min (Nat.le_of_ble_eq_true rfl) (Nat.le_refl _) (Nat.le_refl _) (c_Mth_min) qI_nt (qI_go (fun x2 i2 hp => ?_))
  obtain ⟨hx, rfl⟩ := hp
  rw [mn_nI (by omega) (by omega)] at hx
  subst hx
  refine wf_istore dc_Row_addPart_16 (by decide) ?_
  refine wf_iload dc_Row_addPart_18 rfl ?_
  refine wf_if_le 52 dc_Row_addPart_20 (by decide) (fun hc => ?_) (fun hc => ?_)
  · have h0 : min (q - p) (n - w.length) = 0 := by
      have h3 := (nI_leI (a := min (q - p) (n - w.length)) (b := 0) (by omega) (by omega)).mp hc
      omega
    exact wf_return rfl dc_Row_addPart_52 ⟨rfl, rfl, rfl, rfl, rfl, by rw [h0, List.take_zero, List.append_nil]; exact ⟨h1, h2⟩, fr_rf⟩
  · refine wf_aload_n dc_Row_addPart_23 rfl ?_
    refine wf_getr dc_Row_addPart_24 fl_Row_9 rfl (by assumption) (by assumption) ?_
    refine wf_iload_n dc_Row_addPart_27 rfl ?_
    refine wf_aload_n dc_Row_addPart_28 rfl ?_
    refine wf_getr dc_Row_addPart_29 fl_Row_9 rfl (by assumption) (by assumption) ?_
    refine wf_aload_n dc_Row_addPart_32 rfl ?_
    refine wf_geti dc_Row_addPart_33 fl_Row_15 rfl (by assumption) ?_
    rw [h1]
    have hcl : (nI (min (q - p) (n - w.length))).toNatClampNeg = min (q - p) (n - w.length) := nI_clamp (by omega)
    have hcp : (nI p).toNatClampNeg = p := nI_clamp (by omega)
    have hcw : (nI w.length).toNatClampNeg = w.length := nI_clamp (by omega)
    refine wf_iload dc_Row_addPart_36 rfl ?_
    refine wf_copy dc_Row_addPart_38 ml_Row_25 (by assumption) (by assumption) (nI_pos (by omega)) (nI_pos (by omega)) (nI_pos (by omega)) (by rw [hcl, hcp]; omega) (by rw [hcl, hcw]; omega) (Nat.le_of_ble_eq_true rfl) ?_
    rw [hcl, hcp, hcw]
    refine wf_aload_n dc_Row_addPart_41 rfl ?_
    refine wf_dup dc_Row_addPart_42 rfl ?_
    refine wf_geti dc_Row_addPart_43 fl_Row_15 rfl (by assumption) ?_
    refine wf_iload dc_Row_addPart_46 rfl ?_
    refine wf_iadd dc_Row_addPart_48 ?_
    rw [wf_cp_a hne, h1, nI_add]
    refine wf_puti dc_Row_addPart_49 fl_Row_15 (Or.inl nf_Row_1) rfl rfl rfl (by assumption) ?_
    have hlen : ((v.drop p).take (min (q - p) (n - w.length))).length = min (q - p) (n - w.length) := by
      rw [List.length_take, List.length_drop]
      omega
    refine wf_return rfl dc_Row_addPart_52 ⟨rfl, rfl, rfl, rfl, rfl, ⟨?_, ?_⟩, ?_⟩
    · rw [wf_up_s, List.length_append, hlen]
    · intro j hj
      rw [List.length_append, hlen] at hj
      rw [wf_up_a hne.symm]
      by_cases hj2 : j < w.length
      · rw [wf_cp_k (by omega), h2 j hj2, gd_l hj2]
      · rw [wf_cp_in (by omega) (by omega), show j = w.length + (j - w.length) by omega, gd_r, gd_t (by omega), gd_d]
        rw [g2 _ (by omega)]
        congr 1
        omega
    · exact fr_up (fun x hx k => wf_cp_a (fun q => hx (by rw [q]; simp))) (by simp)
theorem c_Row_addAll {a s n b s2 n2 : Nat} {w v : List Int32} (hA : rw_at t r a s n) (hw : rw_is i a s w) (hl : w.length ≤ n) (hB : rw_at t r b s2 n2) (hv : rw_is i b s2 v) (hl2 : v.length ≤ n2) (hss : s ≠ s2) :
    Ct l E n0 mt_Row_addAll (d + 2) 0 0 [.ref a, .ref b] nx t r i g (qV nx t r g (fun i' => rw_is i' a s (w ++ v.take (n - w.length)) ∧ fr_is [a, s] i i')) := by
  have ha := hA.1
  have hb := hB.1
  refine Ct.of (by decide) (Nat.le_of_ble_eq_true rfl) ?_
  refine wf_aload_n dc_Row_addAll_0 rfl ?_
  refine wf_aload_n dc_Row_addAll_1 rfl ?_
  refine wf_iconst 0 dc_Row_addAll_2 (by decide) ?_
  refine wf_aload_n dc_Row_addAll_3 rfl ?_
  refine wf_geti dc_Row_addAll_4 fl_Row_15 rfl (by assumption) ?_
  rw [hv.1]
  refine wf_iv3 (M' := mt_Row_addPart) (c := 5) dc_Row_addAll_7 tg_Row_addPart ml_Row_31 im_Row_addPart se_Row_addPart ⟨_, rfl, rfl⟩ (by assumption) (Nat.le_of_ble_eq_true rfl) (Nat.le_refl _) (Nat.le_refl _) (c_Row_addPart (p := 0) hA hw hl hB hv hl2 hss (Nat.zero_le _) (Nat.le_refl _)) qV_nt (qV_go (fun i2 hp => ?_))
  refine wf_return rfl dc_Row_addAll_10 ⟨rfl, rfl, rfl, rfl, rfl, ?_, hp.2⟩
  have h := hp.1
  rw [List.drop_zero, Nat.sub_zero] at h
  have e : v.take (min v.length (n - w.length)) = v.take (n - w.length) := by
    by_cases h3 : v.length ≤ n - w.length
    · rw [Nat.min_eq_left h3, List.take_length, List.take_of_length_le h3]
    · rw [Nat.min_eq_right (by omega)]
  rw [e] at h
  exact h
/-- row a becomes row b (which may be a) -/
theorem c_Row_become {a s n b s2 n2 : Nat} {v : List Int32} (hA : rw_at t r a s n) (hB : rw_at t r b s2 n2) (hv : rw_is i b s2 v) (hl2 : v.length ≤ n2) :
    Ct l E n0 mt_Row_become (d + 1) 0 0 [.ref a, .ref b] nx t r i g (qV nx t r g (fun i' => rw_is i' a s (v.take n) ∧ fr_is [a, s] i i')) := by
  have hne := hA.ne
  obtain ⟨ha, hr, hs, hn⟩ := hA
  obtain ⟨hb, hrb, hsb, hnb⟩ := hB
  obtain ⟨g1, g2⟩ := hv
  refine Ct.of (by decide) (Nat.le_of_ble_eq_true rfl) ?_
  refine wf_aload_n dc_Row_become_0 rfl ?_
  refine wf_geti dc_Row_become_1 fl_Row_15 rfl (by assumption) ?_
  rw [g1]
  refine wf_aload_n dc_Row_become_4 rfl ?_
  refine wf_getr dc_Row_become_5 fl_Row_9 rfl (by assumption) (by assumption) ?_
  refine wf_alen dc_Row_become_8 (by assumption) ?_
  refine wf_is2 (M' := mt_Mth_min) dc_Row_become_9 tg_Mth_min ml_Row_19 sm_Mth_min (Nat.le_of_ble_eq_true rfl) (Nat.le_refl _) (Nat.le_refl _) (c_Mth_min) qI_nt (qI_go (fun x2 i2 hp => ?_))
  obtain ⟨hx, rfl⟩ := hp
  rw [mn_nI (by omega) (by omega)] at hx
  subst hx
  have hcl : (nI (min v.length n)).toNatClampNeg = min v.length n := nI_clamp (by omega)
  have hc0 : (0 : Int32).toNatClampNeg = 0 := by decide
  refine wf_istore_n dc_Row_become_12 (by decide) ?_
  refine wf_aload_n dc_Row_become_13 rfl ?_
  refine wf_getr dc_Row_become_14 fl_Row_9 rfl (by assumption) (by assumption) ?_
  refine wf_iconst 0 dc_Row_become_17 (by decide) ?_
  refine wf_aload_n dc_Row_become_18 rfl ?_
  refine wf_getr dc_Row_become_19 fl_Row_9 rfl (by assumption) (by assumption) ?_
  refine wf_iconst 0 dc_Row_become_22 (by decide) ?_
  refine wf_iload_n dc_Row_become_23 rfl ?_
  refine wf_copy dc_Row_become_24 ml_Row_25 (by assumption) (by assumption) (by decide) (by decide) (nI_pos (by omega)) (by rw [hcl, hc0]; omega) (by rw [hcl, hc0]; omega) (Nat.le_of_ble_eq_true rfl) ?_
  rw [hcl, hc0]
  refine wf_aload_n dc_Row_become_27 rfl ?_
  refine wf_iload_n dc_Row_become_28 rfl ?_
  refine wf_puti dc_Row_become_29 fl_Row_15 (Or.inl nf_Row_1) rfl rfl rfl (by assumption) ?_
  have hlen : (v.take n).length = min v.length n := by
    rw [List.length_take]
    omega
  refine wf_return rfl dc_Row_become_32 ⟨rfl, rfl, rfl, rfl, rfl, ⟨?_, ?_⟩, ?_⟩
  · rw [wf_up_s, hlen]
  · intro j hj
    rw [hlen] at hj
    rw [wf_up_a hne.symm, wf_cp_in (by omega) (by omega), gd_t (by omega), Nat.zero_add, Nat.sub_zero]
    exact g2 j (by omega)
  · exact fr_up (fun x hx k => wf_cp_a (fun q => hx (by rw [q]; simp))) (by simp)
/-- two rows, compared -/
def cm_go : List Int32 → List Int32 → Int32
  | x :: w, y :: v => if x = y then cm_go w v else x - y
  | w, v => nI w.length - nI v.length
theorem cm_step {w v : List Int32} {j : Nat} (h1 : j < w.length) (h2 : j < v.length) : cm_go (w.drop j) (v.drop j) = if w.getD j 0 = v.getD j 0 then cm_go (w.drop (j + 1)) (v.drop (j + 1)) else w.getD j 0 - v.getD j 0 := by
  rw [List.drop_eq_getElem_cons h1, List.drop_eq_getElem_cons h2]
  simp only [cm_go, List.getD_eq_getElem?_getD, List.getElem?_eq_getElem h1, List.getElem?_eq_getElem h2, Option.getD_some]
theorem cm_end {w v : List Int32} {j : Nat} (hj : j ≤ w.length) (hj2 : j ≤ v.length) (h : j = w.length ∨ j = v.length) (hw : w.length < 2 ^ 31) (hv : v.length < 2 ^ 31) : cm_go (w.drop j) (v.drop j) = nI w.length - nI v.length := by
  have e : ∀ a b : List Int32, (a = [] ∨ b = []) → cm_go a b = nI a.length - nI b.length := by
    intro a b h
    rcases h with rfl | rfl
    · cases b <;> rfl
    · cases a <;> rfl
  rw [e _ _ (by rcases h with h | h; exact Or.inl (by rw [h, List.drop_length]); exact Or.inr (by rw [h, List.drop_length]))]
  rw [List.length_drop, List.length_drop, ← pk_sub hj, ← pk_sub hj2]
  apply Int32.toBitVec_inj.mp
  simp
  bv_omega
theorem c_Row_compareWith {a s n b s2 n2 : Nat} {w v : List Int32} (hA : rw_at t r a s n) (hw : rw_is i a s w) (hl : w.length ≤ n) (hB : rw_at t r b s2 n2) (hv : rw_is i b s2 v) (hl2 : v.length ≤ n2) :
    Ct l E n0 mt_Row_compareWith (d + 1) 0 0 [.ref a, .ref b] nx t r i g (qI nx t r g (fun z i' => z = cm_go w v ∧ i' = i)) := by
  obtain ⟨ha, hr, hs, hn⟩ := hA
  obtain ⟨h1, h2⟩ := hw
  obtain ⟨hb, hrb, hsb, hnb⟩ := hB
  obtain ⟨g1, g2⟩ := hv
  refine Ct.of (by decide) (Nat.le_of_ble_eq_true rfl) ?_
  refine wf_aload_n dc_Row_compareWith_0 rfl ?_
  refine wf_geti dc_Row_compareWith_1 fl_Row_15 rfl (by assumption) ?_
  rw [h1]
  refine wf_aload_n dc_Row_compareWith_4 rfl ?_
  refine wf_geti dc_Row_compareWith_5 fl_Row_15 rfl (by assumption) ?_
  rw [g1]
  refine wf_is2 (M' := mt_Mth_min) dc_Row_compareWith_8 tg_Mth_min ml_Row_19 sm_Mth_min (Nat.le_of_ble_eq_true rfl) (Nat.le_refl _) (Nat.le_refl _) (c_Mth_min) qI_nt (qI_go (fun x2 i2 hp => ?_))
  obtain ⟨hx, rfl⟩ := hp
  rw [mn_nI (by omega) (by omega)] at hx
  subst hx
  refine wf_istore_n dc_Row_compareWith_11 (by decide) ?_
  refine wf_iconst 0 dc_Row_compareWith_12 (by decide) ?_
  refine wf_istore_n dc_Row_compareWith_13 (by decide) ?_
  have loop : ∀ k j : Nat, j + k = min w.length v.length → cm_go (w.drop j) (v.drop j) = cm_go w v → Wf l E n0 mt_Row_compareWith (d + 1) 0 0 (qI nx t r g (fun z i' => z = cm_go w v ∧ i' = i2)) 0 0 14 [(0, .ref a), (1, .ref b), (2, .int (nI (min w.length v.length))), (3, .int (nI j))] [] nx t r i2 g := by
    intro k
    induction k with
    | zero =>
      intro j hj he
      refine wf_iload_n dc_Row_compareWith_14 rfl ?_
      refine wf_iload_n dc_Row_compareWith_15 rfl ?_
      refine wf_icmp_ge 54 dc_Row_compareWith_16 (by decide) (fun hc => ?_) (fun hc => absurd ((nI_leI (by omega) (by omega)).mpr (by omega)) hc)
      refine wf_aload_n dc_Row_compareWith_54 rfl ?_
      refine wf_geti dc_Row_compareWith_55 fl_Row_15 rfl (by assumption) ?_
      rw [h1]
      refine wf_aload_n dc_Row_compareWith_58 rfl ?_
      refine wf_geti dc_Row_compareWith_59 fl_Row_15 rfl (by assumption) ?_
      rw [g1]
      refine wf_isub dc_Row_compareWith_62 ?_
      refine wf_ireturn rfl dc_Row_compareWith_63 ⟨_, rfl, rfl, rfl, rfl, rfl, ?_, rfl⟩
      rw [← he]
      exact (cm_end (by omega) (by omega) (by omega) (by omega) (by omega)).symm
    | succ k ih =>
      intro j hj he
      refine wf_iload_n dc_Row_compareWith_14 rfl ?_
      refine wf_iload_n dc_Row_compareWith_15 rfl ?_
      refine wf_icmp_ge 54 dc_Row_compareWith_16 (by decide) (fun hc => absurd ((nI_leI (by omega) (by omega)).mp hc) (by omega)) (fun hc => ?_)
      have hjw : j < w.length := by omega
      have hjv : j < v.length := by omega
      have hcj : (nI j).toNatClampNeg = j := nI_clamp (by omega)
      refine wf_aload_n dc_Row_compareWith_19 rfl ?_
      refine wf_getr dc_Row_compareWith_20 fl_Row_9 rfl (by assumption) (by assumption) ?_
      refine wf_iload_n dc_Row_compareWith_23 rfl ?_
      refine wf_iaload (y := 0) dc_Row_compareWith_24 rfl (by assumption) (vp_in_nI (by omega) (by omega)) ?_
      refine wf_aload_n dc_Row_compareWith_25 rfl ?_
      refine wf_getr dc_Row_compareWith_26 fl_Row_9 rfl (by assumption) (by assumption) ?_
      refine wf_iload_n dc_Row_compareWith_29 rfl ?_
      refine wf_iaload (y := 0) dc_Row_compareWith_30 rfl (by assumption) (vp_in_nI (by omega) (by omega)) ?_
      rw [hcj, h2 j hjw, g2 j hjv]
      rw [cm_step hjw hjv] at he
      refine wf_icmp_eq 48 dc_Row_compareWith_31 (by decide) (fun hc2 => ?_) (fun hc2 => ?_)
      · rw [if_pos hc2] at he
        refine wf_iinc _ dc_Row_compareWith_48 rfl (nI_1 j) (by decide) ?_
        refine wf_goto 14 dc_Row_compareWith_51 (by decide) ?_
        exact Wf.to (by exact ⟨rfl, rfl, rfl, rfl, trivial⟩) (ih (j + 1) (by omega) he)
      · rw [if_neg hc2] at he
        refine wf_aload_n dc_Row_compareWith_34 rfl ?_
        refine wf_getr dc_Row_compareWith_35 fl_Row_9 rfl (by assumption) (by assumption) ?_
        refine wf_iload_n dc_Row_compareWith_38 rfl ?_
        refine wf_iaload (y := 0) dc_Row_compareWith_39 rfl (by assumption) (vp_in_nI (by omega) (by omega)) ?_
        refine wf_aload_n dc_Row_compareWith_40 rfl ?_
        refine wf_getr dc_Row_compareWith_41 fl_Row_9 rfl (by assumption) (by assumption) ?_
        refine wf_iload_n dc_Row_compareWith_44 rfl ?_
        refine wf_iaload (y := 0) dc_Row_compareWith_45 rfl (by assumption) (vp_in_nI (by omega) (by omega)) ?_
        rw [hcj, h2 j hjw, g2 j hjv]
        refine wf_isub dc_Row_compareWith_46 ?_
        exact wf_ireturn rfl dc_Row_compareWith_47 ⟨_, rfl, rfl, rfl, rfl, rfl, he, rfl⟩
  exact Wf.to (by exact ⟨rfl, rfl, rfl, rfl, trivial⟩) (loop _ 0 (Nat.zero_add _) rfl)
end
end
section
/-! class Row: the number of a row, the row of a number, a new row -/
/-- digits at the beginning, behind v -/
def nu_go : List Int32 → Int32 → Int32
  | [], v => v
  | x :: q, v => if 48 ≤ x ∧ x ≤ 57 then nu_go q (v * 10 + (x - 48)) else v
/-- the number of a text -/
def nu_of (w : List Int32) : Int32 := if w.getD 0 0 = 45 then -(nu_go (w.drop 1) 0) else nu_go w 0
theorem dr_nil {w : List Int32} {j : Nat} (h : w.drop j = []) : w.length ≤ j := List.drop_eq_nil_iff.mp h
theorem dr_cons {w q : List Int32} {j : Nat} {x : Int32} (h : w.drop j = x :: q) : j < w.length ∧ w.getD j 0 = x ∧ w.drop (j + 1) = q := by
  have hj : j < w.length := Nat.not_le.mp fun z => by rw [List.drop_eq_nil_of_le z] at h; cases h
  rw [List.drop_eq_getElem_cons hj] at h
  injection h with h1 h2
  refine ⟨hj, ?_, h2⟩
  rw [List.getD_eq_getElem?_getD, List.getElem?_eq_getElem hj]
  exact h1
section
variable {l : Launch} {E : We} {n0 d nx : Nat} {t : Wt} {r : Wr} {i : Wi} {g : Wl}
theorem c_Row_toNumber {a s n : Nat} {w : List Int32} (hA : rw_at t r a s n) (hw : rw_is i a s w) (hl : w.length ≤ n) : Ct l E n0 mt_Row_toNumber d 0 0 [.ref a] nx t r i g (qI nx t r g (fun z i' => z = nu_of w ∧ i' = i)) := by
  obtain ⟨ha, hr, hs, hn⟩ := hA
  obtain ⟨h1, h2⟩ := hw
  refine Ct.of (by decide) (Nat.le_of_ble_eq_true rfl) ?_
  have main : ∀ (b : Int32) (j0 : Nat), ((b = 1 ∧ j0 = 1 ∧ w.getD 0 0 = 45) ∨ (b = 0 ∧ j0 = 0 ∧ ¬ w.getD 0 0 = 45)) → Wf l E n0 mt_Row_toNumber d 0 0 (qI nx t r g (fun z i' => z = nu_of w ∧ i' = i)) 0 0 23 [(0, .ref a)] [.int b] nx t r i g := by
    intro b j0 hb
    have fin : ∀ acc z : Int32, acc = nu_go (w.drop j0) 0 → Wf l E n0 mt_Row_toNumber d 0 0 (qI nx t r g (fun z i' => z = nu_of w ∧ i' = i)) 0 0 87 [(0, .ref a), (1, .int b), (2, .int acc), (3, .int z)] [] nx t r i g := by
      intro acc z hacc
      refine wf_iload_n dc_Row_toNumber_87 rfl ?_
      refine wf_if_eq 96 dc_Row_toNumber_88 (by decide) (fun hc => ?_) (fun hc => ?_)
      · refine wf_iload_n dc_Row_toNumber_96 rfl ?_
        refine wf_ireturn rfl dc_Row_toNumber_97 ⟨_, rfl, rfl, rfl, rfl, rfl, ?_, rfl⟩
        rcases hb with ⟨hb, -, -⟩ | ⟨-, rfl, hb⟩
        · rw [hb] at hc
          cases hc
        · rw [nu_of, if_neg hb, hacc, List.drop_zero]
      · refine wf_iload_n dc_Row_toNumber_91 rfl ?_
        refine wf_ineg dc_Row_toNumber_92 ?_
        refine wf_goto 97 dc_Row_toNumber_93 (by decide) ?_
        refine wf_ireturn rfl dc_Row_toNumber_97 ⟨_, rfl, rfl, rfl, rfl, rfl, ?_, rfl⟩
        rcases hb with ⟨-, rfl, hb⟩ | ⟨hb, -, -⟩
        · rw [nu_of, if_pos hb, hacc]
        · exact absurd hb hc
    have loop : ∀ (q : List Int32) (j : Nat) (acc : Int32), w.drop j = q → nu_go q acc = nu_go (w.drop j0) 0 → j ≤ 121 → Wf l E n0 mt_Row_toNumber d 0 0 (qI nx t r g (fun z i' => z = nu_of w ∧ i' = i)) 0 0 36 [(0, .ref a), (1, .int b), (2, .int acc), (3, .int (nI j))] [] nx t r i g := by
      intro q
      induction q with
      | nil =>
        intro j acc hd hg hj
        have hj2 := dr_nil hd
        refine wf_iload_n dc_Row_toNumber_36 rfl ?_
        refine wf_aload_n dc_Row_toNumber_37 rfl ?_
        refine wf_geti dc_Row_toNumber_38 fl_Row_15 rfl (by assumption) ?_
        rw [h1]
        refine wf_icmp_ge 87 dc_Row_toNumber_41 (by decide) (fun hc => ?_) (fun hc => absurd ((nI_leI (by omega) (by omega)).mpr hj2) hc)
        exact fin acc _ hg
      | cons x q ih =>
        intro j acc hd hg hj
        obtain ⟨hj2, hx, hd2⟩ := dr_cons hd
        have hcj : (nI j).toNatClampNeg = j := nI_clamp (by omega)
        refine wf_iload_n dc_Row_toNumber_36 rfl ?_
        refine wf_aload_n dc_Row_toNumber_37 rfl ?_
        refine wf_geti dc_Row_toNumber_38 fl_Row_15 rfl (by assumption) ?_
        rw [h1]
        refine wf_icmp_ge 87 dc_Row_toNumber_41 (by decide) (fun hc => absurd ((nI_leI (by omega) (by omega)).mp hc) (by omega)) (fun hc => ?_)
        refine wf_aload_n dc_Row_toNumber_44 rfl ?_
        refine wf_getr dc_Row_toNumber_45 fl_Row_9 rfl (by assumption) (by assumption) ?_
        refine wf_iload_n dc_Row_toNumber_48 rfl ?_
        refine wf_iaload (y := 0) dc_Row_toNumber_49 rfl (by assumption) (vp_in_nI (by omega) (by omega)) ?_
        rw [hcj, h2 j hj2, hx]
        refine wf_bipush 48 dc_Row_toNumber_50 (by decide) ?_
        refine wf_icmp_lt 87 dc_Row_toNumber_52 (by decide) (fun hc1 => ?_) (fun hc1 => ?_)
        · refine fin acc _ ?_
          rw [← hg]
          exact (if_neg (fun z => Int32.not_le.mpr hc1 z.1)).symm
        · refine wf_aload_n dc_Row_toNumber_55 rfl ?_
          refine wf_getr dc_Row_toNumber_56 fl_Row_9 rfl (by assumption) (by assumption) ?_
          refine wf_iload_n dc_Row_toNumber_59 rfl ?_
          refine wf_iaload (y := 0) dc_Row_toNumber_60 rfl (by assumption) (vp_in_nI (by omega) (by omega)) ?_
          rw [hcj, h2 j hj2, hx]
          refine wf_bipush 57 dc_Row_toNumber_61 (by decide) ?_
          refine wf_icmp_gt 87 dc_Row_toNumber_63 (by decide) (fun hc3 => ?_) (fun hc3 => ?_)
          · refine fin acc _ ?_
            rw [← hg]
            exact (if_neg (fun z => Int32.not_le.mpr hc3 z.2)).symm
          · refine wf_iload_n dc_Row_toNumber_66 rfl ?_
            refine wf_bipush 10 dc_Row_toNumber_67 (by decide) ?_
            refine wf_imul dc_Row_toNumber_69 ?_
            refine wf_aload_n dc_Row_toNumber_70 rfl ?_
            refine wf_getr dc_Row_toNumber_71 fl_Row_9 rfl (by assumption) (by assumption) ?_
            refine wf_iload_n dc_Row_toNumber_74 rfl ?_
            refine wf_iaload (y := 0) dc_Row_toNumber_75 rfl (by assumption) (vp_in_nI (by omega) (by omega)) ?_
            rw [hcj, h2 j hj2, hx]
            refine wf_bipush 48 dc_Row_toNumber_76 (by decide) ?_
            refine wf_isub dc_Row_toNumber_78 ?_
            refine wf_iadd dc_Row_toNumber_79 ?_
            refine wf_istore_n dc_Row_toNumber_80 (by decide) ?_
            refine wf_iinc _ dc_Row_toNumber_81 rfl (nI_1 j) (by decide) ?_
            refine wf_goto 36 dc_Row_toNumber_84 (by decide) ?_
            refine Wf.to (by exact ⟨rfl, rfl, rfl, rfl, trivial⟩) (ih (j + 1) (acc * 10 + (x - 48)) hd2 ?_ (by omega))
            rw [← hg]
            exact (if_pos ⟨Int32.not_lt.mp hc1, Int32.not_lt.mp hc3⟩).symm
    refine wf_istore_n dc_Row_toNumber_23 (by decide) ?_
    refine wf_iconst 0 dc_Row_toNumber_24 (by decide) ?_
    refine wf_istore_n dc_Row_toNumber_25 (by decide) ?_
    refine wf_iload_n dc_Row_toNumber_26 rfl ?_
    refine wf_if_eq 34 dc_Row_toNumber_27 (by decide) (fun hc => ?_) (fun hc => ?_)
    · refine wf_iconst 0 dc_Row_toNumber_34 (by decide) ?_
      refine wf_istore_n dc_Row_toNumber_35 (by decide) ?_
      rcases hb with ⟨hb, -, -⟩ | ⟨-, hj0, -⟩
      · rw [hb] at hc
        cases hc
      · exact Wf.to (by exact ⟨rfl, rfl, rfl, rfl, trivial⟩) (loop _ 0 0 rfl (by rw [hj0]) (by omega))
    · refine wf_iconst 1 dc_Row_toNumber_30 (by decide) ?_
      refine wf_goto 35 dc_Row_toNumber_31 (by decide) ?_
      refine wf_istore_n dc_Row_toNumber_35 (by decide) ?_
      rcases hb with ⟨-, hj0, -⟩ | ⟨hb, -, -⟩
      · exact Wf.to (by exact ⟨rfl, rfl, rfl, rfl, trivial⟩) (loop _ 1 0 rfl (by rw [hj0]) (by omega))
      · exact absurd hb hc
  refine wf_aload_n dc_Row_toNumber_0 rfl ?_
  refine wf_geti dc_Row_toNumber_1 fl_Row_15 rfl (by assumption) ?_
  rw [h1]
  refine wf_if_le 22 dc_Row_toNumber_4 (by decide) (fun hc => ?_) (fun hc => ?_)
  · refine wf_iconst 0 dc_Row_toNumber_22 (by decide) ?_
    refine Wf.to (by exact ⟨rfl, trivial⟩) (main 0 0 (Or.inr ⟨rfl, rfl, ?_⟩))
    have h3 := (nI_leI (a := w.length) (b := 0) (by omega) (by omega)).mp hc
    have h4 : w = [] := List.length_eq_zero_iff.mp (by omega)
    rw [h4]
    decide
  · have h3 : 0 < w.length := Nat.pos_of_ne_zero fun q => hc (by rw [q]; decide)
    refine wf_aload_n dc_Row_toNumber_7 rfl ?_
    refine wf_getr dc_Row_toNumber_8 fl_Row_9 rfl (by assumption) (by assumption) ?_
    refine wf_iconst 0 dc_Row_toNumber_11 (by decide) ?_
    refine wf_iaload (y := 0) dc_Row_toNumber_12 rfl (by assumption) (vp_in_nI (n := 0) (N := n) (by omega) (by omega)) ?_
    rw [show (0 : Int32).toNatClampNeg = 0 by decide, h2 0 h3]
    refine wf_bipush 45 dc_Row_toNumber_13 (by decide) ?_
    refine wf_icmp_ne 22 dc_Row_toNumber_15 (by decide) (fun hc2 => ?_) (fun hc2 => ?_)
    · refine wf_iconst 0 dc_Row_toNumber_22 (by decide) ?_
      exact Wf.to (by exact ⟨rfl, trivial⟩) (main 0 0 (Or.inr ⟨rfl, rfl, hc2⟩))
    · refine wf_iconst 1 dc_Row_toNumber_18 (by decide) ?_
      refine wf_goto 23 dc_Row_toNumber_19 (by decide) ?_
      exact Wf.to (by exact ⟨rfl, trivial⟩) (main 1 1 (Or.inl ⟨rfl, rfl, hc2⟩))
/-- new Row(n): one cell more, the array -/
theorem c_Row_init {a n : Nat} (ha : t a = some (.inl 5)) (hn : n ≤ 1500) : Ct l E n0 mt_Row_init (d + 1) 1 n [.ref a, .int (nI n)] nx t r i g (fun o nx' t' r' i' g' => o = .inl none ∧ nx' = nx + 1 ∧ t' = wf_up1 t nx (some (.inr (0, n))) ∧ r' = wf_up r a 0 (some nx) ∧ i' = i ∧ g' = g ∧ t nx = none ∧ ∀ k, r nx k = none ∧ i nx k = 0 ∧ g nx k = 0) := by
  refine Ct.of (by decide) (Nat.le_of_ble_eq_true rfl) ?_
  refine wf_aload_n dc_Row_init_0 rfl ?_
  refine wf_objinit dc_Row_init_1 ml_Row_3 im_obj co_obj (Nat.le_of_ble_eq_true rfl) ?_
  refine wf_aload_n dc_Row_init_4 rfl ?_
  refine wf_iload_n dc_Row_init_5 rfl ?_
  refine wf_newarr (y := 0) (N := n) (bk' := 0) (bn' := 0) dc_Row_init_6 rfl (by decide) ac_int (fun U h => h) rfl (nI_pos (by omega)) (nI_clamp (by omega)) (by show n * 4 ≤ _; omega) (by omega) (by omega) (fun f1 f2 => ?_)
  have ha2 : (wf_up1 t nx (some (.inr (0, n)))) a = some (.inl 5) := by
    rw [wf_up1_n (fun q => by rw [q, f1] at ha; cases ha)]
    exact ha
  refine wf_putr dc_Row_init_8 fl_Row_9 (Or.inr ⟨fi_Row_0, rfl⟩) rfl rfl rfl (by assumption) ?_
  exact wf_return rfl dc_Row_init_11 ⟨rfl, rfl, rfl, rfl, rfl, rfl, f1, f2⟩
end
end
section
/-! class Row: the row of a number -/
/-- how many digits there are, less one -/
def nm_k (v : Nat) : Nat := if v < 10 then 0 else if v < 100 then 1 else if v < 1000 then 2 else if v < 10000 then 3 else if v < 100000 then 4 else if v < 1000000 then 5 else if v < 10000000 then 6 else if v < 100000000 then 7 else if v < 1000000000 then 8 else 9
/-- the digits of v from place k down to 0 -/
def nm_ds (v : Nat) : Nat → List Int32
  | 0 => [nI (48 + v % 10)]
  | k + 1 => nI (48 + v / 10 ^ (k + 1) % 10) :: nm_ds v k
/-- the text of a number -/
def nm_of (x : Int32) : List Int32 := (if x < 0 then [45] else []) ++ nm_ds x.toInt.natAbs (nm_k x.toInt.natAbs)
theorem nm_k_le (v : Nat) : nm_k v ≤ 9 := by
  unfold nm_k
  repeat' split
  all_goals omega
theorem nm_k_hi {v : Nat} (h : v < 10000000000) : v < 10 ^ (nm_k v + 1) := by
  unfold nm_k
  repeat' split
  all_goals (simp only [Nat.reduceAdd, Nat.reducePow]; omega)
theorem nm_k_lo {v : Nat} (h : 0 < nm_k v) : 10 ^ nm_k v ≤ v := by
  unfold nm_k at h ⊢
  repeat' split
  all_goals (simp only [Nat.reducePow]; (try simp_all); (try omega))
theorem nm_ds_len (v k : Nat) : (nm_ds v k).length = k + 1 := by
  induction k with
  | zero => rfl
  | succ k ih => rw [nm_ds, List.length_cons, ih]
theorem nm_abs (x : Int32) : x.toInt.natAbs ≤ 2147483648 := by
  have h1 : -2 ^ 31 ≤ x.toInt := BitVec.le_toInt x.toBitVec
  have h2 : x.toInt < 2 ^ 31 := BitVec.toInt_lt
  omega
theorem nm_pos {x : Int32} (h : ¬ x < 0) : x.toInt64 = lN x.toInt.natAbs := by
  obtain ⟨j, hj, rfl⟩ := nI_of h
  rw [nI_l hj, nI_toInt hj]
  rfl
theorem nm_neg {x : Int32} (h : x < 0) : -(x.toInt64) = lN x.toInt.natAbs := by
  have h1 := nm_abs x
  have h2 : x.toInt < 0 := by simpa using Int32.lt_iff_toInt_lt.mp h
  apply Int64.toInt_inj.mp
  rw [pk_lT (by omega), Int64.toInt_neg, Int32.toInt_toInt64, Jvm.Kit.bmod64 (by omega) (by omega)]
  omega
theorem nm_lt (x : Int32) : x.toInt64 < 0 ↔ x < 0 := by
  rw [Int64.lt_iff_toInt_lt, Int32.lt_iff_toInt_lt, Int32.toInt_toInt64]
  simp
theorem nm_p10 {k : Nat} (h : k ≤ 10) : 10 ^ k ≤ 10000000000 := Nat.le_trans (Nat.pow_le_pow_right (by omega) h) (by decide)
section
variable {l : Launch} {E : We} {n0 d nx : Nat} {t : Wt} {r : Wr} {i : Wi} {g : Wl}
theorem c_Row_becomeNumber {a s n : Nat} {x : Int32} (hA : rw_at t r a s n) (hn11 : 11 ≤ n) : Ct l E n0 mt_Row_becomeNumber (d + 1) 0 0 [.ref a, .int x] nx t r i g (qV nx t r g (fun i' => rw_is i' a s (nm_of x) ∧ fr_is [a, s] i i')) := by
  have ha := hA.1
  have hn := hA.2.2.2
  generalize hv : x.toInt.natAbs = v
  have hvb : v ≤ 2147483648 := by rw [← hv]; exact nm_abs x
  have hkb := nm_k_le v
  have hhi := nm_k_hi (v := v) (by omega)
  generalize hk : nm_k v = k at hkb hhi
  have hlo : 0 < k → 10 ^ k ≤ v := fun h => by rw [← hk] at h ⊢; exact nm_k_lo h
  refine Ct.of (by decide) (Nat.le_of_ble_eq_true rfl) ?_
  -- the digits
  have dig : ∀ (m e : Nat) (i1 : Wi) (w : List Int32), m + e = k + 1 → e ≤ k + 1 → rw_is i1 a s w → w.length + e ≤ 11 → fr_is [a, s] i i1 → w ++ (if e = 0 then [] else nm_ds v (e - 1)) = nm_of x →
      Wf l E n0 mt_Row_becomeNumber (d + 1) 0 0 (qV nx t r g (fun i' => rw_is i' a s (nm_of x) ∧ fr_is [a, s] i i')) 0 0 63 [(0, .ref a), (1, .int x), (2, .long (lN v)), (4, .long (lN (if e = 0 then 0 else 10 ^ (e - 1)))), (6, .int (nI m))] [] nx t r i1 g := by
    intro m e
    induction e generalizing m with
    | zero =>
      intro i1 w hm he hw hwl hf hx
      rw [if_pos rfl, List.append_nil] at hx
      refine wf_iload dc_Row_becomeNumber_63 rfl ?_
      refine wf_bipush 11 dc_Row_becomeNumber_65 (by decide) ?_
      refine wf_icmp_ge 107 dc_Row_becomeNumber_67 (by decide) (fun hc => ?_) (fun hc => ?_)
      · exact wf_return rfl dc_Row_becomeNumber_107 ⟨rfl, rfl, rfl, rfl, rfl, by rw [← hx]; exact hw, hf⟩
      · refine wf_lload dc_Row_becomeNumber_70 rfl ?_
        refine wf_lconst 0 dc_Row_becomeNumber_72 (by decide) ?_
        refine wf_lcmp dc_Row_becomeNumber_73 ?_
        refine wf_if_le 107 dc_Row_becomeNumber_74 (by decide) (fun hc => ?_) (fun hc => absurd ((lg_cmp_le _ _).mpr (by rw [if_pos rfl]; decide)) hc)
        exact wf_return rfl dc_Row_becomeNumber_107 ⟨rfl, rfl, rfl, rfl, rfl, by rw [← hx]; exact hw, hf⟩
    | succ e ih =>
      intro i1 w hm he hw hwl hf hx
      rw [if_neg (by omega), Nat.add_sub_cancel] at hx ⊢
      have hp := nm_p10 (k := e) (by omega)
      have hp0 : 0 < 10 ^ e := Nat.pow_pos (by omega)
      refine wf_iload dc_Row_becomeNumber_63 rfl ?_
      refine wf_bipush 11 dc_Row_becomeNumber_65 (by decide) ?_
      refine wf_icmp_ge 107 dc_Row_becomeNumber_67 (by decide) (fun hc => absurd ((nI_leI (a := 11) (b := m) (by omega) (by omega)).mp hc) (by omega)) (fun hc => ?_)
      refine wf_lload dc_Row_becomeNumber_70 rfl ?_
      refine wf_lconst 0 dc_Row_becomeNumber_72 (by decide) ?_
      refine wf_lcmp dc_Row_becomeNumber_73 ?_
      refine wf_if_le 107 dc_Row_becomeNumber_74 (by decide) (fun hc => absurd ((pk_lLE (a := 10 ^ e) (b := 0) (by omega) (by omega)).mp ((lg_cmp_le _ _).mp hc)) (by omega)) (fun hc => ?_)
      have hne : ¬ lN (10 ^ e) = 0 := fun q => by
        have := (pk_lEQ (a := 10 ^ e) (b := 0) (by omega) (by omega)).mp q
        omega
      have hdv : v / 10 ^ e ≤ v := Nat.div_le_self _ _
      refine wf_aload_n dc_Row_becomeNumber_77 rfl ?_
      refine wf_bipush 48 dc_Row_becomeNumber_78 (by decide) ?_
      refine wf_lload_n dc_Row_becomeNumber_80 rfl ?_
      refine wf_lload dc_Row_becomeNumber_81 rfl ?_
      refine wf_ldiv dc_Row_becomeNumber_83 (hne) ?_
      rw [pk_lDiv (by omega) hp0 (by omega)]
      refine wf_ldc2 10 dc_Row_becomeNumber_84 kl_Row_42 ?_
      refine wf_lrem dc_Row_becomeNumber_87 (by decide) ?_
      rw [show (10 : Int64) = lN 10 from rfl, pk_lRem (by omega) (by omega) (by omega)]
      refine wf_l2i dc_Row_becomeNumber_88 ?_
      refine wf_iadd dc_Row_becomeNumber_89 ?_
      rw [lN_i, show (48 : Int32) = nI 48 from rfl, nI_add]
      refine wf_iv1 (M' := mt_Row_add) (c := 5) dc_Row_becomeNumber_90 tg_Row_add ml_Row_38 im_Row_add se_Row_add ⟨_, rfl, rfl⟩ (by assumption) (Nat.le_of_ble_eq_true rfl) (Nat.le_refl _) (Nat.le_refl _) (c_Row_add hA hw (by omega)) qV_nt (qV_go (fun i2 hp => ?_))
      obtain ⟨hw2, hf2⟩ := hp
      rw [if_pos (by omega)] at hw2
      refine wf_lload dc_Row_becomeNumber_93 rfl ?_
      refine wf_ldc2 10 dc_Row_becomeNumber_95 kl_Row_42 ?_
      refine wf_ldiv dc_Row_becomeNumber_98 (by decide) ?_
      rw [show (10 : Int64) = lN 10 from rfl, pk_lDiv (by omega) (by omega) (by omega)]
      refine wf_lstore dc_Row_becomeNumber_99 (by decide) ?_
      refine wf_iinc _ dc_Row_becomeNumber_101 rfl (nI_1 m) (by decide) ?_
      refine wf_goto 63 dc_Row_becomeNumber_104 (by decide) ?_
      have e1 : 10 ^ e / 10 = if e = 0 then 0 else 10 ^ (e - 1) := by
        by_cases h0 : e = 0
        · rw [h0]; decide
        · rw [if_neg h0, show e = (e - 1) + 1 by omega, Nat.pow_succ, Nat.mul_div_cancel _ (by omega), Nat.add_sub_cancel]
      rw [e1]
      refine Wf.to (by exact ⟨rfl, rfl, rfl, rfl, rfl, trivial⟩) (ih (m + 1) i2 _ (by omega) (by omega) hw2 (by rw [List.length_append]; show w.length + 1 + e ≤ 11; omega) (fr_ss hf hf2) ?_)
      rw [← hx, List.append_assoc]
      congr 1
      by_cases h0 : e = 0
      · subst h0
        rw [if_pos rfl, nm_ds, Nat.pow_zero, Nat.div_one]
        rfl
      · rw [if_neg h0]
        obtain ⟨e', rfl⟩ := Nat.exists_eq_succ_of_ne_zero h0
        rfl
  -- the unit
  have unit : ∀ (m e : Nat) (i1 : Wi) (w : List Int32), m + e = k → rw_is i1 a s w → w.length ≤ 1 → fr_is [a, s] i i1 → w ++ nm_ds v k = nm_of x →
      Wf l E n0 mt_Row_becomeNumber (d + 1) 0 0 (qV nx t r g (fun i' => rw_is i' a s (nm_of x) ∧ fr_is [a, s] i i')) 0 0 28 [(0, .ref a), (1, .int x), (2, .long (lN v)), (4, .long (lN (10 ^ e))), (6, .int (nI (e + 1)))] [] nx t r i1 g := by
    intro m
    induction m with
    | zero =>
      intro e i1 w hm hw hwl hf hx
      have hek : e = k := by omega
      subst hek
      have hp := nm_p10 (k := e) (by omega)
      have hps : 10 ^ (e + 1) = 10 ^ e * 10 := Nat.pow_succ _ _
      refine wf_iload dc_Row_becomeNumber_28 rfl ?_
      refine wf_bipush 11 dc_Row_becomeNumber_30 (by decide) ?_
      have go : Wf l E n0 mt_Row_becomeNumber (d + 1) 0 0 (qV nx t r g (fun i' => rw_is i' a s (nm_of x) ∧ fr_is [a, s] i i')) 0 0 60 [(0, .ref a), (1, .int x), (2, .long (lN v)), (4, .long (lN (10 ^ e))), (6, .int (nI (e + 1)))] [] nx t r i1 g := by
        refine wf_iconst 0 dc_Row_becomeNumber_60 (by decide) ?_
        refine wf_istore dc_Row_becomeNumber_61 (by decide) ?_
        refine Wf.to (L' := [(0, .ref a), (1, .int x), (2, .long (lN v)), (4, .long (lN (if e + 1 = 0 then 0 else 10 ^ (e + 1 - 1)))), (6, .int (nI 0))]) (by exact ⟨rfl, rfl, rfl, rfl, rfl, trivial⟩) (dig 0 (e + 1) i1 w (by omega) (by omega) hw (by omega) hf ?_)
        rw [if_neg (by omega), Nat.add_sub_cancel]
        exact hx
      refine wf_icmp_ge 60 dc_Row_becomeNumber_32 (by decide) (fun hc => go) (fun hc => ?_)
      refine wf_lload dc_Row_becomeNumber_35 rfl ?_
      refine wf_ldc2 10 dc_Row_becomeNumber_37 kl_Row_42 ?_
      refine wf_lmul dc_Row_becomeNumber_40 ?_
      refine wf_lload_n dc_Row_becomeNumber_41 rfl ?_
      refine wf_lcmp dc_Row_becomeNumber_42 ?_
      refine wf_if_gt 60 dc_Row_becomeNumber_43 (by decide) (fun hc => go) (fun hc => absurd ((lg_cmp_gt _ _).mpr ?_) hc)
      rw [show (10 : Int64) = lN 10 from rfl, lN_mul]
      exact (pk_lLT (by omega) (by omega)).mpr (by omega)
    | succ m ih =>
      intro e i1 w hm hw hwl hf hx
      have hp := nm_p10 (k := e + 1) (by omega)
      have hps : 10 ^ (e + 1) = 10 ^ e * 10 := Nat.pow_succ _ _
      have hle : 10 ^ (e + 1) ≤ 10 ^ k := Nat.pow_le_pow_right (by omega) (by omega)
      have hlo := hlo (by omega)
      refine wf_iload dc_Row_becomeNumber_28 rfl ?_
      refine wf_bipush 11 dc_Row_becomeNumber_30 (by decide) ?_
      refine wf_icmp_ge 60 dc_Row_becomeNumber_32 (by decide) (fun hc => absurd ((nI_leI (a := 11) (b := e + 1) (by omega) (by omega)).mp hc) (by omega)) (fun hc => ?_)
      refine wf_lload dc_Row_becomeNumber_35 rfl ?_
      refine wf_ldc2 10 dc_Row_becomeNumber_37 kl_Row_42 ?_
      refine wf_lmul dc_Row_becomeNumber_40 ?_
      refine wf_lload_n dc_Row_becomeNumber_41 rfl ?_
      refine wf_lcmp dc_Row_becomeNumber_42 ?_
      rw [show (10 : Int64) = lN 10 from rfl, lN_mul]
      refine wf_if_gt 60 dc_Row_becomeNumber_43 (by decide) (fun hc => absurd ((pk_lLT (by omega) (by omega)).mp ((lg_cmp_gt _ _).mp hc)) (by omega)) (fun hc => ?_)
      refine wf_lload dc_Row_becomeNumber_46 rfl ?_
      refine wf_ldc2 10 dc_Row_becomeNumber_48 kl_Row_42 ?_
      refine wf_lmul dc_Row_becomeNumber_51 ?_
      rw [show (10 : Int64) = lN 10 from rfl, lN_mul]
      refine wf_lstore dc_Row_becomeNumber_52 (by decide) ?_
      refine wf_iinc _ dc_Row_becomeNumber_54 rfl (nI_1 (e + 1)) (by decide) ?_
      refine wf_goto 28 dc_Row_becomeNumber_57 (by decide) ?_
      rw [← hps]
      exact Wf.to (by exact ⟨rfl, rfl, rfl, rfl, rfl, trivial⟩) (ih (e + 1) i1 w (by omega) hw hwl hf hx)
  refine wf_aload_n dc_Row_becomeNumber_0 rfl ?_
  refine wf_iv0 (M' := mt_Row_drop) (c := 5) dc_Row_becomeNumber_1 tg_Row_drop ml_Row_35 im_Row_drop se_Row_drop ⟨_, rfl, rfl⟩ (by assumption) (Nat.le_of_ble_eq_true rfl) (Nat.le_refl _) (Nat.le_refl _) (c_Row_drop hA) qV_nt (qV_go (fun i2 hp => ?_))
  obtain ⟨hw1, hf1⟩ := hp
  have hf1 : fr_is [a, s] i i2 := fr_mo hf1 (by simp)
  refine wf_iload_n dc_Row_becomeNumber_4 rfl ?_
  refine wf_i2l dc_Row_becomeNumber_5 ?_
  refine wf_lstore_n dc_Row_becomeNumber_6 (by decide) ?_
  refine wf_lload_n dc_Row_becomeNumber_7 rfl ?_
  refine wf_lconst 0 dc_Row_becomeNumber_8 (by decide) ?_
  refine wf_lcmp dc_Row_becomeNumber_9 ?_
  refine wf_if_ge 22 dc_Row_becomeNumber_10 (by decide) (fun hc => ?_) (fun hc => ?_)
  · have hx0 : ¬ x < 0 := fun q => Int64.not_lt.mpr ((lg_cmp_ge _ _).mp hc) ((nm_lt x).mpr q)
    rw [nm_pos hx0, hv]
    refine wf_lconst 1 dc_Row_becomeNumber_22 (by decide) ?_
    refine wf_lstore dc_Row_becomeNumber_23 (by decide) ?_
    refine wf_iconst 1 dc_Row_becomeNumber_25 (by decide) ?_
    refine wf_istore dc_Row_becomeNumber_26 (by decide) ?_
    refine Wf.to (by exact ⟨rfl, rfl, rfl, rfl, rfl, trivial⟩) (unit k 0 i2 [] (by omega) hw1 (by decide) hf1 ?_)
    rw [nm_of, if_neg hx0, hv, hk]
  · have hx0 : x < 0 := (nm_lt x).mp (Int64.not_le.mp fun q => hc ((lg_cmp_ge _ _).mpr q))
    refine wf_aload_n dc_Row_becomeNumber_13 rfl ?_
    refine wf_bipush 45 dc_Row_becomeNumber_14 (by decide) ?_
    refine wf_iv1 (M' := mt_Row_add) (c := 5) dc_Row_becomeNumber_16 tg_Row_add ml_Row_38 im_Row_add se_Row_add ⟨_, rfl, rfl⟩ (by assumption) (Nat.le_of_ble_eq_true rfl) (Nat.le_refl _) (Nat.le_refl _) (c_Row_add hA hw1 (by simp)) qV_nt (qV_go (fun i2 hp => ?_))
    obtain ⟨hw2, hf2⟩ := hp
    rw [if_pos (by simp; omega)] at hw2
    refine wf_lload_n dc_Row_becomeNumber_19 rfl ?_
    refine wf_lneg dc_Row_becomeNumber_20 ?_
    rw [nm_neg hx0, hv]
    refine wf_lstore_n dc_Row_becomeNumber_21 (by decide) ?_
    refine wf_lconst 1 dc_Row_becomeNumber_22 (by decide) ?_
    refine wf_lstore dc_Row_becomeNumber_23 (by decide) ?_
    refine wf_iconst 1 dc_Row_becomeNumber_25 (by decide) ?_
    refine wf_istore dc_Row_becomeNumber_26 (by decide) ?_
    refine Wf.to (by exact ⟨rfl, rfl, rfl, rfl, rfl, trivial⟩) (unit k 0 i2 ([] ++ [45]) (by omega) hw2 (by decide) (fr_ss hf1 hf2) ?_)
    rw [nm_of, if_pos hx0, hv, hk]
    rfl
end
end
section
/-! Math.floorMod by 1500; class Output: all that was printed (p), the latest 1500 kept -/
theorem nI_xor (a b : Nat) : nI a ^^^ nI b = nI (a ^^^ b) := by
  apply Int32.toBitVec_inj.mp
  simp [nI, BitVec.ofNat_xor]
section
variable {l : Launch} {E : We} {n0 d nx : Nat} {t : Wt} {r : Wr} {i : Wi} {g : Wl}
theorem c_Mth_floorMod {x y : Nat} (hx : x < 2 ^ 31) (hy : y < 2 ^ 31) (h0 : 0 < y) : Ct l E n0 mt_Mth_floorMod d 0 0 [.int (nI x), .int (nI y)] nx t r i g (qI nx t r g (fun z i' => z = nI (x % y) ∧ i' = i)) := by
  refine Ct.ofF (by decide +kernel) (Nat.le_of_ble_eq_true rfl) ?_
  refine wf_iload_n dc_Mth_floorMod_0 rfl ?_
  refine wf_iload_n dc_Mth_floorMod_1 rfl ?_
  refine wf_irem dc_Mth_floorMod_2 (nI_ne0 h0 hy) ?_
  rw [pk_rem hx h0 hy]
  refine wf_istore_n dc_Mth_floorMod_3 (by decide) ?_
  refine wf_iload_n dc_Mth_floorMod_4 rfl ?_
  refine wf_iload_n dc_Mth_floorMod_5 rfl ?_
  refine wf_ixor dc_Mth_floorMod_6 ?_
  rw [nI_xor]
  refine wf_if_ge 18 dc_Mth_floorMod_7 (by decide) (fun hc => ?_) (fun hc => absurd (nI_pos' (Nat.xor_lt_two_pow hx hy)) hc)
  refine wf_iload_n dc_Mth_floorMod_18 rfl ?_
  exact wf_ireturn rfl dc_Mth_floorMod_19 ⟨_, rfl, rfl, rfl, rfl, rfl, rfl, rfl⟩
def ou_at (t : Wt) (r : Wr) (a s : Nat) : Prop := t a = some (.inl 3) ∧ r a 0 = some s ∧ t s = some (.inr (0, 1500))
def ou_is (i : Wi) (a s : Nat) (p : List Int32) : Prop := i a 1 = nI p.length ∧ ∀ k, k < p.length → p.length ≤ k + 1500 → i s (k % 1500) = p.getD k 0
theorem ou_at.ne {a s : Nat} (h : ou_at t r a s) : a ≠ s := fun q => by
  obtain ⟨h1, -, h3⟩ := h
  rw [q, h3] at h1
  cases h1
theorem ou_is.fr {i' : Wi} {a s : Nat} {p : List Int32} {S : List Nat} (h : ou_is i a s p) (hf : fr_is S i i') (ha : a ∉ S) (hs : s ∉ S) : ou_is i' a s p := ⟨(hf a ha 1).trans h.1, fun k h1 h2 => (hf s hs _).trans (h.2 k h1 h2)⟩
theorem c_Out_add {a s : Nat} {x : Int32} {p : List Int32} (hA : ou_at t r a s) (hp : ou_is i a s p) (hl : p.length < 2000000000) : Ct l E n0 mt_Out_add (d + 1) 0 0 [.ref a, .int x] nx t r i g (qV nx t r g (fun i' => ou_is i' a s (p ++ [x]) ∧ fr_is [a, s] i i')) := by
  have hne := hA.ne
  obtain ⟨ha, hr, hs⟩ := hA
  obtain ⟨h1, h2⟩ := hp
  refine Ct.of (by decide) (Nat.le_of_ble_eq_true rfl) ?_
  refine wf_aload_n dc_Out_add_0 rfl ?_
  refine wf_getr dc_Out_add_1 fl_Out_9 rfl (by assumption) (by assumption) ?_
  refine wf_aload_n dc_Out_add_4 rfl ?_
  refine wf_geti dc_Out_add_5 fl_Out_32 rfl (by assumption) ?_
  rw [h1]
  refine wf_sipush 1500 dc_Out_add_8 (by decide) ?_
  refine wf_is2 (M' := mt_Mth_floorMod) dc_Out_add_11 tg_Mth_floorMod ml_Out_35 sm_Mth_floorMod (Nat.le_of_ble_eq_true rfl) (Nat.le_refl _) (Nat.le_refl _) (c_Mth_floorMod (x := p.length) (y := 1500) (by omega) (by omega) (by omega)) qI_nt (qI_go (fun x2 i2 hp => ?_))
  obtain ⟨rfl, rfl⟩ := hp
  have hm : p.length % 1500 < 1500 := Nat.mod_lt _ (by omega)
  refine wf_iload_n dc_Out_add_14 rfl ?_
  refine wf_iastore (y := 0) dc_Out_add_15 rfl (by decide) (by assumption) (vp_in_nI hm (by omega)) ?_
  rw [nI_clamp (by omega)]
  refine wf_aload_n dc_Out_add_16 rfl ?_
  refine wf_dup dc_Out_add_17 rfl ?_
  refine wf_geti dc_Out_add_18 fl_Out_32 rfl (by assumption) ?_
  refine wf_iconst 1 dc_Out_add_21 (by decide) ?_
  refine wf_iadd dc_Out_add_22 ?_
  rw [wf_up_a hne, h1, nI_1]
  refine wf_puti dc_Out_add_23 fl_Out_32 (Or.inl nf_Out_1) rfl rfl rfl (by assumption) ?_
  refine wf_return rfl dc_Out_add_26 ⟨rfl, rfl, rfl, rfl, rfl, ⟨?_, ?_⟩, ?_⟩
  · rw [wf_up_s, List.length_append]
    rfl
  · intro k hk hk2
    rw [List.length_append] at hk hk2
    have hk : k < p.length + 1 := hk
    have hk2 : p.length + 1 ≤ k + 1500 := hk2
    rw [wf_up_a hne.symm]
    by_cases hkp : k = p.length
    · rw [hkp, wf_up_s]
      exact (gd_r (w := p) (v := [x]) (j := 0)).symm
    · rw [wf_up_k (by omega), h2 k (by omega) (by omega), gd_l (by omega)]
  · exact fr_up (fr_up fr_rf (by simp)) (by simp)
theorem c_Out_printPart {a s b s2 n2 lo hi : Nat} {p w : List Int32} (hA : ou_at t r a s) (hp : ou_is i a s p) (hl : p.length < 1999999000) (hB : rw_at t r b s2 n2) (hw : rw_is i b s2 w) (hl2 : w.length ≤ n2) (hs2 : s2 ≠ s ∧ s2 ≠ a ∧ b ≠ s ∧ b ≠ a) (hlo : lo ≤ hi) (hhi : hi ≤ w.length) :
    Ct l E n0 mt_Out_printPart (d + 2) 0 0 [.ref a, .ref b, .int (nI lo), .int (nI hi)] nx t r i g (qV nx t r g (fun i' => ou_is i' a s (p ++ (w.drop lo).take (hi - lo) ++ [10]) ∧ fr_is [a, s] i i')) := by
  have ha := hA.1
  have hn2 := hB.2.2.2
  obtain ⟨hb, hrb, hsb, -⟩ := hB
  refine Ct.of (by decide) (Nat.le_of_ble_eq_true rfl) ?_
  refine wf_iload_n dc_Out_printPart_0 rfl ?_
  refine wf_istore dc_Out_printPart_1 (by decide) ?_
  have loop : ∀ (k j : Nat) (i1 : Wi) (p1 : List Int32), j + k = hi → lo ≤ j → ou_is i1 a s p1 → fr_is [a, s] i i1 → p1.length + k < 2000000000 - 1 → p1 ++ (w.drop j).take k = p ++ (w.drop lo).take (hi - lo) →
      Wf l E n0 mt_Out_printPart (d + 2) 0 0 (qV nx t r g (fun i' => ou_is i' a s (p ++ (w.drop lo).take (hi - lo) ++ [10]) ∧ fr_is [a, s] i i')) 0 0 3 [(0, .ref a), (1, .ref b), (3, .int (nI hi)), (4, .int (nI j))] [] nx t r i1 g := by
    intro k
    induction k with
    | zero =>
      intro j i1 p1 hj hlj h1 hf hlen he
      rw [List.take_zero, List.append_nil] at he
      refine wf_iload dc_Out_printPart_3 rfl ?_
      refine wf_iload_n dc_Out_printPart_5 rfl ?_
      refine wf_icmp_ge 26 dc_Out_printPart_6 (by decide) (fun hc => ?_) (fun hc => absurd ((nI_leI (by omega) (by omega)).mpr (by omega)) hc)
      refine wf_aload_n dc_Out_printPart_26 rfl ?_
      refine wf_bipush 10 dc_Out_printPart_27 (by decide) ?_
      refine wf_iv1 (M' := mt_Out_add) (c := 3) dc_Out_printPart_29 tg_Out_add ml_Out_28 im_Out_add se_Out_add ⟨_, rfl, rfl⟩ (by assumption) (Nat.le_of_ble_eq_true rfl) (Nat.le_refl _) (Nat.le_refl _) (c_Out_add hA h1 (by omega)) qV_nt (qV_go (fun i2 hp => ?_))
      exact wf_return rfl dc_Out_printPart_32 ⟨rfl, rfl, rfl, rfl, rfl, by rw [← he]; exact hp.1, fr_ss hf hp.2⟩
    | succ k ih =>
      intro j i1 p1 hj hlj h1 hf hlen he
      have hw1 : rw_is i1 b s2 w := hw.fr hf (by simp [hs2]) (by simp [hs2])
      refine wf_iload dc_Out_printPart_3 rfl ?_
      refine wf_iload_n dc_Out_printPart_5 rfl ?_
      refine wf_icmp_ge 26 dc_Out_printPart_6 (by decide) (fun hc => absurd ((nI_leI (by omega) (by omega)).mp hc) (by omega)) (fun hc => ?_)
      refine wf_aload_n dc_Out_printPart_9 rfl ?_
      refine wf_aload_n dc_Out_printPart_10 rfl ?_
      refine wf_getr dc_Out_printPart_11 fl_Out_25 rfl (by assumption) (by assumption) ?_
      refine wf_iload dc_Out_printPart_14 rfl ?_
      refine wf_iaload (y := 0) dc_Out_printPart_16 rfl (by assumption) (vp_in_nI (by omega) (by omega)) ?_
      rw [nI_clamp (by omega), hw1.2 j (by omega)]
      refine wf_iv1 (M' := mt_Out_add) (c := 3) dc_Out_printPart_17 tg_Out_add ml_Out_28 im_Out_add se_Out_add ⟨_, rfl, rfl⟩ (by assumption) (Nat.le_of_ble_eq_true rfl) (Nat.le_refl _) (Nat.le_refl _) (c_Out_add hA h1 (by omega)) qV_nt (qV_go (fun i2 hp => ?_))
      refine wf_iinc _ dc_Out_printPart_20 rfl (nI_1 j) (by decide) ?_
      refine wf_goto 3 dc_Out_printPart_23 (by decide) ?_
      refine Wf.to (by exact ⟨rfl, rfl, rfl, rfl, trivial⟩) (ih (j + 1) i2 _ (by omega) (by omega) hp.1 (fr_ss hf hp.2) (by rw [List.length_append]; show p1.length + 1 + k < _; omega) ?_)
      rw [← he, List.append_assoc]
      congr 1
      have hjw : j < w.length := by omega
      rw [List.drop_eq_getElem_cons hjw, List.take_succ_cons, List.getD_eq_getElem?_getD, List.getElem?_eq_getElem hjw]
      rfl
  exact Wf.to (by exact ⟨rfl, rfl, rfl, rfl, trivial⟩) (loop (hi - lo) lo i p (by omega) (by omega) hp fr_rf (by omega) rfl)
theorem c_Out_print {a s b s2 n2 : Nat} {p w : List Int32} (hA : ou_at t r a s) (hp : ou_is i a s p) (hl : p.length < 1999999000) (hB : rw_at t r b s2 n2) (hw : rw_is i b s2 w) (hl2 : w.length ≤ n2) (hs2 : s2 ≠ s ∧ s2 ≠ a ∧ b ≠ s ∧ b ≠ a) :
    Ct l E n0 mt_Out_print (d + 3) 0 0 [.ref a, .ref b] nx t r i g (qV nx t r g (fun i' => ou_is i' a s (p ++ w ++ [10]) ∧ fr_is [a, s] i i')) := by
  have ha := hA.1
  have hb := hB.1
  refine Ct.of (by decide) (Nat.le_of_ble_eq_true rfl) ?_
  refine wf_aload_n dc_Out_print_0 rfl ?_
  refine wf_aload_n dc_Out_print_1 rfl ?_
  refine wf_iconst 0 dc_Out_print_2 (by decide) ?_
  refine wf_aload_n dc_Out_print_3 rfl ?_
  refine wf_geti dc_Out_print_4 fl_Out_15 rfl (by assumption) ?_
  rw [hw.1]
  refine wf_iv3 (M' := mt_Out_printPart) (c := 3) dc_Out_print_7 tg_Out_printPart ml_Out_21 im_Out_printPart se_Out_printPart ⟨_, rfl, rfl⟩ (by assumption) (Nat.le_of_ble_eq_true rfl) (Nat.le_refl _) (Nat.le_refl _) (c_Out_printPart (lo := 0) hA hp hl hB hw hl2 hs2 (Nat.zero_le _) (Nat.le_refl _)) qV_nt (qV_go (fun i2 hp => ?_))
  have h := hp.1
  rw [List.drop_zero, Nat.sub_zero, List.take_length] at h
  exact wf_return rfl dc_Out_print_10 ⟨rfl, rfl, rfl, rfl, rfl, h, hp.2⟩
theorem c_Out_has {a s : Nat} {j : Int32} {p : List Int32} (hA : ou_at t r a s) (hp : ou_is i a s p) : Ct l E n0 mt_Out_has d 0 0 [.ref a, .int j] nx t r i g (qI nx t r g (fun z i' => z = (if ¬ j < 0 ∧ j < nI p.length ∧ nI p.length - 1500 ≤ j then 1 else 0) ∧ i' = i)) := by
  obtain ⟨ha, hr, hs⟩ := hA
  obtain ⟨h1, h2⟩ := hp
  refine Ct.of (by decide) (Nat.le_of_ble_eq_true rfl) ?_
  refine wf_iload_n dc_Out_has_0 rfl ?_
  refine wf_if_lt 28 dc_Out_has_1 (by decide) (fun hc => ?_) (fun hc => ?_)
  · refine wf_iconst 0 dc_Out_has_28 (by decide) ?_
    exact wf_zreturn rfl rfl dc_Out_has_29 ⟨0, rfl, rfl, rfl, rfl, rfl, by rw [if_neg (fun q => q.1 hc)], rfl⟩
  · refine wf_iload_n dc_Out_has_4 rfl ?_
    refine wf_aload_n dc_Out_has_5 rfl ?_
    refine wf_geti dc_Out_has_6 fl_Out_32 rfl (by assumption) ?_
    rw [h1]
    refine wf_icmp_ge 28 dc_Out_has_9 (by decide) (fun hc2 => ?_) (fun hc2 => ?_)
    · refine wf_iconst 0 dc_Out_has_28 (by decide) ?_
      exact wf_zreturn rfl rfl dc_Out_has_29 ⟨0, rfl, rfl, rfl, rfl, rfl, by rw [if_neg (fun q => Int32.not_lt.mpr hc2 q.2.1)], rfl⟩
    · refine wf_iload_n dc_Out_has_12 rfl ?_
      refine wf_aload_n dc_Out_has_13 rfl ?_
      refine wf_geti dc_Out_has_14 fl_Out_32 rfl (by assumption) ?_
      rw [h1]
      refine wf_sipush 1500 dc_Out_has_17 (by decide) ?_
      refine wf_isub dc_Out_has_20 ?_
      refine wf_icmp_lt 28 dc_Out_has_21 (by decide) (fun hc3 => ?_) (fun hc3 => ?_)
      · refine wf_iconst 0 dc_Out_has_28 (by decide) ?_
        exact wf_zreturn rfl rfl dc_Out_has_29 ⟨0, rfl, rfl, rfl, rfl, rfl, by rw [if_neg (fun q => Int32.not_le.mpr hc3 q.2.2)], rfl⟩
      · refine wf_iconst 1 dc_Out_has_24 (by decide) ?_
        refine wf_goto 29 dc_Out_has_25 (by decide) ?_
        exact wf_zreturn rfl rfl dc_Out_has_29 ⟨1, rfl, rfl, rfl, rfl, rfl, by rw [if_pos ⟨hc, Int32.not_le.mp hc2, Int32.not_lt.mp hc3⟩], rfl⟩
theorem c_Out_signAt {a s k : Nat} {p : List Int32} (hA : ou_at t r a s) (hp : ou_is i a s p) (hk : k < p.length) (hk2 : p.length ≤ k + 1500) (hl : p.length < 2000000000) : Ct l E n0 mt_Out_signAt (d + 1) 0 0 [.ref a, .int (nI k)] nx t r i g (qI nx t r g (fun z i' => z = p.getD k 0 ∧ i' = i)) := by
  obtain ⟨ha, hr, hs⟩ := hA
  obtain ⟨h1, h2⟩ := hp
  refine Ct.of (by decide) (Nat.le_of_ble_eq_true rfl) ?_
  refine wf_aload_n dc_Out_signAt_0 rfl ?_
  refine wf_getr dc_Out_signAt_1 fl_Out_9 rfl (by assumption) (by assumption) ?_
  refine wf_iload_n dc_Out_signAt_4 rfl ?_
  refine wf_sipush 1500 dc_Out_signAt_5 (by decide) ?_
  refine wf_is2 (M' := mt_Mth_floorMod) dc_Out_signAt_8 tg_Mth_floorMod ml_Out_35 sm_Mth_floorMod (Nat.le_of_ble_eq_true rfl) (Nat.le_refl _) (Nat.le_refl _) (c_Mth_floorMod (x := k) (y := 1500) (by omega) (by omega) (by omega)) qI_nt (qI_go (fun x2 i2 hp => ?_))
  obtain ⟨rfl, rfl⟩ := hp
  have hm : k % 1500 < 1500 := Nat.mod_lt _ (by omega)
  refine wf_iaload (y := 0) dc_Out_signAt_11 rfl (by assumption) (vp_in_nI hm (by omega)) ?_
  rw [nI_clamp (by omega), h2 k hk hk2]
  exact wf_ireturn rfl dc_Out_signAt_12 ⟨_, rfl, rfl, rfl, rfl, rfl, rfl, rfl⟩
end
end
