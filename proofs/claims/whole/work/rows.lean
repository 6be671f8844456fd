section
-- ===== PART A: goes FIRST, ahead of the names: the tables' words, and 'selects' of the private methods out of them =====
/-- a private method of a class that the tables say can be made, by its rows of tables_1 -/
def lw_okq (q : MethodName × Nat) : Prop := (q.1.cls ≠ "java/lang/invoke/MethodHandle" ∧ q.1.cls ≠ "java/lang/invoke/VarHandle") ∧ Cond.instantiable q.1.cls q.2 ∈ tables_1 ∧ Cond.privateMethod q.1 ∈ tables_1 ∧ Cond.instanceMethod q.1 ∈ tables_1
theorem lw_p0 : lw_okq (⟨"LineRules$CutLine", "addField", "(II)V"⟩, 5) := ⟨⟨by decide +kernel, by decide +kernel⟩, List.mem_of_getElem? (i := 133) (by decide +kernel), List.mem_of_getElem? (i := 305) (by decide +kernel), List.mem_of_getElem? (i := 306) (by decide +kernel)⟩
theorem lw_p1 : lw_okq (⟨"LineRules", "hasPattern", "(LLineRules$Rule;)Z"⟩, 14) := ⟨⟨by decide +kernel, by decide +kernel⟩, List.mem_of_getElem? (i := 20) (by decide +kernel), List.mem_of_getElem? (i := 314) (by decide +kernel), List.mem_of_getElem? (i := 315) (by decide +kernel)⟩
theorem lw_p2 : lw_okq (⟨"LineRules$Expression", "followersOf", "(J)J"⟩, 6) := ⟨⟨by decide +kernel, by decide +kernel⟩, List.mem_of_getElem? (i := 62) (by decide +kernel), List.mem_of_getElem? (i := 329) (by decide +kernel), List.mem_of_getElem? (i := 330) (by decide +kernel)⟩
theorem lw_p3 : lw_okq (⟨"LineRules", "doActions", "(LLineRules$Rule;)Z"⟩, 14) := ⟨⟨by decide +kernel, by decide +kernel⟩, List.mem_of_getElem? (i := 20) (by decide +kernel), List.mem_of_getElem? (i := 341) (by decide +kernel), List.mem_of_getElem? (i := 342) (by decide +kernel)⟩
theorem lw_p4 : lw_okq (⟨"LineRules", "doAction", "(III)V"⟩, 14) := ⟨⟨by decide +kernel, by decide +kernel⟩, List.mem_of_getElem? (i := 20) (by decide +kernel), List.mem_of_getElem? (i := 345) (by decide +kernel), List.mem_of_getElem? (i := 346) (by decide +kernel)⟩
theorem lw_p5 : lw_okq (⟨"LineRules$Output", "add", "(I)V"⟩, 2) := ⟨⟨by decide +kernel, by decide +kernel⟩, List.mem_of_getElem? (i := 179) (by decide +kernel), List.mem_of_getElem? (i := 357) (by decide +kernel), List.mem_of_getElem? (i := 358) (by decide +kernel)⟩
theorem lw_p6 : lw_okq (⟨"LineRules$Table", "placeOf", "(LLineRules$Row;)I"⟩, 3) := ⟨⟨by decide +kernel, by decide +kernel⟩, List.mem_of_getElem? (i := 159) (by decide +kernel), List.mem_of_getElem? (i := 368) (by decide +kernel), List.mem_of_getElem? (i := 369) (by decide +kernel)⟩
theorem lw_p7 : lw_okq (⟨"LineRules$Table", "insert", "(ILLineRules$Row;I)V"⟩, 3) := ⟨⟨by decide +kernel, by decide +kernel⟩, List.mem_of_getElem? (i := 159) (by decide +kernel), List.mem_of_getElem? (i := 376) (by decide +kernel), List.mem_of_getElem? (i := 377) (by decide +kernel)⟩
theorem lw_p8 : lw_okq (⟨"LineRules$CutLine", "join", "(I)V"⟩, 5) := ⟨⟨by decide +kernel, by decide +kernel⟩, List.mem_of_getElem? (i := 133) (by decide +kernel), List.mem_of_getElem? (i := 387) (by decide +kernel), List.mem_of_getElem? (i := 388) (by decide +kernel)⟩
theorem lw_p9 : lw_okq (⟨"LineRules$CutLine", "matchBehind", "(LLineRules$Expression;I)I"⟩, 5) := ⟨⟨by decide +kernel, by decide +kernel⟩, List.mem_of_getElem? (i := 133) (by decide +kernel), List.mem_of_getElem? (i := 413) (by decide +kernel), List.mem_of_getElem? (i := 414) (by decide +kernel)⟩
theorem lw_p10 : lw_okq (⟨"LineRules", "printMatch", "(LLineRules$Expression;)V"⟩, 14) := ⟨⟨by decide +kernel, by decide +kernel⟩, List.mem_of_getElem? (i := 20) (by decide +kernel), List.mem_of_getElem? (i := 418) (by decide +kernel), List.mem_of_getElem? (i := 419) (by decide +kernel)⟩
theorem lw_p11 : lw_okq (⟨"java/lang/Throwable", "fillInStackTrace", "(I)Ljava/lang/Throwable;"⟩, 6) := ⟨⟨by decide +kernel, by decide +kernel⟩, List.mem_of_getElem? (i := 477) (by decide +kernel), List.mem_of_getElem? (i := 475) (by decide +kernel), List.mem_of_getElem? (i := 476) (by decide +kernel)⟩
theorem lw_p12 : lw_okq (⟨"LineRules", "addToPad", "(I)V"⟩, 14) := ⟨⟨by decide +kernel, by decide +kernel⟩, List.mem_of_getElem? (i := 20) (by decide +kernel), List.mem_of_getElem? (i := 507) (by decide +kernel), List.mem_of_getElem? (i := 508) (by decide +kernel)⟩
theorem lw_p13 : lw_okq (⟨"LineRules$Reader", "alternation", "(I)I"⟩, 11) := ⟨⟨by decide +kernel, by decide +kernel⟩, List.mem_of_getElem? (i := 56) (by decide +kernel), List.mem_of_getElem? (i := 551) (by decide +kernel), List.mem_of_getElem? (i := 552) (by decide +kernel)⟩
theorem lw_p14 : lw_okq (⟨"LineRules$Reader", "sequence", "(I)I"⟩, 11) := ⟨⟨by decide +kernel, by decide +kernel⟩, List.mem_of_getElem? (i := 56) (by decide +kernel), List.mem_of_getElem? (i := 555) (by decide +kernel), List.mem_of_getElem? (i := 556) (by decide +kernel)⟩
theorem lw_p15 : lw_okq (⟨"LineRules$Reader", "node", "(III)I"⟩, 11) := ⟨⟨by decide +kernel, by decide +kernel⟩, List.mem_of_getElem? (i := 56) (by decide +kernel), List.mem_of_getElem? (i := 559) (by decide +kernel), List.mem_of_getElem? (i := 560) (by decide +kernel)⟩
def lw_privs_1 : List (MethodName × Nat) := [(⟨"LineRules$CutLine", "addField", "(II)V"⟩, 5), (⟨"LineRules", "hasPattern", "(LLineRules$Rule;)Z"⟩, 14), (⟨"LineRules$Expression", "followersOf", "(J)J"⟩, 6), (⟨"LineRules", "doActions", "(LLineRules$Rule;)Z"⟩, 14), (⟨"LineRules", "doAction", "(III)V"⟩, 14), (⟨"LineRules$Output", "add", "(I)V"⟩, 2), (⟨"LineRules$Table", "placeOf", "(LLineRules$Row;)I"⟩, 3), (⟨"LineRules$Table", "insert", "(ILLineRules$Row;I)V"⟩, 3), (⟨"LineRules$CutLine", "join", "(I)V"⟩, 5), (⟨"LineRules$CutLine", "matchBehind", "(LLineRules$Expression;I)I"⟩, 5), (⟨"LineRules", "printMatch", "(LLineRules$Expression;)V"⟩, 14), (⟨"java/lang/Throwable", "fillInStackTrace", "(I)Ljava/lang/Throwable;"⟩, 6), (⟨"LineRules", "addToPad", "(I)V"⟩, 14), (⟨"LineRules$Reader", "alternation", "(I)I"⟩, 11), (⟨"LineRules$Reader", "sequence", "(I)I"⟩, 11), (⟨"LineRules$Reader", "node", "(III)I"⟩, 11)]
theorem lw_r1 : ∀ q ∈ lw_privs_1, lw_okq q := List.forall_mem_cons.mpr ⟨lw_p0, List.forall_mem_cons.mpr ⟨lw_p1, List.forall_mem_cons.mpr ⟨lw_p2, List.forall_mem_cons.mpr ⟨lw_p3, List.forall_mem_cons.mpr ⟨lw_p4, List.forall_mem_cons.mpr ⟨lw_p5, List.forall_mem_cons.mpr ⟨lw_p6, List.forall_mem_cons.mpr ⟨lw_p7, List.forall_mem_cons.mpr ⟨lw_p8, List.forall_mem_cons.mpr ⟨lw_p9, List.forall_mem_cons.mpr ⟨lw_p10, List.forall_mem_cons.mpr ⟨lw_p11, List.forall_mem_cons.mpr ⟨lw_p12, List.forall_mem_cons.mpr ⟨lw_p13, List.forall_mem_cons.mpr ⟨lw_p14, List.forall_mem_cons.mpr ⟨lw_p15, fun _ h => absurd h List.not_mem_nil⟩⟩⟩⟩⟩⟩⟩⟩⟩⟩⟩⟩⟩⟩⟩⟩
theorem lw_p16 : lw_okq (⟨"LineRules$Reader", "refuse", "()I"⟩, 11) := ⟨⟨by decide +kernel, by decide +kernel⟩, List.mem_of_getElem? (i := 56) (by decide +kernel), List.mem_of_getElem? (i := 563) (by decide +kernel), List.mem_of_getElem? (i := 564) (by decide +kernel)⟩
theorem lw_p17 : lw_okq (⟨"LineRules$Reader", "next", "()I"⟩, 11) := ⟨⟨by decide +kernel, by decide +kernel⟩, List.mem_of_getElem? (i := 56) (by decide +kernel), List.mem_of_getElem? (i := 567) (by decide +kernel), List.mem_of_getElem? (i := 568) (by decide +kernel)⟩
theorem lw_p18 : lw_okq (⟨"LineRules$Reader", "atom", "(I)I"⟩, 11) := ⟨⟨by decide +kernel, by decide +kernel⟩, List.mem_of_getElem? (i := 56) (by decide +kernel), List.mem_of_getElem? (i := 571) (by decide +kernel), List.mem_of_getElem? (i := 572) (by decide +kernel)⟩
theorem lw_p19 : lw_okq (⟨"LineRules$Reader", "anySign", "()I"⟩, 11) := ⟨⟨by decide +kernel, by decide +kernel⟩, List.mem_of_getElem? (i := 56) (by decide +kernel), List.mem_of_getElem? (i := 578) (by decide +kernel), List.mem_of_getElem? (i := 579) (by decide +kernel)⟩
theorem lw_p20 : lw_okq (⟨"LineRules$Reader", "newAtom", "()J"⟩, 11) := ⟨⟨by decide +kernel, by decide +kernel⟩, List.mem_of_getElem? (i := 56) (by decide +kernel), List.mem_of_getElem? (i := 582) (by decide +kernel), List.mem_of_getElem? (i := 583) (by decide +kernel)⟩
theorem lw_p21 : lw_okq (⟨"LineRules$Reader", "take", "(JII)V"⟩, 11) := ⟨⟨by decide +kernel, by decide +kernel⟩, List.mem_of_getElem? (i := 56) (by decide +kernel), List.mem_of_getElem? (i := 586) (by decide +kernel), List.mem_of_getElem? (i := 587) (by decide +kernel)⟩
theorem lw_p22 : lw_okq (⟨"LineRules$Reader", "escaped", "()I"⟩, 11) := ⟨⟨by decide +kernel, by decide +kernel⟩, List.mem_of_getElem? (i := 56) (by decide +kernel), List.mem_of_getElem? (i := 590) (by decide +kernel), List.mem_of_getElem? (i := 591) (by decide +kernel)⟩
theorem lw_p23 : lw_okq (⟨"LineRules$Reader", "one", "(I)I"⟩, 11) := ⟨⟨by decide +kernel, by decide +kernel⟩, List.mem_of_getElem? (i := 56) (by decide +kernel), List.mem_of_getElem? (i := 594) (by decide +kernel), List.mem_of_getElem? (i := 595) (by decide +kernel)⟩
theorem lw_p24 : lw_okq (⟨"LineRules$Reader", "items", "()I"⟩, 11) := ⟨⟨by decide +kernel, by decide +kernel⟩, List.mem_of_getElem? (i := 56) (by decide +kernel), List.mem_of_getElem? (i := 598) (by decide +kernel), List.mem_of_getElem? (i := 599) (by decide +kernel)⟩
theorem lw_p25 : lw_okq (⟨"LineRules$Reader", "item", "(J)V"⟩, 11) := ⟨⟨by decide +kernel, by decide +kernel⟩, List.mem_of_getElem? (i := 56) (by decide +kernel), List.mem_of_getElem? (i := 602) (by decide +kernel), List.mem_of_getElem? (i := 603) (by decide +kernel)⟩
theorem lw_p26 : lw_okq (⟨"LineRules$Reader", "takeOthers", "(J)V"⟩, 11) := ⟨⟨by decide +kernel, by decide +kernel⟩, List.mem_of_getElem? (i := 56) (by decide +kernel), List.mem_of_getElem? (i := 609) (by decide +kernel), List.mem_of_getElem? (i := 610) (by decide +kernel)⟩
theorem lw_p27 : lw_okq (⟨"LineRules$Reader", "group", "(I)I"⟩, 11) := ⟨⟨by decide +kernel, by decide +kernel⟩, List.mem_of_getElem? (i := 56) (by decide +kernel), List.mem_of_getElem? (i := 613) (by decide +kernel), List.mem_of_getElem? (i := 614) (by decide +kernel)⟩
theorem lw_p28 : lw_okq (⟨"LineRules$Reader", "repeated", "(I)I"⟩, 11) := ⟨⟨by decide +kernel, by decide +kernel⟩, List.mem_of_getElem? (i := 56) (by decide +kernel), List.mem_of_getElem? (i := 617) (by decide +kernel), List.mem_of_getElem? (i := 618) (by decide +kernel)⟩
theorem lw_p29 : lw_okq (⟨"LineRules$Reader", "weighAll", "(I)V"⟩, 11) := ⟨⟨by decide +kernel, by decide +kernel⟩, List.mem_of_getElem? (i := 56) (by decide +kernel), List.mem_of_getElem? (i := 624) (by decide +kernel), List.mem_of_getElem? (i := 625) (by decide +kernel)⟩
theorem lw_p30 : lw_okq (⟨"LineRules$Reader", "weigh", "(II)V"⟩, 11) := ⟨⟨by decide +kernel, by decide +kernel⟩, List.mem_of_getElem? (i := 56) (by decide +kernel), List.mem_of_getElem? (i := 628) (by decide +kernel), List.mem_of_getElem? (i := 629) (by decide +kernel)⟩
theorem lw_p31 : lw_okq (⟨"LineRules$Reader", "set", "(IZJJ)V"⟩, 11) := ⟨⟨by decide +kernel, by decide +kernel⟩, List.mem_of_getElem? (i := 56) (by decide +kernel), List.mem_of_getElem? (i := 632) (by decide +kernel), List.mem_of_getElem? (i := 633) (by decide +kernel)⟩
def lw_privs_2 : List (MethodName × Nat) := [(⟨"LineRules$Reader", "refuse", "()I"⟩, 11), (⟨"LineRules$Reader", "next", "()I"⟩, 11), (⟨"LineRules$Reader", "atom", "(I)I"⟩, 11), (⟨"LineRules$Reader", "anySign", "()I"⟩, 11), (⟨"LineRules$Reader", "newAtom", "()J"⟩, 11), (⟨"LineRules$Reader", "take", "(JII)V"⟩, 11), (⟨"LineRules$Reader", "escaped", "()I"⟩, 11), (⟨"LineRules$Reader", "one", "(I)I"⟩, 11), (⟨"LineRules$Reader", "items", "()I"⟩, 11), (⟨"LineRules$Reader", "item", "(J)V"⟩, 11), (⟨"LineRules$Reader", "takeOthers", "(J)V"⟩, 11), (⟨"LineRules$Reader", "group", "(I)I"⟩, 11), (⟨"LineRules$Reader", "repeated", "(I)I"⟩, 11), (⟨"LineRules$Reader", "weighAll", "(I)V"⟩, 11), (⟨"LineRules$Reader", "weigh", "(II)V"⟩, 11), (⟨"LineRules$Reader", "set", "(IZJJ)V"⟩, 11)]
theorem lw_r2 : ∀ q ∈ lw_privs_2, lw_okq q := List.forall_mem_cons.mpr ⟨lw_p16, List.forall_mem_cons.mpr ⟨lw_p17, List.forall_mem_cons.mpr ⟨lw_p18, List.forall_mem_cons.mpr ⟨lw_p19, List.forall_mem_cons.mpr ⟨lw_p20, List.forall_mem_cons.mpr ⟨lw_p21, List.forall_mem_cons.mpr ⟨lw_p22, List.forall_mem_cons.mpr ⟨lw_p23, List.forall_mem_cons.mpr ⟨lw_p24, List.forall_mem_cons.mpr ⟨lw_p25, List.forall_mem_cons.mpr ⟨lw_p26, List.forall_mem_cons.mpr ⟨lw_p27, List.forall_mem_cons.mpr ⟨lw_p28, List.forall_mem_cons.mpr ⟨lw_p29, List.forall_mem_cons.mpr ⟨lw_p30, List.forall_mem_cons.mpr ⟨lw_p31, fun _ h => absurd h List.not_mem_nil⟩⟩⟩⟩⟩⟩⟩⟩⟩⟩⟩⟩⟩⟩⟩⟩
theorem lw_p32 : lw_okq (⟨"LineRules$Reader", "link", "(I)V"⟩, 11) := ⟨⟨by decide +kernel, by decide +kernel⟩, List.mem_of_getElem? (i := 56) (by decide +kernel), List.mem_of_getElem? (i := 636) (by decide +kernel), List.mem_of_getElem? (i := 637) (by decide +kernel)⟩
theorem lw_p33 : lw_okq (⟨"LineRules$Reader", "follow", "(JJ)V"⟩, 11) := ⟨⟨by decide +kernel, by decide +kernel⟩, List.mem_of_getElem? (i := 56) (by decide +kernel), List.mem_of_getElem? (i := 640) (by decide +kernel), List.mem_of_getElem? (i := 641) (by decide +kernel)⟩
theorem lw_p34 : lw_okq (⟨"LineRulesModel", "goes", "(ZZ)Z"⟩, 40) := ⟨⟨by decide +kernel, by decide +kernel⟩, List.mem_of_getElem? (i := 789) (by decide +kernel), List.mem_of_getElem? (i := 927) (by decide +kernel), List.mem_of_getElem? (i := 928) (by decide +kernel)⟩
theorem lw_p35 : lw_okq (⟨"LineRulesModel", "feedOne", "(I)V"⟩, 40) := ⟨⟨by decide +kernel, by decide +kernel⟩, List.mem_of_getElem? (i := 789) (by decide +kernel), List.mem_of_getElem? (i := 931) (by decide +kernel), List.mem_of_getElem? (i := 932) (by decide +kernel)⟩
theorem lw_p36 : lw_okq (⟨"LineRulesModel", "draw", "(I)V"⟩, 40) := ⟨⟨by decide +kernel, by decide +kernel⟩, List.mem_of_getElem? (i := 789) (by decide +kernel), List.mem_of_getElem? (i := 946) (by decide +kernel), List.mem_of_getElem? (i := 947) (by decide +kernel)⟩
theorem lw_p37 : lw_okq (⟨"LineRulesModel", "point", "()I"⟩, 40) := ⟨⟨by decide +kernel, by decide +kernel⟩, List.mem_of_getElem? (i := 789) (by decide +kernel), List.mem_of_getElem? (i := 950) (by decide +kernel), List.mem_of_getElem? (i := 951) (by decide +kernel)⟩
theorem lw_p38 : lw_okq (⟨"LineRulesModel", "edge", "(IIII)V"⟩, 40) := ⟨⟨by decide +kernel, by decide +kernel⟩, List.mem_of_getElem? (i := 789) (by decide +kernel), List.mem_of_getElem? (i := 954) (by decide +kernel), List.mem_of_getElem? (i := 955) (by decide +kernel)⟩
theorem lw_p39 : lw_okq (⟨"LineRulesModel", "fail", "(I)V"⟩, 40) := ⟨⟨by decide +kernel, by decide +kernel⟩, List.mem_of_getElem? (i := 789) (by decide +kernel), List.mem_of_getElem? (i := 958) (by decide +kernel), List.mem_of_getElem? (i := 959) (by decide +kernel)⟩
theorem lw_p40 : lw_okq (⟨"LineRulesModel", "items", "(II)I"⟩, 40) := ⟨⟨by decide +kernel, by decide +kernel⟩, List.mem_of_getElem? (i := 789) (by decide +kernel), List.mem_of_getElem? (i := 962) (by decide +kernel), List.mem_of_getElem? (i := 963) (by decide +kernel)⟩
theorem lw_p41 : lw_okq (⟨"LineRulesModel", "copyRow", "(II)V"⟩, 40) := ⟨⟨by decide +kernel, by decide +kernel⟩, List.mem_of_getElem? (i := 789) (by decide +kernel), List.mem_of_getElem? (i := 973) (by decide +kernel), List.mem_of_getElem? (i := 974) (by decide +kernel)⟩
theorem lw_p42 : lw_okq (⟨"LineRulesModel", "part", "()V"⟩, 40) := ⟨⟨by decide +kernel, by decide +kernel⟩, List.mem_of_getElem? (i := 789) (by decide +kernel), List.mem_of_getElem? (i := 1003) (by decide +kernel), List.mem_of_getElem? (i := 1004) (by decide +kernel)⟩
theorem lw_p43 : lw_okq (⟨"LineRulesModel", "field", "(II)V"⟩, 40) := ⟨⟨by decide +kernel, by decide +kernel⟩, List.mem_of_getElem? (i := 789) (by decide +kernel), List.mem_of_getElem? (i := 1007) (by decide +kernel), List.mem_of_getElem? (i := 1008) (by decide +kernel)⟩
theorem lw_p44 : lw_okq (⟨"LineRulesModel", "has", "(III)Z"⟩, 40) := ⟨⟨by decide +kernel, by decide +kernel⟩, List.mem_of_getElem? (i := 789) (by decide +kernel), List.mem_of_getElem? (i := 1011) (by decide +kernel), List.mem_of_getElem? (i := 1012) (by decide +kernel)⟩
theorem lw_p45 : lw_okq (⟨"LineRulesModel", "seek", "(III)Z"⟩, 40) := ⟨⟨by decide +kernel, by decide +kernel⟩, List.mem_of_getElem? (i := 789) (by decide +kernel), List.mem_of_getElem? (i := 1015) (by decide +kernel), List.mem_of_getElem? (i := 1016) (by decide +kernel)⟩
theorem lw_p46 : lw_okq (⟨"LineRulesModel", "longest", "(II)I"⟩, 40) := ⟨⟨by decide +kernel, by decide +kernel⟩, List.mem_of_getElem? (i := 789) (by decide +kernel), List.mem_of_getElem? (i := 1019) (by decide +kernel), List.mem_of_getElem? (i := 1020) (by decide +kernel)⟩
theorem lw_p47 : lw_okq (⟨"LineRulesModel", "spread", "(II)V"⟩, 40) := ⟨⟨by decide +kernel, by decide +kernel⟩, List.mem_of_getElem? (i := 789) (by decide +kernel), List.mem_of_getElem? (i := 1023) (by decide +kernel), List.mem_of_getElem? (i := 1024) (by decide +kernel)⟩
def lw_privs_3 : List (MethodName × Nat) := [(⟨"LineRules$Reader", "link", "(I)V"⟩, 11), (⟨"LineRules$Reader", "follow", "(JJ)V"⟩, 11), (⟨"LineRulesModel", "goes", "(ZZ)Z"⟩, 40), (⟨"LineRulesModel", "feedOne", "(I)V"⟩, 40), (⟨"LineRulesModel", "draw", "(I)V"⟩, 40), (⟨"LineRulesModel", "point", "()I"⟩, 40), (⟨"LineRulesModel", "edge", "(IIII)V"⟩, 40), (⟨"LineRulesModel", "fail", "(I)V"⟩, 40), (⟨"LineRulesModel", "items", "(II)I"⟩, 40), (⟨"LineRulesModel", "copyRow", "(II)V"⟩, 40), (⟨"LineRulesModel", "part", "()V"⟩, 40), (⟨"LineRulesModel", "field", "(II)V"⟩, 40), (⟨"LineRulesModel", "has", "(III)Z"⟩, 40), (⟨"LineRulesModel", "seek", "(III)Z"⟩, 40), (⟨"LineRulesModel", "longest", "(II)I"⟩, 40), (⟨"LineRulesModel", "spread", "(II)V"⟩, 40)]
theorem lw_r3 : ∀ q ∈ lw_privs_3, lw_okq q := List.forall_mem_cons.mpr ⟨lw_p32, List.forall_mem_cons.mpr ⟨lw_p33, List.forall_mem_cons.mpr ⟨lw_p34, List.forall_mem_cons.mpr ⟨lw_p35, List.forall_mem_cons.mpr ⟨lw_p36, List.forall_mem_cons.mpr ⟨lw_p37, List.forall_mem_cons.mpr ⟨lw_p38, List.forall_mem_cons.mpr ⟨lw_p39, List.forall_mem_cons.mpr ⟨lw_p40, List.forall_mem_cons.mpr ⟨lw_p41, List.forall_mem_cons.mpr ⟨lw_p42, List.forall_mem_cons.mpr ⟨lw_p43, List.forall_mem_cons.mpr ⟨lw_p44, List.forall_mem_cons.mpr ⟨lw_p45, List.forall_mem_cons.mpr ⟨lw_p46, List.forall_mem_cons.mpr ⟨lw_p47, fun _ h => absurd h List.not_mem_nil⟩⟩⟩⟩⟩⟩⟩⟩⟩⟩⟩⟩⟩⟩⟩⟩
theorem lw_p48 : lw_okq (⟨"LineRulesModel", "isSign", "(II)Z"⟩, 40) := ⟨⟨by decide +kernel, by decide +kernel⟩, List.mem_of_getElem? (i := 789) (by decide +kernel), List.mem_of_getElem? (i := 1027) (by decide +kernel), List.mem_of_getElem? (i := 1028) (by decide +kernel)⟩
theorem lw_p49 : lw_okq (⟨"LineRulesModel", "fieldToRow", "(I)V"⟩, 40) := ⟨⟨by decide +kernel, by decide +kernel⟩, List.mem_of_getElem? (i := 789) (by decide +kernel), List.mem_of_getElem? (i := 1031) (by decide +kernel), List.mem_of_getElem? (i := 1032) (by decide +kernel)⟩
theorem lw_p50 : lw_okq (⟨"LineRulesModel", "sizeOf", "(I)I"⟩, 40) := ⟨⟨by decide +kernel, by decide +kernel⟩, List.mem_of_getElem? (i := 789) (by decide +kernel), List.mem_of_getElem? (i := 1035) (by decide +kernel), List.mem_of_getElem? (i := 1036) (by decide +kernel)⟩
theorem lw_p51 : lw_okq (⟨"LineRulesModel", "signOf", "(II)I"⟩, 40) := ⟨⟨by decide +kernel, by decide +kernel⟩, List.mem_of_getElem? (i := 789) (by decide +kernel), List.mem_of_getElem? (i := 1039) (by decide +kernel), List.mem_of_getElem? (i := 1040) (by decide +kernel)⟩
theorem lw_p52 : lw_okq (⟨"LineRulesModel", "numberOf", "(I)I"⟩, 40) := ⟨⟨by decide +kernel, by decide +kernel⟩, List.mem_of_getElem? (i := 789) (by decide +kernel), List.mem_of_getElem? (i := 1043) (by decide +kernel), List.mem_of_getElem? (i := 1044) (by decide +kernel)⟩
theorem lw_p53 : lw_okq (⟨"LineRulesModel", "act", "(III)V"⟩, 40) := ⟨⟨by decide +kernel, by decide +kernel⟩, List.mem_of_getElem? (i := 789) (by decide +kernel), List.mem_of_getElem? (i := 1047) (by decide +kernel), List.mem_of_getElem? (i := 1048) (by decide +kernel)⟩
theorem lw_p54 : lw_okq (⟨"LineRulesModel", "printRow", "(III)V"⟩, 40) := ⟨⟨by decide +kernel, by decide +kernel⟩, List.mem_of_getElem? (i := 789) (by decide +kernel), List.mem_of_getElem? (i := 1051) (by decide +kernel), List.mem_of_getElem? (i := 1052) (by decide +kernel)⟩
theorem lw_p55 : lw_okq (⟨"LineRulesModel", "put", "(I)V"⟩, 40) := ⟨⟨by decide +kernel, by decide +kernel⟩, List.mem_of_getElem? (i := 789) (by decide +kernel), List.mem_of_getElem? (i := 1055) (by decide +kernel), List.mem_of_getElem? (i := 1056) (by decide +kernel)⟩
theorem lw_p56 : lw_okq (⟨"LineRulesModel", "grow", "(II)V"⟩, 40) := ⟨⟨by decide +kernel, by decide +kernel⟩, List.mem_of_getElem? (i := 789) (by decide +kernel), List.mem_of_getElem? (i := 1059) (by decide +kernel), List.mem_of_getElem? (i := 1060) (by decide +kernel)⟩
theorem lw_p57 : lw_okq (⟨"LineRulesModel", "compared", "(II)I"⟩, 40) := ⟨⟨by decide +kernel, by decide +kernel⟩, List.mem_of_getElem? (i := 789) (by decide +kernel), List.mem_of_getElem? (i := 1063) (by decide +kernel), List.mem_of_getElem? (i := 1064) (by decide +kernel)⟩
theorem lw_p58 : lw_okq (⟨"LineRulesModel", "copyKey", "(II)V"⟩, 40) := ⟨⟨by decide +kernel, by decide +kernel⟩, List.mem_of_getElem? (i := 789) (by decide +kernel), List.mem_of_getElem? (i := 1067) (by decide +kernel), List.mem_of_getElem? (i := 1068) (by decide +kernel)⟩
theorem lw_p59 : lw_okq (⟨"LineRulesModel", "setField", "(I)V"⟩, 40) := ⟨⟨by decide +kernel, by decide +kernel⟩, List.mem_of_getElem? (i := 789) (by decide +kernel), List.mem_of_getElem? (i := 1071) (by decide +kernel), List.mem_of_getElem? (i := 1072) (by decide +kernel)⟩
theorem lw_p60 : lw_okq (⟨"LineRulesModel", "write", "(I)V"⟩, 40) := ⟨⟨by decide +kernel, by decide +kernel⟩, List.mem_of_getElem? (i := 789) (by decide +kernel), List.mem_of_getElem? (i := 1075) (by decide +kernel), List.mem_of_getElem? (i := 1076) (by decide +kernel)⟩
theorem lw_p61 : lw_okq (⟨"LineRulesModel", "spell", "(I)V"⟩, 40) := ⟨⟨by decide +kernel, by decide +kernel⟩, List.mem_of_getElem? (i := 789) (by decide +kernel), List.mem_of_getElem? (i := 1079) (by decide +kernel), List.mem_of_getElem? (i := 1080) (by decide +kernel)⟩
theorem lw_p62 : lw_okq (⟨"LineRulesModel", "replace", "(IIZ)V"⟩, 40) := ⟨⟨by decide +kernel, by decide +kernel⟩, List.mem_of_getElem? (i := 789) (by decide +kernel), List.mem_of_getElem? (i := 1085) (by decide +kernel), List.mem_of_getElem? (i := 1086) (by decide +kernel)⟩
def lw_privs_4 : List (MethodName × Nat) := [(⟨"LineRulesModel", "isSign", "(II)Z"⟩, 40), (⟨"LineRulesModel", "fieldToRow", "(I)V"⟩, 40), (⟨"LineRulesModel", "sizeOf", "(I)I"⟩, 40), (⟨"LineRulesModel", "signOf", "(II)I"⟩, 40), (⟨"LineRulesModel", "numberOf", "(I)I"⟩, 40), (⟨"LineRulesModel", "act", "(III)V"⟩, 40), (⟨"LineRulesModel", "printRow", "(III)V"⟩, 40), (⟨"LineRulesModel", "put", "(I)V"⟩, 40), (⟨"LineRulesModel", "grow", "(II)V"⟩, 40), (⟨"LineRulesModel", "compared", "(II)I"⟩, 40), (⟨"LineRulesModel", "copyKey", "(II)V"⟩, 40), (⟨"LineRulesModel", "setField", "(I)V"⟩, 40), (⟨"LineRulesModel", "write", "(I)V"⟩, 40), (⟨"LineRulesModel", "spell", "(I)V"⟩, 40), (⟨"LineRulesModel", "replace", "(IIZ)V"⟩, 40)]
theorem lw_r4 : ∀ q ∈ lw_privs_4, lw_okq q := List.forall_mem_cons.mpr ⟨lw_p48, List.forall_mem_cons.mpr ⟨lw_p49, List.forall_mem_cons.mpr ⟨lw_p50, List.forall_mem_cons.mpr ⟨lw_p51, List.forall_mem_cons.mpr ⟨lw_p52, List.forall_mem_cons.mpr ⟨lw_p53, List.forall_mem_cons.mpr ⟨lw_p54, List.forall_mem_cons.mpr ⟨lw_p55, List.forall_mem_cons.mpr ⟨lw_p56, List.forall_mem_cons.mpr ⟨lw_p57, List.forall_mem_cons.mpr ⟨lw_p58, List.forall_mem_cons.mpr ⟨lw_p59, List.forall_mem_cons.mpr ⟨lw_p60, List.forall_mem_cons.mpr ⟨lw_p61, List.forall_mem_cons.mpr ⟨lw_p62, fun _ h => absurd h List.not_mem_nil⟩⟩⟩⟩⟩⟩⟩⟩⟩⟩⟩⟩⟩⟩⟩
def lw_privs : List (MethodName × Nat) := lw_privs_1 ++ (lw_privs_2 ++ (lw_privs_3 ++ (lw_privs_4)))
def lw_tbl : List Cond := k2_sels lw_privs ++ tables_1
theorem lw_privs_ok : ∀ q ∈ lw_privs, lw_okq q := by
  show ∀ q ∈ lw_privs_1 ++ (lw_privs_2 ++ (lw_privs_3 ++ (lw_privs_4))), lw_okq q
  exact List.forall_mem_append.mpr ⟨lw_r1, List.forall_mem_append.mpr ⟨lw_r2, List.forall_mem_append.mpr ⟨lw_r3, lw_r4⟩⟩⟩
end
section
/-! names and words, by wip/whole/gen/names.py: pool numbers, code names and program counters stand here and in 02d alone -/
def wl_ALL : List Cond := lw_tbl.filter goodWord
theorem wl_good : ∀ w ∈ wl_ALL, (w.onTables && w.keeps) = true ∨ ∃ ty, w = .arrayClass ty := fun w h => good_of_word (List.mem_filter.mp h).2
theorem wl_mem {c : Cond} (n : Nat) (h : lw_tbl[n]? = some c) (hg : goodWord c = true) : c ∈ wl_ALL := List.mem_filter.mpr ⟨List.mem_of_getElem? h, hg⟩
def rn_LR : String := "LineRules"
def ft_LR : u_T := fun k => match k with
  | 0 => ("LineRules", "pad", "LLineRules$Row;", true)
  | 1 => ("LineRules", "texts", "[LLineRules$Row;", true)
  | 2 => ("LineRules", "expressions", "[LLineRules$Expression;", true)
  | 3 => ("LineRules", "reader", "LLineRules$Reader;", true)
  | 4 => ("LineRules", "rules", "[LLineRules$Rule;", true)
  | 5 => ("LineRules", "latest", "LLineRules$CutLine;", true)
  | 6 => ("LineRules", "counters", "[I", true)
  | 7 => ("LineRules", "table", "LLineRules$Table;", true)
  | 8 => ("LineRules", "output", "LLineRules$Output;", true)
  | 9 => ("LineRules", "numberText", "LLineRules$Row;", true)
  | 10 => ("LineRules", "ruleCount", "I", false)
  | 11 => ("LineRules", "lineCount", "I", false)
  | 12 => ("LineRules", "fieldSeparator", "I", false)
  | _ => ("LineRules", "foundEnd", "I", false)
def fy_LR : Nat → FieldType := fun k => match k with
  | 0 => .object "LineRules$Row"
  | 1 => .array (.object "LineRules$Row")
  | 2 => .array (.object "LineRules$Expression")
  | 3 => .object "LineRules$Reader"
  | 4 => .array (.object "LineRules$Rule")
  | 5 => .object "LineRules$CutLine"
  | 6 => .array .int
  | 7 => .object "LineRules$Table"
  | 8 => .object "LineRules$Output"
  | 9 => .object "LineRules$Row"
  | 10 => .int
  | 11 => .int
  | 12 => .int
  | _ => .int
def rn_Cut : String := "LineRules$CutLine"
def ft_Cut : u_T := fun k => match k with
  | 0 => ("LineRules$CutLine", "whole", "LLineRules$Row;", true)
  | 1 => ("LineRules$CutLine", "fieldCount", "I", false)
  | 2 => ("LineRules$CutLine", "fields", "[LLineRules$Row;", true)
  | 3 => ("LineRules$CutLine", "absent", "LLineRules$Row;", true)
  | _ => ("LineRules$CutLine", "changed", "LLineRules$Row;", true)
def fy_Cut : Nat → FieldType := fun k => match k with
  | 0 => .object "LineRules$Row"
  | 1 => .int
  | 2 => .array (.object "LineRules$Row")
  | 3 => .object "LineRules$Row"
  | _ => .object "LineRules$Row"
def rn_Exp : String := "LineRules$Expression"
def ft_Exp : u_T := fun k => match k with
  | 0 => ("LineRules$Expression", "takers", "[J", true)
  | 1 => ("LineRules$Expression", "followers", "[J", true)
  | 2 => ("LineRules$Expression", "firsts", "[J", true)
  | 3 => ("LineRules$Expression", "lasts", "[J", true)
  | 4 => ("LineRules$Expression", "matchesEmpty", "[Z", true)
  | _ => ("LineRules$Expression", "atoms", "I", false)
def fy_Exp : Nat → FieldType := fun k => match k with
  | 0 => .array .long
  | 1 => .array .long
  | 2 => .array .long
  | 3 => .array .long
  | 4 => .array .boolean
  | _ => .int
def rn_Out : String := "LineRules$Output"
def ft_Out : u_T := fun k => match k with
  | 0 => ("LineRules$Output", "kept", "[I", true)
  | _ => ("LineRules$Output", "total", "I", false)
def fy_Out : Nat → FieldType := fun k => match k with
  | 0 => .array .int
  | _ => .int
def rn_Rdr : String := "LineRules$Reader"
def ft_Rdr : u_T := fun k => match k with
  | 0 => ("LineRules$Reader", "kinds", "[I", true)
  | 1 => ("LineRules$Reader", "lefts", "[I", true)
  | 2 => ("LineRules$Reader", "rights", "[I", true)
  | 3 => ("LineRules$Reader", "empties", "[Z", true)
  | 4 => ("LineRules$Reader", "firsts", "[J", true)
  | 5 => ("LineRules$Reader", "lasts", "[J", true)
  | 6 => ("LineRules$Reader", "nodes", "I", false)
  | 7 => ("LineRules$Reader", "made", "LLineRules$Expression;", false)
  | 8 => ("LineRules$Reader", "source", "LLineRules$Row;", false)
  | 9 => ("LineRules$Reader", "at", "I", false)
  | _ => ("LineRules$Reader", "fault", "I", false)
def fy_Rdr : Nat → FieldType := fun k => match k with
  | 0 => .array .int
  | 1 => .array .int
  | 2 => .array .int
  | 3 => .array .boolean
  | 4 => .array .long
  | 5 => .array .long
  | 6 => .int
  | 7 => .object "LineRules$Expression"
  | 8 => .object "LineRules$Row"
  | 9 => .int
  | _ => .int
def rn_Row : String := "LineRules$Row"
def ft_Row : u_T := fun k => match k with
  | 0 => ("LineRules$Row", "signs", "[I", true)
  | _ => ("LineRules$Row", "length", "I", false)
def fy_Row : Nat → FieldType := fun k => match k with
  | 0 => .array .int
  | _ => .int
def rn_Rul : String := "LineRules$Rule"
def ft_Rul : u_T := fun k => match k with
  | 0 => ("LineRules$Rule", "pattern", "I", false)
  | 1 => ("LineRules$Rule", "a", "I", false)
  | 2 => ("LineRules$Rule", "b", "I", false)
  | 3 => ("LineRules$Rule", "actions", "[I", true)
  | 4 => ("LineRules$Rule", "firsts", "[I", true)
  | 5 => ("LineRules$Rule", "seconds", "[I", true)
  | _ => ("LineRules$Rule", "actionCount", "I", false)
def fy_Rul : Nat → FieldType := fun k => match k with
  | 0 => .int
  | 1 => .int
  | 2 => .int
  | 3 => .array .int
  | 4 => .array .int
  | 5 => .array .int
  | _ => .int
def rn_Tab : String := "LineRules$Table"
def ft_Tab : u_T := fun k => match k with
  | 0 => ("LineRules$Table", "keys", "[LLineRules$Row;", true)
  | 1 => ("LineRules$Table", "ints", "[I", true)
  | _ => ("LineRules$Table", "size", "I", false)
def fy_Tab : Nat → FieldType := fun k => match k with
  | 0 => .array (.object "LineRules$Row")
  | 1 => .array .int
  | _ => .int
def rn_Mod : String := "LineRulesModel"
def ft_Mod : u_T := fun k => match k with
  | 0 => ("LineRulesModel", "thrown", "I", false)
  | 1 => ("LineRulesModel", "rows", "[I", true)
  | 2 => ("LineRulesModel", "lengths", "[I", true)
  | 3 => ("LineRulesModel", "expressions", "[I", true)
  | 4 => ("LineRulesModel", "sizes", "[I", true)
  | 5 => ("LineRulesModel", "separator", "I", false)
  | 6 => ("LineRulesModel", "rules", "I", false)
  | 7 => ("LineRulesModel", "patterns", "[I", true)
  | 8 => ("LineRulesModel", "firsts", "[I", true)
  | 9 => ("LineRulesModel", "seconds", "[I", true)
  | 10 => ("LineRulesModel", "manyActions", "[I", true)
  | 11 => ("LineRulesModel", "actions", "[I", true)
  | 12 => ("LineRulesModel", "as", "[I", true)
  | 13 => ("LineRulesModel", "bs", "[I", true)
  | 14 => ("LineRulesModel", "lines", "I", false)
  | 15 => ("LineRulesModel", "fields", "I", false)
  | 16 => ("LineRulesModel", "fieldSigns", "[I", true)
  | 17 => ("LineRulesModel", "fieldLengths", "[I", true)
  | 18 => ("LineRulesModel", "counters", "[I", true)
  | 19 => ("LineRulesModel", "keys", "I", false)
  | 20 => ("LineRulesModel", "keySigns", "[I", true)
  | 21 => ("LineRulesModel", "keyLengths", "[I", true)
  | 22 => ("LineRulesModel", "keyInts", "[I", true)
  | 23 => ("LineRulesModel", "prints", "I", false)
  | 24 => ("LineRulesModel", "print", "[I", true)
  | 25 => ("LineRulesModel", "ended", "I", false)
  | 26 => ("LineRulesModel", "points", "I", false)
  | 27 => ("LineRulesModel", "edges", "I", false)
  | 28 => ("LineRulesModel", "froms", "[I", true)
  | 29 => ("LineRulesModel", "tos", "[I", true)
  | 30 => ("LineRulesModel", "kinds", "[I", true)
  | 31 => ("LineRulesModel", "places", "[I", true)
  | 32 => ("LineRulesModel", "here", "[Z", true)
  | 33 => ("LineRulesModel", "next", "[Z", true)
  | 34 => ("LineRulesModel", "begins", "[I", true)
  | 35 => ("LineRulesModel", "closes", "[I", true)
  | 36 => ("LineRulesModel", "outers", "[I", true)
  | 37 => ("LineRulesModel", "fault", "I", false)
  | 38 => ("LineRulesModel", "from", "I", false)
  | _ => ("LineRulesModel", "to", "I", false)
def fy_Mod : Nat → FieldType := fun k => match k with
  | 0 => .int
  | 1 => .array .int
  | 2 => .array .int
  | 3 => .array .int
  | 4 => .array .int
  | 5 => .int
  | 6 => .int
  | 7 => .array .int
  | 8 => .array .int
  | 9 => .array .int
  | 10 => .array .int
  | 11 => .array .int
  | 12 => .array .int
  | 13 => .array .int
  | 14 => .int
  | 15 => .int
  | 16 => .array .int
  | 17 => .array .int
  | 18 => .array .int
  | 19 => .int
  | 20 => .array .int
  | 21 => .array .int
  | 22 => .array .int
  | 23 => .int
  | 24 => .array .int
  | 25 => .int
  | 26 => .int
  | 27 => .int
  | 28 => .array .int
  | 29 => .array .int
  | 30 => .array .int
  | 31 => .array .int
  | 32 => .array .boolean
  | 33 => .array .boolean
  | 34 => .array .int
  | 35 => .array .int
  | 36 => .array .int
  | 37 => .int
  | 38 => .int
  | _ => .int
abbrev wl_CL : List vw_C := [(rn_LR, ft_LR, 14), (rn_Cut, ft_Cut, 5), (rn_Exp, ft_Exp, 6), (rn_Out, ft_Out, 2), (rn_Rdr, ft_Rdr, 11), (rn_Row, ft_Row, 2), (rn_Rul, ft_Rul, 7), (rn_Tab, ft_Tab, 3), (rn_Mod, ft_Mod, 40)]
def wl_TY : Nat → Nat → FieldType := fun c => match c with
  | 0 => fy_LR
  | 1 => fy_Cut
  | 2 => fy_Exp
  | 3 => fy_Out
  | 4 => fy_Rdr
  | 5 => fy_Row
  | 6 => fy_Rul
  | 7 => fy_Tab
  | _ => fy_Mod
/-- kinds of arrays: 0 ints, 1 booleans, 2 longs, 3 rows, 4 expressions, 5 rules, 6 the script -/
def wl_AT : Nat → FieldType := fun y => match y with
  | 1 => .boolean
  | 2 => .long
  | 3 => .object "LineRules$Row"
  | 4 => .object "LineRules$Expression"
  | 5 => .object "LineRules$Rule"
  | _ => .int
abbrev wl_AN : Nat := 7
abbrev wl_AS : Nat := 6
def wl_OV : List String := ["LineRules$Row", "LineRules$Expression", "LineRules$Rule"]
theorem lw_LR_all : ∀ w ∈ u_ws rn_LR ft_LR 14, w ∈ wl_ALL := by
  show ∀ w ∈ [u_lay rn_LR ft_LR 0, u_lay rn_LR ft_LR 1, u_lay rn_LR ft_LR 2, u_lay rn_LR ft_LR 3, u_lay rn_LR ft_LR 4, u_lay rn_LR ft_LR 5, u_lay rn_LR ft_LR 6, u_lay rn_LR ft_LR 7, u_lay rn_LR ft_LR 8, u_lay rn_LR ft_LR 9, u_lay rn_LR ft_LR 10, u_lay rn_LR ft_LR 11, u_lay rn_LR ft_LR 12, u_lay rn_LR ft_LR 13], w ∈ wl_ALL
  exact List.forall_mem_cons.mpr ⟨wl_mem 304 (by decide +kernel) rfl, List.forall_mem_cons.mpr ⟨wl_mem 306 (by decide +kernel) rfl, List.forall_mem_cons.mpr ⟨wl_mem 308 (by decide +kernel) rfl, List.forall_mem_cons.mpr ⟨wl_mem 310 (by decide +kernel) rfl, List.forall_mem_cons.mpr ⟨wl_mem 312 (by decide +kernel) rfl, List.forall_mem_cons.mpr ⟨wl_mem 314 (by decide +kernel) rfl, List.forall_mem_cons.mpr ⟨wl_mem 316 (by decide +kernel) rfl, List.forall_mem_cons.mpr ⟨wl_mem 318 (by decide +kernel) rfl, List.forall_mem_cons.mpr ⟨wl_mem 320 (by decide +kernel) rfl, List.forall_mem_cons.mpr ⟨wl_mem 322 (by decide +kernel) rfl, List.forall_mem_cons.mpr ⟨wl_mem 324 (by decide +kernel) rfl, List.forall_mem_cons.mpr ⟨wl_mem 326 (by decide +kernel) rfl, List.forall_mem_cons.mpr ⟨wl_mem 328 (by decide +kernel) rfl, List.forall_mem_cons.mpr ⟨wl_mem 330 (by decide +kernel) rfl, fun _ h => absurd h List.not_mem_nil⟩⟩⟩⟩⟩⟩⟩⟩⟩⟩⟩⟩⟩⟩
theorem nn_LR : ∀ a, a < 14 → ∀ b, b < 14 → a ≠ b → (ft_LR a).2.1 ≠ (ft_LR b).2.1 := by decide +kernel
theorem ny_LR : ∀ k, k < 14 → parseFieldDescriptor (ft_LR k).2.2.1 = some (fy_LR k) := by decide +kernel
theorem lw_Cut_all : ∀ w ∈ u_ws rn_Cut ft_Cut 5, w ∈ wl_ALL := by
  show ∀ w ∈ [u_lay rn_Cut ft_Cut 0, u_lay rn_Cut ft_Cut 1, u_lay rn_Cut ft_Cut 2, u_lay rn_Cut ft_Cut 3, u_lay rn_Cut ft_Cut 4], w ∈ wl_ALL
  exact List.forall_mem_cons.mpr ⟨wl_mem 210 (by decide +kernel) rfl, List.forall_mem_cons.mpr ⟨wl_mem 212 (by decide +kernel) rfl, List.forall_mem_cons.mpr ⟨wl_mem 214 (by decide +kernel) rfl, List.forall_mem_cons.mpr ⟨wl_mem 216 (by decide +kernel) rfl, List.forall_mem_cons.mpr ⟨wl_mem 218 (by decide +kernel) rfl, fun _ h => absurd h List.not_mem_nil⟩⟩⟩⟩⟩
theorem nn_Cut : ∀ a, a < 5 → ∀ b, b < 5 → a ≠ b → (ft_Cut a).2.1 ≠ (ft_Cut b).2.1 := by decide +kernel
theorem ny_Cut : ∀ k, k < 5 → parseFieldDescriptor (ft_Cut k).2.2.1 = some (fy_Cut k) := by decide +kernel
theorem lw_Exp_all : ∀ w ∈ u_ws rn_Exp ft_Exp 6, w ∈ wl_ALL := by
  show ∀ w ∈ [u_lay rn_Exp ft_Exp 0, u_lay rn_Exp ft_Exp 1, u_lay rn_Exp ft_Exp 2, u_lay rn_Exp ft_Exp 3, u_lay rn_Exp ft_Exp 4, u_lay rn_Exp ft_Exp 5], w ∈ wl_ALL
  exact List.forall_mem_cons.mpr ⟨wl_mem 142 (by decide +kernel) rfl, List.forall_mem_cons.mpr ⟨wl_mem 144 (by decide +kernel) rfl, List.forall_mem_cons.mpr ⟨wl_mem 146 (by decide +kernel) rfl, List.forall_mem_cons.mpr ⟨wl_mem 148 (by decide +kernel) rfl, List.forall_mem_cons.mpr ⟨wl_mem 150 (by decide +kernel) rfl, List.forall_mem_cons.mpr ⟨wl_mem 152 (by decide +kernel) rfl, fun _ h => absurd h List.not_mem_nil⟩⟩⟩⟩⟩⟩
theorem nn_Exp : ∀ a, a < 6 → ∀ b, b < 6 → a ≠ b → (ft_Exp a).2.1 ≠ (ft_Exp b).2.1 := by decide +kernel
theorem ny_Exp : ∀ k, k < 6 → parseFieldDescriptor (ft_Exp k).2.2.1 = some (fy_Exp k) := by decide +kernel
theorem lw_Out_all : ∀ w ∈ u_ws rn_Out ft_Out 2, w ∈ wl_ALL := by
  show ∀ w ∈ [u_lay rn_Out ft_Out 0, u_lay rn_Out ft_Out 1], w ∈ wl_ALL
  exact List.forall_mem_cons.mpr ⟨wl_mem 250 (by decide +kernel) rfl, List.forall_mem_cons.mpr ⟨wl_mem 252 (by decide +kernel) rfl, fun _ h => absurd h List.not_mem_nil⟩⟩
theorem nn_Out : ∀ a, a < 2 → ∀ b, b < 2 → a ≠ b → (ft_Out a).2.1 ≠ (ft_Out b).2.1 := by decide +kernel
theorem ny_Out : ∀ k, k < 2 → parseFieldDescriptor (ft_Out k).2.2.1 = some (fy_Out k) := by decide +kernel
theorem lw_Rdr_all : ∀ w ∈ u_ws rn_Rdr ft_Rdr 11, w ∈ wl_ALL := by
  show ∀ w ∈ [u_lay rn_Rdr ft_Rdr 0, u_lay rn_Rdr ft_Rdr 1, u_lay rn_Rdr ft_Rdr 2, u_lay rn_Rdr ft_Rdr 3, u_lay rn_Rdr ft_Rdr 4, u_lay rn_Rdr ft_Rdr 5, u_lay rn_Rdr ft_Rdr 6, u_lay rn_Rdr ft_Rdr 7, u_lay rn_Rdr ft_Rdr 8, u_lay rn_Rdr ft_Rdr 9, u_lay rn_Rdr ft_Rdr 10], w ∈ wl_ALL
  exact List.forall_mem_cons.mpr ⟨wl_mem 170 (by decide +kernel) rfl, List.forall_mem_cons.mpr ⟨wl_mem 172 (by decide +kernel) rfl, List.forall_mem_cons.mpr ⟨wl_mem 174 (by decide +kernel) rfl, List.forall_mem_cons.mpr ⟨wl_mem 176 (by decide +kernel) rfl, List.forall_mem_cons.mpr ⟨wl_mem 178 (by decide +kernel) rfl, List.forall_mem_cons.mpr ⟨wl_mem 180 (by decide +kernel) rfl, List.forall_mem_cons.mpr ⟨wl_mem 182 (by decide +kernel) rfl, List.forall_mem_cons.mpr ⟨wl_mem 184 (by decide +kernel) rfl, List.forall_mem_cons.mpr ⟨wl_mem 186 (by decide +kernel) rfl, List.forall_mem_cons.mpr ⟨wl_mem 188 (by decide +kernel) rfl, List.forall_mem_cons.mpr ⟨wl_mem 190 (by decide +kernel) rfl, fun _ h => absurd h List.not_mem_nil⟩⟩⟩⟩⟩⟩⟩⟩⟩⟩⟩
theorem nn_Rdr : ∀ a, a < 11 → ∀ b, b < 11 → a ≠ b → (ft_Rdr a).2.1 ≠ (ft_Rdr b).2.1 := by decide +kernel
theorem ny_Rdr : ∀ k, k < 11 → parseFieldDescriptor (ft_Rdr k).2.2.1 = some (fy_Rdr k) := by decide +kernel
theorem lw_Row_all : ∀ w ∈ u_ws rn_Row ft_Row 2, w ∈ wl_ALL := by
  show ∀ w ∈ [u_lay rn_Row ft_Row 0, u_lay rn_Row ft_Row 1], w ∈ wl_ALL
  exact List.forall_mem_cons.mpr ⟨wl_mem 109 (by decide +kernel) rfl, List.forall_mem_cons.mpr ⟨wl_mem 111 (by decide +kernel) rfl, fun _ h => absurd h List.not_mem_nil⟩⟩
theorem nn_Row : ∀ a, a < 2 → ∀ b, b < 2 → a ≠ b → (ft_Row a).2.1 ≠ (ft_Row b).2.1 := by decide +kernel
theorem ny_Row : ∀ k, k < 2 → parseFieldDescriptor (ft_Row k).2.2.1 = some (fy_Row k) := by decide +kernel
theorem lw_Rul_all : ∀ w ∈ u_ws rn_Rul ft_Rul 7, w ∈ wl_ALL := by
  show ∀ w ∈ [u_lay rn_Rul ft_Rul 0, u_lay rn_Rul ft_Rul 1, u_lay rn_Rul ft_Rul 2, u_lay rn_Rul ft_Rul 3, u_lay rn_Rul ft_Rul 4, u_lay rn_Rul ft_Rul 5, u_lay rn_Rul ft_Rul 6], w ∈ wl_ALL
  exact List.forall_mem_cons.mpr ⟨wl_mem 275 (by decide +kernel) rfl, List.forall_mem_cons.mpr ⟨wl_mem 277 (by decide +kernel) rfl, List.forall_mem_cons.mpr ⟨wl_mem 279 (by decide +kernel) rfl, List.forall_mem_cons.mpr ⟨wl_mem 281 (by decide +kernel) rfl, List.forall_mem_cons.mpr ⟨wl_mem 283 (by decide +kernel) rfl, List.forall_mem_cons.mpr ⟨wl_mem 285 (by decide +kernel) rfl, List.forall_mem_cons.mpr ⟨wl_mem 287 (by decide +kernel) rfl, fun _ h => absurd h List.not_mem_nil⟩⟩⟩⟩⟩⟩⟩
theorem nn_Rul : ∀ a, a < 7 → ∀ b, b < 7 → a ≠ b → (ft_Rul a).2.1 ≠ (ft_Rul b).2.1 := by decide +kernel
theorem ny_Rul : ∀ k, k < 7 → parseFieldDescriptor (ft_Rul k).2.2.1 = some (fy_Rul k) := by decide +kernel
theorem lw_Tab_all : ∀ w ∈ u_ws rn_Tab ft_Tab 3, w ∈ wl_ALL := by
  show ∀ w ∈ [u_lay rn_Tab ft_Tab 0, u_lay rn_Tab ft_Tab 1, u_lay rn_Tab ft_Tab 2], w ∈ wl_ALL
  exact List.forall_mem_cons.mpr ⟨wl_mem 234 (by decide +kernel) rfl, List.forall_mem_cons.mpr ⟨wl_mem 236 (by decide +kernel) rfl, List.forall_mem_cons.mpr ⟨wl_mem 238 (by decide +kernel) rfl, fun _ h => absurd h List.not_mem_nil⟩⟩⟩
theorem nn_Tab : ∀ a, a < 3 → ∀ b, b < 3 → a ≠ b → (ft_Tab a).2.1 ≠ (ft_Tab b).2.1 := by decide +kernel
theorem ny_Tab : ∀ k, k < 3 → parseFieldDescriptor (ft_Tab k).2.2.1 = some (fy_Tab k) := by decide +kernel
theorem lw_Mod_all : ∀ w ∈ u_ws rn_Mod ft_Mod 40, w ∈ wl_ALL := by
  show ∀ w ∈ [u_lay rn_Mod ft_Mod 0, u_lay rn_Mod ft_Mod 1, u_lay rn_Mod ft_Mod 2, u_lay rn_Mod ft_Mod 3, u_lay rn_Mod ft_Mod 4, u_lay rn_Mod ft_Mod 5, u_lay rn_Mod ft_Mod 6, u_lay rn_Mod ft_Mod 7, u_lay rn_Mod ft_Mod 8, u_lay rn_Mod ft_Mod 9, u_lay rn_Mod ft_Mod 10, u_lay rn_Mod ft_Mod 11, u_lay rn_Mod ft_Mod 12, u_lay rn_Mod ft_Mod 13, u_lay rn_Mod ft_Mod 14, u_lay rn_Mod ft_Mod 15, u_lay rn_Mod ft_Mod 16, u_lay rn_Mod ft_Mod 17, u_lay rn_Mod ft_Mod 18, u_lay rn_Mod ft_Mod 19, u_lay rn_Mod ft_Mod 20, u_lay rn_Mod ft_Mod 21, u_lay rn_Mod ft_Mod 22, u_lay rn_Mod ft_Mod 23, u_lay rn_Mod ft_Mod 24, u_lay rn_Mod ft_Mod 25, u_lay rn_Mod ft_Mod 26, u_lay rn_Mod ft_Mod 27, u_lay rn_Mod ft_Mod 28, u_lay rn_Mod ft_Mod 29, u_lay rn_Mod ft_Mod 30, u_lay rn_Mod ft_Mod 31, u_lay rn_Mod ft_Mod 32, u_lay rn_Mod ft_Mod 33, u_lay rn_Mod ft_Mod 34, u_lay rn_Mod ft_Mod 35, u_lay rn_Mod ft_Mod 36, u_lay rn_Mod ft_Mod 37, u_lay rn_Mod ft_Mod 38, u_lay rn_Mod ft_Mod 39], w ∈ wl_ALL
  exact List.forall_mem_cons.mpr ⟨wl_mem 897 (by decide +kernel) rfl, List.forall_mem_cons.mpr ⟨wl_mem 899 (by decide +kernel) rfl, List.forall_mem_cons.mpr ⟨wl_mem 901 (by decide +kernel) rfl, List.forall_mem_cons.mpr ⟨wl_mem 903 (by decide +kernel) rfl, List.forall_mem_cons.mpr ⟨wl_mem 905 (by decide +kernel) rfl, List.forall_mem_cons.mpr ⟨wl_mem 907 (by decide +kernel) rfl, List.forall_mem_cons.mpr ⟨wl_mem 909 (by decide +kernel) rfl, List.forall_mem_cons.mpr ⟨wl_mem 911 (by decide +kernel) rfl, List.forall_mem_cons.mpr ⟨wl_mem 913 (by decide +kernel) rfl, List.forall_mem_cons.mpr ⟨wl_mem 915 (by decide +kernel) rfl, List.forall_mem_cons.mpr ⟨wl_mem 917 (by decide +kernel) rfl, List.forall_mem_cons.mpr ⟨wl_mem 919 (by decide +kernel) rfl, List.forall_mem_cons.mpr ⟨wl_mem 921 (by decide +kernel) rfl, List.forall_mem_cons.mpr ⟨wl_mem 923 (by decide +kernel) rfl, List.forall_mem_cons.mpr ⟨wl_mem 925 (by decide +kernel) rfl, List.forall_mem_cons.mpr ⟨wl_mem 927 (by decide +kernel) rfl, List.forall_mem_cons.mpr ⟨wl_mem 929 (by decide +kernel) rfl, List.forall_mem_cons.mpr ⟨wl_mem 931 (by decide +kernel) rfl, List.forall_mem_cons.mpr ⟨wl_mem 933 (by decide +kernel) rfl, List.forall_mem_cons.mpr ⟨wl_mem 935 (by decide +kernel) rfl, List.forall_mem_cons.mpr ⟨wl_mem 937 (by decide +kernel) rfl, List.forall_mem_cons.mpr ⟨wl_mem 939 (by decide +kernel) rfl, List.forall_mem_cons.mpr ⟨wl_mem 941 (by decide +kernel) rfl, List.forall_mem_cons.mpr ⟨wl_mem 943 (by decide +kernel) rfl, List.forall_mem_cons.mpr ⟨wl_mem 945 (by decide +kernel) rfl, List.forall_mem_cons.mpr ⟨wl_mem 947 (by decide +kernel) rfl, List.forall_mem_cons.mpr ⟨wl_mem 949 (by decide +kernel) rfl, List.forall_mem_cons.mpr ⟨wl_mem 951 (by decide +kernel) rfl, List.forall_mem_cons.mpr ⟨wl_mem 953 (by decide +kernel) rfl, List.forall_mem_cons.mpr ⟨wl_mem 955 (by decide +kernel) rfl, List.forall_mem_cons.mpr ⟨wl_mem 957 (by decide +kernel) rfl, List.forall_mem_cons.mpr ⟨wl_mem 959 (by decide +kernel) rfl, List.forall_mem_cons.mpr ⟨wl_mem 961 (by decide +kernel) rfl, List.forall_mem_cons.mpr ⟨wl_mem 963 (by decide +kernel) rfl, List.forall_mem_cons.mpr ⟨wl_mem 965 (by decide +kernel) rfl, List.forall_mem_cons.mpr ⟨wl_mem 967 (by decide +kernel) rfl, List.forall_mem_cons.mpr ⟨wl_mem 969 (by decide +kernel) rfl, List.forall_mem_cons.mpr ⟨wl_mem 971 (by decide +kernel) rfl, List.forall_mem_cons.mpr ⟨wl_mem 973 (by decide +kernel) rfl, List.forall_mem_cons.mpr ⟨wl_mem 975 (by decide +kernel) rfl, fun _ h => absurd h List.not_mem_nil⟩⟩⟩⟩⟩⟩⟩⟩⟩⟩⟩⟩⟩⟩⟩⟩⟩⟩⟩⟩⟩⟩⟩⟩⟩⟩⟩⟩⟩⟩⟩⟩⟩⟩⟩⟩⟩⟩⟩⟩
theorem nn_Mod : ∀ a, a < 40 → ∀ b, b < 40 → a ≠ b → (ft_Mod a).2.1 ≠ (ft_Mod b).2.1 := by decide +kernel
theorem ny_Mod : ∀ k, k < 40 → parseFieldDescriptor (ft_Mod k).2.2.1 = some (fy_Mod k) := by decide +kernel
theorem wl_ok : ∀ (c : Nat) (q : vw_C), wl_CL[c]? = some q → (∀ w ∈ u_ws q.1 q.2.1 q.2.2, w ∈ wl_ALL) ∧ (∀ k, k < q.2.2 → parseFieldDescriptor (q.2.1 k).2.2.1 = some (wl_TY c k)) ∧ ∀ a, a < q.2.2 → ∀ b, b < q.2.2 → a ≠ b → (q.2.1 a).2.1 ≠ (q.2.1 b).2.1 := by
  intro c q h
  match c, h with
  | 0, h => cases h; exact ⟨lw_LR_all, ny_LR, nn_LR⟩
  | 1, h => cases h; exact ⟨lw_Cut_all, ny_Cut, nn_Cut⟩
  | 2, h => cases h; exact ⟨lw_Exp_all, ny_Exp, nn_Exp⟩
  | 3, h => cases h; exact ⟨lw_Out_all, ny_Out, nn_Out⟩
  | 4, h => cases h; exact ⟨lw_Rdr_all, ny_Rdr, nn_Rdr⟩
  | 5, h => cases h; exact ⟨lw_Row_all, ny_Row, nn_Row⟩
  | 6, h => cases h; exact ⟨lw_Rul_all, ny_Rul, nn_Rul⟩
  | 7, h => cases h; exact ⟨lw_Tab_all, ny_Tab, nn_Tab⟩
  | 8, h => cases h; exact ⟨lw_Mod_all, ny_Mod, nn_Mod⟩
/-- the handlers of a method: the law's own alone have some -/
def wl_HL : List (String × List (Nat × Nat × Nat × Nat)) := [("feed", [(0, 16, 19, 13)]), ("expression", [(0, 9, 12, 19), (0, 9, 15, 13)]), ("text", [(0, 9, 12, 19)]), ("separator", [(0, 9, 12, 27)]), ("rule", [(0, 12, 15, 19), (0, 12, 19, 13)]), ("action", [(0, 14, 17, 19), (0, 14, 21, 13)]), ("find", [(0, 10, 13, 19)]), ("sign", [(0, 10, 13, 19)]), ("printed", [(0, 9, 12, 19)]), ("counter", [(0, 9, 12, 19)]), ("key", [(0, 10, 13, 19)]), ("count", [(0, 9, 12, 27)])]
def wl_H (x : MethodName) : List (Nat × Nat × Nat × Nat) := if x.cls = "LineRulesLaw" then ((wl_HL.find? (fun q => q.1 == x.name)).map (·.2)).getD [] else []
/-- words on old cells: strings that a pool holds, static fields -/
def wl_jw : Cond → Bool
  | .stringRef .. => true
  | .laysStatic .. => true
  | .isRef (.static ..) => true
  | .not (.castable ..) => true
  | .declares _ => true
  | _ => false
/-- of the premises: the static fields hold references; the one exception is not the other -/
def wl_NJ : List Cond := [.isRef (.static "java/lang/Throwable" "UNASSIGNED_STACK" "[Ljava/lang/StackTraceElement;"), .isRef (.static "java/lang/Throwable" "SUPPRESSED_SENTINEL" "Ljava/util/List;"), .not (.castable "java/lang/IllegalStateException" "java/util/NoSuchElementException")]
def wl_JW : List Cond := lw_tbl.filter wl_jw ++ wl_NJ
theorem wl_jmem {c : Cond} (n : Nat) (h : lw_tbl[n]? = some c) (hg : wl_jw c = true) : c ∈ wl_JW := List.mem_append_left _ (List.mem_filter.mpr ⟨List.mem_of_getElem? h, hg⟩)
theorem wl_jnew {c : Cond} (n : Nat) (h : wl_NJ[n]? = some c) : c ∈ wl_JW := List.mem_append_right _ (List.mem_of_getElem? h)
theorem wl_jw_all {w : Cond} (hw : w ∈ wl_JW) : wl_jw w = true := by
  rcases List.mem_append.mp hw with h | h
  · exact (List.mem_filter.mp h).2
  · simp only [wl_NJ, List.mem_cons, List.not_mem_nil, or_false] at h
    rcases h with rfl | rfl | rfl <;> rfl
/-- the run began at a state of n0 cells, with warmer tables now, and its cells are as they were -/
def wl_J (n0 : Nat) (U : State) : Prop := ∃ s0 : State, s0.heap.size = n0 ∧ s0.WarmedH U.vm ∧ (∀ q : Nat, q < n0 → U.heap[q]? = s0.heap[q]?) ∧ ∀ w ∈ wl_JW, w.before #[] s0 = true
theorem wl_J_moved {n0 : Nat} {u U : State} (hW : u.WarmedH U.vm) (hh : ∀ q : Nat, q < n0 → U.heap[q]? = u.heap[q]?) (h : wl_J n0 u) : wl_J n0 U := by
  obtain ⟨s0, h1, h2, h3, h4⟩ := h
  exact ⟨s0, h1, State.WarmedH.trans h2 hW, fun q hq => (hh q hq).trans (h3 q hq), h4⟩
theorem wl_static {s0 U : State} {n0 : Nat} (h1 : s0.heap.size = n0) (h2 : s0.WarmedH U.vm) (h3 : ∀ q : Nat, q < n0 → U.heap[q]? = s0.heap[q]?) {A : Array Value} {o n d : String} {v : Value} (hv : (Term.static o n d).eval #[] s0 none [] s0 = some v) : (Term.static o n d).eval A U none [] U = some v := by
  have hv' := Term.static_setVm h2.alike hv
  cases hi : (s0.setVm U.vm).fieldFound? o n d with
  | none => simp [Term.eval, State.fieldNamed?, hi] at hv'
  | some w =>
    obtain ⟨c, k, i, f⟩ := w
    obtain ⟨hst, a, cell, ha, hcell, -, hslot⟩ := Term.static_spec hi hv'
    have hs : cell.vm.isStatics = true := by
      cases hb : cell.vm.isStatics with
      | true => rfl
      | false =>
        have hc2 : s0.heap[a]? = some cell := hcell
        simp [Term.eval, State.fieldNamed?, hi, hst, ha, hc2, hb] at hv'
    have hlt : a < n0 := h1 ▸ (Array.getElem?_eq_some_iff.mp hcell).1
    exact Term.static_eval (s := U) hi hst ha ((h3 a hlt).trans hcell) hs hslot
theorem wl_J_word {n0 : Nat} {U : State} (h : wl_J n0 U) {w : Cond} (hw : w ∈ wl_JW) (A : Array Value) : w.before A U = true := by
  obtain ⟨s0, h1, h2, h3, h4⟩ := h
  have hb := h4 w hw
  have hj := wl_jw_all hw
  match w, hj, hb with
  | .stringRef c x tx, _, hb => exact Cond.stringRef_warmed h2 hb
  | .laysStatic o n d, _, hb =>
    obtain ⟨c, k, i, f, a, cell, hc, hi, hst, ha, hcell, hs, hcls, hlt, hty⟩ := Cond.laysStatic_spec (Cond.laysStatic_setVm h2.alike hb)
    have ha0 : a < n0 := h1 ▸ (Array.getElem?_eq_some_iff.mp hcell).1
    exact Cond.laysStatic_of (s := U) hc hi hst ha ((h3 a ha0).trans hcell) hs hcls hlt hty
  | .isRef (.static o n d), _, hb =>
    simp only [Cond.before, Cond.holds, Cond.value] at hb ⊢
    cases hv : (Term.static o n d).eval #[] s0 none [] s0 with
    | none => rw [hv] at hb; cases hb
    | some v => rw [hv] at hb; rw [wl_static h1 h2 h3 hv]; exact hb
  | .not (.castable a b), _, hb => exact Cond.castAtom_setVm h2.alike _ rfl hb
  | .declares x, _, hb => exact Cond.faceAtom_setVm h2.alike (.declares x) rfl hb
end
section
/-! The layer over the kit: a heap as four maps (kinds, references, ints, longs), split by slot; Wf: the machine inside a method, seen through these maps; Ct: a method's contract. Cells from n0 on are the run's own; of the older ones the script's alone is seen (kind wl_AS), and nothing older is written. -/
abbrev Wt : Type := Nat → Option (Nat ⊕ (Nat × Nat))
abbrev Wr : Type := Nat → Nat → Option Nat
abbrev Wi : Type := Nat → Nat → Int32
abbrev Wl : Type := Nat → Nat → Int64
/-- class numbers, slots, array classes -/
abbrev We : Type := (Nat → ClassId) × (Nat → Nat → Nat) × (Nat → ClassId)
/-- a method: name, bytes, locals, answer -/
abbrev Wm : Type := MethodName × ByteArray × Nat × Option FieldType
/-- how a method ends: an answer, or an exception of a class -/
abbrev Wo : Type := Option Value ⊕ String
abbrev Wq : Type := Wo → Nat → Wt → Wr → Wi → Wl → Prop
def wf_up1 {α : Type} (f : Nat → α) (a : Nat) (v : α) : Nat → α := fun b => if b = a then v else f b
def wf_up {α : Type} (f : Nat → Nat → α) (a k : Nat) (v : α) : Nat → Nat → α := fun b j => if b = a ∧ j = k then v else f b j
theorem wf_up1_s {α : Type} {f : Nat → α} {a : Nat} {v : α} : wf_up1 f a v a = v := if_pos rfl
theorem wf_up1_n {α : Type} {f : Nat → α} {a b : Nat} {v : α} (h : b ≠ a) : wf_up1 f a v b = f b := if_neg h
theorem wf_up_s {α : Type} {f : Nat → Nat → α} {a k : Nat} {v : α} : wf_up f a k v a k = v := if_pos ⟨rfl, rfl⟩
theorem wf_up_a {α : Type} {f : Nat → Nat → α} {a b k j : Nat} {v : α} (h : b ≠ a) : wf_up f a k v b j = f b j := if_neg fun q => h q.1
theorem wf_up_k {α : Type} {f : Nat → Nat → α} {a b k j : Nat} {v : α} (h : j ≠ k) : wf_up f a k v b j = f b j := if_neg fun q => h q.2
/-- 0: an int's slot; 1: a long's; 2: a reference's -/
def wf_kd : FieldType → Nat
  | .long => 1
  | .object _ => 2
  | .array _ => 2
  | _ => 0
/-- the value in slot k of cell a, by its type -/
def wf_v (y : FieldType) (r : Wr) (i : Wi) (g : Wl) (a k : Nat) : Value := match wf_kd y with
  | 1 => .long (g a k)
  | 2 => va_rf (r a k)
  | _ => .int (i a k)
theorem wf_v_c {y : FieldType} {r r' : Wr} {i i' : Wi} {g g' : Wl} {a k : Nat} (h1 : r' a k = r a k) (h2 : i' a k = i a k) (h3 : g' a k = g a k) : wf_v y r' i' g' a k = wf_v y r i g a k := by
  unfold wf_v
  rw [h1, h2, h3]
theorem wf_v_i {y : FieldType} {r : Wr} {i : Wi} {g : Wl} {a k : Nat} (h : wf_kd y = 0) : wf_v y r i g a k = .int (i a k) := by
  unfold wf_v
  rw [h]
  rfl
theorem wf_v_l {y : FieldType} {r : Wr} {i : Wi} {g : Wl} {a k : Nat} (h : wf_kd y = 1) : wf_v y r i g a k = .long (g a k) := by
  unfold wf_v
  rw [h]
  rfl
theorem wf_v_r {y : FieldType} {r : Wr} {i : Wi} {g : Wl} {a k : Nat} (h : wf_kd y = 2) : wf_v y r i g a k = va_rf (r a k) := by
  unfold wf_v
  rw [h]
  rfl
/-- an array's cell: one of the run's own, or the script's, which may be marked in ways that nobody looks at -/
def wf_ce (old : Bool) (cA : ClassId) (n : Nat) (f : Nat → Value) (ce : Cell) : Prop := match old with
  | false => ce = arrV cA n f
  | true => ce.cls = cA ∧ ce.vm ≠ .unknown ∧ (∀ k, ce.vm ≠ .statics k) ∧ ce.slots = (arrV cA n f).slots
theorem wf_ce.r {old : Bool} {cA : ClassId} {n : Nat} {f : Nat → Value} {ce : Cell} (h : wf_ce old cA n f ce) : ce.cls = cA ∧ ce.vm ≠ .unknown ∧ (∀ k, ce.vm ≠ .statics k) ∧ ce.slots = (arrV cA n f).slots := by
  cases old with
  | true => exact h
  | false =>
    have h : ce = arrV cA n f := h
    subst h
    exact ⟨rfl, fun q => (by cases q), fun k q => (by cases q), rfl⟩
theorem wf_beq {y : Nat} (h : y ≠ wl_AS) : Nat.beq y wl_AS = false := by
  cases hb : Nat.beq y wl_AS with
  | false => rfl
  | true => exact absurd (Nat.eq_of_beq_eq_true hb) h
def wf_A (E : We) (t : Wt) (r : Wr) (i : Wi) (g : Wl) (a : Nat) (H : Heap) : Prop := match t a with
  | none => True
  | some (.inl c) => ∃ q : vw_C, wl_CL[c]? = some q ∧ t_OB a (E.1 c) q.2.2 (E.2.1 c) H (fun k => wf_v (wl_TY c k) r i g a k)
  | some (.inr (y, n)) => y < wl_AN ∧ ∃ ce : Cell, H[a]? = some ce ∧ wf_ce (Nat.beq y wl_AS) (E.2.2 y) n (fun j => wf_v (wl_AT y) r i g a j) ce
theorem wf_A.o {E : We} {t : Wt} {r : Wr} {i : Wi} {g : Wl} {a c : Nat} {H : Heap} (h : wf_A E t r i g a H) (ht : t a = some (.inl c)) : ∃ q : vw_C, wl_CL[c]? = some q ∧ t_OB a (E.1 c) q.2.2 (E.2.1 c) H (fun k => wf_v (wl_TY c k) r i g a k) := by
  unfold wf_A at h
  rw [ht] at h
  exact h
theorem wf_A.w {E : We} {t : Wt} {r : Wr} {i : Wi} {g : Wl} {a y n : Nat} {H : Heap} (h : wf_A E t r i g a H) (ht : t a = some (.inr (y, n))) : y < wl_AN ∧ ∃ ce : Cell, H[a]? = some ce ∧ wf_ce (Nat.beq y wl_AS) (E.2.2 y) n (fun j => wf_v (wl_AT y) r i g a j) ce := by
  unfold wf_A at h
  rw [ht] at h
  exact h
theorem wf_A.a {E : We} {t : Wt} {r : Wr} {i : Wi} {g : Wl} {a y n : Nat} {H : Heap} (h : wf_A E t r i g a H) (ht : t a = some (.inr (y, n))) (hs : y ≠ wl_AS) : y < wl_AN ∧ H[a]? = some (arrV (E.2.2 y) n (fun j => wf_v (wl_AT y) r i g a j)) := by
  obtain ⟨h1, ce, h2, h3⟩ := h.w ht
  rw [wf_beq hs] at h3
  have h3 : ce = _ := h3
  exact ⟨h1, by rw [h2, h3]⟩
theorem wf_A.io {E : We} {t : Wt} {r : Wr} {i : Wi} {g : Wl} {a c : Nat} {H : Heap} (ht : t a = some (.inl c)) (h : ∃ q : vw_C, wl_CL[c]? = some q ∧ t_OB a (E.1 c) q.2.2 (E.2.1 c) H (fun k => wf_v (wl_TY c k) r i g a k)) : wf_A E t r i g a H := by
  unfold wf_A
  rw [ht]
  exact h
theorem wf_A.iw {E : We} {t : Wt} {r : Wr} {i : Wi} {g : Wl} {a y n : Nat} {H : Heap} (ht : t a = some (.inr (y, n))) (h : y < wl_AN ∧ ∃ ce : Cell, H[a]? = some ce ∧ wf_ce (Nat.beq y wl_AS) (E.2.2 y) n (fun j => wf_v (wl_AT y) r i g a j) ce) : wf_A E t r i g a H := by
  unfold wf_A
  rw [ht]
  exact h
theorem wf_A.ia {E : We} {t : Wt} {r : Wr} {i : Wi} {g : Wl} {a y n : Nat} {H : Heap} (hs : y ≠ wl_AS) (ht : t a = some (.inr (y, n))) (h : y < wl_AN ∧ H[a]? = some (arrV (E.2.2 y) n (fun j => wf_v (wl_AT y) r i g a j))) : wf_A E t r i g a H := wf_A.iw ht ⟨h.1, _, h.2, by rw [wf_beq hs]; rfl⟩
theorem wf_A.in {E : We} {t : Wt} {r : Wr} {i : Wi} {g : Wl} {a : Nat} {H : Heap} (ht : t a = none) : wf_A E t r i g a H := by
  unfold wf_A
  rw [ht]
  trivial
theorem wf_A.tr {E : We} {t t' : Wt} {r r' : Wr} {i i' : Wi} {g g' : Wl} {b : Nat} {H H' : Heap} (h : wf_A E t r i g b H) (ht : t' b = t b) (hq : H'[b]? = H[b]?) (ho : ∀ k, r' b k = r b k ∧ i' b k = i b k ∧ g' b k = g b k) : wf_A E t' r' i' g' b H' := by
  cases hb : t b with
  | none => exact wf_A.in (ht.trans hb)
  | some z =>
    cases z with
    | inl c =>
      obtain ⟨q, h1, h2⟩ := h.o hb
      exact wf_A.io (ht.trans hb) ⟨q, h1, (h2.kept hq).to (fun k _ => (wf_v_c (ho k).1 (ho k).2.1 (ho k).2.2).symm)⟩
    | inr z =>
      obtain ⟨y, n⟩ := z
      obtain ⟨h1, ce, h2, h3⟩ := h.w hb
      have hf : (fun k => wf_v (wl_AT y) r' i' g' b k) = (fun k => wf_v (wl_AT y) r i g b k) := funext fun k => wf_v_c (ho k).1 (ho k).2.1 (ho k).2.2
      exact wf_A.iw (ht.trans hb) ⟨h1, ce, hq.trans h2, by rw [hf]; exact h3⟩
def wf_R (E : We) (n0 nx : Nat) (t : Wt) (r : Wr) (i : Wi) (g : Wl) (H : Heap) : Prop :=
  H.size = nx ∧ n0 ≤ nx ∧ (∀ a, wf_A E t r i g a H) ∧ (∀ a z, t a = some z → n0 ≤ a ∨ ∃ n, z = .inr (wl_AS, n)) ∧ ∀ a, nx ≤ a → t a = none ∧ ∀ k, r a k = none ∧ i a k = 0 ∧ g a k = 0
theorem wf_R.lt {E : We} {n0 nx : Nat} {t : Wt} {r : Wr} {i : Wi} {g : Wl} {H : Heap} {a : Nat} {z : Nat ⊕ (Nat × Nat)} (h : wf_R E n0 nx t r i g H) (ha : t a = some z) : a < nx :=
  Nat.not_le.mp fun q => by
    have h1 := (h.2.2.2.2 a q).1
    rw [ha] at h1
    cases h1
/-- one cell is written -/
theorem wf_R.put {E : We} {n0 nx : Nat} {t : Wt} {r r' : Wr} {i i' : Wi} {g g' : Wl} {H H' : Heap} {a : Nat} {z : Nat ⊕ (Nat × Nat)} (h : wf_R E n0 nx t r i g H) (hz : H'.size = H.size) (hq : ∀ q : Nat, q ≠ a → H'[q]? = H[q]?) (ha : t a = some z) (hA : wf_A E t r' i' g' a H')
    (ho : ∀ b, b ≠ a → ∀ k, r' b k = r b k ∧ i' b k = i b k ∧ g' b k = g b k) : wf_R E n0 nx t r' i' g' H' := by
  refine ⟨hz.trans h.1, h.2.1, fun b => ?_, h.2.2.2.1, fun b hb => ?_⟩
  · by_cases hba : b = a
    · rw [hba]; exact hA
    · exact (h.2.2.1 b).tr rfl (hq b hba) (ho b hba)
  · have hne : b ≠ a := fun q => by
      have := h.lt ha
      omega
    obtain ⟨h1, h2⟩ := h.2.2.2.2 b hb
    refine ⟨h1, fun k => ?_⟩
    rw [(ho b hne k).1, (ho b hne k).2.1, (ho b hne k).2.2]
    exact h2 k
/-- one cell comes -/
theorem wf_R.new {E : We} {n0 nx : Nat} {t : Wt} {r : Wr} {i : Wi} {g : Wl} {H H' : Heap} {z : Nat ⊕ (Nat × Nat)} (h : wf_R E n0 nx t r i g H) (hz : H'.size = nx + 1) (hq : ∀ q : Nat, q < nx → H'[q]? = H[q]?) (hA : wf_A E (wf_up1 t nx (some z)) r i g nx H') : wf_R E n0 (nx + 1) (wf_up1 t nx (some z)) r i g H' := by
  refine ⟨hz, Nat.le_succ_of_le h.2.1, fun b => ?_, fun b w hb => ?_, fun b hb => ?_⟩
  · by_cases hba : b = nx
    · rw [hba]; exact hA
    · by_cases hlt : b < nx
      · exact (h.2.2.1 b).tr (wf_up1_n hba) (hq b hlt) (fun k => ⟨rfl, rfl, rfl⟩)
      · exact wf_A.in (by rw [wf_up1_n hba]; exact (h.2.2.2.2 b (by omega)).1)
  · by_cases hba : b = nx
    · rw [hba]; exact Or.inl h.2.1
    · rw [wf_up1_n hba] at hb
      exact h.2.2.2.1 b w hb
  · rw [wf_up1_n (by omega)]
    exact h.2.2.2.2 b (by omega)
/-- cells come that nobody looks at -/
theorem wf_R.grow {E : We} {n0 nx nx' : Nat} {t : Wt} {r : Wr} {i : Wi} {g : Wl} {H H' : Heap} (h : wf_R E n0 nx t r i g H) (hz : H'.size = nx') (hl : nx ≤ nx') (hq : ∀ q : Nat, q < nx → H'[q]? = H[q]?) : wf_R E n0 nx' t r i g H' := by
  refine ⟨hz, Nat.le_trans h.2.1 hl, fun b => ?_, h.2.2.2.1, fun b hb => h.2.2.2.2 b (Nat.le_trans hl hb)⟩
  cases hb : t b with
  | none => exact wf_A.in hb
  | some z => exact (h.2.2.1 b).tr rfl (hq b (h.lt hb)) (fun k => ⟨rfl, rfl, rfl⟩)
def wf_K (E : We) (U : State) : Prop := (∀ (c : Nat) (q : vw_C), wl_CL[c]? = some q → u_Kn U q.1 q.2.1 q.2.2 (E.1 c) (E.2.1 c)) ∧ (∀ y, y < wl_AN → ArrOfT U (E.2.2 y) (wl_AT y) ∧ (y ≠ wl_AS → va_RA U (E.2.2 y) (wl_AT y))) ∧ ∀ C0 ∈ wl_OV, va_AO C0 U
theorem wf_K.moved {E : We} {u U : State} (hvm : u.vm.Alike U.vm) (h : wf_K E u) : wf_K E U := ⟨fun c q hq => u_Kn_moved hvm (h.1 c q hq), fun y hy => ⟨arrOfT_moved hvm (h.2.1 y hy).1, fun hs => ((h.2.1 y hy).2 hs).moved hvm⟩, fun C0 hC => (h.2.2 C0 hC).moved hvm⟩
/-- old cells are as they were -/
def wf_O (n0 : Nat) (H0 H : Heap) : Prop := ∀ q : Nat, q < n0 → H[q]? = H0[q]?
def wf_out (n0 : Nat) (s t : State) (o : Outcome) : Wo → Prop
  | .inl v => o = .returned v
  | .inr X => ∃ (a : Nat) (ce : Cell), o = .threw a ∧ n0 ≤ a ∧ t.heap[a]? = some ce ∧ ce.vm = .none ∧ s.vm.findClass X = some ce.cls
def wf_Q (E : We) (n0 : Nat) (Q : Wq) : Array Value → State → Outcome → State → Prop := fun _ st o u => ∃ (v : Wo) (nx : Nat) (t : Wt) (r : Wr) (i : Wi) (g : Wl), wf_out n0 st u o v ∧ wf_R E n0 nx t r i g u.heap ∧ wf_O n0 st.heap u.heap ∧ Q v nx t r i g
def wf_F (n0 mc ms : Nat) (st : State) (u : State) : Prop := ∃ L : List Loc, st.WarmedH u.vm ∧ st.sameButNew ({ u with vm := st.vm } : State) L mc ms ∧ ∀ q ∈ L, n0 ≤ q.base
def wf_rm (d mc ms : Nat) : Room := { frames := d, cells := mc, slots := ms, locals := 40 * d }
abbrev wf_ws (M : Wm) : List Cond := Cond.code M.1 M.2.1 M.2.2.1 M.2.2.2 :: wl_ALL
/-- what a method begins with -/
def wf_P (E : We) (n0 : Nat) (av : List Value) (nx : Nat) (t : Wt) (r : Wr) (i : Wi) (g : Wl) : Array Value → State → Prop := va_Pc av (fun U => wf_R E n0 nx t r i g U.heap ∧ wf_K E U ∧ wl_J n0 U)
/-- A CONTRACT: method M, called with av over the maps, ends as Q says; d frames, mc cells of ms slots -/
def Ct (l : Launch) (E : We) (n0 : Nat) (M : Wm) (d mc ms : Nat) (av : List Value) (nx : Nat) (t : Wt) (r : Wr) (i : Wi) (g : Wl) (Q : Wq) : Prop :=
  MetFree l M.1 (headSpec (wf_ws M) (wf_rm d mc ms)) (wf_P E n0 av nx t r i g) (fun _ _ _ _ _ => True) (fun a st o u => wf_Q E n0 Q a st o u ∧ wf_F n0 mc ms st u)
theorem Ct.mono {l : Launch} {E : We} {n0 : Nat} {M : Wm} {d mc ms : Nat} {av : List Value} {nx : Nat} {t : Wt} {r : Wr} {i : Wi} {g : Wl} {Q Q' : Wq} (h : Ct l E n0 M d mc ms av nx t r i g Q) (hq : ∀ v nx t r i g, Q v nx t r i g → Q' v nx t r i g) : Ct l E n0 M d mc ms av nx t r i g Q' := by
  intro p e h1 h2 h3 s m args below h4 h5 h6 h7
  obtain ⟨n, o, a1, a2, a3, ⟨v, nx', t', r', i', g', b1, b2, b3, b4⟩, a5⟩ := h p e h1 h2 h3 s m args below h4 h5 h6 h7
  exact ⟨n, o, a1, a2, a3, ⟨v, nx', t', r', i', g', b1, b2, b3, hq _ _ _ _ _ _ b4⟩, a5⟩
/-- a contract of a method that always answers, as the kit has it -/
theorem Ct.met {l : Launch} {E : We} {n0 : Nat} {M : Wm} {d mc ms : Nat} {av : List Value} {nx : Nat} {t : Wt} {r : Wr} {i : Wi} {g : Wl} {Q : Wq} (h : Ct l E n0 M d mc ms av nx t r i g Q) (hq : ∀ X nx t r i g, ¬ Q (.inr X) nx t r i g) :
    Met l M.1 (wf_ws M) (wf_rm d mc ms) (wf_P E n0 av nx t r i g) (wf_Q E n0 Q) mc ms (fun q => n0 ≤ q) := by
  intro p e h1 h2 h3 s m args below h4 h5 h6 h7
  obtain ⟨n, o, a1, a2, a3, ⟨v, nx', t', r', i', g', b1, b2, b3, b4⟩, L, c1, c2, c3⟩ := h p e h1 h2 h3 s m args below h4 h5 h6 h7
  refine ⟨n, o, a1, a2, a3, ⟨v, nx', t', r', i', g', b1, b2, b3, b4⟩, L, ⟨?_, c1, c2⟩, c3⟩
  cases v with
  | inl v => exact ⟨v, b1⟩
  | inr X => exact absurd b4 (hq _ _ _ _ _ _)
/-- what holds of the machine inside a method -/
def wf_C (E : We) (n0 : Nat) (M : Wm) (p : Program) (s : State) (m : MethodId) (args : Array Value) (meth : Method) (c : Code) : Prop :=
  p.tables.exec = Jvm.exec ∧ c.code = M.2.1 ∧ c.maxLocals = M.2.2.1 ∧ meth.sig.returnType = M.2.2.2 ∧ s.vm.findClass M.1.cls = some m.cls ∧ (∀ w ∈ wl_ALL, w.before args s = true) ∧ meth.locks = false ∧ (meth.name = M.1.name ∧ c.exceptionTable.toList.map (fun h => (h.startPc, h.endPc, h.handlerPc, h.catchType)) = wl_H M.1) ∧ wf_K E s ∧ wl_J n0 s
/-- the end of a method -/
def wf_Z (E : We) (n0 mc ms : Nat) (Q : Wq) (below : List Frame) (args : Array Value) (s : State) : State → Prop := fun u => ∃ o, u.status = .running ∧ Ended u below o ∧ wf_Q E n0 Q args s o u ∧ wf_F n0 mc ms s u
/-- THE MACHINE INSIDE A METHOD: at pc, with the locals L, the operand stack st, over the maps; bk cells of bn slots may still be made -/
def Wf (l : Launch) (E : We) (n0 : Nat) (M : Wm) (d mc ms : Nat) (Q : Wq) (bk bn : Nat) (pc : Nat) (L : List (Nat × Value)) (st : List Value) (nx : Nat) (t : Wt) (r : Wr) (i : Wi) (g : Wl) : Prop :=
  ∀ (p : Program) (e : Env) (s : State) (m : MethodId) (args : Array Value) (below : List Frame) (meth : Method) (c : Code), wf_C E n0 M p s m args meth c →
  ∀ (H : Heap) (locs : List Loc) (cells slots : Nat) (ls : Array Slot), cells + bk ≤ mc → slots + bn ≤ ms → wf_R E n0 nx t r i g H → wf_O n0 s.heap H → (∀ q ∈ locs, n0 ≤ q.base) → lv_has ls M.2.2.1 L →
  W p l e (wf_rm d mc ms) s m args below meth c H locs cells slots (wf_Z E n0 mc ms Q below args s) (F0 m pc ls st)
/-! the locals -/
def wf_isL : Value → Bool
  | .long _ => true
  | .double _ => true
  | _ => false
theorem wf_isL_c (v : Value) (h : wf_isL v = false) : ¬ v.category = 2 := by
  cases v <;> simp [wf_isL, Value.category] at h ⊢
def wf_get : List (Nat × Value) → Nat → Option Value
  | [], _ => none
  | (k, v) :: q, j => match Nat.beq k j with
    | true => some v
    | false => wf_get q j
def wf_d1 : List (Nat × Value) → Nat → List (Nat × Value)
  | [], _ => []
  | (k, v) :: q, j => match Nat.beq k j || (Nat.beq (k + 1) j && wf_isL v) with
    | true => wf_d1 q j
    | false => (k, v) :: wf_d1 q j
def wf_d2 : List (Nat × Value) → Nat → List (Nat × Value)
  | [], _ => []
  | (k, v) :: q, j => match Nat.beq k j || (Nat.beq k (j + 1) || (Nat.beq (k + 1) j && wf_isL v)) with
    | true => wf_d2 q j
    | false => (k, v) :: wf_d2 q j
theorem wf_get_mem {L : List (Nat × Value)} {j : Nat} {v : Value} (h : wf_get L j = some v) : (j, v) ∈ L := by
  induction L with
  | nil => cases h
  | cons q k ih =>
    obtain ⟨a, b⟩ := q
    cases hb : Nat.beq a j with
    | true =>
      simp only [wf_get, hb] at h
      rw [← Nat.eq_of_beq_eq_true hb, Option.some.inj h]
      exact List.mem_cons_self
    | false =>
      simp only [wf_get, hb] at h
      exact List.mem_cons_of_mem _ (ih h)
theorem wf_get_at {ls : Array Slot} {nL : Nat} {L : List (Nat × Value)} {j : Nat} {v : Value} (h : lv_has ls nL L) (hg : wf_get L j = some v) : ls[j]? = some (.val v) := h.2.2 (j, v) (wf_get_mem hg)
theorem wf_get_ix {L : List (Nat × Value)} {j : Nat} {v : Value} (hg : wf_get L j = some v) : ∃ q : Nat, L[q]? = some (j, v) := List.getElem?_of_mem (wf_get_mem hg)
theorem wf_d1_mem {L : List (Nat × Value)} {j : Nat} {q : Nat × Value} (h : q ∈ wf_d1 L j) : q ∈ L ∧ q.1 ≠ j ∧ ¬ (q.1 + 1 = j ∧ q.2.category = 2) := by
  induction L with
  | nil => cases h
  | cons z k ih =>
    obtain ⟨a, b⟩ := z
    cases hb : (Nat.beq a j || (Nat.beq (a + 1) j && wf_isL b)) with
    | true =>
      simp only [wf_d1, hb] at h
      exact ⟨List.mem_cons_of_mem _ (ih h).1, (ih h).2⟩
    | false =>
      simp only [wf_d1, hb] at h
      rcases List.mem_cons.mp h with rfl | h
      · rw [Bool.or_eq_false_iff] at hb
        refine ⟨List.mem_cons_self, Nat.ne_of_beq_eq_false hb.1, fun ⟨q1, q2⟩ => ?_⟩
        have h2 := hb.2
        rw [show Nat.beq (a + 1) j = true by rw [← q1]; exact Nat.beq_refl _, Bool.true_and] at h2
        exact wf_isL_c b h2 q2
      · exact ⟨List.mem_cons_of_mem _ (ih h).1, (ih h).2⟩
theorem wf_d2_mem {L : List (Nat × Value)} {j : Nat} {q : Nat × Value} (h : q ∈ wf_d2 L j) : q ∈ L ∧ q.1 ≠ j ∧ q.1 ≠ j + 1 ∧ ¬ (q.1 + 1 = j ∧ q.2.category = 2) := by
  induction L with
  | nil => cases h
  | cons z k ih =>
    obtain ⟨a, b⟩ := z
    cases hb : (Nat.beq a j || (Nat.beq a (j + 1) || (Nat.beq (a + 1) j && wf_isL b))) with
    | true =>
      simp only [wf_d2, hb] at h
      exact ⟨List.mem_cons_of_mem _ (ih h).1, (ih h).2⟩
    | false =>
      simp only [wf_d2, hb] at h
      rcases List.mem_cons.mp h with rfl | h
      · rw [Bool.or_eq_false_iff, Bool.or_eq_false_iff] at hb
        refine ⟨List.mem_cons_self, Nat.ne_of_beq_eq_false hb.1, Nat.ne_of_beq_eq_false hb.2.1, fun ⟨q1, q2⟩ => ?_⟩
        have h2 := hb.2.2
        rw [show Nat.beq (a + 1) j = true by rw [← q1]; exact Nat.beq_refl _, Bool.true_and] at h2
        exact wf_isL_c b h2 q2
      · exact ⟨List.mem_cons_of_mem _ (ih h).1, (ih h).2⟩
theorem wf_d1_has {ls : Array Slot} {nL : Nat} {L : List (Nat × Value)} {j : Nat} {v : Value} (h : lv_has ls nL ((j, v) :: L.filter (fun q => !(q.1 == j) && !(q.1 + 1 == j && q.2.category == 2)))) : lv_has ls nL ((j, v) :: wf_d1 L j) := by
  refine ⟨h.1, h.2.1, fun q hq => h.2.2 q ?_⟩
  rcases List.mem_cons.mp hq with rfl | hq
  · exact List.mem_cons_self
  · obtain ⟨h1, h2, h3⟩ := wf_d1_mem hq
    refine List.mem_cons_of_mem _ (List.mem_filter.mpr ⟨h1, ?_⟩)
    simp [h2]
    by_cases q1 : q.1 + 1 = j
    · exact Or.inr (fun q2 => h3 ⟨q1, q2⟩)
    · exact Or.inl q1
theorem wf_d2_has {ls : Array Slot} {nL : Nat} {L : List (Nat × Value)} {j : Nat} {v : Value} (h : lv_has ls nL ((j, v) :: L.filter (fun q => !(q.1 == j) && (!(q.1 == j + 1) && !(q.1 + 1 == j && q.2.category == 2))))) : lv_has ls nL ((j, v) :: wf_d2 L j) := by
  refine ⟨h.1, h.2.1, fun q hq => h.2.2 q ?_⟩
  rcases List.mem_cons.mp hq with rfl | hq
  · exact List.mem_cons_self
  · obtain ⟨h1, h2, h3, h4⟩ := wf_d2_mem hq
    refine List.mem_cons_of_mem _ (List.mem_filter.mpr ⟨h1, ?_⟩)
    simp [h2, h3]
    by_cases q1 : q.1 + 1 = j
    · exact Or.inr (fun q2 => h4 ⟨q1, q2⟩)
    · exact Or.inl q1
/-- what L' lists, L lists -/
def wf_all (L : List (Nat × Value)) : List (Nat × Value) → Prop
  | [] => True
  | q :: k => wf_get L q.1 = some q.2 ∧ wf_all L k
theorem wf_all_mem {L L' : List (Nat × Value)} (h : wf_all L L') {q : Nat × Value} (hq : q ∈ L') : q ∈ L := by
  induction L' with
  | nil => cases hq
  | cons z k ih =>
    rcases List.mem_cons.mp hq with rfl | hq
    · exact wf_get_mem h.1
    · exact ih h.2 hq
section WfBase
variable {l : Launch} {E : We} {n0 : Nat} {M : Wm} {d mc ms : Nat} {Q : Wq} {bk bn pc : Nat} {L : List (Nat × Value)} {st : List Value} {nx : Nat} {t : Wt} {r : Wr} {i : Wi} {g : Wl}
theorem Wf.to {L' : List (Nat × Value)} (hs : wf_all L L') (k : Wf l E n0 M d mc ms Q bk bn pc L' st nx t r i g) : Wf l E n0 M d mc ms Q bk bn pc L st nx t r i g :=
  fun p e s m args below meth c C H locs cells slots ls h1 h2 h3 h4 h5 h6 => k p e s m args below meth c C H locs cells slots ls h1 h2 h3 h4 h5 ⟨h6.1, h6.2.1, fun q hq => h6.2.2 q (wf_all_mem hs hq)⟩
/-- less may be made -/
theorem Wf.less {bk' bn' : Nat} (a1 : bk' ≤ bk) (a2 : bn' ≤ bn) (k : Wf l E n0 M d mc ms Q bk' bn' pc L st nx t r i g) : Wf l E n0 M d mc ms Q bk bn pc L st nx t r i g :=
  fun p e s m args below meth c C H locs cells slots ls h1 h2 h3 h4 h5 h6 => k p e s m args below meth c C H locs cells slots ls (by omega) (by omega) h3 h4 h5 h6
theorem wf_mono {p : Program} {e : Env} {R : Room} {s : State} {m : MethodId} {args : Array Value} {below : List Frame} {meth : Method} {c : Code} {H : Heap} {locs : List Loc} {cells slots : Nat} {Z Z' : State → Prop} {f : JFrame} (h : W p l e R s m args below meth c H locs cells slots Z f) (hq : ∀ u, Z u → Z' u) : W p l e R s m args below meth c H locs cells slots Z' f := by
  intro T hT X
  obtain ⟨u, a, b⟩ := h T hT X
  exact ⟨u, a, hq u b⟩
theorem wf_MQ {below : List Frame} {args : Array Value} {s u : State} (h : MQ below (wf_Q E n0 Q) args s mc ms (fun q => n0 ≤ q) u) : wf_Z E n0 mc ms Q below args s u := by
  obtain ⟨o, h1, h2, h3, L', h4, h5⟩ := h
  exact ⟨o, h1, h2, h3, L', h4.2.1, h4.2.2, h5⟩
theorem wf_ireturn {x : Int32} (hr : M.2.2.2 = some .int) (hd : decode M.2.1 pc = .ok (.ireturn, 1)) (hq : Q (.inl (some (.int x))) nx t r i g) : Wf l E n0 M d mc ms Q bk bn pc L [.int x] nx t r i g :=
  fun p e s m args below meth c C H locs cells slots ls h1 h2 h3 h4 h5 h6 => W.widen (k := mc) (n := ms) (by omega) (by omega) (wf_mono (W.iret (Qc := wf_Q E n0 Q) (free := fun q => n0 ≤ q) C.1 C.2.1 (C.2.2.2.1.trans hr) (fun u hu hW => ⟨.inl (some (.int x)), nx, t, r, i, g, rfl, by rw [hu]; exact h3, by rw [hu]; exact h4, hq⟩) h5 hd C.2.2.2.2.2.2.1) (fun u hu => wf_MQ hu))
theorem wf_zreturn {x : Int32} (hr : M.2.2.2 = some .boolean) (hx : narrow .boolean (.int x) = .int x) (hd : decode M.2.1 pc = .ok (.ireturn, 1)) (hq : Q (.inl (some (.int x))) nx t r i g) : Wf l E n0 M d mc ms Q bk bn pc L [.int x] nx t r i g :=
  fun p e s m args below meth c C H locs cells slots ls h1 h2 h3 h4 h5 h6 => W.widen (k := mc) (n := ms) (by omega) (by omega) (wf_mono (W.zret (Qc := wf_Q E n0 Q) (free := fun q => n0 ≤ q) C.1 C.2.1 (C.2.2.2.1.trans hr) hx (fun u hu hW => ⟨.inl (some (.int x)), nx, t, r, i, g, rfl, by rw [hu]; exact h3, by rw [hu]; exact h4, hq⟩) h5 hd C.2.2.2.2.2.2.1) (fun u hu => wf_MQ hu))
theorem wf_lreturn {x : Int64} (hr : M.2.2.2 = some .long) (hd : decode M.2.1 pc = .ok (.lreturn, 1)) (hq : Q (.inl (some (.long x))) nx t r i g) : Wf l E n0 M d mc ms Q bk bn pc L [.long x] nx t r i g :=
  fun p e s m args below meth c C H locs cells slots ls h1 h2 h3 h4 h5 h6 => W.widen (k := mc) (n := ms) (by omega) (by omega) (wf_mono (W.lret (Qc := wf_Q E n0 Q) (free := fun q => n0 ≤ q) C.1 C.2.1 (C.2.2.2.1.trans hr) (fun u hu hW => ⟨.inl (some (.long x)), nx, t, r, i, g, rfl, by rw [hu]; exact h3, by rw [hu]; exact h4, hq⟩) h5 hd C.2.2.2.2.2.2.1) (fun u hu => wf_MQ hu))
theorem wf_areturn {x : Nat} {rt : FieldType} (hr : M.2.2.2 = some rt) (hrt : (∃ n, rt = .object n) ∨ ∃ y, rt = .array y) (hd : decode M.2.1 pc = .ok (.areturn, 1)) (hq : Q (.inl (some (.ref x))) nx t r i g) : Wf l E n0 M d mc ms Q bk bn pc L [.ref x] nx t r i g :=
  fun p e s m args below meth c C H locs cells slots ls h1 h2 h3 h4 h5 h6 => W.widen (k := mc) (n := ms) (by omega) (by omega) (wf_mono (W.aret (Qc := wf_Q E n0 Q) (free := fun q => n0 ≤ q) C.1 C.2.1 (C.2.2.2.1.trans hr) hrt (Or.inr ⟨x, rfl⟩) (fun u hu hW => ⟨.inl (some (.ref x)), nx, t, r, i, g, rfl, by rw [hu]; exact h3, by rw [hu]; exact h4, hq⟩) h5 hd C.2.2.2.2.2.2.1) (fun u hu => wf_MQ hu))
theorem wf_return (hr : M.2.2.2 = none) (hd : decode M.2.1 pc = .ok (.return_, 1)) (hq : Q (.inl none) nx t r i g) : Wf l E n0 M d mc ms Q bk bn pc L [] nx t r i g :=
  fun p e s m args below meth c C H locs cells slots ls h1 h2 h3 h4 h5 h6 => W.widen (k := mc) (n := ms) (by omega) (by omega) (wf_mono (W.vret (Qc := wf_Q E n0 Q) (free := fun q => n0 ≤ q) C.1 C.2.1 (C.2.2.2.1.trans hr) (fun u hu hW => ⟨.inl none, nx, t, r, i, g, rfl, by rw [hu]; exact h3, by rw [hu]; exact h4, hq⟩) h5 hd C.2.2.2.2.2.2.1) (fun u hu => wf_MQ hu))
/-- a contract out of the walk -/
theorem Ct.of {av : List Value} (hy : plainName M.1.cls = true) (hn : (lg_sl av).length ≤ M.2.2.1) (h : Wf l E n0 M d mc ms Q mc ms 0 (lv_args 0 av) [] nx t r i g) (hH : wl_H M.1 = [] := by decide +kernel) : Ct l E n0 M d mc ms av nx t r i g Q := by
  refine MetFree.of_bodyS (code := M.2.1) (maxLocals := M.2.2.1) (ret := M.2.2.2) hy ?_ ?_
  · intro args s m h hn
    obtain ⟨meth, c, h1, h2, h3, h4, h5, h6, -, -⟩ := Cond.code_spec hn (atoms_spec (ws := wf_ws M) h _ List.mem_cons_self)
    exact ⟨meth, c, h1, h2, h3, h4, h5, h6⟩
  · intro p e s m args below meth c s₁ B hml hP _
    obtain ⟨rfl, hR, hK, hJ⟩ := hP
    have hh0 : s₁.heap = s.heap := by rw [B.state]; rfl
    have hts := atoms_spec (ws := wf_ws M) B.pre
    have htb : c.exceptionTable.toList = [] := by
      obtain ⟨meth', c', q1, q2, -, -, -, -, q7, -⟩ := Cond.code_spec B.named (hts _ List.mem_cons_self)
      have X0 := Stand.of_body B
      cases X0.method.symm.trans q1
      cases X0.code.symm.trans q2
      simpa using q7
    have C : wf_C E n0 M p s m av.toArray meth c := ⟨B.exec, B.bytes, hml, B.returns, findClass_of_methodNamed B.named, fun w hw => hts w (List.mem_cons_of_mem _ hw), B.notSynchronized, ⟨(name_of_methodNamed B.named B.method).1, by rw [htb, hH]; rfl⟩, hK, hJ⟩
    have K := h p e s m av.toArray below meth c C s.heap [] 0 0 _ (by omega) (by omega) hR (fun _ _ => rfl) (fun q hq => by cases hq) (lv_entry av hn)
    rw [← lg_entry_eq] at K
    obtain ⟨u, a1, o, b1, b2, b3, b4⟩ := K s₁ hh0 (Stand.of_body B)
    exact ⟨u, o, a1, b1, b2, b3, b4⟩
end WfBase
end
section
section WfRows
variable {l : Launch} {E : We} {n0 : Nat} {M : Wm} {d mc ms : Nat} {Q : Wq} {bk bn pc : Nat} {L : List (Nat × Value)} {st : List Value} {nx : Nat} {t : Wt} {r : Wr} {i : Wi} {g : Wl}
theorem wf_iadd {x y : Int32} (hd : decode M.2.1 pc = .ok (.iadd, 1)) (k : Wf l E n0 M d mc ms Q bk bn (pc + 1) L (.int (x + y) :: st) nx t r i g) : Wf l E n0 M d mc ms Q bk bn pc L (.int y :: .int x :: st) nx t r i g :=
  fun p e s m args below meth c C H locs cells slots ls h1 h2 h3 h4 h5 h6 => lv_iadd C.1 C.2.1 hd (k p e s m args below meth c C H locs cells slots ls h1 h2 h3 h4 h5 h6)
theorem wf_isub {x y : Int32} (hd : decode M.2.1 pc = .ok (.isub, 1)) (k : Wf l E n0 M d mc ms Q bk bn (pc + 1) L (.int (x - y) :: st) nx t r i g) : Wf l E n0 M d mc ms Q bk bn pc L (.int y :: .int x :: st) nx t r i g :=
  fun p e s m args below meth c C H locs cells slots ls h1 h2 h3 h4 h5 h6 => lv_isub C.1 C.2.1 hd (k p e s m args below meth c C H locs cells slots ls h1 h2 h3 h4 h5 h6)
theorem wf_imul {x y : Int32} (hd : decode M.2.1 pc = .ok (.imul, 1)) (k : Wf l E n0 M d mc ms Q bk bn (pc + 1) L (.int (x * y) :: st) nx t r i g) : Wf l E n0 M d mc ms Q bk bn pc L (.int y :: .int x :: st) nx t r i g :=
  fun p e s m args below meth c C H locs cells slots ls h1 h2 h3 h4 h5 h6 => lv_imul C.1 C.2.1 hd (k p e s m args below meth c C H locs cells slots ls h1 h2 h3 h4 h5 h6)
theorem wf_iand {x y : Int32} (hd : decode M.2.1 pc = .ok (.iand, 1)) (k : Wf l E n0 M d mc ms Q bk bn (pc + 1) L (.int (x &&& y) :: st) nx t r i g) : Wf l E n0 M d mc ms Q bk bn pc L (.int y :: .int x :: st) nx t r i g :=
  fun p e s m args below meth c C H locs cells slots ls h1 h2 h3 h4 h5 h6 => lv_iand C.1 C.2.1 hd (k p e s m args below meth c C H locs cells slots ls h1 h2 h3 h4 h5 h6)
theorem wf_ior {x y : Int32} (hd : decode M.2.1 pc = .ok (.ior, 1)) (k : Wf l E n0 M d mc ms Q bk bn (pc + 1) L (.int (x ||| y) :: st) nx t r i g) : Wf l E n0 M d mc ms Q bk bn pc L (.int y :: .int x :: st) nx t r i g :=
  fun p e s m args below meth c C H locs cells slots ls h1 h2 h3 h4 h5 h6 => lv_ior C.1 C.2.1 hd (k p e s m args below meth c C H locs cells slots ls h1 h2 h3 h4 h5 h6)
theorem wf_ixor {x y : Int32} (hd : decode M.2.1 pc = .ok (.ixor, 1)) (k : Wf l E n0 M d mc ms Q bk bn (pc + 1) L (.int (x ^^^ y) :: st) nx t r i g) : Wf l E n0 M d mc ms Q bk bn pc L (.int y :: .int x :: st) nx t r i g :=
  fun p e s m args below meth c C H locs cells slots ls h1 h2 h3 h4 h5 h6 => lv_ixor C.1 C.2.1 hd (k p e s m args below meth c C H locs cells slots ls h1 h2 h3 h4 h5 h6)
theorem wf_ishl {x y : Int32} (hd : decode M.2.1 pc = .ok (.ishl, 1)) (k : Wf l E n0 M d mc ms Q bk bn (pc + 1) L (.int (x <<< (y &&& 31)) :: st) nx t r i g) : Wf l E n0 M d mc ms Q bk bn pc L (.int y :: .int x :: st) nx t r i g :=
  fun p e s m args below meth c C H locs cells slots ls h1 h2 h3 h4 h5 h6 => lv_ishl C.1 C.2.1 hd (k p e s m args below meth c C H locs cells slots ls h1 h2 h3 h4 h5 h6)
theorem wf_ishr {x y : Int32} (hd : decode M.2.1 pc = .ok (.ishr, 1)) (k : Wf l E n0 M d mc ms Q bk bn (pc + 1) L (.int (x >>> (y &&& 31)) :: st) nx t r i g) : Wf l E n0 M d mc ms Q bk bn pc L (.int y :: .int x :: st) nx t r i g :=
  fun p e s m args below meth c C H locs cells slots ls h1 h2 h3 h4 h5 h6 => lv_ishr C.1 C.2.1 hd (k p e s m args below meth c C H locs cells slots ls h1 h2 h3 h4 h5 h6)
theorem wf_idiv {x y : Int32} (hd : decode M.2.1 pc = .ok (.idiv, 1)) (hne : ¬ y = 0) (k : Wf l E n0 M d mc ms Q bk bn (pc + 1) L (.int (x / y) :: st) nx t r i g) : Wf l E n0 M d mc ms Q bk bn pc L (.int y :: .int x :: st) nx t r i g :=
  fun p e s m args below meth c C H locs cells slots ls h1 h2 h3 h4 h5 h6 => lv_idiv C.1 C.2.1 hd hne (k p e s m args below meth c C H locs cells slots ls h1 h2 h3 h4 h5 h6)
theorem wf_irem {x y : Int32} (hd : decode M.2.1 pc = .ok (.irem, 1)) (hne : ¬ y = 0) (k : Wf l E n0 M d mc ms Q bk bn (pc + 1) L (.int (x - x / y * y) :: st) nx t r i g) : Wf l E n0 M d mc ms Q bk bn pc L (.int y :: .int x :: st) nx t r i g :=
  fun p e s m args below meth c C H locs cells slots ls h1 h2 h3 h4 h5 h6 => lv_irem C.1 C.2.1 hd hne (k p e s m args below meth c C H locs cells slots ls h1 h2 h3 h4 h5 h6)
theorem wf_ineg {x : Int32} (hd : decode M.2.1 pc = .ok (.ineg, 1)) (k : Wf l E n0 M d mc ms Q bk bn (pc + 1) L (.int (-x) :: st) nx t r i g) : Wf l E n0 M d mc ms Q bk bn pc L (.int x :: st) nx t r i g :=
  fun p e s m args below meth c C H locs cells slots ls h1 h2 h3 h4 h5 h6 => lv_ineg C.1 C.2.1 hd (k p e s m args below meth c C H locs cells slots ls h1 h2 h3 h4 h5 h6)
theorem wf_iushr {x y : Int32} (hd : decode M.2.1 pc = .ok (.iushr, 1)) (k : Wf l E n0 M d mc ms Q bk bn (pc + 1) L (.int ((x.toUInt32 >>> (y.toUInt32 &&& Int32.toUInt32 31)).toInt32) :: st) nx t r i g) : Wf l E n0 M d mc ms Q bk bn pc L (.int y :: .int x :: st) nx t r i g :=
  fun p e s m args below meth c C H locs cells slots ls h1 h2 h3 h4 h5 h6 => lv_iushr C.1 C.2.1 hd rfl (k p e s m args below meth c C H locs cells slots ls h1 h2 h3 h4 h5 h6)
theorem wf_ladd {x y : Int64} (hd : decode M.2.1 pc = .ok (.ladd, 1)) (k : Wf l E n0 M d mc ms Q bk bn (pc + 1) L (.long (x + y) :: st) nx t r i g) : Wf l E n0 M d mc ms Q bk bn pc L (.long y :: .long x :: st) nx t r i g :=
  fun p e s m args below meth c C H locs cells slots ls h1 h2 h3 h4 h5 h6 => lv_ladd C.1 C.2.1 hd (k p e s m args below meth c C H locs cells slots ls h1 h2 h3 h4 h5 h6)
theorem wf_lsub {x y : Int64} (hd : decode M.2.1 pc = .ok (.lsub, 1)) (k : Wf l E n0 M d mc ms Q bk bn (pc + 1) L (.long (x - y) :: st) nx t r i g) : Wf l E n0 M d mc ms Q bk bn pc L (.long y :: .long x :: st) nx t r i g :=
  fun p e s m args below meth c C H locs cells slots ls h1 h2 h3 h4 h5 h6 => lv_lsub C.1 C.2.1 hd (k p e s m args below meth c C H locs cells slots ls h1 h2 h3 h4 h5 h6)
theorem wf_lmul {x y : Int64} (hd : decode M.2.1 pc = .ok (.lmul, 1)) (k : Wf l E n0 M d mc ms Q bk bn (pc + 1) L (.long (x * y) :: st) nx t r i g) : Wf l E n0 M d mc ms Q bk bn pc L (.long y :: .long x :: st) nx t r i g :=
  fun p e s m args below meth c C H locs cells slots ls h1 h2 h3 h4 h5 h6 => lv_lmul C.1 C.2.1 hd (k p e s m args below meth c C H locs cells slots ls h1 h2 h3 h4 h5 h6)
theorem wf_land {x y : Int64} (hd : decode M.2.1 pc = .ok (.land, 1)) (k : Wf l E n0 M d mc ms Q bk bn (pc + 1) L (.long (x &&& y) :: st) nx t r i g) : Wf l E n0 M d mc ms Q bk bn pc L (.long y :: .long x :: st) nx t r i g :=
  fun p e s m args below meth c C H locs cells slots ls h1 h2 h3 h4 h5 h6 => lv_land C.1 C.2.1 hd (k p e s m args below meth c C H locs cells slots ls h1 h2 h3 h4 h5 h6)
theorem wf_lor {x y : Int64} (hd : decode M.2.1 pc = .ok (.lor, 1)) (k : Wf l E n0 M d mc ms Q bk bn (pc + 1) L (.long (x ||| y) :: st) nx t r i g) : Wf l E n0 M d mc ms Q bk bn pc L (.long y :: .long x :: st) nx t r i g :=
  fun p e s m args below meth c C H locs cells slots ls h1 h2 h3 h4 h5 h6 => lv_lor C.1 C.2.1 hd (k p e s m args below meth c C H locs cells slots ls h1 h2 h3 h4 h5 h6)
theorem wf_lxor {x y : Int64} (hd : decode M.2.1 pc = .ok (.lxor, 1)) (k : Wf l E n0 M d mc ms Q bk bn (pc + 1) L (.long (x ^^^ y) :: st) nx t r i g) : Wf l E n0 M d mc ms Q bk bn pc L (.long y :: .long x :: st) nx t r i g :=
  fun p e s m args below meth c C H locs cells slots ls h1 h2 h3 h4 h5 h6 => lv_lxor C.1 C.2.1 hd (k p e s m args below meth c C H locs cells slots ls h1 h2 h3 h4 h5 h6)
theorem wf_ldiv {x y : Int64} (hd : decode M.2.1 pc = .ok (.ldiv, 1)) (hne : ¬ y = 0) (k : Wf l E n0 M d mc ms Q bk bn (pc + 1) L (.long (x / y) :: st) nx t r i g) : Wf l E n0 M d mc ms Q bk bn pc L (.long y :: .long x :: st) nx t r i g :=
  fun p e s m args below meth c C H locs cells slots ls h1 h2 h3 h4 h5 h6 => lv_ldiv C.1 C.2.1 hd hne (k p e s m args below meth c C H locs cells slots ls h1 h2 h3 h4 h5 h6)
theorem wf_lrem {x y : Int64} (hd : decode M.2.1 pc = .ok (.lrem, 1)) (hne : ¬ y = 0) (k : Wf l E n0 M d mc ms Q bk bn (pc + 1) L (.long (x - x / y * y) :: st) nx t r i g) : Wf l E n0 M d mc ms Q bk bn pc L (.long y :: .long x :: st) nx t r i g :=
  fun p e s m args below meth c C H locs cells slots ls h1 h2 h3 h4 h5 h6 => lv_lrem C.1 C.2.1 hd hne (k p e s m args below meth c C H locs cells slots ls h1 h2 h3 h4 h5 h6)
theorem wf_lneg {x : Int64} (hd : decode M.2.1 pc = .ok (.lneg, 1)) (k : Wf l E n0 M d mc ms Q bk bn (pc + 1) L (.long (-x) :: st) nx t r i g) : Wf l E n0 M d mc ms Q bk bn pc L (.long x :: st) nx t r i g :=
  fun p e s m args below meth c C H locs cells slots ls h1 h2 h3 h4 h5 h6 => lv_lneg C.1 C.2.1 hd (k p e s m args below meth c C H locs cells slots ls h1 h2 h3 h4 h5 h6)
theorem wf_i2l {x : Int32} (hd : decode M.2.1 pc = .ok (.i2l, 1)) (k : Wf l E n0 M d mc ms Q bk bn (pc + 1) L (.long (x.toInt64) :: st) nx t r i g) : Wf l E n0 M d mc ms Q bk bn pc L (.int x :: st) nx t r i g :=
  fun p e s m args below meth c C H locs cells slots ls h1 h2 h3 h4 h5 h6 => lv_i2l C.1 C.2.1 hd rfl (k p e s m args below meth c C H locs cells slots ls h1 h2 h3 h4 h5 h6)
theorem wf_l2i {x : Int64} (hd : decode M.2.1 pc = .ok (.l2i, 1)) (k : Wf l E n0 M d mc ms Q bk bn (pc + 1) L (.int (x.toInt32) :: st) nx t r i g) : Wf l E n0 M d mc ms Q bk bn pc L (.long x :: st) nx t r i g :=
  fun p e s m args below meth c C H locs cells slots ls h1 h2 h3 h4 h5 h6 => lv_l2i C.1 C.2.1 hd rfl (k p e s m args below meth c C H locs cells slots ls h1 h2 h3 h4 h5 h6)
theorem wf_lushr {x : Int64} {y : Int32} (hd : decode M.2.1 pc = .ok (.lushr, 1)) (k : Wf l E n0 M d mc ms Q bk bn (pc + 1) L (.long ((x.toUInt64 >>> (y.toInt64.toUInt64 &&& Int64.toUInt64 63)).toInt64) :: st) nx t r i g) : Wf l E n0 M d mc ms Q bk bn pc L (.int y :: .long x :: st) nx t r i g :=
  fun p e s m args below meth c C H locs cells slots ls h1 h2 h3 h4 h5 h6 => lv_lushr C.1 C.2.1 hd rfl (k p e s m args below meth c C H locs cells slots ls h1 h2 h3 h4 h5 h6)
theorem wf_lshl {x : Int64} {y : Int32} (hd : decode M.2.1 pc = .ok (.lshl, 1)) (k : Wf l E n0 M d mc ms Q bk bn (pc + 1) L (.long (x <<< (y.toInt64 &&& 63)) :: st) nx t r i g) : Wf l E n0 M d mc ms Q bk bn pc L (.int y :: .long x :: st) nx t r i g :=
  fun p e s m args below meth c C H locs cells slots ls h1 h2 h3 h4 h5 h6 => lv_lshl C.1 C.2.1 hd rfl (k p e s m args below meth c C H locs cells slots ls h1 h2 h3 h4 h5 h6)
theorem wf_lcmp {x y : Int64} (hd : decode M.2.1 pc = .ok (.lcmp, 1)) (k : Wf l E n0 M d mc ms Q bk bn (pc + 1) L (.int (lg_cmp x y) :: st) nx t r i g) : Wf l E n0 M d mc ms Q bk bn pc L (.long y :: .long x :: st) nx t r i g :=
  fun p e s m args below meth c C H locs cells slots ls h1 h2 h3 h4 h5 h6 => W.lcmp C.1 C.2.1 hd (k p e s m args below meth c C H locs cells slots ls h1 h2 h3 h4 h5 h6)
theorem wf_dup {va : Value} (hd : decode M.2.1 pc = .ok (.dup, 1)) (hva : va.category = 1) (k : Wf l E n0 M d mc ms Q bk bn (pc + 1) L (va :: va :: st) nx t r i g) : Wf l E n0 M d mc ms Q bk bn pc L (va :: st) nx t r i g :=
  fun p e s m args below meth c C H locs cells slots ls h1 h2 h3 h4 h5 h6 => lv_dup C.1 C.2.1 hd hva (k p e s m args below meth c C H locs cells slots ls h1 h2 h3 h4 h5 h6)
theorem wf_pop {va : Value} (hd : decode M.2.1 pc = .ok (.pop, 1)) (hva : va.category = 1) (k : Wf l E n0 M d mc ms Q bk bn (pc + 1) L (st) nx t r i g) : Wf l E n0 M d mc ms Q bk bn pc L (va :: st) nx t r i g :=
  fun p e s m args below meth c C H locs cells slots ls h1 h2 h3 h4 h5 h6 => lv_pop C.1 C.2.1 hd hva (k p e s m args below meth c C H locs cells slots ls h1 h2 h3 h4 h5 h6)
theorem wf_dup_x1 {va vb : Value} (hd : decode M.2.1 pc = .ok (.dup_x1, 1)) (hva : va.category = 1) (hvb : vb.category = 1) (k : Wf l E n0 M d mc ms Q bk bn (pc + 1) L (va :: vb :: va :: st) nx t r i g) : Wf l E n0 M d mc ms Q bk bn pc L (va :: vb :: st) nx t r i g :=
  fun p e s m args below meth c C H locs cells slots ls h1 h2 h3 h4 h5 h6 => lv_dup_x1 C.1 C.2.1 hd hva hvb (k p e s m args below meth c C H locs cells slots ls h1 h2 h3 h4 h5 h6)
theorem wf_dup_x2 {va vb vd : Value} (hd : decode M.2.1 pc = .ok (.dup_x2, 1)) (hva : va.category = 1) (hvb : vb.category = 1) (hvd : vd.category = 1) (k : Wf l E n0 M d mc ms Q bk bn (pc + 1) L (va :: vb :: vd :: va :: st) nx t r i g) : Wf l E n0 M d mc ms Q bk bn pc L (va :: vb :: vd :: st) nx t r i g :=
  fun p e s m args below meth c C H locs cells slots ls h1 h2 h3 h4 h5 h6 => lv_dup_x2 C.1 C.2.1 hd hva hvb hvd (k p e s m args below meth c C H locs cells slots ls h1 h2 h3 h4 h5 h6)
theorem wf_dup2 {va vb : Value} (hd : decode M.2.1 pc = .ok (.dup2, 1)) (hva : va.category = 1) (hvb : vb.category = 1) (k : Wf l E n0 M d mc ms Q bk bn (pc + 1) L (va :: vb :: va :: vb :: st) nx t r i g) : Wf l E n0 M d mc ms Q bk bn pc L (va :: vb :: st) nx t r i g :=
  fun p e s m args below meth c C H locs cells slots ls h1 h2 h3 h4 h5 h6 => lv_dup2_11 C.1 C.2.1 hd hva hvb (k p e s m args below meth c C H locs cells slots ls h1 h2 h3 h4 h5 h6)
theorem wf_dup2L {va : Value} (hd : decode M.2.1 pc = .ok (.dup2, 1)) (hva : va.category = 2) (k : Wf l E n0 M d mc ms Q bk bn (pc + 1) L (va :: va :: st) nx t r i g) : Wf l E n0 M d mc ms Q bk bn pc L (va :: st) nx t r i g :=
  fun p e s m args below meth c C H locs cells slots ls h1 h2 h3 h4 h5 h6 => lv_dup2_2 C.1 C.2.1 hd hva (k p e s m args below meth c C H locs cells slots ls h1 h2 h3 h4 h5 h6)
theorem wf_iconst {n : Int} (v : Int32) (hd : decode M.2.1 pc = .ok (.iconst n, 1)) (hv : Int32.ofInt n = v) (k : Wf l E n0 M d mc ms Q bk bn (pc + 1) L (.int v :: st) nx t r i g) : Wf l E n0 M d mc ms Q bk bn pc L st nx t r i g :=
  fun p e s m args below meth c C H locs cells slots ls h1 h2 h3 h4 h5 h6 => lv_iconst C.1 C.2.1 hd hv (k p e s m args below meth c C H locs cells slots ls h1 h2 h3 h4 h5 h6)
theorem wf_bipush {n : Int} (v : Int32) (hd : decode M.2.1 pc = .ok (.bipush n, 2)) (hv : (Int8.ofInt n).toInt32 = v) (k : Wf l E n0 M d mc ms Q bk bn (pc + 2) L (.int v :: st) nx t r i g) : Wf l E n0 M d mc ms Q bk bn pc L st nx t r i g :=
  fun p e s m args below meth c C H locs cells slots ls h1 h2 h3 h4 h5 h6 => lv_bipush C.1 C.2.1 hd hv (k p e s m args below meth c C H locs cells slots ls h1 h2 h3 h4 h5 h6)
theorem wf_sipush {n : Int} (v : Int32) (hd : decode M.2.1 pc = .ok (.sipush n, 3)) (hv : (Int16.ofInt n).toInt32 = v) (k : Wf l E n0 M d mc ms Q bk bn (pc + 3) L (.int v :: st) nx t r i g) : Wf l E n0 M d mc ms Q bk bn pc L st nx t r i g :=
  fun p e s m args below meth c C H locs cells slots ls h1 h2 h3 h4 h5 h6 => lv_sipush C.1 C.2.1 hd hv (k p e s m args below meth c C H locs cells slots ls h1 h2 h3 h4 h5 h6)
theorem wf_lconst {n : Fin 2} (v : Int64) (hd : decode M.2.1 pc = .ok (.lconst n, 1)) (hv : Int64.ofNat (n : Nat) = v) (k : Wf l E n0 M d mc ms Q bk bn (pc + 1) L (.long v :: st) nx t r i g) : Wf l E n0 M d mc ms Q bk bn pc L st nx t r i g :=
  fun p e s m args below meth c C H locs cells slots ls h1 h2 h3 h4 h5 h6 => lv_lconst C.1 C.2.1 hd hv (k p e s m args below meth c C H locs cells slots ls h1 h2 h3 h4 h5 h6)
theorem wf_null (hd : decode M.2.1 pc = .ok (.aconst_null, 1)) (k : Wf l E n0 M d mc ms Q bk bn (pc + 1) L (.null :: st) nx t r i g) : Wf l E n0 M d mc ms Q bk bn pc L st nx t r i g :=
  fun p e s m args below meth c C H locs cells slots ls h1 h2 h3 h4 h5 h6 => lv_null C.1 C.2.1 hd (k p e s m args below meth c C H locs cells slots ls h1 h2 h3 h4 h5 h6)
theorem wf_iload {j : Nat} {x : Int32} (hd : decode M.2.1 pc = .ok (.iload j, 2)) (hl : wf_get L j = some (.int x)) (k : Wf l E n0 M d mc ms Q bk bn (pc + 2) L (.int x :: st) nx t r i g) : Wf l E n0 M d mc ms Q bk bn pc L st nx t r i g :=
  fun p e s m args below meth c C H locs cells slots ls h1 h2 h3 h4 h5 h6 => lv_iload C.1 C.2.1 hd (wf_get_at h6 hl) (k p e s m args below meth c C H locs cells slots ls h1 h2 h3 h4 h5 h6)
theorem wf_iload_n {j : Fin 4} {x : Int32} (hd : decode M.2.1 pc = .ok (.iload_n j, 1)) (hl : wf_get L (j : Nat) = some (.int x)) (k : Wf l E n0 M d mc ms Q bk bn (pc + 1) L (.int x :: st) nx t r i g) : Wf l E n0 M d mc ms Q bk bn pc L st nx t r i g :=
  fun p e s m args below meth c C H locs cells slots ls h1 h2 h3 h4 h5 h6 => lv_iload_n C.1 C.2.1 hd rfl (wf_get_at h6 hl) (k p e s m args below meth c C H locs cells slots ls h1 h2 h3 h4 h5 h6)
theorem wf_lload {j : Nat} {x : Int64} (hd : decode M.2.1 pc = .ok (.lload j, 2)) (hl : wf_get L j = some (.long x)) (k : Wf l E n0 M d mc ms Q bk bn (pc + 2) L (.long x :: st) nx t r i g) : Wf l E n0 M d mc ms Q bk bn pc L st nx t r i g :=
  fun p e s m args below meth c C H locs cells slots ls h1 h2 h3 h4 h5 h6 => lv_lload C.1 C.2.1 hd (wf_get_at h6 hl) (k p e s m args below meth c C H locs cells slots ls h1 h2 h3 h4 h5 h6)
theorem wf_lload_n {j : Fin 4} {x : Int64} (hd : decode M.2.1 pc = .ok (.lload_n j, 1)) (hl : wf_get L (j : Nat) = some (.long x)) (k : Wf l E n0 M d mc ms Q bk bn (pc + 1) L (.long x :: st) nx t r i g) : Wf l E n0 M d mc ms Q bk bn pc L st nx t r i g :=
  fun p e s m args below meth c C H locs cells slots ls h1 h2 h3 h4 h5 h6 => lv_lload_n C.1 C.2.1 hd rfl (wf_get_at h6 hl) (k p e s m args below meth c C H locs cells slots ls h1 h2 h3 h4 h5 h6)
theorem wf_aload {j : Nat} {x : Nat} (hd : decode M.2.1 pc = .ok (.aload j, 2)) (hl : wf_get L j = some (.ref x)) (k : Wf l E n0 M d mc ms Q bk bn (pc + 2) L (.ref x :: st) nx t r i g) : Wf l E n0 M d mc ms Q bk bn pc L st nx t r i g :=
  fun p e s m args below meth c C H locs cells slots ls h1 h2 h3 h4 h5 h6 => lv_aload C.1 C.2.1 hd (wf_get_at h6 hl) (k p e s m args below meth c C H locs cells slots ls h1 h2 h3 h4 h5 h6)
theorem wf_aload_n {j : Fin 4} {x : Nat} (hd : decode M.2.1 pc = .ok (.aload_n j, 1)) (hl : wf_get L (j : Nat) = some (.ref x)) (k : Wf l E n0 M d mc ms Q bk bn (pc + 1) L (.ref x :: st) nx t r i g) : Wf l E n0 M d mc ms Q bk bn pc L st nx t r i g :=
  fun p e s m args below meth c C H locs cells slots ls h1 h2 h3 h4 h5 h6 => lv_aload_n C.1 C.2.1 hd rfl (wf_get_at h6 hl) (k p e s m args below meth c C H locs cells slots ls h1 h2 h3 h4 h5 h6)
theorem wf_istore {j : Nat} {x : Int32} (hd : decode M.2.1 pc = .ok (.istore j, 2)) (hn : j < M.2.2.1) (k : Wf l E n0 M d mc ms Q bk bn (pc + 2) ((j, .int x) :: wf_d1 L j) st nx t r i g) : Wf l E n0 M d mc ms Q bk bn pc L (.int x :: st) nx t r i g :=
  fun p e s m args below meth c C H locs cells slots ls h1 h2 h3 h4 h5 h6 => lv_istore C.1 C.2.1 hd h6 hn rfl (fun ls' h6' => k p e s m args below meth c C H locs cells slots ls' h1 h2 h3 h4 h5 (wf_d1_has h6'))
theorem wf_istore_n {j : Fin 4} {x : Int32} (hd : decode M.2.1 pc = .ok (.istore_n j, 1)) (hn : (j : Nat) < M.2.2.1) (k : Wf l E n0 M d mc ms Q bk bn (pc + 1) (((j : Nat), .int x) :: wf_d1 L (j : Nat)) st nx t r i g) : Wf l E n0 M d mc ms Q bk bn pc L (.int x :: st) nx t r i g :=
  fun p e s m args below meth c C H locs cells slots ls h1 h2 h3 h4 h5 h6 => lv_istore_n C.1 C.2.1 hd rfl h6 hn rfl (fun ls' h6' => k p e s m args below meth c C H locs cells slots ls' h1 h2 h3 h4 h5 (wf_d1_has h6'))
theorem wf_astore {j : Nat} {x : Nat} (hd : decode M.2.1 pc = .ok (.astore j, 2)) (hn : j < M.2.2.1) (k : Wf l E n0 M d mc ms Q bk bn (pc + 2) ((j, .ref x) :: wf_d1 L j) st nx t r i g) : Wf l E n0 M d mc ms Q bk bn pc L (.ref x :: st) nx t r i g :=
  fun p e s m args below meth c C H locs cells slots ls h1 h2 h3 h4 h5 h6 => lv_astore C.1 C.2.1 hd h6 hn rfl (fun ls' h6' => k p e s m args below meth c C H locs cells slots ls' h1 h2 h3 h4 h5 (wf_d1_has h6'))
theorem wf_astore_n {j : Fin 4} {x : Nat} (hd : decode M.2.1 pc = .ok (.astore_n j, 1)) (hn : (j : Nat) < M.2.2.1) (k : Wf l E n0 M d mc ms Q bk bn (pc + 1) (((j : Nat), .ref x) :: wf_d1 L (j : Nat)) st nx t r i g) : Wf l E n0 M d mc ms Q bk bn pc L (.ref x :: st) nx t r i g :=
  fun p e s m args below meth c C H locs cells slots ls h1 h2 h3 h4 h5 h6 => lv_astore_n C.1 C.2.1 hd rfl h6 hn rfl (fun ls' h6' => k p e s m args below meth c C H locs cells slots ls' h1 h2 h3 h4 h5 (wf_d1_has h6'))
theorem wf_lstore {j : Nat} {x : Int64} (hd : decode M.2.1 pc = .ok (.lstore j, 2)) (hn : j + 1 < M.2.2.1) (k : Wf l E n0 M d mc ms Q bk bn (pc + 2) ((j, .long x) :: wf_d2 L j) st nx t r i g) : Wf l E n0 M d mc ms Q bk bn pc L (.long x :: st) nx t r i g :=
  fun p e s m args below meth c C H locs cells slots ls h1 h2 h3 h4 h5 h6 => lv_lstore C.1 C.2.1 hd h6 hn rfl (fun ls' h6' => k p e s m args below meth c C H locs cells slots ls' h1 h2 h3 h4 h5 (wf_d2_has h6'))
theorem wf_lstore_n {j : Fin 4} {x : Int64} (hd : decode M.2.1 pc = .ok (.lstore_n j, 1)) (hn : (j : Nat) + 1 < M.2.2.1) (k : Wf l E n0 M d mc ms Q bk bn (pc + 1) (((j : Nat), .long x) :: wf_d2 L (j : Nat)) st nx t r i g) : Wf l E n0 M d mc ms Q bk bn pc L (.long x :: st) nx t r i g :=
  fun p e s m args below meth c C H locs cells slots ls h1 h2 h3 h4 h5 h6 => lv_lstore_n C.1 C.2.1 hd rfl h6 hn rfl (fun ls' h6' => k p e s m args below meth c C H locs cells slots ls' h1 h2 h3 h4 h5 (wf_d2_has h6'))
theorem wf_iinc {j : Nat} {n : Int} {x : Int32} (v : Int32) (hd : decode M.2.1 pc = .ok (.iinc j n, 3)) (hl : wf_get L j = some (.int x)) (hv : x + Int32.ofInt n = v) (hn : j < M.2.2.1) (k : Wf l E n0 M d mc ms Q bk bn (pc + 3) ((j, .int v) :: wf_d1 L j) st nx t r i g) : Wf l E n0 M d mc ms Q bk bn pc L st nx t r i g :=
  fun p e s m args below meth c C H locs cells slots ls h1 h2 h3 h4 h5 h6 => by
    obtain ⟨q, hq⟩ := wf_get_ix hl
    exact lv_iinc (k := q) C.1 C.2.1 hd h6 hq hv hn rfl (fun ls' h6' => k p e s m args below meth c C H locs cells slots ls' h1 h2 h3 h4 h5 (wf_d1_has h6'))
theorem wf_if_eq {x : Int32} {off : Int} (tgt : Nat) (hd : decode M.2.1 pc = .ok (.ifCond .eq off, 3)) (ht : (pc : Int) + off = (tgt : Int)) (kt : x = 0 → Wf l E n0 M d mc ms Q bk bn tgt L st nx t r i g) (kf : ¬ x = 0 → Wf l E n0 M d mc ms Q bk bn (pc + 3) L st nx t r i g) : Wf l E n0 M d mc ms Q bk bn pc L (.int x :: st) nx t r i g :=
  fun p e s m args below meth c C H locs cells slots ls h1 h2 h3 h4 h5 h6 => lv_if_eq C.1 C.2.1 hd ht (fun q => kt q p e s m args below meth c C H locs cells slots ls h1 h2 h3 h4 h5 h6) (fun q => kf q p e s m args below meth c C H locs cells slots ls h1 h2 h3 h4 h5 h6)
theorem wf_icmp_eq {x y : Int32} {off : Int} (tgt : Nat) (hd : decode M.2.1 pc = .ok (.if_icmp .eq off, 3)) (ht : (pc : Int) + off = (tgt : Int)) (kt : x = y → Wf l E n0 M d mc ms Q bk bn tgt L st nx t r i g) (kf : ¬ x = y → Wf l E n0 M d mc ms Q bk bn (pc + 3) L st nx t r i g) : Wf l E n0 M d mc ms Q bk bn pc L (.int y :: .int x :: st) nx t r i g :=
  fun p e s m args below meth c C H locs cells slots ls h1 h2 h3 h4 h5 h6 => lv_icmp_eq C.1 C.2.1 hd ht (fun q => kt q p e s m args below meth c C H locs cells slots ls h1 h2 h3 h4 h5 h6) (fun q => kf q p e s m args below meth c C H locs cells slots ls h1 h2 h3 h4 h5 h6)
theorem wf_if_ne {x : Int32} {off : Int} (tgt : Nat) (hd : decode M.2.1 pc = .ok (.ifCond .ne off, 3)) (ht : (pc : Int) + off = (tgt : Int)) (kt : ¬ x = 0 → Wf l E n0 M d mc ms Q bk bn tgt L st nx t r i g) (kf : x = 0 → Wf l E n0 M d mc ms Q bk bn (pc + 3) L st nx t r i g) : Wf l E n0 M d mc ms Q bk bn pc L (.int x :: st) nx t r i g :=
  fun p e s m args below meth c C H locs cells slots ls h1 h2 h3 h4 h5 h6 => lv_if_ne C.1 C.2.1 hd ht (fun q => kt q p e s m args below meth c C H locs cells slots ls h1 h2 h3 h4 h5 h6) (fun q => kf q p e s m args below meth c C H locs cells slots ls h1 h2 h3 h4 h5 h6)
theorem wf_icmp_ne {x y : Int32} {off : Int} (tgt : Nat) (hd : decode M.2.1 pc = .ok (.if_icmp .ne off, 3)) (ht : (pc : Int) + off = (tgt : Int)) (kt : ¬ x = y → Wf l E n0 M d mc ms Q bk bn tgt L st nx t r i g) (kf : x = y → Wf l E n0 M d mc ms Q bk bn (pc + 3) L st nx t r i g) : Wf l E n0 M d mc ms Q bk bn pc L (.int y :: .int x :: st) nx t r i g :=
  fun p e s m args below meth c C H locs cells slots ls h1 h2 h3 h4 h5 h6 => lv_icmp_ne C.1 C.2.1 hd ht (fun q => kt q p e s m args below meth c C H locs cells slots ls h1 h2 h3 h4 h5 h6) (fun q => kf q p e s m args below meth c C H locs cells slots ls h1 h2 h3 h4 h5 h6)
theorem wf_if_lt {x : Int32} {off : Int} (tgt : Nat) (hd : decode M.2.1 pc = .ok (.ifCond .lt off, 3)) (ht : (pc : Int) + off = (tgt : Int)) (kt : x < 0 → Wf l E n0 M d mc ms Q bk bn tgt L st nx t r i g) (kf : ¬ x < 0 → Wf l E n0 M d mc ms Q bk bn (pc + 3) L st nx t r i g) : Wf l E n0 M d mc ms Q bk bn pc L (.int x :: st) nx t r i g :=
  fun p e s m args below meth c C H locs cells slots ls h1 h2 h3 h4 h5 h6 => lv_if_lt C.1 C.2.1 hd ht (fun q => kt q p e s m args below meth c C H locs cells slots ls h1 h2 h3 h4 h5 h6) (fun q => kf q p e s m args below meth c C H locs cells slots ls h1 h2 h3 h4 h5 h6)
theorem wf_icmp_lt {x y : Int32} {off : Int} (tgt : Nat) (hd : decode M.2.1 pc = .ok (.if_icmp .lt off, 3)) (ht : (pc : Int) + off = (tgt : Int)) (kt : x < y → Wf l E n0 M d mc ms Q bk bn tgt L st nx t r i g) (kf : ¬ x < y → Wf l E n0 M d mc ms Q bk bn (pc + 3) L st nx t r i g) : Wf l E n0 M d mc ms Q bk bn pc L (.int y :: .int x :: st) nx t r i g :=
  fun p e s m args below meth c C H locs cells slots ls h1 h2 h3 h4 h5 h6 => lv_icmp_lt C.1 C.2.1 hd ht (fun q => kt q p e s m args below meth c C H locs cells slots ls h1 h2 h3 h4 h5 h6) (fun q => kf q p e s m args below meth c C H locs cells slots ls h1 h2 h3 h4 h5 h6)
theorem wf_if_ge {x : Int32} {off : Int} (tgt : Nat) (hd : decode M.2.1 pc = .ok (.ifCond .ge off, 3)) (ht : (pc : Int) + off = (tgt : Int)) (kt : 0 ≤ x → Wf l E n0 M d mc ms Q bk bn tgt L st nx t r i g) (kf : ¬ 0 ≤ x → Wf l E n0 M d mc ms Q bk bn (pc + 3) L st nx t r i g) : Wf l E n0 M d mc ms Q bk bn pc L (.int x :: st) nx t r i g :=
  fun p e s m args below meth c C H locs cells slots ls h1 h2 h3 h4 h5 h6 => lv_if_ge C.1 C.2.1 hd ht (fun q => kt q p e s m args below meth c C H locs cells slots ls h1 h2 h3 h4 h5 h6) (fun q => kf q p e s m args below meth c C H locs cells slots ls h1 h2 h3 h4 h5 h6)
theorem wf_icmp_ge {x y : Int32} {off : Int} (tgt : Nat) (hd : decode M.2.1 pc = .ok (.if_icmp .ge off, 3)) (ht : (pc : Int) + off = (tgt : Int)) (kt : y ≤ x → Wf l E n0 M d mc ms Q bk bn tgt L st nx t r i g) (kf : ¬ y ≤ x → Wf l E n0 M d mc ms Q bk bn (pc + 3) L st nx t r i g) : Wf l E n0 M d mc ms Q bk bn pc L (.int y :: .int x :: st) nx t r i g :=
  fun p e s m args below meth c C H locs cells slots ls h1 h2 h3 h4 h5 h6 => lv_icmp_ge C.1 C.2.1 hd ht (fun q => kt q p e s m args below meth c C H locs cells slots ls h1 h2 h3 h4 h5 h6) (fun q => kf q p e s m args below meth c C H locs cells slots ls h1 h2 h3 h4 h5 h6)
theorem wf_if_gt {x : Int32} {off : Int} (tgt : Nat) (hd : decode M.2.1 pc = .ok (.ifCond .gt off, 3)) (ht : (pc : Int) + off = (tgt : Int)) (kt : 0 < x → Wf l E n0 M d mc ms Q bk bn tgt L st nx t r i g) (kf : ¬ 0 < x → Wf l E n0 M d mc ms Q bk bn (pc + 3) L st nx t r i g) : Wf l E n0 M d mc ms Q bk bn pc L (.int x :: st) nx t r i g :=
  fun p e s m args below meth c C H locs cells slots ls h1 h2 h3 h4 h5 h6 => lv_if_gt C.1 C.2.1 hd ht (fun q => kt q p e s m args below meth c C H locs cells slots ls h1 h2 h3 h4 h5 h6) (fun q => kf q p e s m args below meth c C H locs cells slots ls h1 h2 h3 h4 h5 h6)
theorem wf_icmp_gt {x y : Int32} {off : Int} (tgt : Nat) (hd : decode M.2.1 pc = .ok (.if_icmp .gt off, 3)) (ht : (pc : Int) + off = (tgt : Int)) (kt : y < x → Wf l E n0 M d mc ms Q bk bn tgt L st nx t r i g) (kf : ¬ y < x → Wf l E n0 M d mc ms Q bk bn (pc + 3) L st nx t r i g) : Wf l E n0 M d mc ms Q bk bn pc L (.int y :: .int x :: st) nx t r i g :=
  fun p e s m args below meth c C H locs cells slots ls h1 h2 h3 h4 h5 h6 => lv_icmp_gt C.1 C.2.1 hd ht (fun q => kt q p e s m args below meth c C H locs cells slots ls h1 h2 h3 h4 h5 h6) (fun q => kf q p e s m args below meth c C H locs cells slots ls h1 h2 h3 h4 h5 h6)
theorem wf_if_le {x : Int32} {off : Int} (tgt : Nat) (hd : decode M.2.1 pc = .ok (.ifCond .le off, 3)) (ht : (pc : Int) + off = (tgt : Int)) (kt : x ≤ 0 → Wf l E n0 M d mc ms Q bk bn tgt L st nx t r i g) (kf : ¬ x ≤ 0 → Wf l E n0 M d mc ms Q bk bn (pc + 3) L st nx t r i g) : Wf l E n0 M d mc ms Q bk bn pc L (.int x :: st) nx t r i g :=
  fun p e s m args below meth c C H locs cells slots ls h1 h2 h3 h4 h5 h6 => lv_if_le C.1 C.2.1 hd ht (fun q => kt q p e s m args below meth c C H locs cells slots ls h1 h2 h3 h4 h5 h6) (fun q => kf q p e s m args below meth c C H locs cells slots ls h1 h2 h3 h4 h5 h6)
theorem wf_icmp_le {x y : Int32} {off : Int} (tgt : Nat) (hd : decode M.2.1 pc = .ok (.if_icmp .le off, 3)) (ht : (pc : Int) + off = (tgt : Int)) (kt : x ≤ y → Wf l E n0 M d mc ms Q bk bn tgt L st nx t r i g) (kf : ¬ x ≤ y → Wf l E n0 M d mc ms Q bk bn (pc + 3) L st nx t r i g) : Wf l E n0 M d mc ms Q bk bn pc L (.int y :: .int x :: st) nx t r i g :=
  fun p e s m args below meth c C H locs cells slots ls h1 h2 h3 h4 h5 h6 => lv_icmp_le C.1 C.2.1 hd ht (fun q => kt q p e s m args below meth c C H locs cells slots ls h1 h2 h3 h4 h5 h6) (fun q => kf q p e s m args below meth c C H locs cells slots ls h1 h2 h3 h4 h5 h6)
theorem wf_goto {off : Int} (tgt : Nat) (hd : decode M.2.1 pc = .ok (.goto off, 3)) (ht : (pc : Int) + off = (tgt : Int)) (k : Wf l E n0 M d mc ms Q bk bn tgt L st nx t r i g) : Wf l E n0 M d mc ms Q bk bn pc L st nx t r i g :=
  fun p e s m args below meth c C H locs cells slots ls h1 h2 h3 h4 h5 h6 => lv_goto C.1 C.2.1 hd ht (k p e s m args below meth c C H locs cells slots ls h1 h2 h3 h4 h5 h6)
theorem wf_lookup {dflt : Int} {ps : Array (Int × Int)} {len : Nat} {x : Int32} {off : Int} (tgt : Nat) (hd : decode M.2.1 pc = .ok (.lookupswitch dflt ps, len)) (hp : (ps.toList.zip (ps.toList.drop 1)).all (fun (a, next) => a.1 < next.1) = true) (ho : Op.lookupswitch.offset ps.toList dflt x.toInt = off) (ht : (pc : Int) + off = (tgt : Int)) (k : Wf l E n0 M d mc ms Q bk bn tgt L st nx t r i g) : Wf l E n0 M d mc ms Q bk bn pc L (.int x :: st) nx t r i g :=
  fun p e s m args below meth c C H locs cells slots ls h1 h2 h3 h4 h5 h6 => lv_lookup C.1 C.2.1 hd hp ho ht (k p e s m args below meth c C H locs cells slots ls h1 h2 h3 h4 h5 h6)
theorem wf_tableOut {dflt lo hi : Int} {offs : Array Int} {len : Nat} {x : Int32} (tgt : Nat) (hd : decode M.2.1 pc = .ok (.tableswitch dflt lo hi offs, len)) (h : x.toInt < lo ∨ hi < x.toInt) (ht : (pc : Int) + dflt = (tgt : Int)) (k : Wf l E n0 M d mc ms Q bk bn tgt L st nx t r i g) : Wf l E n0 M d mc ms Q bk bn pc L (.int x :: st) nx t r i g :=
  fun p e s m args below meth c C H locs cells slots ls h1 h2 h3 h4 h5 h6 => lv_tableOut C.1 C.2.1 hd h ht (k p e s m args below meth c C H locs cells slots ls h1 h2 h3 h4 h5 h6)
theorem wf_tableIn {dflt lo hi : Int} {offs : Array Int} {len : Nat} {x : Int32} {off : Int} (tgt : Nat) (hd : decode M.2.1 pc = .ok (.tableswitch dflt lo hi offs, len)) (a1 : ¬ x.toInt < lo) (a2 : ¬ hi < x.toInt) (ho : offs[(x.toInt - lo).toNat]? = some off) (ht : (pc : Int) + off = (tgt : Int)) (k : Wf l E n0 M d mc ms Q bk bn tgt L st nx t r i g) : Wf l E n0 M d mc ms Q bk bn pc L (.int x :: st) nx t r i g :=
  fun p e s m args below meth c C H locs cells slots ls h1 h2 h3 h4 h5 h6 => lv_tableIn C.1 C.2.1 hd a1 a2 ho ht (k p e s m args below meth c C H locs cells slots ls h1 h2 h3 h4 h5 h6)
theorem wf_ldc {index : Nat} (v : Int32) (hd : decode M.2.1 pc = .ok (.ldc index, 2)) (hc : Cond.constant M.1.cls index v ∈ wl_ALL) (k : Wf l E n0 M d mc ms Q bk bn (pc + 2) L (.int v :: st) nx t r i g) : Wf l E n0 M d mc ms Q bk bn pc L st nx t r i g :=
  fun p e s m args below meth c C H locs cells slots ls h1 h2 h3 h4 h5 h6 => lv_ldc C.1 C.2.1 C.2.2.2.2.1 (C.2.2.2.2.2.1 _ hc) hd (k p e s m args below meth c C H locs cells slots ls h1 h2 h3 h4 h5 h6)
theorem wf_ldc2 {index : Nat} (v : Int64) (hd : decode M.2.1 pc = .ok (.ldc2_w index, 3)) (hc : Cond.constantLong M.1.cls index v ∈ wl_ALL) (k : Wf l E n0 M d mc ms Q bk bn (pc + 3) L (.long v :: st) nx t r i g) : Wf l E n0 M d mc ms Q bk bn pc L st nx t r i g :=
  fun p e s m args below meth c C H locs cells slots ls h1 h2 h3 h4 h5 h6 => lv_ldc2 C.1 C.2.1 C.2.2.2.2.1 (C.2.2.2.2.2.1 _ hc) hd (k p e s m args below meth c C H locs cells slots ls h1 h2 h3 h4 h5 h6)
end WfRows
end
section
/-! rows that read and write cells, and make them -/
/-- pool entry idx of class own is field k of class c -/
def wf_fl (own : String) (idx c k : Nat) : Prop := ∃ q : vw_C, wl_CL[c]? = some q ∧ k < q.2.2 ∧ Cond.fieldLink own idx (q.2.1 k).1 (q.2.1 k).2.1 (q.2.1 k).2.2.1 ∈ wl_ALL
/-- field k of class c isn't final -/
def wf_nf (c k : Nat) : Prop := ∃ q : vw_C, wl_CL[c]? = some q ∧ (q.2.1 k).2.2.2 = false
/-- field k of class c is final, and declared by own -/
def wf_fi (own : String) (c k : Nat) : Prop := ∃ q : vw_C, wl_CL[c]? = some q ∧ (q.2.1 k).2.2.2 = true ∧ (q.2.1 k).1 = own
/-- no float, no double -/
def wf_dk : FieldType → Bool
  | .float => false
  | .double => false
  | _ => true
theorem wf_default {y : FieldType} {r : Wr} {i : Wi} {g : Wl} {a k : Nat} (hf : wf_dk y = true) (h : r a k = none ∧ i a k = 0 ∧ g a k = 0) : defaultValue y = wf_v y r i g a k := by
  obtain ⟨h1, h2, h3⟩ := h
  cases y <;> first | (simp [wf_v, wf_kd, h1, h2, h3, defaultValue, va_rf]; done) | (simp [wf_dk] at hf)
/-- pool entry idx of class own is class c, of N slots, which can be made -/
def wf_nw (own : String) (idx c N : Nat) : Prop := ∃ q : vw_C, wl_CL[c]? = some q ∧ q.2.2 = N ∧ Cond.classLink own idx q.1 ∈ wl_ALL ∧ Cond.instantiable q.1 N ∈ wl_ALL ∧ Cond.initialized q.1 ∈ wl_ALL ∧ ∀ k, k < N → wf_dk (wl_TY c k) = true
section WfHeap
variable {l : Launch} {E : We} {n0 : Nat} {M : Wm} {d mc ms : Nat} {Q : Wq} {bk bn pc : Nat} {L : List (Nat × Value)} {st : List Value} {nx : Nat} {t : Wt} {r : Wr} {i : Wi} {g : Wl}
theorem wf_getv {idx c k a : Nat} {v : Value} (hd : decode M.2.1 pc = .ok (.getfield idx, 3)) (hf : wf_fl M.1.cls idx c k) (ht : t a = some (.inl c)) (hv : wf_v (wl_TY c k) r i g a k = v) (kk : Wf l E n0 M d mc ms Q bk bn (pc + 3) L (v :: st) nx t r i g) : Wf l E n0 M d mc ms Q bk bn pc L (.ref a :: st) nx t r i g := by
  intro p e s m args below meth cd C H locs cells slots ls h1 h2 h3 h4 h5 h6
  obtain ⟨q, hq, hk, hl⟩ := hf
  obtain ⟨q', hq', cell, q1, q2, q3, q4⟩ := (h3.2.2.1 a).o ht
  obtain rfl : q' = q := Option.some.inj (hq'.symm.trans hq)
  obtain ⟨hin, hty, hnm⟩ := wl_ok c _ hq
  obtain ⟨hS, hfc, kC, hkC, hkind⟩ := C.2.2.2.2.2.2.2.2.1.1 c _ hq
  obtain ⟨cf, kf, fi, f, hi, hsl⟩ := hS k hk
  refine W.getf C.1 C.2.1 C.2.2.2.2.1 (C.2.2.2.2.2.1 _ hl) hi (u_facts hfc hkC (u_lays C.2.2.2.2.2.1 hin hk) hi).1 q1 (by rw [q3]; exact fun h => by cases h) (v := v) ?_ rfl rfl hd (kk p e s m args below meth cd C H locs cells slots ls h1 h2 h3 h4 h5 h6)
  rw [hsl, q4 k hk]
  exact congrArg some hv
theorem wf_geti {idx c k a : Nat} (hd : decode M.2.1 pc = .ok (.getfield idx, 3)) (hf : wf_fl M.1.cls idx c k) (hy : wf_kd (wl_TY c k) = 0) (ht : t a = some (.inl c)) (kk : Wf l E n0 M d mc ms Q bk bn (pc + 3) L (.int (i a k) :: st) nx t r i g) : Wf l E n0 M d mc ms Q bk bn pc L (.ref a :: st) nx t r i g := wf_getv hd hf ht (wf_v_i hy) kk
theorem wf_getl {idx c k a : Nat} (hd : decode M.2.1 pc = .ok (.getfield idx, 3)) (hf : wf_fl M.1.cls idx c k) (hy : wf_kd (wl_TY c k) = 1) (ht : t a = some (.inl c)) (kk : Wf l E n0 M d mc ms Q bk bn (pc + 3) L (.long (g a k) :: st) nx t r i g) : Wf l E n0 M d mc ms Q bk bn pc L (.ref a :: st) nx t r i g := wf_getv hd hf ht (wf_v_l hy) kk
theorem wf_getr {idx c k a b : Nat} (hd : decode M.2.1 pc = .ok (.getfield idx, 3)) (hf : wf_fl M.1.cls idx c k) (hy : wf_kd (wl_TY c k) = 2) (ht : t a = some (.inl c)) (hr : r a k = some b) (kk : Wf l E n0 M d mc ms Q bk bn (pc + 3) L (.ref b :: st) nx t r i g) : Wf l E n0 M d mc ms Q bk bn pc L (.ref a :: st) nx t r i g := wf_getv hd hf ht ((wf_v_r hy).trans (by rw [hr]; rfl)) kk
/-- a field is written: the maps behind it are r', i', g' -/
theorem wf_putv {idx c k a : Nat} {v : Value} {r' : Wr} {i' : Wi} {g' : Wl} (hd : decode M.2.1 pc = .ok (.putfield idx, 3)) (hf : wf_fl M.1.cls idx c k) (hw : wf_nf c k ∨ (wf_fi M.1.cls c k ∧ M.1.name = "<init>")) (ht : t a = some (.inl c)) (hn : narrow (wl_TY c k) v = v) (hfit : fits (wl_TY c k) v = true)
    (hv : wf_v (wl_TY c k) r' i' g' a k = v) (ho : ∀ b j, (b ≠ a ∨ j ≠ k) → r' b j = r b j ∧ i' b j = i b j ∧ g' b j = g b j) (kk : Wf l E n0 M d mc ms Q bk bn (pc + 3) L st nx t r' i' g') : Wf l E n0 M d mc ms Q bk bn pc L (v :: .ref a :: st) nx t r i g := by
  intro p e s m args below meth cd C H locs cells slots ls h1 h2 h3 h4 h5 h6
  obtain ⟨q, hq, hk, hl⟩ := hf
  obtain ⟨q', hq', cell, q1, q2, q3, q4⟩ := (h3.2.2.1 a).o ht
  obtain rfl : q' = q := Option.some.inj (hq'.symm.trans hq)
  obtain ⟨hin, hty, hnm⟩ := wl_ok c _ hq
  have hKv : va_K (E.1, E.2.1) wl_CL [] s := ⟨C.2.2.2.2.2.2.2.2.1.1, fun k z hz => by cases hz⟩
  have hap := va_apart (own := M.1.cls) (D := (E.1, E.2.1)) (cl := wl_CL) (tys := []) C.2.2.2.2.2.1 hin (wl_TY c) hty hnm hKv hq
  obtain ⟨hS, hfc, kC, hkC, hkind⟩ := C.2.2.2.2.2.2.2.2.1.1 c _ hq
  obtain ⟨cf, kf, fi, f, hi, hsl⟩ := hS k hk
  have hst := (u_facts hfc hkC (u_lays C.2.2.2.2.2.1 hin hk) hi).1
  have hlt : f.slot < cell.slots.size := by rw [hsl]; exact k2_hasslot (q4 k hk)
  have hn0 : n0 ≤ a := (h3.2.2.2.1 a _ ht).resolve_right (fun ⟨n, z⟩ => by cases z)
  have hend : ∀ H' : Heap, H'[a]? = some (cell.setSlot f.slot v) → H'.size = H.size → (∀ q, q ≠ a → H'[q]? = H[q]?) → W p l e (wf_rm d mc ms) s m args below meth cd H' (locs ++ [⟨a, f.slot⟩]) cells slots (wf_Z E n0 mc ms Q below args s) { F0 m pc ls (v :: .ref a :: st) with pc := pc + 3, stack := st } := by
    intro H' e1 e2 e3
    rw [hsl] at e1
    refine kk p e s m args below meth cd C H' _ cells slots ls h1 h2 (h3.put e2 e3 ht (wf_A.io ht ⟨_, hq, t_OB.to (V := updV (fun k => wf_v (wl_TY c k) r i g a k) k v) ⟨_, e1, q2, q3, t_set q4 hap hk v⟩ (fun j _ => ?_)⟩) (fun b hb j => ho b j (Or.inl hb))) (fun x hx => (e3 x (Nat.ne_of_lt (Nat.lt_of_lt_of_le hx hn0))).trans (h4 x hx)) (fun x hx => ?_) h6
    · by_cases hj : j = k
      · subst hj
        simp only [updV, if_pos]
        exact hv.symm
      · simp only [updV, if_neg hj]
        exact (wf_v_c (ho a j (Or.inr hj)).1 (ho a j (Or.inr hj)).2.1 (ho a j (Or.inr hj)).2.2).symm
    · rcases List.mem_append.mp hx with hx | hx
      · exact h5 x hx
      · rw [List.mem_singleton.mp hx]; exact hn0
  have hlay := C.2.2.2.2.2.1 _ (hin _ (u_in_lay hk))
  rcases hw with ⟨q2', hq2, hfin⟩ | ⟨⟨q2', hq2, hfin, hdecl⟩, hin2⟩
  · obtain rfl := Option.some.inj (hq2.symm.trans hq)
    unfold u_lay at hlay
    rw [if_neg (by rw [hfin]; decide)] at hlay
    have h6' := u_store hfc hkC hkind hlay hi (hty k hk) hn hfit
    exact W.putK C.1 C.2.1 (f := f) ⟨C.2.2.2.2.1, C.2.2.2.2.2.1 _ hl, ⟨_, _, _, hi⟩, hst⟩ (by rw [q2]; exact h6') q1 q3 hlt rfl rfl hd hend
  · obtain rfl := Option.some.inj (hq2.symm.trans hq)
    unfold u_lay at hlay
    rw [if_pos hfin] at hlay
    have hcf : m.cls = cf := by
      obtain ⟨_, _, c', _, _, _, -, -, hf', -, -, -, hown2, -⟩ := Cond.laysFinal_spec hlay
      have e1 : c' = cf := by have := hi.symm.trans hf'; simp at this; exact this.1.symm
      rw [hdecl] at hown2
      rw [← e1]; exact Option.some.inj (C.2.2.2.2.1.symm.trans hown2)
    have h6' := u_fits hfc hkC hkind (Or.inr hlay) hi (hty k hk) hn hfit
    exact W.putFinK C.1 C.2.1 C.2.2.2.2.1 (C.2.2.2.2.2.1 _ hl) hi hst hcf (C.2.2.2.2.2.2.2.1.1.trans hin2) (by rw [q2]; exact h6') q1 q3 hlt rfl rfl hd hend
theorem wf_up_o {α : Type} {f : Nat → Nat → α} {a k : Nat} {v : α} {b j : Nat} (h : b ≠ a ∨ j ≠ k) : wf_up f a k v b j = f b j := h.elim wf_up_a wf_up_k
theorem wf_puti {idx c k a : Nat} {x : Int32} (hd : decode M.2.1 pc = .ok (.putfield idx, 3)) (hf : wf_fl M.1.cls idx c k) (hw : wf_nf c k ∨ (wf_fi M.1.cls c k ∧ M.1.name = "<init>")) (hy : wf_kd (wl_TY c k) = 0) (hn : narrow (wl_TY c k) (.int x) = .int x) (hfit : fits (wl_TY c k) (.int x) = true) (ht : t a = some (.inl c)) (kk : Wf l E n0 M d mc ms Q bk bn (pc + 3) L st nx t r (wf_up i a k x) g) : Wf l E n0 M d mc ms Q bk bn pc L (.int x :: .ref a :: st) nx t r i g :=
  wf_putv hd hf hw ht hn hfit ((wf_v_i hy).trans (by rw [wf_up_s])) (fun b j h => ⟨rfl, wf_up_o h, rfl⟩) kk
theorem wf_putl {idx c k a : Nat} {x : Int64} (hd : decode M.2.1 pc = .ok (.putfield idx, 3)) (hf : wf_fl M.1.cls idx c k) (hw : wf_nf c k ∨ (wf_fi M.1.cls c k ∧ M.1.name = "<init>")) (hy : wf_kd (wl_TY c k) = 1) (hn : narrow (wl_TY c k) (.long x) = .long x) (hfit : fits (wl_TY c k) (.long x) = true) (ht : t a = some (.inl c)) (kk : Wf l E n0 M d mc ms Q bk bn (pc + 3) L st nx t r i (wf_up g a k x)) : Wf l E n0 M d mc ms Q bk bn pc L (.long x :: .ref a :: st) nx t r i g :=
  wf_putv hd hf hw ht hn hfit ((wf_v_l hy).trans (by rw [wf_up_s])) (fun b j h => ⟨rfl, rfl, wf_up_o h⟩) kk
theorem wf_putr {idx c k a x : Nat} (hd : decode M.2.1 pc = .ok (.putfield idx, 3)) (hf : wf_fl M.1.cls idx c k) (hw : wf_nf c k ∨ (wf_fi M.1.cls c k ∧ M.1.name = "<init>")) (hy : wf_kd (wl_TY c k) = 2) (hn : narrow (wl_TY c k) (.ref x) = .ref x) (hfit : fits (wl_TY c k) (.ref x) = true) (ht : t a = some (.inl c)) (kk : Wf l E n0 M d mc ms Q bk bn (pc + 3) L st nx t (wf_up r a k (some x)) i g) : Wf l E n0 M d mc ms Q bk bn pc L (.ref x :: .ref a :: st) nx t r i g :=
  wf_putv hd hf hw ht hn hfit ((wf_v_r hy).trans (by rw [wf_up_s]; rfl)) (fun b j h => ⟨wf_up_o h, rfl, rfl⟩) kk
/-! arrays -/
theorem wf_iaload {a y n : Nat} {j : Int32} (hd : decode M.2.1 pc = .ok (.iaload, 1)) (hy : wl_AT y = .int) (ht : t a = some (.inr (y, n))) (hin : vp_in j n) (kk : Wf l E n0 M d mc ms Q bk bn (pc + 1) L (.int (i a j.toNatClampNeg) :: st) nx t r i g) : Wf l E n0 M d mc ms Q bk bn pc L (.int j :: .ref a :: st) nx t r i g := by
  intro p e s m args below meth cd C H locs cells slots ls h1 h2 h3 h4 h5 h6
  obtain ⟨hyN, ce, hc, hce⟩ := (h3.2.2.1 a).w ht
  obtain ⟨c1, c2, c3, c4⟩ := hce.r
  have hlt : j.toNatClampNeg < n := Nat.not_le.mp fun q => hin (Or.inr q)
  have harr : s.isArrayOf ce (wl_AT y) := ⟨c3, by rw [c1]; exact ((C.2.2.2.2.2.2.2.2.1.2.1 y hyN).1 n (fun j => wf_v (wl_AT y) r i g a j)).2⟩
  rw [hy] at harr c4
  exact W.iald (v := .int (i a j.toNatClampNeg)) C.1 C.2.1 hc harr c2 (by rw [c4, arrV_size]; exact hin) (by rw [c4, arrV_read _ _ hlt]; rfl) rfl rfl hd (kk p e s m args below meth cd C H locs cells slots ls h1 h2 h3 h4 h5 h6)
theorem wf_zaload {a y n : Nat} {j : Int32} (hd : decode M.2.1 pc = .ok (.baload, 1)) (hy : wl_AT y = .boolean) (ht : t a = some (.inr (y, n))) (hin : vp_in j n) (kk : Wf l E n0 M d mc ms Q bk bn (pc + 1) L (.int (i a j.toNatClampNeg) :: st) nx t r i g) : Wf l E n0 M d mc ms Q bk bn pc L (.int j :: .ref a :: st) nx t r i g := by
  intro p e s m args below meth cd C H locs cells slots ls h1 h2 h3 h4 h5 h6
  obtain ⟨hyN, ce, hc, hce⟩ := (h3.2.2.1 a).w ht
  obtain ⟨c1, c2, c3, c4⟩ := hce.r
  have hlt : j.toNatClampNeg < n := Nat.not_le.mp fun q => hin (Or.inr q)
  have harr : s.isArrayOf ce (wl_AT y) := ⟨c3, by rw [c1]; exact ((C.2.2.2.2.2.2.2.2.1.2.1 y hyN).1 n (fun j => wf_v (wl_AT y) r i g a j)).2⟩
  rw [hy] at harr c4
  exact W.zald (v := .int (i a j.toNatClampNeg)) C.1 C.2.1 hc harr c2 (by rw [c4, arrV_size]; exact hin) (by rw [c4, arrV_read _ _ hlt]; rfl) rfl rfl hd (kk p e s m args below meth cd C H locs cells slots ls h1 h2 h3 h4 h5 h6)
theorem wf_laload {a y n : Nat} {j : Int32} (hd : decode M.2.1 pc = .ok (.laload, 1)) (hy : wl_AT y = .long) (ht : t a = some (.inr (y, n))) (hin : vp_in j n) (kk : Wf l E n0 M d mc ms Q bk bn (pc + 1) L (.long (g a j.toNatClampNeg) :: st) nx t r i g) : Wf l E n0 M d mc ms Q bk bn pc L (.int j :: .ref a :: st) nx t r i g := by
  intro p e s m args below meth cd C H locs cells slots ls h1 h2 h3 h4 h5 h6
  obtain ⟨hyN, ce, hc, hce⟩ := (h3.2.2.1 a).w ht
  obtain ⟨c1, c2, c3, c4⟩ := hce.r
  have hlt : j.toNatClampNeg < n := Nat.not_le.mp fun q => hin (Or.inr q)
  have harr : s.isArrayOf ce (wl_AT y) := ⟨c3, by rw [c1]; exact ((C.2.2.2.2.2.2.2.2.1.2.1 y hyN).1 n (fun j => wf_v (wl_AT y) r i g a j)).2⟩
  rw [hy] at harr c4
  exact W.lald (v := .long (g a j.toNatClampNeg)) C.1 C.2.1 hc harr c2 (by rw [c4, arrV_size]; exact hin) (by rw [c4, arrV_read _ _ hlt]; rfl) rfl rfl hd (kk p e s m args below meth cd C H locs cells slots ls h1 h2 h3 h4 h5 h6)
theorem wf_aaload {a y n b : Nat} {j : Int32} (hd : decode M.2.1 pc = .ok (.aaload, 1)) (hy : (wl_AT y).isReference = true) (hk : wf_kd (wl_AT y) = 2) (ht : t a = some (.inr (y, n))) (hin : vp_in j n) (hr : r a j.toNatClampNeg = some b) (kk : Wf l E n0 M d mc ms Q bk bn (pc + 1) L (.ref b :: st) nx t r i g) : Wf l E n0 M d mc ms Q bk bn pc L (.int j :: .ref a :: st) nx t r i g := by
  intro p e s m args below meth cd C H locs cells slots ls h1 h2 h3 h4 h5 h6
  obtain ⟨hyN, ce, hc, hce⟩ := (h3.2.2.1 a).w ht
  obtain ⟨c1, c2, c3, c4⟩ := hce.r
  have hlt : j.toNatClampNeg < n := Nat.not_le.mp fun q => hin (Or.inr q)
  have harr : s.isArrayOf ce (wl_AT y) := ⟨c3, by rw [c1]; exact ((C.2.2.2.2.2.2.2.2.1.2.1 y hyN).1 n (fun j => wf_v (wl_AT y) r i g a j)).2⟩
  exact W.aald (v := .ref b) (ty := wl_AT y) C.1 C.2.1 hc harr hy c2 (by rw [c4, arrV_size]; exact hin) (by rw [c4, arrV_read _ _ hlt, wf_v_r hk, hr]; rfl) rfl rfl hd (kk p e s m args below meth cd C H locs cells slots ls h1 h2 h3 h4 h5 h6)
theorem wf_alen {a y n : Nat} (hd : decode M.2.1 pc = .ok (.arraylength, 1)) (ht : t a = some (.inr (y, n))) (kk : Wf l E n0 M d mc ms Q bk bn (pc + 1) L (.int (nI n) :: st) nx t r i g) : Wf l E n0 M d mc ms Q bk bn pc L (.ref a :: st) nx t r i g := by
  intro p e s m args below meth cd C H locs cells slots ls h1 h2 h3 h4 h5 h6
  obtain ⟨hyN, ce, hc, hce⟩ := (h3.2.2.1 a).w ht
  obtain ⟨c1, c2, c3, c4⟩ := hce.r
  have harr : s.isArrayOf ce (wl_AT y) := ⟨c3, by rw [c1]; exact ((C.2.2.2.2.2.2.2.2.1.2.1 y hyN).1 n (fun j => wf_v (wl_AT y) r i g a j)).2⟩
  exact W.alen (n := nI n) C.1 C.2.1 hc harr (by rw [c4, arrV_size]; rfl) rfl rfl hd (kk p e s m args below meth cd C H locs cells slots ls h1 h2 h3 h4 h5 h6)
/-- behind a store into an array -/
theorem wf_stored {a y n j : Nat} {v : Value} {r' : Wr} {i' : Wi} {g' : Wl} {H H1 : Heap} (h3 : wf_R E n0 nx t r i g H) (hs : y ≠ wl_AS) (ht : t a = some (.inr (y, n))) (e1 : H1[a]? = some ((arrV (E.2.2 y) n (fun j => wf_v (wl_AT y) r i g a j)).setSlot j v)) (e2 : H1.size = H.size) (e3 : ∀ q, q ≠ a → H1[q]? = H[q]?)
    (hv : wf_v (wl_AT y) r' i' g' a j = v) (ho : ∀ b k, (b ≠ a ∨ k ≠ j) → r' b k = r b k ∧ i' b k = i b k ∧ g' b k = g b k) : wf_R E n0 nx t r' i' g' H1 := by
  refine h3.put e2 e3 ht (wf_A.ia hs ht ⟨((h3.2.2.1 a).a ht hs).1, ?_⟩) (fun b hb k => ho b k (Or.inl hb))
  rw [e1, arrV_store]
  congr 2
  funext k
  by_cases hk : k = j
  · subst hk
    simp only [updV, if_pos]
    exact hv.symm
  · simp only [updV, if_neg hk]
    exact (wf_v_c (ho a k (Or.inr hk)).1 (ho a k (Or.inr hk)).2.1 (ho a k (Or.inr hk)).2.2).symm
theorem wf_own {a y n : Nat} {H : Heap} (h3 : wf_R E n0 nx t r i g H) (ht : t a = some (.inr (y, n))) (hs : y ≠ wl_AS) : n0 ≤ a := (h3.2.2.2.1 a _ ht).resolve_right (fun ⟨m, z⟩ => hs (by cases z; rfl))
theorem wf_locs {locs : List Loc} {a k : Nat} (h : ∀ q ∈ locs, n0 ≤ q.base) (ha : n0 ≤ a) : ∀ q ∈ locs ++ [(⟨a, k⟩ : Loc)], n0 ≤ q.base := fun x hx => by
  rcases List.mem_append.mp hx with hx | hx
  · exact h x hx
  · rw [List.mem_singleton.mp hx]; exact ha
theorem wf_iastore {a y n : Nat} {j x : Int32} (hd : decode M.2.1 pc = .ok (.iastore, 1)) (hy : wl_AT y = .int) (hs : y ≠ wl_AS) (ht : t a = some (.inr (y, n))) (hin : vp_in j n) (kk : Wf l E n0 M d mc ms Q bk bn (pc + 1) L st nx t r (wf_up i a j.toNatClampNeg x) g) : Wf l E n0 M d mc ms Q bk bn pc L (.int x :: .int j :: .ref a :: st) nx t r i g := by
  intro p e s m args below meth cd C H locs cells slots ls h1 h2 h3 h4 h5 h6
  obtain ⟨hyN, hc⟩ := (h3.2.2.1 a).a ht hs
  have harr := (C.2.2.2.2.2.2.2.2.1.2.1 y hyN).1 n (fun j => wf_v (wl_AT y) r i g a j)
  rw [hy] at harr
  rw [← hy] at harr
  have hn0 := wf_own h3 ht hs
  exact W.iast C.1 C.2.1 hc (hy ▸ harr) (fun q => by cases q) (by rw [arrV_size]; exact hin) rfl rfl hd fun H1 e1 e2 e3 => kk p e s m args below meth cd C H1 _ cells slots ls h1 h2 (wf_stored h3 hs ht e1 e2 e3 ((wf_v_i (by rw [hy]; rfl)).trans (by rw [wf_up_s])) (fun b k h => ⟨rfl, wf_up_o h, rfl⟩)) (fun q hq => (e3 q (Nat.ne_of_lt (Nat.lt_of_lt_of_le hq hn0))).trans (h4 q hq)) (wf_locs h5 hn0) h6
theorem wf_zastore {a y n : Nat} {j x : Int32} (hd : decode M.2.1 pc = .ok (.bastore, 1)) (hy : wl_AT y = .boolean) (hs : y ≠ wl_AS) (hx : narrow .boolean (.int x) = .int x) (ht : t a = some (.inr (y, n))) (hin : vp_in j n) (kk : Wf l E n0 M d mc ms Q bk bn (pc + 1) L st nx t r (wf_up i a j.toNatClampNeg x) g) : Wf l E n0 M d mc ms Q bk bn pc L (.int x :: .int j :: .ref a :: st) nx t r i g := by
  intro p e s m args below meth cd C H locs cells slots ls h1 h2 h3 h4 h5 h6
  obtain ⟨hyN, hc⟩ := (h3.2.2.1 a).a ht hs
  have harr := (C.2.2.2.2.2.2.2.2.1.2.1 y hyN).1 n (fun j => wf_v (wl_AT y) r i g a j)
  have hn0 := wf_own h3 ht hs
  exact W.zast C.1 C.2.1 hc (hy ▸ harr) (fun q => by cases q) (by rw [arrV_size]; exact hin) rfl rfl hd fun H1 e1 e2 e3 => kk p e s m args below meth cd C H1 _ cells slots ls h1 h2 (wf_stored h3 hs ht e1 e2 e3 ((wf_v_i (by rw [hy]; rfl)).trans (by rw [wf_up_s, hx])) (fun b k h => ⟨rfl, wf_up_o h, rfl⟩)) (fun q hq => (e3 q (Nat.ne_of_lt (Nat.lt_of_lt_of_le hq hn0))).trans (h4 q hq)) (wf_locs h5 hn0) h6
theorem wf_lastore {a y n : Nat} {j : Int32} {x : Int64} (hd : decode M.2.1 pc = .ok (.lastore, 1)) (hy : wl_AT y = .long) (hs : y ≠ wl_AS) (ht : t a = some (.inr (y, n))) (hin : vp_in j n) (kk : Wf l E n0 M d mc ms Q bk bn (pc + 1) L st nx t r i (wf_up g a j.toNatClampNeg x)) : Wf l E n0 M d mc ms Q bk bn pc L (.long x :: .int j :: .ref a :: st) nx t r i g := by
  intro p e s m args below meth cd C H locs cells slots ls h1 h2 h3 h4 h5 h6
  obtain ⟨hyN, hc⟩ := (h3.2.2.1 a).a ht hs
  have harr := (C.2.2.2.2.2.2.2.2.1.2.1 y hyN).1 n (fun j => wf_v (wl_AT y) r i g a j)
  have hn0 := wf_own h3 ht hs
  exact W.last C.1 C.2.1 hc (hy ▸ harr) (fun q => by cases q) (by rw [arrV_size]; exact hin) rfl rfl hd fun H1 e1 e2 e3 => kk p e s m args below meth cd C H1 _ cells slots ls h1 h2 (wf_stored h3 hs ht e1 e2 e3 ((wf_v_l (by rw [hy]; rfl)).trans (by rw [wf_up_s])) (fun b k h => ⟨rfl, rfl, wf_up_o h⟩)) (fun q hq => (e3 q (Nat.ne_of_lt (Nat.lt_of_lt_of_le hq hn0))).trans (h4 q hq)) (wf_locs h5 hn0) h6
/-- an object of class c into an array of its class -/
theorem wf_aastore {a y n b c : Nat} {j : Int32} {C0 : String} (hd : decode M.2.1 pc = .ok (.aastore, 1)) (hy : wl_AT y = .object C0) (hc0 : ∃ q : vw_C, wl_CL[c]? = some q ∧ q.1 = C0) (hs : y ≠ wl_AS) (ht : t a = some (.inr (y, n))) (htb : t b = some (.inl c)) (hin : vp_in j n) (kk : Wf l E n0 M d mc ms Q bk bn (pc + 1) L st nx t (wf_up r a j.toNatClampNeg (some b)) i g) : Wf l E n0 M d mc ms Q bk bn pc L (.ref b :: .int j :: .ref a :: st) nx t r i g := by
  intro p e s m args below meth cd C H locs cells slots ls h1 h2 h3 h4 h5 h6
  obtain ⟨hyN, hc⟩ := (h3.2.2.1 a).a ht hs
  have hlt : j.toNatClampNeg < n := Nat.not_le.mp fun q => hin (Or.inr q)
  have h0 : ¬ j < 0 := fun q => hin (Or.inl q)
  obtain ⟨q, hq, rfl⟩ := hc0
  obtain ⟨q', hq', cellV, g1, g2, g3, -⟩ := (h3.2.2.1 b).o htb
  have hcls := (C.2.2.2.2.2.2.2.2.1.1 c _ hq).2
  have hRA := (C.2.2.2.2.2.2.2.2.1.2.1 y hyN).2 hs
  rw [hy] at hRA
  obtain ⟨kA, comp, k1, k2, k3, -⟩ := hRA
  have hcomp : comp = E.1 c := Option.some.inj (k3.symm.trans hcls.1)
  subst hcomp
  obtain ⟨kC, hkC, -⟩ := hcls.2
  have hn0 := wf_own h3 ht hs
  exact W.aast C.1 C.2.1 hc (fun q h => by cases h) (fun h => by cases h) k1 k2 rfl hkC ⟨h0, by rw [arrV_size]; exact hlt⟩ g1 (fun q h => by rw [g3] at h; cases h) (by rw [g2]; exact hkC) (by rw [g2]; exact va_assign hcls) rfl rfl hd fun H1 e1 e2 e3 => kk p e s m args below meth cd C H1 _ cells slots ls h1 h2 (wf_stored h3 hs ht e1 e2 e3 ((wf_v_r (by rw [hy]; rfl)).trans (by rw [wf_up_s]; rfl)) (fun b k h => ⟨wf_up_o h, rfl, rfl⟩)) (fun q hq => (e3 q (Nat.ne_of_lt (Nat.lt_of_lt_of_le hq hn0))).trans (h4 q hq)) (wf_locs h5 hn0) h6
/-! new cells -/
theorem wf_new {idx c N bk' bn' : Nat} (hd : decode M.2.1 pc = .ok (.new idx, 3)) (hc : wf_nw M.1.cls idx c N) (hk : bk' + 1 ≤ bk) (hn : bn' + N ≤ bn) (kk : t nx = none → (∀ k, r nx k = none ∧ i nx k = 0 ∧ g nx k = 0) → Wf l E n0 M d mc ms Q bk' bn' (pc + 3) L (.ref nx :: st) (nx + 1) (wf_up1 t nx (some (.inl c))) r i g) : Wf l E n0 M d mc ms Q bk bn pc L st nx t r i g := by
  intro p e s m args below meth cd C H locs cells slots ls h1 h2 h3 h4 h5 h6
  obtain ⟨q, hq, rfl, hcl, hins, hini, hdk⟩ := hc
  obtain ⟨hin, hty, hnm⟩ := wl_ok c _ hq
  have hKn := C.2.2.2.2.2.2.2.2.1.1 c _ hq
  obtain ⟨f1, f2⟩ := h3.2.2.2.2 nx (Nat.le_refl _)
  refine W.newcK C.1 C.2.1 C.2.2.2.2.1 (C.2.2.2.2.2.1 _ hcl) (C.2.2.2.2.2.1 _ hins) (C.2.2.2.2.2.1 _ hini) rfl hd (show cells + 1 ≤ mc by omega) (show slots + q.2.2 ≤ ms by omega) hKn.2.1 h3.1 fun H1 kC hkC e1 z1 o1 => ?_
  refine kk f1 f2 p e s m args below meth cd C H1 locs (cells + 1) (slots + q.2.2) ls (by omega) (by omega) (h3.new z1 o1 (wf_A.io wf_up1_s ⟨q, hq, (u_born (wl_TY c) C.2.2.2.2.2.1 hin hKn hkC e1 hty).to (fun k hk => wf_default (hdk k hk) (f2 k))⟩)) (fun x hx => (o1 x (Nat.lt_of_lt_of_le hx h3.2.1)).trans (h4 x hx)) h5 h6
theorem wf_newarr {y N bk' bn' : Nat} {at_ : ArrayType} {n : Int32} (hd : decode M.2.1 pc = .ok (.newarray at_, 2)) (hy : wl_AT y = newarray.typeOf at_) (hyS : y < wl_AS) (ha : Cond.arrayClass (newarray.typeOf at_) ∈ wl_ALL) (hra : ∀ U : State, va_RA U (E.2.2 y) (newarray.typeOf at_) → U.vm.findClass ("[" ++ (newarray.typeOf at_).toString) = some (E.2.2 y)) (hdk : wf_dk (wl_AT y) = true)
    (hn0 : ¬ n < 0) (hN : n.toNatClampNeg = N) (hbytes : N * componentBytes (newarray.typeOf at_) ≤ 536870912) (hk : bk' + 1 ≤ bk) (hn : bn' + N ≤ bn) (kk : t nx = none → (∀ k, r nx k = none ∧ i nx k = 0 ∧ g nx k = 0) → Wf l E n0 M d mc ms Q bk' bn' (pc + 2) L (.ref nx :: st) (nx + 1) (wf_up1 t nx (some (.inr (y, N)))) r i g) : Wf l E n0 M d mc ms Q bk bn pc L (.int n :: st) nx t r i g := by
  intro p e s m args below meth cd C H locs cells slots ls h1 h2 h3 h4 h5 h6
  obtain ⟨f1, f2⟩ := h3.2.2.2.2 nx (Nat.le_refl _)
  subst hN
  have hs : y ≠ wl_AS := Nat.ne_of_lt hyS
  have hyN : y < wl_AN := Nat.lt_succ_of_lt hyS
  refine W.newa C.1 C.2.1 (C.2.2.2.2.2.1 _ ha) rfl hd rfl hn0 hbytes (show cells + 1 ≤ mc by omega) (show slots + n.toNatClampNeg ≤ ms by omega) fun cA kA comp a1 a2 a3 => ?_
  have hcA : cA = E.2.2 y := Option.some.inj (a1.symm.trans (hra s (hy ▸ (C.2.2.2.2.2.2.2.2.1.2.1 y hyN).2 hs)))
  have hz := h3.1
  subst hz
  generalize hH1 : H.push ({ cls := cA, slots := Array.replicate n.toNatClampNeg (defaultValue (newarray.typeOf at_)), vm := .none } : Cell) = H1
  have z1 : H1.size = H.size + 1 := by rw [← hH1, Array.size_push]
  have e1 : H1[H.size]? = some (arrV cA n.toNatClampNeg (fun _ => defaultValue (newarray.typeOf at_))) := by rw [← hH1, Array.getElem?_push_size, ← arrV_new]
  have o1 : ∀ q : Nat, q < H.size → H1[q]? = H[q]? := fun q hq => by rw [← hH1, Array.getElem?_push, if_neg (Nat.ne_of_lt hq)]
  refine kk f1 f2 p e s m args below meth cd C H1 locs (cells + 1) (slots + n.toNatClampNeg) ls (by omega) (by omega) (h3.new z1 o1 (wf_A.ia hs wf_up1_s ⟨hyN, ?_⟩)) (fun x hx => (o1 x (Nat.lt_of_lt_of_le hx h3.2.1)).trans (h4 x hx)) h5 h6
  rw [e1, hcA]
  congr 2
  funext k
  rw [← hy]
  exact wf_default hdk (f2 k)
theorem wf_anew {idx y N bk' bn' : Nat} {C0 : String} {n : Int32} (hd : decode M.2.1 pc = .ok (.anewarray idx, 3)) (hy : wl_AT y = .object C0) (hyS : y < wl_AS) (hcl : Cond.classLink M.1.cls idx C0 ∈ wl_ALL) (hov : C0 ∈ wl_OV)
    (hn0 : ¬ n < 0) (hN : n.toNatClampNeg = N) (hbytes : N * 4 ≤ 536870912) (hk : bk' + 1 ≤ bk) (hn : bn' + N ≤ bn) (kk : t nx = none → (∀ k, r nx k = none ∧ i nx k = 0 ∧ g nx k = 0) → Wf l E n0 M d mc ms Q bk' bn' (pc + 3) L (.ref nx :: st) (nx + 1) (wf_up1 t nx (some (.inr (y, N)))) r i g) : Wf l E n0 M d mc ms Q bk bn pc L (.int n :: st) nx t r i g := by
  intro p e s m args below meth cd C H locs cells slots ls h1 h2 h3 h4 h5 h6
  obtain ⟨f1, f2⟩ := h3.2.2.2.2 nx (Nat.le_refl _)
  subst hN
  have hs : y ≠ wl_AS := Nat.ne_of_lt hyS
  have hyN : y < wl_AN := Nat.lt_succ_of_lt hyS
  refine W.anew C.1 C.2.1 C.2.2.2.2.1 (C.2.2.2.2.2.1 _ hcl) (va_AO.use (C.2.2.2.2.2.2.2.2.1.2.2 C0 hov)) rfl hd rfl hn0 hbytes (show cells + 1 ≤ mc by omega) (show slots + n.toNatClampNeg ≤ ms by omega) fun cA kA comp a1 a2 a3 a4 => ?_
  have hRA := (C.2.2.2.2.2.2.2.2.1.2.1 y hyN).2 hs
  rw [hy] at hRA
  obtain ⟨kA', comp', -, -, -, b4⟩ := hRA
  have hcA : cA = E.2.2 y := Option.some.inj (a1.symm.trans b4)
  have hz := h3.1
  subst hz
  generalize hH1 : H.push ({ cls := cA, slots := Array.replicate n.toNatClampNeg .null, vm := .none } : Cell) = H1
  have z1 : H1.size = H.size + 1 := by rw [← hH1, Array.size_push]
  have e1 : H1[H.size]? = some (arrV cA n.toNatClampNeg (fun _ => .null)) := by rw [← hH1, Array.getElem?_push_size, ← arrV_new]
  have o1 : ∀ q : Nat, q < H.size → H1[q]? = H[q]? := fun q hq => by rw [← hH1, Array.getElem?_push, if_neg (Nat.ne_of_lt hq)]
  refine kk f1 f2 p e s m args below meth cd C H1 locs (cells + 1) (slots + n.toNatClampNeg) ls (by omega) (by omega) (h3.new z1 o1 (wf_A.ia hs wf_up1_s ⟨hyN, ?_⟩)) (fun x hx => (o1 x (Nat.lt_of_lt_of_le hx h3.2.1)).trans (h4 x hx)) h5 h6
  rw [e1, hcA, hy]
  congr 2
  funext k
  exact wf_default (y := .object C0) rfl (f2 k)
theorem wf_objinit {idx a : Nat} (hd : decode M.2.1 pc = .ok (.invokespecial idx, 3)) (hl : Cond.methodLink M.1.cls idx Lib.objectInit ∈ wl_ALL) (hin : Cond.instanceMethod Lib.objectInit ∈ wl_ALL) (hco : Cond.code Lib.objectInit ⟨#[0xb1]⟩ 1 none ∈ wl_ALL) (hrm : (st.map fun v => v.category).sum ≤ 8) (kk : Wf l E n0 M (d + 1) mc ms Q bk bn (pc + 3) L st nx t r i g) : Wf l E n0 M (d + 1) mc ms Q bk bn pc L (.ref a :: st) nx t r i g := by
  intro p e s m args below meth cd C H locs cells slots ls h1 h2 h3 h4 h5 h6
  refine W.objInit C.1 C.2.1 C.2.2.2.2.1 (C.2.2.2.2.2.1 _ hl) (C.2.2.2.2.2.1 _ hin) (C.2.2.2.2.2.1 _ hco) rfl (h6.1.trans C.2.2.1.symm) rfl hd (show 1 ≤ d + 1 by omega) ?_ (kk p e s m args below meth cd C H locs cells slots ls h1 h2 h3 h4 h5 h6)
  show 2 * 0 + _ + 12 ≤ 40 * (d + 1)
  omega
/-! calls -/
/-- what a callee's words are: its code, its class initialised, its arity -/
def wf_tg (M' : Wm) (n : Nat) : Prop := Cond.code M'.1 M'.2.1 M'.2.2.1 M'.2.2.2 ∈ wl_ALL ∧ Cond.initialized M'.1.cls ∈ wl_ALL ∧ (M'.1.cls ≠ "java/lang/invoke/MethodHandle" ∧ M'.1.cls ≠ "java/lang/invoke/VarHandle") ∧ (parseMethodDescriptor M'.1.desc).map (fun d => d.parameters.length) = some n ∧ M'.2.2.1 ≤ 21
theorem wf_CallB {p : Program} {s : State} {m : MethodId} {args : Array Value} {meth : Method} {cd : Code} {M' : Wm} {idx n mc' ms' : Nat} (C : wf_C E n0 M p s m args meth cd) (hT : wf_tg M' n) (hl : Cond.methodLink M.1.cls idx M'.1 ∈ wl_ALL) : CallB (wf_rm (d + 1) mc ms) s args M.1.cls idx M'.1 M'.2.1 M'.2.2.1 M'.2.2.2 (wf_ws M') (wf_rm d mc' ms') mc' ms' n := by
  obtain ⟨t1, t2, t3, t4, t5⟩ := hT
  refine ⟨rfl, rfl, Nat.le_refl _, ?_, fun w hw a' U hW => ?_, List.mem_cons_self, C.2.2.2.2.2.1 _ t1, C.2.2.2.2.2.1 _ t2, t3, fun sig h => ?_, C.2.2.2.2.2.1 _ hl⟩
  · show 8 + (M'.2.2.1 + 11) + 40 * d ≤ 40 * (d + 1)
    omega
  · rcases List.mem_cons.mp hw with rfl | hw
    · exact word_at hW (wl_good _ t1) (C.2.2.2.2.2.1 _ t1)
    · exact word_at hW (wl_good _ hw) (C.2.2.2.2.2.1 _ hw)
  · rw [h] at t4
    exact (Option.some.inj t4).symm
theorem wf_blind {av : List Value} : FrameBlind (wf_P E n0 av nx t r i g) := fun a U f mk q => by
  obtain ⟨q0, qR, qK, qJ⟩ := q
  exact ⟨q0, qR, wf_K.moved (u := U) (U := U.calling f mk a) (Vm.Alike.refl U.vm) qK, wl_J_moved (u := U) (U := U.calling f mk a) (State.WarmedH.refl U) (fun _ _ => rfl) qJ⟩
theorem wf_called {p : Program} {e : Env} {s : State} {m : MethodId} {args : Array Value} {below : List Frame} {meth : Method} {cd : Code} {mc' ms' bk' bn' : Nat} {Q' : Wq} {a : Array Value} {H : Heap} {locs : List Loc} {cells slots : Nat} {ls : Array Slot} {st0 : List Value} (C : wf_C E n0 M p s m args meth cd)
    (hr : CallRun p l e (wf_rm (d + 1) mc ms) s m args below meth cd H locs cells slots mc' ms' (F0 m pc ls st0) st (wf_Q E n0 Q' a) (fun q => n0 ≤ q)) (h1 : cells + bk ≤ mc) (h2 : slots + bn ≤ ms) (h4 : wf_O n0 s.heap H) (h5 : ∀ q ∈ locs, n0 ≤ q.base) (h6 : lv_has ls M.2.2.1 L) (hk : bk' + mc' ≤ bk) (hn : bn' + ms' ≤ bn)
    (kk : ∀ v nx t r i g, Q' (.inl v) nx t r i g → Wf l E n0 M (d + 1) mc ms Q bk' bn' (pc + 3) L (v.toList ++ st) nx t r i g) : W p l e (wf_rm (d + 1) mc ms) s m args below meth cd H locs cells slots (wf_Z E n0 mc ms Q below args s) (F0 m pc ls st0) := by
  intro T hT X
  obtain ⟨v, st₀, u, T', L', h0, X', hL, e1, ⟨vo, nx', t', r', i', g', b1, b2, b3, b4⟩, step⟩ := hr T hT X
  cases vo with
  | inr X => obtain ⟨_, _, b1, -⟩ := b1; cases b1
  | inl v' =>
    cases b1
    obtain ⟨t2, a1, a2⟩ := kk _ nx' t' r' i' g' b4 p e s m args below meth cd C T'.heap (locs ++ L') (cells + mc') (slots + ms') ls (by omega) (by omega) (by rw [e1]; exact b2) (fun q hq => by rw [e1, b3 q hq, h0]; exact h4 q hq) (fun q hq => by
      rcases List.mem_append.mp hq with h | h
      · exact h5 q h
      · exact hL q h) h6 T' rfl X'
    exact ⟨t2, step t2 a1, a2⟩
theorem wf_iv {M' : Wm} {idx b c mc' ms' bk' bn' : Nat} {As : List Value} {Q' : Wq} (hd : decode M.2.1 pc = .ok (.invokevirtual idx, 3)) (hT : wf_tg M' As.length) (hl : Cond.methodLink M.1.cls idx M'.1 ∈ wl_ALL) (hi : Cond.instanceMethod M'.1 ∈ wl_ALL) (hs : Cond.selects M'.1.cls M'.1 M'.1 ∈ wl_ALL) (hc : ∃ q : vw_C, wl_CL[c]? = some q ∧ q.1 = M'.1.cls) (hb : t b = some (.inl c)) (hrm : (st.map fun v => v.category).sum ≤ 8) (hk : bk' + mc' ≤ bk) (hn : bn' + ms' ≤ bn)
    (hC : Ct l E n0 M' d mc' ms' (.ref b :: As) nx t r i g Q') (hnt : ∀ X nx t r i g, ¬ Q' (.inr X) nx t r i g) (kk : ∀ v nx t r i g, Q' (.inl v) nx t r i g → Wf l E n0 M (d + 1) mc ms Q bk' bn' (pc + 3) L (v.toList ++ st) nx t r i g) : Wf l E n0 M (d + 1) mc ms Q bk bn pc L (As.reverse ++ .ref b :: st) nx t r i g := by
  intro p e s m args below meth cd C H locs cells slots ls h1 h2 h3 h4 h5 h6
  obtain ⟨q, hq, hqc⟩ := hc
  obtain ⟨q', hq', cell, q1, q2, q3, -⟩ := (h3.2.2.1 b).o hb
  have hcls := (C.2.2.2.2.2.2.2.2.1.1 c _ hq).2.1
  rw [hqc] at hcls
  refine wf_called C (W.runV (cc := M.2.1) (nL := M.2.2.1) (Ts := wl_ALL) (own := M.1.cls) (C := M'.1.cls) (n := As.length) ⟨C.1, C.2.1, C.2.2.1, C.2.2.2.2.1, C.2.2.2.2.2.1⟩ (hC.met hnt) ⟨wf_CallB C hT hl, C.2.2.2.2.2.1 _ hi, C.2.2.2.2.2.1 _ hs⟩ ⟨wf_blind, ⟨cell, q1, by rw [q3]; rfl, by rw [q2]; exact hcls⟩, fun U hU hW => ⟨rfl, by rw [hU]; exact h3, wf_K.moved hW.alike C.2.2.2.2.2.2.2.2.1, wl_J_moved hW (by rw [hU]; exact h4) C.2.2.2.2.2.2.2.2.2⟩⟩ rfl rfl h6.1 rfl (lv_room hrm) hd ⟨show cells + mc' ≤ mc by omega, show slots + ms' ≤ ms by omega⟩) h1 h2 h4 h5 h6 hk hn kk
theorem wf_is {M' : Wm} {idx mc' ms' bk' bn' : Nat} {As : List Value} {Q' : Wq} (hd : decode M.2.1 pc = .ok (.invokestatic idx, 3)) (hT : wf_tg M' As.length) (hl : Cond.methodLink M.1.cls idx M'.1 ∈ wl_ALL) (hs : Cond.static M'.1 ∈ wl_ALL) (hrm : (st.map fun v => v.category).sum ≤ 8) (hk : bk' + mc' ≤ bk) (hn : bn' + ms' ≤ bn)
    (hC : Ct l E n0 M' d mc' ms' As nx t r i g Q') (hnt : ∀ X nx t r i g, ¬ Q' (.inr X) nx t r i g) (kk : ∀ v nx t r i g, Q' (.inl v) nx t r i g → Wf l E n0 M (d + 1) mc ms Q bk' bn' (pc + 3) L (v.toList ++ st) nx t r i g) : Wf l E n0 M (d + 1) mc ms Q bk bn pc L (As.reverse ++ st) nx t r i g := by
  intro p e s m args below meth cd C H locs cells slots ls h1 h2 h3 h4 h5 h6
  refine wf_called C (W.runS (cc := M.2.1) (nL := M.2.2.1) (Ts := wl_ALL) (own := M.1.cls) (n := As.length) ⟨C.1, C.2.1, C.2.2.1, C.2.2.2.2.1, C.2.2.2.2.2.1⟩ (hC.met hnt) ⟨wf_CallB C hT hl, C.2.2.2.2.2.1 _ hs⟩ ⟨wf_blind, fun U hU hW => ⟨rfl, by rw [hU]; exact h3, wf_K.moved hW.alike C.2.2.2.2.2.2.2.2.1, wl_J_moved hW (by rw [hU]; exact h4) C.2.2.2.2.2.2.2.2.2⟩⟩ rfl rfl h6.1 rfl (lv_room hrm) hd ⟨show cells + mc' ≤ mc by omega, show slots + ms' ≤ ms by omega⟩) h1 h2 h4 h5 h6 hk hn kk
theorem wf_ii {y : MethodName} {cc : ByteArray} {nL idx b mc' ms' bk' bn' : Nat} {As : List Value} {Q' : Wq} (hd : decode M.2.1 pc = .ok (.invokespecial idx, 3)) (hT : wf_tg (y, cc, nL, none) As.length) (hl : Cond.methodLink M.1.cls idx y ∈ wl_ALL) (hi : Cond.instanceMethod y ∈ wl_ALL) (hy : y.name = "<init>") (hrm : (st.map fun v => v.category).sum ≤ 8) (hk : bk' + mc' ≤ bk) (hn : bn' + ms' ≤ bn)
    (hC : Ct l E n0 (y, cc, nL, none) d mc' ms' (.ref b :: As) nx t r i g Q') (hnt : ∀ X nx t r i g, ¬ Q' (.inr X) nx t r i g) (kk : ∀ v nx t r i g, Q' (.inl v) nx t r i g → Wf l E n0 M (d + 1) mc ms Q bk' bn' (pc + 3) L (v.toList ++ st) nx t r i g) : Wf l E n0 M (d + 1) mc ms Q bk bn pc L (As.reverse ++ .ref b :: st) nx t r i g := by
  intro p e s m args below meth cd C H locs cells slots ls h1 h2 h3 h4 h5 h6
  refine wf_called C (W.runI (cc := M.2.1) (nL := M.2.2.1) (Ts := wl_ALL) (own := M.1.cls) (n := As.length) ⟨C.1, C.2.1, C.2.2.1, C.2.2.2.2.1, C.2.2.2.2.2.1⟩ (hC.met hnt) ⟨wf_CallB (M' := (y, cc, nL, none)) C hT hl, hy, C.2.2.2.2.2.1 _ hi⟩ ⟨wf_blind, fun U hU hW => ⟨rfl, by rw [hU]; exact h3, wf_K.moved hW.alike C.2.2.2.2.2.2.2.2.1, wl_J_moved hW (by rw [hU]; exact h4) C.2.2.2.2.2.2.2.2.2⟩⟩ rfl rfl h6.1 rfl (lv_room hrm) hd ⟨show cells + mc' ≤ mc by omega, show slots + ms' ≤ ms by omega⟩) h1 h2 h4 h5 h6 hk hn kk
end WfHeap
end
section
/-! words of links and of callees, by wip/whole/gen/names.py -/
abbrev mt_LR_init : Wm := (⟨"LineRules", "<init>", "()V"⟩, prog_1_method_1_code, 2, none)
abbrev mt_LR_feed : Wm := (⟨"LineRules", "feed", "(IIIII)I"⟩, prog_1_method_2_code, 7, (some .int))
abbrev mt_LR_clear : Wm := (⟨"LineRules", "clear", "()I"⟩, prog_1_method_3_code, 2, (some .int))
abbrev mt_LR_expression : Wm := (⟨"LineRules", "expression", "(I)I"⟩, prog_1_method_4_code, 3, (some .int))
abbrev mt_LR_text : Wm := (⟨"LineRules", "text", "(I)I"⟩, prog_1_method_5_code, 2, (some .int))
abbrev mt_LR_separator : Wm := (⟨"LineRules", "separator", "(I)I"⟩, prog_1_method_6_code, 3, (some .int))
abbrev mt_LR_rule : Wm := (⟨"LineRules", "rule", "(III)I"⟩, prog_1_method_7_code, 4, (some .int))
abbrev mt_LR_action : Wm := (⟨"LineRules", "action", "(IIII)I"⟩, prog_1_method_8_code, 5, (some .int))
abbrev mt_LR_forget : Wm := (⟨"LineRules", "forget", "()I"⟩, prog_1_method_9_code, 2, (some .int))
abbrev mt_LR_line : Wm := (⟨"LineRules", "line", "()I"⟩, prog_1_method_10_code, 4, (some .int))
abbrev mt_LR_find : Wm := (⟨"LineRules", "find", "(II)I"⟩, prog_1_method_11_code, 4, (some .int))
abbrev mt_LR_end : Wm := (⟨"LineRules", "end", "()I"⟩, prog_1_method_12_code, 1, (some .int))
abbrev mt_LR_sign : Wm := (⟨"LineRules", "sign", "(II)I"⟩, prog_1_method_13_code, 4, (some .int))
abbrev mt_LR_printed : Wm := (⟨"LineRules", "printed", "(I)I"⟩, prog_1_method_14_code, 2, (some .int))
abbrev mt_LR_counter : Wm := (⟨"LineRules", "counter", "(I)I"⟩, prog_1_method_15_code, 2, (some .int))
abbrev mt_LR_key : Wm := (⟨"LineRules", "key", "(II)I"⟩, prog_1_method_16_code, 4, (some .int))
abbrev mt_LR_count : Wm := (⟨"LineRules", "count", "(I)I"⟩, prog_1_method_17_code, 2, (some .int))
abbrev mt_LR_signsIn : Wm := (⟨"LineRules", "signsIn", "(I)I"⟩, prog_1_method_18_code, 3, (some .int))
abbrev mt_LR_addToPad : Wm := (⟨"LineRules", "addToPad", "(I)V"⟩, prog_1_method_19_code, 4, none)
abbrev mt_LR_isExpression : Wm := (⟨"LineRules", "isExpression", "(I)Z"⟩, prog_1_method_20_code, 1, (some .boolean))
abbrev mt_LR_isText : Wm := (⟨"LineRules", "isText", "(I)Z"⟩, prog_1_method_21_code, 1, (some .boolean))
abbrev mt_LR_isCounter : Wm := (⟨"LineRules", "isCounter", "(I)Z"⟩, prog_1_method_22_code, 1, (some .boolean))
abbrev mt_LR_isField : Wm := (⟨"LineRules", "isField", "(I)Z"⟩, prog_1_method_23_code, 1, (some .boolean))
abbrev mt_LR_isPattern : Wm := (⟨"LineRules", "isPattern", "(III)Z"⟩, prog_1_method_24_code, 3, (some .boolean))
abbrev mt_LR_isAction : Wm := (⟨"LineRules", "isAction", "(III)Z"⟩, prog_1_method_25_code, 3, (some .boolean))
abbrev mt_LR_hasPattern : Wm := (⟨"LineRules", "hasPattern", "(LLineRules$Rule;)Z"⟩, prog_1_method_26_code, 4, (some .boolean))
abbrev mt_LR_doActions : Wm := (⟨"LineRules", "doActions", "(LLineRules$Rule;)Z"⟩, prog_1_method_27_code, 4, (some .boolean))
abbrev mt_LR_doAction : Wm := (⟨"LineRules", "doAction", "(III)V"⟩, prog_1_method_28_code, 4, none)
abbrev mt_LR_printMatch : Wm := (⟨"LineRules", "printMatch", "(LLineRules$Expression;)V"⟩, prog_1_method_29_code, 3, none)
abbrev mt_Mod_init : Wm := (⟨"LineRulesModel", "<init>", "()V"⟩, prog_10_method_1_code, 1, none)
abbrev mt_Mod_thrown : Wm := (⟨"LineRulesModel", "thrown", "()I"⟩, prog_10_method_2_code, 1, (some .int))
abbrev mt_Mod_goes : Wm := (⟨"LineRulesModel", "goes", "(ZZ)Z"⟩, prog_10_method_3_code, 3, (some .boolean))
abbrev mt_Mod_within : Wm := (⟨"LineRulesModel", "within", "(III)Z"⟩, prog_10_method_4_code, 3, (some .boolean))
abbrev mt_Mod_signsOf : Wm := (⟨"LineRulesModel", "signsOf", "(I)I"⟩, prog_10_method_5_code, 3, (some .int))
abbrev mt_Mod_feedOne : Wm := (⟨"LineRulesModel", "feedOne", "(I)V"⟩, prog_10_method_6_code, 4, none)
abbrev mt_Mod_feed : Wm := (⟨"LineRulesModel", "feed", "(IIIII)I"⟩, prog_10_method_7_code, 6, (some .int))
abbrev mt_Mod_clear : Wm := (⟨"LineRulesModel", "clear", "()I"⟩, prog_10_method_8_code, 2, (some .int))
abbrev mt_Mod_point : Wm := (⟨"LineRulesModel", "point", "()I"⟩, prog_10_method_9_code, 1, (some .int))
abbrev mt_Mod_edge : Wm := (⟨"LineRulesModel", "edge", "(IIII)V"⟩, prog_10_method_10_code, 5, none)
abbrev mt_Mod_fail : Wm := (⟨"LineRulesModel", "fail", "(I)V"⟩, prog_10_method_11_code, 2, none)
abbrev mt_Mod_isItem : Wm := (⟨"LineRulesModel", "isItem", "(I)Z"⟩, prog_10_method_12_code, 1, (some .boolean))
abbrev mt_Mod_items : Wm := (⟨"LineRulesModel", "items", "(II)I"⟩, prog_10_method_13_code, 6, (some .int))
abbrev mt_Mod_draw : Wm := (⟨"LineRulesModel", "draw", "(I)V"⟩, prog_10_method_14_code, 9, none)
abbrev mt_Mod_isSign : Wm := (⟨"LineRulesModel", "isSign", "(II)Z"⟩, prog_10_method_15_code, 10, (some .boolean))
abbrev mt_Mod_expression : Wm := (⟨"LineRulesModel", "expression", "(I)I"⟩, prog_10_method_16_code, 4, (some .int))
abbrev mt_Mod_spread : Wm := (⟨"LineRulesModel", "spread", "(II)V"⟩, prog_10_method_17_code, 6, none)
abbrev mt_Mod_longest : Wm := (⟨"LineRulesModel", "longest", "(II)I"⟩, prog_10_method_18_code, 7, (some .int))
abbrev mt_Mod_seek : Wm := (⟨"LineRulesModel", "seek", "(III)Z"⟩, prog_10_method_19_code, 6, (some .boolean))
abbrev mt_Mod_copyRow : Wm := (⟨"LineRulesModel", "copyRow", "(II)V"⟩, prog_10_method_20_code, 4, none)
abbrev mt_Mod_text : Wm := (⟨"LineRulesModel", "text", "(I)I"⟩, prog_10_method_21_code, 2, (some .int))
abbrev mt_Mod_separator : Wm := (⟨"LineRulesModel", "separator", "(I)I"⟩, prog_10_method_22_code, 3, (some .int))
abbrev mt_Mod_isField : Wm := (⟨"LineRulesModel", "isField", "(I)Z"⟩, prog_10_method_23_code, 1, (some .boolean))
abbrev mt_Mod_rule : Wm := (⟨"LineRulesModel", "rule", "(III)I"⟩, prog_10_method_24_code, 5, (some .int))
abbrev mt_Mod_isAction : Wm := (⟨"LineRulesModel", "isAction", "(III)Z"⟩, prog_10_method_25_code, 3, (some .boolean))
abbrev mt_Mod_action : Wm := (⟨"LineRulesModel", "action", "(IIII)I"⟩, prog_10_method_26_code, 7, (some .int))
abbrev mt_Mod_forget : Wm := (⟨"LineRulesModel", "forget", "()I"⟩, prog_10_method_27_code, 2, (some .int))
abbrev mt_Mod_field : Wm := (⟨"LineRulesModel", "field", "(II)V"⟩, prog_10_method_28_code, 4, none)
abbrev mt_Mod_part : Wm := (⟨"LineRulesModel", "part", "()V"⟩, prog_10_method_29_code, 3, none)
abbrev mt_Mod_sizeOf : Wm := (⟨"LineRulesModel", "sizeOf", "(I)I"⟩, prog_10_method_30_code, 2, (some .int))
abbrev mt_Mod_signOf : Wm := (⟨"LineRulesModel", "signOf", "(II)I"⟩, prog_10_method_31_code, 3, (some .int))
abbrev mt_Mod_numberOf : Wm := (⟨"LineRulesModel", "numberOf", "(I)I"⟩, prog_10_method_32_code, 5, (some .int))
abbrev mt_Mod_put : Wm := (⟨"LineRulesModel", "put", "(I)V"⟩, prog_10_method_33_code, 2, none)
abbrev mt_Mod_spell : Wm := (⟨"LineRulesModel", "spell", "(I)V"⟩, prog_10_method_34_code, 7, none)
abbrev mt_Mod_printRow : Wm := (⟨"LineRulesModel", "printRow", "(III)V"⟩, prog_10_method_35_code, 5, none)
abbrev mt_Mod_compared : Wm := (⟨"LineRulesModel", "compared", "(II)I"⟩, prog_10_method_36_code, 7, (some .int))
abbrev mt_Mod_copyKey : Wm := (⟨"LineRulesModel", "copyKey", "(II)V"⟩, prog_10_method_37_code, 4, none)
abbrev mt_Mod_grow : Wm := (⟨"LineRulesModel", "grow", "(II)V"⟩, prog_10_method_38_code, 5, none)
abbrev mt_Mod_write : Wm := (⟨"LineRulesModel", "write", "(I)V"⟩, prog_10_method_39_code, 2, none)
abbrev mt_Mod_setField : Wm := (⟨"LineRulesModel", "setField", "(I)V"⟩, prog_10_method_40_code, 4, none)
abbrev mt_Mod_fieldToRow : Wm := (⟨"LineRulesModel", "fieldToRow", "(I)V"⟩, prog_10_method_41_code, 3, none)
abbrev mt_Mod_replace : Wm := (⟨"LineRulesModel", "replace", "(IIZ)V"⟩, prog_10_method_42_code, 9, none)
abbrev mt_Mod_act : Wm := (⟨"LineRulesModel", "act", "(III)V"⟩, prog_10_method_43_code, 4, none)
abbrev mt_Mod_has : Wm := (⟨"LineRulesModel", "has", "(III)Z"⟩, prog_10_method_44_code, 4, (some .boolean))
abbrev mt_Mod_line : Wm := (⟨"LineRulesModel", "line", "()I"⟩, prog_10_method_45_code, 5, (some .int))
abbrev mt_Mod_find : Wm := (⟨"LineRulesModel", "find", "(II)I"⟩, prog_10_method_46_code, 4, (some .int))
abbrev mt_Mod_end : Wm := (⟨"LineRulesModel", "end", "()I"⟩, prog_10_method_47_code, 1, (some .int))
abbrev mt_Mod_sign : Wm := (⟨"LineRulesModel", "sign", "(II)I"⟩, prog_10_method_48_code, 4, (some .int))
abbrev mt_Mod_printed : Wm := (⟨"LineRulesModel", "printed", "(I)I"⟩, prog_10_method_49_code, 2, (some .int))
abbrev mt_Mod_counter : Wm := (⟨"LineRulesModel", "counter", "(I)I"⟩, prog_10_method_50_code, 2, (some .int))
abbrev mt_Mod_key : Wm := (⟨"LineRulesModel", "key", "(II)I"⟩, prog_10_method_51_code, 4, (some .int))
abbrev mt_Mod_count : Wm := (⟨"LineRulesModel", "count", "(I)I"⟩, prog_10_method_52_code, 2, (some .int))
abbrev mt_Cut_init : Wm := (⟨"LineRules$CutLine", "<init>", "()V"⟩, prog_2_method_1_code, 2, none)
abbrev mt_Cut_begin : Wm := (⟨"LineRules$CutLine", "begin", "(LLineRules$Row;I)V"⟩, prog_2_method_2_code, 3, none)
abbrev mt_Cut_cut : Wm := (⟨"LineRules$CutLine", "cut", "(I)V"⟩, prog_2_method_3_code, 5, none)
abbrev mt_Cut_addField : Wm := (⟨"LineRules$CutLine", "addField", "(II)V"⟩, prog_2_method_4_code, 3, none)
abbrev mt_Cut_fieldText : Wm := (⟨"LineRules$CutLine", "fieldText", "(I)LLineRules$Row;"⟩, prog_2_method_5_code, 2, (some (.object "LineRules$Row")))
abbrev mt_Cut_setField : Wm := (⟨"LineRules$CutLine", "setField", "(ILLineRules$Row;I)V"⟩, prog_2_method_6_code, 5, none)
abbrev mt_Cut_join : Wm := (⟨"LineRules$CutLine", "join", "(I)V"⟩, prog_2_method_7_code, 3, none)
abbrev mt_Cut_replace : Wm := (⟨"LineRules$CutLine", "replace", "(LLineRules$Expression;LLineRules$Row;I)V"⟩, prog_2_method_8_code, 7, none)
abbrev mt_Cut_matchBehind : Wm := (⟨"LineRules$CutLine", "matchBehind", "(LLineRules$Expression;I)I"⟩, prog_2_method_9_code, 4, (some .int))
abbrev mt_Exp_init : Wm := (⟨"LineRules$Expression", "<init>", "()V"⟩, prog_3_method_1_code, 1, none)
abbrev mt_Exp_drop : Wm := (⟨"LineRules$Expression", "drop", "()V"⟩, prog_3_method_2_code, 1, none)
abbrev mt_Exp_firstFrom : Wm := (⟨"LineRules$Expression", "firstFrom", "(LLineRules$Row;I)I"⟩, prog_3_method_3_code, 4, (some .int))
abbrev mt_Exp_longestFrom : Wm := (⟨"LineRules$Expression", "longestFrom", "(LLineRules$Row;I)I"⟩, prog_3_method_4_code, 9, (some .int))
abbrev mt_Exp_kindOf : Wm := (⟨"LineRules$Expression", "kindOf", "(II)I"⟩, prog_3_method_5_code, 2, (some .int))
abbrev mt_Exp_followersOf : Wm := (⟨"LineRules$Expression", "followersOf", "(J)J"⟩, prog_3_method_6_code, 8, (some .long))
abbrev mt_Out_init : Wm := (⟨"LineRules$Output", "<init>", "()V"⟩, prog_4_method_1_code, 1, none)
abbrev mt_Out_print : Wm := (⟨"LineRules$Output", "print", "(LLineRules$Row;)V"⟩, prog_4_method_2_code, 2, none)
abbrev mt_Out_printPart : Wm := (⟨"LineRules$Output", "printPart", "(LLineRules$Row;II)V"⟩, prog_4_method_3_code, 5, none)
abbrev mt_Out_add : Wm := (⟨"LineRules$Output", "add", "(I)V"⟩, prog_4_method_4_code, 2, none)
abbrev mt_Out_has : Wm := (⟨"LineRules$Output", "has", "(I)Z"⟩, prog_4_method_5_code, 2, (some .boolean))
abbrev mt_Out_signAt : Wm := (⟨"LineRules$Output", "signAt", "(I)I"⟩, prog_4_method_6_code, 2, (some .int))
abbrev mt_Rdr_init : Wm := (⟨"LineRules$Reader", "<init>", "()V"⟩, prog_5_method_1_code, 1, none)
abbrev mt_Rdr_read : Wm := (⟨"LineRules$Reader", "read", "(LLineRules$Row;)I"⟩, prog_5_method_2_code, 4, (some .int))
abbrev mt_Rdr_exchange : Wm := (⟨"LineRules$Reader", "exchange", "(LLineRules$Expression;)LLineRules$Expression;"⟩, prog_5_method_3_code, 3, (some (.object "LineRules$Expression")))
abbrev mt_Rdr_alternation : Wm := (⟨"LineRules$Reader", "alternation", "(I)I"⟩, prog_5_method_4_code, 5, (some .int))
abbrev mt_Rdr_sequence : Wm := (⟨"LineRules$Reader", "sequence", "(I)I"⟩, prog_5_method_5_code, 5, (some .int))
abbrev mt_Rdr_repeated : Wm := (⟨"LineRules$Reader", "repeated", "(I)I"⟩, prog_5_method_6_code, 4, (some .int))
abbrev mt_Rdr_isRepeat : Wm := (⟨"LineRules$Reader", "isRepeat", "(I)Z"⟩, prog_5_method_7_code, 1, (some .boolean))
abbrev mt_Rdr_repeatKind : Wm := (⟨"LineRules$Reader", "repeatKind", "(I)I"⟩, prog_5_method_8_code, 1, (some .int))
abbrev mt_Rdr_atom : Wm := (⟨"LineRules$Reader", "atom", "(I)I"⟩, prog_5_method_9_code, 3, (some .int))
abbrev mt_Rdr_group : Wm := (⟨"LineRules$Reader", "group", "(I)I"⟩, prog_5_method_10_code, 3, (some .int))
abbrev mt_Rdr_escaped : Wm := (⟨"LineRules$Reader", "escaped", "()I"⟩, prog_5_method_11_code, 2, (some .int))
abbrev mt_Rdr_one : Wm := (⟨"LineRules$Reader", "one", "(I)I"⟩, prog_5_method_12_code, 4, (some .int))
abbrev mt_Rdr_anySign : Wm := (⟨"LineRules$Reader", "anySign", "()I"⟩, prog_5_method_13_code, 3, (some .int))
abbrev mt_Rdr_items : Wm := (⟨"LineRules$Reader", "items", "()I"⟩, prog_5_method_14_code, 5, (some .int))
abbrev mt_Rdr_item : Wm := (⟨"LineRules$Reader", "item", "(J)V"⟩, prog_5_method_15_code, 5, none)
abbrev mt_Rdr_isItemSign : Wm := (⟨"LineRules$Reader", "isItemSign", "(I)Z"⟩, prog_5_method_16_code, 1, (some .boolean))
abbrev mt_Rdr_next : Wm := (⟨"LineRules$Reader", "next", "()I"⟩, prog_5_method_17_code, 1, (some .int))
abbrev mt_Rdr_refuse : Wm := (⟨"LineRules$Reader", "refuse", "()I"⟩, prog_5_method_18_code, 1, (some .int))
abbrev mt_Rdr_newAtom : Wm := (⟨"LineRules$Reader", "newAtom", "()J"⟩, prog_5_method_19_code, 1, (some .long))
abbrev mt_Rdr_take : Wm := (⟨"LineRules$Reader", "take", "(JII)V"⟩, prog_5_method_20_code, 6, none)
abbrev mt_Rdr_takeOthers : Wm := (⟨"LineRules$Reader", "takeOthers", "(J)V"⟩, prog_5_method_21_code, 4, none)
abbrev mt_Rdr_node : Wm := (⟨"LineRules$Reader", "node", "(III)I"⟩, prog_5_method_22_code, 4, (some .int))
abbrev mt_Rdr_weighAll : Wm := (⟨"LineRules$Reader", "weighAll", "(I)V"⟩, prog_5_method_23_code, 3, none)
abbrev mt_Rdr_weigh : Wm := (⟨"LineRules$Reader", "weigh", "(II)V"⟩, prog_5_method_24_code, 5, none)
abbrev mt_Rdr_set : Wm := (⟨"LineRules$Reader", "set", "(IZJJ)V"⟩, prog_5_method_25_code, 7, none)
abbrev mt_Rdr_link : Wm := (⟨"LineRules$Reader", "link", "(I)V"⟩, prog_5_method_26_code, 2, none)
abbrev mt_Rdr_follow : Wm := (⟨"LineRules$Reader", "follow", "(JJ)V"⟩, prog_5_method_27_code, 6, none)
abbrev mt_Row_init : Wm := (⟨"LineRules$Row", "<init>", "(I)V"⟩, prog_6_method_1_code, 2, none)
abbrev mt_Row_drop : Wm := (⟨"LineRules$Row", "drop", "()V"⟩, prog_6_method_2_code, 1, none)
abbrev mt_Row_has : Wm := (⟨"LineRules$Row", "has", "(I)Z"⟩, prog_6_method_3_code, 2, (some .boolean))
abbrev mt_Row_add : Wm := (⟨"LineRules$Row", "add", "(I)V"⟩, prog_6_method_4_code, 2, none)
abbrev mt_Row_addPart : Wm := (⟨"LineRules$Row", "addPart", "(LLineRules$Row;II)V"⟩, prog_6_method_5_code, 5, none)
abbrev mt_Row_addAll : Wm := (⟨"LineRules$Row", "addAll", "(LLineRules$Row;)V"⟩, prog_6_method_6_code, 2, none)
abbrev mt_Row_become : Wm := (⟨"LineRules$Row", "become", "(LLineRules$Row;)V"⟩, prog_6_method_7_code, 3, none)
abbrev mt_Row_becomeNumber : Wm := (⟨"LineRules$Row", "becomeNumber", "(I)V"⟩, prog_6_method_8_code, 7, none)
abbrev mt_Row_toNumber : Wm := (⟨"LineRules$Row", "toNumber", "()I"⟩, prog_6_method_9_code, 4, (some .int))
abbrev mt_Row_compareWith : Wm := (⟨"LineRules$Row", "compareWith", "(LLineRules$Row;)I"⟩, prog_6_method_10_code, 4, (some .int))
abbrev mt_Rul_init : Wm := (⟨"LineRules$Rule", "<init>", "()V"⟩, prog_7_method_1_code, 1, none)
abbrev mt_Rul_begin : Wm := (⟨"LineRules$Rule", "begin", "(III)V"⟩, prog_7_method_2_code, 4, none)
abbrev mt_Rul_isFull : Wm := (⟨"LineRules$Rule", "isFull", "()Z"⟩, prog_7_method_3_code, 1, (some .boolean))
abbrev mt_Rul_add : Wm := (⟨"LineRules$Rule", "add", "(III)I"⟩, prog_7_method_4_code, 4, (some .int))
abbrev mt_Tab_init : Wm := (⟨"LineRules$Table", "<init>", "()V"⟩, prog_8_method_1_code, 1, none)
abbrev mt_Tab_grow : Wm := (⟨"LineRules$Table", "grow", "(LLineRules$Row;I)V"⟩, prog_8_method_2_code, 4, none)
abbrev mt_Tab_placeOf : Wm := (⟨"LineRules$Table", "placeOf", "(LLineRules$Row;)I"⟩, prog_8_method_3_code, 3, (some .int))
abbrev mt_Tab_insert : Wm := (⟨"LineRules$Table", "insert", "(ILLineRules$Row;I)V"⟩, prog_8_method_4_code, 5, none)
abbrev mt_Law_feed : Wm := (⟨"LineRulesLaw", "feed", "(LLineRules;IIIII[J)I"⟩, method_3_code, 8, (some .int))
abbrev mt_Law_expression : Wm := (⟨"LineRulesLaw", "expression", "(LLineRules;I[J)I"⟩, method_4_code, 4, (some .int))
abbrev mt_Law_text : Wm := (⟨"LineRulesLaw", "text", "(LLineRules;I[J)I"⟩, method_5_code, 4, (some .int))
abbrev mt_Law_separator : Wm := (⟨"LineRulesLaw", "separator", "(LLineRules;I[J)I"⟩, method_6_code, 4, (some .int))
abbrev mt_Law_rule : Wm := (⟨"LineRulesLaw", "rule", "(LLineRules;III[J)I"⟩, method_7_code, 6, (some .int))
abbrev mt_Law_action : Wm := (⟨"LineRulesLaw", "action", "(LLineRules;IIII[J)I"⟩, method_8_code, 7, (some .int))
abbrev mt_Law_find : Wm := (⟨"LineRulesLaw", "find", "(LLineRules;II[J)I"⟩, method_9_code, 5, (some .int))
abbrev mt_Law_sign : Wm := (⟨"LineRulesLaw", "sign", "(LLineRules;II[J)I"⟩, method_10_code, 5, (some .int))
abbrev mt_Law_printed : Wm := (⟨"LineRulesLaw", "printed", "(LLineRules;I[J)I"⟩, method_11_code, 4, (some .int))
abbrev mt_Law_counter : Wm := (⟨"LineRulesLaw", "counter", "(LLineRules;I[J)I"⟩, method_12_code, 4, (some .int))
abbrev mt_Law_key : Wm := (⟨"LineRulesLaw", "key", "(LLineRules;II[J)I"⟩, method_13_code, 5, (some .int))
abbrev mt_Law_count : Wm := (⟨"LineRulesLaw", "count", "(LLineRules;I[J)I"⟩, method_14_code, 4, (some .int))
abbrev mt_Law_law : Wm := (⟨"LineRulesLaw", "law", "([I)Z"⟩, code, 7, (some .boolean))
abbrev mt_Mth_floorMod : Wm := (⟨"java/lang/Math", "floorMod", "(II)I"⟩, prog_14_method_50_code, 3, (some .int))
abbrev mt_Mth_min : Wm := (⟨"java/lang/Math", "min", "(II)I"⟩, prog_14_method_69_code, 2, (some .int))
abbrev mt_Arr_fill : Wm := (⟨"java/util/Arrays", "fill", "([JJ)V"⟩, prog_19_method_101_code, 5, none)
theorem fl_Row_9 : wf_fl "LineRules$Row" 9 5 0 := ⟨_, rfl, by decide, wl_mem 96 (by decide +kernel) rfl⟩
theorem fl_Out_25 : wf_fl "LineRules$Output" 25 5 0 := ⟨_, rfl, by decide, wl_mem 97 (by decide +kernel) rfl⟩
theorem fl_Cut_44 : wf_fl "LineRules$CutLine" 44 5 0 := ⟨_, rfl, by decide, wl_mem 98 (by decide +kernel) rfl⟩
theorem fl_Exp_51 : wf_fl "LineRules$Expression" 51 5 0 := ⟨_, rfl, by decide, wl_mem 99 (by decide +kernel) rfl⟩
theorem fl_LR_204 : wf_fl "LineRules" 204 5 0 := ⟨_, rfl, by decide, wl_mem 100 (by decide +kernel) rfl⟩
theorem fl_Rdr_139 : wf_fl "LineRules$Reader" 139 5 0 := ⟨_, rfl, by decide, wl_mem 101 (by decide +kernel) rfl⟩
theorem fl_Row_15 : wf_fl "LineRules$Row" 15 5 1 := ⟨_, rfl, by decide, wl_mem 102 (by decide +kernel) rfl⟩
theorem fl_Out_15 : wf_fl "LineRules$Output" 15 5 1 := ⟨_, rfl, by decide, wl_mem 103 (by decide +kernel) rfl⟩
theorem fl_LR_82 : wf_fl "LineRules" 82 5 1 := ⟨_, rfl, by decide, wl_mem 104 (by decide +kernel) rfl⟩
theorem fl_Rdr_65 : wf_fl "LineRules$Reader" 65 5 1 := ⟨_, rfl, by decide, wl_mem 105 (by decide +kernel) rfl⟩
theorem fl_Exp_38 : wf_fl "LineRules$Expression" 38 5 1 := ⟨_, rfl, by decide, wl_mem 106 (by decide +kernel) rfl⟩
theorem fl_Cut_41 : wf_fl "LineRules$CutLine" 41 5 1 := ⟨_, rfl, by decide, wl_mem 107 (by decide +kernel) rfl⟩
theorem fl_Tab_36 : wf_fl "LineRules$Table" 36 5 1 := ⟨_, rfl, by decide, wl_mem 108 (by decide +kernel) rfl⟩
theorem fl_Exp_9 : wf_fl "LineRules$Expression" 9 2 0 := ⟨_, rfl, by decide, wl_mem 130 (by decide +kernel) rfl⟩
theorem fl_Rdr_142 : wf_fl "LineRules$Reader" 142 2 0 := ⟨_, rfl, by decide, wl_mem 131 (by decide +kernel) rfl⟩
theorem fl_Exp_15 : wf_fl "LineRules$Expression" 15 2 1 := ⟨_, rfl, by decide, wl_mem 132 (by decide +kernel) rfl⟩
theorem fl_Rdr_160 : wf_fl "LineRules$Reader" 160 2 1 := ⟨_, rfl, by decide, wl_mem 133 (by decide +kernel) rfl⟩
theorem fl_Exp_18 : wf_fl "LineRules$Expression" 18 2 2 := ⟨_, rfl, by decide, wl_mem 134 (by decide +kernel) rfl⟩
theorem fl_Rdr_78 : wf_fl "LineRules$Reader" 78 2 2 := ⟨_, rfl, by decide, wl_mem 135 (by decide +kernel) rfl⟩
theorem fl_Exp_21 : wf_fl "LineRules$Expression" 21 2 3 := ⟨_, rfl, by decide, wl_mem 136 (by decide +kernel) rfl⟩
theorem fl_Rdr_79 : wf_fl "LineRules$Reader" 79 2 3 := ⟨_, rfl, by decide, wl_mem 137 (by decide +kernel) rfl⟩
theorem fl_Exp_24 : wf_fl "LineRules$Expression" 24 2 4 := ⟨_, rfl, by decide, wl_mem 138 (by decide +kernel) rfl⟩
theorem fl_Rdr_75 : wf_fl "LineRules$Reader" 75 2 4 := ⟨_, rfl, by decide, wl_mem 139 (by decide +kernel) rfl⟩
theorem fl_Exp_34 : wf_fl "LineRules$Expression" 34 2 5 := ⟨_, rfl, by decide, wl_mem 140 (by decide +kernel) rfl⟩
theorem fl_Rdr_126 : wf_fl "LineRules$Reader" 126 2 5 := ⟨_, rfl, by decide, wl_mem 141 (by decide +kernel) rfl⟩
theorem fl_Rdr_11 : wf_fl "LineRules$Reader" 11 4 0 := ⟨_, rfl, by decide, wl_mem 159 (by decide +kernel) rfl⟩
theorem fl_Rdr_15 : wf_fl "LineRules$Reader" 15 4 1 := ⟨_, rfl, by decide, wl_mem 160 (by decide +kernel) rfl⟩
theorem fl_Rdr_18 : wf_fl "LineRules$Reader" 18 4 2 := ⟨_, rfl, by decide, wl_mem 161 (by decide +kernel) rfl⟩
theorem fl_Rdr_21 : wf_fl "LineRules$Reader" 21 4 3 := ⟨_, rfl, by decide, wl_mem 162 (by decide +kernel) rfl⟩
theorem fl_Rdr_25 : wf_fl "LineRules$Reader" 25 4 4 := ⟨_, rfl, by decide, wl_mem 163 (by decide +kernel) rfl⟩
theorem fl_Rdr_29 : wf_fl "LineRules$Reader" 29 4 5 := ⟨_, rfl, by decide, wl_mem 164 (by decide +kernel) rfl⟩
theorem fl_Rdr_55 : wf_fl "LineRules$Reader" 55 4 6 := ⟨_, rfl, by decide, wl_mem 165 (by decide +kernel) rfl⟩
theorem fl_Rdr_35 : wf_fl "LineRules$Reader" 35 4 7 := ⟨_, rfl, by decide, wl_mem 166 (by decide +kernel) rfl⟩
theorem fl_Rdr_44 : wf_fl "LineRules$Reader" 44 4 8 := ⟨_, rfl, by decide, wl_mem 167 (by decide +kernel) rfl⟩
theorem fl_Rdr_48 : wf_fl "LineRules$Reader" 48 4 9 := ⟨_, rfl, by decide, wl_mem 168 (by decide +kernel) rfl⟩
theorem fl_Rdr_52 : wf_fl "LineRules$Reader" 52 4 10 := ⟨_, rfl, by decide, wl_mem 169 (by decide +kernel) rfl⟩
theorem fl_Cut_14 : wf_fl "LineRules$CutLine" 14 1 0 := ⟨_, rfl, by decide, wl_mem 203 (by decide +kernel) rfl⟩
theorem fl_LR_192 : wf_fl "LineRules" 192 1 0 := ⟨_, rfl, by decide, wl_mem 204 (by decide +kernel) rfl⟩
theorem fl_Cut_37 : wf_fl "LineRules$CutLine" 37 1 1 := ⟨_, rfl, by decide, wl_mem 205 (by decide +kernel) rfl⟩
theorem fl_LR_187 : wf_fl "LineRules" 187 1 1 := ⟨_, rfl, by decide, wl_mem 206 (by decide +kernel) rfl⟩
theorem fl_Cut_20 : wf_fl "LineRules$CutLine" 20 1 2 := ⟨_, rfl, by decide, wl_mem 207 (by decide +kernel) rfl⟩
theorem fl_Cut_24 : wf_fl "LineRules$CutLine" 24 1 3 := ⟨_, rfl, by decide, wl_mem 208 (by decide +kernel) rfl⟩
theorem fl_Cut_27 : wf_fl "LineRules$CutLine" 27 1 4 := ⟨_, rfl, by decide, wl_mem 209 (by decide +kernel) rfl⟩
theorem fl_Tab_11 : wf_fl "LineRules$Table" 11 7 0 := ⟨_, rfl, by decide, wl_mem 228 (by decide +kernel) rfl⟩
theorem fl_LR_226 : wf_fl "LineRules" 226 7 0 := ⟨_, rfl, by decide, wl_mem 229 (by decide +kernel) rfl⟩
theorem fl_Tab_17 : wf_fl "LineRules$Table" 17 7 1 := ⟨_, rfl, by decide, wl_mem 230 (by decide +kernel) rfl⟩
theorem fl_LR_223 : wf_fl "LineRules" 223 7 1 := ⟨_, rfl, by decide, wl_mem 231 (by decide +kernel) rfl⟩
theorem fl_Tab_25 : wf_fl "LineRules$Table" 25 7 2 := ⟨_, rfl, by decide, wl_mem 232 (by decide +kernel) rfl⟩
theorem fl_LR_218 : wf_fl "LineRules" 218 7 2 := ⟨_, rfl, by decide, wl_mem 233 (by decide +kernel) rfl⟩
theorem fl_Out_9 : wf_fl "LineRules$Output" 9 3 0 := ⟨_, rfl, by decide, wl_mem 247 (by decide +kernel) rfl⟩
theorem fl_Out_32 : wf_fl "LineRules$Output" 32 3 1 := ⟨_, rfl, by decide, wl_mem 248 (by decide +kernel) rfl⟩
theorem fl_LR_229 : wf_fl "LineRules" 229 3 1 := ⟨_, rfl, by decide, wl_mem 249 (by decide +kernel) rfl⟩
theorem fl_Rul_21 : wf_fl "LineRules$Rule" 21 6 0 := ⟨_, rfl, by decide, wl_mem 261 (by decide +kernel) rfl⟩
theorem fl_LR_245 : wf_fl "LineRules" 245 6 0 := ⟨_, rfl, by decide, wl_mem 262 (by decide +kernel) rfl⟩
theorem fl_Rul_25 : wf_fl "LineRules$Rule" 25 6 1 := ⟨_, rfl, by decide, wl_mem 263 (by decide +kernel) rfl⟩
theorem fl_LR_239 : wf_fl "LineRules" 239 6 1 := ⟨_, rfl, by decide, wl_mem 264 (by decide +kernel) rfl⟩
theorem fl_Rul_28 : wf_fl "LineRules$Rule" 28 6 2 := ⟨_, rfl, by decide, wl_mem 265 (by decide +kernel) rfl⟩
theorem fl_LR_242 : wf_fl "LineRules" 242 6 2 := ⟨_, rfl, by decide, wl_mem 266 (by decide +kernel) rfl⟩
theorem fl_Rul_9 : wf_fl "LineRules$Rule" 9 6 3 := ⟨_, rfl, by decide, wl_mem 267 (by decide +kernel) rfl⟩
theorem fl_LR_254 : wf_fl "LineRules" 254 6 3 := ⟨_, rfl, by decide, wl_mem 268 (by decide +kernel) rfl⟩
theorem fl_Rul_15 : wf_fl "LineRules$Rule" 15 6 4 := ⟨_, rfl, by decide, wl_mem 269 (by decide +kernel) rfl⟩
theorem fl_LR_257 : wf_fl "LineRules" 257 6 4 := ⟨_, rfl, by decide, wl_mem 270 (by decide +kernel) rfl⟩
theorem fl_Rul_18 : wf_fl "LineRules$Rule" 18 6 5 := ⟨_, rfl, by decide, wl_mem 271 (by decide +kernel) rfl⟩
theorem fl_LR_260 : wf_fl "LineRules" 260 6 5 := ⟨_, rfl, by decide, wl_mem 272 (by decide +kernel) rfl⟩
theorem fl_Rul_31 : wf_fl "LineRules$Rule" 31 6 6 := ⟨_, rfl, by decide, wl_mem 273 (by decide +kernel) rfl⟩
theorem fl_LR_251 : wf_fl "LineRules" 251 6 6 := ⟨_, rfl, by decide, wl_mem 274 (by decide +kernel) rfl⟩
theorem fl_LR_14 : wf_fl "LineRules" 14 0 0 := ⟨_, rfl, by decide, wl_mem 290 (by decide +kernel) rfl⟩
theorem fl_LR_18 : wf_fl "LineRules" 18 0 1 := ⟨_, rfl, by decide, wl_mem 291 (by decide +kernel) rfl⟩
theorem fl_LR_24 : wf_fl "LineRules" 24 0 2 := ⟨_, rfl, by decide, wl_mem 292 (by decide +kernel) rfl⟩
theorem fl_LR_31 : wf_fl "LineRules" 31 0 3 := ⟨_, rfl, by decide, wl_mem 293 (by decide +kernel) rfl⟩
theorem fl_LR_37 : wf_fl "LineRules" 37 0 4 := ⟨_, rfl, by decide, wl_mem 294 (by decide +kernel) rfl⟩
theorem fl_LR_44 : wf_fl "LineRules" 44 0 5 := ⟨_, rfl, by decide, wl_mem 295 (by decide +kernel) rfl⟩
theorem fl_LR_48 : wf_fl "LineRules" 48 0 6 := ⟨_, rfl, by decide, wl_mem 296 (by decide +kernel) rfl⟩
theorem fl_LR_55 : wf_fl "LineRules" 55 0 7 := ⟨_, rfl, by decide, wl_mem 297 (by decide +kernel) rfl⟩
theorem fl_LR_62 : wf_fl "LineRules" 62 0 8 := ⟨_, rfl, by decide, wl_mem 298 (by decide +kernel) rfl⟩
theorem fl_LR_66 : wf_fl "LineRules" 66 0 9 := ⟨_, rfl, by decide, wl_mem 299 (by decide +kernel) rfl⟩
theorem fl_LR_141 : wf_fl "LineRules" 141 0 10 := ⟨_, rfl, by decide, wl_mem 300 (by decide +kernel) rfl⟩
theorem fl_LR_168 : wf_fl "LineRules" 168 0 11 := ⟨_, rfl, by decide, wl_mem 301 (by decide +kernel) rfl⟩
theorem fl_LR_69 : wf_fl "LineRules" 69 0 12 := ⟨_, rfl, by decide, wl_mem 302 (by decide +kernel) rfl⟩
theorem fl_LR_73 : wf_fl "LineRules" 73 0 13 := ⟨_, rfl, by decide, wl_mem 303 (by decide +kernel) rfl⟩
theorem fl_Mod_99 : wf_fl "LineRulesModel" 99 8 0 := ⟨_, rfl, by decide, wl_mem 857 (by decide +kernel) rfl⟩
theorem fl_Mod_7 : wf_fl "LineRulesModel" 7 8 1 := ⟨_, rfl, by decide, wl_mem 858 (by decide +kernel) rfl⟩
theorem fl_Mod_13 : wf_fl "LineRulesModel" 13 8 2 := ⟨_, rfl, by decide, wl_mem 859 (by decide +kernel) rfl⟩
theorem fl_Mod_16 : wf_fl "LineRulesModel" 16 8 3 := ⟨_, rfl, by decide, wl_mem 860 (by decide +kernel) rfl⟩
theorem fl_Mod_19 : wf_fl "LineRulesModel" 19 8 4 := ⟨_, rfl, by decide, wl_mem 861 (by decide +kernel) rfl⟩
theorem fl_Mod_22 : wf_fl "LineRulesModel" 22 8 5 := ⟨_, rfl, by decide, wl_mem 862 (by decide +kernel) rfl⟩
theorem fl_Mod_172 : wf_fl "LineRulesModel" 172 8 6 := ⟨_, rfl, by decide, wl_mem 863 (by decide +kernel) rfl⟩
theorem fl_Mod_26 : wf_fl "LineRulesModel" 26 8 7 := ⟨_, rfl, by decide, wl_mem 864 (by decide +kernel) rfl⟩
theorem fl_Mod_29 : wf_fl "LineRulesModel" 29 8 8 := ⟨_, rfl, by decide, wl_mem 865 (by decide +kernel) rfl⟩
theorem fl_Mod_32 : wf_fl "LineRulesModel" 32 8 9 := ⟨_, rfl, by decide, wl_mem 866 (by decide +kernel) rfl⟩
theorem fl_Mod_35 : wf_fl "LineRulesModel" 35 8 10 := ⟨_, rfl, by decide, wl_mem 867 (by decide +kernel) rfl⟩
theorem fl_Mod_38 : wf_fl "LineRulesModel" 38 8 11 := ⟨_, rfl, by decide, wl_mem 868 (by decide +kernel) rfl⟩
theorem fl_Mod_41 : wf_fl "LineRulesModel" 41 8 12 := ⟨_, rfl, by decide, wl_mem 869 (by decide +kernel) rfl⟩
theorem fl_Mod_44 : wf_fl "LineRulesModel" 44 8 13 := ⟨_, rfl, by decide, wl_mem 870 (by decide +kernel) rfl⟩
theorem fl_Mod_241 : wf_fl "LineRulesModel" 241 8 14 := ⟨_, rfl, by decide, wl_mem 871 (by decide +kernel) rfl⟩
theorem fl_Mod_178 : wf_fl "LineRulesModel" 178 8 15 := ⟨_, rfl, by decide, wl_mem 872 (by decide +kernel) rfl⟩
theorem fl_Mod_47 : wf_fl "LineRulesModel" 47 8 16 := ⟨_, rfl, by decide, wl_mem 873 (by decide +kernel) rfl⟩
theorem fl_Mod_50 : wf_fl "LineRulesModel" 50 8 17 := ⟨_, rfl, by decide, wl_mem 874 (by decide +kernel) rfl⟩
theorem fl_Mod_53 : wf_fl "LineRulesModel" 53 8 18 := ⟨_, rfl, by decide, wl_mem 875 (by decide +kernel) rfl⟩
theorem fl_Mod_200 : wf_fl "LineRulesModel" 200 8 19 := ⟨_, rfl, by decide, wl_mem 876 (by decide +kernel) rfl⟩
theorem fl_Mod_56 : wf_fl "LineRulesModel" 56 8 20 := ⟨_, rfl, by decide, wl_mem 877 (by decide +kernel) rfl⟩
theorem fl_Mod_59 : wf_fl "LineRulesModel" 59 8 21 := ⟨_, rfl, by decide, wl_mem 878 (by decide +kernel) rfl⟩
theorem fl_Mod_62 : wf_fl "LineRulesModel" 62 8 22 := ⟨_, rfl, by decide, wl_mem 879 (by decide +kernel) rfl⟩
theorem fl_Mod_190 : wf_fl "LineRulesModel" 190 8 23 := ⟨_, rfl, by decide, wl_mem 880 (by decide +kernel) rfl⟩
theorem fl_Mod_65 : wf_fl "LineRulesModel" 65 8 24 := ⟨_, rfl, by decide, wl_mem 881 (by decide +kernel) rfl⟩
theorem fl_Mod_68 : wf_fl "LineRulesModel" 68 8 25 := ⟨_, rfl, by decide, wl_mem 882 (by decide +kernel) rfl⟩
theorem fl_Mod_114 : wf_fl "LineRulesModel" 114 8 26 := ⟨_, rfl, by decide, wl_mem 883 (by decide +kernel) rfl⟩
theorem fl_Mod_117 : wf_fl "LineRulesModel" 117 8 27 := ⟨_, rfl, by decide, wl_mem 884 (by decide +kernel) rfl⟩
theorem fl_Mod_71 : wf_fl "LineRulesModel" 71 8 28 := ⟨_, rfl, by decide, wl_mem 885 (by decide +kernel) rfl⟩
theorem fl_Mod_74 : wf_fl "LineRulesModel" 74 8 29 := ⟨_, rfl, by decide, wl_mem 886 (by decide +kernel) rfl⟩
theorem fl_Mod_77 : wf_fl "LineRulesModel" 77 8 30 := ⟨_, rfl, by decide, wl_mem 887 (by decide +kernel) rfl⟩
theorem fl_Mod_80 : wf_fl "LineRulesModel" 80 8 31 := ⟨_, rfl, by decide, wl_mem 888 (by decide +kernel) rfl⟩
theorem fl_Mod_83 : wf_fl "LineRulesModel" 83 8 32 := ⟨_, rfl, by decide, wl_mem 889 (by decide +kernel) rfl⟩
theorem fl_Mod_87 : wf_fl "LineRulesModel" 87 8 33 := ⟨_, rfl, by decide, wl_mem 890 (by decide +kernel) rfl⟩
theorem fl_Mod_90 : wf_fl "LineRulesModel" 90 8 34 := ⟨_, rfl, by decide, wl_mem 891 (by decide +kernel) rfl⟩
theorem fl_Mod_93 : wf_fl "LineRulesModel" 93 8 35 := ⟨_, rfl, by decide, wl_mem 892 (by decide +kernel) rfl⟩
theorem fl_Mod_96 : wf_fl "LineRulesModel" 96 8 36 := ⟨_, rfl, by decide, wl_mem 893 (by decide +kernel) rfl⟩
theorem fl_Mod_120 : wf_fl "LineRulesModel" 120 8 37 := ⟨_, rfl, by decide, wl_mem 894 (by decide +kernel) rfl⟩
theorem fl_Mod_160 : wf_fl "LineRulesModel" 160 8 38 := ⟨_, rfl, by decide, wl_mem 895 (by decide +kernel) rfl⟩
theorem fl_Mod_163 : wf_fl "LineRulesModel" 163 8 39 := ⟨_, rfl, by decide, wl_mem 896 (by decide +kernel) rfl⟩
theorem fi_LR_0 : wf_fi "LineRules" 0 0 := ⟨_, rfl, rfl, rfl⟩
theorem fi_LR_1 : wf_fi "LineRules" 0 1 := ⟨_, rfl, rfl, rfl⟩
theorem fi_LR_2 : wf_fi "LineRules" 0 2 := ⟨_, rfl, rfl, rfl⟩
theorem fi_LR_3 : wf_fi "LineRules" 0 3 := ⟨_, rfl, rfl, rfl⟩
theorem fi_LR_4 : wf_fi "LineRules" 0 4 := ⟨_, rfl, rfl, rfl⟩
theorem fi_LR_5 : wf_fi "LineRules" 0 5 := ⟨_, rfl, rfl, rfl⟩
theorem fi_LR_6 : wf_fi "LineRules" 0 6 := ⟨_, rfl, rfl, rfl⟩
theorem fi_LR_7 : wf_fi "LineRules" 0 7 := ⟨_, rfl, rfl, rfl⟩
theorem fi_LR_8 : wf_fi "LineRules" 0 8 := ⟨_, rfl, rfl, rfl⟩
theorem fi_LR_9 : wf_fi "LineRules" 0 9 := ⟨_, rfl, rfl, rfl⟩
theorem nf_LR_10 : wf_nf 0 10 := ⟨_, rfl, rfl⟩
theorem nf_LR_11 : wf_nf 0 11 := ⟨_, rfl, rfl⟩
theorem nf_LR_12 : wf_nf 0 12 := ⟨_, rfl, rfl⟩
theorem nf_LR_13 : wf_nf 0 13 := ⟨_, rfl, rfl⟩
theorem fi_Cut_0 : wf_fi "LineRules$CutLine" 1 0 := ⟨_, rfl, rfl, rfl⟩
theorem nf_Cut_1 : wf_nf 1 1 := ⟨_, rfl, rfl⟩
theorem fi_Cut_2 : wf_fi "LineRules$CutLine" 1 2 := ⟨_, rfl, rfl, rfl⟩
theorem fi_Cut_3 : wf_fi "LineRules$CutLine" 1 3 := ⟨_, rfl, rfl, rfl⟩
theorem fi_Cut_4 : wf_fi "LineRules$CutLine" 1 4 := ⟨_, rfl, rfl, rfl⟩
theorem fi_Exp_0 : wf_fi "LineRules$Expression" 2 0 := ⟨_, rfl, rfl, rfl⟩
theorem fi_Exp_1 : wf_fi "LineRules$Expression" 2 1 := ⟨_, rfl, rfl, rfl⟩
theorem fi_Exp_2 : wf_fi "LineRules$Expression" 2 2 := ⟨_, rfl, rfl, rfl⟩
theorem fi_Exp_3 : wf_fi "LineRules$Expression" 2 3 := ⟨_, rfl, rfl, rfl⟩
theorem fi_Exp_4 : wf_fi "LineRules$Expression" 2 4 := ⟨_, rfl, rfl, rfl⟩
theorem nf_Exp_5 : wf_nf 2 5 := ⟨_, rfl, rfl⟩
theorem fi_Out_0 : wf_fi "LineRules$Output" 3 0 := ⟨_, rfl, rfl, rfl⟩
theorem nf_Out_1 : wf_nf 3 1 := ⟨_, rfl, rfl⟩
theorem fi_Rdr_0 : wf_fi "LineRules$Reader" 4 0 := ⟨_, rfl, rfl, rfl⟩
theorem fi_Rdr_1 : wf_fi "LineRules$Reader" 4 1 := ⟨_, rfl, rfl, rfl⟩
theorem fi_Rdr_2 : wf_fi "LineRules$Reader" 4 2 := ⟨_, rfl, rfl, rfl⟩
theorem fi_Rdr_3 : wf_fi "LineRules$Reader" 4 3 := ⟨_, rfl, rfl, rfl⟩
theorem fi_Rdr_4 : wf_fi "LineRules$Reader" 4 4 := ⟨_, rfl, rfl, rfl⟩
theorem fi_Rdr_5 : wf_fi "LineRules$Reader" 4 5 := ⟨_, rfl, rfl, rfl⟩
theorem nf_Rdr_6 : wf_nf 4 6 := ⟨_, rfl, rfl⟩
theorem nf_Rdr_7 : wf_nf 4 7 := ⟨_, rfl, rfl⟩
theorem nf_Rdr_8 : wf_nf 4 8 := ⟨_, rfl, rfl⟩
theorem nf_Rdr_9 : wf_nf 4 9 := ⟨_, rfl, rfl⟩
theorem nf_Rdr_10 : wf_nf 4 10 := ⟨_, rfl, rfl⟩
theorem fi_Row_0 : wf_fi "LineRules$Row" 5 0 := ⟨_, rfl, rfl, rfl⟩
theorem nf_Row_1 : wf_nf 5 1 := ⟨_, rfl, rfl⟩
theorem nf_Rul_0 : wf_nf 6 0 := ⟨_, rfl, rfl⟩
theorem nf_Rul_1 : wf_nf 6 1 := ⟨_, rfl, rfl⟩
theorem nf_Rul_2 : wf_nf 6 2 := ⟨_, rfl, rfl⟩
theorem fi_Rul_3 : wf_fi "LineRules$Rule" 6 3 := ⟨_, rfl, rfl, rfl⟩
theorem fi_Rul_4 : wf_fi "LineRules$Rule" 6 4 := ⟨_, rfl, rfl, rfl⟩
theorem fi_Rul_5 : wf_fi "LineRules$Rule" 6 5 := ⟨_, rfl, rfl, rfl⟩
theorem nf_Rul_6 : wf_nf 6 6 := ⟨_, rfl, rfl⟩
theorem fi_Tab_0 : wf_fi "LineRules$Table" 7 0 := ⟨_, rfl, rfl, rfl⟩
theorem fi_Tab_1 : wf_fi "LineRules$Table" 7 1 := ⟨_, rfl, rfl, rfl⟩
theorem nf_Tab_2 : wf_nf 7 2 := ⟨_, rfl, rfl⟩
theorem nf_Mod_0 : wf_nf 8 0 := ⟨_, rfl, rfl⟩
theorem fi_Mod_1 : wf_fi "LineRulesModel" 8 1 := ⟨_, rfl, rfl, rfl⟩
theorem fi_Mod_2 : wf_fi "LineRulesModel" 8 2 := ⟨_, rfl, rfl, rfl⟩
theorem fi_Mod_3 : wf_fi "LineRulesModel" 8 3 := ⟨_, rfl, rfl, rfl⟩
theorem fi_Mod_4 : wf_fi "LineRulesModel" 8 4 := ⟨_, rfl, rfl, rfl⟩
theorem nf_Mod_5 : wf_nf 8 5 := ⟨_, rfl, rfl⟩
theorem nf_Mod_6 : wf_nf 8 6 := ⟨_, rfl, rfl⟩
theorem fi_Mod_7 : wf_fi "LineRulesModel" 8 7 := ⟨_, rfl, rfl, rfl⟩
theorem fi_Mod_8 : wf_fi "LineRulesModel" 8 8 := ⟨_, rfl, rfl, rfl⟩
theorem fi_Mod_9 : wf_fi "LineRulesModel" 8 9 := ⟨_, rfl, rfl, rfl⟩
theorem fi_Mod_10 : wf_fi "LineRulesModel" 8 10 := ⟨_, rfl, rfl, rfl⟩
theorem fi_Mod_11 : wf_fi "LineRulesModel" 8 11 := ⟨_, rfl, rfl, rfl⟩
theorem fi_Mod_12 : wf_fi "LineRulesModel" 8 12 := ⟨_, rfl, rfl, rfl⟩
theorem fi_Mod_13 : wf_fi "LineRulesModel" 8 13 := ⟨_, rfl, rfl, rfl⟩
theorem nf_Mod_14 : wf_nf 8 14 := ⟨_, rfl, rfl⟩
theorem nf_Mod_15 : wf_nf 8 15 := ⟨_, rfl, rfl⟩
theorem fi_Mod_16 : wf_fi "LineRulesModel" 8 16 := ⟨_, rfl, rfl, rfl⟩
theorem fi_Mod_17 : wf_fi "LineRulesModel" 8 17 := ⟨_, rfl, rfl, rfl⟩
theorem fi_Mod_18 : wf_fi "LineRulesModel" 8 18 := ⟨_, rfl, rfl, rfl⟩
theorem nf_Mod_19 : wf_nf 8 19 := ⟨_, rfl, rfl⟩
theorem fi_Mod_20 : wf_fi "LineRulesModel" 8 20 := ⟨_, rfl, rfl, rfl⟩
theorem fi_Mod_21 : wf_fi "LineRulesModel" 8 21 := ⟨_, rfl, rfl, rfl⟩
theorem fi_Mod_22 : wf_fi "LineRulesModel" 8 22 := ⟨_, rfl, rfl, rfl⟩
theorem nf_Mod_23 : wf_nf 8 23 := ⟨_, rfl, rfl⟩
theorem fi_Mod_24 : wf_fi "LineRulesModel" 8 24 := ⟨_, rfl, rfl, rfl⟩
theorem nf_Mod_25 : wf_nf 8 25 := ⟨_, rfl, rfl⟩
theorem nf_Mod_26 : wf_nf 8 26 := ⟨_, rfl, rfl⟩
theorem nf_Mod_27 : wf_nf 8 27 := ⟨_, rfl, rfl⟩
theorem fi_Mod_28 : wf_fi "LineRulesModel" 8 28 := ⟨_, rfl, rfl, rfl⟩
theorem fi_Mod_29 : wf_fi "LineRulesModel" 8 29 := ⟨_, rfl, rfl, rfl⟩
theorem fi_Mod_30 : wf_fi "LineRulesModel" 8 30 := ⟨_, rfl, rfl, rfl⟩
theorem fi_Mod_31 : wf_fi "LineRulesModel" 8 31 := ⟨_, rfl, rfl, rfl⟩
theorem fi_Mod_32 : wf_fi "LineRulesModel" 8 32 := ⟨_, rfl, rfl, rfl⟩
theorem fi_Mod_33 : wf_fi "LineRulesModel" 8 33 := ⟨_, rfl, rfl, rfl⟩
theorem fi_Mod_34 : wf_fi "LineRulesModel" 8 34 := ⟨_, rfl, rfl, rfl⟩
theorem fi_Mod_35 : wf_fi "LineRulesModel" 8 35 := ⟨_, rfl, rfl, rfl⟩
theorem fi_Mod_36 : wf_fi "LineRulesModel" 8 36 := ⟨_, rfl, rfl, rfl⟩
theorem nf_Mod_37 : wf_nf 8 37 := ⟨_, rfl, rfl⟩
theorem nf_Mod_38 : wf_nf 8 38 := ⟨_, rfl, rfl⟩
theorem nf_Mod_39 : wf_nf 8 39 := ⟨_, rfl, rfl⟩
theorem nw_Law_8 : wf_nw "LineRulesLaw" 8 0 14 := ⟨_, rfl, rfl, wl_mem 82 (by decide +kernel) rfl, wl_mem 83 (by decide +kernel) rfl, wl_mem 64 (by decide +kernel) rfl, by decide⟩
theorem cl_Law_8 : Cond.classLink "LineRulesLaw" 8 "LineRules" ∈ wl_ALL := wl_mem 82 (by decide +kernel) rfl
theorem ml_Law_56 : Cond.methodLink "LineRulesLaw" 56 ⟨"LineRules", "<init>", "()V"⟩ ∈ wl_ALL := wl_mem 84 (by decide +kernel) rfl
theorem ml_LR_1 : Cond.methodLink "LineRules" 1 ⟨"java/lang/Object", "<init>", "()V"⟩ ∈ wl_ALL := wl_mem 87 (by decide +kernel) rfl
theorem nw_LR_7 : wf_nw "LineRules" 7 5 2 := ⟨_, rfl, rfl, wl_mem 90 (by decide +kernel) rfl, wl_mem 91 (by decide +kernel) rfl, wl_mem 65 (by decide +kernel) rfl, by decide⟩
theorem cl_LR_7 : Cond.classLink "LineRules" 7 "LineRules$Row" ∈ wl_ALL := wl_mem 90 (by decide +kernel) rfl
theorem ml_LR_11 : Cond.methodLink "LineRules" 11 ⟨"LineRules$Row", "<init>", "(I)V"⟩ ∈ wl_ALL := wl_mem 92 (by decide +kernel) rfl
theorem ml_Row_3 : Cond.methodLink "LineRules$Row" 3 ⟨"java/lang/Object", "<init>", "()V"⟩ ∈ wl_ALL := wl_mem 95 (by decide +kernel) rfl
theorem ac_int : Cond.arrayClass .int ∈ wl_ALL := wl_mem 114 (by decide +kernel) rfl
theorem nw_LR_22 : wf_nw "LineRules" 22 2 6 := ⟨_, rfl, rfl, wl_mem 116 (by decide +kernel) rfl, wl_mem 125 (by decide +kernel) rfl, wl_mem 67 (by decide +kernel) rfl, by decide⟩
theorem cl_LR_22 : Cond.classLink "LineRules" 22 "LineRules$Expression" ∈ wl_ALL := wl_mem 116 (by decide +kernel) rfl
theorem nw_LR_28 : wf_nw "LineRules" 28 4 11 := ⟨_, rfl, rfl, wl_mem 118 (by decide +kernel) rfl, wl_mem 119 (by decide +kernel) rfl, wl_mem 66 (by decide +kernel) rfl, by decide⟩
theorem cl_LR_28 : Cond.classLink "LineRules" 28 "LineRules$Reader" ∈ wl_ALL := wl_mem 118 (by decide +kernel) rfl
theorem ml_LR_30 : Cond.methodLink "LineRules" 30 ⟨"LineRules$Reader", "<init>", "()V"⟩ ∈ wl_ALL := wl_mem 120 (by decide +kernel) rfl
theorem ml_Rdr_3 : Cond.methodLink "LineRules$Reader" 3 ⟨"java/lang/Object", "<init>", "()V"⟩ ∈ wl_ALL := wl_mem 123 (by decide +kernel) rfl
theorem nw_Rdr_32 : wf_nw "LineRules$Reader" 32 2 6 := ⟨_, rfl, rfl, wl_mem 124 (by decide +kernel) rfl, wl_mem 125 (by decide +kernel) rfl, wl_mem 67 (by decide +kernel) rfl, by decide⟩
theorem cl_Rdr_32 : Cond.classLink "LineRules$Reader" 32 "LineRules$Expression" ∈ wl_ALL := wl_mem 124 (by decide +kernel) rfl
theorem ml_Rdr_34 : Cond.methodLink "LineRules$Reader" 34 ⟨"LineRules$Expression", "<init>", "()V"⟩ ∈ wl_ALL := wl_mem 126 (by decide +kernel) rfl
theorem ml_Exp_3 : Cond.methodLink "LineRules$Expression" 3 ⟨"java/lang/Object", "<init>", "()V"⟩ ∈ wl_ALL := wl_mem 129 (by decide +kernel) rfl
theorem ac_boolean : Cond.arrayClass .boolean ∈ wl_ALL := wl_mem 155 (by decide +kernel) rfl
theorem ac_long : Cond.arrayClass .long ∈ wl_ALL := wl_mem 156 (by decide +kernel) rfl
theorem nw_Rdr_39 : wf_nw "LineRules$Reader" 39 5 2 := ⟨_, rfl, rfl, wl_mem 157 (by decide +kernel) rfl, wl_mem 91 (by decide +kernel) rfl, wl_mem 65 (by decide +kernel) rfl, by decide⟩
theorem cl_Rdr_39 : Cond.classLink "LineRules$Reader" 39 "LineRules$Row" ∈ wl_ALL := wl_mem 157 (by decide +kernel) rfl
theorem ml_Rdr_41 : Cond.methodLink "LineRules$Reader" 41 ⟨"LineRules$Row", "<init>", "(I)V"⟩ ∈ wl_ALL := wl_mem 158 (by decide +kernel) rfl
theorem nw_LR_35 : wf_nw "LineRules" 35 6 7 := ⟨_, rfl, rfl, wl_mem 193 (by decide +kernel) rfl, wl_mem 256 (by decide +kernel) rfl, wl_mem 71 (by decide +kernel) rfl, by decide⟩
theorem cl_LR_35 : Cond.classLink "LineRules" 35 "LineRules$Rule" ∈ wl_ALL := wl_mem 193 (by decide +kernel) rfl
theorem nw_LR_41 : wf_nw "LineRules" 41 1 5 := ⟨_, rfl, rfl, wl_mem 195 (by decide +kernel) rfl, wl_mem 196 (by decide +kernel) rfl, wl_mem 68 (by decide +kernel) rfl, by decide⟩
theorem cl_LR_41 : Cond.classLink "LineRules" 41 "LineRules$CutLine" ∈ wl_ALL := wl_mem 195 (by decide +kernel) rfl
theorem ml_LR_43 : Cond.methodLink "LineRules" 43 ⟨"LineRules$CutLine", "<init>", "()V"⟩ ∈ wl_ALL := wl_mem 197 (by decide +kernel) rfl
theorem ml_Cut_3 : Cond.methodLink "LineRules$CutLine" 3 ⟨"java/lang/Object", "<init>", "()V"⟩ ∈ wl_ALL := wl_mem 200 (by decide +kernel) rfl
theorem nw_Cut_9 : wf_nw "LineRules$CutLine" 9 5 2 := ⟨_, rfl, rfl, wl_mem 201 (by decide +kernel) rfl, wl_mem 91 (by decide +kernel) rfl, wl_mem 65 (by decide +kernel) rfl, by decide⟩
theorem cl_Cut_9 : Cond.classLink "LineRules$CutLine" 9 "LineRules$Row" ∈ wl_ALL := wl_mem 201 (by decide +kernel) rfl
theorem ml_Cut_11 : Cond.methodLink "LineRules$CutLine" 11 ⟨"LineRules$Row", "<init>", "(I)V"⟩ ∈ wl_ALL := wl_mem 202 (by decide +kernel) rfl
theorem nw_LR_52 : wf_nw "LineRules" 52 7 3 := ⟨_, rfl, rfl, wl_mem 221 (by decide +kernel) rfl, wl_mem 222 (by decide +kernel) rfl, wl_mem 69 (by decide +kernel) rfl, by decide⟩
theorem cl_LR_52 : Cond.classLink "LineRules" 52 "LineRules$Table" ∈ wl_ALL := wl_mem 221 (by decide +kernel) rfl
theorem ml_LR_54 : Cond.methodLink "LineRules" 54 ⟨"LineRules$Table", "<init>", "()V"⟩ ∈ wl_ALL := wl_mem 223 (by decide +kernel) rfl
theorem ml_Tab_3 : Cond.methodLink "LineRules$Table" 3 ⟨"java/lang/Object", "<init>", "()V"⟩ ∈ wl_ALL := wl_mem 226 (by decide +kernel) rfl
theorem nw_Tab_9 : wf_nw "LineRules$Table" 9 5 2 := ⟨_, rfl, rfl, wl_mem 227 (by decide +kernel) rfl, wl_mem 91 (by decide +kernel) rfl, wl_mem 65 (by decide +kernel) rfl, by decide⟩
theorem cl_Tab_9 : Cond.classLink "LineRules$Table" 9 "LineRules$Row" ∈ wl_ALL := wl_mem 227 (by decide +kernel) rfl
theorem nw_LR_59 : wf_nw "LineRules" 59 3 2 := ⟨_, rfl, rfl, wl_mem 241 (by decide +kernel) rfl, wl_mem 242 (by decide +kernel) rfl, wl_mem 70 (by decide +kernel) rfl, by decide⟩
theorem cl_LR_59 : Cond.classLink "LineRules" 59 "LineRules$Output" ∈ wl_ALL := wl_mem 241 (by decide +kernel) rfl
theorem ml_LR_61 : Cond.methodLink "LineRules" 61 ⟨"LineRules$Output", "<init>", "()V"⟩ ∈ wl_ALL := wl_mem 243 (by decide +kernel) rfl
theorem ml_Out_3 : Cond.methodLink "LineRules$Output" 3 ⟨"java/lang/Object", "<init>", "()V"⟩ ∈ wl_ALL := wl_mem 246 (by decide +kernel) rfl
theorem ml_LR_76 : Cond.methodLink "LineRules" 76 ⟨"LineRules$Expression", "<init>", "()V"⟩ ∈ wl_ALL := wl_mem 255 (by decide +kernel) rfl
theorem ml_LR_77 : Cond.methodLink "LineRules" 77 ⟨"LineRules$Rule", "<init>", "()V"⟩ ∈ wl_ALL := wl_mem 257 (by decide +kernel) rfl
theorem ml_Rul_3 : Cond.methodLink "LineRules$Rule" 3 ⟨"java/lang/Object", "<init>", "()V"⟩ ∈ wl_ALL := wl_mem 260 (by decide +kernel) rfl
theorem ml_Law_70 : Cond.methodLink "LineRulesLaw" 70 ⟨"LineRules", "clear", "()I"⟩ ∈ wl_ALL := wl_mem 333 (by decide +kernel) rfl
theorem ml_LR_95 : Cond.methodLink "LineRules" 95 ⟨"LineRules$Row", "drop", "()V"⟩ ∈ wl_ALL := wl_mem 337 (by decide +kernel) rfl
theorem ml_Law_92 : Cond.methodLink "LineRulesLaw" 92 ⟨"LineRules", "forget", "()I"⟩ ∈ wl_ALL := wl_mem 341 (by decide +kernel) rfl
theorem ml_Law_96 : Cond.methodLink "LineRulesLaw" 96 ⟨"LineRules", "line", "()I"⟩ ∈ wl_ALL := wl_mem 345 (by decide +kernel) rfl
theorem ml_LR_165 : Cond.methodLink "LineRules" 165 ⟨"LineRules$CutLine", "begin", "(LLineRules$Row;I)V"⟩ ∈ wl_ALL := wl_mem 349 (by decide +kernel) rfl
theorem ml_Cut_30 : Cond.methodLink "LineRules$CutLine" 30 ⟨"LineRules$Row", "become", "(LLineRules$Row;)V"⟩ ∈ wl_ALL := wl_mem 353 (by decide +kernel) rfl
theorem ml_Row_19 : Cond.methodLink "LineRules$Row" 19 ⟨"java/lang/Math", "min", "(II)I"⟩ ∈ wl_ALL := wl_mem 357 (by decide +kernel) rfl
theorem ml_Row_25 : Cond.methodLink "LineRules$Row" 25 ⟨"java/lang/System", "arraycopy", "(Ljava/lang/Object;ILjava/lang/Object;II)V"⟩ ∈ wl_ALL := wl_mem 360 (by decide +kernel) rfl
theorem ml_Cut_34 : Cond.methodLink "LineRules$CutLine" 34 ⟨"LineRules$CutLine", "cut", "(I)V"⟩ ∈ wl_ALL := wl_mem 363 (by decide +kernel) rfl
theorem ml_Cut_48 : Cond.methodLink "LineRules$CutLine" 48 ⟨"LineRules$CutLine", "addField", "(II)V"⟩ ∈ wl_ALL := wl_mem 367 (by decide +kernel) rfl
theorem ml_Cut_52 : Cond.methodLink "LineRules$CutLine" 52 ⟨"LineRules$Row", "drop", "()V"⟩ ∈ wl_ALL := wl_mem 371 (by decide +kernel) rfl
theorem ml_Cut_55 : Cond.methodLink "LineRules$CutLine" 55 ⟨"LineRules$Row", "addPart", "(LLineRules$Row;II)V"⟩ ∈ wl_ALL := wl_mem 372 (by decide +kernel) rfl
theorem ml_LR_171 : Cond.methodLink "LineRules" 171 ⟨"LineRules", "hasPattern", "(LLineRules$Rule;)Z"⟩ ∈ wl_ALL := wl_mem 376 (by decide +kernel) rfl
theorem ml_LR_180 : Cond.methodLink "LineRules" 180 ⟨"LineRules$Expression", "firstFrom", "(LLineRules$Row;I)I"⟩ ∈ wl_ALL := wl_mem 380 (by decide +kernel) rfl
theorem ml_Exp_43 : Cond.methodLink "LineRules$Expression" 43 ⟨"LineRules$Expression", "longestFrom", "(LLineRules$Row;I)I"⟩ ∈ wl_ALL := wl_mem 384 (by decide +kernel) rfl
theorem ml_Exp_47 : Cond.methodLink "LineRules$Expression" 47 ⟨"LineRules$Expression", "kindOf", "(II)I"⟩ ∈ wl_ALL := wl_mem 388 (by decide +kernel) rfl
theorem ml_Exp_55 : Cond.methodLink "LineRules$Expression" 55 ⟨"LineRules$Expression", "followersOf", "(J)J"⟩ ∈ wl_ALL := wl_mem 391 (by decide +kernel) rfl
theorem ml_LR_195 : Cond.methodLink "LineRules" 195 ⟨"LineRules$CutLine", "fieldText", "(I)LLineRules$Row;"⟩ ∈ wl_ALL := wl_mem 395 (by decide +kernel) rfl
theorem ml_LR_248 : Cond.methodLink "LineRules" 248 ⟨"LineRules$Row", "toNumber", "()I"⟩ ∈ wl_ALL := wl_mem 399 (by decide +kernel) rfl
theorem ml_LR_175 : Cond.methodLink "LineRules" 175 ⟨"LineRules", "doActions", "(LLineRules$Rule;)Z"⟩ ∈ wl_ALL := wl_mem 403 (by decide +kernel) rfl
theorem ml_LR_263 : Cond.methodLink "LineRules" 263 ⟨"LineRules", "doAction", "(III)V"⟩ ∈ wl_ALL := wl_mem 407 (by decide +kernel) rfl
theorem ml_LR_266 : Cond.methodLink "LineRules" 266 ⟨"LineRules$Output", "print", "(LLineRules$Row;)V"⟩ ∈ wl_ALL := wl_mem 411 (by decide +kernel) rfl
theorem ml_Out_21 : Cond.methodLink "LineRules$Output" 21 ⟨"LineRules$Output", "printPart", "(LLineRules$Row;II)V"⟩ ∈ wl_ALL := wl_mem 415 (by decide +kernel) rfl
theorem ml_Out_28 : Cond.methodLink "LineRules$Output" 28 ⟨"LineRules$Output", "add", "(I)V"⟩ ∈ wl_ALL := wl_mem 419 (by decide +kernel) rfl
theorem ml_Out_35 : Cond.methodLink "LineRules$Output" 35 ⟨"java/lang/Math", "floorMod", "(II)I"⟩ ∈ wl_ALL := wl_mem 423 (by decide +kernel) rfl
theorem ml_LR_269 : Cond.methodLink "LineRules" 269 ⟨"LineRules$Table", "grow", "(LLineRules$Row;I)V"⟩ ∈ wl_ALL := wl_mem 426 (by decide +kernel) rfl
theorem ml_Tab_21 : Cond.methodLink "LineRules$Table" 21 ⟨"LineRules$Table", "placeOf", "(LLineRules$Row;)I"⟩ ∈ wl_ALL := wl_mem 430 (by decide +kernel) rfl
theorem ml_Tab_29 : Cond.methodLink "LineRules$Table" 29 ⟨"LineRules$Row", "compareWith", "(LLineRules$Row;)I"⟩ ∈ wl_ALL := wl_mem 434 (by decide +kernel) rfl
theorem ml_Tab_32 : Cond.methodLink "LineRules$Table" 32 ⟨"LineRules$Table", "insert", "(ILLineRules$Row;I)V"⟩ ∈ wl_ALL := wl_mem 438 (by decide +kernel) rfl
theorem ml_Tab_39 : Cond.methodLink "LineRules$Table" 39 ⟨"LineRules$Row", "<init>", "(I)V"⟩ ∈ wl_ALL := wl_mem 442 (by decide +kernel) rfl
theorem ml_Tab_42 : Cond.methodLink "LineRules$Table" 42 ⟨"LineRules$Row", "become", "(LLineRules$Row;)V"⟩ ∈ wl_ALL := wl_mem 443 (by decide +kernel) rfl
theorem ml_LR_272 : Cond.methodLink "LineRules" 272 ⟨"LineRules$CutLine", "setField", "(ILLineRules$Row;I)V"⟩ ∈ wl_ALL := wl_mem 444 (by decide +kernel) rfl
theorem ml_Cut_59 : Cond.methodLink "LineRules$CutLine" 59 ⟨"LineRules$CutLine", "fieldText", "(I)LLineRules$Row;"⟩ ∈ wl_ALL := wl_mem 448 (by decide +kernel) rfl
theorem ml_Cut_63 : Cond.methodLink "LineRules$CutLine" 63 ⟨"LineRules$CutLine", "join", "(I)V"⟩ ∈ wl_ALL := wl_mem 449 (by decide +kernel) rfl
theorem ml_Cut_66 : Cond.methodLink "LineRules$CutLine" 66 ⟨"LineRules$Row", "add", "(I)V"⟩ ∈ wl_ALL := wl_mem 453 (by decide +kernel) rfl
theorem ml_Cut_69 : Cond.methodLink "LineRules$CutLine" 69 ⟨"LineRules$Row", "addAll", "(LLineRules$Row;)V"⟩ ∈ wl_ALL := wl_mem 457 (by decide +kernel) rfl
theorem ml_Row_31 : Cond.methodLink "LineRules$Row" 31 ⟨"LineRules$Row", "addPart", "(LLineRules$Row;II)V"⟩ ∈ wl_ALL := wl_mem 461 (by decide +kernel) rfl
theorem ml_LR_276 : Cond.methodLink "LineRules" 276 ⟨"LineRules$Row", "becomeNumber", "(I)V"⟩ ∈ wl_ALL := wl_mem 462 (by decide +kernel) rfl
theorem ml_Row_35 : Cond.methodLink "LineRules$Row" 35 ⟨"LineRules$Row", "drop", "()V"⟩ ∈ wl_ALL := wl_mem 466 (by decide +kernel) rfl
theorem ml_Row_38 : Cond.methodLink "LineRules$Row" 38 ⟨"LineRules$Row", "add", "(I)V"⟩ ∈ wl_ALL := wl_mem 467 (by decide +kernel) rfl
theorem kl_Row_42 : Cond.constantLong "LineRules$Row" 42 10 ∈ wl_ALL := wl_mem 468 (by decide +kernel) rfl
theorem ml_LR_279 : Cond.methodLink "LineRules" 279 ⟨"LineRules$CutLine", "replace", "(LLineRules$Expression;LLineRules$Row;I)V"⟩ ∈ wl_ALL := wl_mem 469 (by decide +kernel) rfl
theorem ml_Cut_72 : Cond.methodLink "LineRules$CutLine" 72 ⟨"LineRules$Expression", "firstFrom", "(LLineRules$Row;I)I"⟩ ∈ wl_ALL := wl_mem 473 (by decide +kernel) rfl
theorem ml_Cut_78 : Cond.methodLink "LineRules$CutLine" 78 ⟨"LineRules$Expression", "longestFrom", "(LLineRules$Row;I)I"⟩ ∈ wl_ALL := wl_mem 474 (by decide +kernel) rfl
theorem ml_Cut_81 : Cond.methodLink "LineRules$CutLine" 81 ⟨"LineRules$CutLine", "matchBehind", "(LLineRules$Expression;I)I"⟩ ∈ wl_ALL := wl_mem 475 (by decide +kernel) rfl
theorem ml_LR_283 : Cond.methodLink "LineRules" 283 ⟨"LineRules$CutLine", "cut", "(I)V"⟩ ∈ wl_ALL := wl_mem 479 (by decide +kernel) rfl
theorem ml_LR_286 : Cond.methodLink "LineRules" 286 ⟨"LineRules", "printMatch", "(LLineRules$Expression;)V"⟩ ∈ wl_ALL := wl_mem 480 (by decide +kernel) rfl
theorem ml_LR_184 : Cond.methodLink "LineRules" 184 ⟨"LineRules$Expression", "longestFrom", "(LLineRules$Row;I)I"⟩ ∈ wl_ALL := wl_mem 484 (by decide +kernel) rfl
theorem ml_LR_290 : Cond.methodLink "LineRules" 290 ⟨"LineRules$Output", "printPart", "(LLineRules$Row;II)V"⟩ ∈ wl_ALL := wl_mem 485 (by decide +kernel) rfl
theorem ml_Law_104 : Cond.methodLink "LineRulesLaw" 104 ⟨"LineRules", "end", "()I"⟩ ∈ wl_ALL := wl_mem 486 (by decide +kernel) rfl
theorem ml_Law_60 : Cond.methodLink "LineRulesLaw" 60 ⟨"LineRulesLaw", "feed", "(LLineRules;IIIII[J)I"⟩ ∈ wl_ALL := wl_mem 490 (by decide +kernel) rfl
theorem cl_Law_13 : Cond.classLink "LineRulesLaw" 13 "java/lang/IllegalStateException" ∈ wl_ALL := wl_mem 493 (by decide +kernel) rfl
theorem ml_Law_7 : Cond.methodLink "LineRulesLaw" 7 ⟨"LineRules", "feed", "(IIIII)I"⟩ ∈ wl_ALL := wl_mem 494 (by decide +kernel) rfl
theorem ml_LR_78 : Cond.methodLink "LineRules" 78 ⟨"LineRules", "signsIn", "(I)I"⟩ ∈ wl_ALL := wl_mem 498 (by decide +kernel) rfl
theorem cl_LR_85 : Cond.classLink "LineRules" 85 "java/lang/IllegalStateException" ∈ wl_ALL := wl_mem 501 (by decide +kernel) rfl
theorem ml_LR_89 : Cond.methodLink "LineRules" 89 ⟨"java/lang/IllegalStateException", "<init>", "(Ljava/lang/String;)V"⟩ ∈ wl_ALL := wl_mem 543 (by decide +kernel) rfl
theorem ac_byte : Cond.arrayClass .byte ∈ wl_ALL := wl_mem 568 (by decide +kernel) rfl
theorem ml_LR_92 : Cond.methodLink "LineRules" 92 ⟨"LineRules", "addToPad", "(I)V"⟩ ∈ wl_ALL := wl_mem 569 (by decide +kernel) rfl
theorem ml_LR_234 : Cond.methodLink "LineRules" 234 ⟨"LineRules$Row", "add", "(I)V"⟩ ∈ wl_ALL := wl_mem 573 (by decide +kernel) rfl
theorem ml_Law_74 : Cond.methodLink "LineRulesLaw" 74 ⟨"LineRulesLaw", "expression", "(LLineRules;I[J)I"⟩ ∈ wl_ALL := wl_mem 574 (by decide +kernel) rfl
theorem cl_Law_19 : Cond.classLink "LineRulesLaw" 19 "java/util/NoSuchElementException" ∈ wl_ALL := wl_mem 577 (by decide +kernel) rfl
theorem ml_Law_15 : Cond.methodLink "LineRulesLaw" 15 ⟨"LineRules", "expression", "(I)I"⟩ ∈ wl_ALL := wl_mem 578 (by decide +kernel) rfl
theorem ml_LR_98 : Cond.methodLink "LineRules" 98 ⟨"LineRules", "isExpression", "(I)Z"⟩ ∈ wl_ALL := wl_mem 582 (by decide +kernel) rfl
theorem cl_LR_102 : Cond.classLink "LineRules" 102 "java/util/NoSuchElementException" ∈ wl_ALL := wl_mem 585 (by decide +kernel) rfl
theorem ml_LR_106 : Cond.methodLink "LineRules" 106 ⟨"java/util/NoSuchElementException", "<init>", "(Ljava/lang/String;)V"⟩ ∈ wl_ALL := wl_mem 595 (by decide +kernel) rfl
theorem ml_LR_109 : Cond.methodLink "LineRules" 109 ⟨"LineRules$Reader", "read", "(LLineRules$Row;)I"⟩ ∈ wl_ALL := wl_mem 602 (by decide +kernel) rfl
theorem ml_Rdr_58 : Cond.methodLink "LineRules$Reader" 58 ⟨"LineRules$Expression", "drop", "()V"⟩ ∈ wl_ALL := wl_mem 606 (by decide +kernel) rfl
theorem ml_Exp_28 : Cond.methodLink "LineRules$Expression" 28 ⟨"java/util/Arrays", "fill", "([JJ)V"⟩ ∈ wl_ALL := wl_mem 610 (by decide +kernel) rfl
theorem ml_Rdr_61 : Cond.methodLink "LineRules$Reader" 61 ⟨"LineRules$Reader", "alternation", "(I)I"⟩ ∈ wl_ALL := wl_mem 613 (by decide +kernel) rfl
theorem ml_Rdr_80 : Cond.methodLink "LineRules$Reader" 80 ⟨"LineRules$Reader", "sequence", "(I)I"⟩ ∈ wl_ALL := wl_mem 617 (by decide +kernel) rfl
theorem ml_Rdr_86 : Cond.methodLink "LineRules$Reader" 86 ⟨"LineRules$Reader", "node", "(III)I"⟩ ∈ wl_ALL := wl_mem 621 (by decide +kernel) rfl
theorem ml_Rdr_68 : Cond.methodLink "LineRules$Reader" 68 ⟨"LineRules$Reader", "refuse", "()I"⟩ ∈ wl_ALL := wl_mem 625 (by decide +kernel) rfl
theorem ml_Rdr_83 : Cond.methodLink "LineRules$Reader" 83 ⟨"LineRules$Reader", "next", "()I"⟩ ∈ wl_ALL := wl_mem 629 (by decide +kernel) rfl
theorem ml_Rdr_90 : Cond.methodLink "LineRules$Reader" 90 ⟨"LineRules$Reader", "atom", "(I)I"⟩ ∈ wl_ALL := wl_mem 633 (by decide +kernel) rfl
theorem ml_Rdr_96 : Cond.methodLink "LineRules$Reader" 96 ⟨"LineRules$Reader", "isRepeat", "(I)Z"⟩ ∈ wl_ALL := wl_mem 637 (by decide +kernel) rfl
theorem ml_Rdr_103 : Cond.methodLink "LineRules$Reader" 103 ⟨"LineRules$Reader", "anySign", "()I"⟩ ∈ wl_ALL := wl_mem 640 (by decide +kernel) rfl
theorem ml_Rdr_118 : Cond.methodLink "LineRules$Reader" 118 ⟨"LineRules$Reader", "newAtom", "()J"⟩ ∈ wl_ALL := wl_mem 644 (by decide +kernel) rfl
theorem ml_Rdr_122 : Cond.methodLink "LineRules$Reader" 122 ⟨"LineRules$Reader", "take", "(JII)V"⟩ ∈ wl_ALL := wl_mem 648 (by decide +kernel) rfl
theorem ml_Rdr_106 : Cond.methodLink "LineRules$Reader" 106 ⟨"LineRules$Reader", "escaped", "()I"⟩ ∈ wl_ALL := wl_mem 652 (by decide +kernel) rfl
theorem ml_Rdr_109 : Cond.methodLink "LineRules$Reader" 109 ⟨"LineRules$Reader", "one", "(I)I"⟩ ∈ wl_ALL := wl_mem 656 (by decide +kernel) rfl
theorem ml_Rdr_112 : Cond.methodLink "LineRules$Reader" 112 ⟨"LineRules$Reader", "items", "()I"⟩ ∈ wl_ALL := wl_mem 660 (by decide +kernel) rfl
theorem ml_Rdr_129 : Cond.methodLink "LineRules$Reader" 129 ⟨"LineRules$Reader", "item", "(J)V"⟩ ∈ wl_ALL := wl_mem 664 (by decide +kernel) rfl
theorem ml_Rdr_136 : Cond.methodLink "LineRules$Reader" 136 ⟨"LineRules$Reader", "isItemSign", "(I)Z"⟩ ∈ wl_ALL := wl_mem 668 (by decide +kernel) rfl
theorem ml_Rdr_133 : Cond.methodLink "LineRules$Reader" 133 ⟨"LineRules$Reader", "takeOthers", "(J)V"⟩ ∈ wl_ALL := wl_mem 671 (by decide +kernel) rfl
theorem ml_Rdr_115 : Cond.methodLink "LineRules$Reader" 115 ⟨"LineRules$Reader", "group", "(I)I"⟩ ∈ wl_ALL := wl_mem 675 (by decide +kernel) rfl
theorem ml_Rdr_93 : Cond.methodLink "LineRules$Reader" 93 ⟨"LineRules$Reader", "repeated", "(I)I"⟩ ∈ wl_ALL := wl_mem 679 (by decide +kernel) rfl
theorem ml_Rdr_100 : Cond.methodLink "LineRules$Reader" 100 ⟨"LineRules$Reader", "repeatKind", "(I)I"⟩ ∈ wl_ALL := wl_mem 683 (by decide +kernel) rfl
theorem ml_Rdr_72 : Cond.methodLink "LineRules$Reader" 72 ⟨"LineRules$Reader", "weighAll", "(I)V"⟩ ∈ wl_ALL := wl_mem 686 (by decide +kernel) rfl
theorem ml_Rdr_145 : Cond.methodLink "LineRules$Reader" 145 ⟨"LineRules$Reader", "weigh", "(II)V"⟩ ∈ wl_ALL := wl_mem 690 (by decide +kernel) rfl
theorem ml_Rdr_152 : Cond.methodLink "LineRules$Reader" 152 ⟨"LineRules$Reader", "set", "(IZJJ)V"⟩ ∈ wl_ALL := wl_mem 694 (by decide +kernel) rfl
theorem ml_Rdr_149 : Cond.methodLink "LineRules$Reader" 149 ⟨"LineRules$Reader", "link", "(I)V"⟩ ∈ wl_ALL := wl_mem 698 (by decide +kernel) rfl
theorem ml_Rdr_156 : Cond.methodLink "LineRules$Reader" 156 ⟨"LineRules$Reader", "follow", "(JJ)V"⟩ ∈ wl_ALL := wl_mem 702 (by decide +kernel) rfl
theorem ml_LR_113 : Cond.methodLink "LineRules" 113 ⟨"LineRules$Reader", "exchange", "(LLineRules$Expression;)LLineRules$Expression;"⟩ ∈ wl_ALL := wl_mem 706 (by decide +kernel) rfl
theorem ml_Law_78 : Cond.methodLink "LineRulesLaw" 78 ⟨"LineRulesLaw", "text", "(LLineRules;I[J)I"⟩ ∈ wl_ALL := wl_mem 710 (by decide +kernel) rfl
theorem ml_Law_21 : Cond.methodLink "LineRulesLaw" 21 ⟨"LineRules", "text", "(I)I"⟩ ∈ wl_ALL := wl_mem 713 (by decide +kernel) rfl
theorem ml_LR_117 : Cond.methodLink "LineRules" 117 ⟨"LineRules", "isText", "(I)Z"⟩ ∈ wl_ALL := wl_mem 717 (by decide +kernel) rfl
theorem ml_LR_122 : Cond.methodLink "LineRules" 122 ⟨"LineRules$Row", "become", "(LLineRules$Row;)V"⟩ ∈ wl_ALL := wl_mem 721 (by decide +kernel) rfl
theorem ml_LR_126 : Cond.methodLink "LineRules" 126 ⟨"LineRules", "clear", "()I"⟩ ∈ wl_ALL := wl_mem 722 (by decide +kernel) rfl
theorem ml_Law_81 : Cond.methodLink "LineRulesLaw" 81 ⟨"LineRulesLaw", "separator", "(LLineRules;I[J)I"⟩ ∈ wl_ALL := wl_mem 723 (by decide +kernel) rfl
theorem cl_Law_27 : Cond.classLink "LineRulesLaw" 27 "java/lang/IllegalArgumentException" ∈ wl_ALL := wl_mem 726 (by decide +kernel) rfl
theorem ml_Law_24 : Cond.methodLink "LineRulesLaw" 24 ⟨"LineRules", "separator", "(I)I"⟩ ∈ wl_ALL := wl_mem 727 (by decide +kernel) rfl
theorem cl_LR_130 : Cond.classLink "LineRules" 130 "java/lang/IllegalArgumentException" ∈ wl_ALL := wl_mem 731 (by decide +kernel) rfl
theorem ml_LR_134 : Cond.methodLink "LineRules" 134 ⟨"java/lang/IllegalArgumentException", "<init>", "(Ljava/lang/String;)V"⟩ ∈ wl_ALL := wl_mem 741 (by decide +kernel) rfl
theorem ml_Law_84 : Cond.methodLink "LineRulesLaw" 84 ⟨"LineRulesLaw", "rule", "(LLineRules;III[J)I"⟩ ∈ wl_ALL := wl_mem 747 (by decide +kernel) rfl
theorem ml_Law_29 : Cond.methodLink "LineRulesLaw" 29 ⟨"LineRules", "rule", "(III)I"⟩ ∈ wl_ALL := wl_mem 750 (by decide +kernel) rfl
theorem ml_LR_135 : Cond.methodLink "LineRules" 135 ⟨"LineRules", "isPattern", "(III)Z"⟩ ∈ wl_ALL := wl_mem 754 (by decide +kernel) rfl
theorem ml_LR_236 : Cond.methodLink "LineRules" 236 ⟨"LineRules", "isField", "(I)Z"⟩ ∈ wl_ALL := wl_mem 757 (by decide +kernel) rfl
theorem ml_LR_146 : Cond.methodLink "LineRules" 146 ⟨"LineRules$Rule", "begin", "(III)V"⟩ ∈ wl_ALL := wl_mem 762 (by decide +kernel) rfl
theorem ml_Law_88 : Cond.methodLink "LineRulesLaw" 88 ⟨"LineRulesLaw", "action", "(LLineRules;IIII[J)I"⟩ ∈ wl_ALL := wl_mem 766 (by decide +kernel) rfl
theorem ml_Law_33 : Cond.methodLink "LineRulesLaw" 33 ⟨"LineRules", "action", "(IIII)I"⟩ ∈ wl_ALL := wl_mem 769 (by decide +kernel) rfl
theorem ml_LR_150 : Cond.methodLink "LineRules" 150 ⟨"LineRules", "isAction", "(III)Z"⟩ ∈ wl_ALL := wl_mem 773 (by decide +kernel) rfl
theorem ml_LR_213 : Cond.methodLink "LineRules" 213 ⟨"LineRules", "isCounter", "(I)Z"⟩ ∈ wl_ALL := wl_mem 776 (by decide +kernel) rfl
theorem ml_LR_155 : Cond.methodLink "LineRules" 155 ⟨"LineRules$Rule", "isFull", "()Z"⟩ ∈ wl_ALL := wl_mem 780 (by decide +kernel) rfl
theorem ml_LR_161 : Cond.methodLink "LineRules" 161 ⟨"LineRules$Rule", "add", "(III)I"⟩ ∈ wl_ALL := wl_mem 785 (by decide +kernel) rfl
theorem ml_Rul_34 : Cond.methodLink "LineRules$Rule" 34 ⟨"LineRules$Rule", "isFull", "()Z"⟩ ∈ wl_ALL := wl_mem 789 (by decide +kernel) rfl
theorem ml_Law_100 : Cond.methodLink "LineRulesLaw" 100 ⟨"LineRulesLaw", "find", "(LLineRules;II[J)I"⟩ ∈ wl_ALL := wl_mem 790 (by decide +kernel) rfl
theorem ml_Law_37 : Cond.methodLink "LineRulesLaw" 37 ⟨"LineRules", "find", "(II)I"⟩ ∈ wl_ALL := wl_mem 793 (by decide +kernel) rfl
theorem ml_Law_108 : Cond.methodLink "LineRulesLaw" 108 ⟨"LineRulesLaw", "sign", "(LLineRules;II[J)I"⟩ ∈ wl_ALL := wl_mem 798 (by decide +kernel) rfl
theorem ml_Law_41 : Cond.methodLink "LineRulesLaw" 41 ⟨"LineRules", "sign", "(II)I"⟩ ∈ wl_ALL := wl_mem 801 (by decide +kernel) rfl
theorem ml_LR_199 : Cond.methodLink "LineRules" 199 ⟨"LineRules$Row", "has", "(I)Z"⟩ ∈ wl_ALL := wl_mem 806 (by decide +kernel) rfl
theorem ml_Law_111 : Cond.methodLink "LineRulesLaw" 111 ⟨"LineRulesLaw", "printed", "(LLineRules;I[J)I"⟩ ∈ wl_ALL := wl_mem 811 (by decide +kernel) rfl
theorem ml_Law_44 : Cond.methodLink "LineRulesLaw" 44 ⟨"LineRules", "printed", "(I)I"⟩ ∈ wl_ALL := wl_mem 814 (by decide +kernel) rfl
theorem ml_LR_207 : Cond.methodLink "LineRules" 207 ⟨"LineRules$Output", "has", "(I)Z"⟩ ∈ wl_ALL := wl_mem 818 (by decide +kernel) rfl
theorem ml_LR_210 : Cond.methodLink "LineRules" 210 ⟨"LineRules$Output", "signAt", "(I)I"⟩ ∈ wl_ALL := wl_mem 823 (by decide +kernel) rfl
theorem ml_Law_114 : Cond.methodLink "LineRulesLaw" 114 ⟨"LineRulesLaw", "counter", "(LLineRules;I[J)I"⟩ ∈ wl_ALL := wl_mem 827 (by decide +kernel) rfl
theorem ml_Law_47 : Cond.methodLink "LineRulesLaw" 47 ⟨"LineRules", "counter", "(I)I"⟩ ∈ wl_ALL := wl_mem 830 (by decide +kernel) rfl
theorem ml_Law_117 : Cond.methodLink "LineRulesLaw" 117 ⟨"LineRulesLaw", "key", "(LLineRules;II[J)I"⟩ ∈ wl_ALL := wl_mem 835 (by decide +kernel) rfl
theorem ml_Law_50 : Cond.methodLink "LineRulesLaw" 50 ⟨"LineRules", "key", "(II)I"⟩ ∈ wl_ALL := wl_mem 838 (by decide +kernel) rfl
theorem ml_Law_120 : Cond.methodLink "LineRulesLaw" 120 ⟨"LineRulesLaw", "count", "(LLineRules;I[J)I"⟩ ∈ wl_ALL := wl_mem 843 (by decide +kernel) rfl
theorem ml_Law_53 : Cond.methodLink "LineRulesLaw" 53 ⟨"LineRules", "count", "(I)I"⟩ ∈ wl_ALL := wl_mem 846 (by decide +kernel) rfl
theorem nw_Law_57 : wf_nw "LineRulesLaw" 57 8 40 := ⟨_, rfl, rfl, wl_mem 851 (by decide +kernel) rfl, wl_mem 852 (by decide +kernel) rfl, wl_mem 72 (by decide +kernel) rfl, by decide⟩
theorem cl_Law_57 : Cond.classLink "LineRulesLaw" 57 "LineRulesModel" ∈ wl_ALL := wl_mem 851 (by decide +kernel) rfl
theorem ml_Law_59 : Cond.methodLink "LineRulesLaw" 59 ⟨"LineRulesModel", "<init>", "()V"⟩ ∈ wl_ALL := wl_mem 853 (by decide +kernel) rfl
theorem ml_Mod_1 : Cond.methodLink "LineRulesModel" 1 ⟨"java/lang/Object", "<init>", "()V"⟩ ∈ wl_ALL := wl_mem 856 (by decide +kernel) rfl
theorem ml_Law_66 : Cond.methodLink "LineRulesLaw" 66 ⟨"LineRulesModel", "thrown", "()I"⟩ ∈ wl_ALL := wl_mem 978 (by decide +kernel) rfl
theorem ml_Law_65 : Cond.methodLink "LineRulesLaw" 65 ⟨"LineRulesModel", "feed", "(IIIII)I"⟩ ∈ wl_ALL := wl_mem 982 (by decide +kernel) rfl
theorem ml_Mod_102 : Cond.methodLink "LineRulesModel" 102 ⟨"LineRulesModel", "signsOf", "(I)I"⟩ ∈ wl_ALL := wl_mem 986 (by decide +kernel) rfl
theorem ml_Mod_106 : Cond.methodLink "LineRulesModel" 106 ⟨"LineRulesModel", "goes", "(ZZ)Z"⟩ ∈ wl_ALL := wl_mem 989 (by decide +kernel) rfl
theorem ml_Mod_110 : Cond.methodLink "LineRulesModel" 110 ⟨"LineRulesModel", "feedOne", "(I)V"⟩ ∈ wl_ALL := wl_mem 993 (by decide +kernel) rfl
theorem ml_Law_73 : Cond.methodLink "LineRulesLaw" 73 ⟨"LineRulesModel", "clear", "()I"⟩ ∈ wl_ALL := wl_mem 997 (by decide +kernel) rfl
theorem ml_Law_77 : Cond.methodLink "LineRulesLaw" 77 ⟨"LineRulesModel", "expression", "(I)I"⟩ ∈ wl_ALL := wl_mem 1001 (by decide +kernel) rfl
theorem ml_Mod_142 : Cond.methodLink "LineRulesModel" 142 ⟨"LineRulesModel", "within", "(III)Z"⟩ ∈ wl_ALL := wl_mem 1005 (by decide +kernel) rfl
theorem ml_Mod_146 : Cond.methodLink "LineRulesModel" 146 ⟨"LineRulesModel", "draw", "(I)V"⟩ ∈ wl_ALL := wl_mem 1008 (by decide +kernel) rfl
theorem ml_Mod_130 : Cond.methodLink "LineRulesModel" 130 ⟨"LineRulesModel", "point", "()I"⟩ ∈ wl_ALL := wl_mem 1012 (by decide +kernel) rfl
theorem ml_Mod_134 : Cond.methodLink "LineRulesModel" 134 ⟨"LineRulesModel", "edge", "(IIII)V"⟩ ∈ wl_ALL := wl_mem 1016 (by decide +kernel) rfl
theorem ml_Mod_127 : Cond.methodLink "LineRulesModel" 127 ⟨"LineRulesModel", "fail", "(I)V"⟩ ∈ wl_ALL := wl_mem 1020 (by decide +kernel) rfl
theorem ml_Mod_138 : Cond.methodLink "LineRulesModel" 138 ⟨"LineRulesModel", "items", "(II)I"⟩ ∈ wl_ALL := wl_mem 1024 (by decide +kernel) rfl
theorem ml_Mod_123 : Cond.methodLink "LineRulesModel" 123 ⟨"LineRulesModel", "isItem", "(I)Z"⟩ ∈ wl_ALL := wl_mem 1028 (by decide +kernel) rfl
theorem ml_Law_80 : Cond.methodLink "LineRulesLaw" 80 ⟨"LineRulesModel", "text", "(I)I"⟩ ∈ wl_ALL := wl_mem 1031 (by decide +kernel) rfl
theorem ml_Mod_166 : Cond.methodLink "LineRulesModel" 166 ⟨"LineRulesModel", "copyRow", "(II)V"⟩ ∈ wl_ALL := wl_mem 1035 (by decide +kernel) rfl
theorem ml_Law_83 : Cond.methodLink "LineRulesLaw" 83 ⟨"LineRulesModel", "separator", "(I)I"⟩ ∈ wl_ALL := wl_mem 1039 (by decide +kernel) rfl
theorem ml_Law_87 : Cond.methodLink "LineRulesLaw" 87 ⟨"LineRulesModel", "rule", "(III)I"⟩ ∈ wl_ALL := wl_mem 1043 (by decide +kernel) rfl
theorem ml_Mod_169 : Cond.methodLink "LineRulesModel" 169 ⟨"LineRulesModel", "isField", "(I)Z"⟩ ∈ wl_ALL := wl_mem 1047 (by decide +kernel) rfl
theorem ml_Law_91 : Cond.methodLink "LineRulesLaw" 91 ⟨"LineRulesModel", "action", "(IIII)I"⟩ ∈ wl_ALL := wl_mem 1050 (by decide +kernel) rfl
theorem ml_Mod_175 : Cond.methodLink "LineRulesModel" 175 ⟨"LineRulesModel", "isAction", "(III)Z"⟩ ∈ wl_ALL := wl_mem 1054 (by decide +kernel) rfl
theorem ml_Law_95 : Cond.methodLink "LineRulesLaw" 95 ⟨"LineRulesModel", "forget", "()I"⟩ ∈ wl_ALL := wl_mem 1057 (by decide +kernel) rfl
theorem ml_Law_99 : Cond.methodLink "LineRulesLaw" 99 ⟨"LineRulesModel", "line", "()I"⟩ ∈ wl_ALL := wl_mem 1061 (by decide +kernel) rfl
theorem ml_Mod_215 : Cond.methodLink "LineRulesModel" 215 ⟨"LineRulesModel", "part", "()V"⟩ ∈ wl_ALL := wl_mem 1065 (by decide +kernel) rfl
theorem ml_Mod_181 : Cond.methodLink "LineRulesModel" 181 ⟨"LineRulesModel", "field", "(II)V"⟩ ∈ wl_ALL := wl_mem 1069 (by decide +kernel) rfl
theorem ml_Mod_244 : Cond.methodLink "LineRulesModel" 244 ⟨"LineRulesModel", "has", "(III)Z"⟩ ∈ wl_ALL := wl_mem 1073 (by decide +kernel) rfl
theorem ml_Mod_212 : Cond.methodLink "LineRulesModel" 212 ⟨"LineRulesModel", "seek", "(III)Z"⟩ ∈ wl_ALL := wl_mem 1077 (by decide +kernel) rfl
theorem ml_Mod_157 : Cond.methodLink "LineRulesModel" 157 ⟨"LineRulesModel", "longest", "(II)I"⟩ ∈ wl_ALL := wl_mem 1081 (by decide +kernel) rfl
theorem ml_Mod_149 : Cond.methodLink "LineRulesModel" 149 ⟨"LineRulesModel", "spread", "(II)V"⟩ ∈ wl_ALL := wl_mem 1085 (by decide +kernel) rfl
theorem ml_Mod_153 : Cond.methodLink "LineRulesModel" 153 ⟨"LineRulesModel", "isSign", "(II)Z"⟩ ∈ wl_ALL := wl_mem 1089 (by decide +kernel) rfl
theorem ml_Mod_222 : Cond.methodLink "LineRulesModel" 222 ⟨"LineRulesModel", "fieldToRow", "(I)V"⟩ ∈ wl_ALL := wl_mem 1093 (by decide +kernel) rfl
theorem ml_Mod_184 : Cond.methodLink "LineRulesModel" 184 ⟨"LineRulesModel", "sizeOf", "(I)I"⟩ ∈ wl_ALL := wl_mem 1097 (by decide +kernel) rfl
theorem ml_Mod_187 : Cond.methodLink "LineRulesModel" 187 ⟨"LineRulesModel", "signOf", "(II)I"⟩ ∈ wl_ALL := wl_mem 1101 (by decide +kernel) rfl
theorem ml_Mod_225 : Cond.methodLink "LineRulesModel" 225 ⟨"LineRulesModel", "numberOf", "(I)I"⟩ ∈ wl_ALL := wl_mem 1105 (by decide +kernel) rfl
theorem ml_Mod_247 : Cond.methodLink "LineRulesModel" 247 ⟨"LineRulesModel", "act", "(III)V"⟩ ∈ wl_ALL := wl_mem 1109 (by decide +kernel) rfl
theorem ml_Mod_218 : Cond.methodLink "LineRulesModel" 218 ⟨"LineRulesModel", "printRow", "(III)V"⟩ ∈ wl_ALL := wl_mem 1113 (by decide +kernel) rfl
theorem ml_Mod_197 : Cond.methodLink "LineRulesModel" 197 ⟨"LineRulesModel", "put", "(I)V"⟩ ∈ wl_ALL := wl_mem 1117 (by decide +kernel) rfl
theorem ml_Mod_228 : Cond.methodLink "LineRulesModel" 228 ⟨"LineRulesModel", "grow", "(II)V"⟩ ∈ wl_ALL := wl_mem 1121 (by decide +kernel) rfl
theorem ml_Mod_203 : Cond.methodLink "LineRulesModel" 203 ⟨"LineRulesModel", "compared", "(II)I"⟩ ∈ wl_ALL := wl_mem 1125 (by decide +kernel) rfl
theorem ml_Mod_206 : Cond.methodLink "LineRulesModel" 206 ⟨"LineRulesModel", "copyKey", "(II)V"⟩ ∈ wl_ALL := wl_mem 1129 (by decide +kernel) rfl
theorem ml_Mod_231 : Cond.methodLink "LineRulesModel" 231 ⟨"LineRulesModel", "setField", "(I)V"⟩ ∈ wl_ALL := wl_mem 1133 (by decide +kernel) rfl
theorem ml_Mod_209 : Cond.methodLink "LineRulesModel" 209 ⟨"LineRulesModel", "write", "(I)V"⟩ ∈ wl_ALL := wl_mem 1137 (by decide +kernel) rfl
theorem ml_Mod_234 : Cond.methodLink "LineRulesModel" 234 ⟨"LineRulesModel", "spell", "(I)V"⟩ ∈ wl_ALL := wl_mem 1141 (by decide +kernel) rfl
theorem kl_Mod_193 : Cond.constantLong "LineRulesModel" 193 9 ∈ wl_ALL := wl_mem 1145 (by decide +kernel) rfl
theorem kl_Mod_195 : Cond.constantLong "LineRulesModel" 195 10 ∈ wl_ALL := wl_mem 1146 (by decide +kernel) rfl
theorem ml_Mod_237 : Cond.methodLink "LineRulesModel" 237 ⟨"LineRulesModel", "replace", "(IIZ)V"⟩ ∈ wl_ALL := wl_mem 1147 (by decide +kernel) rfl
theorem ml_Law_103 : Cond.methodLink "LineRulesLaw" 103 ⟨"LineRulesModel", "find", "(II)I"⟩ ∈ wl_ALL := wl_mem 1151 (by decide +kernel) rfl
theorem ml_Law_107 : Cond.methodLink "LineRulesLaw" 107 ⟨"LineRulesModel", "end", "()I"⟩ ∈ wl_ALL := wl_mem 1155 (by decide +kernel) rfl
theorem ml_Law_110 : Cond.methodLink "LineRulesLaw" 110 ⟨"LineRulesModel", "sign", "(II)I"⟩ ∈ wl_ALL := wl_mem 1159 (by decide +kernel) rfl
theorem ml_Law_113 : Cond.methodLink "LineRulesLaw" 113 ⟨"LineRulesModel", "printed", "(I)I"⟩ ∈ wl_ALL := wl_mem 1163 (by decide +kernel) rfl
theorem ml_Law_116 : Cond.methodLink "LineRulesLaw" 116 ⟨"LineRulesModel", "counter", "(I)I"⟩ ∈ wl_ALL := wl_mem 1167 (by decide +kernel) rfl
theorem ml_Law_119 : Cond.methodLink "LineRulesLaw" 119 ⟨"LineRulesModel", "key", "(II)I"⟩ ∈ wl_ALL := wl_mem 1171 (by decide +kernel) rfl
theorem ml_Law_122 : Cond.methodLink "LineRulesLaw" 122 ⟨"LineRulesModel", "count", "(I)I"⟩ ∈ wl_ALL := wl_mem 1175 (by decide +kernel) rfl
theorem tg_LR_init : wf_tg mt_LR_init 0 := ⟨wl_mem 86 (by decide +kernel) rfl, wl_mem 64 (by decide +kernel) rfl, by decide +kernel, by decide +kernel, by decide⟩
theorem im_LR_init : Cond.instanceMethod ⟨"LineRules", "<init>", "()V"⟩ ∈ wl_ALL := wl_mem 85 (by decide +kernel) rfl
theorem tg_LR_feed : wf_tg mt_LR_feed 5 := ⟨wl_mem 497 (by decide +kernel) rfl, wl_mem 64 (by decide +kernel) rfl, by decide +kernel, by decide +kernel, by decide⟩
theorem im_LR_feed : Cond.instanceMethod ⟨"LineRules", "feed", "(IIIII)I"⟩ ∈ wl_ALL := wl_mem 495 (by decide +kernel) rfl
theorem se_LR_feed : Cond.selects "LineRules" ⟨"LineRules", "feed", "(IIIII)I"⟩ ⟨"LineRules", "feed", "(IIIII)I"⟩ ∈ wl_ALL := wl_mem 496 (by decide +kernel) rfl
theorem tg_LR_clear : wf_tg mt_LR_clear 0 := ⟨wl_mem 336 (by decide +kernel) rfl, wl_mem 64 (by decide +kernel) rfl, by decide +kernel, by decide +kernel, by decide⟩
theorem im_LR_clear : Cond.instanceMethod ⟨"LineRules", "clear", "()I"⟩ ∈ wl_ALL := wl_mem 334 (by decide +kernel) rfl
theorem se_LR_clear : Cond.selects "LineRules" ⟨"LineRules", "clear", "()I"⟩ ⟨"LineRules", "clear", "()I"⟩ ∈ wl_ALL := wl_mem 335 (by decide +kernel) rfl
theorem tg_LR_expression : wf_tg mt_LR_expression 1 := ⟨wl_mem 581 (by decide +kernel) rfl, wl_mem 64 (by decide +kernel) rfl, by decide +kernel, by decide +kernel, by decide⟩
theorem im_LR_expression : Cond.instanceMethod ⟨"LineRules", "expression", "(I)I"⟩ ∈ wl_ALL := wl_mem 579 (by decide +kernel) rfl
theorem se_LR_expression : Cond.selects "LineRules" ⟨"LineRules", "expression", "(I)I"⟩ ⟨"LineRules", "expression", "(I)I"⟩ ∈ wl_ALL := wl_mem 580 (by decide +kernel) rfl
theorem tg_LR_text : wf_tg mt_LR_text 1 := ⟨wl_mem 716 (by decide +kernel) rfl, wl_mem 64 (by decide +kernel) rfl, by decide +kernel, by decide +kernel, by decide⟩
theorem im_LR_text : Cond.instanceMethod ⟨"LineRules", "text", "(I)I"⟩ ∈ wl_ALL := wl_mem 714 (by decide +kernel) rfl
theorem se_LR_text : Cond.selects "LineRules" ⟨"LineRules", "text", "(I)I"⟩ ⟨"LineRules", "text", "(I)I"⟩ ∈ wl_ALL := wl_mem 715 (by decide +kernel) rfl
theorem tg_LR_separator : wf_tg mt_LR_separator 1 := ⟨wl_mem 730 (by decide +kernel) rfl, wl_mem 64 (by decide +kernel) rfl, by decide +kernel, by decide +kernel, by decide⟩
theorem im_LR_separator : Cond.instanceMethod ⟨"LineRules", "separator", "(I)I"⟩ ∈ wl_ALL := wl_mem 728 (by decide +kernel) rfl
theorem se_LR_separator : Cond.selects "LineRules" ⟨"LineRules", "separator", "(I)I"⟩ ⟨"LineRules", "separator", "(I)I"⟩ ∈ wl_ALL := wl_mem 729 (by decide +kernel) rfl
theorem tg_LR_rule : wf_tg mt_LR_rule 3 := ⟨wl_mem 753 (by decide +kernel) rfl, wl_mem 64 (by decide +kernel) rfl, by decide +kernel, by decide +kernel, by decide⟩
theorem im_LR_rule : Cond.instanceMethod ⟨"LineRules", "rule", "(III)I"⟩ ∈ wl_ALL := wl_mem 751 (by decide +kernel) rfl
theorem se_LR_rule : Cond.selects "LineRules" ⟨"LineRules", "rule", "(III)I"⟩ ⟨"LineRules", "rule", "(III)I"⟩ ∈ wl_ALL := wl_mem 752 (by decide +kernel) rfl
theorem tg_LR_action : wf_tg mt_LR_action 4 := ⟨wl_mem 772 (by decide +kernel) rfl, wl_mem 64 (by decide +kernel) rfl, by decide +kernel, by decide +kernel, by decide⟩
theorem im_LR_action : Cond.instanceMethod ⟨"LineRules", "action", "(IIII)I"⟩ ∈ wl_ALL := wl_mem 770 (by decide +kernel) rfl
theorem se_LR_action : Cond.selects "LineRules" ⟨"LineRules", "action", "(IIII)I"⟩ ⟨"LineRules", "action", "(IIII)I"⟩ ∈ wl_ALL := wl_mem 771 (by decide +kernel) rfl
theorem tg_LR_forget : wf_tg mt_LR_forget 0 := ⟨wl_mem 344 (by decide +kernel) rfl, wl_mem 64 (by decide +kernel) rfl, by decide +kernel, by decide +kernel, by decide⟩
theorem im_LR_forget : Cond.instanceMethod ⟨"LineRules", "forget", "()I"⟩ ∈ wl_ALL := wl_mem 342 (by decide +kernel) rfl
theorem se_LR_forget : Cond.selects "LineRules" ⟨"LineRules", "forget", "()I"⟩ ⟨"LineRules", "forget", "()I"⟩ ∈ wl_ALL := wl_mem 343 (by decide +kernel) rfl
theorem tg_LR_line : wf_tg mt_LR_line 0 := ⟨wl_mem 348 (by decide +kernel) rfl, wl_mem 64 (by decide +kernel) rfl, by decide +kernel, by decide +kernel, by decide⟩
theorem im_LR_line : Cond.instanceMethod ⟨"LineRules", "line", "()I"⟩ ∈ wl_ALL := wl_mem 346 (by decide +kernel) rfl
theorem se_LR_line : Cond.selects "LineRules" ⟨"LineRules", "line", "()I"⟩ ⟨"LineRules", "line", "()I"⟩ ∈ wl_ALL := wl_mem 347 (by decide +kernel) rfl
theorem tg_LR_find : wf_tg mt_LR_find 2 := ⟨wl_mem 796 (by decide +kernel) rfl, wl_mem 64 (by decide +kernel) rfl, by decide +kernel, by decide +kernel, by decide⟩
theorem im_LR_find : Cond.instanceMethod ⟨"LineRules", "find", "(II)I"⟩ ∈ wl_ALL := wl_mem 794 (by decide +kernel) rfl
theorem se_LR_find : Cond.selects "LineRules" ⟨"LineRules", "find", "(II)I"⟩ ⟨"LineRules", "find", "(II)I"⟩ ∈ wl_ALL := wl_mem 795 (by decide +kernel) rfl
theorem tg_LR_end : wf_tg mt_LR_end 0 := ⟨wl_mem 489 (by decide +kernel) rfl, wl_mem 64 (by decide +kernel) rfl, by decide +kernel, by decide +kernel, by decide⟩
theorem im_LR_end : Cond.instanceMethod ⟨"LineRules", "end", "()I"⟩ ∈ wl_ALL := wl_mem 487 (by decide +kernel) rfl
theorem se_LR_end : Cond.selects "LineRules" ⟨"LineRules", "end", "()I"⟩ ⟨"LineRules", "end", "()I"⟩ ∈ wl_ALL := wl_mem 488 (by decide +kernel) rfl
theorem tg_LR_sign : wf_tg mt_LR_sign 2 := ⟨wl_mem 804 (by decide +kernel) rfl, wl_mem 64 (by decide +kernel) rfl, by decide +kernel, by decide +kernel, by decide⟩
theorem im_LR_sign : Cond.instanceMethod ⟨"LineRules", "sign", "(II)I"⟩ ∈ wl_ALL := wl_mem 802 (by decide +kernel) rfl
theorem se_LR_sign : Cond.selects "LineRules" ⟨"LineRules", "sign", "(II)I"⟩ ⟨"LineRules", "sign", "(II)I"⟩ ∈ wl_ALL := wl_mem 803 (by decide +kernel) rfl
theorem tg_LR_printed : wf_tg mt_LR_printed 1 := ⟨wl_mem 817 (by decide +kernel) rfl, wl_mem 64 (by decide +kernel) rfl, by decide +kernel, by decide +kernel, by decide⟩
theorem im_LR_printed : Cond.instanceMethod ⟨"LineRules", "printed", "(I)I"⟩ ∈ wl_ALL := wl_mem 815 (by decide +kernel) rfl
theorem se_LR_printed : Cond.selects "LineRules" ⟨"LineRules", "printed", "(I)I"⟩ ⟨"LineRules", "printed", "(I)I"⟩ ∈ wl_ALL := wl_mem 816 (by decide +kernel) rfl
theorem tg_LR_counter : wf_tg mt_LR_counter 1 := ⟨wl_mem 833 (by decide +kernel) rfl, wl_mem 64 (by decide +kernel) rfl, by decide +kernel, by decide +kernel, by decide⟩
theorem im_LR_counter : Cond.instanceMethod ⟨"LineRules", "counter", "(I)I"⟩ ∈ wl_ALL := wl_mem 831 (by decide +kernel) rfl
theorem se_LR_counter : Cond.selects "LineRules" ⟨"LineRules", "counter", "(I)I"⟩ ⟨"LineRules", "counter", "(I)I"⟩ ∈ wl_ALL := wl_mem 832 (by decide +kernel) rfl
theorem tg_LR_key : wf_tg mt_LR_key 2 := ⟨wl_mem 841 (by decide +kernel) rfl, wl_mem 64 (by decide +kernel) rfl, by decide +kernel, by decide +kernel, by decide⟩
theorem im_LR_key : Cond.instanceMethod ⟨"LineRules", "key", "(II)I"⟩ ∈ wl_ALL := wl_mem 839 (by decide +kernel) rfl
theorem se_LR_key : Cond.selects "LineRules" ⟨"LineRules", "key", "(II)I"⟩ ⟨"LineRules", "key", "(II)I"⟩ ∈ wl_ALL := wl_mem 840 (by decide +kernel) rfl
theorem tg_LR_count : wf_tg mt_LR_count 1 := ⟨wl_mem 849 (by decide +kernel) rfl, wl_mem 64 (by decide +kernel) rfl, by decide +kernel, by decide +kernel, by decide⟩
theorem im_LR_count : Cond.instanceMethod ⟨"LineRules", "count", "(I)I"⟩ ∈ wl_ALL := wl_mem 847 (by decide +kernel) rfl
theorem se_LR_count : Cond.selects "LineRules" ⟨"LineRules", "count", "(I)I"⟩ ⟨"LineRules", "count", "(I)I"⟩ ∈ wl_ALL := wl_mem 848 (by decide +kernel) rfl
theorem tg_LR_signsIn : wf_tg mt_LR_signsIn 1 := ⟨wl_mem 500 (by decide +kernel) rfl, wl_mem 64 (by decide +kernel) rfl, by decide +kernel, by decide +kernel, by decide⟩
theorem sm_LR_signsIn : Cond.static ⟨"LineRules", "signsIn", "(I)I"⟩ ∈ wl_ALL := wl_mem 499 (by decide +kernel) rfl
theorem tg_LR_addToPad : wf_tg mt_LR_addToPad 1 := ⟨wl_mem 572 (by decide +kernel) rfl, wl_mem 64 (by decide +kernel) rfl, by decide +kernel, by decide +kernel, by decide⟩
theorem im_LR_addToPad : Cond.instanceMethod ⟨"LineRules", "addToPad", "(I)V"⟩ ∈ wl_ALL := wl_mem 571 (by decide +kernel) rfl
theorem se_LR_addToPad : Cond.selects "LineRules" ⟨"LineRules", "addToPad", "(I)V"⟩ ⟨"LineRules", "addToPad", "(I)V"⟩ ∈ wl_ALL := wl_mem 12 (by decide +kernel) rfl
theorem tg_LR_isExpression : wf_tg mt_LR_isExpression 1 := ⟨wl_mem 584 (by decide +kernel) rfl, wl_mem 64 (by decide +kernel) rfl, by decide +kernel, by decide +kernel, by decide⟩
theorem sm_LR_isExpression : Cond.static ⟨"LineRules", "isExpression", "(I)Z"⟩ ∈ wl_ALL := wl_mem 583 (by decide +kernel) rfl
theorem tg_LR_isText : wf_tg mt_LR_isText 1 := ⟨wl_mem 719 (by decide +kernel) rfl, wl_mem 64 (by decide +kernel) rfl, by decide +kernel, by decide +kernel, by decide⟩
theorem sm_LR_isText : Cond.static ⟨"LineRules", "isText", "(I)Z"⟩ ∈ wl_ALL := wl_mem 718 (by decide +kernel) rfl
theorem tg_LR_isCounter : wf_tg mt_LR_isCounter 1 := ⟨wl_mem 778 (by decide +kernel) rfl, wl_mem 64 (by decide +kernel) rfl, by decide +kernel, by decide +kernel, by decide⟩
theorem sm_LR_isCounter : Cond.static ⟨"LineRules", "isCounter", "(I)Z"⟩ ∈ wl_ALL := wl_mem 777 (by decide +kernel) rfl
theorem tg_LR_isField : wf_tg mt_LR_isField 1 := ⟨wl_mem 759 (by decide +kernel) rfl, wl_mem 64 (by decide +kernel) rfl, by decide +kernel, by decide +kernel, by decide⟩
theorem sm_LR_isField : Cond.static ⟨"LineRules", "isField", "(I)Z"⟩ ∈ wl_ALL := wl_mem 758 (by decide +kernel) rfl
theorem tg_LR_isPattern : wf_tg mt_LR_isPattern 3 := ⟨wl_mem 756 (by decide +kernel) rfl, wl_mem 64 (by decide +kernel) rfl, by decide +kernel, by decide +kernel, by decide⟩
theorem sm_LR_isPattern : Cond.static ⟨"LineRules", "isPattern", "(III)Z"⟩ ∈ wl_ALL := wl_mem 755 (by decide +kernel) rfl
theorem tg_LR_isAction : wf_tg mt_LR_isAction 3 := ⟨wl_mem 775 (by decide +kernel) rfl, wl_mem 64 (by decide +kernel) rfl, by decide +kernel, by decide +kernel, by decide⟩
theorem sm_LR_isAction : Cond.static ⟨"LineRules", "isAction", "(III)Z"⟩ ∈ wl_ALL := wl_mem 774 (by decide +kernel) rfl
theorem tg_LR_hasPattern : wf_tg mt_LR_hasPattern 1 := ⟨wl_mem 379 (by decide +kernel) rfl, wl_mem 64 (by decide +kernel) rfl, by decide +kernel, by decide +kernel, by decide⟩
theorem im_LR_hasPattern : Cond.instanceMethod ⟨"LineRules", "hasPattern", "(LLineRules$Rule;)Z"⟩ ∈ wl_ALL := wl_mem 378 (by decide +kernel) rfl
theorem se_LR_hasPattern : Cond.selects "LineRules" ⟨"LineRules", "hasPattern", "(LLineRules$Rule;)Z"⟩ ⟨"LineRules", "hasPattern", "(LLineRules$Rule;)Z"⟩ ∈ wl_ALL := wl_mem 1 (by decide +kernel) rfl
theorem tg_LR_doActions : wf_tg mt_LR_doActions 1 := ⟨wl_mem 406 (by decide +kernel) rfl, wl_mem 64 (by decide +kernel) rfl, by decide +kernel, by decide +kernel, by decide⟩
theorem im_LR_doActions : Cond.instanceMethod ⟨"LineRules", "doActions", "(LLineRules$Rule;)Z"⟩ ∈ wl_ALL := wl_mem 405 (by decide +kernel) rfl
theorem se_LR_doActions : Cond.selects "LineRules" ⟨"LineRules", "doActions", "(LLineRules$Rule;)Z"⟩ ⟨"LineRules", "doActions", "(LLineRules$Rule;)Z"⟩ ∈ wl_ALL := wl_mem 3 (by decide +kernel) rfl
theorem tg_LR_doAction : wf_tg mt_LR_doAction 3 := ⟨wl_mem 410 (by decide +kernel) rfl, wl_mem 64 (by decide +kernel) rfl, by decide +kernel, by decide +kernel, by decide⟩
theorem im_LR_doAction : Cond.instanceMethod ⟨"LineRules", "doAction", "(III)V"⟩ ∈ wl_ALL := wl_mem 409 (by decide +kernel) rfl
theorem se_LR_doAction : Cond.selects "LineRules" ⟨"LineRules", "doAction", "(III)V"⟩ ⟨"LineRules", "doAction", "(III)V"⟩ ∈ wl_ALL := wl_mem 4 (by decide +kernel) rfl
theorem tg_LR_printMatch : wf_tg mt_LR_printMatch 1 := ⟨wl_mem 483 (by decide +kernel) rfl, wl_mem 64 (by decide +kernel) rfl, by decide +kernel, by decide +kernel, by decide⟩
theorem im_LR_printMatch : Cond.instanceMethod ⟨"LineRules", "printMatch", "(LLineRules$Expression;)V"⟩ ∈ wl_ALL := wl_mem 482 (by decide +kernel) rfl
theorem se_LR_printMatch : Cond.selects "LineRules" ⟨"LineRules", "printMatch", "(LLineRules$Expression;)V"⟩ ⟨"LineRules", "printMatch", "(LLineRules$Expression;)V"⟩ ∈ wl_ALL := wl_mem 10 (by decide +kernel) rfl
theorem tg_Mod_init : wf_tg mt_Mod_init 0 := ⟨wl_mem 855 (by decide +kernel) rfl, wl_mem 72 (by decide +kernel) rfl, by decide +kernel, by decide +kernel, by decide⟩
theorem im_Mod_init : Cond.instanceMethod ⟨"LineRulesModel", "<init>", "()V"⟩ ∈ wl_ALL := wl_mem 854 (by decide +kernel) rfl
theorem tg_Mod_thrown : wf_tg mt_Mod_thrown 0 := ⟨wl_mem 981 (by decide +kernel) rfl, wl_mem 72 (by decide +kernel) rfl, by decide +kernel, by decide +kernel, by decide⟩
theorem im_Mod_thrown : Cond.instanceMethod ⟨"LineRulesModel", "thrown", "()I"⟩ ∈ wl_ALL := wl_mem 979 (by decide +kernel) rfl
theorem se_Mod_thrown : Cond.selects "LineRulesModel" ⟨"LineRulesModel", "thrown", "()I"⟩ ⟨"LineRulesModel", "thrown", "()I"⟩ ∈ wl_ALL := wl_mem 980 (by decide +kernel) rfl
theorem tg_Mod_goes : wf_tg mt_Mod_goes 2 := ⟨wl_mem 992 (by decide +kernel) rfl, wl_mem 72 (by decide +kernel) rfl, by decide +kernel, by decide +kernel, by decide⟩
theorem im_Mod_goes : Cond.instanceMethod ⟨"LineRulesModel", "goes", "(ZZ)Z"⟩ ∈ wl_ALL := wl_mem 991 (by decide +kernel) rfl
theorem se_Mod_goes : Cond.selects "LineRulesModel" ⟨"LineRulesModel", "goes", "(ZZ)Z"⟩ ⟨"LineRulesModel", "goes", "(ZZ)Z"⟩ ∈ wl_ALL := wl_mem 34 (by decide +kernel) rfl
theorem tg_Mod_within : wf_tg mt_Mod_within 3 := ⟨wl_mem 1007 (by decide +kernel) rfl, wl_mem 72 (by decide +kernel) rfl, by decide +kernel, by decide +kernel, by decide⟩
theorem sm_Mod_within : Cond.static ⟨"LineRulesModel", "within", "(III)Z"⟩ ∈ wl_ALL := wl_mem 1006 (by decide +kernel) rfl
theorem tg_Mod_signsOf : wf_tg mt_Mod_signsOf 1 := ⟨wl_mem 988 (by decide +kernel) rfl, wl_mem 72 (by decide +kernel) rfl, by decide +kernel, by decide +kernel, by decide⟩
theorem sm_Mod_signsOf : Cond.static ⟨"LineRulesModel", "signsOf", "(I)I"⟩ ∈ wl_ALL := wl_mem 987 (by decide +kernel) rfl
theorem tg_Mod_feedOne : wf_tg mt_Mod_feedOne 1 := ⟨wl_mem 996 (by decide +kernel) rfl, wl_mem 72 (by decide +kernel) rfl, by decide +kernel, by decide +kernel, by decide⟩
theorem im_Mod_feedOne : Cond.instanceMethod ⟨"LineRulesModel", "feedOne", "(I)V"⟩ ∈ wl_ALL := wl_mem 995 (by decide +kernel) rfl
theorem se_Mod_feedOne : Cond.selects "LineRulesModel" ⟨"LineRulesModel", "feedOne", "(I)V"⟩ ⟨"LineRulesModel", "feedOne", "(I)V"⟩ ∈ wl_ALL := wl_mem 35 (by decide +kernel) rfl
theorem tg_Mod_feed : wf_tg mt_Mod_feed 5 := ⟨wl_mem 985 (by decide +kernel) rfl, wl_mem 72 (by decide +kernel) rfl, by decide +kernel, by decide +kernel, by decide⟩
theorem im_Mod_feed : Cond.instanceMethod ⟨"LineRulesModel", "feed", "(IIIII)I"⟩ ∈ wl_ALL := wl_mem 983 (by decide +kernel) rfl
theorem se_Mod_feed : Cond.selects "LineRulesModel" ⟨"LineRulesModel", "feed", "(IIIII)I"⟩ ⟨"LineRulesModel", "feed", "(IIIII)I"⟩ ∈ wl_ALL := wl_mem 984 (by decide +kernel) rfl
theorem tg_Mod_clear : wf_tg mt_Mod_clear 0 := ⟨wl_mem 1000 (by decide +kernel) rfl, wl_mem 72 (by decide +kernel) rfl, by decide +kernel, by decide +kernel, by decide⟩
theorem im_Mod_clear : Cond.instanceMethod ⟨"LineRulesModel", "clear", "()I"⟩ ∈ wl_ALL := wl_mem 998 (by decide +kernel) rfl
theorem se_Mod_clear : Cond.selects "LineRulesModel" ⟨"LineRulesModel", "clear", "()I"⟩ ⟨"LineRulesModel", "clear", "()I"⟩ ∈ wl_ALL := wl_mem 999 (by decide +kernel) rfl
theorem tg_Mod_point : wf_tg mt_Mod_point 0 := ⟨wl_mem 1015 (by decide +kernel) rfl, wl_mem 72 (by decide +kernel) rfl, by decide +kernel, by decide +kernel, by decide⟩
theorem im_Mod_point : Cond.instanceMethod ⟨"LineRulesModel", "point", "()I"⟩ ∈ wl_ALL := wl_mem 1014 (by decide +kernel) rfl
theorem se_Mod_point : Cond.selects "LineRulesModel" ⟨"LineRulesModel", "point", "()I"⟩ ⟨"LineRulesModel", "point", "()I"⟩ ∈ wl_ALL := wl_mem 37 (by decide +kernel) rfl
theorem tg_Mod_edge : wf_tg mt_Mod_edge 4 := ⟨wl_mem 1019 (by decide +kernel) rfl, wl_mem 72 (by decide +kernel) rfl, by decide +kernel, by decide +kernel, by decide⟩
theorem im_Mod_edge : Cond.instanceMethod ⟨"LineRulesModel", "edge", "(IIII)V"⟩ ∈ wl_ALL := wl_mem 1018 (by decide +kernel) rfl
theorem se_Mod_edge : Cond.selects "LineRulesModel" ⟨"LineRulesModel", "edge", "(IIII)V"⟩ ⟨"LineRulesModel", "edge", "(IIII)V"⟩ ∈ wl_ALL := wl_mem 38 (by decide +kernel) rfl
theorem tg_Mod_fail : wf_tg mt_Mod_fail 1 := ⟨wl_mem 1023 (by decide +kernel) rfl, wl_mem 72 (by decide +kernel) rfl, by decide +kernel, by decide +kernel, by decide⟩
theorem im_Mod_fail : Cond.instanceMethod ⟨"LineRulesModel", "fail", "(I)V"⟩ ∈ wl_ALL := wl_mem 1022 (by decide +kernel) rfl
theorem se_Mod_fail : Cond.selects "LineRulesModel" ⟨"LineRulesModel", "fail", "(I)V"⟩ ⟨"LineRulesModel", "fail", "(I)V"⟩ ∈ wl_ALL := wl_mem 39 (by decide +kernel) rfl
theorem tg_Mod_isItem : wf_tg mt_Mod_isItem 1 := ⟨wl_mem 1030 (by decide +kernel) rfl, wl_mem 72 (by decide +kernel) rfl, by decide +kernel, by decide +kernel, by decide⟩
theorem sm_Mod_isItem : Cond.static ⟨"LineRulesModel", "isItem", "(I)Z"⟩ ∈ wl_ALL := wl_mem 1029 (by decide +kernel) rfl
theorem tg_Mod_items : wf_tg mt_Mod_items 2 := ⟨wl_mem 1027 (by decide +kernel) rfl, wl_mem 72 (by decide +kernel) rfl, by decide +kernel, by decide +kernel, by decide⟩
theorem im_Mod_items : Cond.instanceMethod ⟨"LineRulesModel", "items", "(II)I"⟩ ∈ wl_ALL := wl_mem 1026 (by decide +kernel) rfl
theorem se_Mod_items : Cond.selects "LineRulesModel" ⟨"LineRulesModel", "items", "(II)I"⟩ ⟨"LineRulesModel", "items", "(II)I"⟩ ∈ wl_ALL := wl_mem 40 (by decide +kernel) rfl
theorem tg_Mod_draw : wf_tg mt_Mod_draw 1 := ⟨wl_mem 1011 (by decide +kernel) rfl, wl_mem 72 (by decide +kernel) rfl, by decide +kernel, by decide +kernel, by decide⟩
theorem im_Mod_draw : Cond.instanceMethod ⟨"LineRulesModel", "draw", "(I)V"⟩ ∈ wl_ALL := wl_mem 1010 (by decide +kernel) rfl
theorem se_Mod_draw : Cond.selects "LineRulesModel" ⟨"LineRulesModel", "draw", "(I)V"⟩ ⟨"LineRulesModel", "draw", "(I)V"⟩ ∈ wl_ALL := wl_mem 36 (by decide +kernel) rfl
theorem tg_Mod_isSign : wf_tg mt_Mod_isSign 2 := ⟨wl_mem 1092 (by decide +kernel) rfl, wl_mem 72 (by decide +kernel) rfl, by decide +kernel, by decide +kernel, by decide⟩
theorem im_Mod_isSign : Cond.instanceMethod ⟨"LineRulesModel", "isSign", "(II)Z"⟩ ∈ wl_ALL := wl_mem 1091 (by decide +kernel) rfl
theorem se_Mod_isSign : Cond.selects "LineRulesModel" ⟨"LineRulesModel", "isSign", "(II)Z"⟩ ⟨"LineRulesModel", "isSign", "(II)Z"⟩ ∈ wl_ALL := wl_mem 48 (by decide +kernel) rfl
theorem tg_Mod_expression : wf_tg mt_Mod_expression 1 := ⟨wl_mem 1004 (by decide +kernel) rfl, wl_mem 72 (by decide +kernel) rfl, by decide +kernel, by decide +kernel, by decide⟩
theorem im_Mod_expression : Cond.instanceMethod ⟨"LineRulesModel", "expression", "(I)I"⟩ ∈ wl_ALL := wl_mem 1002 (by decide +kernel) rfl
theorem se_Mod_expression : Cond.selects "LineRulesModel" ⟨"LineRulesModel", "expression", "(I)I"⟩ ⟨"LineRulesModel", "expression", "(I)I"⟩ ∈ wl_ALL := wl_mem 1003 (by decide +kernel) rfl
theorem tg_Mod_spread : wf_tg mt_Mod_spread 2 := ⟨wl_mem 1088 (by decide +kernel) rfl, wl_mem 72 (by decide +kernel) rfl, by decide +kernel, by decide +kernel, by decide⟩
theorem im_Mod_spread : Cond.instanceMethod ⟨"LineRulesModel", "spread", "(II)V"⟩ ∈ wl_ALL := wl_mem 1087 (by decide +kernel) rfl
theorem se_Mod_spread : Cond.selects "LineRulesModel" ⟨"LineRulesModel", "spread", "(II)V"⟩ ⟨"LineRulesModel", "spread", "(II)V"⟩ ∈ wl_ALL := wl_mem 47 (by decide +kernel) rfl
theorem tg_Mod_longest : wf_tg mt_Mod_longest 2 := ⟨wl_mem 1084 (by decide +kernel) rfl, wl_mem 72 (by decide +kernel) rfl, by decide +kernel, by decide +kernel, by decide⟩
theorem im_Mod_longest : Cond.instanceMethod ⟨"LineRulesModel", "longest", "(II)I"⟩ ∈ wl_ALL := wl_mem 1083 (by decide +kernel) rfl
theorem se_Mod_longest : Cond.selects "LineRulesModel" ⟨"LineRulesModel", "longest", "(II)I"⟩ ⟨"LineRulesModel", "longest", "(II)I"⟩ ∈ wl_ALL := wl_mem 46 (by decide +kernel) rfl
theorem tg_Mod_seek : wf_tg mt_Mod_seek 3 := ⟨wl_mem 1080 (by decide +kernel) rfl, wl_mem 72 (by decide +kernel) rfl, by decide +kernel, by decide +kernel, by decide⟩
theorem im_Mod_seek : Cond.instanceMethod ⟨"LineRulesModel", "seek", "(III)Z"⟩ ∈ wl_ALL := wl_mem 1079 (by decide +kernel) rfl
theorem se_Mod_seek : Cond.selects "LineRulesModel" ⟨"LineRulesModel", "seek", "(III)Z"⟩ ⟨"LineRulesModel", "seek", "(III)Z"⟩ ∈ wl_ALL := wl_mem 45 (by decide +kernel) rfl
theorem tg_Mod_copyRow : wf_tg mt_Mod_copyRow 2 := ⟨wl_mem 1038 (by decide +kernel) rfl, wl_mem 72 (by decide +kernel) rfl, by decide +kernel, by decide +kernel, by decide⟩
theorem im_Mod_copyRow : Cond.instanceMethod ⟨"LineRulesModel", "copyRow", "(II)V"⟩ ∈ wl_ALL := wl_mem 1037 (by decide +kernel) rfl
theorem se_Mod_copyRow : Cond.selects "LineRulesModel" ⟨"LineRulesModel", "copyRow", "(II)V"⟩ ⟨"LineRulesModel", "copyRow", "(II)V"⟩ ∈ wl_ALL := wl_mem 41 (by decide +kernel) rfl
theorem tg_Mod_text : wf_tg mt_Mod_text 1 := ⟨wl_mem 1034 (by decide +kernel) rfl, wl_mem 72 (by decide +kernel) rfl, by decide +kernel, by decide +kernel, by decide⟩
theorem im_Mod_text : Cond.instanceMethod ⟨"LineRulesModel", "text", "(I)I"⟩ ∈ wl_ALL := wl_mem 1032 (by decide +kernel) rfl
theorem se_Mod_text : Cond.selects "LineRulesModel" ⟨"LineRulesModel", "text", "(I)I"⟩ ⟨"LineRulesModel", "text", "(I)I"⟩ ∈ wl_ALL := wl_mem 1033 (by decide +kernel) rfl
theorem tg_Mod_separator : wf_tg mt_Mod_separator 1 := ⟨wl_mem 1042 (by decide +kernel) rfl, wl_mem 72 (by decide +kernel) rfl, by decide +kernel, by decide +kernel, by decide⟩
theorem im_Mod_separator : Cond.instanceMethod ⟨"LineRulesModel", "separator", "(I)I"⟩ ∈ wl_ALL := wl_mem 1040 (by decide +kernel) rfl
theorem se_Mod_separator : Cond.selects "LineRulesModel" ⟨"LineRulesModel", "separator", "(I)I"⟩ ⟨"LineRulesModel", "separator", "(I)I"⟩ ∈ wl_ALL := wl_mem 1041 (by decide +kernel) rfl
theorem tg_Mod_isField : wf_tg mt_Mod_isField 1 := ⟨wl_mem 1049 (by decide +kernel) rfl, wl_mem 72 (by decide +kernel) rfl, by decide +kernel, by decide +kernel, by decide⟩
theorem sm_Mod_isField : Cond.static ⟨"LineRulesModel", "isField", "(I)Z"⟩ ∈ wl_ALL := wl_mem 1048 (by decide +kernel) rfl
theorem tg_Mod_rule : wf_tg mt_Mod_rule 3 := ⟨wl_mem 1046 (by decide +kernel) rfl, wl_mem 72 (by decide +kernel) rfl, by decide +kernel, by decide +kernel, by decide⟩
theorem im_Mod_rule : Cond.instanceMethod ⟨"LineRulesModel", "rule", "(III)I"⟩ ∈ wl_ALL := wl_mem 1044 (by decide +kernel) rfl
theorem se_Mod_rule : Cond.selects "LineRulesModel" ⟨"LineRulesModel", "rule", "(III)I"⟩ ⟨"LineRulesModel", "rule", "(III)I"⟩ ∈ wl_ALL := wl_mem 1045 (by decide +kernel) rfl
theorem tg_Mod_isAction : wf_tg mt_Mod_isAction 3 := ⟨wl_mem 1056 (by decide +kernel) rfl, wl_mem 72 (by decide +kernel) rfl, by decide +kernel, by decide +kernel, by decide⟩
theorem sm_Mod_isAction : Cond.static ⟨"LineRulesModel", "isAction", "(III)Z"⟩ ∈ wl_ALL := wl_mem 1055 (by decide +kernel) rfl
theorem tg_Mod_action : wf_tg mt_Mod_action 4 := ⟨wl_mem 1053 (by decide +kernel) rfl, wl_mem 72 (by decide +kernel) rfl, by decide +kernel, by decide +kernel, by decide⟩
theorem im_Mod_action : Cond.instanceMethod ⟨"LineRulesModel", "action", "(IIII)I"⟩ ∈ wl_ALL := wl_mem 1051 (by decide +kernel) rfl
theorem se_Mod_action : Cond.selects "LineRulesModel" ⟨"LineRulesModel", "action", "(IIII)I"⟩ ⟨"LineRulesModel", "action", "(IIII)I"⟩ ∈ wl_ALL := wl_mem 1052 (by decide +kernel) rfl
theorem tg_Mod_forget : wf_tg mt_Mod_forget 0 := ⟨wl_mem 1060 (by decide +kernel) rfl, wl_mem 72 (by decide +kernel) rfl, by decide +kernel, by decide +kernel, by decide⟩
theorem im_Mod_forget : Cond.instanceMethod ⟨"LineRulesModel", "forget", "()I"⟩ ∈ wl_ALL := wl_mem 1058 (by decide +kernel) rfl
theorem se_Mod_forget : Cond.selects "LineRulesModel" ⟨"LineRulesModel", "forget", "()I"⟩ ⟨"LineRulesModel", "forget", "()I"⟩ ∈ wl_ALL := wl_mem 1059 (by decide +kernel) rfl
theorem tg_Mod_field : wf_tg mt_Mod_field 2 := ⟨wl_mem 1072 (by decide +kernel) rfl, wl_mem 72 (by decide +kernel) rfl, by decide +kernel, by decide +kernel, by decide⟩
theorem im_Mod_field : Cond.instanceMethod ⟨"LineRulesModel", "field", "(II)V"⟩ ∈ wl_ALL := wl_mem 1071 (by decide +kernel) rfl
theorem se_Mod_field : Cond.selects "LineRulesModel" ⟨"LineRulesModel", "field", "(II)V"⟩ ⟨"LineRulesModel", "field", "(II)V"⟩ ∈ wl_ALL := wl_mem 43 (by decide +kernel) rfl
theorem tg_Mod_part : wf_tg mt_Mod_part 0 := ⟨wl_mem 1068 (by decide +kernel) rfl, wl_mem 72 (by decide +kernel) rfl, by decide +kernel, by decide +kernel, by decide⟩
theorem im_Mod_part : Cond.instanceMethod ⟨"LineRulesModel", "part", "()V"⟩ ∈ wl_ALL := wl_mem 1067 (by decide +kernel) rfl
theorem se_Mod_part : Cond.selects "LineRulesModel" ⟨"LineRulesModel", "part", "()V"⟩ ⟨"LineRulesModel", "part", "()V"⟩ ∈ wl_ALL := wl_mem 42 (by decide +kernel) rfl
theorem tg_Mod_sizeOf : wf_tg mt_Mod_sizeOf 1 := ⟨wl_mem 1100 (by decide +kernel) rfl, wl_mem 72 (by decide +kernel) rfl, by decide +kernel, by decide +kernel, by decide⟩
theorem im_Mod_sizeOf : Cond.instanceMethod ⟨"LineRulesModel", "sizeOf", "(I)I"⟩ ∈ wl_ALL := wl_mem 1099 (by decide +kernel) rfl
theorem se_Mod_sizeOf : Cond.selects "LineRulesModel" ⟨"LineRulesModel", "sizeOf", "(I)I"⟩ ⟨"LineRulesModel", "sizeOf", "(I)I"⟩ ∈ wl_ALL := wl_mem 50 (by decide +kernel) rfl
theorem tg_Mod_signOf : wf_tg mt_Mod_signOf 2 := ⟨wl_mem 1104 (by decide +kernel) rfl, wl_mem 72 (by decide +kernel) rfl, by decide +kernel, by decide +kernel, by decide⟩
theorem im_Mod_signOf : Cond.instanceMethod ⟨"LineRulesModel", "signOf", "(II)I"⟩ ∈ wl_ALL := wl_mem 1103 (by decide +kernel) rfl
theorem se_Mod_signOf : Cond.selects "LineRulesModel" ⟨"LineRulesModel", "signOf", "(II)I"⟩ ⟨"LineRulesModel", "signOf", "(II)I"⟩ ∈ wl_ALL := wl_mem 51 (by decide +kernel) rfl
theorem tg_Mod_numberOf : wf_tg mt_Mod_numberOf 1 := ⟨wl_mem 1108 (by decide +kernel) rfl, wl_mem 72 (by decide +kernel) rfl, by decide +kernel, by decide +kernel, by decide⟩
theorem im_Mod_numberOf : Cond.instanceMethod ⟨"LineRulesModel", "numberOf", "(I)I"⟩ ∈ wl_ALL := wl_mem 1107 (by decide +kernel) rfl
theorem se_Mod_numberOf : Cond.selects "LineRulesModel" ⟨"LineRulesModel", "numberOf", "(I)I"⟩ ⟨"LineRulesModel", "numberOf", "(I)I"⟩ ∈ wl_ALL := wl_mem 52 (by decide +kernel) rfl
theorem tg_Mod_put : wf_tg mt_Mod_put 1 := ⟨wl_mem 1120 (by decide +kernel) rfl, wl_mem 72 (by decide +kernel) rfl, by decide +kernel, by decide +kernel, by decide⟩
theorem im_Mod_put : Cond.instanceMethod ⟨"LineRulesModel", "put", "(I)V"⟩ ∈ wl_ALL := wl_mem 1119 (by decide +kernel) rfl
theorem se_Mod_put : Cond.selects "LineRulesModel" ⟨"LineRulesModel", "put", "(I)V"⟩ ⟨"LineRulesModel", "put", "(I)V"⟩ ∈ wl_ALL := wl_mem 55 (by decide +kernel) rfl
theorem tg_Mod_spell : wf_tg mt_Mod_spell 1 := ⟨wl_mem 1144 (by decide +kernel) rfl, wl_mem 72 (by decide +kernel) rfl, by decide +kernel, by decide +kernel, by decide⟩
theorem im_Mod_spell : Cond.instanceMethod ⟨"LineRulesModel", "spell", "(I)V"⟩ ∈ wl_ALL := wl_mem 1143 (by decide +kernel) rfl
theorem se_Mod_spell : Cond.selects "LineRulesModel" ⟨"LineRulesModel", "spell", "(I)V"⟩ ⟨"LineRulesModel", "spell", "(I)V"⟩ ∈ wl_ALL := wl_mem 61 (by decide +kernel) rfl
theorem tg_Mod_printRow : wf_tg mt_Mod_printRow 3 := ⟨wl_mem 1116 (by decide +kernel) rfl, wl_mem 72 (by decide +kernel) rfl, by decide +kernel, by decide +kernel, by decide⟩
theorem im_Mod_printRow : Cond.instanceMethod ⟨"LineRulesModel", "printRow", "(III)V"⟩ ∈ wl_ALL := wl_mem 1115 (by decide +kernel) rfl
theorem se_Mod_printRow : Cond.selects "LineRulesModel" ⟨"LineRulesModel", "printRow", "(III)V"⟩ ⟨"LineRulesModel", "printRow", "(III)V"⟩ ∈ wl_ALL := wl_mem 54 (by decide +kernel) rfl
theorem tg_Mod_compared : wf_tg mt_Mod_compared 2 := ⟨wl_mem 1128 (by decide +kernel) rfl, wl_mem 72 (by decide +kernel) rfl, by decide +kernel, by decide +kernel, by decide⟩
theorem im_Mod_compared : Cond.instanceMethod ⟨"LineRulesModel", "compared", "(II)I"⟩ ∈ wl_ALL := wl_mem 1127 (by decide +kernel) rfl
theorem se_Mod_compared : Cond.selects "LineRulesModel" ⟨"LineRulesModel", "compared", "(II)I"⟩ ⟨"LineRulesModel", "compared", "(II)I"⟩ ∈ wl_ALL := wl_mem 57 (by decide +kernel) rfl
theorem tg_Mod_copyKey : wf_tg mt_Mod_copyKey 2 := ⟨wl_mem 1132 (by decide +kernel) rfl, wl_mem 72 (by decide +kernel) rfl, by decide +kernel, by decide +kernel, by decide⟩
theorem im_Mod_copyKey : Cond.instanceMethod ⟨"LineRulesModel", "copyKey", "(II)V"⟩ ∈ wl_ALL := wl_mem 1131 (by decide +kernel) rfl
theorem se_Mod_copyKey : Cond.selects "LineRulesModel" ⟨"LineRulesModel", "copyKey", "(II)V"⟩ ⟨"LineRulesModel", "copyKey", "(II)V"⟩ ∈ wl_ALL := wl_mem 58 (by decide +kernel) rfl
theorem tg_Mod_grow : wf_tg mt_Mod_grow 2 := ⟨wl_mem 1124 (by decide +kernel) rfl, wl_mem 72 (by decide +kernel) rfl, by decide +kernel, by decide +kernel, by decide⟩
theorem im_Mod_grow : Cond.instanceMethod ⟨"LineRulesModel", "grow", "(II)V"⟩ ∈ wl_ALL := wl_mem 1123 (by decide +kernel) rfl
theorem se_Mod_grow : Cond.selects "LineRulesModel" ⟨"LineRulesModel", "grow", "(II)V"⟩ ⟨"LineRulesModel", "grow", "(II)V"⟩ ∈ wl_ALL := wl_mem 56 (by decide +kernel) rfl
theorem tg_Mod_write : wf_tg mt_Mod_write 1 := ⟨wl_mem 1140 (by decide +kernel) rfl, wl_mem 72 (by decide +kernel) rfl, by decide +kernel, by decide +kernel, by decide⟩
theorem im_Mod_write : Cond.instanceMethod ⟨"LineRulesModel", "write", "(I)V"⟩ ∈ wl_ALL := wl_mem 1139 (by decide +kernel) rfl
theorem se_Mod_write : Cond.selects "LineRulesModel" ⟨"LineRulesModel", "write", "(I)V"⟩ ⟨"LineRulesModel", "write", "(I)V"⟩ ∈ wl_ALL := wl_mem 60 (by decide +kernel) rfl
theorem tg_Mod_setField : wf_tg mt_Mod_setField 1 := ⟨wl_mem 1136 (by decide +kernel) rfl, wl_mem 72 (by decide +kernel) rfl, by decide +kernel, by decide +kernel, by decide⟩
theorem im_Mod_setField : Cond.instanceMethod ⟨"LineRulesModel", "setField", "(I)V"⟩ ∈ wl_ALL := wl_mem 1135 (by decide +kernel) rfl
theorem se_Mod_setField : Cond.selects "LineRulesModel" ⟨"LineRulesModel", "setField", "(I)V"⟩ ⟨"LineRulesModel", "setField", "(I)V"⟩ ∈ wl_ALL := wl_mem 59 (by decide +kernel) rfl
theorem tg_Mod_fieldToRow : wf_tg mt_Mod_fieldToRow 1 := ⟨wl_mem 1096 (by decide +kernel) rfl, wl_mem 72 (by decide +kernel) rfl, by decide +kernel, by decide +kernel, by decide⟩
theorem im_Mod_fieldToRow : Cond.instanceMethod ⟨"LineRulesModel", "fieldToRow", "(I)V"⟩ ∈ wl_ALL := wl_mem 1095 (by decide +kernel) rfl
theorem se_Mod_fieldToRow : Cond.selects "LineRulesModel" ⟨"LineRulesModel", "fieldToRow", "(I)V"⟩ ⟨"LineRulesModel", "fieldToRow", "(I)V"⟩ ∈ wl_ALL := wl_mem 49 (by decide +kernel) rfl
theorem tg_Mod_replace : wf_tg mt_Mod_replace 3 := ⟨wl_mem 1150 (by decide +kernel) rfl, wl_mem 72 (by decide +kernel) rfl, by decide +kernel, by decide +kernel, by decide⟩
theorem im_Mod_replace : Cond.instanceMethod ⟨"LineRulesModel", "replace", "(IIZ)V"⟩ ∈ wl_ALL := wl_mem 1149 (by decide +kernel) rfl
theorem se_Mod_replace : Cond.selects "LineRulesModel" ⟨"LineRulesModel", "replace", "(IIZ)V"⟩ ⟨"LineRulesModel", "replace", "(IIZ)V"⟩ ∈ wl_ALL := wl_mem 62 (by decide +kernel) rfl
theorem tg_Mod_act : wf_tg mt_Mod_act 3 := ⟨wl_mem 1112 (by decide +kernel) rfl, wl_mem 72 (by decide +kernel) rfl, by decide +kernel, by decide +kernel, by decide⟩
theorem im_Mod_act : Cond.instanceMethod ⟨"LineRulesModel", "act", "(III)V"⟩ ∈ wl_ALL := wl_mem 1111 (by decide +kernel) rfl
theorem se_Mod_act : Cond.selects "LineRulesModel" ⟨"LineRulesModel", "act", "(III)V"⟩ ⟨"LineRulesModel", "act", "(III)V"⟩ ∈ wl_ALL := wl_mem 53 (by decide +kernel) rfl
theorem tg_Mod_has : wf_tg mt_Mod_has 3 := ⟨wl_mem 1076 (by decide +kernel) rfl, wl_mem 72 (by decide +kernel) rfl, by decide +kernel, by decide +kernel, by decide⟩
theorem im_Mod_has : Cond.instanceMethod ⟨"LineRulesModel", "has", "(III)Z"⟩ ∈ wl_ALL := wl_mem 1075 (by decide +kernel) rfl
theorem se_Mod_has : Cond.selects "LineRulesModel" ⟨"LineRulesModel", "has", "(III)Z"⟩ ⟨"LineRulesModel", "has", "(III)Z"⟩ ∈ wl_ALL := wl_mem 44 (by decide +kernel) rfl
theorem tg_Mod_line : wf_tg mt_Mod_line 0 := ⟨wl_mem 1064 (by decide +kernel) rfl, wl_mem 72 (by decide +kernel) rfl, by decide +kernel, by decide +kernel, by decide⟩
theorem im_Mod_line : Cond.instanceMethod ⟨"LineRulesModel", "line", "()I"⟩ ∈ wl_ALL := wl_mem 1062 (by decide +kernel) rfl
theorem se_Mod_line : Cond.selects "LineRulesModel" ⟨"LineRulesModel", "line", "()I"⟩ ⟨"LineRulesModel", "line", "()I"⟩ ∈ wl_ALL := wl_mem 1063 (by decide +kernel) rfl
theorem tg_Mod_find : wf_tg mt_Mod_find 2 := ⟨wl_mem 1154 (by decide +kernel) rfl, wl_mem 72 (by decide +kernel) rfl, by decide +kernel, by decide +kernel, by decide⟩
theorem im_Mod_find : Cond.instanceMethod ⟨"LineRulesModel", "find", "(II)I"⟩ ∈ wl_ALL := wl_mem 1152 (by decide +kernel) rfl
theorem se_Mod_find : Cond.selects "LineRulesModel" ⟨"LineRulesModel", "find", "(II)I"⟩ ⟨"LineRulesModel", "find", "(II)I"⟩ ∈ wl_ALL := wl_mem 1153 (by decide +kernel) rfl
theorem tg_Mod_end : wf_tg mt_Mod_end 0 := ⟨wl_mem 1158 (by decide +kernel) rfl, wl_mem 72 (by decide +kernel) rfl, by decide +kernel, by decide +kernel, by decide⟩
theorem im_Mod_end : Cond.instanceMethod ⟨"LineRulesModel", "end", "()I"⟩ ∈ wl_ALL := wl_mem 1156 (by decide +kernel) rfl
theorem se_Mod_end : Cond.selects "LineRulesModel" ⟨"LineRulesModel", "end", "()I"⟩ ⟨"LineRulesModel", "end", "()I"⟩ ∈ wl_ALL := wl_mem 1157 (by decide +kernel) rfl
theorem tg_Mod_sign : wf_tg mt_Mod_sign 2 := ⟨wl_mem 1162 (by decide +kernel) rfl, wl_mem 72 (by decide +kernel) rfl, by decide +kernel, by decide +kernel, by decide⟩
theorem im_Mod_sign : Cond.instanceMethod ⟨"LineRulesModel", "sign", "(II)I"⟩ ∈ wl_ALL := wl_mem 1160 (by decide +kernel) rfl
theorem se_Mod_sign : Cond.selects "LineRulesModel" ⟨"LineRulesModel", "sign", "(II)I"⟩ ⟨"LineRulesModel", "sign", "(II)I"⟩ ∈ wl_ALL := wl_mem 1161 (by decide +kernel) rfl
theorem tg_Mod_printed : wf_tg mt_Mod_printed 1 := ⟨wl_mem 1166 (by decide +kernel) rfl, wl_mem 72 (by decide +kernel) rfl, by decide +kernel, by decide +kernel, by decide⟩
theorem im_Mod_printed : Cond.instanceMethod ⟨"LineRulesModel", "printed", "(I)I"⟩ ∈ wl_ALL := wl_mem 1164 (by decide +kernel) rfl
theorem se_Mod_printed : Cond.selects "LineRulesModel" ⟨"LineRulesModel", "printed", "(I)I"⟩ ⟨"LineRulesModel", "printed", "(I)I"⟩ ∈ wl_ALL := wl_mem 1165 (by decide +kernel) rfl
theorem tg_Mod_counter : wf_tg mt_Mod_counter 1 := ⟨wl_mem 1170 (by decide +kernel) rfl, wl_mem 72 (by decide +kernel) rfl, by decide +kernel, by decide +kernel, by decide⟩
theorem im_Mod_counter : Cond.instanceMethod ⟨"LineRulesModel", "counter", "(I)I"⟩ ∈ wl_ALL := wl_mem 1168 (by decide +kernel) rfl
theorem se_Mod_counter : Cond.selects "LineRulesModel" ⟨"LineRulesModel", "counter", "(I)I"⟩ ⟨"LineRulesModel", "counter", "(I)I"⟩ ∈ wl_ALL := wl_mem 1169 (by decide +kernel) rfl
theorem tg_Mod_key : wf_tg mt_Mod_key 2 := ⟨wl_mem 1174 (by decide +kernel) rfl, wl_mem 72 (by decide +kernel) rfl, by decide +kernel, by decide +kernel, by decide⟩
theorem im_Mod_key : Cond.instanceMethod ⟨"LineRulesModel", "key", "(II)I"⟩ ∈ wl_ALL := wl_mem 1172 (by decide +kernel) rfl
theorem se_Mod_key : Cond.selects "LineRulesModel" ⟨"LineRulesModel", "key", "(II)I"⟩ ⟨"LineRulesModel", "key", "(II)I"⟩ ∈ wl_ALL := wl_mem 1173 (by decide +kernel) rfl
theorem tg_Mod_count : wf_tg mt_Mod_count 1 := ⟨wl_mem 1178 (by decide +kernel) rfl, wl_mem 72 (by decide +kernel) rfl, by decide +kernel, by decide +kernel, by decide⟩
theorem im_Mod_count : Cond.instanceMethod ⟨"LineRulesModel", "count", "(I)I"⟩ ∈ wl_ALL := wl_mem 1176 (by decide +kernel) rfl
theorem se_Mod_count : Cond.selects "LineRulesModel" ⟨"LineRulesModel", "count", "(I)I"⟩ ⟨"LineRulesModel", "count", "(I)I"⟩ ∈ wl_ALL := wl_mem 1177 (by decide +kernel) rfl
theorem tg_Cut_init : wf_tg mt_Cut_init 0 := ⟨wl_mem 199 (by decide +kernel) rfl, wl_mem 68 (by decide +kernel) rfl, by decide +kernel, by decide +kernel, by decide⟩
theorem im_Cut_init : Cond.instanceMethod ⟨"LineRules$CutLine", "<init>", "()V"⟩ ∈ wl_ALL := wl_mem 198 (by decide +kernel) rfl
theorem tg_Cut_begin : wf_tg mt_Cut_begin 2 := ⟨wl_mem 352 (by decide +kernel) rfl, wl_mem 68 (by decide +kernel) rfl, by decide +kernel, by decide +kernel, by decide⟩
theorem im_Cut_begin : Cond.instanceMethod ⟨"LineRules$CutLine", "begin", "(LLineRules$Row;I)V"⟩ ∈ wl_ALL := wl_mem 350 (by decide +kernel) rfl
theorem se_Cut_begin : Cond.selects "LineRules$CutLine" ⟨"LineRules$CutLine", "begin", "(LLineRules$Row;I)V"⟩ ⟨"LineRules$CutLine", "begin", "(LLineRules$Row;I)V"⟩ ∈ wl_ALL := wl_mem 351 (by decide +kernel) rfl
theorem tg_Cut_cut : wf_tg mt_Cut_cut 1 := ⟨wl_mem 366 (by decide +kernel) rfl, wl_mem 68 (by decide +kernel) rfl, by decide +kernel, by decide +kernel, by decide⟩
theorem im_Cut_cut : Cond.instanceMethod ⟨"LineRules$CutLine", "cut", "(I)V"⟩ ∈ wl_ALL := wl_mem 364 (by decide +kernel) rfl
theorem se_Cut_cut : Cond.selects "LineRules$CutLine" ⟨"LineRules$CutLine", "cut", "(I)V"⟩ ⟨"LineRules$CutLine", "cut", "(I)V"⟩ ∈ wl_ALL := wl_mem 365 (by decide +kernel) rfl
theorem tg_Cut_addField : wf_tg mt_Cut_addField 2 := ⟨wl_mem 370 (by decide +kernel) rfl, wl_mem 68 (by decide +kernel) rfl, by decide +kernel, by decide +kernel, by decide⟩
theorem im_Cut_addField : Cond.instanceMethod ⟨"LineRules$CutLine", "addField", "(II)V"⟩ ∈ wl_ALL := wl_mem 369 (by decide +kernel) rfl
theorem se_Cut_addField : Cond.selects "LineRules$CutLine" ⟨"LineRules$CutLine", "addField", "(II)V"⟩ ⟨"LineRules$CutLine", "addField", "(II)V"⟩ ∈ wl_ALL := wl_mem 0 (by decide +kernel) rfl
theorem tg_Cut_fieldText : wf_tg mt_Cut_fieldText 1 := ⟨wl_mem 398 (by decide +kernel) rfl, wl_mem 68 (by decide +kernel) rfl, by decide +kernel, by decide +kernel, by decide⟩
theorem im_Cut_fieldText : Cond.instanceMethod ⟨"LineRules$CutLine", "fieldText", "(I)LLineRules$Row;"⟩ ∈ wl_ALL := wl_mem 396 (by decide +kernel) rfl
theorem se_Cut_fieldText : Cond.selects "LineRules$CutLine" ⟨"LineRules$CutLine", "fieldText", "(I)LLineRules$Row;"⟩ ⟨"LineRules$CutLine", "fieldText", "(I)LLineRules$Row;"⟩ ∈ wl_ALL := wl_mem 397 (by decide +kernel) rfl
theorem tg_Cut_setField : wf_tg mt_Cut_setField 3 := ⟨wl_mem 447 (by decide +kernel) rfl, wl_mem 68 (by decide +kernel) rfl, by decide +kernel, by decide +kernel, by decide⟩
theorem im_Cut_setField : Cond.instanceMethod ⟨"LineRules$CutLine", "setField", "(ILLineRules$Row;I)V"⟩ ∈ wl_ALL := wl_mem 445 (by decide +kernel) rfl
theorem se_Cut_setField : Cond.selects "LineRules$CutLine" ⟨"LineRules$CutLine", "setField", "(ILLineRules$Row;I)V"⟩ ⟨"LineRules$CutLine", "setField", "(ILLineRules$Row;I)V"⟩ ∈ wl_ALL := wl_mem 446 (by decide +kernel) rfl
theorem tg_Cut_join : wf_tg mt_Cut_join 1 := ⟨wl_mem 452 (by decide +kernel) rfl, wl_mem 68 (by decide +kernel) rfl, by decide +kernel, by decide +kernel, by decide⟩
theorem im_Cut_join : Cond.instanceMethod ⟨"LineRules$CutLine", "join", "(I)V"⟩ ∈ wl_ALL := wl_mem 451 (by decide +kernel) rfl
theorem se_Cut_join : Cond.selects "LineRules$CutLine" ⟨"LineRules$CutLine", "join", "(I)V"⟩ ⟨"LineRules$CutLine", "join", "(I)V"⟩ ∈ wl_ALL := wl_mem 8 (by decide +kernel) rfl
theorem tg_Cut_replace : wf_tg mt_Cut_replace 3 := ⟨wl_mem 472 (by decide +kernel) rfl, wl_mem 68 (by decide +kernel) rfl, by decide +kernel, by decide +kernel, by decide⟩
theorem im_Cut_replace : Cond.instanceMethod ⟨"LineRules$CutLine", "replace", "(LLineRules$Expression;LLineRules$Row;I)V"⟩ ∈ wl_ALL := wl_mem 470 (by decide +kernel) rfl
theorem se_Cut_replace : Cond.selects "LineRules$CutLine" ⟨"LineRules$CutLine", "replace", "(LLineRules$Expression;LLineRules$Row;I)V"⟩ ⟨"LineRules$CutLine", "replace", "(LLineRules$Expression;LLineRules$Row;I)V"⟩ ∈ wl_ALL := wl_mem 471 (by decide +kernel) rfl
theorem tg_Cut_matchBehind : wf_tg mt_Cut_matchBehind 2 := ⟨wl_mem 478 (by decide +kernel) rfl, wl_mem 68 (by decide +kernel) rfl, by decide +kernel, by decide +kernel, by decide⟩
theorem im_Cut_matchBehind : Cond.instanceMethod ⟨"LineRules$CutLine", "matchBehind", "(LLineRules$Expression;I)I"⟩ ∈ wl_ALL := wl_mem 477 (by decide +kernel) rfl
theorem se_Cut_matchBehind : Cond.selects "LineRules$CutLine" ⟨"LineRules$CutLine", "matchBehind", "(LLineRules$Expression;I)I"⟩ ⟨"LineRules$CutLine", "matchBehind", "(LLineRules$Expression;I)I"⟩ ∈ wl_ALL := wl_mem 9 (by decide +kernel) rfl
theorem tg_Exp_init : wf_tg mt_Exp_init 0 := ⟨wl_mem 128 (by decide +kernel) rfl, wl_mem 67 (by decide +kernel) rfl, by decide +kernel, by decide +kernel, by decide⟩
theorem im_Exp_init : Cond.instanceMethod ⟨"LineRules$Expression", "<init>", "()V"⟩ ∈ wl_ALL := wl_mem 127 (by decide +kernel) rfl
theorem tg_Exp_drop : wf_tg mt_Exp_drop 0 := ⟨wl_mem 609 (by decide +kernel) rfl, wl_mem 67 (by decide +kernel) rfl, by decide +kernel, by decide +kernel, by decide⟩
theorem im_Exp_drop : Cond.instanceMethod ⟨"LineRules$Expression", "drop", "()V"⟩ ∈ wl_ALL := wl_mem 607 (by decide +kernel) rfl
theorem se_Exp_drop : Cond.selects "LineRules$Expression" ⟨"LineRules$Expression", "drop", "()V"⟩ ⟨"LineRules$Expression", "drop", "()V"⟩ ∈ wl_ALL := wl_mem 608 (by decide +kernel) rfl
theorem tg_Exp_firstFrom : wf_tg mt_Exp_firstFrom 2 := ⟨wl_mem 383 (by decide +kernel) rfl, wl_mem 67 (by decide +kernel) rfl, by decide +kernel, by decide +kernel, by decide⟩
theorem im_Exp_firstFrom : Cond.instanceMethod ⟨"LineRules$Expression", "firstFrom", "(LLineRules$Row;I)I"⟩ ∈ wl_ALL := wl_mem 381 (by decide +kernel) rfl
theorem se_Exp_firstFrom : Cond.selects "LineRules$Expression" ⟨"LineRules$Expression", "firstFrom", "(LLineRules$Row;I)I"⟩ ⟨"LineRules$Expression", "firstFrom", "(LLineRules$Row;I)I"⟩ ∈ wl_ALL := wl_mem 382 (by decide +kernel) rfl
theorem tg_Exp_longestFrom : wf_tg mt_Exp_longestFrom 2 := ⟨wl_mem 387 (by decide +kernel) rfl, wl_mem 67 (by decide +kernel) rfl, by decide +kernel, by decide +kernel, by decide⟩
theorem im_Exp_longestFrom : Cond.instanceMethod ⟨"LineRules$Expression", "longestFrom", "(LLineRules$Row;I)I"⟩ ∈ wl_ALL := wl_mem 385 (by decide +kernel) rfl
theorem se_Exp_longestFrom : Cond.selects "LineRules$Expression" ⟨"LineRules$Expression", "longestFrom", "(LLineRules$Row;I)I"⟩ ⟨"LineRules$Expression", "longestFrom", "(LLineRules$Row;I)I"⟩ ∈ wl_ALL := wl_mem 386 (by decide +kernel) rfl
theorem tg_Exp_kindOf : wf_tg mt_Exp_kindOf 2 := ⟨wl_mem 390 (by decide +kernel) rfl, wl_mem 67 (by decide +kernel) rfl, by decide +kernel, by decide +kernel, by decide⟩
theorem sm_Exp_kindOf : Cond.static ⟨"LineRules$Expression", "kindOf", "(II)I"⟩ ∈ wl_ALL := wl_mem 389 (by decide +kernel) rfl
theorem tg_Exp_followersOf : wf_tg mt_Exp_followersOf 1 := ⟨wl_mem 394 (by decide +kernel) rfl, wl_mem 67 (by decide +kernel) rfl, by decide +kernel, by decide +kernel, by decide⟩
theorem im_Exp_followersOf : Cond.instanceMethod ⟨"LineRules$Expression", "followersOf", "(J)J"⟩ ∈ wl_ALL := wl_mem 393 (by decide +kernel) rfl
theorem se_Exp_followersOf : Cond.selects "LineRules$Expression" ⟨"LineRules$Expression", "followersOf", "(J)J"⟩ ⟨"LineRules$Expression", "followersOf", "(J)J"⟩ ∈ wl_ALL := wl_mem 2 (by decide +kernel) rfl
theorem tg_Out_init : wf_tg mt_Out_init 0 := ⟨wl_mem 245 (by decide +kernel) rfl, wl_mem 70 (by decide +kernel) rfl, by decide +kernel, by decide +kernel, by decide⟩
theorem im_Out_init : Cond.instanceMethod ⟨"LineRules$Output", "<init>", "()V"⟩ ∈ wl_ALL := wl_mem 244 (by decide +kernel) rfl
theorem tg_Out_print : wf_tg mt_Out_print 1 := ⟨wl_mem 414 (by decide +kernel) rfl, wl_mem 70 (by decide +kernel) rfl, by decide +kernel, by decide +kernel, by decide⟩
theorem im_Out_print : Cond.instanceMethod ⟨"LineRules$Output", "print", "(LLineRules$Row;)V"⟩ ∈ wl_ALL := wl_mem 412 (by decide +kernel) rfl
theorem se_Out_print : Cond.selects "LineRules$Output" ⟨"LineRules$Output", "print", "(LLineRules$Row;)V"⟩ ⟨"LineRules$Output", "print", "(LLineRules$Row;)V"⟩ ∈ wl_ALL := wl_mem 413 (by decide +kernel) rfl
theorem tg_Out_printPart : wf_tg mt_Out_printPart 3 := ⟨wl_mem 418 (by decide +kernel) rfl, wl_mem 70 (by decide +kernel) rfl, by decide +kernel, by decide +kernel, by decide⟩
theorem im_Out_printPart : Cond.instanceMethod ⟨"LineRules$Output", "printPart", "(LLineRules$Row;II)V"⟩ ∈ wl_ALL := wl_mem 416 (by decide +kernel) rfl
theorem se_Out_printPart : Cond.selects "LineRules$Output" ⟨"LineRules$Output", "printPart", "(LLineRules$Row;II)V"⟩ ⟨"LineRules$Output", "printPart", "(LLineRules$Row;II)V"⟩ ∈ wl_ALL := wl_mem 417 (by decide +kernel) rfl
theorem tg_Out_add : wf_tg mt_Out_add 1 := ⟨wl_mem 422 (by decide +kernel) rfl, wl_mem 70 (by decide +kernel) rfl, by decide +kernel, by decide +kernel, by decide⟩
theorem im_Out_add : Cond.instanceMethod ⟨"LineRules$Output", "add", "(I)V"⟩ ∈ wl_ALL := wl_mem 421 (by decide +kernel) rfl
theorem se_Out_add : Cond.selects "LineRules$Output" ⟨"LineRules$Output", "add", "(I)V"⟩ ⟨"LineRules$Output", "add", "(I)V"⟩ ∈ wl_ALL := wl_mem 5 (by decide +kernel) rfl
theorem tg_Out_has : wf_tg mt_Out_has 1 := ⟨wl_mem 821 (by decide +kernel) rfl, wl_mem 70 (by decide +kernel) rfl, by decide +kernel, by decide +kernel, by decide⟩
theorem im_Out_has : Cond.instanceMethod ⟨"LineRules$Output", "has", "(I)Z"⟩ ∈ wl_ALL := wl_mem 819 (by decide +kernel) rfl
theorem se_Out_has : Cond.selects "LineRules$Output" ⟨"LineRules$Output", "has", "(I)Z"⟩ ⟨"LineRules$Output", "has", "(I)Z"⟩ ∈ wl_ALL := wl_mem 820 (by decide +kernel) rfl
theorem tg_Out_signAt : wf_tg mt_Out_signAt 1 := ⟨wl_mem 826 (by decide +kernel) rfl, wl_mem 70 (by decide +kernel) rfl, by decide +kernel, by decide +kernel, by decide⟩
theorem im_Out_signAt : Cond.instanceMethod ⟨"LineRules$Output", "signAt", "(I)I"⟩ ∈ wl_ALL := wl_mem 824 (by decide +kernel) rfl
theorem se_Out_signAt : Cond.selects "LineRules$Output" ⟨"LineRules$Output", "signAt", "(I)I"⟩ ⟨"LineRules$Output", "signAt", "(I)I"⟩ ∈ wl_ALL := wl_mem 825 (by decide +kernel) rfl
theorem tg_Rdr_init : wf_tg mt_Rdr_init 0 := ⟨wl_mem 122 (by decide +kernel) rfl, wl_mem 66 (by decide +kernel) rfl, by decide +kernel, by decide +kernel, by decide⟩
theorem im_Rdr_init : Cond.instanceMethod ⟨"LineRules$Reader", "<init>", "()V"⟩ ∈ wl_ALL := wl_mem 121 (by decide +kernel) rfl
theorem tg_Rdr_read : wf_tg mt_Rdr_read 1 := ⟨wl_mem 605 (by decide +kernel) rfl, wl_mem 66 (by decide +kernel) rfl, by decide +kernel, by decide +kernel, by decide⟩
theorem im_Rdr_read : Cond.instanceMethod ⟨"LineRules$Reader", "read", "(LLineRules$Row;)I"⟩ ∈ wl_ALL := wl_mem 603 (by decide +kernel) rfl
theorem se_Rdr_read : Cond.selects "LineRules$Reader" ⟨"LineRules$Reader", "read", "(LLineRules$Row;)I"⟩ ⟨"LineRules$Reader", "read", "(LLineRules$Row;)I"⟩ ∈ wl_ALL := wl_mem 604 (by decide +kernel) rfl
theorem tg_Rdr_exchange : wf_tg mt_Rdr_exchange 1 := ⟨wl_mem 709 (by decide +kernel) rfl, wl_mem 66 (by decide +kernel) rfl, by decide +kernel, by decide +kernel, by decide⟩
theorem im_Rdr_exchange : Cond.instanceMethod ⟨"LineRules$Reader", "exchange", "(LLineRules$Expression;)LLineRules$Expression;"⟩ ∈ wl_ALL := wl_mem 707 (by decide +kernel) rfl
theorem se_Rdr_exchange : Cond.selects "LineRules$Reader" ⟨"LineRules$Reader", "exchange", "(LLineRules$Expression;)LLineRules$Expression;"⟩ ⟨"LineRules$Reader", "exchange", "(LLineRules$Expression;)LLineRules$Expression;"⟩ ∈ wl_ALL := wl_mem 708 (by decide +kernel) rfl
theorem tg_Rdr_alternation : wf_tg mt_Rdr_alternation 1 := ⟨wl_mem 616 (by decide +kernel) rfl, wl_mem 66 (by decide +kernel) rfl, by decide +kernel, by decide +kernel, by decide⟩
theorem im_Rdr_alternation : Cond.instanceMethod ⟨"LineRules$Reader", "alternation", "(I)I"⟩ ∈ wl_ALL := wl_mem 615 (by decide +kernel) rfl
theorem se_Rdr_alternation : Cond.selects "LineRules$Reader" ⟨"LineRules$Reader", "alternation", "(I)I"⟩ ⟨"LineRules$Reader", "alternation", "(I)I"⟩ ∈ wl_ALL := wl_mem 13 (by decide +kernel) rfl
theorem tg_Rdr_sequence : wf_tg mt_Rdr_sequence 1 := ⟨wl_mem 620 (by decide +kernel) rfl, wl_mem 66 (by decide +kernel) rfl, by decide +kernel, by decide +kernel, by decide⟩
theorem im_Rdr_sequence : Cond.instanceMethod ⟨"LineRules$Reader", "sequence", "(I)I"⟩ ∈ wl_ALL := wl_mem 619 (by decide +kernel) rfl
theorem se_Rdr_sequence : Cond.selects "LineRules$Reader" ⟨"LineRules$Reader", "sequence", "(I)I"⟩ ⟨"LineRules$Reader", "sequence", "(I)I"⟩ ∈ wl_ALL := wl_mem 14 (by decide +kernel) rfl
theorem tg_Rdr_repeated : wf_tg mt_Rdr_repeated 1 := ⟨wl_mem 682 (by decide +kernel) rfl, wl_mem 66 (by decide +kernel) rfl, by decide +kernel, by decide +kernel, by decide⟩
theorem im_Rdr_repeated : Cond.instanceMethod ⟨"LineRules$Reader", "repeated", "(I)I"⟩ ∈ wl_ALL := wl_mem 681 (by decide +kernel) rfl
theorem se_Rdr_repeated : Cond.selects "LineRules$Reader" ⟨"LineRules$Reader", "repeated", "(I)I"⟩ ⟨"LineRules$Reader", "repeated", "(I)I"⟩ ∈ wl_ALL := wl_mem 28 (by decide +kernel) rfl
theorem tg_Rdr_isRepeat : wf_tg mt_Rdr_isRepeat 1 := ⟨wl_mem 639 (by decide +kernel) rfl, wl_mem 66 (by decide +kernel) rfl, by decide +kernel, by decide +kernel, by decide⟩
theorem sm_Rdr_isRepeat : Cond.static ⟨"LineRules$Reader", "isRepeat", "(I)Z"⟩ ∈ wl_ALL := wl_mem 638 (by decide +kernel) rfl
theorem tg_Rdr_repeatKind : wf_tg mt_Rdr_repeatKind 1 := ⟨wl_mem 685 (by decide +kernel) rfl, wl_mem 66 (by decide +kernel) rfl, by decide +kernel, by decide +kernel, by decide⟩
theorem sm_Rdr_repeatKind : Cond.static ⟨"LineRules$Reader", "repeatKind", "(I)I"⟩ ∈ wl_ALL := wl_mem 684 (by decide +kernel) rfl
theorem tg_Rdr_atom : wf_tg mt_Rdr_atom 1 := ⟨wl_mem 636 (by decide +kernel) rfl, wl_mem 66 (by decide +kernel) rfl, by decide +kernel, by decide +kernel, by decide⟩
theorem im_Rdr_atom : Cond.instanceMethod ⟨"LineRules$Reader", "atom", "(I)I"⟩ ∈ wl_ALL := wl_mem 635 (by decide +kernel) rfl
theorem se_Rdr_atom : Cond.selects "LineRules$Reader" ⟨"LineRules$Reader", "atom", "(I)I"⟩ ⟨"LineRules$Reader", "atom", "(I)I"⟩ ∈ wl_ALL := wl_mem 18 (by decide +kernel) rfl
theorem tg_Rdr_group : wf_tg mt_Rdr_group 1 := ⟨wl_mem 678 (by decide +kernel) rfl, wl_mem 66 (by decide +kernel) rfl, by decide +kernel, by decide +kernel, by decide⟩
theorem im_Rdr_group : Cond.instanceMethod ⟨"LineRules$Reader", "group", "(I)I"⟩ ∈ wl_ALL := wl_mem 677 (by decide +kernel) rfl
theorem se_Rdr_group : Cond.selects "LineRules$Reader" ⟨"LineRules$Reader", "group", "(I)I"⟩ ⟨"LineRules$Reader", "group", "(I)I"⟩ ∈ wl_ALL := wl_mem 27 (by decide +kernel) rfl
theorem tg_Rdr_escaped : wf_tg mt_Rdr_escaped 0 := ⟨wl_mem 655 (by decide +kernel) rfl, wl_mem 66 (by decide +kernel) rfl, by decide +kernel, by decide +kernel, by decide⟩
theorem im_Rdr_escaped : Cond.instanceMethod ⟨"LineRules$Reader", "escaped", "()I"⟩ ∈ wl_ALL := wl_mem 654 (by decide +kernel) rfl
theorem se_Rdr_escaped : Cond.selects "LineRules$Reader" ⟨"LineRules$Reader", "escaped", "()I"⟩ ⟨"LineRules$Reader", "escaped", "()I"⟩ ∈ wl_ALL := wl_mem 22 (by decide +kernel) rfl
theorem tg_Rdr_one : wf_tg mt_Rdr_one 1 := ⟨wl_mem 659 (by decide +kernel) rfl, wl_mem 66 (by decide +kernel) rfl, by decide +kernel, by decide +kernel, by decide⟩
theorem im_Rdr_one : Cond.instanceMethod ⟨"LineRules$Reader", "one", "(I)I"⟩ ∈ wl_ALL := wl_mem 658 (by decide +kernel) rfl
theorem se_Rdr_one : Cond.selects "LineRules$Reader" ⟨"LineRules$Reader", "one", "(I)I"⟩ ⟨"LineRules$Reader", "one", "(I)I"⟩ ∈ wl_ALL := wl_mem 23 (by decide +kernel) rfl
theorem tg_Rdr_anySign : wf_tg mt_Rdr_anySign 0 := ⟨wl_mem 643 (by decide +kernel) rfl, wl_mem 66 (by decide +kernel) rfl, by decide +kernel, by decide +kernel, by decide⟩
theorem im_Rdr_anySign : Cond.instanceMethod ⟨"LineRules$Reader", "anySign", "()I"⟩ ∈ wl_ALL := wl_mem 642 (by decide +kernel) rfl
theorem se_Rdr_anySign : Cond.selects "LineRules$Reader" ⟨"LineRules$Reader", "anySign", "()I"⟩ ⟨"LineRules$Reader", "anySign", "()I"⟩ ∈ wl_ALL := wl_mem 19 (by decide +kernel) rfl
theorem tg_Rdr_items : wf_tg mt_Rdr_items 0 := ⟨wl_mem 663 (by decide +kernel) rfl, wl_mem 66 (by decide +kernel) rfl, by decide +kernel, by decide +kernel, by decide⟩
theorem im_Rdr_items : Cond.instanceMethod ⟨"LineRules$Reader", "items", "()I"⟩ ∈ wl_ALL := wl_mem 662 (by decide +kernel) rfl
theorem se_Rdr_items : Cond.selects "LineRules$Reader" ⟨"LineRules$Reader", "items", "()I"⟩ ⟨"LineRules$Reader", "items", "()I"⟩ ∈ wl_ALL := wl_mem 24 (by decide +kernel) rfl
theorem tg_Rdr_item : wf_tg mt_Rdr_item 1 := ⟨wl_mem 667 (by decide +kernel) rfl, wl_mem 66 (by decide +kernel) rfl, by decide +kernel, by decide +kernel, by decide⟩
theorem im_Rdr_item : Cond.instanceMethod ⟨"LineRules$Reader", "item", "(J)V"⟩ ∈ wl_ALL := wl_mem 666 (by decide +kernel) rfl
theorem se_Rdr_item : Cond.selects "LineRules$Reader" ⟨"LineRules$Reader", "item", "(J)V"⟩ ⟨"LineRules$Reader", "item", "(J)V"⟩ ∈ wl_ALL := wl_mem 25 (by decide +kernel) rfl
theorem tg_Rdr_isItemSign : wf_tg mt_Rdr_isItemSign 1 := ⟨wl_mem 670 (by decide +kernel) rfl, wl_mem 66 (by decide +kernel) rfl, by decide +kernel, by decide +kernel, by decide⟩
theorem sm_Rdr_isItemSign : Cond.static ⟨"LineRules$Reader", "isItemSign", "(I)Z"⟩ ∈ wl_ALL := wl_mem 669 (by decide +kernel) rfl
theorem tg_Rdr_next : wf_tg mt_Rdr_next 0 := ⟨wl_mem 632 (by decide +kernel) rfl, wl_mem 66 (by decide +kernel) rfl, by decide +kernel, by decide +kernel, by decide⟩
theorem im_Rdr_next : Cond.instanceMethod ⟨"LineRules$Reader", "next", "()I"⟩ ∈ wl_ALL := wl_mem 631 (by decide +kernel) rfl
theorem se_Rdr_next : Cond.selects "LineRules$Reader" ⟨"LineRules$Reader", "next", "()I"⟩ ⟨"LineRules$Reader", "next", "()I"⟩ ∈ wl_ALL := wl_mem 17 (by decide +kernel) rfl
theorem tg_Rdr_refuse : wf_tg mt_Rdr_refuse 0 := ⟨wl_mem 628 (by decide +kernel) rfl, wl_mem 66 (by decide +kernel) rfl, by decide +kernel, by decide +kernel, by decide⟩
theorem im_Rdr_refuse : Cond.instanceMethod ⟨"LineRules$Reader", "refuse", "()I"⟩ ∈ wl_ALL := wl_mem 627 (by decide +kernel) rfl
theorem se_Rdr_refuse : Cond.selects "LineRules$Reader" ⟨"LineRules$Reader", "refuse", "()I"⟩ ⟨"LineRules$Reader", "refuse", "()I"⟩ ∈ wl_ALL := wl_mem 16 (by decide +kernel) rfl
theorem tg_Rdr_newAtom : wf_tg mt_Rdr_newAtom 0 := ⟨wl_mem 647 (by decide +kernel) rfl, wl_mem 66 (by decide +kernel) rfl, by decide +kernel, by decide +kernel, by decide⟩
theorem im_Rdr_newAtom : Cond.instanceMethod ⟨"LineRules$Reader", "newAtom", "()J"⟩ ∈ wl_ALL := wl_mem 646 (by decide +kernel) rfl
theorem se_Rdr_newAtom : Cond.selects "LineRules$Reader" ⟨"LineRules$Reader", "newAtom", "()J"⟩ ⟨"LineRules$Reader", "newAtom", "()J"⟩ ∈ wl_ALL := wl_mem 20 (by decide +kernel) rfl
theorem tg_Rdr_take : wf_tg mt_Rdr_take 3 := ⟨wl_mem 651 (by decide +kernel) rfl, wl_mem 66 (by decide +kernel) rfl, by decide +kernel, by decide +kernel, by decide⟩
theorem im_Rdr_take : Cond.instanceMethod ⟨"LineRules$Reader", "take", "(JII)V"⟩ ∈ wl_ALL := wl_mem 650 (by decide +kernel) rfl
theorem se_Rdr_take : Cond.selects "LineRules$Reader" ⟨"LineRules$Reader", "take", "(JII)V"⟩ ⟨"LineRules$Reader", "take", "(JII)V"⟩ ∈ wl_ALL := wl_mem 21 (by decide +kernel) rfl
theorem tg_Rdr_takeOthers : wf_tg mt_Rdr_takeOthers 1 := ⟨wl_mem 674 (by decide +kernel) rfl, wl_mem 66 (by decide +kernel) rfl, by decide +kernel, by decide +kernel, by decide⟩
theorem im_Rdr_takeOthers : Cond.instanceMethod ⟨"LineRules$Reader", "takeOthers", "(J)V"⟩ ∈ wl_ALL := wl_mem 673 (by decide +kernel) rfl
theorem se_Rdr_takeOthers : Cond.selects "LineRules$Reader" ⟨"LineRules$Reader", "takeOthers", "(J)V"⟩ ⟨"LineRules$Reader", "takeOthers", "(J)V"⟩ ∈ wl_ALL := wl_mem 26 (by decide +kernel) rfl
theorem tg_Rdr_node : wf_tg mt_Rdr_node 3 := ⟨wl_mem 624 (by decide +kernel) rfl, wl_mem 66 (by decide +kernel) rfl, by decide +kernel, by decide +kernel, by decide⟩
theorem im_Rdr_node : Cond.instanceMethod ⟨"LineRules$Reader", "node", "(III)I"⟩ ∈ wl_ALL := wl_mem 623 (by decide +kernel) rfl
theorem se_Rdr_node : Cond.selects "LineRules$Reader" ⟨"LineRules$Reader", "node", "(III)I"⟩ ⟨"LineRules$Reader", "node", "(III)I"⟩ ∈ wl_ALL := wl_mem 15 (by decide +kernel) rfl
theorem tg_Rdr_weighAll : wf_tg mt_Rdr_weighAll 1 := ⟨wl_mem 689 (by decide +kernel) rfl, wl_mem 66 (by decide +kernel) rfl, by decide +kernel, by decide +kernel, by decide⟩
theorem im_Rdr_weighAll : Cond.instanceMethod ⟨"LineRules$Reader", "weighAll", "(I)V"⟩ ∈ wl_ALL := wl_mem 688 (by decide +kernel) rfl
theorem se_Rdr_weighAll : Cond.selects "LineRules$Reader" ⟨"LineRules$Reader", "weighAll", "(I)V"⟩ ⟨"LineRules$Reader", "weighAll", "(I)V"⟩ ∈ wl_ALL := wl_mem 29 (by decide +kernel) rfl
theorem tg_Rdr_weigh : wf_tg mt_Rdr_weigh 2 := ⟨wl_mem 693 (by decide +kernel) rfl, wl_mem 66 (by decide +kernel) rfl, by decide +kernel, by decide +kernel, by decide⟩
theorem im_Rdr_weigh : Cond.instanceMethod ⟨"LineRules$Reader", "weigh", "(II)V"⟩ ∈ wl_ALL := wl_mem 692 (by decide +kernel) rfl
theorem se_Rdr_weigh : Cond.selects "LineRules$Reader" ⟨"LineRules$Reader", "weigh", "(II)V"⟩ ⟨"LineRules$Reader", "weigh", "(II)V"⟩ ∈ wl_ALL := wl_mem 30 (by decide +kernel) rfl
theorem tg_Rdr_set : wf_tg mt_Rdr_set 4 := ⟨wl_mem 697 (by decide +kernel) rfl, wl_mem 66 (by decide +kernel) rfl, by decide +kernel, by decide +kernel, by decide⟩
theorem im_Rdr_set : Cond.instanceMethod ⟨"LineRules$Reader", "set", "(IZJJ)V"⟩ ∈ wl_ALL := wl_mem 696 (by decide +kernel) rfl
theorem se_Rdr_set : Cond.selects "LineRules$Reader" ⟨"LineRules$Reader", "set", "(IZJJ)V"⟩ ⟨"LineRules$Reader", "set", "(IZJJ)V"⟩ ∈ wl_ALL := wl_mem 31 (by decide +kernel) rfl
theorem tg_Rdr_link : wf_tg mt_Rdr_link 1 := ⟨wl_mem 701 (by decide +kernel) rfl, wl_mem 66 (by decide +kernel) rfl, by decide +kernel, by decide +kernel, by decide⟩
theorem im_Rdr_link : Cond.instanceMethod ⟨"LineRules$Reader", "link", "(I)V"⟩ ∈ wl_ALL := wl_mem 700 (by decide +kernel) rfl
theorem se_Rdr_link : Cond.selects "LineRules$Reader" ⟨"LineRules$Reader", "link", "(I)V"⟩ ⟨"LineRules$Reader", "link", "(I)V"⟩ ∈ wl_ALL := wl_mem 32 (by decide +kernel) rfl
theorem tg_Rdr_follow : wf_tg mt_Rdr_follow 2 := ⟨wl_mem 705 (by decide +kernel) rfl, wl_mem 66 (by decide +kernel) rfl, by decide +kernel, by decide +kernel, by decide⟩
theorem im_Rdr_follow : Cond.instanceMethod ⟨"LineRules$Reader", "follow", "(JJ)V"⟩ ∈ wl_ALL := wl_mem 704 (by decide +kernel) rfl
theorem se_Rdr_follow : Cond.selects "LineRules$Reader" ⟨"LineRules$Reader", "follow", "(JJ)V"⟩ ⟨"LineRules$Reader", "follow", "(JJ)V"⟩ ∈ wl_ALL := wl_mem 33 (by decide +kernel) rfl
theorem tg_Row_init : wf_tg mt_Row_init 1 := ⟨wl_mem 94 (by decide +kernel) rfl, wl_mem 65 (by decide +kernel) rfl, by decide +kernel, by decide +kernel, by decide⟩
theorem im_Row_init : Cond.instanceMethod ⟨"LineRules$Row", "<init>", "(I)V"⟩ ∈ wl_ALL := wl_mem 93 (by decide +kernel) rfl
theorem tg_Row_drop : wf_tg mt_Row_drop 0 := ⟨wl_mem 340 (by decide +kernel) rfl, wl_mem 65 (by decide +kernel) rfl, by decide +kernel, by decide +kernel, by decide⟩
theorem im_Row_drop : Cond.instanceMethod ⟨"LineRules$Row", "drop", "()V"⟩ ∈ wl_ALL := wl_mem 338 (by decide +kernel) rfl
theorem se_Row_drop : Cond.selects "LineRules$Row" ⟨"LineRules$Row", "drop", "()V"⟩ ⟨"LineRules$Row", "drop", "()V"⟩ ∈ wl_ALL := wl_mem 339 (by decide +kernel) rfl
theorem tg_Row_has : wf_tg mt_Row_has 1 := ⟨wl_mem 809 (by decide +kernel) rfl, wl_mem 65 (by decide +kernel) rfl, by decide +kernel, by decide +kernel, by decide⟩
theorem im_Row_has : Cond.instanceMethod ⟨"LineRules$Row", "has", "(I)Z"⟩ ∈ wl_ALL := wl_mem 807 (by decide +kernel) rfl
theorem se_Row_has : Cond.selects "LineRules$Row" ⟨"LineRules$Row", "has", "(I)Z"⟩ ⟨"LineRules$Row", "has", "(I)Z"⟩ ∈ wl_ALL := wl_mem 808 (by decide +kernel) rfl
theorem tg_Row_add : wf_tg mt_Row_add 1 := ⟨wl_mem 456 (by decide +kernel) rfl, wl_mem 65 (by decide +kernel) rfl, by decide +kernel, by decide +kernel, by decide⟩
theorem im_Row_add : Cond.instanceMethod ⟨"LineRules$Row", "add", "(I)V"⟩ ∈ wl_ALL := wl_mem 454 (by decide +kernel) rfl
theorem se_Row_add : Cond.selects "LineRules$Row" ⟨"LineRules$Row", "add", "(I)V"⟩ ⟨"LineRules$Row", "add", "(I)V"⟩ ∈ wl_ALL := wl_mem 455 (by decide +kernel) rfl
theorem tg_Row_addPart : wf_tg mt_Row_addPart 3 := ⟨wl_mem 375 (by decide +kernel) rfl, wl_mem 65 (by decide +kernel) rfl, by decide +kernel, by decide +kernel, by decide⟩
theorem im_Row_addPart : Cond.instanceMethod ⟨"LineRules$Row", "addPart", "(LLineRules$Row;II)V"⟩ ∈ wl_ALL := wl_mem 373 (by decide +kernel) rfl
theorem se_Row_addPart : Cond.selects "LineRules$Row" ⟨"LineRules$Row", "addPart", "(LLineRules$Row;II)V"⟩ ⟨"LineRules$Row", "addPart", "(LLineRules$Row;II)V"⟩ ∈ wl_ALL := wl_mem 374 (by decide +kernel) rfl
theorem tg_Row_addAll : wf_tg mt_Row_addAll 1 := ⟨wl_mem 460 (by decide +kernel) rfl, wl_mem 65 (by decide +kernel) rfl, by decide +kernel, by decide +kernel, by decide⟩
theorem im_Row_addAll : Cond.instanceMethod ⟨"LineRules$Row", "addAll", "(LLineRules$Row;)V"⟩ ∈ wl_ALL := wl_mem 458 (by decide +kernel) rfl
theorem se_Row_addAll : Cond.selects "LineRules$Row" ⟨"LineRules$Row", "addAll", "(LLineRules$Row;)V"⟩ ⟨"LineRules$Row", "addAll", "(LLineRules$Row;)V"⟩ ∈ wl_ALL := wl_mem 459 (by decide +kernel) rfl
theorem tg_Row_become : wf_tg mt_Row_become 1 := ⟨wl_mem 356 (by decide +kernel) rfl, wl_mem 65 (by decide +kernel) rfl, by decide +kernel, by decide +kernel, by decide⟩
theorem im_Row_become : Cond.instanceMethod ⟨"LineRules$Row", "become", "(LLineRules$Row;)V"⟩ ∈ wl_ALL := wl_mem 354 (by decide +kernel) rfl
theorem se_Row_become : Cond.selects "LineRules$Row" ⟨"LineRules$Row", "become", "(LLineRules$Row;)V"⟩ ⟨"LineRules$Row", "become", "(LLineRules$Row;)V"⟩ ∈ wl_ALL := wl_mem 355 (by decide +kernel) rfl
theorem tg_Row_becomeNumber : wf_tg mt_Row_becomeNumber 1 := ⟨wl_mem 465 (by decide +kernel) rfl, wl_mem 65 (by decide +kernel) rfl, by decide +kernel, by decide +kernel, by decide⟩
theorem im_Row_becomeNumber : Cond.instanceMethod ⟨"LineRules$Row", "becomeNumber", "(I)V"⟩ ∈ wl_ALL := wl_mem 463 (by decide +kernel) rfl
theorem se_Row_becomeNumber : Cond.selects "LineRules$Row" ⟨"LineRules$Row", "becomeNumber", "(I)V"⟩ ⟨"LineRules$Row", "becomeNumber", "(I)V"⟩ ∈ wl_ALL := wl_mem 464 (by decide +kernel) rfl
theorem tg_Row_toNumber : wf_tg mt_Row_toNumber 0 := ⟨wl_mem 402 (by decide +kernel) rfl, wl_mem 65 (by decide +kernel) rfl, by decide +kernel, by decide +kernel, by decide⟩
theorem im_Row_toNumber : Cond.instanceMethod ⟨"LineRules$Row", "toNumber", "()I"⟩ ∈ wl_ALL := wl_mem 400 (by decide +kernel) rfl
theorem se_Row_toNumber : Cond.selects "LineRules$Row" ⟨"LineRules$Row", "toNumber", "()I"⟩ ⟨"LineRules$Row", "toNumber", "()I"⟩ ∈ wl_ALL := wl_mem 401 (by decide +kernel) rfl
theorem tg_Row_compareWith : wf_tg mt_Row_compareWith 1 := ⟨wl_mem 437 (by decide +kernel) rfl, wl_mem 65 (by decide +kernel) rfl, by decide +kernel, by decide +kernel, by decide⟩
theorem im_Row_compareWith : Cond.instanceMethod ⟨"LineRules$Row", "compareWith", "(LLineRules$Row;)I"⟩ ∈ wl_ALL := wl_mem 435 (by decide +kernel) rfl
theorem se_Row_compareWith : Cond.selects "LineRules$Row" ⟨"LineRules$Row", "compareWith", "(LLineRules$Row;)I"⟩ ⟨"LineRules$Row", "compareWith", "(LLineRules$Row;)I"⟩ ∈ wl_ALL := wl_mem 436 (by decide +kernel) rfl
theorem tg_Rul_init : wf_tg mt_Rul_init 0 := ⟨wl_mem 259 (by decide +kernel) rfl, wl_mem 71 (by decide +kernel) rfl, by decide +kernel, by decide +kernel, by decide⟩
theorem im_Rul_init : Cond.instanceMethod ⟨"LineRules$Rule", "<init>", "()V"⟩ ∈ wl_ALL := wl_mem 258 (by decide +kernel) rfl
theorem tg_Rul_begin : wf_tg mt_Rul_begin 3 := ⟨wl_mem 765 (by decide +kernel) rfl, wl_mem 71 (by decide +kernel) rfl, by decide +kernel, by decide +kernel, by decide⟩
theorem im_Rul_begin : Cond.instanceMethod ⟨"LineRules$Rule", "begin", "(III)V"⟩ ∈ wl_ALL := wl_mem 763 (by decide +kernel) rfl
theorem se_Rul_begin : Cond.selects "LineRules$Rule" ⟨"LineRules$Rule", "begin", "(III)V"⟩ ⟨"LineRules$Rule", "begin", "(III)V"⟩ ∈ wl_ALL := wl_mem 764 (by decide +kernel) rfl
theorem tg_Rul_isFull : wf_tg mt_Rul_isFull 0 := ⟨wl_mem 783 (by decide +kernel) rfl, wl_mem 71 (by decide +kernel) rfl, by decide +kernel, by decide +kernel, by decide⟩
theorem im_Rul_isFull : Cond.instanceMethod ⟨"LineRules$Rule", "isFull", "()Z"⟩ ∈ wl_ALL := wl_mem 781 (by decide +kernel) rfl
theorem se_Rul_isFull : Cond.selects "LineRules$Rule" ⟨"LineRules$Rule", "isFull", "()Z"⟩ ⟨"LineRules$Rule", "isFull", "()Z"⟩ ∈ wl_ALL := wl_mem 782 (by decide +kernel) rfl
theorem tg_Rul_add : wf_tg mt_Rul_add 3 := ⟨wl_mem 788 (by decide +kernel) rfl, wl_mem 71 (by decide +kernel) rfl, by decide +kernel, by decide +kernel, by decide⟩
theorem im_Rul_add : Cond.instanceMethod ⟨"LineRules$Rule", "add", "(III)I"⟩ ∈ wl_ALL := wl_mem 786 (by decide +kernel) rfl
theorem se_Rul_add : Cond.selects "LineRules$Rule" ⟨"LineRules$Rule", "add", "(III)I"⟩ ⟨"LineRules$Rule", "add", "(III)I"⟩ ∈ wl_ALL := wl_mem 787 (by decide +kernel) rfl
theorem tg_Tab_init : wf_tg mt_Tab_init 0 := ⟨wl_mem 225 (by decide +kernel) rfl, wl_mem 69 (by decide +kernel) rfl, by decide +kernel, by decide +kernel, by decide⟩
theorem im_Tab_init : Cond.instanceMethod ⟨"LineRules$Table", "<init>", "()V"⟩ ∈ wl_ALL := wl_mem 224 (by decide +kernel) rfl
theorem tg_Tab_grow : wf_tg mt_Tab_grow 2 := ⟨wl_mem 429 (by decide +kernel) rfl, wl_mem 69 (by decide +kernel) rfl, by decide +kernel, by decide +kernel, by decide⟩
theorem im_Tab_grow : Cond.instanceMethod ⟨"LineRules$Table", "grow", "(LLineRules$Row;I)V"⟩ ∈ wl_ALL := wl_mem 427 (by decide +kernel) rfl
theorem se_Tab_grow : Cond.selects "LineRules$Table" ⟨"LineRules$Table", "grow", "(LLineRules$Row;I)V"⟩ ⟨"LineRules$Table", "grow", "(LLineRules$Row;I)V"⟩ ∈ wl_ALL := wl_mem 428 (by decide +kernel) rfl
theorem tg_Tab_placeOf : wf_tg mt_Tab_placeOf 1 := ⟨wl_mem 433 (by decide +kernel) rfl, wl_mem 69 (by decide +kernel) rfl, by decide +kernel, by decide +kernel, by decide⟩
theorem im_Tab_placeOf : Cond.instanceMethod ⟨"LineRules$Table", "placeOf", "(LLineRules$Row;)I"⟩ ∈ wl_ALL := wl_mem 432 (by decide +kernel) rfl
theorem se_Tab_placeOf : Cond.selects "LineRules$Table" ⟨"LineRules$Table", "placeOf", "(LLineRules$Row;)I"⟩ ⟨"LineRules$Table", "placeOf", "(LLineRules$Row;)I"⟩ ∈ wl_ALL := wl_mem 6 (by decide +kernel) rfl
theorem tg_Tab_insert : wf_tg mt_Tab_insert 3 := ⟨wl_mem 441 (by decide +kernel) rfl, wl_mem 69 (by decide +kernel) rfl, by decide +kernel, by decide +kernel, by decide⟩
theorem im_Tab_insert : Cond.instanceMethod ⟨"LineRules$Table", "insert", "(ILLineRules$Row;I)V"⟩ ∈ wl_ALL := wl_mem 440 (by decide +kernel) rfl
theorem se_Tab_insert : Cond.selects "LineRules$Table" ⟨"LineRules$Table", "insert", "(ILLineRules$Row;I)V"⟩ ⟨"LineRules$Table", "insert", "(ILLineRules$Row;I)V"⟩ ∈ wl_ALL := wl_mem 7 (by decide +kernel) rfl
theorem tg_Mth_floorMod : wf_tg mt_Mth_floorMod 2 := ⟨wl_mem 425 (by decide +kernel) rfl, wl_mem 79 (by decide +kernel) rfl, by decide +kernel, by decide +kernel, by decide⟩
theorem sm_Mth_floorMod : Cond.static ⟨"java/lang/Math", "floorMod", "(II)I"⟩ ∈ wl_ALL := wl_mem 424 (by decide +kernel) rfl
theorem tg_Mth_min : wf_tg mt_Mth_min 2 := ⟨wl_mem 359 (by decide +kernel) rfl, wl_mem 79 (by decide +kernel) rfl, by decide +kernel, by decide +kernel, by decide⟩
theorem sm_Mth_min : Cond.static ⟨"java/lang/Math", "min", "(II)I"⟩ ∈ wl_ALL := wl_mem 358 (by decide +kernel) rfl
theorem tg_Arr_fill : wf_tg mt_Arr_fill 2 := ⟨wl_mem 612 (by decide +kernel) rfl, wl_mem 78 (by decide +kernel) rfl, by decide +kernel, by decide +kernel, by decide⟩
theorem sm_Arr_fill : Cond.static ⟨"java/util/Arrays", "fill", "([JJ)V"⟩ ∈ wl_ALL := wl_mem 611 (by decide +kernel) rfl
theorem im_obj : Cond.instanceMethod Lib.objectInit ∈ wl_ALL := wl_mem 88 (by decide +kernel) rfl
theorem co_obj : Cond.code Lib.objectInit ⟨#[0xb1]⟩ 1 none ∈ wl_ALL := wl_mem 89 (by decide +kernel) rfl
end
section
theorem law_all {l : Launch} {E : We} {n0 d nx : Nat} {t : Wt} {r : Wr} {i : Wi} {g : Wl} {sc n : Nat} {Q : Wq} (hl : l.stackTraces = false) (hn : n ≤ 3072) (hQ : ∀ nx t r i g, Q (.inl (some (.int 1))) nx t r i g) (tS : t sc = some (.inr (wl_AS, n))) (hsc : sc < nx) : Wf l E n0 mt_Law_law (d + 50) 601024 7293034 Q 601024 7293034 0 [(0, .ref sc)] [] nx t r i g := by
  sorry
end
section
/-! THE CLAIM OUT OF ONE WALK OF THE LAW'S BODY. Your part is whole_start (and what it stands on); all else here is the same for every law, but numbers. -/
def R_law : String := "LineRulesLaw"
def lw_P (b : Addr) (xs : List Int32) (args : Array Value) (s : State) : Prop := args = #[.ref b] ∧ s.IntsAt b xs ∧ xs.length ≤ 3072 ∧ (Jvm.Cond.and given_1 narrow_1).before args s = true
def lw_Q (_ : Array Value) (s : State) (o : Outcome) (t : State) : Prop := o = .returned (some (.int 1)) ∧ Framed s o t [] 601024 7293034
def lw_Z (below : List Frame) (a : Array Value) (s : State) : State → Prop := fun t => ∃ o, t.status = .running ∧ Ended t below o ∧ lw_Q a s o t
/-- the law's own end, with 1 on the stack, nothing written that was there before, its room as the claim has it -/
theorem lw_ret {p : Program} {l : Launch} {e : Env} {s : State} {m : MethodId} {below : List Frame} {meth : Method} {c : Code} {b : Nat} (hx : p.tables.exec = Jvm.exec) (hb : c.code = code) (hr : meth.sig.returnType = ret) (hlocks : meth.locks = false) {pc : Nat} {H : Heap} {ls : Array Slot} (hdg : decode code pc = .ok (.ireturn, 1)) : W p l e room_1 s m #[Value.ref b] below meth c H [] 601024 7293034 (lw_Z below #[Value.ref b] s) (F0 m pc ls [.int 1]) := by
  intro T hT X
  obtain ⟨fs, hret, hrun, hended, hW, hframe⟩ := X.leave (v := some (.int 1)) (hlocks := hlocks) (fun h => by rw [hr] at h; cases h)
  have hmeth' : T.vm.method? m = some meth := X.method'
  refine ⟨T.setFrames fs, ?_, .returned (some (.int 1)), hrun, hended, rfl, ⟨_, rfl⟩, hW, hframe⟩
  jvm_step X.here [X.here.top, hx, hb, hdg, hmeth', hr, ret, narrow_b1]
  (try refine ⟨rfl, ?_⟩); (try refine ⟨rfl, ?_⟩)
  first | (intro acts; rw [hret _ acts rfl rfl rfl]) | rw [hret _ _ rfl rfl rfl]
  exact Steps.refl _
/-- what holds at the law's entry: the machine, the code, the tables' words (any of lw_tbl by 'hts w (by decide +kernel)'), the script of L ints xs at the cell b, what the Statement gives of the start (any of its parts by flat_of_before) -/
def lw_At (p : Program) (s : State) (m : MethodId) (meth : Method) (c : Code) (b L : Nat) (xs : Nat → Int32) : Prop :=
  p.tables.exec = Jvm.exec ∧ c.code = code ∧ meth.sig.returnType = ret ∧ c.maxLocals = 7 ∧ s.vm.findClass R_law = some m.cls ∧ (∀ w ∈ lw_tbl, w.before #[Value.ref b] s = true) ∧ va_X b L xs s s.heap ∧ b < s.heap.size ∧ meth.locks = false ∧ (Jvm.Cond.and given_1 narrow_1).before #[Value.ref b] s = true ∧ meth.name = "law" ∧ c.exceptionTable.toList = []
/-! from the maps to the claim -/
/-- less room is enough -/
theorem st_room {p : Program} {l : Launch} {e : Env} {R R' : Room} {s : State} {m : MethodId} {args : Array Value} {below : List Frame} {meth : Method} {c : Code} {T : State} {locs : List Loc} {cells slots : Nat} (X : Stand p l e R s m args below meth c T locs cells slots) (h1 : R'.frames ≤ R.frames) (h2 : R'.cells ≤ R.cells) (h3 : R'.slots ≤ R.slots) (h4 : R'.locals ≤ R.locals) : Stand p l e R' s m args below meth c T locs cells slots := by
  have h := X.room
  simp only [State.hasRoom, Bool.and_eq_true, decide_eq_true_eq] at h
  obtain ⟨⟨⟨⟨a0, a1, a2, a3, a4, a5⟩, a6⟩, a7⟩, a8⟩ := h
  refine ⟨X.admits, X.cas, X.clock, X.frames, ?_, X.hears, X.method, X.code, X.here, X.tail, X.warmed, X.limits, X.bytes, X.same⟩
  simp only [State.hasRoom, Bool.and_eq_true, decide_eq_true_eq]
  exact ⟨⟨⟨⟨by omega, by omega, by omega, by omega, by omega, a5⟩, by omega⟩, by omega⟩, a8⟩
theorem st_E {s : State} {args : Array Value} {scr : Cell} (hts : ∀ w ∈ lw_tbl, w.before args s = true) (hscr : s.isArrayOf scr .int) : ∃ E : We, wf_K E s ∧ E.2.2 wl_AS = scr.cls := by
  have hw : ∀ w ∈ wl_ALL, w.before args s = true := fun w h => hts w (List.mem_filter.mp h).1
  have at' : ∀ (n : Nat) (w : Cond), lw_tbl[n]? = some w → w.before args s = true := fun n w h => hts w (List.mem_of_getElem? h)
  have hcl : ∀ c : Nat, ∃ z : ClassId × (Nat → Nat), ∀ q : vw_C, wl_CL[c]? = some q → u_Kn s q.1 q.2.1 q.2.2 z.1 z.2 := fun c => by
    have one : ∀ (q : vw_C) (n N : Nat), wl_CL[c]? = some q → lw_tbl[n]? = some (Cond.instantiable q.1 N) → ∃ z : ClassId × (Nat → Nat), ∀ q : vw_C, wl_CL[c]? = some q → u_Kn s q.1 q.2.1 q.2.2 z.1 z.2 := fun q n N hq hn => by
      obtain ⟨cC, iS, h⟩ := u_known hw (wl_ok c q hq).1 (at' n _ hn)
      refine ⟨(cC, iS), fun q' hq' => ?_⟩
      cases hq.symm.trans hq'
      exact h
    by_cases h : c < 9
    · have hc : c = 0 ∨ c = 1 ∨ c = 2 ∨ c = 3 ∨ c = 4 ∨ c = 5 ∨ c = 6 ∨ c = 7 ∨ c = 8 := by omega
      rcases hc with z | z | z | z | z | z | z | z | z <;> subst z
      · exact one _ 83 14 rfl (by decide +kernel)
      · exact one _ 196 5 rfl (by decide +kernel)
      · exact one _ 125 6 rfl (by decide +kernel)
      · exact one _ 242 2 rfl (by decide +kernel)
      · exact one _ 119 11 rfl (by decide +kernel)
      · exact one _ 91 2 rfl (by decide +kernel)
      · exact one _ 256 7 rfl (by decide +kernel)
      · exact one _ 222 3 rfl (by decide +kernel)
      · exact one _ 852 40 rfl (by decide +kernel)
    · refine ⟨(0, fun _ => 0), fun q hq => ?_⟩
      rw [List.getElem?_eq_none (Nat.not_lt.mp h)] at hq
      cases hq
  have prim : ∀ ty : FieldType, Cond.arrayClass ty ∈ wl_ALL → (∀ C, ty ≠ .object C) → ∃ cA, ArrOfT s cA ty ∧ va_RA s cA ty := fun ty h hno => by
    obtain ⟨cA, kA, comp, h1, h2, h3⟩ := Cond.arrayClass_spec (hw _ h)
    refine ⟨cA, fun n z => ⟨fun k q => (by cases q), kA, h2, comp, h3⟩, ?_⟩
    cases ty <;> first | exact h1 | exact absurd rfl (hno _)
  have obj : ∀ C : String, (Cond.arrayOver (.object C)).before args s = true → ∃ cA, ArrOfT s cA (.object C) ∧ va_RA s cA (.object C) := fun C h => by
    obtain ⟨comp, cA, kA, h1, -, h2, h3, h4⟩ := Cond.arrayOver_spec h
    exact ⟨cA, fun n z => ⟨fun k q => (by cases q), kA, h2, comp, h3⟩, kA, comp, h2, h3, h1, h4⟩
  have o3 : (Cond.arrayOver (.object "LineRules$Row")).before args s = true := at' 115 _ (by decide +kernel)
  have o4 : (Cond.arrayOver (.object "LineRules$Expression")).before args s = true := at' 117 _ (by decide +kernel)
  have o5 : (Cond.arrayOver (.object "LineRules$Rule")).before args s = true := at' 194 _ (by decide +kernel)
  have har : ∀ y : Nat, ∃ cA : ClassId, (y < wl_AN → ArrOfT s cA (wl_AT y) ∧ (y ≠ wl_AS → va_RA s cA (wl_AT y))) ∧ (y = wl_AS → cA = scr.cls) := fun y => by
    have mk : ∀ {ty}, wl_AT y = ty → y ≠ wl_AS → (∃ cA, ArrOfT s cA ty ∧ va_RA s cA ty) → ∃ cA : ClassId, (y < wl_AN → ArrOfT s cA (wl_AT y) ∧ (y ≠ wl_AS → va_RA s cA (wl_AT y))) ∧ (y = wl_AS → cA = scr.cls) := fun {ty} hy hs h => by
      obtain ⟨cA, h1, h2⟩ := h
      exact ⟨cA, fun _ => by rw [hy]; exact ⟨h1, fun _ => h2⟩, fun z => absurd z hs⟩
    by_cases h : y < 7
    · have hc : y = 0 ∨ y = 1 ∨ y = 2 ∨ y = 3 ∨ y = 4 ∨ y = 5 ∨ y = 6 := by omega
      rcases hc with z | z | z | z | z | z | z <;> subst z
      · exact mk (ty := .int) rfl (by decide) (prim _ ac_int (fun C z => by cases z))
      · exact mk (ty := .boolean) rfl (by decide) (prim _ ac_boolean (fun C z => by cases z))
      · exact mk (ty := .long) rfl (by decide) (prim _ ac_long (fun C z => by cases z))
      · exact mk rfl (by decide) (obj _ o3)
      · exact mk rfl (by decide) (obj _ o4)
      · exact mk rfl (by decide) (obj _ o5)
      · exact ⟨scr.cls, fun _ => ⟨fun n z => ⟨fun k q => (by cases q), hscr.2⟩, fun z => absurd rfl z⟩, fun _ => rfl⟩
    · exact ⟨0, fun z => absurd z h, fun z => absurd (show y < 7 by rw [z]; decide) h⟩
  obtain ⟨f, hf⟩ := Classical.axiomOfChoice hcl
  obtain ⟨a, ha⟩ := Classical.axiomOfChoice har
  refine ⟨(fun c => (f c).1, fun c => (f c).2, a), ⟨fun c q hq => hf c q hq, fun y hy => (ha y).1 hy, fun C0 hC => ?_⟩, (ha wl_AS).2 rfl⟩
  simp only [wl_OV, List.mem_cons, List.not_mem_nil, or_false] at hC
  rcases hC with rfl | rfl | rfl
  · exact va_AO.of o3
  · exact va_AO.of o4
  · exact va_AO.of o5
theorem jw_args {w : Cond} (h : wl_jw w = true) {A B : Array Value} {s : State} (hb : w.before A s = true) : w.before B s = true := by
  match w, h, hb with
  | .stringRef _ _ _, _, hb => exact hb
  | .laysStatic _ _ _, _, hb => exact hb
  | .isRef (.static _ _ _), _, hb => exact hb
  | .not (.castable _ _), _, hb => exact hb
  | .declares _, _, hb => exact hb
theorem whole_start {p : Program} {e : Env} {s : State} {m : MethodId} {below : List Frame} {meth : Method} {c : Code} (l : Launch) (hl : l.stackTraces = false) {b L : Nat} {xs : Nat → Int32} (hL : L ≤ 3072) (C0 : lw_At p s m meth c b L xs) : W p l e room_1 s m #[Value.ref b] below meth c s.heap [] 0 0 (lw_Z below #[Value.ref b] s) (entryFrame m ([Value.ref b] : List Value).toArray 7) := by
  obtain ⟨c1, c2, c3, c4, c5, hts, ⟨scr, q1, q2, q3, q4, q5⟩, hbl, hlk, hgv, hnm, htb⟩ := C0
  obtain ⟨E, hK, hE⟩ := st_E hts q2
  have hs := flat_of_before _ hgv
  have hall : ∀ w ∈ wl_NJ, w ∈ flatC (Jvm.Cond.and given_1 narrow_1) := by decide +kernel
  have hJ : wl_J s.heap.size s := ⟨s, rfl, State.WarmedH.refl s, fun _ _ => rfl, fun w hw => jw_args (wl_jw_all hw) (A := #[Value.ref b]) ((List.mem_append.mp hw).elim (fun h => hts w (List.mem_filter.mp h).1) (fun h => hs w (hall w h)))⟩
  have C : wf_C E s.heap.size mt_Law_law p s m #[Value.ref b] meth c := ⟨c1, c2, c4, c3, c5, fun w hw => hts w (List.mem_filter.mp hw).1, hlk, ⟨hnm, by rw [htb]; decide +kernel⟩, hK, hJ⟩
  have hR : wf_R E s.heap.size s.heap.size (fun a => if a = b then some (.inr (wl_AS, L)) else none) (fun _ _ => none) (fun a k => if a = b then xs k else 0) (fun _ _ => 0) s.heap := by
    refine ⟨rfl, Nat.le_refl _, fun a => ?_, fun a z hz => ?_, fun a ha => ?_⟩
    · by_cases hab : a = b
      · subst hab
        refine wf_A.iw (y := wl_AS) (n := L) (if_pos rfl) ⟨by decide, scr, q1, ?_⟩
        show scr.cls = E.2.2 wl_AS ∧ scr.vm ≠ .unknown ∧ (∀ k, scr.vm ≠ .statics k) ∧ scr.slots = _
        refine ⟨hE.symm, q3, q2.1, Array.ext_getElem? fun j => ?_⟩
        by_cases hj : j < L
        · rw [q5 j hj, arrV_read _ _ hj]
          show _ = some (Value.int (if a = a then xs j else 0))
          rw [if_pos rfl]
        · rw [Array.getElem?_eq_none (by rw [q4]; omega), Array.getElem?_eq_none (by rw [arrV_size]; omega)]
      · exact wf_A.in (if_neg hab)
    · dsimp only at hz
      by_cases hab : a = b
      · rw [if_pos hab] at hz
        cases hz
        exact Or.inr ⟨L, rfl⟩
      · rw [if_neg hab] at hz
        cases hz
    · have hab : a ≠ b := by omega
      exact ⟨if_neg hab, fun k => ⟨rfl, if_neg hab, rfl⟩⟩
  have K := law_all (l := l) (E := E) (n0 := s.heap.size) (d := 1998) (nx := s.heap.size) (t := fun a => if a = b then some (.inr (wl_AS, L)) else none) (r := fun _ _ => none) (i := fun a k => if a = b then xs k else 0) (g := fun _ _ => 0) (sc := b) (n := L) (Q := fun o _ _ _ _ _ => o = .inl (some (.int 1))) hl hL (fun _ _ _ _ _ => rfl) (if_pos rfl) hbl
  have K2 := K p e s m #[Value.ref b] below meth c C s.heap [] 0 0 _ (Nat.le_refl _) (Nat.le_refl _) hR (fun _ _ => rfl) (fun q hq => by cases hq) (lv_entry (n := 7) [Value.ref b] (Nat.le_of_ble_eq_true rfl))
  rw [← lg_entry_eq] at K2
  intro T hT X
  obtain ⟨u, a1, o, b1, b2, ⟨vo, nx', t', r', i', g', d1, -, -, d4⟩, L', f1, f2, f3⟩ := K2 T hT (st_room X (by decide) (by decide) (by decide) (by decide))
  subst d4
  have d1 : o = .returned (some (.int 1)) := d1
  subst d1
  exact ⟨u, a1, _, b1, b2, rfl, ⟨_, rfl⟩, f1, f2.weaken (fun y hy hy2 => absurd hy2 (Nat.not_lt.mpr (f3 y hy))) (Nat.le_refl _) (Nat.le_refl _)⟩
set_option maxHeartbeats 4000000 in
theorem lw_walk (l : Launch) (hl : l.stackTraces = false) (b : Addr) (xs : List Int32) : MetFree l x (headSpec (Jvm.Cond.code x code maxLocals ret :: tables_1) room_1) (lw_P b xs) (fun _ _ _ _ _ => True) lw_Q := by
  refine MetFree.of_bodyS (code := code) (maxLocals := maxLocals) (ret := ret) (by decide) ?_ ?_
  · intro args s m h hn
    obtain ⟨meth, c, h1, h2, h3, h4, h5, h6, -, -⟩ := Cond.code_spec hn (atoms_spec (ws := Jvm.Cond.code x code maxLocals ret :: tables_1) h _ List.mem_cons_self)
    exact ⟨meth, c, h1, h2, h3, h4, h5, h6⟩
  · intro p e s m args below meth c s₁ B hml0 hP _
    obtain ⟨rfl, hx, hbd, hgv⟩ := hP
    obtain ⟨scr, harrAt, hlist, hof, hsmall⟩ := hx
    obtain ⟨hcb, hkn, -, -⟩ := State.arrayAt?_spec harrAt
    have hown : s.vm.findClass R_law = some m.cls := findClass_of_methodNamed B.named
    have hts0 : ∀ c ∈ (Jvm.Cond.code x code maxLocals ret :: tables_1), c.before #[Value.ref b] s = true := atoms_spec (ws := Jvm.Cond.code x code maxLocals ret :: tables_1) B.pre
    have hts : ∀ w ∈ lw_tbl, w.before #[Value.ref b] s = true := k2_hts_sels lw_privs (fun w hw => hts0 w (List.mem_cons_of_mem _ hw)) lw_privs_ok
    have hml : c.maxLocals = 7 := B.maxLocals_eq (hts0 _ List.mem_cons_self)
    have X₀ : Stand p l e room_1 s m #[Value.ref b] below meth c s₁ [] 0 0 := Stand.of_body B
    have hh0 : s₁.heap = s.heap := by rw [B.state]; rfl
    have hsz : scr.slots.size = xs.length := by rw [← Array.length_toList, hlist, List.length_map]
    have hval : ∀ j : Nat, j < xs.length → scr.slots[j]? = some (.int (xs.getD j 0)) := fun j hj => by
      rw [← Array.getElem?_toList, hlist]
      simp [hj]
    have hbl : b < s.heap.size := (Array.getElem?_eq_some_iff.mp hcb).1
    have hX : va_X b xs.length (fun j => xs.getD j 0) s s.heap := ⟨scr, hcb, hof, hkn, hsz, hval⟩
    have K : W p l e room_1 s m #[Value.ref b] below meth c s₁.heap [] 0 0 (lw_Z below #[Value.ref b] s) (entryFrame m ([Value.ref b] : List Value).toArray 7) := by
      rw [hh0]
      exact whole_start l hl hbd ⟨B.exec, B.bytes, B.returns, hml, hown, hts, hX, hbl, B.notSynchronized, hgv, (name_of_methodNamed B.named B.method).1, by
        obtain ⟨meth', c', q1, q2, -, -, -, -, q7, -⟩ := Cond.code_spec B.named (hts0 _ List.mem_cons_self)
        cases X₀.method.symm.trans q1
        cases X₀.code.symm.trans q2
        simpa using q7⟩
    obtain ⟨t, a1, o, b1, b2, b3⟩ := K s₁ rfl X₀
    exact ⟨t, o, a1, b1, b2, b3⟩
theorem lw_pre_spec {args : Array Value} {s : State} (h : (Jvm.Cond.and given_1 narrow_1).before args s = true) (hr : rest_1_c.before args s = true) : ∃ (b : Addr) (xs : List Int32), lw_P b xs args s := by
  have hs := flat_of_before _ h
  have hq := flat_of_before _ hr
  have hc : (Cond.count 1).before args s = true := hs _ (by decide +kernel)
  have harr : (Cond.arrayOf (.arg 0) .int).before args s = true := hs _ (by decide +kernel)
  have hle : (Cond.le (.length (.arg 0)) (.int 3072)).before args s = true := hs _ (by decide +kernel)
  have hlen : (Cond.isInt (.length (.arg 0))).before args s = true := hq _ (by decide +kernel)
  have hall : (Cond.all (.arg 0) (.isInt (.elem (.arg 0) (.index 0)))).before args s = true := hq _ (by decide +kernel)
  obtain ⟨b, xs, hb, hx⟩ := State.ints_of_pre rfl harr hlen hall
  have hsm : xs.length < 2 ^ 31 := hx.choose_spec.2.2.2
  have hev : (Term.length (.arg 0)).eval args s none [] s = some (.int xs.length.toInt32) := hx.length_eval hb
  have hv := Cond.le_ints hev (show (Term.int 3072).eval args s none [] s = some (.int 3072) from rfl)
  have hd : xs.length.toInt32 ≤ 3072 := by
    simpa [Cond.before, Cond.holds, hv] using hle
  have hN : xs.length ≤ 3072 := (Int32.ofNat_le_ofNat hsm (by decide)).mp (show Int32.ofNat xs.length ≤ Int32.ofNat 3072 from hd)
  exact ⟨b, xs, Cond.one_arg hc (show args[0]? = some (.ref b) from hb), hx, hN, h⟩
theorem lw_comes (l : Launch) (hl : l.stackTraces = false) : Comes l x (Jvm.Cond.code x code maxLocals ret :: tables_1) room_1 (fun tb e args s => Calls_1 tb e args s ∧ rest_1 tb e args s ∧ Pre_1 tb e args s)
    (fun _ _ args s o t => lw_Q args s o t) := by
  intro p e ha hc hk s m args below hf hfit hheap happ hpre
  obtain ⟨b, xs, hP⟩ := lw_pre_spec hpre.2.2 hpre.2.1
  obtain ⟨k, o, h1, h2, h3, hQ⟩ := lw_walk l hl b xs p e ha hc hk s m args below hf ((Spec.applies_iff_loose hf).mp happ).1 hP trivial
  exact ⟨k, o, h1, h2, h3, hQ⟩
theorem lw_frame {s t : State} {o : Outcome} {args : Array Value} (h : Framed s o t [] 601024 7293034) :
    Framed s o t (fieldLocs frame_1_writes args s ++ arrayLocs frame_1_arrays args s ++ staticLocs frame_1_statics s) 601024 7293034 := h
theorem lw_limb (L : Cond) (hL : ∀ (args : Array Value) (s t : State), L.after args s (.returned (some (.int 1))) t = true) :
    ArmFor flags0 classFile x code maxLocals ret World_1 tables_1 room_1 Calls_1 rest_1 Pre_1
      (fun tb e a s o t => postC L tb e a s o t ∧ Framed s o t (fieldLocs frame_1_writes a s ++ arrayLocs frame_1_arrays a s ++ staticLocs frame_1_statics s) 601024 7293034) := by
  intro l hfl _ _ p e ha hc hk s m args below hf hfit hheap happ hpre
  obtain ⟨k, o, h1, h2, h3, rfl, hF⟩ := lw_comes l (by unfold Launch.stackTraces; rw [hfl]; decide) p e ha hc hk s m args below hf hfit hheap happ hpre
  exact ⟨k, _, h1, h2, h3, hL args s _, lw_frame hF⟩
theorem i_vc : Claimed_1_1 ∧ Claimed_1_2 := ⟨lw_limb limb_1_1 (fun args s t => by simp [limb_1_1, Cond.after, Cond.holds, Cond.value]), lw_limb limb_1_2 (fun args s t => Cond.after_iff.mpr (by
  first | (rw [show limb_1_2 = Cond.eq .result (.int 1) from rfl, Cond.eq_ints (x := 1) (y := 1) rfl rfl]; simp; done) | (simp [limb_1_2, Cond.value, Term.eval]; done)))⟩
end
