section
-- ===== PART A: goes FIRST, ahead of the names: the tables' words, and 'selects' of the private methods out of them =====
/-- a private method of a class that the tables say can be made, by its rows of tables_1 -/
def lw_okq (q : MethodName × Nat) : Prop := (q.1.cls ≠ "java/lang/invoke/MethodHandle" ∧ q.1.cls ≠ "java/lang/invoke/VarHandle") ∧ Cond.instantiable q.1.cls q.2 ∈ tables_1 ∧ Cond.privateMethod q.1 ∈ tables_1 ∧ Cond.instanceMethod q.1 ∈ tables_1
theorem lw_p0 : lw_okq (⟨"RuleMill", "freshRule", "()LRuleMill$Rule;"⟩, 14) := ⟨⟨by decide +kernel, by decide +kernel⟩, List.mem_of_getElem? (i := 19) (by decide +kernel), List.mem_of_getElem? (i := 262) (by decide +kernel), List.mem_of_getElem? (i := 263) (by decide +kernel)⟩
theorem lw_p1 : lw_okq (⟨"RuleMill$Reader", "begin", "(II)V"⟩, 9) := ⟨⟨by decide +kernel, by decide +kernel⟩, List.mem_of_getElem? (i := 27) (by decide +kernel), List.mem_of_getElem? (i := 349) (by decide +kernel), List.mem_of_getElem? (i := 350) (by decide +kernel)⟩
theorem lw_p2 : lw_okq (⟨"RuleMill$Reader", "skipBlanks", "()V"⟩, 9) := ⟨⟨by decide +kernel, by decide +kernel⟩, List.mem_of_getElem? (i := 27) (by decide +kernel), List.mem_of_getElem? (i := 357) (by decide +kernel), List.mem_of_getElem? (i := 358) (by decide +kernel)⟩
theorem lw_p3 : lw_okq (⟨"RuleMill$Reader", "readOrders", "(LRuleMill$Row;)Z"⟩, 9) := ⟨⟨by decide +kernel, by decide +kernel⟩, List.mem_of_getElem? (i := 27) (by decide +kernel), List.mem_of_getElem? (i := 365) (by decide +kernel), List.mem_of_getElem? (i := 366) (by decide +kernel)⟩
theorem lw_p4 : lw_okq (⟨"RuleMill$Reader", "readName", "(Z)Z"⟩, 9) := ⟨⟨by decide +kernel, by decide +kernel⟩, List.mem_of_getElem? (i := 27) (by decide +kernel), List.mem_of_getElem? (i := 369) (by decide +kernel), List.mem_of_getElem? (i := 370) (by decide +kernel)⟩
theorem lw_p5 : lw_okq (⟨"RuleMill$Reader", "wordLength", "()I"⟩, 9) := ⟨⟨by decide +kernel, by decide +kernel⟩, List.mem_of_getElem? (i := 27) (by decide +kernel), List.mem_of_getElem? (i := 373) (by decide +kernel), List.mem_of_getElem? (i := 374) (by decide +kernel)⟩
theorem lw_p6 : lw_okq (⟨"RuleMill$Reader", "kindNamed", "(I)I"⟩, 9) := ⟨⟨by decide +kernel, by decide +kernel⟩, List.mem_of_getElem? (i := 27) (by decide +kernel), List.mem_of_getElem? (i := 380) (by decide +kernel), List.mem_of_getElem? (i := 381) (by decide +kernel)⟩
theorem lw_p7 : lw_okq (⟨"RuleMill$Reader", "refuse", "(I)Z"⟩, 9) := ⟨⟨by decide +kernel, by decide +kernel⟩, List.mem_of_getElem? (i := 27) (by decide +kernel), List.mem_of_getElem? (i := 428) (by decide +kernel), List.mem_of_getElem? (i := 429) (by decide +kernel)⟩
theorem lw_p8 : lw_okq (⟨"RuleMill$Reader", "readRegisters", "()Z"⟩, 9) := ⟨⟨by decide +kernel, by decide +kernel⟩, List.mem_of_getElem? (i := 27) (by decide +kernel), List.mem_of_getElem? (i := 432) (by decide +kernel), List.mem_of_getElem? (i := 433) (by decide +kernel)⟩
theorem lw_p9 : lw_okq (⟨"RuleMill$Reader", "readGap", "()Z"⟩, 9) := ⟨⟨by decide +kernel, by decide +kernel⟩, List.mem_of_getElem? (i := 27) (by decide +kernel), List.mem_of_getElem? (i := 441) (by decide +kernel), List.mem_of_getElem? (i := 442) (by decide +kernel)⟩
theorem lw_p10 : lw_okq (⟨"RuleMill$Reader", "readRegister", "(I)Z"⟩, 9) := ⟨⟨by decide +kernel, by decide +kernel⟩, List.mem_of_getElem? (i := 27) (by decide +kernel), List.mem_of_getElem? (i := 445) (by decide +kernel), List.mem_of_getElem? (i := 446) (by decide +kernel)⟩
theorem lw_p11 : lw_okq (⟨"RuleMill$Reader", "take", "(II)Z"⟩, 9) := ⟨⟨by decide +kernel, by decide +kernel⟩, List.mem_of_getElem? (i := 27) (by decide +kernel), List.mem_of_getElem? (i := 453) (by decide +kernel), List.mem_of_getElem? (i := 454) (by decide +kernel)⟩
theorem lw_p12 : lw_okq (⟨"RuleMill$Reader", "readNumber", "()Z"⟩, 9) := ⟨⟨by decide +kernel, by decide +kernel⟩, List.mem_of_getElem? (i := 27) (by decide +kernel), List.mem_of_getElem? (i := 457) (by decide +kernel), List.mem_of_getElem? (i := 458) (by decide +kernel)⟩
theorem lw_p13 : lw_okq (⟨"RuleMill$Reader", "readTerm", "(I)Z"⟩, 9) := ⟨⟨by decide +kernel, by decide +kernel⟩, List.mem_of_getElem? (i := 27) (by decide +kernel), List.mem_of_getElem? (i := 467) (by decide +kernel), List.mem_of_getElem? (i := 468) (by decide +kernel)⟩
theorem lw_p14 : lw_okq (⟨"RuleMill$Reader", "readMark", "(I)Z"⟩, 9) := ⟨⟨by decide +kernel, by decide +kernel⟩, List.mem_of_getElem? (i := 27) (by decide +kernel), List.mem_of_getElem? (i := 474) (by decide +kernel), List.mem_of_getElem? (i := 475) (by decide +kernel)⟩
theorem lw_p15 : lw_okq (⟨"RuleMill$Reader", "readClose", "()Z"⟩, 9) := ⟨⟨by decide +kernel, by decide +kernel⟩, List.mem_of_getElem? (i := 27) (by decide +kernel), List.mem_of_getElem? (i := 492) (by decide +kernel), List.mem_of_getElem? (i := 493) (by decide +kernel)⟩
def lw_privs_1 : List (MethodName × Nat) := [(⟨"RuleMill", "freshRule", "()LRuleMill$Rule;"⟩, 14), (⟨"RuleMill$Reader", "begin", "(II)V"⟩, 9), (⟨"RuleMill$Reader", "skipBlanks", "()V"⟩, 9), (⟨"RuleMill$Reader", "readOrders", "(LRuleMill$Row;)Z"⟩, 9), (⟨"RuleMill$Reader", "readName", "(Z)Z"⟩, 9), (⟨"RuleMill$Reader", "wordLength", "()I"⟩, 9), (⟨"RuleMill$Reader", "kindNamed", "(I)I"⟩, 9), (⟨"RuleMill$Reader", "refuse", "(I)Z"⟩, 9), (⟨"RuleMill$Reader", "readRegisters", "()Z"⟩, 9), (⟨"RuleMill$Reader", "readGap", "()Z"⟩, 9), (⟨"RuleMill$Reader", "readRegister", "(I)Z"⟩, 9), (⟨"RuleMill$Reader", "take", "(II)Z"⟩, 9), (⟨"RuleMill$Reader", "readNumber", "()Z"⟩, 9), (⟨"RuleMill$Reader", "readTerm", "(I)Z"⟩, 9), (⟨"RuleMill$Reader", "readMark", "(I)Z"⟩, 9), (⟨"RuleMill$Reader", "readClose", "()Z"⟩, 9)]
theorem lw_r1 : ∀ q ∈ lw_privs_1, lw_okq q := List.forall_mem_cons.mpr ⟨lw_p0, List.forall_mem_cons.mpr ⟨lw_p1, List.forall_mem_cons.mpr ⟨lw_p2, List.forall_mem_cons.mpr ⟨lw_p3, List.forall_mem_cons.mpr ⟨lw_p4, List.forall_mem_cons.mpr ⟨lw_p5, List.forall_mem_cons.mpr ⟨lw_p6, List.forall_mem_cons.mpr ⟨lw_p7, List.forall_mem_cons.mpr ⟨lw_p8, List.forall_mem_cons.mpr ⟨lw_p9, List.forall_mem_cons.mpr ⟨lw_p10, List.forall_mem_cons.mpr ⟨lw_p11, List.forall_mem_cons.mpr ⟨lw_p12, List.forall_mem_cons.mpr ⟨lw_p13, List.forall_mem_cons.mpr ⟨lw_p14, List.forall_mem_cons.mpr ⟨lw_p15, fun _ h => absurd h List.not_mem_nil⟩⟩⟩⟩⟩⟩⟩⟩⟩⟩⟩⟩⟩⟩⟩⟩
theorem lw_p16 : lw_okq (⟨"RuleMill$Rule", "markTop", "(II)I"⟩, 13) := ⟨⟨by decide +kernel, by decide +kernel⟩, List.mem_of_getElem? (i := 265) (by decide +kernel), List.mem_of_getElem? (i := 514) (by decide +kernel), List.mem_of_getElem? (i := 515) (by decide +kernel)⟩
theorem lw_p17 : lw_okq (⟨"RuleMill$Trial", "begin", "(LRuleMill$Rule;I)V"⟩, 5) := ⟨⟨by decide +kernel, by decide +kernel⟩, List.mem_of_getElem? (i := 111) (by decide +kernel), List.mem_of_getElem? (i := 532) (by decide +kernel), List.mem_of_getElem? (i := 533) (by decide +kernel)⟩
theorem lw_p18 : lw_okq (⟨"RuleMill$Trial", "writeMarks", "(LRuleMill$Rule;I)V"⟩, 5) := ⟨⟨by decide +kernel, by decide +kernel⟩, List.mem_of_getElem? (i := 111) (by decide +kernel), List.mem_of_getElem? (i := 540) (by decide +kernel), List.mem_of_getElem? (i := 541) (by decide +kernel)⟩
theorem lw_p19 : lw_okq (⟨"RuleMill$Row", "grow", "()Z"⟩, 3) := ⟨⟨by decide +kernel, by decide +kernel⟩, List.mem_of_getElem? (i := 119) (by decide +kernel), List.mem_of_getElem? (i := 552) (by decide +kernel), List.mem_of_getElem? (i := 553) (by decide +kernel)⟩
theorem lw_p20 : lw_okq (⟨"RuleMill$Row", "put", "(III)V"⟩, 3) := ⟨⟨by decide +kernel, by decide +kernel⟩, List.mem_of_getElem? (i := 119) (by decide +kernel), List.mem_of_getElem? (i := 556) (by decide +kernel), List.mem_of_getElem? (i := 557) (by decide +kernel)⟩
theorem lw_p21 : lw_okq (⟨"RuleMill$Trial", "wordsAsBits", "(LRuleMill$Rule;I)I"⟩, 5) := ⟨⟨by decide +kernel, by decide +kernel⟩, List.mem_of_getElem? (i := 111) (by decide +kernel), List.mem_of_getElem? (i := 578) (by decide +kernel), List.mem_of_getElem? (i := 579) (by decide +kernel)⟩
theorem lw_p22 : lw_okq (⟨"RuleMill$Machine", "obey", "([III)V"⟩, 1) := ⟨⟨by decide +kernel, by decide +kernel⟩, List.mem_of_getElem? (i := 101) (by decide +kernel), List.mem_of_getElem? (i := 587) (by decide +kernel), List.mem_of_getElem? (i := 588) (by decide +kernel)⟩
theorem lw_p23 : lw_okq (⟨"RuleMill$Trial", "goOn", "(LRuleMill$Rule;)V"⟩, 5) := ⟨⟨by decide +kernel, by decide +kernel⟩, List.mem_of_getElem? (i := 111) (by decide +kernel), List.mem_of_getElem? (i := 595) (by decide +kernel), List.mem_of_getElem? (i := 596) (by decide +kernel)⟩
theorem lw_p24 : lw_okq (⟨"RuleMill", "freshProgram", "()LRuleMill$Row;"⟩, 14) := ⟨⟨by decide +kernel, by decide +kernel⟩, List.mem_of_getElem? (i := 19) (by decide +kernel), List.mem_of_getElem? (i := 617) (by decide +kernel), List.mem_of_getElem? (i := 618) (by decide +kernel)⟩
theorem lw_p25 : lw_okq (⟨"RuleMill", "ruleAt", "(I)LRuleMill$Rule;"⟩, 14) := ⟨⟨by decide +kernel, by decide +kernel⟩, List.mem_of_getElem? (i := 19) (by decide +kernel), List.mem_of_getElem? (i := 633) (by decide +kernel), List.mem_of_getElem? (i := 634) (by decide +kernel)⟩
theorem lw_p26 : lw_okq (⟨"RuleMill", "programAt", "(I)LRuleMill$Row;"⟩, 14) := ⟨⟨by decide +kernel, by decide +kernel⟩, List.mem_of_getElem? (i := 19) (by decide +kernel), List.mem_of_getElem? (i := 653) (by decide +kernel), List.mem_of_getElem? (i := 654) (by decide +kernel)⟩
theorem lw_p27 : lw_okq (⟨"RuleMill$Row", "orderByte", "(II)I"⟩, 3) := ⟨⟨by decide +kernel, by decide +kernel⟩, List.mem_of_getElem? (i := 119) (by decide +kernel), List.mem_of_getElem? (i := 676) (by decide +kernel), List.mem_of_getElem? (i := 677) (by decide +kernel)⟩
theorem lw_p28 : lw_okq (⟨"RuleMill$Row", "copyOrder", "(LRuleMill$Row;I)V"⟩, 3) := ⟨⟨by decide +kernel, by decide +kernel⟩, List.mem_of_getElem? (i := 119) (by decide +kernel), List.mem_of_getElem? (i := 698) (by decide +kernel), List.mem_of_getElem? (i := 699) (by decide +kernel)⟩
theorem lw_p29 : lw_okq (⟨"RuleMill$Binding", "forget", "()V"⟩, 2) := ⟨⟨by decide +kernel, by decide +kernel⟩, List.mem_of_getElem? (i := 144) (by decide +kernel), List.mem_of_getElem? (i := 714) (by decide +kernel), List.mem_of_getElem? (i := 715) (by decide +kernel)⟩
theorem lw_p30 : lw_okq (⟨"RuleMill$Binding", "takesOrder", "(LRuleMill$Row;ILRuleMill$Row;I)Z"⟩, 2) := ⟨⟨by decide +kernel, by decide +kernel⟩, List.mem_of_getElem? (i := 144) (by decide +kernel), List.mem_of_getElem? (i := 718) (by decide +kernel), List.mem_of_getElem? (i := 719) (by decide +kernel)⟩
theorem lw_p31 : lw_okq (⟨"RuleMill$Binding", "takesRegister", "(II)Z"⟩, 2) := ⟨⟨by decide +kernel, by decide +kernel⟩, List.mem_of_getElem? (i := 144) (by decide +kernel), List.mem_of_getElem? (i := 724) (by decide +kernel), List.mem_of_getElem? (i := 725) (by decide +kernel)⟩
def lw_privs_2 : List (MethodName × Nat) := [(⟨"RuleMill$Rule", "markTop", "(II)I"⟩, 13), (⟨"RuleMill$Trial", "begin", "(LRuleMill$Rule;I)V"⟩, 5), (⟨"RuleMill$Trial", "writeMarks", "(LRuleMill$Rule;I)V"⟩, 5), (⟨"RuleMill$Row", "grow", "()Z"⟩, 3), (⟨"RuleMill$Row", "put", "(III)V"⟩, 3), (⟨"RuleMill$Trial", "wordsAsBits", "(LRuleMill$Rule;I)I"⟩, 5), (⟨"RuleMill$Machine", "obey", "([III)V"⟩, 1), (⟨"RuleMill$Trial", "goOn", "(LRuleMill$Rule;)V"⟩, 5), (⟨"RuleMill", "freshProgram", "()LRuleMill$Row;"⟩, 14), (⟨"RuleMill", "ruleAt", "(I)LRuleMill$Rule;"⟩, 14), (⟨"RuleMill", "programAt", "(I)LRuleMill$Row;"⟩, 14), (⟨"RuleMill$Row", "orderByte", "(II)I"⟩, 3), (⟨"RuleMill$Row", "copyOrder", "(LRuleMill$Row;I)V"⟩, 3), (⟨"RuleMill$Binding", "forget", "()V"⟩, 2), (⟨"RuleMill$Binding", "takesOrder", "(LRuleMill$Row;ILRuleMill$Row;I)Z"⟩, 2), (⟨"RuleMill$Binding", "takesRegister", "(II)Z"⟩, 2)]
theorem lw_r2 : ∀ q ∈ lw_privs_2, lw_okq q := List.forall_mem_cons.mpr ⟨lw_p16, List.forall_mem_cons.mpr ⟨lw_p17, List.forall_mem_cons.mpr ⟨lw_p18, List.forall_mem_cons.mpr ⟨lw_p19, List.forall_mem_cons.mpr ⟨lw_p20, List.forall_mem_cons.mpr ⟨lw_p21, List.forall_mem_cons.mpr ⟨lw_p22, List.forall_mem_cons.mpr ⟨lw_p23, List.forall_mem_cons.mpr ⟨lw_p24, List.forall_mem_cons.mpr ⟨lw_p25, List.forall_mem_cons.mpr ⟨lw_p26, List.forall_mem_cons.mpr ⟨lw_p27, List.forall_mem_cons.mpr ⟨lw_p28, List.forall_mem_cons.mpr ⟨lw_p29, List.forall_mem_cons.mpr ⟨lw_p30, List.forall_mem_cons.mpr ⟨lw_p31, fun _ h => absurd h List.not_mem_nil⟩⟩⟩⟩⟩⟩⟩⟩⟩⟩⟩⟩⟩⟩⟩⟩
theorem lw_p32 : lw_okq (⟨"RuleMill$Binding", "takesNumber", "(II)Z"⟩, 2) := ⟨⟨by decide +kernel, by decide +kernel⟩, List.mem_of_getElem? (i := 144) (by decide +kernel), List.mem_of_getElem? (i := 729) (by decide +kernel), List.mem_of_getElem? (i := 730) (by decide +kernel)⟩
theorem lw_p33 : lw_okq (⟨"RuleMill", "putSecondSide", "(LRuleMill$Row;ILRuleMill$Rule;)V"⟩, 14) := ⟨⟨by decide +kernel, by decide +kernel⟩, List.mem_of_getElem? (i := 19) (by decide +kernel), List.mem_of_getElem? (i := 745) (by decide +kernel), List.mem_of_getElem? (i := 746) (by decide +kernel)⟩
theorem lw_p34 : lw_okq (⟨"RuleMill", "firstWindow", "(LRuleMill$Row;)I"⟩, 14) := ⟨⟨by decide +kernel, by decide +kernel⟩, List.mem_of_getElem? (i := 19) (by decide +kernel), List.mem_of_getElem? (i := 758) (by decide +kernel), List.mem_of_getElem? (i := 759) (by decide +kernel)⟩
theorem lw_p35 : lw_okq (⟨"RuleMill", "takeStep", "(LRuleMill$Row;II)V"⟩, 14) := ⟨⟨by decide +kernel, by decide +kernel⟩, List.mem_of_getElem? (i := 19) (by decide +kernel), List.mem_of_getElem? (i := 762) (by decide +kernel), List.mem_of_getElem? (i := 763) (by decide +kernel)⟩
theorem lw_p36 : lw_okq (⟨"RuleMill", "leastDifference", "(LRuleMill$Row;LRuleMill$Row;)I"⟩, 14) := ⟨⟨by decide +kernel, by decide +kernel⟩, List.mem_of_getElem? (i := 19) (by decide +kernel), List.mem_of_getElem? (i := 787) (by decide +kernel), List.mem_of_getElem? (i := 788) (by decide +kernel)⟩
theorem lw_p37 : lw_okq (⟨"RuleMill", "soundRules", "()I"⟩, 14) := ⟨⟨by decide +kernel, by decide +kernel⟩, List.mem_of_getElem? (i := 19) (by decide +kernel), List.mem_of_getElem? (i := 803) (by decide +kernel), List.mem_of_getElem? (i := 804) (by decide +kernel)⟩
theorem lw_p38 : lw_okq (⟨"RuleMillModel", "put", "(I)V"⟩, 43) := ⟨⟨by decide +kernel, by decide +kernel⟩, List.mem_of_getElem? (i := 811) (by decide +kernel), List.mem_of_getElem? (i := 963) (by decide +kernel), List.mem_of_getElem? (i := 964) (by decide +kernel)⟩
theorem lw_p39 : lw_okq (⟨"RuleMillModel", "readRule", "(I)V"⟩, 43) := ⟨⟨by decide +kernel, by decide +kernel⟩, List.mem_of_getElem? (i := 811) (by decide +kernel), List.mem_of_getElem? (i := 975) (by decide +kernel), List.mem_of_getElem? (i := 976) (by decide +kernel)⟩
theorem lw_p40 : lw_okq (⟨"RuleMillModel", "blanks", "()V"⟩, 43) := ⟨⟨by decide +kernel, by decide +kernel⟩, List.mem_of_getElem? (i := 811) (by decide +kernel), List.mem_of_getElem? (i := 979) (by decide +kernel), List.mem_of_getElem? (i := 980) (by decide +kernel)⟩
theorem lw_p41 : lw_okq (⟨"RuleMillModel", "look", "()I"⟩, 43) := ⟨⟨by decide +kernel, by decide +kernel⟩, List.mem_of_getElem? (i := 811) (by decide +kernel), List.mem_of_getElem? (i := 983) (by decide +kernel), List.mem_of_getElem? (i := 984) (by decide +kernel)⟩
theorem lw_p42 : lw_okq (⟨"RuleMillModel", "readSide", "(II)I"⟩, 43) := ⟨⟨by decide +kernel, by decide +kernel⟩, List.mem_of_getElem? (i := 811) (by decide +kernel), List.mem_of_getElem? (i := 987) (by decide +kernel), List.mem_of_getElem? (i := 988) (by decide +kernel)⟩
theorem lw_p43 : lw_okq (⟨"RuleMillModel", "readName", "(II)I"⟩, 43) := ⟨⟨by decide +kernel, by decide +kernel⟩, List.mem_of_getElem? (i := 811) (by decide +kernel), List.mem_of_getElem? (i := 991) (by decide +kernel), List.mem_of_getElem? (i := 992) (by decide +kernel)⟩
theorem lw_p44 : lw_okq (⟨"RuleMillModel", "word", "()I"⟩, 43) := ⟨⟨by decide +kernel, by decide +kernel⟩, List.mem_of_getElem? (i := 811) (by decide +kernel), List.mem_of_getElem? (i := 998) (by decide +kernel), List.mem_of_getElem? (i := 999) (by decide +kernel)⟩
theorem lw_p45 : lw_okq (⟨"RuleMillModel", "opNamed", "(I)I"⟩, 43) := ⟨⟨by decide +kernel, by decide +kernel⟩, List.mem_of_getElem? (i := 811) (by decide +kernel), List.mem_of_getElem? (i := 1002) (by decide +kernel), List.mem_of_getElem? (i := 1003) (by decide +kernel)⟩
theorem lw_p46 : lw_okq (⟨"RuleMillModel", "fails", "(II)V"⟩, 43) := ⟨⟨by decide +kernel, by decide +kernel⟩, List.mem_of_getElem? (i := 811) (by decide +kernel), List.mem_of_getElem? (i := 1006) (by decide +kernel), List.mem_of_getElem? (i := 1007) (by decide +kernel)⟩
theorem lw_p47 : lw_okq (⟨"RuleMillModel", "part1", "()V"⟩, 43) := ⟨⟨by decide +kernel, by decide +kernel⟩, List.mem_of_getElem? (i := 811) (by decide +kernel), List.mem_of_getElem? (i := 1013) (by decide +kernel), List.mem_of_getElem? (i := 1014) (by decide +kernel)⟩
def lw_privs_3 : List (MethodName × Nat) := [(⟨"RuleMill$Binding", "takesNumber", "(II)Z"⟩, 2), (⟨"RuleMill", "putSecondSide", "(LRuleMill$Row;ILRuleMill$Rule;)V"⟩, 14), (⟨"RuleMill", "firstWindow", "(LRuleMill$Row;)I"⟩, 14), (⟨"RuleMill", "takeStep", "(LRuleMill$Row;II)V"⟩, 14), (⟨"RuleMill", "leastDifference", "(LRuleMill$Row;LRuleMill$Row;)I"⟩, 14), (⟨"RuleMill", "soundRules", "()I"⟩, 14), (⟨"RuleMillModel", "put", "(I)V"⟩, 43), (⟨"RuleMillModel", "readRule", "(I)V"⟩, 43), (⟨"RuleMillModel", "blanks", "()V"⟩, 43), (⟨"RuleMillModel", "look", "()I"⟩, 43), (⟨"RuleMillModel", "readSide", "(II)I"⟩, 43), (⟨"RuleMillModel", "readName", "(II)I"⟩, 43), (⟨"RuleMillModel", "word", "()I"⟩, 43), (⟨"RuleMillModel", "opNamed", "(I)I"⟩, 43), (⟨"RuleMillModel", "fails", "(II)V"⟩, 43), (⟨"RuleMillModel", "part1", "()V"⟩, 43)]
theorem lw_r3 : ∀ q ∈ lw_privs_3, lw_okq q := List.forall_mem_cons.mpr ⟨lw_p32, List.forall_mem_cons.mpr ⟨lw_p33, List.forall_mem_cons.mpr ⟨lw_p34, List.forall_mem_cons.mpr ⟨lw_p35, List.forall_mem_cons.mpr ⟨lw_p36, List.forall_mem_cons.mpr ⟨lw_p37, List.forall_mem_cons.mpr ⟨lw_p38, List.forall_mem_cons.mpr ⟨lw_p39, List.forall_mem_cons.mpr ⟨lw_p40, List.forall_mem_cons.mpr ⟨lw_p41, List.forall_mem_cons.mpr ⟨lw_p42, List.forall_mem_cons.mpr ⟨lw_p43, List.forall_mem_cons.mpr ⟨lw_p44, List.forall_mem_cons.mpr ⟨lw_p45, List.forall_mem_cons.mpr ⟨lw_p46, List.forall_mem_cons.mpr ⟨lw_p47, fun _ h => absurd h List.not_mem_nil⟩⟩⟩⟩⟩⟩⟩⟩⟩⟩⟩⟩⟩⟩⟩⟩
theorem lw_p48 : lw_okq (⟨"RuleMillModel", "readRegister", "(IIZ)V"⟩, 43) := ⟨⟨by decide +kernel, by decide +kernel⟩, List.mem_of_getElem? (i := 811) (by decide +kernel), List.mem_of_getElem? (i := 1017) (by decide +kernel), List.mem_of_getElem? (i := 1018) (by decide +kernel)⟩
theorem lw_p49 : lw_okq (⟨"RuleMillModel", "letterAlone", "(II)I"⟩, 43) := ⟨⟨by decide +kernel, by decide +kernel⟩, List.mem_of_getElem? (i := 811) (by decide +kernel), List.mem_of_getElem? (i := 1021) (by decide +kernel), List.mem_of_getElem? (i := 1022) (by decide +kernel)⟩
theorem lw_p50 : lw_okq (⟨"RuleMillModel", "known", "([IIIZI)I"⟩, 43) := ⟨⟨by decide +kernel, by decide +kernel⟩, List.mem_of_getElem? (i := 811) (by decide +kernel), List.mem_of_getElem? (i := 1028) (by decide +kernel), List.mem_of_getElem? (i := 1029) (by decide +kernel)⟩
theorem lw_p51 : lw_okq (⟨"RuleMillModel", "readOne", "(IIIZ)V"⟩, 43) := ⟨⟨by decide +kernel, by decide +kernel⟩, List.mem_of_getElem? (i := 811) (by decide +kernel), List.mem_of_getElem? (i := 1035) (by decide +kernel), List.mem_of_getElem? (i := 1036) (by decide +kernel)⟩
theorem lw_p52 : lw_okq (⟨"RuleMillModel", "readNumber", "()I"⟩, 43) := ⟨⟨by decide +kernel, by decide +kernel⟩, List.mem_of_getElem? (i := 811) (by decide +kernel), List.mem_of_getElem? (i := 1039) (by decide +kernel), List.mem_of_getElem? (i := 1040) (by decide +kernel)⟩
theorem lw_p53 : lw_okq (⟨"RuleMillModel", "boundOf", "(I)I"⟩, 43) := ⟨⟨by decide +kernel, by decide +kernel⟩, List.mem_of_getElem? (i := 811) (by decide +kernel), List.mem_of_getElem? (i := 1043) (by decide +kernel), List.mem_of_getElem? (i := 1044) (by decide +kernel)⟩
theorem lw_p54 : lw_okq (⟨"RuleMillModel", "endsOrder", "()Z"⟩, 43) := ⟨⟨by decide +kernel, by decide +kernel⟩, List.mem_of_getElem? (i := 811) (by decide +kernel), List.mem_of_getElem? (i := 1050) (by decide +kernel), List.mem_of_getElem? (i := 1051) (by decide +kernel)⟩
theorem lw_p55 : lw_okq (⟨"RuleMillModel", "placesOf", "(I)I"⟩, 43) := ⟨⟨by decide +kernel, by decide +kernel⟩, List.mem_of_getElem? (i := 811) (by decide +kernel), List.mem_of_getElem? (i := 1054) (by decide +kernel), List.mem_of_getElem? (i := 1055) (by decide +kernel)⟩
theorem lw_p56 : lw_okq (⟨"RuleMillModel", "valuesAt", "(II)I"⟩, 43) := ⟨⟨by decide +kernel, by decide +kernel⟩, List.mem_of_getElem? (i := 811) (by decide +kernel), List.mem_of_getElem? (i := 1058) (by decide +kernel), List.mem_of_getElem? (i := 1059) (by decide +kernel)⟩
theorem lw_p57 : lw_okq (⟨"RuleMillModel", "tryAll", "(I)V"⟩, 43) := ⟨⟨by decide +kernel, by decide +kernel⟩, List.mem_of_getElem? (i := 811) (by decide +kernel), List.mem_of_getElem? (i := 1063) (by decide +kernel), List.mem_of_getElem? (i := 1064) (by decide +kernel)⟩
theorem lw_p58 : lw_okq (⟨"RuleMillModel", "leavesSame", "(I)Z"⟩, 43) := ⟨⟨by decide +kernel, by decide +kernel⟩, List.mem_of_getElem? (i := 811) (by decide +kernel), List.mem_of_getElem? (i := 1067) (by decide +kernel), List.mem_of_getElem? (i := 1068) (by decide +kernel)⟩
theorem lw_p59 : lw_okq (⟨"RuleMillModel", "runSide", "(II)V"⟩, 43) := ⟨⟨by decide +kernel, by decide +kernel⟩, List.mem_of_getElem? (i := 811) (by decide +kernel), List.mem_of_getElem? (i := 1071) (by decide +kernel), List.mem_of_getElem? (i := 1072) (by decide +kernel)⟩
theorem lw_p60 : lw_okq (⟨"RuleMillModel", "numberOf", "(I[II)I"⟩, 43) := ⟨⟨by decide +kernel, by decide +kernel⟩, List.mem_of_getElem? (i := 811) (by decide +kernel), List.mem_of_getElem? (i := 1075) (by decide +kernel), List.mem_of_getElem? (i := 1076) (by decide +kernel)⟩
theorem lw_p61 : lw_okq (⟨"RuleMillModel", "keptBy", "(II)I"⟩, 43) := ⟨⟨by decide +kernel, by decide +kernel⟩, List.mem_of_getElem? (i := 811) (by decide +kernel), List.mem_of_getElem? (i := 1079) (by decide +kernel), List.mem_of_getElem? (i := 1080) (by decide +kernel)⟩
theorem lw_p62 : lw_okq (⟨"RuleMillModel", "does", "(IIII)V"⟩, 43) := ⟨⟨by decide +kernel, by decide +kernel⟩, List.mem_of_getElem? (i := 811) (by decide +kernel), List.mem_of_getElem? (i := 1086) (by decide +kernel), List.mem_of_getElem? (i := 1087) (by decide +kernel)⟩
theorem lw_p63 : lw_okq (⟨"RuleMillModel", "readProgram", "(I)V"⟩, 43) := ⟨⟨by decide +kernel, by decide +kernel⟩, List.mem_of_getElem? (i := 811) (by decide +kernel), List.mem_of_getElem? (i := 1094) (by decide +kernel), List.mem_of_getElem? (i := 1095) (by decide +kernel)⟩
def lw_privs_4 : List (MethodName × Nat) := [(⟨"RuleMillModel", "readRegister", "(IIZ)V"⟩, 43), (⟨"RuleMillModel", "letterAlone", "(II)I"⟩, 43), (⟨"RuleMillModel", "known", "([IIIZI)I"⟩, 43), (⟨"RuleMillModel", "readOne", "(IIIZ)V"⟩, 43), (⟨"RuleMillModel", "readNumber", "()I"⟩, 43), (⟨"RuleMillModel", "boundOf", "(I)I"⟩, 43), (⟨"RuleMillModel", "endsOrder", "()Z"⟩, 43), (⟨"RuleMillModel", "placesOf", "(I)I"⟩, 43), (⟨"RuleMillModel", "valuesAt", "(II)I"⟩, 43), (⟨"RuleMillModel", "tryAll", "(I)V"⟩, 43), (⟨"RuleMillModel", "leavesSame", "(I)Z"⟩, 43), (⟨"RuleMillModel", "runSide", "(II)V"⟩, 43), (⟨"RuleMillModel", "numberOf", "(I[II)I"⟩, 43), (⟨"RuleMillModel", "keptBy", "(II)I"⟩, 43), (⟨"RuleMillModel", "does", "(IIII)V"⟩, 43), (⟨"RuleMillModel", "readProgram", "(I)V"⟩, 43)]
theorem lw_r4 : ∀ q ∈ lw_privs_4, lw_okq q := List.forall_mem_cons.mpr ⟨lw_p48, List.forall_mem_cons.mpr ⟨lw_p49, List.forall_mem_cons.mpr ⟨lw_p50, List.forall_mem_cons.mpr ⟨lw_p51, List.forall_mem_cons.mpr ⟨lw_p52, List.forall_mem_cons.mpr ⟨lw_p53, List.forall_mem_cons.mpr ⟨lw_p54, List.forall_mem_cons.mpr ⟨lw_p55, List.forall_mem_cons.mpr ⟨lw_p56, List.forall_mem_cons.mpr ⟨lw_p57, List.forall_mem_cons.mpr ⟨lw_p58, List.forall_mem_cons.mpr ⟨lw_p59, List.forall_mem_cons.mpr ⟨lw_p60, List.forall_mem_cons.mpr ⟨lw_p61, List.forall_mem_cons.mpr ⟨lw_p62, List.forall_mem_cons.mpr ⟨lw_p63, fun _ h => absurd h List.not_mem_nil⟩⟩⟩⟩⟩⟩⟩⟩⟩⟩⟩⟩⟩⟩⟩⟩
theorem lw_p64 : lw_okq (⟨"RuleMillModel", "isRule", "(I)Z"⟩, 43) := ⟨⟨by decide +kernel, by decide +kernel⟩, List.mem_of_getElem? (i := 811) (by decide +kernel), List.mem_of_getElem? (i := 1106) (by decide +kernel), List.mem_of_getElem? (i := 1107) (by decide +kernel)⟩
theorem lw_p65 : lw_okq (⟨"RuleMillModel", "isSound", "(I)Z"⟩, 43) := ⟨⟨by decide +kernel, by decide +kernel⟩, List.mem_of_getElem? (i := 811) (by decide +kernel), List.mem_of_getElem? (i := 1114) (by decide +kernel), List.mem_of_getElem? (i := 1115) (by decide +kernel)⟩
theorem lw_p66 : lw_okq (⟨"RuleMillModel", "gain", "(I)I"⟩, 43) := ⟨⟨by decide +kernel, by decide +kernel⟩, List.mem_of_getElem? (i := 811) (by decide +kernel), List.mem_of_getElem? (i := 1118) (by decide +kernel), List.mem_of_getElem? (i := 1119) (by decide +kernel)⟩
theorem lw_p67 : lw_okq (⟨"RuleMillModel", "sidePrice", "(II)I"⟩, 43) := ⟨⟨by decide +kernel, by decide +kernel⟩, List.mem_of_getElem? (i := 811) (by decide +kernel), List.mem_of_getElem? (i := 1122) (by decide +kernel), List.mem_of_getElem? (i := 1123) (by decide +kernel)⟩
theorem lw_p68 : lw_okq (⟨"RuleMillModel", "isProgram", "(I)Z"⟩, 43) := ⟨⟨by decide +kernel, by decide +kernel⟩, List.mem_of_getElem? (i := 811) (by decide +kernel), List.mem_of_getElem? (i := 1137) (by decide +kernel), List.mem_of_getElem? (i := 1138) (by decide +kernel)⟩
theorem lw_p69 : lw_okq (⟨"RuleMillModel", "priceIn", "(I)I"⟩, 43) := ⟨⟨by decide +kernel, by decide +kernel⟩, List.mem_of_getElem? (i := 811) (by decide +kernel), List.mem_of_getElem? (i := 1145) (by decide +kernel), List.mem_of_getElem? (i := 1146) (by decide +kernel)⟩
theorem lw_p70 : lw_okq (⟨"RuleMillModel", "sayProgram", "(I)V"⟩, 43) := ⟨⟨by decide +kernel, by decide +kernel⟩, List.mem_of_getElem? (i := 811) (by decide +kernel), List.mem_of_getElem? (i := 1153) (by decide +kernel), List.mem_of_getElem? (i := 1154) (by decide +kernel)⟩
theorem lw_p71 : lw_okq (⟨"RuleMillModel", "say", "(I)V"⟩, 43) := ⟨⟨by decide +kernel, by decide +kernel⟩, List.mem_of_getElem? (i := 811) (by decide +kernel), List.mem_of_getElem? (i := 1157) (by decide +kernel), List.mem_of_getElem? (i := 1158) (by decide +kernel)⟩
theorem lw_p72 : lw_okq (⟨"RuleMillModel", "sayName", "(I)V"⟩, 43) := ⟨⟨by decide +kernel, by decide +kernel⟩, List.mem_of_getElem? (i := 811) (by decide +kernel), List.mem_of_getElem? (i := 1161) (by decide +kernel), List.mem_of_getElem? (i := 1162) (by decide +kernel)⟩
theorem lw_p73 : lw_okq (⟨"RuleMillModel", "copyOrder", "(II)V"⟩, 43) := ⟨⟨by decide +kernel, by decide +kernel⟩, List.mem_of_getElem? (i := 811) (by decide +kernel), List.mem_of_getElem? (i := 1169) (by decide +kernel), List.mem_of_getElem? (i := 1170) (by decide +kernel)⟩
theorem lw_p74 : lw_okq (⟨"RuleMillModel", "isPlace", "(III)Z"⟩, 43) := ⟨⟨by decide +kernel, by decide +kernel⟩, List.mem_of_getElem? (i := 811) (by decide +kernel), List.mem_of_getElem? (i := 1181) (by decide +kernel), List.mem_of_getElem? (i := 1182) (by decide +kernel)⟩
theorem lw_p75 : lw_okq (⟨"RuleMillModel", "isWindow", "(III)Z"⟩, 43) := ⟨⟨by decide +kernel, by decide +kernel⟩, List.mem_of_getElem? (i := 811) (by decide +kernel), List.mem_of_getElem? (i := 1185) (by decide +kernel), List.mem_of_getElem? (i := 1186) (by decide +kernel)⟩
theorem lw_p76 : lw_okq (⟨"RuleMillModel", "changes", "(III)V"⟩, 43) := ⟨⟨by decide +kernel, by decide +kernel⟩, List.mem_of_getElem? (i := 811) (by decide +kernel), List.mem_of_getElem? (i := 1200) (by decide +kernel), List.mem_of_getElem? (i := 1201) (by decide +kernel)⟩
theorem lw_p77 : lw_okq (⟨"RuleMillModel", "placeIn", "(I)I"⟩, 43) := ⟨⟨by decide +kernel, by decide +kernel⟩, List.mem_of_getElem? (i := 811) (by decide +kernel), List.mem_of_getElem? (i := 1208) (by decide +kernel), List.mem_of_getElem? (i := 1209) (by decide +kernel)⟩
theorem lw_p78 : lw_okq (⟨"RuleMillModel", "ruleAt", "(II)I"⟩, 43) := ⟨⟨by decide +kernel, by decide +kernel⟩, List.mem_of_getElem? (i := 811) (by decide +kernel), List.mem_of_getElem? (i := 1212) (by decide +kernel), List.mem_of_getElem? (i := 1213) (by decide +kernel)⟩
theorem lw_p79 : lw_okq (⟨"RuleMillModel", "ran", "(II)I"⟩, 43) := ⟨⟨by decide +kernel, by decide +kernel⟩, List.mem_of_getElem? (i := 811) (by decide +kernel), List.mem_of_getElem? (i := 1228) (by decide +kernel), List.mem_of_getElem? (i := 1229) (by decide +kernel)⟩
def lw_privs_5 : List (MethodName × Nat) := [(⟨"RuleMillModel", "isRule", "(I)Z"⟩, 43), (⟨"RuleMillModel", "isSound", "(I)Z"⟩, 43), (⟨"RuleMillModel", "gain", "(I)I"⟩, 43), (⟨"RuleMillModel", "sidePrice", "(II)I"⟩, 43), (⟨"RuleMillModel", "isProgram", "(I)Z"⟩, 43), (⟨"RuleMillModel", "priceIn", "(I)I"⟩, 43), (⟨"RuleMillModel", "sayProgram", "(I)V"⟩, 43), (⟨"RuleMillModel", "say", "(I)V"⟩, 43), (⟨"RuleMillModel", "sayName", "(I)V"⟩, 43), (⟨"RuleMillModel", "copyOrder", "(II)V"⟩, 43), (⟨"RuleMillModel", "isPlace", "(III)Z"⟩, 43), (⟨"RuleMillModel", "isWindow", "(III)Z"⟩, 43), (⟨"RuleMillModel", "changes", "(III)V"⟩, 43), (⟨"RuleMillModel", "placeIn", "(I)I"⟩, 43), (⟨"RuleMillModel", "ruleAt", "(II)I"⟩, 43), (⟨"RuleMillModel", "ran", "(II)I"⟩, 43)]
theorem lw_r5 : ∀ q ∈ lw_privs_5, lw_okq q := List.forall_mem_cons.mpr ⟨lw_p64, List.forall_mem_cons.mpr ⟨lw_p65, List.forall_mem_cons.mpr ⟨lw_p66, List.forall_mem_cons.mpr ⟨lw_p67, List.forall_mem_cons.mpr ⟨lw_p68, List.forall_mem_cons.mpr ⟨lw_p69, List.forall_mem_cons.mpr ⟨lw_p70, List.forall_mem_cons.mpr ⟨lw_p71, List.forall_mem_cons.mpr ⟨lw_p72, List.forall_mem_cons.mpr ⟨lw_p73, List.forall_mem_cons.mpr ⟨lw_p74, List.forall_mem_cons.mpr ⟨lw_p75, List.forall_mem_cons.mpr ⟨lw_p76, List.forall_mem_cons.mpr ⟨lw_p77, List.forall_mem_cons.mpr ⟨lw_p78, List.forall_mem_cons.mpr ⟨lw_p79, fun _ h => absurd h List.not_mem_nil⟩⟩⟩⟩⟩⟩⟩⟩⟩⟩⟩⟩⟩⟩⟩⟩
def lw_privs : List (MethodName × Nat) := lw_privs_1 ++ (lw_privs_2 ++ (lw_privs_3 ++ (lw_privs_4 ++ (lw_privs_5))))
def lw_tbl : List Cond := k2_sels lw_privs ++ tables_1
theorem lw_privs_ok : ∀ q ∈ lw_privs, lw_okq q := by
  show ∀ q ∈ lw_privs_1 ++ (lw_privs_2 ++ (lw_privs_3 ++ (lw_privs_4 ++ (lw_privs_5)))), lw_okq q
  exact List.forall_mem_append.mpr ⟨lw_r1, List.forall_mem_append.mpr ⟨lw_r2, List.forall_mem_append.mpr ⟨lw_r3, List.forall_mem_append.mpr ⟨lw_r4, lw_r5⟩⟩⟩⟩
end
section
def RX0 : String := "RuleMill$Binding"
def TX0 : u_T := fun k => match k with
  | 0 => ("RuleMill$Binding", "registers", "[I", true)
  | _ => ("RuleMill$Binding", "numbers", "[I", true)
def tyX0 : Nat → FieldType := fun k => match k with
  | 0 => .array .int
  | _ => .array .int
theorem nmX0 : ∀ a, a < 2 → ∀ b, b < 2 → a ≠ b → (TX0 a).2.1 ≠ (TX0 b).2.1 := by decide +kernel
theorem tyX0_ok : ∀ k, k < 2 → parseFieldDescriptor (TX0 k).2.2.1 = some (tyX0 k) := by decide +kernel
def RX1 : String := "RuleMill$Letters"
def TX1 : u_T := fun k => match k with
  | 0 => ("RuleMill$Letters", "numberOf", "[I", true)
  | _ => ("RuleMill$Letters", "count", "I", false)
def tyX1 : Nat → FieldType := fun k => match k with
  | 0 => .array .int
  | _ => .int
theorem nmX1 : ∀ a, a < 2 → ∀ b, b < 2 → a ≠ b → (TX1 a).2.1 ≠ (TX1 b).2.1 := by decide +kernel
theorem tyX1_ok : ∀ k, k < 2 → parseFieldDescriptor (TX1 k).2.2.1 = some (tyX1 k) := by decide +kernel
def RX2 : String := "RuleMill$Machine"
def TX2 : u_T := fun k => match k with
  | _ => ("RuleMill$Machine", "words", "[I", true)
def tyX2 : Nat → FieldType := fun k => match k with
  | _ => .array .int
theorem nmX2 : ∀ a, a < 1 → ∀ b, b < 1 → a ≠ b → (TX2 a).2.1 ≠ (TX2 b).2.1 := by decide +kernel
theorem tyX2_ok : ∀ k, k < 1 → parseFieldDescriptor (TX2 k).2.2.1 = some (tyX2 k) := by decide +kernel
def RX3 : String := "RuleMill$Reader"
def TX3 : u_T := fun k => match k with
  | 0 => ("RuleMill$Reader", "fault", "I", false)
  | 1 => ("RuleMill$Reader", "faultPlace", "I", false)
  | 2 => ("RuleMill$Reader", "tape", "LRuleMill$Tape;", true)
  | 3 => ("RuleMill$Reader", "registers", "LRuleMill$Letters;", true)
  | 4 => ("RuleMill$Reader", "marks", "LRuleMill$Letters;", true)
  | 5 => ("RuleMill$Reader", "order", "[I", true)
  | 6 => ("RuleMill$Reader", "place", "I", false)
  | 7 => ("RuleMill$Reader", "reading", "I", false)
  | _ => ("RuleMill$Reader", "width", "I", false)
def tyX3 : Nat → FieldType := fun k => match k with
  | 0 => .int
  | 1 => .int
  | 2 => .object "RuleMill$Tape"
  | 3 => .object "RuleMill$Letters"
  | 4 => .object "RuleMill$Letters"
  | 5 => .array .int
  | 6 => .int
  | 7 => .int
  | _ => .int
theorem nmX3 : ∀ a, a < 9 → ∀ b, b < 9 → a ≠ b → (TX3 a).2.1 ≠ (TX3 b).2.1 := by decide +kernel
theorem tyX3_ok : ∀ k, k < 9 → parseFieldDescriptor (TX3 k).2.2.1 = some (tyX3 k) := by decide +kernel
def RX4 : String := "RuleMill$Row"
def TX4 : u_T := fun k => match k with
  | 0 => ("RuleMill$Row", "most", "I", true)
  | 1 => ("RuleMill$Row", "length", "I", false)
  | _ => ("RuleMill$Row", "fields", "[I", true)
def tyX4 : Nat → FieldType := fun k => match k with
  | 0 => .int
  | 1 => .int
  | _ => .array .int
theorem nmX4 : ∀ a, a < 3 → ∀ b, b < 3 → a ≠ b → (TX4 a).2.1 ≠ (TX4 b).2.1 := by decide +kernel
theorem tyX4_ok : ∀ k, k < 3 → parseFieldDescriptor (TX4 k).2.2.1 = some (tyX4 k) := by decide +kernel
def RX5 : String := "RuleMill$Rule"
def TX5 : u_T := fun k => match k with
  | 0 => ("RuleMill$Rule", "first", "LRuleMill$Row;", true)
  | 1 => ("RuleMill$Rule", "second", "LRuleMill$Row;", true)
  | 2 => ("RuleMill$Rule", "tops", "[I", true)
  | 3 => ("RuleMill$Rule", "firstUnlike", "[I", true)
  | 4 => ("RuleMill$Rule", "registers", "I", false)
  | 5 => ("RuleMill$Rule", "marks", "I", false)
  | 6 => ("RuleMill$Rule", "numbers", "I", false)
  | 7 => ("RuleMill$Rule", "assignments", "I", false)
  | 8 => ("RuleMill$Rule", "alike", "I", false)
  | 9 => ("RuleMill$Rule", "changes", "I", false)
  | 10 => ("RuleMill$Rule", "hasCells", "Z", false)
  | 11 => ("RuleMill$Rule", "isSound", "Z", false)
  | _ => ("RuleMill$Rule", "isOn", "Z", false)
def tyX5 : Nat → FieldType := fun k => match k with
  | 0 => .object "RuleMill$Row"
  | 1 => .object "RuleMill$Row"
  | 2 => .array .int
  | 3 => .array .int
  | 4 => .int
  | 5 => .int
  | 6 => .int
  | 7 => .int
  | 8 => .int
  | 9 => .int
  | 10 => .boolean
  | 11 => .boolean
  | _ => .boolean
theorem nmX5 : ∀ a, a < 13 → ∀ b, b < 13 → a ≠ b → (TX5 a).2.1 ≠ (TX5 b).2.1 := by decide +kernel
theorem tyX5_ok : ∀ k, k < 13 → parseFieldDescriptor (TX5 k).2.2.1 = some (tyX5 k) := by decide +kernel
def RX6 : String := "RuleMill$Steps"
def TX6 : u_T := fun k => match k with
  | 0 => ("RuleMill$Steps", "told", "[I", true)
  | _ => ("RuleMill$Steps", "count", "I", false)
def tyX6 : Nat → FieldType := fun k => match k with
  | 0 => .array .int
  | _ => .int
theorem nmX6 : ∀ a, a < 2 → ∀ b, b < 2 → a ≠ b → (TX6 a).2.1 ≠ (TX6 b).2.1 := by decide +kernel
theorem tyX6_ok : ∀ k, k < 2 → parseFieldDescriptor (TX6 k).2.2.1 = some (tyX6 k) := by decide +kernel
def RX7 : String := "RuleMill$Tape"
def TX7 : u_T := fun k => match k with
  | 0 => ("RuleMill$Tape", "bytes", "[B", true)
  | _ => ("RuleMill$Tape", "length", "I", false)
def tyX7 : Nat → FieldType := fun k => match k with
  | 0 => .array .byte
  | _ => .int
theorem nmX7 : ∀ a, a < 2 → ∀ b, b < 2 → a ≠ b → (TX7 a).2.1 ≠ (TX7 b).2.1 := by decide +kernel
theorem tyX7_ok : ∀ k, k < 2 → parseFieldDescriptor (TX7 k).2.2.1 = some (tyX7 k) := by decide +kernel
def RX8 : String := "RuleMill$Trial"
def TX8 : u_T := fun k => match k with
  | 0 => ("RuleMill$Trial", "machine", "LRuleMill$Machine;", true)
  | 1 => ("RuleMill$Trial", "first", "LRuleMill$Row;", true)
  | 2 => ("RuleMill$Trial", "second", "LRuleMill$Row;", true)
  | 3 => ("RuleMill$Trial", "binding", "LRuleMill$Binding;", true)
  | _ => ("RuleMill$Trial", "numbers", "[I", true)
def tyX8 : Nat → FieldType := fun k => match k with
  | 0 => .object "RuleMill$Machine"
  | 1 => .object "RuleMill$Row"
  | 2 => .object "RuleMill$Row"
  | 3 => .object "RuleMill$Binding"
  | _ => .array .int
theorem nmX8 : ∀ a, a < 5 → ∀ b, b < 5 → a ≠ b → (TX8 a).2.1 ≠ (TX8 b).2.1 := by decide +kernel
theorem tyX8_ok : ∀ k, k < 5 → parseFieldDescriptor (TX8 k).2.2.1 = some (tyX8 k) := by decide +kernel
def RX9 : String := "RuleMill"
def TX9 : u_T := fun k => match k with
  | 0 => ("RuleMill", "reader", "LRuleMill$Reader;", true)
  | 1 => ("RuleMill", "tape", "LRuleMill$Tape;", true)
  | 2 => ("RuleMill", "machine", "LRuleMill$Machine;", true)
  | 3 => ("RuleMill", "trial", "LRuleMill$Trial;", true)
  | 4 => ("RuleMill", "binding", "LRuleMill$Binding;", true)
  | 5 => ("RuleMill", "piece", "LRuleMill$Row;", true)
  | 6 => ("RuleMill", "steps", "LRuleMill$Steps;", true)
  | 7 => ("RuleMill", "rules", "[LRuleMill$Rule;", true)
  | 8 => ("RuleMill", "programs", "[LRuleMill$Row;", true)
  | 9 => ("RuleMill", "ruleCount", "I", false)
  | 10 => ("RuleMill", "programCount", "I", false)
  | 11 => ("RuleMill", "width", "I", false)
  | 12 => ("RuleMill", "latestFault", "I", false)
  | _ => ("RuleMill", "latestDifference", "I", false)
def tyX9 : Nat → FieldType := fun k => match k with
  | 0 => .object "RuleMill$Reader"
  | 1 => .object "RuleMill$Tape"
  | 2 => .object "RuleMill$Machine"
  | 3 => .object "RuleMill$Trial"
  | 4 => .object "RuleMill$Binding"
  | 5 => .object "RuleMill$Row"
  | 6 => .object "RuleMill$Steps"
  | 7 => .array (.object "RuleMill$Rule")
  | 8 => .array (.object "RuleMill$Row")
  | 9 => .int
  | 10 => .int
  | 11 => .int
  | 12 => .int
  | _ => .int
theorem nmX9 : ∀ a, a < 14 → ∀ b, b < 14 → a ≠ b → (TX9 a).2.1 ≠ (TX9 b).2.1 := by decide +kernel
theorem tyX9_ok : ∀ k, k < 14 → parseFieldDescriptor (TX9 k).2.2.1 = some (tyX9 k) := by decide +kernel
def RX10 : String := "RuleMillModel"
def TX10 : u_T := fun k => match k with
  | 0 => ("RuleMillModel", "width", "I", false)
  | 1 => ("RuleMillModel", "tape", "[I", true)
  | 2 => ("RuleMillModel", "taped", "I", false)
  | 3 => ("RuleMillModel", "words", "[I", true)
  | 4 => ("RuleMillModel", "rules", "I", false)
  | 5 => ("RuleMillModel", "sizes", "[I", true)
  | 6 => ("RuleMillModel", "rOp", "[I", true)
  | 7 => ("RuleMillModel", "rReg", "[I", true)
  | 8 => ("RuleMillModel", "rMark", "[Z", true)
  | 9 => ("RuleMillModel", "rNumber", "[I", true)
  | 10 => ("RuleMillModel", "rSign", "[I", true)
  | 11 => ("RuleMillModel", "registers", "[I", true)
  | 12 => ("RuleMillModel", "marks", "[I", true)
  | 13 => ("RuleMillModel", "ranges", "[I", true)
  | 14 => ("RuleMillModel", "hasCells", "[Z", true)
  | 15 => ("RuleMillModel", "all", "[I", true)
  | 16 => ("RuleMillModel", "right", "[I", true)
  | 17 => ("RuleMillModel", "firstWrong", "[I", true)
  | 18 => ("RuleMillModel", "isOn", "[Z", true)
  | 19 => ("RuleMillModel", "often", "[I", true)
  | 20 => ("RuleMillModel", "programs", "I", false)
  | 21 => ("RuleMillModel", "pSize", "[I", true)
  | 22 => ("RuleMillModel", "pOp", "[I", true)
  | 23 => ("RuleMillModel", "pX", "[I", true)
  | 24 => ("RuleMillModel", "pY", "[I", true)
  | 25 => ("RuleMillModel", "pZ", "[I", true)
  | 26 => ("RuleMillModel", "at", "I", false)
  | 27 => ("RuleMillModel", "fault", "I", false)
  | 28 => ("RuleMillModel", "wrongAt", "I", false)
  | 29 => ("RuleMillModel", "names", "[I", true)
  | 30 => ("RuleMillModel", "regAt", "[I", true)
  | 31 => ("RuleMillModel", "markAt", "[I", true)
  | 32 => ("RuleMillModel", "now", "[I", true)
  | 33 => ("RuleMillModel", "left", "[I", true)
  | 34 => ("RuleMillModel", "text", "[I", true)
  | 35 => ("RuleMillModel", "textMany", "I", false)
  | 36 => ("RuleMillModel", "meantReg", "[I", true)
  | 37 => ("RuleMillModel", "meantMark", "[I", true)
  | 38 => ("RuleMillModel", "steps", "I", false)
  | 39 => ("RuleMillModel", "stepPlace", "[I", true)
  | 40 => ("RuleMillModel", "stepRule", "[I", true)
  | 41 => ("RuleMillModel", "stepPrice", "[I", true)
  | _ => ("RuleMillModel", "apart", "I", false)
def tyX10 : Nat → FieldType := fun k => match k with
  | 0 => .int
  | 1 => .array .int
  | 2 => .int
  | 3 => .array .int
  | 4 => .int
  | 5 => .array .int
  | 6 => .array .int
  | 7 => .array .int
  | 8 => .array .boolean
  | 9 => .array .int
  | 10 => .array .int
  | 11 => .array .int
  | 12 => .array .int
  | 13 => .array .int
  | 14 => .array .boolean
  | 15 => .array .int
  | 16 => .array .int
  | 17 => .array .int
  | 18 => .array .boolean
  | 19 => .array .int
  | 20 => .int
  | 21 => .array .int
  | 22 => .array .int
  | 23 => .array .int
  | 24 => .array .int
  | 25 => .array .int
  | 26 => .int
  | 27 => .int
  | 28 => .int
  | 29 => .array .int
  | 30 => .array .int
  | 31 => .array .int
  | 32 => .array .int
  | 33 => .array .int
  | 34 => .array .int
  | 35 => .int
  | 36 => .array .int
  | 37 => .array .int
  | 38 => .int
  | 39 => .array .int
  | 40 => .array .int
  | 41 => .array .int
  | _ => .int
theorem nmX10 : ∀ a, a < 43 → ∀ b, b < 43 → a ≠ b → (TX10 a).2.1 ≠ (TX10 b).2.1 := by decide +kernel
theorem tyX10_ok : ∀ k, k < 43 → parseFieldDescriptor (TX10 k).2.2.1 = some (tyX10 k) := by decide +kernel
abbrev jcl : List vw_C := [(RX0, TX0, 2), (RX1, TX1, 2), (RX2, TX2, 1), (RX3, TX3, 9), (RX4, TX4, 3), (RX5, TX5, 13), (RX6, TX6, 2), (RX7, TX7, 2), (RX8, TX8, 5), (RX9, TX9, 14), (RX10, TX10, 43)]
def jtys : List (Nat → FieldType) := [tyX0, tyX1, tyX2, tyX3, tyX4, tyX5, tyX6, tyX7, tyX8, tyX9, tyX10]
/-- an instruction: what it is, two numbers, a whole number, where it goes on -/
abbrev jE : Type := Nat × Nat × Nat × Int × Nat
/-- a method: its name, bytes, locals, answer, arguments (the receiver counted), which kind of object it belongs to, the places of its words in the table, its instructions -/
abbrev jM : Type := MethodName × ByteArray × Nat × Option FieldType × Nat × Nat × List Nat × List (Nat × jE)
def jm_0 : jM := (⟨"RuleMillLaw", "law", "([I)Z"⟩, code, 4, (some (.boolean)), 1, 99, [], [(0, 35, 9, 7, 98, 3), (3, 16, 0, 0, 0, 4), (4, 40, 1, 9, 100, 7), (7, 5, 1, 0, 0, 8), (8, 35, 10, 10, 890, 11), (11, 16, 0, 0, 0, 12), (12, 40, 120, 12, 892, 15), (15, 5, 2, 0, 0, 16), (16, 0, 0, 0, 0, 17), (17, 4, 3, 0, 0, 18), (18, 1, 3, 0, 0, 19), (19, 2, 0, 0, 0, 20), (20, 34, 0, 0, 0, 21), (21, 0, 0, 0, 6, 23), (23, 8, 1, 0, 0, 24), (24, 20, 4, 945, 0, 27), (27, 2, 0, 0, 0, 28), (28, 1, 3, 0, 0, 29), (29, 28, 0, 0, 0, 30), (30, 0, 0, 0, 31, 32), (32, 8, 3, 0, 0, 33), (33, 50, 0, 0, 0, 148), (148, 2, 1, 0, 0, 149), (149, 2, 0, 0, 0, 150), (150, 1, 3, 0, 0, 151), (151, 0, 0, 0, 1, 152), (152, 8, 0, 0, 0, 153), (153, 28, 0, 0, 0, 154), (154, 39, 12, 13, 317, 157), (157, 2, 2, 0, 0, 158), (158, 2, 0, 0, 0, 159), (159, 1, 3, 0, 0, 160), (160, 0, 0, 0, 1, 161), (161, 8, 0, 0, 0, 162), (162, 28, 0, 0, 0, 163), (163, 39, 122, 17, 1030, 166), (166, 20, 0, 939, 0, 169), (169, 0, 0, 0, 0, 170), (170, 47, 0, 0, 0, 171), (171, 2, 1, 0, 0, 172), (172, 2, 0, 0, 0, 173), (173, 1, 3, 0, 0, 174), (174, 0, 0, 0, 1, 175), (175, 8, 0, 0, 0, 176), (176, 28, 0, 0, 0, 177), (177, 2, 0, 0, 0, 178), (178, 1, 3, 0, 0, 179), (179, 0, 0, 0, 2, 180), (180, 8, 0, 0, 0, 181), (181, 28, 0, 0, 0, 182), (182, 2, 0, 0, 0, 183), (183, 1, 3, 0, 0, 184), (184, 0, 0, 0, 3, 185), (185, 8, 0, 0, 0, 186), (186, 28, 0, 0, 0, 187), (187, 2, 0, 0, 0, 188), (188, 1, 3, 0, 0, 189), (189, 0, 0, 0, 4, 190), (190, 8, 0, 0, 0, 191), (191, 28, 0, 0, 0, 192), (192, 2, 0, 0, 0, 193), (193, 1, 3, 0, 0, 194), (194, 0, 0, 0, 5, 195), (195, 8, 0, 0, 0, 196), (196, 28, 0, 0, 0, 197), (197, 39, 13, 18, 321, 200), (200, 18, 0, 0, 0, 201), (201, 2, 2, 0, 0, 202), (202, 2, 0, 0, 0, 203), (203, 1, 3, 0, 0, 204), (204, 0, 0, 0, 1, 205), (205, 8, 0, 0, 0, 206), (206, 28, 0, 0, 0, 207), (207, 2, 0, 0, 0, 208), (208, 1, 3, 0, 0, 209), (209, 0, 0, 0, 2, 210), (210, 8, 0, 0, 0, 211), (211, 28, 0, 0, 0, 212), (212, 2, 0, 0, 0, 213), (213, 1, 3, 0, 0, 214), (214, 0, 0, 0, 3, 215), (215, 8, 0, 0, 0, 216), (216, 28, 0, 0, 0, 217), (217, 2, 0, 0, 0, 218), (218, 1, 3, 0, 0, 219), (219, 0, 0, 0, 4, 220), (220, 8, 0, 0, 0, 221), (221, 28, 0, 0, 0, 222), (222, 2, 0, 0, 0, 223), (223, 1, 3, 0, 0, 224), (224, 0, 0, 0, 5, 225), (225, 8, 0, 0, 0, 226), (226, 28, 0, 0, 0, 227), (227, 39, 124, 22, 1038, 230), (230, 18, 0, 0, 0, 231), (231, 21, 0, 939, 0, 234), (234, 2, 1, 0, 0, 235), (235, 2, 0, 0, 0, 236), (236, 1, 3, 0, 0, 237), (237, 0, 0, 0, 1, 238), (238, 8, 0, 0, 0, 239), (239, 28, 0, 0, 0, 240), (240, 39, 16, 23, 333, 243), (243, 18, 0, 0, 0, 244), (244, 2, 2, 0, 0, 245), (245, 2, 0, 0, 0, 246), (246, 1, 3, 0, 0, 247), (247, 0, 0, 0, 1, 248), (248, 8, 0, 0, 0, 249), (249, 28, 0, 0, 0, 250), (250, 39, 126, 26, 1046, 253), (253, 18, 0, 0, 0, 254), (254, 21, 0, 939, 0, 257), (257, 2, 1, 0, 0, 258), (258, 39, 17, 27, 337, 261), (261, 18, 0, 0, 0, 262), (262, 2, 2, 0, 0, 263), (263, 39, 127, 31, 1050, 266), (266, 18, 0, 0, 0, 267), (267, 21, 0, 939, 0, 270), (270, 2, 1, 0, 0, 271), (271, 39, 76, 32, 692, 274), (274, 18, 0, 0, 0, 275), (275, 2, 2, 0, 0, 276), (276, 39, 158, 35, 1169, 279), (279, 18, 0, 0, 0, 280), (280, 21, 0, 939, 0, 283), (283, 2, 1, 0, 0, 284), (284, 39, 79, 36, 704, 287), (287, 18, 0, 0, 0, 288), (288, 2, 2, 0, 0, 289), (289, 39, 160, 39, 1177, 292), (292, 18, 0, 0, 0, 293), (293, 21, 0, 939, 0, 296), (296, 2, 1, 0, 0, 297), (297, 2, 0, 0, 0, 298), (298, 1, 3, 0, 0, 299), (299, 0, 0, 0, 1, 300), (300, 8, 0, 0, 0, 301), (301, 28, 0, 0, 0, 302), (302, 2, 0, 0, 0, 303), (303, 1, 3, 0, 0, 304), (304, 0, 0, 0, 2, 305), (305, 8, 0, 0, 0, 306), (306, 28, 0, 0, 0, 307), (307, 19, 0, 314, 0, 310), (310, 0, 0, 0, 1, 311), (311, 21, 0, 315, 0, 314), (314, 0, 0, 0, 0, 315), (315, 39, 80, 40, 708, 318), (318, 18, 0, 0, 0, 319), (319, 2, 2, 0, 0, 320), (320, 2, 0, 0, 0, 321), (321, 1, 3, 0, 0, 322), (322, 0, 0, 0, 1, 323), (323, 8, 0, 0, 0, 324), (324, 28, 0, 0, 0, 325), (325, 2, 0, 0, 0, 326), (326, 1, 3, 0, 0, 327), (327, 0, 0, 0, 2, 328), (328, 8, 0, 0, 0, 329), (329, 28, 0, 0, 0, 330), (330, 19, 0, 337, 0, 333), (333, 0, 0, 0, 1, 334), (334, 21, 0, 338, 0, 337), (337, 0, 0, 0, 0, 338), (338, 39, 161, 44, 1181, 341), (341, 18, 0, 0, 0, 342), (342, 21, 0, 939, 0, 345), (345, 2, 1, 0, 0, 346), (346, 2, 0, 0, 0, 347), (347, 1, 3, 0, 0, 348), (348, 0, 0, 0, 1, 349), (349, 8, 0, 0, 0, 350), (350, 28, 0, 0, 0, 351), (351, 2, 0, 0, 0, 352), (352, 1, 3, 0, 0, 353), (353, 0, 0, 0, 2, 354), (354, 8, 0, 0, 0, 355), (355, 28, 0, 0, 0, 356), (356, 39, 83, 45, 719, 359), (359, 18, 0, 0, 0, 360), (360, 2, 2, 0, 0, 361), (361, 2, 0, 0, 0, 362), (362, 1, 3, 0, 0, 363), (363, 0, 0, 0, 1, 364), (364, 8, 0, 0, 0, 365), (365, 28, 0, 0, 0, 366), (366, 2, 0, 0, 0, 367), (367, 1, 3, 0, 0, 368), (368, 0, 0, 0, 2, 369), (369, 8, 0, 0, 0, 370), (370, 28, 0, 0, 0, 371), (371, 39, 163, 49, 1189, 374), (374, 18, 0, 0, 0, 375), (375, 21, 0, 939, 0, 378), (378, 2, 1, 0, 0, 379), (379, 2, 0, 0, 0, 380), (380, 1, 3, 0, 0, 381), (381, 0, 0, 0, 1, 382), (382, 8, 0, 0, 0, 383), (383, 28, 0, 0, 0, 384), (384, 2, 0, 0, 0, 385), (385, 1, 3, 0, 0, 386), (386, 0, 0, 0, 2, 387), (387, 8, 0, 0, 0, 388), (388, 28, 0, 0, 0, 389), (389, 39, 84, 50, 724, 392), (392, 18, 0, 0, 0, 393), (393, 2, 2, 0, 0, 394), (394, 2, 0, 0, 0, 395), (395, 1, 3, 0, 0, 396), (396, 0, 0, 0, 1, 397), (397, 8, 0, 0, 0, 398), (398, 28, 0, 0, 0, 399), (399, 2, 0, 0, 0, 400), (400, 1, 3, 0, 0, 401), (401, 0, 0, 0, 2, 402), (402, 8, 0, 0, 0, 403), (403, 28, 0, 0, 0, 404), (404, 39, 168, 53, 1208, 407), (407, 18, 0, 0, 0, 408), (408, 21, 0, 939, 0, 411), (411, 2, 1, 0, 0, 412), (412, 2, 0, 0, 0, 413), (413, 1, 3, 0, 0, 414), (414, 0, 0, 0, 1, 415), (415, 8, 0, 0, 0, 416), (416, 28, 0, 0, 0, 417), (417, 2, 0, 0, 0, 418), (418, 1, 3, 0, 0, 419), (419, 0, 0, 0, 2, 420), (420, 8, 0, 0, 0, 421), (421, 28, 0, 0, 0, 422), (422, 2, 0, 0, 0, 423), (423, 1, 3, 0, 0, 424), (424, 0, 0, 0, 3, 425), (425, 8, 0, 0, 0, 426), (426, 28, 0, 0, 0, 427), (427, 39, 85, 54, 728, 430), (430, 18, 0, 0, 0, 431), (431, 2, 2, 0, 0, 432), (432, 2, 0, 0, 0, 433), (433, 1, 3, 0, 0, 434), (434, 0, 0, 0, 1, 435), (435, 8, 0, 0, 0, 436), (436, 28, 0, 0, 0, 437), (437, 2, 0, 0, 0, 438), (438, 1, 3, 0, 0, 439), (439, 0, 0, 0, 2, 440), (440, 8, 0, 0, 0, 441), (441, 28, 0, 0, 0, 442), (442, 2, 0, 0, 0, 443), (443, 1, 3, 0, 0, 444), (444, 0, 0, 0, 3, 445), (445, 8, 0, 0, 0, 446), (446, 28, 0, 0, 0, 447), (447, 39, 169, 58, 1212, 450), (450, 18, 0, 0, 0, 451), (451, 21, 0, 939, 0, 454), (454, 2, 1, 0, 0, 455), (455, 2, 0, 0, 0, 456), (456, 1, 3, 0, 0, 457), (457, 0, 0, 0, 1, 458), (458, 8, 0, 0, 0, 459), (459, 28, 0, 0, 0, 460), (460, 2, 0, 0, 0, 461), (461, 1, 3, 0, 0, 462), (462, 0, 0, 0, 2, 463), (463, 8, 0, 0, 0, 464), (464, 28, 0, 0, 0, 465), (465, 39, 87, 59, 738, 468), (468, 18, 0, 0, 0, 469), (469, 2, 2, 0, 0, 470), (470, 2, 0, 0, 0, 471), (471, 1, 3, 0, 0, 472), (472, 0, 0, 0, 1, 473), (473, 8, 0, 0, 0, 474), (474, 28, 0, 0, 0, 475), (475, 2, 0, 0, 0, 476), (476, 1, 3, 0, 0, 477), (477, 0, 0, 0, 2, 478), (478, 8, 0, 0, 0, 479), (479, 28, 0, 0, 0, 480), (480, 39, 171, 62, 1220, 483), (483, 18, 0, 0, 0, 484), (484, 21, 0, 939, 0, 487), (487, 2, 1, 0, 0, 488), (488, 2, 0, 0, 0, 489), (489, 1, 3, 0, 0, 490), (490, 0, 0, 0, 1, 491), (491, 8, 0, 0, 0, 492), (492, 28, 0, 0, 0, 493), (493, 2, 0, 0, 0, 494), (494, 1, 3, 0, 0, 495), (495, 0, 0, 0, 2, 496), (496, 8, 0, 0, 0, 497), (497, 28, 0, 0, 0, 498), (498, 39, 88, 63, 743, 501), (501, 18, 0, 0, 0, 502), (502, 2, 2, 0, 0, 503), (503, 2, 0, 0, 0, 504), (504, 1, 3, 0, 0, 505), (505, 0, 0, 0, 1, 506), (506, 8, 0, 0, 0, 507), (507, 28, 0, 0, 0, 508), (508, 2, 0, 0, 0, 509), (509, 1, 3, 0, 0, 510), (510, 0, 0, 0, 2, 511), (511, 8, 0, 0, 0, 512), (512, 28, 0, 0, 0, 513), (513, 39, 173, 66, 1228, 516), (516, 18, 0, 0, 0, 517), (517, 21, 0, 939, 0, 520), (520, 2, 1, 0, 0, 521), (521, 2, 0, 0, 0, 522), (522, 1, 3, 0, 0, 523), (523, 0, 0, 0, 1, 524), (524, 8, 0, 0, 0, 525), (525, 28, 0, 0, 0, 526), (526, 2, 0, 0, 0, 527), (527, 1, 3, 0, 0, 528), (528, 0, 0, 0, 2, 529), (529, 8, 0, 0, 0, 530), (530, 28, 0, 0, 0, 531), (531, 39, 92, 67, 769, 534), (534, 18, 0, 0, 0, 535), (535, 2, 2, 0, 0, 536), (536, 2, 0, 0, 0, 537), (537, 1, 3, 0, 0, 538), (538, 0, 0, 0, 1, 539), (539, 8, 0, 0, 0, 540), (540, 28, 0, 0, 0, 541), (541, 2, 0, 0, 0, 542), (542, 1, 3, 0, 0, 543), (543, 0, 0, 0, 2, 544), (544, 8, 0, 0, 0, 545), (545, 28, 0, 0, 0, 546), (546, 39, 177, 70, 1244, 549), (549, 18, 0, 0, 0, 550), (550, 21, 0, 939, 0, 553), (553, 2, 1, 0, 0, 554), (554, 2, 0, 0, 0, 555), (555, 1, 3, 0, 0, 556), (556, 0, 0, 0, 1, 557), (557, 8, 0, 0, 0, 558), (558, 28, 0, 0, 0, 559), (559, 2, 0, 0, 0, 560), (560, 1, 3, 0, 0, 561), (561, 0, 0, 0, 2, 562), (562, 8, 0, 0, 0, 563), (563, 28, 0, 0, 0, 564), (564, 2, 0, 0, 0, 565), (565, 1, 3, 0, 0, 566), (566, 0, 0, 0, 3, 567), (567, 8, 0, 0, 0, 568), (568, 28, 0, 0, 0, 569), (569, 39, 95, 71, 781, 572), (572, 18, 0, 0, 0, 573), (573, 2, 2, 0, 0, 574), (574, 2, 0, 0, 0, 575), (575, 1, 3, 0, 0, 576), (576, 0, 0, 0, 1, 577), (577, 8, 0, 0, 0, 578), (578, 28, 0, 0, 0, 579), (579, 2, 0, 0, 0, 580), (580, 1, 3, 0, 0, 581), (581, 0, 0, 0, 2, 582), (582, 8, 0, 0, 0, 583), (583, 28, 0, 0, 0, 584), (584, 2, 0, 0, 0, 585), (585, 1, 3, 0, 0, 586), (586, 0, 0, 0, 3, 587), (587, 8, 0, 0, 0, 588), (588, 28, 0, 0, 0, 589), (589, 39, 179, 74, 1252, 592), (592, 18, 0, 0, 0, 593), (593, 21, 0, 939, 0, 596), (596, 2, 1, 0, 0, 597), (597, 2, 0, 0, 0, 598), (598, 1, 3, 0, 0, 599), (599, 0, 0, 0, 1, 600), (600, 8, 0, 0, 0, 601), (601, 28, 0, 0, 0, 602), (602, 2, 0, 0, 0, 603), (603, 1, 3, 0, 0, 604), (604, 0, 0, 0, 2, 605), (605, 8, 0, 0, 0, 606), (606, 28, 0, 0, 0, 607), (607, 2, 0, 0, 0, 608), (608, 1, 3, 0, 0, 609), (609, 0, 0, 0, 3, 610), (610, 8, 0, 0, 0, 611), (611, 28, 0, 0, 0, 612), (612, 39, 96, 75, 785, 615), (615, 18, 0, 0, 0, 616), (616, 2, 2, 0, 0, 617), (617, 2, 0, 0, 0, 618), (618, 1, 3, 0, 0, 619), (619, 0, 0, 0, 1, 620), (620, 8, 0, 0, 0, 621), (621, 28, 0, 0, 0, 622), (622, 2, 0, 0, 0, 623), (623, 1, 3, 0, 0, 624), (624, 0, 0, 0, 2, 625), (625, 8, 0, 0, 0, 626), (626, 28, 0, 0, 0, 627), (627, 2, 0, 0, 0, 628), (628, 1, 3, 0, 0, 629), (629, 0, 0, 0, 3, 630), (630, 8, 0, 0, 0, 631), (631, 28, 0, 0, 0, 632), (632, 39, 180, 78, 1256, 635), (635, 18, 0, 0, 0, 636), (636, 21, 0, 939, 0, 639), (639, 2, 1, 0, 0, 640), (640, 2, 0, 0, 0, 641), (641, 1, 3, 0, 0, 642), (642, 0, 0, 0, 1, 643), (643, 8, 0, 0, 0, 644), (644, 28, 0, 0, 0, 645), (645, 2, 0, 0, 0, 646), (646, 1, 3, 0, 0, 647), (647, 0, 0, 0, 2, 648), (648, 8, 0, 0, 0, 649), (649, 28, 0, 0, 0, 650), (650, 2, 0, 0, 0, 651), (651, 1, 3, 0, 0, 652), (652, 0, 0, 0, 3, 653), (653, 8, 0, 0, 0, 654), (654, 28, 0, 0, 0, 655), (655, 2, 0, 0, 0, 656), (656, 1, 3, 0, 0, 657), (657, 0, 0, 0, 4, 658), (658, 8, 0, 0, 0, 659), (659, 28, 0, 0, 0, 660), (660, 2, 0, 0, 0, 661), (661, 1, 3, 0, 0, 662), (662, 0, 0, 0, 5, 663), (663, 8, 0, 0, 0, 664), (664, 28, 0, 0, 0, 665), (665, 39, 102, 79, 814, 668), (668, 18, 0, 0, 0, 669), (669, 2, 2, 0, 0, 670), (670, 2, 0, 0, 0, 671), (671, 1, 3, 0, 0, 672), (672, 0, 0, 0, 1, 673), (673, 8, 0, 0, 0, 674), (674, 28, 0, 0, 0, 675), (675, 2, 0, 0, 0, 676), (676, 1, 3, 0, 0, 677), (677, 0, 0, 0, 2, 678), (678, 8, 0, 0, 0, 679), (679, 28, 0, 0, 0, 680), (680, 2, 0, 0, 0, 681), (681, 1, 3, 0, 0, 682), (682, 0, 0, 0, 3, 683), (683, 8, 0, 0, 0, 684), (684, 28, 0, 0, 0, 685), (685, 2, 0, 0, 0, 686), (686, 1, 3, 0, 0, 687), (687, 0, 0, 0, 4, 688), (688, 8, 0, 0, 0, 689), (689, 28, 0, 0, 0, 690), (690, 2, 0, 0, 0, 691), (691, 1, 3, 0, 0, 692), (692, 0, 0, 0, 5, 693), (693, 8, 0, 0, 0, 694), (694, 28, 0, 0, 0, 695), (695, 39, 184, 82, 1271, 698), (698, 18, 0, 0, 0, 699), (699, 21, 0, 939, 0, 702), (702, 2, 1, 0, 0, 703), (703, 2, 0, 0, 0, 704), (704, 1, 3, 0, 0, 705), (705, 0, 0, 0, 1, 706), (706, 8, 0, 0, 0, 707), (707, 28, 0, 0, 0, 708), (708, 2, 0, 0, 0, 709), (709, 1, 3, 0, 0, 710), (710, 0, 0, 0, 2, 711), (711, 8, 0, 0, 0, 712), (712, 28, 0, 0, 0, 713), (713, 2, 0, 0, 0, 714), (714, 1, 3, 0, 0, 715), (715, 0, 0, 0, 3, 716), (716, 8, 0, 0, 0, 717), (717, 28, 0, 0, 0, 718), (718, 39, 103, 83, 820, 721), (721, 18, 0, 0, 0, 722), (722, 2, 2, 0, 0, 723), (723, 2, 0, 0, 0, 724), (724, 1, 3, 0, 0, 725), (725, 0, 0, 0, 1, 726), (726, 8, 0, 0, 0, 727), (727, 28, 0, 0, 0, 728), (728, 2, 0, 0, 0, 729), (729, 1, 3, 0, 0, 730), (730, 0, 0, 0, 2, 731), (731, 8, 0, 0, 0, 732), (732, 28, 0, 0, 0, 733), (733, 2, 0, 0, 0, 734), (734, 1, 3, 0, 0, 735), (735, 0, 0, 0, 3, 736), (736, 8, 0, 0, 0, 737), (737, 28, 0, 0, 0, 738), (738, 39, 185, 86, 1275, 741), (741, 18, 0, 0, 0, 742), (742, 21, 0, 939, 0, 745), (745, 2, 1, 0, 0, 746), (746, 2, 0, 0, 0, 747), (747, 1, 3, 0, 0, 748), (748, 0, 0, 0, 1, 749), (749, 8, 0, 0, 0, 750), (750, 28, 0, 0, 0, 751), (751, 39, 106, 87, 833, 754), (754, 18, 0, 0, 0, 755), (755, 2, 2, 0, 0, 756), (756, 2, 0, 0, 0, 757), (757, 1, 3, 0, 0, 758), (758, 0, 0, 0, 1, 759), (759, 8, 0, 0, 0, 760), (760, 28, 0, 0, 0, 761), (761, 39, 187, 90, 1283, 764), (764, 18, 0, 0, 0, 765), (765, 21, 0, 939, 0, 768), (768, 2, 1, 0, 0, 769), (769, 2, 0, 0, 0, 770), (770, 1, 3, 0, 0, 771), (771, 0, 0, 0, 1, 772), (772, 8, 0, 0, 0, 773), (773, 28, 0, 0, 0, 774), (774, 2, 0, 0, 0, 775), (775, 1, 3, 0, 0, 776), (776, 0, 0, 0, 2, 777), (777, 8, 0, 0, 0, 778), (778, 28, 0, 0, 0, 779), (779, 39, 110, 91, 849, 782), (782, 18, 0, 0, 0, 783), (783, 2, 2, 0, 0, 784), (784, 2, 0, 0, 0, 785), (785, 1, 3, 0, 0, 786), (786, 0, 0, 0, 1, 787), (787, 8, 0, 0, 0, 788), (788, 28, 0, 0, 0, 789), (789, 2, 0, 0, 0, 790), (790, 1, 3, 0, 0, 791), (791, 0, 0, 0, 2, 792), (792, 8, 0, 0, 0, 793), (793, 28, 0, 0, 0, 794), (794, 39, 190, 94, 1295, 797), (797, 18, 0, 0, 0, 798), (798, 21, 0, 939, 0, 801), (801, 2, 1, 0, 0, 802), (802, 2, 0, 0, 0, 803), (803, 1, 3, 0, 0, 804), (804, 0, 0, 0, 1, 805), (805, 8, 0, 0, 0, 806), (806, 28, 0, 0, 0, 807), (807, 39, 111, 95, 853, 810), (810, 18, 0, 0, 0, 811), (811, 2, 2, 0, 0, 812), (812, 2, 0, 0, 0, 813), (813, 1, 3, 0, 0, 814), (814, 0, 0, 0, 1, 815), (815, 8, 0, 0, 0, 816), (816, 28, 0, 0, 0, 817), (817, 39, 191, 98, 1299, 820), (820, 18, 0, 0, 0, 821), (821, 21, 0, 939, 0, 824), (824, 2, 1, 0, 0, 825), (825, 2, 0, 0, 0, 826), (826, 1, 3, 0, 0, 827), (827, 0, 0, 0, 1, 828), (828, 8, 0, 0, 0, 829), (829, 28, 0, 0, 0, 830), (830, 2, 0, 0, 0, 831), (831, 1, 3, 0, 0, 832), (832, 0, 0, 0, 2, 833), (833, 8, 0, 0, 0, 834), (834, 28, 0, 0, 0, 835), (835, 39, 112, 99, 857, 838), (838, 18, 0, 0, 0, 839), (839, 2, 2, 0, 0, 840), (840, 2, 0, 0, 0, 841), (841, 1, 3, 0, 0, 842), (842, 0, 0, 0, 1, 843), (843, 8, 0, 0, 0, 844), (844, 28, 0, 0, 0, 845), (845, 2, 0, 0, 0, 846), (846, 1, 3, 0, 0, 847), (847, 0, 0, 0, 2, 848), (848, 8, 0, 0, 0, 849), (849, 28, 0, 0, 0, 850), (850, 39, 192, 102, 1303, 853), (853, 18, 0, 0, 0, 854), (854, 21, 0, 939, 0, 857), (857, 2, 1, 0, 0, 858), (858, 2, 0, 0, 0, 859), (859, 1, 3, 0, 0, 860), (860, 0, 0, 0, 1, 861), (861, 8, 0, 0, 0, 862), (862, 28, 0, 0, 0, 863), (863, 2, 0, 0, 0, 864), (864, 1, 3, 0, 0, 865), (865, 0, 0, 0, 2, 866), (866, 8, 0, 0, 0, 867), (867, 28, 0, 0, 0, 868), (868, 39, 113, 103, 862, 871), (871, 18, 0, 0, 0, 872), (872, 2, 2, 0, 0, 873), (873, 2, 0, 0, 0, 874), (874, 1, 3, 0, 0, 875), (875, 0, 0, 0, 1, 876), (876, 8, 0, 0, 0, 877), (877, 28, 0, 0, 0, 878), (878, 2, 0, 0, 0, 879), (879, 1, 3, 0, 0, 880), (880, 0, 0, 0, 2, 881), (881, 8, 0, 0, 0, 882), (882, 28, 0, 0, 0, 883), (883, 39, 194, 106, 1311, 886), (886, 18, 0, 0, 0, 887), (887, 21, 0, 939, 0, 890), (890, 2, 1, 0, 0, 891), (891, 39, 116, 107, 874, 894), (894, 18, 0, 0, 0, 895), (895, 2, 2, 0, 0, 896), (896, 39, 195, 110, 1315, 899), (899, 18, 0, 0, 0, 900), (900, 21, 0, 939, 0, 903), (903, 2, 1, 0, 0, 904), (904, 2, 0, 0, 0, 905), (905, 1, 3, 0, 0, 906), (906, 0, 0, 0, 1, 907), (907, 8, 0, 0, 0, 908), (908, 28, 0, 0, 0, 909), (909, 39, 117, 111, 878, 912), (912, 18, 0, 0, 0, 913), (913, 2, 2, 0, 0, 914), (914, 2, 0, 0, 0, 915), (915, 1, 3, 0, 0, 916), (916, 0, 0, 0, 1, 917), (917, 8, 0, 0, 0, 918), (918, 28, 0, 0, 0, 919), (919, 39, 196, 114, 1319, 922), (922, 18, 0, 0, 0, 923), (923, 21, 0, 939, 0, 926), (926, 2, 1, 0, 0, 927), (927, 39, 119, 115, 886, 930), (930, 18, 0, 0, 0, 931), (931, 2, 2, 0, 0, 932), (932, 39, 197, 118, 1323, 935), (935, 18, 0, 0, 0, 936), (936, 21, 0, 939, 0, 939), (939, 7, 3, 0, 6, 942), (942, 21, 0, 18, 0, 945), (945, 0, 0, 0, 1, 946), (946, 47, 0, 0, 0, 947)])
def jm_1 : jM := (⟨"RuleMill", "<init>", "()V"⟩, prog_1_method_1_code, 1, none, 1, 9, [102, 81, 101], [(0, 2, 0, 0, 0, 1), (1, 44, 0, 1, 103, 4), (4, 2, 0, 0, 0, 5), (5, 35, 3, 7, 106, 8), (8, 16, 0, 0, 0, 9), (9, 43, 2, 9, 108, 12), (12, 27, 576, 10, 274, 15), (15, 2, 0, 0, 0, 16), (16, 2, 0, 0, 0, 17), (17, 25, 576, 10, 274, 20), (20, 25, 194, 16, 153, 23), (23, 27, 577, 20, 275, 26), (26, 2, 0, 0, 0, 27), (27, 35, 2, 21, 180, 30), (30, 16, 0, 0, 0, 31), (31, 43, 7, 23, 182, 34), (34, 27, 578, 24, 276, 37), (37, 2, 0, 0, 0, 38), (38, 35, 8, 28, 190, 41), (41, 16, 0, 0, 0, 42), (42, 43, 8, 30, 192, 45), (45, 27, 579, 31, 277, 48), (48, 2, 0, 0, 0, 49), (49, 35, 0, 35, 252, 52), (52, 16, 0, 0, 0, 53), (53, 43, 10, 37, 253, 56), (56, 27, 580, 38, 278, 59), (59, 2, 0, 0, 0, 60), (60, 35, 4, 42, 254, 63), (63, 16, 0, 0, 0, 64), (64, 0, 0, 0, 4, 65), (65, 40, 9, 44, 255, 68), (68, 27, 581, 47, 279, 71), (71, 2, 0, 0, 0, 72), (72, 35, 6, 51, 256, 75), (75, 16, 0, 0, 0, 76), (76, 43, 11, 53, 258, 79), (79, 27, 582, 54, 280, 82), (82, 2, 0, 0, 0, 83), (83, 0, 0, 0, 24, 85), (85, 37, 5, 58, 271, 88), (88, 27, 583, 60, 281, 91), (91, 2, 0, 0, 0, 92), (92, 0, 0, 0, 16, 94), (94, 37, 4, 42, 254, 97), (97, 27, 584, 64, 282, 100), (100, 2, 0, 0, 0, 101), (101, 0, 0, 0, 0, 102), (102, 26, 585, 68, 283, 105), (105, 2, 0, 0, 0, 106), (106, 0, 0, 0, 0, 107), (107, 26, 586, 72, 284, 110), (110, 2, 0, 0, 0, 111), (111, 0, 0, 0, 2, 112), (112, 26, 587, 75, 285, 115), (115, 2, 0, 0, 0, 116), (116, 0, 0, 0, 0, 117), (117, 26, 588, 78, 286, 120), (120, 2, 0, 0, 0, 121), (121, 0, 0, 0, (-4), 123), (123, 26, 589, 81, 287, 126), (126, 45, 0, 0, 0, 127)])
def jm_2 : jM := (⟨"RuleMill$Reader", "<init>", "()V"⟩, prog_5_method_1_code, 1, none, 1, 3, [110, 82, 109], [(0, 2, 0, 0, 0, 1), (1, 44, 0, 3, 111, 4), (4, 2, 0, 0, 0, 5), (5, 0, 0, 0, 0, 6), (6, 26, 192, 9, 149, 9), (9, 2, 0, 0, 0, 10), (10, 0, 0, 0, 0, 11), (11, 26, 193, 15, 151, 14), (14, 2, 0, 0, 0, 15), (15, 35, 7, 18, 112, 18), (18, 16, 0, 0, 0, 19), (19, 43, 3, 20, 114, 22), (22, 27, 194, 21, 154, 25), (25, 2, 0, 0, 0, 26), (26, 35, 1, 25, 128, 29), (29, 16, 0, 0, 0, 30), (30, 0, 0, 0, 4, 31), (31, 40, 4, 27, 130, 34), (34, 27, 195, 30, 155, 37), (37, 2, 0, 0, 0, 38), (38, 35, 1, 25, 128, 41), (41, 16, 0, 0, 0, 42), (42, 0, 0, 0, 3, 43), (43, 40, 4, 27, 130, 46), (46, 27, 196, 34, 156, 49), (49, 2, 0, 0, 0, 50), (50, 0, 0, 0, 6, 52), (52, 36, 0, 0, 0, 54), (54, 27, 197, 37, 157, 57), (57, 2, 0, 0, 0, 58), (58, 0, 0, 0, 0, 59), (59, 26, 198, 41, 158, 62), (62, 2, 0, 0, 0, 63), (63, 0, 0, 0, 0, 64), (64, 26, 199, 44, 159, 67), (67, 2, 0, 0, 0, 68), (68, 0, 0, 0, 0, 69), (69, 26, 200, 47, 160, 72), (72, 45, 0, 0, 0, 73)])
def jm_3 : jM := (⟨"RuleMill$Tape", "<init>", "()V"⟩, prog_9_method_1_code, 1, none, 1, 7, [116, 83, 115], [(0, 2, 0, 0, 0, 1), (1, 44, 0, 3, 117, 4), (4, 2, 0, 0, 0, 5), (5, 0, 0, 0, 400, 8), (8, 36, 1, 0, 0, 10), (10, 27, 448, 9, 118, 13), (13, 2, 0, 0, 0, 14), (14, 0, 0, 0, 0, 15), (15, 26, 449, 15, 119, 18), (18, 45, 0, 0, 0, 19)])
def jm_4 : jM := (⟨"RuleMill$Letters", "<init>", "(I)V"⟩, prog_3_method_1_code, 2, none, 2, 1, [132, 84, 131], [(0, 2, 0, 0, 0, 1), (1, 44, 0, 3, 133, 4), (4, 2, 0, 0, 0, 5), (5, 0, 0, 0, 0, 6), (6, 26, 65, 9, 141, 9), (9, 2, 0, 0, 0, 10), (10, 0, 0, 0, 0, 11), (11, 1, 1, 0, 0, 12), (12, 0, 0, 0, 4, 13), (13, 38, 5, 15, 134, 16), (16, 38, 6, 21, 137, 19), (19, 36, 0, 0, 0, 21), (21, 27, 64, 24, 140, 24), (24, 45, 0, 0, 0, 25)])
def jm_5 : jM := (⟨"java/lang/Math", "min", "(II)I"⟩, prog_13_method_69_code, 2, (some (.int)), 2, 99, [136, 85, 135], [(0, 1, 0, 0, 0, 1), (1, 1, 1, 0, 0, 2), (2, 20, 4, 9, 0, 5), (5, 1, 0, 0, 0, 6), (6, 21, 0, 10, 0, 9), (9, 1, 1, 0, 0, 10), (10, 46, 0, 0, 0, 11)])
def jm_6 : jM := (⟨"java/lang/Math", "max", "(II)I"⟩, prog_13_method_65_code, 2, (some (.int)), 2, 99, [139, 85, 138], [(0, 1, 0, 0, 0, 1), (1, 1, 1, 0, 0, 2), (2, 20, 2, 9, 0, 5), (5, 1, 0, 0, 0, 6), (6, 21, 0, 10, 0, 9), (9, 1, 1, 0, 0, 10), (10, 46, 0, 0, 0, 11)])
def jm_7 : jM := (⟨"RuleMill$Machine", "<init>", "()V"⟩, prog_4_method_1_code, 1, none, 1, 2, [184, 86, 183], [(0, 2, 0, 0, 0, 1), (1, 44, 0, 3, 185, 4), (4, 2, 0, 0, 0, 5), (5, 0, 0, 0, 8, 7), (7, 36, 0, 0, 0, 9), (9, 27, 128, 9, 186, 12), (12, 45, 0, 0, 0, 13)])
def jm_8 : jM := (⟨"RuleMill$Trial", "<init>", "()V"⟩, prog_10_method_1_code, 1, none, 1, 8, [194, 87, 193], [(0, 2, 0, 0, 0, 1), (1, 44, 0, 3, 195, 4), (4, 2, 0, 0, 0, 5), (5, 35, 2, 9, 196, 8), (8, 16, 0, 0, 0, 9), (9, 43, 7, 11, 197, 12), (12, 27, 512, 12, 236, 15), (15, 2, 0, 0, 0, 16), (16, 35, 4, 18, 198, 19), (19, 16, 0, 0, 0, 20), (20, 0, 0, 0, 4, 21), (21, 40, 9, 20, 200, 24), (24, 27, 513, 23, 237, 27), (27, 2, 0, 0, 0, 28), (28, 35, 4, 18, 198, 31), (31, 16, 0, 0, 0, 32), (32, 0, 0, 0, 4, 33), (33, 40, 9, 20, 200, 36), (36, 27, 514, 27, 238, 39), (39, 2, 0, 0, 0, 40), (40, 35, 0, 30, 223, 43), (43, 16, 0, 0, 0, 44), (44, 43, 10, 32, 225, 47), (47, 27, 515, 33, 239, 50), (50, 2, 0, 0, 0, 51), (51, 0, 0, 0, 11, 53), (53, 36, 0, 0, 0, 55), (55, 27, 516, 39, 240, 58), (58, 45, 0, 0, 0, 59)])
def jm_9 : jM := (⟨"RuleMill$Row", "<init>", "(I)V"⟩, prog_6_method_1_code, 2, none, 2, 4, [202, 88, 201], [(0, 2, 0, 0, 0, 1), (1, 44, 0, 3, 203, 4), (4, 2, 0, 0, 0, 5), (5, 0, 0, 0, 0, 6), (6, 26, 257, 9, 209, 9), (9, 2, 0, 0, 0, 10), (10, 0, 0, 0, 0, 11), (11, 1, 1, 0, 0, 12), (12, 0, 0, 0, 24, 14), (14, 38, 5, 15, 204, 17), (17, 38, 6, 21, 205, 20), (20, 27, 256, 24, 206, 23), (23, 2, 0, 0, 0, 24), (24, 2, 0, 0, 0, 25), (25, 25, 256, 24, 206, 28), (28, 0, 0, 0, 6, 30), (30, 8, 2, 0, 0, 31), (31, 36, 0, 0, 0, 33), (33, 27, 258, 27, 214, 36), (36, 45, 0, 0, 0, 37)])
def jm_10 : jM := (⟨"RuleMill$Binding", "<init>", "()V"⟩, prog_2_method_1_code, 1, none, 1, 0, [227, 89, 226], [(0, 2, 0, 0, 0, 1), (1, 44, 0, 3, 228, 4), (4, 2, 0, 0, 0, 5), (5, 0, 0, 0, 4, 6), (6, 36, 0, 0, 0, 8), (8, 27, 0, 9, 229, 11), (11, 2, 0, 0, 0, 12), (12, 0, 0, 0, 3, 13), (13, 36, 0, 0, 0, 15), (15, 27, 1, 15, 230, 18), (18, 45, 0, 0, 0, 19)])
def jm_11 : jM := (⟨"RuleMill$Steps", "<init>", "()V"⟩, prog_8_method_1_code, 1, none, 1, 6, [260, 90, 259], [(0, 2, 0, 0, 0, 1), (1, 44, 0, 3, 261, 4), (4, 2, 0, 0, 0, 5), (5, 0, 0, 0, 432, 8), (8, 36, 0, 0, 0, 10), (10, 27, 384, 11, 262, 13), (13, 2, 0, 0, 0, 14), (14, 0, 0, 0, 0, 15), (15, 26, 385, 15, 264, 18), (18, 45, 0, 0, 0, 19)])
def jm_12 : jM := (⟨"RuleMill", "width", "(I)I"⟩, prog_1_method_2_code, 3, (some (.int)), 2, 9, [320, 81, 318, 319], [(0, 1, 1, 0, 0, 1), (1, 0, 0, 0, 1, 2), (2, 20, 2, 10, 0, 5), (5, 1, 1, 0, 0, 6), (6, 0, 0, 0, 3, 7), (7, 20, 5, 12, 0, 10), (10, 0, 0, 0, (-1), 11), (11, 46, 0, 0, 0, 12), (12, 2, 0, 0, 0, 13), (13, 25, 585, 68, 283, 16), (16, 19, 4, 26, 0, 19), (19, 2, 0, 0, 0, 20), (20, 25, 586, 72, 284, 23), (23, 19, 5, 29, 0, 26), (26, 0, 0, 0, (-2), 28), (28, 46, 0, 0, 0, 29), (29, 2, 0, 0, 0, 30), (30, 25, 587, 75, 285, 33), (33, 4, 2, 0, 0, 34), (34, 2, 0, 0, 0, 35), (35, 1, 1, 0, 0, 36), (36, 26, 587, 75, 285, 39), (39, 1, 2, 0, 0, 40), (40, 46, 0, 0, 0, 41)])
def jm_13 : jM := (⟨"RuleMill", "feed", "(IIIII)I"⟩, prog_1_method_3_code, 6, (some (.int)), 6, 9, [324, 81, 322, 323], [(0, 2, 0, 0, 0, 1), (1, 25, 577, 20, 275, 4), (4, 39, 14, 84, 325, 7), (7, 19, 1, 13, 0, 10), (10, 0, 0, 0, (-3), 12), (12, 46, 0, 0, 0, 13), (13, 2, 0, 0, 0, 14), (14, 25, 577, 20, 275, 17), (17, 1, 1, 0, 0, 18), (18, 39, 15, 90, 329, 21), (21, 2, 0, 0, 0, 22), (22, 25, 577, 20, 275, 25), (25, 1, 2, 0, 0, 26), (26, 39, 15, 90, 329, 29), (29, 2, 0, 0, 0, 30), (30, 25, 577, 20, 275, 33), (33, 1, 3, 0, 0, 34), (34, 39, 15, 90, 329, 37), (37, 2, 0, 0, 0, 38), (38, 25, 577, 20, 275, 41), (41, 1, 4, 0, 0, 43), (43, 39, 15, 90, 329, 46), (46, 2, 0, 0, 0, 47), (47, 25, 577, 20, 275, 50), (50, 1, 5, 0, 0, 52), (52, 39, 15, 90, 329, 55), (55, 2, 0, 0, 0, 56), (56, 25, 577, 20, 275, 59), (59, 25, 449, 93, 121, 62), (62, 46, 0, 0, 0, 63)])
def jm_14 : jM := (⟨"RuleMill$Tape", "hasRoomForFive", "()Z"⟩, prog_9_method_2_code, 1, (some (.boolean)), 1, 7, [328, 83, 326, 327], [(0, 2, 0, 0, 0, 1), (1, 25, 449, 15, 119, 4), (4, 0, 0, 0, 20, 6), (6, 8, 0, 0, 0, 7), (7, 2, 0, 0, 0, 8), (8, 25, 448, 9, 118, 11), (11, 34, 0, 0, 0, 12), (12, 20, 4, 19, 0, 15), (15, 0, 0, 0, 1, 16), (16, 21, 0, 20, 0, 19), (19, 0, 0, 0, 0, 20), (20, 47, 0, 0, 0, 21)])
def jm_15 : jM := (⟨"RuleMill$Tape", "append", "(I)V"⟩, prog_9_method_3_code, 3, none, 2, 7, [332, 83, 330, 331], [(0, 0, 0, 0, 24, 2), (2, 4, 2, 0, 0, 3), (3, 1, 2, 0, 0, 4), (4, 19, 2, 48, 0, 7), (7, 2, 0, 0, 0, 8), (8, 25, 449, 15, 119, 11), (11, 2, 0, 0, 0, 12), (12, 25, 448, 9, 118, 15), (15, 34, 0, 0, 0, 16), (16, 20, 3, 48, 0, 19), (19, 2, 0, 0, 0, 20), (20, 25, 448, 9, 118, 23), (23, 2, 0, 0, 0, 24), (24, 25, 449, 15, 119, 27), (27, 1, 1, 0, 0, 28), (28, 1, 2, 0, 0, 29), (29, 8, 7, 0, 0, 30), (30, 15, 0, 0, 0, 31), (31, 31, 0, 0, 0, 32), (32, 2, 0, 0, 0, 33), (33, 16, 0, 0, 0, 34), (34, 25, 449, 15, 119, 37), (37, 0, 0, 0, 1, 38), (38, 8, 0, 0, 0, 39), (39, 26, 449, 15, 119, 42), (42, 7, 2, 0, (-8), 45), (45, 21, 0, 3, 0, 48), (48, 45, 0, 0, 0, 49)])
def jm_16 : jM := (⟨"RuleMill", "end", "(I)I"⟩, prog_1_method_4_code, 3, (some (.int)), 2, 9, [336, 81, 334, 335], [(0, 1, 1, 0, 0, 1), (1, 19, 2, 15, 0, 4), (4, 1, 1, 0, 0, 5), (5, 2, 0, 0, 0, 6), (6, 25, 577, 20, 275, 9), (9, 25, 449, 93, 121, 12), (12, 20, 5, 17, 0, 15), (15, 0, 0, 0, (-1), 16), (16, 46, 0, 0, 0, 17), (17, 2, 0, 0, 0, 18), (18, 25, 577, 20, 275, 21), (21, 25, 449, 93, 121, 24), (24, 4, 2, 0, 0, 25), (25, 2, 0, 0, 0, 26), (26, 25, 577, 20, 275, 29), (29, 1, 1, 0, 0, 30), (30, 26, 449, 93, 121, 33), (33, 1, 2, 0, 0, 34), (34, 46, 0, 0, 0, 35)])
def jm_17 : jM := (⟨"RuleMill", "rule", "()I"⟩, prog_1_method_5_code, 2, (some (.int)), 1, 9, [340, 81, 338, 339], [(0, 2, 0, 0, 0, 1), (1, 25, 585, 68, 283, 4), (4, 0, 0, 0, 24, 6), (6, 20, 2, 12, 0, 9), (9, 0, 0, 0, (-3), 11), (11, 46, 0, 0, 0, 12), (12, 2, 0, 0, 0, 13), (13, 39, 18, 96, 341, 16), (16, 5, 1, 0, 0, 17), (17, 2, 0, 0, 0, 18), (18, 25, 576, 10, 274, 21), (21, 2, 1, 0, 0, 22), (22, 2, 0, 0, 0, 23), (23, 25, 587, 75, 285, 26), (26, 39, 21, 100, 424, 29), (29, 2, 0, 0, 0, 30), (30, 25, 577, 20, 275, 33), (33, 0, 0, 0, 0, 34), (34, 26, 449, 93, 121, 37), (37, 2, 0, 0, 0, 38), (38, 2, 0, 0, 0, 39), (39, 25, 576, 10, 274, 42), (42, 25, 192, 104, 150, 45), (45, 26, 588, 78, 286, 48), (48, 2, 0, 0, 0, 49), (49, 25, 588, 78, 286, 52), (52, 19, 1, 75, 0, 55), (55, 2, 1, 0, 0, 56), (56, 2, 0, 0, 0, 57), (57, 25, 587, 75, 285, 60), (60, 39, 49, 107, 575, 63), (63, 12, 606, 111, 70000, 66), (66, 14, 0, 0, 0, 67), (67, 19, 5, 75, 0, 70), (70, 2, 0, 0, 0, 71), (71, 0, 0, 0, 5, 72), (72, 26, 588, 78, 286, 75), (75, 2, 0, 0, 0, 76), (76, 25, 588, 78, 286, 79), (79, 19, 0, 93, 0, 82), (82, 0, 0, 0, (-10), 84), (84, 2, 0, 0, 0, 85), (85, 25, 576, 10, 274, 88), (88, 25, 193, 113, 152, 91), (91, 8, 1, 0, 0, 92), (92, 46, 0, 0, 0, 93), (93, 2, 0, 0, 0, 94), (94, 25, 579, 31, 277, 97), (97, 2, 1, 0, 0, 98), (98, 2, 0, 0, 0, 99), (99, 25, 587, 75, 285, 102), (102, 39, 56, 116, 607, 105), (105, 2, 0, 0, 0, 106), (106, 16, 0, 0, 0, 107), (107, 25, 585, 68, 283, 110), (110, 0, 0, 0, 1, 111), (111, 8, 0, 0, 0, 112), (112, 26, 585, 68, 283, 115), (115, 2, 0, 0, 0, 116), (116, 25, 585, 68, 283, 119), (119, 0, 0, 0, 1, 120), (120, 8, 1, 0, 0, 121), (121, 46, 0, 0, 0, 122)])
def jm_18 : jM := (⟨"RuleMill", "freshRule", "()LRuleMill$Rule;"⟩, prog_1_method_29_code, 2, (some (.object "RuleMill$Rule")), 1, 9, [344, 81, 343, 0], [(0, 2, 0, 0, 0, 1), (1, 25, 585, 68, 283, 4), (4, 2, 0, 0, 0, 5), (5, 25, 583, 60, 281, 8), (8, 34, 0, 0, 0, 9), (9, 20, 3, 24, 0, 12), (12, 2, 0, 0, 0, 13), (13, 25, 583, 60, 281, 16), (16, 2, 0, 0, 0, 17), (17, 25, 585, 68, 283, 20), (20, 32, 0, 0, 0, 21), (21, 21, 0, 25, 0, 24), (24, 24, 0, 0, 0, 25), (25, 5, 1, 0, 0, 26), (26, 2, 1, 0, 0, 27), (27, 23, 0, 38, 0, 30), (30, 35, 5, 58, 271, 33), (33, 16, 0, 0, 0, 34), (34, 43, 19, 235, 346, 37), (37, 5, 1, 0, 0, 38), (38, 2, 0, 0, 0, 39), (39, 25, 585, 68, 283, 42), (42, 2, 0, 0, 0, 43), (43, 25, 583, 60, 281, 46), (46, 34, 0, 0, 0, 47), (47, 20, 3, 60, 0, 50), (50, 2, 0, 0, 0, 51), (51, 25, 583, 60, 281, 54), (54, 2, 0, 0, 0, 55), (55, 25, 585, 68, 283, 58), (58, 2, 1, 0, 0, 59), (59, 33, 0, 0, 0, 60), (60, 2, 1, 0, 0, 61), (61, 39, 20, 236, 420, 64), (64, 2, 1, 0, 0, 65), (65, 48, 0, 0, 0, 66)])
def jm_19 : jM := (⟨"RuleMill$Rule", "<init>", "()V"⟩, prog_7_method_1_code, 1, none, 1, 5, [348, 92, 347], [(0, 2, 0, 0, 0, 1), (1, 44, 0, 3, 349, 4), (4, 2, 0, 0, 0, 5), (5, 35, 4, 9, 350, 8), (8, 16, 0, 0, 0, 9), (9, 0, 0, 0, 4, 10), (10, 40, 9, 11, 351, 13), (13, 27, 320, 14, 352, 16), (16, 2, 0, 0, 0, 17), (17, 35, 4, 9, 350, 20), (20, 16, 0, 0, 0, 21), (21, 0, 0, 0, 4, 22), (22, 40, 9, 11, 351, 25), (25, 27, 321, 20, 357, 28), (28, 2, 0, 0, 0, 29), (29, 0, 0, 0, 11, 31), (31, 36, 0, 0, 0, 33), (33, 27, 322, 23, 362, 36), (36, 2, 0, 0, 0, 37), (37, 0, 0, 0, 11, 39), (39, 36, 0, 0, 0, 41), (41, 27, 323, 27, 364, 44), (44, 45, 0, 0, 0, 45)])
def jm_20 : jM := (⟨"RuleMill$Rule", "clear", "()V"⟩, prog_7_method_2_code, 1, none, 1, 5, [423, 92, 421, 422], [(0, 2, 0, 0, 0, 1), (1, 25, 320, 14, 352, 4), (4, 0, 0, 0, 0, 5), (5, 26, 257, 30, 210, 8), (8, 2, 0, 0, 0, 9), (9, 25, 321, 20, 357, 12), (12, 0, 0, 0, 0, 13), (13, 26, 257, 30, 210, 16), (16, 2, 0, 0, 0, 17), (17, 0, 0, 0, 0, 18), (18, 26, 324, 34, 367, 21), (21, 2, 0, 0, 0, 22), (22, 0, 0, 0, 0, 23), (23, 26, 325, 37, 371, 26), (26, 2, 0, 0, 0, 27), (27, 0, 0, 0, 0, 28), (28, 26, 326, 40, 375, 31), (31, 2, 0, 0, 0, 32), (32, 0, 0, 0, 0, 33), (33, 26, 327, 43, 379, 36), (36, 2, 0, 0, 0, 37), (37, 0, 0, 0, 0, 38), (38, 26, 328, 46, 382, 41), (41, 2, 0, 0, 0, 42), (42, 0, 0, 0, 0, 43), (43, 26, 329, 49, 384, 46), (46, 2, 0, 0, 0, 47), (47, 0, 0, 0, 0, 48), (48, 26, 330, 52, 386, 51), (51, 2, 0, 0, 0, 52), (52, 0, 0, 0, 0, 53), (53, 26, 331, 56, 388, 56), (56, 2, 0, 0, 0, 57), (57, 0, 0, 0, 1, 58), (58, 26, 332, 59, 391, 61), (61, 45, 0, 0, 0, 62)])
def jm_21 : jM := (⟨"RuleMill$Reader", "readRule", "(LRuleMill$Rule;I)V"⟩, prog_5_method_3_code, 3, none, 3, 3, [427, 82, 425, 426], [(0, 2, 0, 0, 0, 1), (1, 0, 0, 0, 1, 2), (2, 1, 2, 0, 0, 3), (3, 39, 22, 50, 428, 6), (6, 2, 0, 0, 0, 7), (7, 2, 1, 0, 0, 8), (8, 25, 320, 61, 353, 11), (11, 39, 26, 57, 444, 14), (14, 19, 0, 49, 0, 17), (17, 2, 0, 0, 0, 18), (18, 0, 0, 0, 2, 19), (19, 26, 199, 44, 159, 22), (22, 2, 0, 0, 0, 23), (23, 39, 24, 67, 436, 26), (26, 2, 0, 0, 0, 27), (27, 25, 198, 41, 158, 30), (30, 2, 0, 0, 0, 31), (31, 25, 194, 21, 154, 34), (34, 25, 449, 54, 120, 37), (37, 20, 3, 49, 0, 40), (40, 2, 0, 0, 0, 41), (41, 2, 1, 0, 0, 42), (42, 25, 321, 70, 358, 45), (45, 39, 26, 57, 444, 48), (48, 18, 0, 0, 0, 49), (49, 2, 1, 0, 0, 50), (50, 2, 0, 0, 0, 51), (51, 25, 195, 30, 155, 54), (54, 25, 65, 73, 142, 57), (57, 26, 324, 76, 368, 60), (60, 2, 1, 0, 0, 61), (61, 2, 0, 0, 0, 62), (62, 25, 196, 34, 156, 65), (65, 25, 65, 73, 142, 68), (68, 26, 325, 78, 373, 71), (71, 45, 0, 0, 0, 72)])
def jm_22 : jM := (⟨"RuleMill$Reader", "begin", "(II)V"⟩, prog_5_method_4_code, 3, none, 3, 3, [431, 82, 430, 1], [(0, 2, 0, 0, 0, 1), (1, 1, 2, 0, 0, 2), (2, 26, 200, 47, 160, 5), (5, 2, 0, 0, 0, 6), (6, 1, 1, 0, 0, 7), (7, 26, 199, 44, 159, 10), (10, 2, 0, 0, 0, 11), (11, 0, 0, 0, 0, 12), (12, 26, 192, 9, 149, 15), (15, 2, 0, 0, 0, 16), (16, 0, 0, 0, 0, 17), (17, 26, 193, 15, 151, 20), (20, 2, 0, 0, 0, 21), (21, 0, 0, 0, 0, 22), (22, 26, 198, 41, 158, 25), (25, 2, 0, 0, 0, 26), (26, 25, 195, 30, 155, 29), (29, 39, 23, 80, 432, 32), (32, 2, 0, 0, 0, 33), (33, 25, 196, 34, 156, 36), (36, 39, 23, 80, 432, 39), (39, 2, 0, 0, 0, 40), (40, 39, 24, 67, 436, 43), (43, 45, 0, 0, 0, 44)])
def jm_23 : jM := (⟨"RuleMill$Letters", "forget", "()V"⟩, prog_3_method_2_code, 2, none, 1, 1, [435, 84, 433, 434], [(0, 2, 0, 0, 0, 1), (1, 0, 0, 0, 0, 2), (2, 26, 65, 9, 141, 5), (5, 0, 0, 0, 0, 6), (6, 4, 1, 0, 0, 7), (7, 1, 1, 0, 0, 8), (8, 2, 0, 0, 0, 9), (9, 25, 64, 24, 140, 12), (12, 34, 0, 0, 0, 13), (13, 20, 3, 29, 0, 16), (16, 2, 0, 0, 0, 17), (17, 25, 64, 24, 140, 20), (20, 1, 1, 0, 0, 21), (21, 0, 0, 0, (-1), 22), (22, 29, 0, 0, 0, 23), (23, 7, 1, 0, 1, 26), (26, 21, 0, 7, 0, 29), (29, 45, 0, 0, 0, 30)])
def jm_24 : jM := (⟨"RuleMill$Reader", "skipBlanks", "()V"⟩, prog_5_method_6_code, 1, none, 1, 3, [439, 82, 438, 2], [(0, 2, 0, 0, 0, 1), (1, 25, 198, 41, 158, 4), (4, 2, 0, 0, 0, 5), (5, 25, 194, 21, 154, 8), (8, 25, 449, 54, 120, 11), (11, 20, 3, 43, 0, 14), (14, 2, 0, 0, 0, 15), (15, 25, 194, 21, 154, 18), (18, 2, 0, 0, 0, 19), (19, 25, 198, 41, 158, 22), (22, 39, 25, 83, 440, 25), (25, 0, 0, 0, 32, 27), (27, 20, 1, 43, 0, 30), (30, 2, 0, 0, 0, 31), (31, 16, 0, 0, 0, 32), (32, 25, 198, 41, 158, 35), (35, 0, 0, 0, 1, 36), (36, 8, 0, 0, 0, 37), (37, 26, 198, 41, 158, 40), (40, 21, 0, 0, 0, 43), (43, 45, 0, 0, 0, 44)])
def jm_25 : jM := (⟨"RuleMill$Tape", "at", "(I)I"⟩, prog_9_method_4_code, 2, (some (.int)), 2, 7, [443, 83, 441, 442], [(0, 1, 1, 0, 0, 1), (1, 19, 2, 34, 0, 4), (4, 1, 1, 0, 0, 5), (5, 2, 0, 0, 0, 6), (6, 25, 449, 15, 119, 9), (9, 20, 3, 34, 0, 12), (12, 1, 1, 0, 0, 13), (13, 2, 0, 0, 0, 14), (14, 25, 448, 9, 118, 17), (17, 34, 0, 0, 0, 18), (18, 20, 3, 34, 0, 21), (21, 2, 0, 0, 0, 22), (22, 25, 448, 9, 118, 25), (25, 1, 1, 0, 0, 26), (26, 30, 0, 0, 0, 27), (27, 0, 0, 0, 255, 30), (30, 8, 3, 0, 0, 31), (31, 21, 0, 35, 0, 34), (34, 0, 0, 0, (-1), 35), (35, 46, 0, 0, 0, 36)])
def jm_26 : jM := (⟨"RuleMill$Reader", "readOrders", "(LRuleMill$Row;)Z"⟩, prog_5_method_7_code, 3, (some (.boolean)), 2, 3, [447, 82, 446, 3], [(0, 0, 0, 0, 0, 1), (1, 4, 2, 0, 0, 2), (2, 1, 2, 0, 0, 3), (3, 2, 1, 0, 0, 4), (4, 25, 256, 87, 208, 7), (7, 20, 4, 109, 0, 10), (10, 2, 0, 0, 0, 11), (11, 1, 2, 0, 0, 12), (12, 2, 1, 0, 0, 13), (13, 25, 256, 87, 208, 16), (16, 20, 1, 23, 0, 19), (19, 0, 0, 0, 1, 20), (20, 21, 0, 24, 0, 23), (23, 0, 0, 0, 0, 24), (24, 39, 27, 92, 448, 27), (27, 19, 0, 44, 0, 30), (30, 2, 0, 0, 0, 31), (31, 39, 33, 96, 511, 34), (34, 19, 0, 44, 0, 37), (37, 2, 0, 0, 0, 38), (38, 39, 39, 100, 536, 41), (41, 19, 1, 46, 0, 44), (44, 0, 0, 0, 0, 45), (45, 47, 0, 0, 0, 46), (46, 2, 1, 0, 0, 47), (47, 2, 0, 0, 0, 48), (48, 25, 197, 37, 157, 51), (51, 39, 47, 103, 564, 54), (54, 2, 0, 0, 0, 55), (55, 39, 24, 67, 436, 58), (58, 2, 0, 0, 0, 59), (59, 39, 48, 107, 571, 62), (62, 19, 0, 67, 0, 65), (65, 0, 0, 0, 1, 66), (66, 47, 0, 0, 0, 67), (67, 2, 0, 0, 0, 68), (68, 25, 194, 21, 154, 71), (71, 2, 0, 0, 0, 72), (72, 25, 198, 41, 158, 75), (75, 39, 25, 83, 440, 78), (78, 0, 0, 0, 59, 80), (80, 20, 0, 89, 0, 83), (83, 2, 0, 0, 0, 84), (84, 0, 0, 0, 1, 85), (85, 39, 32, 110, 507, 88), (88, 47, 0, 0, 0, 89), (89, 2, 0, 0, 0, 90), (90, 16, 0, 0, 0, 91), (91, 25, 198, 41, 158, 94), (94, 0, 0, 0, 1, 95), (95, 8, 0, 0, 0, 96), (96, 26, 198, 41, 158, 99), (99, 2, 0, 0, 0, 100), (100, 39, 24, 67, 436, 103), (103, 7, 2, 0, 1, 106), (106, 21, 0, 2, 0, 109), (109, 0, 0, 0, 0, 110), (110, 47, 0, 0, 0, 111)])
def jm_27 : jM := (⟨"RuleMill$Reader", "readName", "(Z)Z"⟩, prog_5_method_9_code, 5, (some (.boolean)), 2, 3, [451, 82, 450, 4], [(0, 2, 0, 0, 0, 1), (1, 39, 28, 114, 452, 4), (4, 4, 2, 0, 0, 5), (5, 2, 0, 0, 0, 6), (6, 1, 2, 0, 0, 7), (7, 39, 30, 118, 459, 10), (10, 4, 3, 0, 0, 11), (11, 1, 3, 0, 0, 12), (12, 19, 3, 21, 0, 15), (15, 2, 0, 0, 0, 16), (16, 0, 0, 0, 1, 17), (17, 39, 32, 110, 507, 20), (20, 47, 0, 0, 0, 21), (21, 1, 1, 0, 0, 22), (22, 19, 0, 31, 0, 25), (25, 2, 0, 0, 0, 26), (26, 0, 0, 0, 4, 27), (27, 39, 32, 110, 507, 30), (30, 47, 0, 0, 0, 31), (31, 2, 0, 0, 0, 32), (32, 16, 0, 0, 0, 33), (33, 25, 198, 41, 158, 36), (36, 1, 2, 0, 0, 37), (37, 8, 0, 0, 0, 38), (38, 26, 198, 41, 158, 41), (41, 0, 0, 0, 0, 42), (42, 4, 4, 0, 0, 44), (44, 1, 4, 0, 0, 46), (46, 0, 0, 0, 6, 48), (48, 20, 3, 65, 0, 51), (51, 2, 0, 0, 0, 52), (52, 25, 197, 37, 157, 55), (55, 1, 4, 0, 0, 57), (57, 0, 0, 0, 0, 58), (58, 29, 0, 0, 0, 59), (59, 7, 4, 0, 1, 62), (62, 21, 0, 44, 0, 65), (65, 2, 0, 0, 0, 66), (66, 25, 197, 37, 157, 69), (69, 0, 0, 0, 0, 70), (70, 1, 3, 0, 0, 71), (71, 29, 0, 0, 0, 72), (72, 0, 0, 0, 1, 73), (73, 47, 0, 0, 0, 74)])
def jm_28 : jM := (⟨"RuleMill$Reader", "wordLength", "()I"⟩, prog_5_method_17_code, 2, (some (.int)), 1, 3, [455, 82, 454, 5], [(0, 0, 0, 0, 0, 1), (1, 4, 1, 0, 0, 2), (2, 2, 0, 0, 0, 3), (3, 25, 198, 41, 158, 6), (6, 1, 1, 0, 0, 7), (7, 8, 0, 0, 0, 8), (8, 2, 0, 0, 0, 9), (9, 25, 194, 21, 154, 12), (12, 25, 449, 54, 120, 15), (15, 20, 3, 43, 0, 18), (18, 2, 0, 0, 0, 19), (19, 25, 194, 21, 154, 22), (22, 2, 0, 0, 0, 23), (23, 25, 198, 41, 158, 26), (26, 1, 1, 0, 0, 27), (27, 8, 0, 0, 0, 28), (28, 39, 25, 83, 440, 31), (31, 38, 29, 130, 456, 34), (34, 19, 0, 43, 0, 37), (37, 7, 1, 0, 1, 40), (40, 21, 0, 2, 0, 43), (43, 1, 1, 0, 0, 44), (44, 46, 0, 0, 0, 45)])
def jm_29 : jM := (⟨"RuleMill$Reader", "isLetter", "(I)Z"⟩, prog_5_method_19_code, 1, (some (.boolean)), 1, 3, [458, 82, 457], [(0, 1, 0, 0, 0, 1), (1, 0, 0, 0, 97, 3), (3, 20, 2, 12, 0, 6), (6, 1, 0, 0, 0, 7), (7, 0, 0, 0, 122, 9), (9, 20, 5, 24, 0, 12), (12, 1, 0, 0, 0, 13), (13, 0, 0, 0, 65, 15), (15, 20, 2, 28, 0, 18), (18, 1, 0, 0, 0, 19), (19, 0, 0, 0, 90, 21), (21, 20, 4, 28, 0, 24), (24, 0, 0, 0, 1, 25), (25, 21, 0, 29, 0, 28), (28, 0, 0, 0, 0, 29), (29, 47, 0, 0, 0, 30)])
def jm_30 : jM := (⟨"RuleMill$Reader", "kindNamed", "(I)I"⟩, prog_5_method_18_code, 5, (some (.int)), 2, 3, [462, 82, 461, 6], [(0, 0, 0, 0, 0, 1), (1, 4, 2, 0, 0, 2), (2, 1, 2, 0, 0, 3), (3, 0, 0, 0, 19, 5), (5, 20, 3, 87, 0, 8), (8, 1, 1, 0, 0, 9), (9, 1, 2, 0, 0, 10), (10, 41, 31, 160, 463, 13), (13, 20, 1, 20, 0, 16), (16, 0, 0, 0, 1, 17), (17, 21, 0, 21, 0, 20), (20, 0, 0, 0, 0, 21), (21, 4, 3, 0, 0, 22), (22, 0, 0, 0, 0, 23), (23, 4, 4, 0, 0, 25), (25, 1, 4, 0, 0, 27), (27, 1, 1, 0, 0, 28), (28, 20, 3, 75, 0, 31), (31, 1, 3, 0, 0, 32), (32, 19, 0, 75, 0, 35), (35, 53, 0, 163, 466, 37), (37, 1, 2, 0, 0, 38), (38, 0, 0, 0, 3, 39), (39, 8, 2, 0, 0, 40), (40, 1, 4, 0, 0, 42), (42, 8, 0, 0, 0, 43), (43, 54, 198, 165, 467, 46), (46, 2, 0, 0, 0, 47), (47, 25, 194, 21, 154, 50), (50, 2, 0, 0, 0, 51), (51, 25, 198, 41, 158, 54), (54, 1, 4, 0, 0, 56), (56, 8, 0, 0, 0, 57), (57, 39, 25, 83, 440, 60), (60, 20, 1, 67, 0, 63), (63, 0, 0, 0, 1, 64), (64, 21, 0, 68, 0, 67), (67, 0, 0, 0, 0, 68), (68, 4, 3, 0, 0, 69), (69, 7, 4, 0, 1, 72), (72, 21, 0, 25, 0, 75), (75, 1, 3, 0, 0, 76), (76, 19, 0, 81, 0, 79), (79, 1, 2, 0, 0, 80), (80, 46, 0, 0, 0, 81), (81, 7, 2, 0, 1, 84), (84, 21, 0, 2, 0, 87), (87, 0, 0, 0, (-1), 88), (88, 46, 0, 0, 0, 89)])
def jm_31 : jM := (⟨"RuleMill", "nameLength", "(I)I"⟩, prog_1_method_41_code, 1, (some (.int)), 1, 9, [465, 81, 464], [(0, 1, 0, 0, 0, 1), (1, 0, 0, 0, 5, 2), (2, 20, 1, 9, 0, 5), (5, 0, 0, 0, 2, 6), (6, 21, 0, 10, 0, 9), (9, 0, 0, 0, 3, 10), (10, 46, 0, 0, 0, 11)])
def jm_32 : jM := (⟨"RuleMill$Reader", "refuse", "(I)Z"⟩, prog_5_method_5_code, 2, (some (.boolean)), 2, 3, [510, 82, 509, 7], [(0, 2, 0, 0, 0, 1), (1, 1, 1, 0, 0, 2), (2, 26, 192, 9, 149, 5), (5, 2, 0, 0, 0, 6), (6, 2, 0, 0, 0, 7), (7, 25, 198, 41, 158, 10), (10, 26, 193, 15, 151, 13), (13, 0, 0, 0, 0, 14), (14, 47, 0, 0, 0, 15)])
def jm_33 : jM := (⟨"RuleMill$Reader", "readRegisters", "()Z"⟩, prog_5_method_10_code, 2, (some (.boolean)), 1, 3, [514, 82, 513, 8], [(0, 0, 0, 0, 1, 1), (1, 4, 1, 0, 0, 2), (2, 1, 1, 0, 0, 3), (3, 2, 0, 0, 0, 4), (4, 25, 197, 37, 157, 7), (7, 0, 0, 0, 0, 8), (8, 28, 0, 0, 0, 9), (9, 41, 34, 121, 515, 12), (12, 20, 4, 38, 0, 15), (15, 2, 0, 0, 0, 16), (16, 39, 35, 124, 520, 19), (19, 19, 0, 30, 0, 22), (22, 2, 0, 0, 0, 23), (23, 1, 1, 0, 0, 24), (24, 39, 36, 127, 524, 27), (27, 19, 1, 32, 0, 30), (30, 0, 0, 0, 0, 31), (31, 47, 0, 0, 0, 32), (32, 7, 1, 0, 1, 35), (35, 21, 0, 2, 0, 38), (38, 0, 0, 0, 1, 39), (39, 47, 0, 0, 0, 40)])
def jm_34 : jM := (⟨"RuleMill", "registersOf", "(I)I"⟩, prog_1_method_38_code, 1, (some (.int)), 1, 9, [517, 81, 516], [(0, 1, 0, 0, 0, 1), (1, 19, 2, 20, 0, 4), (4, 1, 0, 0, 0, 5), (5, 52, 1, 257, 518, 8), (8, 34, 0, 0, 0, 9), (9, 20, 3, 20, 0, 12), (12, 52, 1, 257, 518, 15), (15, 1, 0, 0, 0, 16), (16, 28, 0, 0, 0, 17), (17, 21, 0, 21, 0, 20), (20, 0, 0, 0, 0, 21), (21, 46, 0, 0, 0, 22)])
def jm_35 : jM := (⟨"RuleMill$Reader", "readGap", "()Z"⟩, prog_5_method_11_code, 1, (some (.boolean)), 1, 3, [523, 82, 522, 9], [(0, 2, 0, 0, 0, 1), (1, 25, 194, 21, 154, 4), (4, 2, 0, 0, 0, 5), (5, 25, 198, 41, 158, 8), (8, 39, 25, 83, 440, 11), (11, 0, 0, 0, 32, 13), (13, 20, 0, 22, 0, 16), (16, 2, 0, 0, 0, 17), (17, 0, 0, 0, 1, 18), (18, 39, 32, 110, 507, 21), (21, 47, 0, 0, 0, 22), (22, 2, 0, 0, 0, 23), (23, 39, 24, 67, 436, 26), (26, 0, 0, 0, 1, 27), (27, 47, 0, 0, 0, 28)])
def jm_36 : jM := (⟨"RuleMill$Reader", "readRegister", "(I)Z"⟩, prog_5_method_12_code, 4, (some (.boolean)), 2, 3, [527, 82, 526, 10], [(0, 2, 0, 0, 0, 1), (1, 25, 194, 21, 154, 4), (4, 2, 0, 0, 0, 5), (5, 25, 198, 41, 158, 8), (8, 39, 25, 83, 440, 11), (11, 2, 0, 0, 0, 12), (12, 25, 199, 44, 159, 15), (15, 19, 1, 23, 0, 18), (18, 0, 0, 0, 97, 20), (20, 21, 0, 25, 0, 23), (23, 0, 0, 0, 112, 25), (25, 8, 1, 0, 0, 26), (26, 4, 2, 0, 0, 27), (27, 1, 2, 0, 0, 28), (28, 19, 2, 55, 0, 31), (31, 1, 2, 0, 0, 32), (32, 0, 0, 0, 4, 33), (33, 20, 3, 55, 0, 36), (36, 2, 0, 0, 0, 37), (37, 25, 194, 21, 154, 40), (40, 2, 0, 0, 0, 41), (41, 25, 198, 41, 158, 44), (44, 0, 0, 0, 1, 45), (45, 8, 0, 0, 0, 46), (46, 39, 25, 83, 440, 49), (49, 38, 29, 130, 456, 52), (52, 19, 0, 61, 0, 55), (55, 2, 0, 0, 0, 56), (56, 0, 0, 0, 1, 57), (57, 39, 32, 110, 507, 60), (60, 47, 0, 0, 0, 61), (61, 2, 0, 0, 0, 62), (62, 25, 199, 44, 159, 65), (65, 19, 1, 72, 0, 68), (68, 1, 2, 0, 0, 69), (69, 21, 0, 93, 0, 72), (72, 2, 0, 0, 0, 73), (73, 25, 195, 30, 155, 76), (76, 1, 2, 0, 0, 77), (77, 2, 0, 0, 0, 78), (78, 25, 199, 44, 159, 81), (81, 0, 0, 0, 1, 82), (82, 20, 1, 89, 0, 85), (85, 0, 0, 0, 1, 86), (86, 21, 0, 90, 0, 89), (89, 0, 0, 0, 0, 90), (90, 39, 37, 133, 528, 93), (93, 4, 3, 0, 0, 94), (94, 1, 3, 0, 0, 95), (95, 19, 3, 106, 0, 98), (98, 2, 0, 0, 0, 99), (99, 0, 0, 0, 3, 100), (100, 39, 32, 110, 507, 103), (103, 21, 0, 112, 0, 106), (106, 2, 0, 0, 0, 107), (107, 1, 1, 0, 0, 108), (108, 1, 3, 0, 0, 109), (109, 39, 38, 137, 532, 112), (112, 47, 0, 0, 0, 113)])
def jm_37 : jM := (⟨"RuleMill$Letters", "look", "(IZ)I"⟩, prog_3_method_3_code, 3, (some (.int)), 3, 1, [531, 84, 529, 530], [(0, 1, 1, 0, 0, 1), (1, 19, 2, 13, 0, 4), (4, 1, 1, 0, 0, 5), (5, 2, 0, 0, 0, 6), (6, 25, 64, 24, 140, 9), (9, 34, 0, 0, 0, 10), (10, 20, 2, 15, 0, 13), (13, 0, 0, 0, (-1), 14), (14, 46, 0, 0, 0, 15), (15, 2, 0, 0, 0, 16), (16, 25, 64, 24, 140, 19), (19, 1, 1, 0, 0, 20), (20, 28, 0, 0, 0, 21), (21, 19, 3, 48, 0, 24), (24, 1, 2, 0, 0, 25), (25, 19, 0, 48, 0, 28), (28, 2, 0, 0, 0, 29), (29, 25, 64, 24, 140, 32), (32, 1, 1, 0, 0, 33), (33, 2, 0, 0, 0, 34), (34, 25, 65, 9, 141, 37), (37, 29, 0, 0, 0, 38), (38, 2, 0, 0, 0, 39), (39, 16, 0, 0, 0, 40), (40, 25, 65, 9, 141, 43), (43, 0, 0, 0, 1, 44), (44, 8, 0, 0, 0, 45), (45, 26, 65, 9, 141, 48), (48, 2, 0, 0, 0, 49), (49, 25, 64, 24, 140, 52), (52, 1, 1, 0, 0, 53), (53, 28, 0, 0, 0, 54), (54, 46, 0, 0, 0, 55)])
def jm_38 : jM := (⟨"RuleMill$Reader", "take", "(II)Z"⟩, prog_5_method_16_code, 3, (some (.boolean)), 3, 3, [535, 82, 534, 11], [(0, 1, 1, 0, 0, 1), (1, 19, 2, 20, 0, 4), (4, 1, 1, 0, 0, 5), (5, 2, 0, 0, 0, 6), (6, 25, 197, 37, 157, 9), (9, 34, 0, 0, 0, 10), (10, 20, 3, 20, 0, 13), (13, 2, 0, 0, 0, 14), (14, 25, 197, 37, 157, 17), (17, 1, 1, 0, 0, 18), (18, 1, 2, 0, 0, 19), (19, 29, 0, 0, 0, 20), (20, 2, 0, 0, 0, 21), (21, 16, 0, 0, 0, 22), (22, 25, 198, 41, 158, 25), (25, 0, 0, 0, 1, 26), (26, 8, 0, 0, 0, 27), (27, 26, 198, 41, 158, 30), (30, 0, 0, 0, 1, 31), (31, 47, 0, 0, 0, 32)])
def jm_39 : jM := (⟨"RuleMill$Reader", "readNumber", "()Z"⟩, prog_5_method_13_code, 2, (some (.boolean)), 1, 3, [539, 82, 538, 12], [(0, 2, 0, 0, 0, 1), (1, 25, 197, 37, 157, 4), (4, 0, 0, 0, 0, 5), (5, 28, 0, 0, 0, 6), (6, 41, 40, 141, 540, 9), (9, 19, 1, 14, 0, 12), (12, 0, 0, 0, 1, 13), (13, 47, 0, 0, 0, 14), (14, 2, 0, 0, 0, 15), (15, 39, 35, 124, 520, 18), (18, 19, 0, 29, 0, 21), (21, 2, 0, 0, 0, 22), (22, 0, 0, 0, 2, 23), (23, 39, 42, 144, 546, 26), (26, 19, 1, 31, 0, 29), (29, 0, 0, 0, 0, 30), (30, 47, 0, 0, 0, 31), (31, 2, 0, 0, 0, 32), (32, 25, 194, 21, 154, 35), (35, 2, 0, 0, 0, 36), (36, 25, 198, 41, 158, 39), (39, 39, 25, 83, 440, 42), (42, 4, 1, 0, 0, 43), (43, 2, 0, 0, 0, 44), (44, 25, 199, 44, 159, 47), (47, 0, 0, 0, 2, 48), (48, 20, 1, 81, 0, 51), (51, 1, 1, 0, 0, 52), (52, 38, 45, 147, 557, 55), (55, 19, 0, 81, 0, 58), (58, 2, 0, 0, 0, 59), (59, 0, 0, 0, 4, 60), (60, 1, 1, 0, 0, 61), (61, 39, 38, 137, 532, 64), (64, 19, 0, 79, 0, 67), (67, 2, 0, 0, 0, 68), (68, 0, 0, 0, 5, 69), (69, 39, 42, 144, 546, 72), (72, 19, 0, 79, 0, 75), (75, 0, 0, 0, 1, 76), (76, 21, 0, 80, 0, 79), (79, 0, 0, 0, 0, 80), (80, 47, 0, 0, 0, 81), (81, 2, 0, 0, 0, 82), (82, 25, 197, 37, 157, 85), (85, 0, 0, 0, 2, 86), (86, 28, 0, 0, 0, 87), (87, 0, 0, 0, 16, 89), (89, 20, 3, 117, 0, 92), (92, 2, 0, 0, 0, 93), (93, 25, 197, 37, 157, 96), (96, 0, 0, 0, 2, 97), (97, 2, 0, 0, 0, 98), (98, 25, 197, 37, 157, 101), (101, 0, 0, 0, 0, 102), (102, 28, 0, 0, 0, 103), (103, 2, 0, 0, 0, 104), (104, 25, 197, 37, 157, 107), (107, 0, 0, 0, 2, 108), (108, 28, 0, 0, 0, 109), (109, 2, 0, 0, 0, 110), (110, 25, 200, 47, 160, 113), (113, 41, 46, 150, 560, 116), (116, 29, 0, 0, 0, 117), (117, 0, 0, 0, 1, 118), (118, 47, 0, 0, 0, 119)])
def jm_40 : jM := (⟨"RuleMill", "hasNumber", "(I)Z"⟩, prog_1_method_39_code, 1, (some (.boolean)), 1, 9, [542, 81, 541], [(0, 1, 0, 0, 0, 1), (1, 19, 0, 23, 0, 4), (4, 1, 0, 0, 0, 5), (5, 0, 0, 0, 12, 7), (7, 20, 0, 23, 0, 10), (10, 1, 0, 0, 0, 11), (11, 0, 0, 0, 13, 13), (13, 20, 0, 23, 0, 16), (16, 1, 0, 0, 0, 17), (17, 38, 41, 260, 543, 20), (20, 19, 0, 27, 0, 23), (23, 0, 0, 0, 1, 24), (24, 21, 0, 28, 0, 27), (27, 0, 0, 0, 0, 28), (28, 47, 0, 0, 0, 29)])
def jm_41 : jM := (⟨"RuleMill", "usesCell", "(I)Z"⟩, prog_1_method_40_code, 1, (some (.boolean)), 1, 9, [545, 81, 544], [(0, 1, 0, 0, 0, 1), (1, 0, 0, 0, 15, 3), (3, 20, 0, 12, 0, 6), (6, 1, 0, 0, 0, 7), (7, 0, 0, 0, 16, 9), (9, 20, 1, 16, 0, 12), (12, 0, 0, 0, 1, 13), (13, 21, 0, 17, 0, 16), (16, 0, 0, 0, 0, 17), (17, 47, 0, 0, 0, 18)])
def jm_42 : jM := (⟨"RuleMill$Reader", "readTerm", "(I)Z"⟩, prog_5_method_14_code, 4, (some (.boolean)), 2, 3, [549, 82, 548, 13], [(0, 2, 0, 0, 0, 1), (1, 25, 194, 21, 154, 4), (4, 2, 0, 0, 0, 5), (5, 25, 198, 41, 158, 8), (8, 39, 25, 83, 440, 11), (11, 38, 43, 154, 550, 14), (14, 19, 1, 23, 0, 17), (17, 2, 0, 0, 0, 18), (18, 1, 1, 0, 0, 19), (19, 39, 44, 157, 553, 22), (22, 47, 0, 0, 0, 23), (23, 2, 0, 0, 0, 24), (24, 25, 194, 21, 154, 27), (27, 2, 0, 0, 0, 28), (28, 25, 198, 41, 158, 31), (31, 39, 25, 83, 440, 34), (34, 0, 0, 0, 48, 36), (36, 8, 1, 0, 0, 37), (37, 4, 2, 0, 0, 38), (38, 2, 0, 0, 0, 39), (39, 25, 194, 21, 154, 42), (42, 2, 0, 0, 0, 43), (43, 25, 198, 41, 158, 46), (46, 0, 0, 0, 1, 47), (47, 8, 0, 0, 0, 48), (48, 39, 25, 83, 440, 51), (51, 38, 43, 154, 550, 54), (54, 4, 3, 0, 0, 55), (55, 1, 3, 0, 0, 56), (56, 19, 0, 81, 0, 59), (59, 1, 2, 0, 0, 60), (60, 0, 0, 0, 10, 62), (62, 8, 2, 0, 0, 63), (63, 2, 0, 0, 0, 64), (64, 25, 194, 21, 154, 67), (67, 2, 0, 0, 0, 68), (68, 25, 198, 41, 158, 71), (71, 0, 0, 0, 1, 72), (72, 8, 0, 0, 0, 73), (73, 39, 25, 83, 440, 76), (76, 8, 0, 0, 0, 77), (77, 0, 0, 0, 48, 79), (79, 8, 1, 0, 0, 80), (80, 4, 2, 0, 0, 81), (81, 1, 2, 0, 0, 82), (82, 0, 0, 0, 15, 84), (84, 20, 4, 110, 0, 87), (87, 1, 3, 0, 0, 88), (88, 19, 0, 116, 0, 91), (91, 2, 0, 0, 0, 92), (92, 25, 194, 21, 154, 95), (95, 2, 0, 0, 0, 96), (96, 25, 198, 41, 158, 99), (99, 0, 0, 0, 2, 100), (100, 8, 0, 0, 0, 101), (101, 39, 25, 83, 440, 104), (104, 38, 43, 154, 550, 107), (107, 19, 0, 116, 0, 110), (110, 2, 0, 0, 0, 111), (111, 0, 0, 0, 2, 112), (112, 39, 32, 110, 507, 115), (115, 47, 0, 0, 0, 116), (116, 2, 0, 0, 0, 117), (117, 16, 0, 0, 0, 118), (118, 25, 198, 41, 158, 121), (121, 1, 3, 0, 0, 122), (122, 19, 0, 129, 0, 125), (125, 0, 0, 0, 1, 126), (126, 21, 0, 130, 0, 129), (129, 0, 0, 0, 0, 130), (130, 8, 0, 0, 0, 131), (131, 26, 198, 41, 158, 134), (134, 2, 0, 0, 0, 135), (135, 1, 1, 0, 0, 136), (136, 1, 2, 0, 0, 137), (137, 39, 38, 137, 532, 140), (140, 47, 0, 0, 0, 141)])
def jm_43 : jM := (⟨"RuleMill$Reader", "isFigure", "(I)Z"⟩, prog_5_method_20_code, 1, (some (.boolean)), 1, 3, [552, 82, 551], [(0, 1, 0, 0, 0, 1), (1, 0, 0, 0, 48, 3), (3, 20, 2, 16, 0, 6), (6, 1, 0, 0, 0, 7), (7, 0, 0, 0, 57, 9), (9, 20, 4, 16, 0, 12), (12, 0, 0, 0, 1, 13), (13, 21, 0, 17, 0, 16), (16, 0, 0, 0, 0, 17), (17, 47, 0, 0, 0, 18)])
def jm_44 : jM := (⟨"RuleMill$Reader", "readMark", "(I)Z"⟩, prog_5_method_15_code, 4, (some (.boolean)), 2, 3, [556, 82, 555, 14], [(0, 2, 0, 0, 0, 1), (1, 25, 194, 21, 154, 4), (4, 2, 0, 0, 0, 5), (5, 25, 198, 41, 158, 8), (8, 39, 25, 83, 440, 11), (11, 0, 0, 0, 105, 13), (13, 8, 1, 0, 0, 14), (14, 4, 2, 0, 0, 15), (15, 2, 0, 0, 0, 16), (16, 25, 199, 44, 159, 19), (19, 19, 0, 50, 0, 22), (22, 1, 2, 0, 0, 23), (23, 19, 2, 50, 0, 26), (26, 1, 2, 0, 0, 27), (27, 0, 0, 0, 3, 28), (28, 20, 3, 50, 0, 31), (31, 2, 0, 0, 0, 32), (32, 25, 194, 21, 154, 35), (35, 2, 0, 0, 0, 36), (36, 25, 198, 41, 158, 39), (39, 0, 0, 0, 1, 40), (40, 8, 0, 0, 0, 41), (41, 39, 25, 83, 440, 44), (44, 38, 29, 130, 456, 47), (47, 19, 0, 56, 0, 50), (50, 2, 0, 0, 0, 51), (51, 0, 0, 0, 1, 52), (52, 39, 32, 110, 507, 55), (55, 47, 0, 0, 0, 56), (56, 2, 0, 0, 0, 57), (57, 25, 196, 34, 156, 60), (60, 1, 2, 0, 0, 61), (61, 2, 0, 0, 0, 62), (62, 25, 199, 44, 159, 65), (65, 0, 0, 0, 1, 66), (66, 20, 1, 73, 0, 69), (69, 0, 0, 0, 1, 70), (70, 21, 0, 74, 0, 73), (73, 0, 0, 0, 0, 74), (74, 39, 37, 133, 528, 77), (77, 4, 3, 0, 0, 78), (78, 1, 3, 0, 0, 79), (79, 19, 3, 90, 0, 82), (82, 2, 0, 0, 0, 83), (83, 0, 0, 0, 3, 84), (84, 39, 32, 110, 507, 87), (87, 21, 0, 99, 0, 90), (90, 2, 0, 0, 0, 91), (91, 1, 1, 0, 0, 92), (92, 0, 0, 0, 16, 94), (94, 1, 3, 0, 0, 95), (95, 8, 0, 0, 0, 96), (96, 39, 38, 137, 532, 99), (99, 47, 0, 0, 0, 100)])
def jm_45 : jM := (⟨"RuleMill$Reader", "isSign", "(I)Z"⟩, prog_5_method_21_code, 1, (some (.boolean)), 1, 3, [559, 82, 558], [(0, 1, 0, 0, 0, 1), (1, 0, 0, 0, 43, 3), (3, 20, 0, 30, 0, 6), (6, 1, 0, 0, 0, 7), (7, 0, 0, 0, 45, 9), (9, 20, 0, 30, 0, 12), (12, 1, 0, 0, 0, 13), (13, 0, 0, 0, 38, 15), (15, 20, 0, 30, 0, 18), (18, 1, 0, 0, 0, 19), (19, 0, 0, 0, 124, 21), (21, 20, 0, 30, 0, 24), (24, 1, 0, 0, 0, 25), (25, 0, 0, 0, 94, 27), (27, 20, 1, 34, 0, 30), (30, 0, 0, 0, 1, 31), (31, 21, 0, 35, 0, 34), (34, 0, 0, 0, 0, 35), (35, 47, 0, 0, 0, 36)])
def jm_46 : jM := (⟨"RuleMill", "kept", "(III)I"⟩, prog_1_method_43_code, 3, (some (.int)), 3, 9, [562, 81, 561], [(0, 1, 0, 0, 0, 1), (1, 0, 0, 0, 12, 3), (3, 20, 0, 12, 0, 6), (6, 1, 0, 0, 0, 7), (7, 0, 0, 0, 13, 9), (9, 20, 1, 21, 0, 12), (12, 1, 1, 0, 0, 13), (13, 0, 0, 0, 15, 15), (15, 8, 3, 0, 0, 16), (16, 1, 2, 0, 0, 17), (17, 38, 5, 263, 563, 20), (20, 46, 0, 0, 0, 21), (21, 1, 1, 0, 0, 22), (22, 1, 0, 0, 0, 23), (23, 19, 1, 34, 0, 26), (26, 0, 0, 0, 1, 27), (27, 1, 2, 0, 0, 28), (28, 8, 6, 0, 0, 29), (29, 0, 0, 0, 1, 30), (30, 8, 1, 0, 0, 31), (31, 21, 0, 35, 0, 34), (34, 0, 0, 0, 3, 35), (35, 8, 3, 0, 0, 36), (36, 46, 0, 0, 0, 37)])
def jm_47 : jM := (⟨"RuleMill$Row", "add", "([I)V"⟩, prog_6_method_6_code, 2, none, 2, 4, [567, 88, 565, 566], [(0, 2, 1, 0, 0, 1), (1, 34, 0, 0, 0, 2), (2, 0, 0, 0, 6, 4), (4, 20, 2, 46, 0, 7), (7, 2, 0, 0, 0, 8), (8, 25, 257, 9, 209, 11), (11, 2, 0, 0, 0, 12), (12, 25, 256, 24, 206, 15), (15, 20, 3, 46, 0, 18), (18, 2, 1, 0, 0, 19), (19, 0, 0, 0, 0, 20), (20, 2, 0, 0, 0, 21), (21, 25, 258, 27, 214, 24), (24, 2, 0, 0, 0, 25), (25, 25, 257, 9, 209, 28), (28, 0, 0, 0, 6, 30), (30, 8, 2, 0, 0, 31), (31, 0, 0, 0, 6, 33), (33, 56, 0, 35, 568, 36), (36, 2, 0, 0, 0, 37), (37, 16, 0, 0, 0, 38), (38, 25, 257, 9, 209, 41), (41, 0, 0, 0, 1, 42), (42, 8, 0, 0, 0, 43), (43, 26, 257, 9, 209, 46), (46, 45, 0, 0, 0, 47)])
def jm_48 : jM := (⟨"RuleMill$Reader", "readClose", "()Z"⟩, prog_5_method_8_code, 2, (some (.boolean)), 1, 3, [574, 82, 573, 15], [(0, 2, 0, 0, 0, 1), (1, 25, 199, 44, 159, 4), (4, 0, 0, 0, 1, 5), (5, 20, 0, 28, 0, 8), (8, 2, 0, 0, 0, 9), (9, 25, 198, 41, 158, 12), (12, 2, 0, 0, 0, 13), (13, 25, 194, 21, 154, 16), (16, 25, 449, 54, 120, 19), (19, 20, 2, 26, 0, 22), (22, 0, 0, 0, 1, 23), (23, 21, 0, 27, 0, 26), (26, 0, 0, 0, 0, 27), (27, 47, 0, 0, 0, 28), (28, 2, 0, 0, 0, 29), (29, 25, 194, 21, 154, 32), (32, 2, 0, 0, 0, 33), (33, 25, 198, 41, 158, 36), (36, 39, 25, 83, 440, 39), (39, 0, 0, 0, 61, 41), (41, 20, 1, 66, 0, 44), (44, 2, 0, 0, 0, 45), (45, 25, 194, 21, 154, 48), (48, 2, 0, 0, 0, 49), (49, 25, 198, 41, 158, 52), (52, 0, 0, 0, 1, 53), (53, 8, 0, 0, 0, 54), (54, 39, 25, 83, 440, 57), (57, 0, 0, 0, 62, 59), (59, 20, 1, 66, 0, 62), (62, 0, 0, 0, 1, 63), (63, 21, 0, 67, 0, 66), (66, 0, 0, 0, 0, 67), (67, 4, 1, 0, 0, 68), (68, 1, 1, 0, 0, 69), (69, 19, 0, 82, 0, 72), (72, 2, 0, 0, 0, 73), (73, 16, 0, 0, 0, 74), (74, 25, 198, 41, 158, 77), (77, 0, 0, 0, 2, 78), (78, 8, 0, 0, 0, 79), (79, 26, 198, 41, 158, 82), (82, 1, 1, 0, 0, 83), (83, 47, 0, 0, 0, 84)])
def jm_49 : jM := (⟨"RuleMill$Rule", "measure", "(I)J"⟩, prog_7_method_4_code, 7, (some (.long)), 2, 5, [578, 92, 576, 577], [(0, 0, 0, 0, 1, 1), (1, 1, 1, 0, 0, 2), (2, 8, 6, 0, 0, 3), (3, 0, 0, 0, 1, 4), (4, 8, 1, 0, 0, 5), (5, 4, 2, 0, 0, 6), (6, 2, 0, 0, 0, 7), (7, 2, 0, 0, 0, 8), (8, 25, 320, 14, 352, 11), (11, 39, 50, 66, 579, 14), (14, 19, 1, 27, 0, 17), (17, 2, 0, 0, 0, 18), (18, 25, 321, 20, 357, 21), (21, 39, 50, 66, 579, 24), (24, 19, 0, 31, 0, 27), (27, 0, 0, 0, 1, 28), (28, 21, 0, 32, 0, 31), (31, 0, 0, 0, 0, 32), (32, 26, 330, 52, 386, 35), (35, 2, 0, 0, 0, 36), (36, 25, 324, 34, 367, 39), (39, 2, 0, 0, 0, 40), (40, 25, 330, 52, 386, 43), (43, 19, 0, 50, 0, 46), (46, 0, 0, 0, 4, 47), (47, 21, 0, 51, 0, 50), (50, 0, 0, 0, 0, 51), (51, 8, 0, 0, 0, 52), (52, 4, 3, 0, 0, 53), (53, 2, 0, 0, 0, 54), (54, 1, 3, 0, 0, 55), (55, 2, 0, 0, 0, 56), (56, 25, 325, 37, 371, 59), (59, 8, 0, 0, 0, 60), (60, 0, 0, 0, 11, 62), (62, 38, 5, 69, 592, 65), (65, 26, 326, 40, 375, 68), (68, 12, 0, 0, 1, 69), (69, 6, 4, 0, 0, 71), (71, 0, 0, 0, 0, 72), (72, 4, 6, 0, 0, 74), (74, 1, 6, 0, 0, 76), (76, 2, 0, 0, 0, 77), (77, 25, 326, 40, 375, 80), (80, 20, 3, 130, 0, 83), (83, 2, 0, 0, 0, 84), (84, 25, 322, 23, 362, 87), (87, 1, 6, 0, 0, 89), (89, 1, 6, 0, 0, 91), (91, 1, 3, 0, 0, 92), (92, 20, 3, 99, 0, 95), (95, 1, 2, 0, 0, 96), (96, 21, 0, 108, 0, 99), (99, 2, 0, 0, 0, 100), (100, 1, 6, 0, 0, 102), (102, 1, 3, 0, 0, 103), (103, 8, 1, 0, 0, 104), (104, 1, 1, 0, 0, 105), (105, 39, 53, 75, 593, 108), (108, 29, 0, 0, 0, 109), (109, 3, 4, 0, 0, 111), (111, 2, 0, 0, 0, 112), (112, 25, 322, 23, 362, 115), (115, 1, 6, 0, 0, 117), (117, 28, 0, 0, 0, 118), (118, 0, 0, 0, 1, 119), (119, 8, 0, 0, 0, 120), (120, 10, 0, 0, 0, 121), (121, 13, 0, 0, 0, 122), (122, 6, 4, 0, 0, 124), (124, 7, 6, 0, 1, 127), (127, 21, 0, 74, 0, 130), (130, 2, 0, 0, 0, 131), (131, 3, 4, 0, 0, 133), (133, 12, 602, 78, 70001, 136), (136, 38, 55, 80, 603, 139), (139, 11, 0, 0, 0, 140), (140, 26, 327, 43, 379, 143), (143, 3, 4, 0, 0, 145), (145, 49, 0, 0, 0, 146)])
def jm_50 : jM := (⟨"RuleMill$Row", "hasCells", "()Z"⟩, prog_6_method_12_code, 3, (some (.boolean)), 1, 4, [582, 88, 580, 581], [(0, 0, 0, 0, 0, 1), (1, 4, 1, 0, 0, 2), (2, 0, 0, 0, 0, 3), (3, 4, 2, 0, 0, 4), (4, 1, 2, 0, 0, 5), (5, 2, 0, 0, 0, 6), (6, 25, 257, 9, 209, 9), (9, 20, 3, 40, 0, 12), (12, 1, 1, 0, 0, 13), (13, 19, 1, 28, 0, 16), (16, 2, 0, 0, 0, 17), (17, 1, 2, 0, 0, 18), (18, 0, 0, 0, 0, 19), (19, 39, 51, 49, 583, 22), (22, 41, 41, 81, 591, 25), (25, 19, 0, 32, 0, 28), (28, 0, 0, 0, 1, 29), (29, 21, 0, 33, 0, 32), (32, 0, 0, 0, 0, 33), (33, 4, 1, 0, 0, 34), (34, 7, 2, 0, 1, 37), (37, 21, 0, 4, 0, 40), (40, 1, 1, 0, 0, 41), (41, 47, 0, 0, 0, 42)])
def jm_51 : jM := (⟨"RuleMill$Row", "at", "(II)I"⟩, prog_6_method_3_code, 3, (some (.int)), 3, 4, [586, 88, 584, 585], [(0, 2, 0, 0, 0, 1), (1, 1, 1, 0, 0, 2), (2, 39, 52, 31, 587, 5), (5, 19, 0, 32, 0, 8), (8, 1, 2, 0, 0, 9), (9, 19, 2, 32, 0, 12), (12, 1, 2, 0, 0, 13), (13, 0, 0, 0, 6, 15), (15, 20, 3, 32, 0, 18), (18, 2, 0, 0, 0, 19), (19, 25, 258, 27, 214, 22), (22, 1, 1, 0, 0, 23), (23, 0, 0, 0, 6, 25), (25, 8, 2, 0, 0, 26), (26, 1, 2, 0, 0, 27), (27, 8, 0, 0, 0, 28), (28, 28, 0, 0, 0, 29), (29, 21, 0, 33, 0, 32), (32, 0, 0, 0, 0, 33), (33, 46, 0, 0, 0, 34)])
def jm_52 : jM := (⟨"RuleMill$Row", "has", "(I)Z"⟩, prog_6_method_2_code, 2, (some (.boolean)), 2, 4, [590, 88, 588, 589], [(0, 1, 1, 0, 0, 1), (1, 19, 2, 24, 0, 4), (4, 1, 1, 0, 0, 5), (5, 2, 0, 0, 0, 6), (6, 25, 257, 9, 209, 9), (9, 20, 3, 24, 0, 12), (12, 1, 1, 0, 0, 13), (13, 2, 0, 0, 0, 14), (14, 25, 256, 24, 206, 17), (17, 20, 3, 24, 0, 20), (20, 0, 0, 0, 1, 21), (21, 21, 0, 25, 0, 24), (24, 0, 0, 0, 0, 25), (25, 47, 0, 0, 0, 26)])
def jm_53 : jM := (⟨"RuleMill$Rule", "markTop", "(II)I"⟩, prog_7_method_5_code, 6, (some (.int)), 3, 5, [596, 92, 595, 16], [(0, 0, 0, 0, 4, 1), (1, 0, 0, 0, 1, 2), (2, 1, 2, 0, 0, 3), (3, 8, 6, 0, 0, 4), (4, 8, 0, 0, 0, 5), (5, 4, 3, 0, 0, 6), (6, 0, 0, 0, 0, 7), (7, 4, 4, 0, 0, 9), (9, 1, 4, 0, 0, 11), (11, 2, 0, 0, 0, 12), (12, 25, 320, 14, 352, 15), (15, 25, 257, 30, 210, 18), (18, 20, 3, 75, 0, 21), (21, 2, 0, 0, 0, 22), (22, 25, 320, 14, 352, 25), (25, 1, 4, 0, 0, 27), (27, 0, 0, 0, 0, 28), (28, 39, 51, 83, 597, 31), (31, 4, 5, 0, 0, 33), (33, 1, 5, 0, 0, 35), (35, 41, 40, 86, 598, 38), (38, 19, 0, 69, 0, 41), (41, 2, 0, 0, 0, 42), (42, 25, 320, 14, 352, 45), (45, 1, 4, 0, 0, 47), (47, 0, 0, 0, 2, 48), (48, 39, 51, 83, 597, 51), (51, 0, 0, 0, 16, 53), (53, 1, 1, 0, 0, 54), (54, 8, 0, 0, 0, 55), (55, 20, 1, 69, 0, 58), (58, 1, 3, 0, 0, 59), (59, 1, 5, 0, 0, 61), (61, 1, 2, 0, 0, 62), (62, 41, 54, 90, 599, 65), (65, 38, 5, 69, 592, 68), (68, 4, 3, 0, 0, 69), (69, 7, 4, 0, 1, 72), (72, 21, 0, 9, 0, 75), (75, 1, 3, 0, 0, 76), (76, 46, 0, 0, 0, 77)])
def jm_54 : jM := (⟨"RuleMill", "bound", "(II)I"⟩, prog_1_method_42_code, 2, (some (.int)), 2, 9, [601, 81, 600], [(0, 1, 0, 0, 0, 1), (1, 19, 1, 10, 0, 4), (4, 0, 0, 0, 1, 5), (5, 1, 1, 0, 0, 6), (6, 8, 6, 0, 0, 7), (7, 0, 0, 0, 1, 8), (8, 8, 1, 0, 0, 9), (9, 46, 0, 0, 0, 10), (10, 1, 0, 0, 0, 11), (11, 38, 41, 260, 543, 14), (14, 19, 0, 21, 0, 17), (17, 0, 0, 0, 3, 18), (18, 21, 0, 22, 0, 21), (21, 1, 1, 0, 0, 22), (22, 46, 0, 0, 0, 23)])
def jm_55 : jM := (⟨"java/lang/Math", "min", "(JJ)J"⟩, prog_13_method_70_code, 4, (some (.long)), 2, 99, [605, 85, 604], [(0, 3, 0, 0, 0, 1), (1, 3, 2, 0, 0, 2), (2, 14, 0, 0, 0, 3), (3, 19, 4, 10, 0, 6), (6, 3, 0, 0, 0, 7), (7, 21, 0, 11, 0, 10), (10, 3, 2, 0, 0, 11), (11, 49, 0, 0, 0, 12)])
def jm_56 : jM := (⟨"RuleMill$Trial", "tryOut", "(LRuleMill$Rule;I)V"⟩, prog_10_method_2_code, 6, none, 3, 8, [610, 87, 608, 609], [(0, 2, 0, 0, 0, 1), (1, 2, 1, 0, 0, 2), (2, 1, 2, 0, 0, 3), (3, 39, 57, 43, 611, 6), (6, 2, 1, 0, 0, 7), (7, 0, 0, 0, 0, 8), (8, 26, 328, 47, 381, 11), (11, 0, 0, 0, 0, 12), (12, 4, 3, 0, 0, 13), (13, 0, 0, 0, 0, 14), (14, 4, 4, 0, 0, 16), (16, 1, 4, 0, 0, 18), (18, 2, 1, 0, 0, 19), (19, 25, 327, 51, 378, 22), (22, 20, 3, 122, 0, 25), (25, 2, 0, 0, 0, 26), (26, 2, 1, 0, 0, 27), (27, 1, 2, 0, 0, 28), (28, 39, 68, 54, 657, 31), (31, 4, 5, 0, 0, 33), (33, 2, 1, 0, 0, 34), (34, 25, 325, 58, 372, 37), (37, 19, 5, 46, 0, 40), (40, 2, 0, 0, 0, 41), (41, 2, 1, 0, 0, 42), (42, 1, 2, 0, 0, 43), (43, 39, 59, 61, 619, 46), (46, 2, 0, 0, 0, 47), (47, 25, 512, 12, 236, 50), (50, 2, 0, 0, 0, 51), (51, 25, 513, 23, 237, 54), (54, 1, 5, 0, 0, 56), (56, 1, 2, 0, 0, 57), (57, 39, 69, 64, 661, 60), (60, 2, 0, 0, 0, 61), (61, 25, 512, 12, 236, 64), (64, 2, 0, 0, 0, 65), (65, 25, 514, 27, 238, 68), (68, 1, 5, 0, 0, 70), (70, 1, 2, 0, 0, 71), (71, 39, 69, 64, 661, 74), (74, 20, 1, 90, 0, 77), (77, 2, 1, 0, 0, 78), (78, 16, 0, 0, 0, 79), (79, 25, 328, 47, 381, 82), (82, 0, 0, 0, 1, 83), (83, 8, 0, 0, 0, 84), (84, 26, 328, 47, 381, 87), (87, 21, 0, 111, 0, 90), (90, 1, 3, 0, 0, 91), (91, 19, 1, 111, 0, 94), (94, 0, 0, 0, 1, 95), (95, 4, 3, 0, 0, 96), (96, 2, 0, 0, 0, 97), (97, 25, 516, 39, 240, 100), (100, 0, 0, 0, 0, 101), (101, 2, 1, 0, 0, 102), (102, 25, 323, 68, 365, 105), (105, 0, 0, 0, 0, 106), (106, 0, 0, 0, 11, 108), (108, 56, 0, 71, 673, 111), (111, 2, 0, 0, 0, 112), (112, 2, 1, 0, 0, 113), (113, 39, 72, 77, 674, 116), (116, 7, 4, 0, 1, 119), (119, 21, 0, 16, 0, 122), (122, 2, 1, 0, 0, 123), (123, 1, 3, 0, 0, 124), (124, 19, 1, 138, 0, 127), (127, 2, 1, 0, 0, 128), (128, 39, 73, 81, 679, 131), (131, 19, 5, 138, 0, 134), (134, 0, 0, 0, 1, 135), (135, 21, 0, 139, 0, 138), (138, 0, 0, 0, 0, 139), (139, 26, 331, 85, 389, 142), (142, 45, 0, 0, 0, 143)])
def jm_57 : jM := (⟨"RuleMill$Trial", "begin", "(LRuleMill$Rule;I)V"⟩, prog_10_method_3_code, 4, none, 3, 8, [614, 87, 613, 17], [(0, 0, 0, 0, 0, 1), (1, 4, 3, 0, 0, 2), (2, 1, 3, 0, 0, 3), (3, 2, 0, 0, 0, 4), (4, 25, 516, 39, 240, 7), (7, 34, 0, 0, 0, 8), (8, 20, 3, 24, 0, 11), (11, 2, 0, 0, 0, 12), (12, 25, 516, 39, 240, 15), (15, 1, 3, 0, 0, 16), (16, 0, 0, 0, 0, 17), (17, 29, 0, 0, 0, 18), (18, 7, 3, 0, 1, 21), (21, 21, 0, 2, 0, 24), (24, 2, 0, 0, 0, 25), (25, 25, 515, 33, 239, 28), (28, 39, 58, 89, 615, 31), (31, 2, 0, 0, 0, 32), (32, 2, 1, 0, 0, 33), (33, 1, 2, 0, 0, 34), (34, 39, 59, 61, 619, 37), (37, 45, 0, 0, 0, 38)])
def jm_58 : jM := (⟨"RuleMill$Binding", "standForThemselves", "()V"⟩, prog_2_method_6_code, 2, none, 1, 0, [618, 89, 616, 617], [(0, 0, 0, 0, 0, 1), (1, 4, 1, 0, 0, 2), (2, 1, 1, 0, 0, 3), (3, 2, 0, 0, 0, 4), (4, 25, 0, 9, 229, 7), (7, 34, 0, 0, 0, 8), (8, 20, 3, 24, 0, 11), (11, 2, 0, 0, 0, 12), (12, 25, 0, 9, 229, 15), (15, 1, 1, 0, 0, 16), (16, 1, 1, 0, 0, 17), (17, 29, 0, 0, 0, 18), (18, 7, 1, 0, 1, 21), (21, 21, 0, 2, 0, 24), (24, 45, 0, 0, 0, 25)])
def jm_59 : jM := (⟨"RuleMill$Trial", "writeMarks", "(LRuleMill$Rule;I)V"⟩, prog_10_method_5_code, 5, none, 3, 8, [622, 87, 621, 18], [(0, 2, 1, 0, 0, 1), (1, 25, 326, 98, 376, 4), (4, 2, 1, 0, 0, 5), (5, 25, 325, 58, 372, 8), (8, 8, 1, 0, 0, 9), (9, 4, 3, 0, 0, 10), (10, 0, 0, 0, 0, 11), (11, 4, 4, 0, 0, 13), (13, 1, 4, 0, 0, 15), (15, 2, 1, 0, 0, 16), (16, 25, 325, 58, 372, 19), (19, 20, 3, 62, 0, 22), (22, 1, 3, 0, 0, 23), (23, 19, 2, 62, 0, 26), (26, 1, 3, 0, 0, 27), (27, 1, 4, 0, 0, 29), (29, 8, 0, 0, 0, 30), (30, 2, 0, 0, 0, 31), (31, 25, 516, 39, 240, 34), (34, 34, 0, 0, 0, 35), (35, 20, 3, 62, 0, 38), (38, 2, 0, 0, 0, 39), (39, 25, 515, 33, 239, 42), (42, 1, 4, 0, 0, 44), (44, 2, 0, 0, 0, 45), (45, 25, 516, 39, 240, 48), (48, 1, 3, 0, 0, 49), (49, 1, 4, 0, 0, 51), (51, 8, 0, 0, 0, 52), (52, 28, 0, 0, 0, 53), (53, 39, 60, 100, 623, 56), (56, 7, 4, 0, 1, 59), (59, 21, 0, 13, 0, 62), (62, 2, 0, 0, 0, 63), (63, 25, 513, 23, 237, 66), (66, 2, 1, 0, 0, 67), (67, 25, 320, 104, 354, 70), (70, 2, 0, 0, 0, 71), (71, 25, 515, 33, 239, 74), (74, 1, 2, 0, 0, 75), (75, 39, 61, 105, 627, 78), (78, 2, 0, 0, 0, 79), (79, 25, 514, 27, 238, 82), (82, 2, 1, 0, 0, 83), (83, 25, 321, 109, 359, 86), (86, 2, 0, 0, 0, 87), (87, 25, 515, 33, 239, 90), (90, 1, 2, 0, 0, 91), (91, 39, 61, 105, 627, 94), (94, 45, 0, 0, 0, 95)])
def jm_60 : jM := (⟨"RuleMill$Binding", "setNumber", "(II)V"⟩, prog_2_method_5_code, 3, none, 3, 0, [626, 89, 624, 625], [(0, 1, 1, 0, 0, 1), (1, 19, 2, 20, 0, 4), (4, 1, 1, 0, 0, 5), (5, 2, 0, 0, 0, 6), (6, 25, 1, 15, 230, 9), (9, 34, 0, 0, 0, 10), (10, 20, 3, 20, 0, 13), (13, 2, 0, 0, 0, 14), (14, 25, 1, 15, 230, 17), (17, 1, 1, 0, 0, 18), (18, 1, 2, 0, 0, 19), (19, 29, 0, 0, 0, 20), (20, 45, 0, 0, 0, 21)])
def jm_61 : jM := (⟨"RuleMill$Row", "writeOut", "(LRuleMill$Row;LRuleMill$Binding;I)V"⟩, prog_6_method_9_code, 8, none, 4, 4, [630, 88, 628, 629], [(0, 2, 0, 0, 0, 1), (1, 0, 0, 0, 0, 2), (2, 26, 257, 9, 209, 5), (5, 0, 0, 0, 0, 6), (6, 4, 4, 0, 0, 8), (8, 1, 4, 0, 0, 10), (10, 2, 1, 0, 0, 11), (11, 25, 257, 9, 209, 14), (14, 20, 3, 148, 0, 17), (17, 2, 0, 0, 0, 18), (18, 39, 62, 45, 631, 21), (21, 19, 0, 148, 0, 24), (24, 2, 1, 0, 0, 25), (25, 1, 4, 0, 0, 27), (27, 0, 0, 0, 0, 28), (28, 39, 51, 49, 583, 31), (31, 4, 5, 0, 0, 33), (33, 2, 0, 0, 0, 34), (34, 1, 4, 0, 0, 36), (36, 0, 0, 0, 0, 37), (37, 1, 5, 0, 0, 39), (39, 39, 63, 52, 635, 42), (42, 0, 0, 0, 1, 43), (43, 4, 6, 0, 0, 45), (45, 1, 6, 0, 0, 47), (47, 1, 5, 0, 0, 49), (49, 41, 34, 56, 639, 52), (52, 20, 4, 81, 0, 55), (55, 2, 0, 0, 0, 56), (56, 1, 4, 0, 0, 58), (58, 1, 6, 0, 0, 60), (60, 2, 2, 0, 0, 61), (61, 2, 1, 0, 0, 62), (62, 1, 4, 0, 0, 64), (64, 1, 6, 0, 0, 66), (66, 39, 51, 49, 583, 69), (69, 39, 64, 60, 640, 72), (72, 39, 63, 52, 635, 75), (75, 7, 6, 0, 1, 78), (78, 21, 0, 45, 0, 81), (81, 1, 5, 0, 0, 83), (83, 41, 40, 65, 644, 86), (86, 19, 0, 142, 0, 89), (89, 2, 2, 0, 0, 90), (90, 2, 1, 0, 0, 91), (91, 1, 4, 0, 0, 93), (93, 0, 0, 0, 2, 94), (94, 39, 51, 49, 583, 97), (97, 39, 65, 68, 645, 100), (100, 4, 6, 0, 0, 102), (102, 2, 2, 0, 0, 103), (103, 2, 1, 0, 0, 104), (104, 1, 4, 0, 0, 106), (106, 0, 0, 0, 5, 107), (107, 39, 51, 49, 583, 110), (110, 39, 65, 68, 645, 113), (113, 4, 7, 0, 0, 115), (115, 2, 0, 0, 0, 116), (116, 1, 4, 0, 0, 118), (118, 0, 0, 0, 2, 119), (119, 1, 5, 0, 0, 121), (121, 1, 6, 0, 0, 123), (123, 2, 1, 0, 0, 124), (124, 1, 4, 0, 0, 126), (126, 0, 0, 0, 4, 127), (127, 39, 51, 49, 583, 130), (130, 1, 7, 0, 0, 132), (132, 41, 67, 71, 653, 135), (135, 1, 3, 0, 0, 136), (136, 41, 46, 75, 656, 139), (139, 39, 63, 52, 635, 142), (142, 7, 4, 0, 1, 145), (145, 21, 0, 8, 0, 148), (148, 45, 0, 0, 0, 149)])
def jm_62 : jM := (⟨"RuleMill$Row", "grow", "()Z"⟩, prog_6_method_4_code, 2, (some (.boolean)), 1, 4, [634, 88, 633, 19], [(0, 2, 0, 0, 0, 1), (1, 25, 257, 9, 209, 4), (4, 2, 0, 0, 0, 5), (5, 25, 256, 24, 206, 8), (8, 20, 2, 13, 0, 11), (11, 0, 0, 0, 0, 12), (12, 47, 0, 0, 0, 13), (13, 0, 0, 0, 0, 14), (14, 4, 1, 0, 0, 15), (15, 1, 1, 0, 0, 16), (16, 0, 0, 0, 6, 18), (18, 20, 3, 42, 0, 21), (21, 2, 0, 0, 0, 22), (22, 25, 258, 27, 214, 25), (25, 2, 0, 0, 0, 26), (26, 25, 257, 9, 209, 29), (29, 0, 0, 0, 6, 31), (31, 8, 2, 0, 0, 32), (32, 1, 1, 0, 0, 33), (33, 8, 0, 0, 0, 34), (34, 0, 0, 0, 0, 35), (35, 29, 0, 0, 0, 36), (36, 7, 1, 0, 1, 39), (39, 21, 0, 15, 0, 42), (42, 2, 0, 0, 0, 43), (43, 16, 0, 0, 0, 44), (44, 25, 257, 9, 209, 47), (47, 0, 0, 0, 1, 48), (48, 8, 0, 0, 0, 49), (49, 26, 257, 9, 209, 52), (52, 0, 0, 0, 1, 53), (53, 47, 0, 0, 0, 54)])
def jm_63 : jM := (⟨"RuleMill$Row", "put", "(III)V"⟩, prog_6_method_5_code, 4, none, 4, 4, [638, 88, 637, 20], [(0, 2, 0, 0, 0, 1), (1, 1, 1, 0, 0, 2), (2, 39, 52, 31, 587, 5), (5, 19, 0, 30, 0, 8), (8, 1, 2, 0, 0, 9), (9, 19, 2, 30, 0, 12), (12, 1, 2, 0, 0, 13), (13, 0, 0, 0, 6, 15), (15, 20, 3, 30, 0, 18), (18, 2, 0, 0, 0, 19), (19, 25, 258, 27, 214, 22), (22, 1, 1, 0, 0, 23), (23, 0, 0, 0, 6, 25), (25, 8, 2, 0, 0, 26), (26, 1, 2, 0, 0, 27), (27, 8, 0, 0, 0, 28), (28, 1, 3, 0, 0, 29), (29, 29, 0, 0, 0, 30), (30, 45, 0, 0, 0, 31)])
def jm_64 : jM := (⟨"RuleMill$Binding", "register", "(I)I"⟩, prog_2_method_2_code, 2, (some (.int)), 2, 0, [643, 89, 641, 642], [(0, 1, 1, 0, 0, 1), (1, 19, 2, 22, 0, 4), (4, 1, 1, 0, 0, 5), (5, 2, 0, 0, 0, 6), (6, 25, 0, 9, 229, 9), (9, 34, 0, 0, 0, 10), (10, 20, 3, 22, 0, 13), (13, 2, 0, 0, 0, 14), (14, 25, 0, 9, 229, 17), (17, 1, 1, 0, 0, 18), (18, 28, 0, 0, 0, 19), (19, 21, 0, 23, 0, 22), (22, 0, 0, 0, (-1), 23), (23, 46, 0, 0, 0, 24)])
def jm_65 : jM := (⟨"RuleMill$Binding", "valueOf", "(I)I"⟩, prog_2_method_4_code, 2, (some (.int)), 2, 0, [648, 89, 646, 647], [(0, 1, 1, 0, 0, 1), (1, 0, 0, 0, 16, 3), (3, 20, 3, 10, 0, 6), (6, 1, 1, 0, 0, 7), (7, 21, 0, 18, 0, 10), (10, 2, 0, 0, 0, 11), (11, 1, 1, 0, 0, 12), (12, 0, 0, 0, 16, 14), (14, 8, 1, 0, 0, 15), (15, 39, 66, 18, 649, 18), (18, 46, 0, 0, 0, 19)])
def jm_66 : jM := (⟨"RuleMill$Binding", "number", "(I)I"⟩, prog_2_method_3_code, 2, (some (.int)), 2, 0, [652, 89, 650, 651], [(0, 1, 1, 0, 0, 1), (1, 19, 2, 22, 0, 4), (4, 1, 1, 0, 0, 5), (5, 2, 0, 0, 0, 6), (6, 25, 1, 15, 230, 9), (9, 34, 0, 0, 0, 10), (10, 20, 3, 22, 0, 13), (13, 2, 0, 0, 0, 14), (14, 25, 1, 15, 230, 17), (17, 1, 1, 0, 0, 18), (18, 28, 0, 0, 0, 19), (19, 21, 0, 23, 0, 22), (22, 0, 0, 0, (-1), 23), (23, 46, 0, 0, 0, 24)])
def jm_67 : jM := (⟨"RuleMill", "sum", "(III)I"⟩, prog_1_method_44_code, 3, (some (.int)), 3, 9, [655, 81, 654], [(0, 1, 1, 0, 0, 1), (1, 51, 0, 0, 0, 52), (52, 1, 0, 0, 0, 53), (53, 1, 2, 0, 0, 54), (54, 8, 0, 0, 0, 55), (55, 46, 0, 0, 0, 56), (56, 1, 0, 0, 0, 57), (57, 1, 2, 0, 0, 58), (58, 8, 1, 0, 0, 59), (59, 46, 0, 0, 0, 60), (60, 1, 0, 0, 0, 61), (61, 1, 2, 0, 0, 62), (62, 8, 3, 0, 0, 63), (63, 46, 0, 0, 0, 64), (64, 1, 0, 0, 0, 65), (65, 1, 2, 0, 0, 66), (66, 8, 4, 0, 0, 67), (67, 46, 0, 0, 0, 68), (68, 1, 0, 0, 0, 69), (69, 1, 2, 0, 0, 70), (70, 8, 5, 0, 0, 71), (71, 46, 0, 0, 0, 72), (72, 1, 0, 0, 0, 73), (73, 46, 0, 0, 0, 74)])
def jm_68 : jM := (⟨"RuleMill$Trial", "wordsAsBits", "(LRuleMill$Rule;I)I"⟩, prog_10_method_4_code, 5, (some (.int)), 3, 8, [660, 87, 659, 21], [(0, 0, 0, 0, 0, 1), (1, 4, 3, 0, 0, 2), (2, 0, 0, 0, 0, 3), (3, 4, 4, 0, 0, 5), (5, 1, 4, 0, 0, 7), (7, 2, 1, 0, 0, 8), (8, 25, 324, 92, 369, 11), (11, 20, 3, 41, 0, 14), (14, 1, 4, 0, 0, 16), (16, 0, 0, 0, 4, 17), (17, 20, 3, 41, 0, 20), (20, 1, 3, 0, 0, 21), (21, 2, 0, 0, 0, 22), (22, 25, 516, 39, 240, 25), (25, 1, 4, 0, 0, 27), (27, 28, 0, 0, 0, 28), (28, 1, 4, 0, 0, 30), (30, 1, 2, 0, 0, 31), (31, 8, 2, 0, 0, 32), (32, 8, 6, 0, 0, 33), (33, 8, 4, 0, 0, 34), (34, 4, 3, 0, 0, 35), (35, 7, 4, 0, 1, 38), (38, 21, 0, 5, 0, 41), (41, 0, 0, 0, 0, 42), (42, 4, 4, 0, 0, 44), (44, 2, 1, 0, 0, 45), (45, 25, 330, 95, 387, 48), (48, 19, 0, 100, 0, 51), (51, 1, 4, 0, 0, 53), (53, 0, 0, 0, 4, 54), (54, 20, 3, 100, 0, 57), (57, 2, 1, 0, 0, 58), (58, 25, 324, 92, 369, 61), (61, 1, 4, 0, 0, 63), (63, 8, 0, 0, 0, 64), (64, 2, 0, 0, 0, 65), (65, 25, 516, 39, 240, 68), (68, 34, 0, 0, 0, 69), (69, 20, 3, 100, 0, 72), (72, 1, 3, 0, 0, 73), (73, 2, 0, 0, 0, 74), (74, 25, 516, 39, 240, 77), (77, 2, 1, 0, 0, 78), (78, 25, 324, 92, 369, 81), (81, 1, 4, 0, 0, 83), (83, 8, 0, 0, 0, 84), (84, 28, 0, 0, 0, 85), (85, 0, 0, 0, 4, 86), (86, 1, 4, 0, 0, 88), (88, 8, 0, 0, 0, 89), (89, 1, 2, 0, 0, 90), (90, 8, 2, 0, 0, 91), (91, 8, 6, 0, 0, 92), (92, 8, 4, 0, 0, 93), (93, 4, 3, 0, 0, 94), (94, 7, 4, 0, 1, 97), (97, 21, 0, 44, 0, 100), (100, 1, 3, 0, 0, 101), (101, 46, 0, 0, 0, 102)])
def jm_69 : jM := (⟨"RuleMill$Machine", "outcome", "(LRuleMill$Row;II)I"⟩, prog_4_method_2_code, 8, (some (.int)), 4, 2, [664, 86, 662, 663], [(0, 0, 0, 0, 1, 1), (1, 1, 3, 0, 0, 2), (2, 8, 6, 0, 0, 3), (3, 0, 0, 0, 1, 4), (4, 8, 1, 0, 0, 5), (5, 4, 4, 0, 0, 7), (7, 0, 0, 0, 0, 8), (8, 4, 5, 0, 0, 10), (10, 1, 5, 0, 0, 12), (12, 2, 0, 0, 0, 13), (13, 25, 128, 9, 186, 16), (16, 34, 0, 0, 0, 17), (17, 20, 3, 42, 0, 20), (20, 2, 0, 0, 0, 21), (21, 25, 128, 9, 186, 24), (24, 1, 5, 0, 0, 26), (26, 1, 2, 0, 0, 27), (27, 1, 5, 0, 0, 29), (29, 1, 3, 0, 0, 30), (30, 8, 2, 0, 0, 31), (31, 8, 7, 0, 0, 32), (32, 1, 4, 0, 0, 34), (34, 8, 3, 0, 0, 35), (35, 29, 0, 0, 0, 36), (36, 7, 5, 0, 1, 39), (39, 21, 0, 10, 0, 42), (42, 2, 1, 0, 0, 43), (43, 25, 257, 15, 211, 46), (46, 2, 1, 0, 0, 47), (47, 25, 256, 21, 207, 50), (50, 38, 5, 24, 665, 53), (53, 0, 0, 0, 6, 55), (55, 8, 2, 0, 0, 56), (56, 4, 5, 0, 0, 58), (58, 0, 0, 0, 0, 59), (59, 4, 6, 0, 0, 61), (61, 1, 6, 0, 0, 63), (63, 1, 5, 0, 0, 65), (65, 20, 3, 86, 0, 68), (68, 2, 0, 0, 0, 69), (69, 2, 1, 0, 0, 70), (70, 25, 258, 30, 215, 73), (73, 1, 6, 0, 0, 75), (75, 1, 4, 0, 0, 77), (77, 39, 70, 33, 666, 80), (80, 7, 6, 0, 6, 83), (83, 21, 0, 61, 0, 86), (86, 0, 0, 0, 0, 87), (87, 4, 6, 0, 0, 89), (89, 0, 0, 0, 0, 90), (90, 4, 7, 0, 0, 92), (92, 1, 7, 0, 0, 94), (94, 2, 0, 0, 0, 95), (95, 25, 128, 9, 186, 98), (98, 34, 0, 0, 0, 99), (99, 20, 3, 125, 0, 102), (102, 1, 6, 0, 0, 104), (104, 2, 0, 0, 0, 105), (105, 25, 128, 9, 186, 108), (108, 1, 7, 0, 0, 110), (110, 28, 0, 0, 0, 111), (111, 1, 7, 0, 0, 113), (113, 1, 3, 0, 0, 114), (114, 8, 2, 0, 0, 115), (115, 8, 6, 0, 0, 116), (116, 8, 4, 0, 0, 117), (117, 4, 6, 0, 0, 119), (119, 7, 7, 0, 1, 122), (122, 21, 0, 92, 0, 125), (125, 1, 6, 0, 0, 127), (127, 46, 0, 0, 0, 128)])
def jm_70 : jM := (⟨"RuleMill$Machine", "obey", "([III)V"⟩, prog_4_method_3_code, 8, none, 4, 2, [669, 86, 668, 22], [(0, 1, 2, 0, 0, 1), (1, 19, 2, 13, 0, 4), (4, 1, 2, 0, 0, 5), (5, 0, 0, 0, 6, 7), (7, 8, 0, 0, 0, 8), (8, 2, 1, 0, 0, 9), (9, 34, 0, 0, 0, 10), (10, 20, 5, 14, 0, 13), (13, 45, 0, 0, 0, 14), (14, 2, 1, 0, 0, 15), (15, 1, 2, 0, 0, 16), (16, 0, 0, 0, 0, 17), (17, 8, 0, 0, 0, 18), (18, 28, 0, 0, 0, 19), (19, 4, 4, 0, 0, 21), (21, 2, 1, 0, 0, 22), (22, 1, 2, 0, 0, 23), (23, 0, 0, 0, 1, 24), (24, 8, 0, 0, 0, 25), (25, 28, 0, 0, 0, 26), (26, 0, 0, 0, 3, 27), (27, 8, 3, 0, 0, 28), (28, 4, 5, 0, 0, 30), (30, 2, 1, 0, 0, 31), (31, 1, 2, 0, 0, 32), (32, 0, 0, 0, 2, 33), (33, 8, 0, 0, 0, 34), (34, 28, 0, 0, 0, 35), (35, 0, 0, 0, 3, 36), (36, 8, 3, 0, 0, 37), (37, 4, 6, 0, 0, 39), (39, 1, 4, 0, 0, 41), (41, 50, 1, 0, 0, 76), (76, 21, 0, 222, 0, 79), (79, 2, 0, 0, 0, 80), (80, 25, 128, 9, 186, 83), (83, 0, 0, 0, 4, 84), (84, 1, 6, 0, 0, 86), (86, 8, 0, 0, 0, 87), (87, 2, 0, 0, 0, 88), (88, 25, 128, 9, 186, 91), (91, 1, 5, 0, 0, 93), (93, 28, 0, 0, 0, 94), (94, 29, 0, 0, 0, 95), (95, 21, 0, 222, 0, 98), (98, 2, 0, 0, 0, 99), (99, 25, 128, 9, 186, 102), (102, 1, 5, 0, 0, 104), (104, 2, 0, 0, 0, 105), (105, 25, 128, 9, 186, 108), (108, 0, 0, 0, 4, 109), (109, 1, 6, 0, 0, 111), (111, 8, 0, 0, 0, 112), (112, 28, 0, 0, 0, 113), (113, 29, 0, 0, 0, 114), (114, 21, 0, 222, 0, 117), (117, 2, 0, 0, 0, 118), (118, 25, 128, 9, 186, 121), (121, 1, 5, 0, 0, 123), (123, 2, 0, 0, 0, 124), (124, 25, 128, 9, 186, 127), (127, 2, 0, 0, 0, 128), (128, 25, 128, 9, 186, 131), (131, 1, 5, 0, 0, 133), (133, 28, 0, 0, 0, 134), (134, 19, 0, 142, 0, 137), (137, 1, 6, 0, 0, 139), (139, 21, 0, 149, 0, 142), (142, 2, 1, 0, 0, 143), (143, 1, 2, 0, 0, 144), (144, 0, 0, 0, 3, 145), (145, 8, 0, 0, 0, 146), (146, 28, 0, 0, 0, 147), (147, 0, 0, 0, 3, 148), (148, 8, 3, 0, 0, 149), (149, 28, 0, 0, 0, 150), (150, 29, 0, 0, 0, 151), (151, 21, 0, 222, 0, 154), (154, 2, 0, 0, 0, 155), (155, 25, 128, 9, 186, 158), (158, 1, 5, 0, 0, 160), (160, 28, 0, 0, 0, 161), (161, 4, 7, 0, 0, 163), (163, 2, 0, 0, 0, 164), (164, 25, 128, 9, 186, 167), (167, 1, 5, 0, 0, 169), (169, 2, 0, 0, 0, 170), (170, 25, 128, 9, 186, 173), (173, 1, 6, 0, 0, 175), (175, 28, 0, 0, 0, 176), (176, 29, 0, 0, 0, 177), (177, 2, 0, 0, 0, 178), (178, 25, 128, 9, 186, 181), (181, 1, 6, 0, 0, 183), (183, 1, 7, 0, 0, 185), (185, 29, 0, 0, 0, 186), (186, 21, 0, 222, 0, 189), (189, 2, 0, 0, 0, 190), (190, 25, 128, 9, 186, 193), (193, 1, 5, 0, 0, 195), (195, 1, 4, 0, 0, 197), (197, 2, 0, 0, 0, 198), (198, 25, 128, 9, 186, 201), (201, 1, 5, 0, 0, 203), (203, 28, 0, 0, 0, 204), (204, 2, 0, 0, 0, 205), (205, 25, 128, 9, 186, 208), (208, 1, 6, 0, 0, 210), (210, 28, 0, 0, 0, 211), (211, 2, 1, 0, 0, 212), (212, 1, 2, 0, 0, 213), (213, 0, 0, 0, 2, 214), (214, 8, 0, 0, 0, 215), (215, 28, 0, 0, 0, 216), (216, 38, 71, 37, 670, 219), (219, 1, 3, 0, 0, 220), (220, 8, 3, 0, 0, 221), (221, 29, 0, 0, 0, 222), (222, 45, 0, 0, 0, 223)])
def jm_71 : jM := (⟨"RuleMill$Machine", "worked", "(IIII)I"⟩, prog_4_method_4_code, 4, (some (.int)), 4, 2, [672, 86, 671], [(0, 1, 0, 0, 0, 1), (1, 50, 2, 0, 0, 72), (72, 1, 3, 0, 0, 73), (73, 46, 0, 0, 0, 74), (74, 1, 2, 0, 0, 75), (75, 46, 0, 0, 0, 76), (76, 1, 1, 0, 0, 77), (77, 1, 2, 0, 0, 78), (78, 8, 0, 0, 0, 79), (79, 46, 0, 0, 0, 80), (80, 1, 1, 0, 0, 81), (81, 1, 2, 0, 0, 82), (82, 8, 1, 0, 0, 83), (83, 46, 0, 0, 0, 84), (84, 1, 1, 0, 0, 85), (85, 1, 2, 0, 0, 86), (86, 8, 3, 0, 0, 87), (87, 46, 0, 0, 0, 88), (88, 1, 1, 0, 0, 89), (89, 1, 2, 0, 0, 90), (90, 8, 4, 0, 0, 91), (91, 46, 0, 0, 0, 92), (92, 1, 1, 0, 0, 93), (93, 1, 2, 0, 0, 94), (94, 8, 5, 0, 0, 95), (95, 46, 0, 0, 0, 96), (96, 1, 1, 0, 0, 97), (97, 1, 2, 0, 0, 98), (98, 8, 2, 0, 0, 99), (99, 46, 0, 0, 0, 100), (100, 1, 1, 0, 0, 101), (101, 0, 0, 0, 1, 102), (102, 8, 0, 0, 0, 103), (103, 46, 0, 0, 0, 104), (104, 1, 1, 0, 0, 105), (105, 0, 0, 0, 1, 106), (106, 8, 1, 0, 0, 107), (107, 46, 0, 0, 0, 108), (108, 1, 1, 0, 0, 109), (109, 0, 0, 0, (-1), 110), (110, 8, 5, 0, 0, 111), (111, 46, 0, 0, 0, 112), (112, 1, 1, 0, 0, 113), (113, 9, 0, 0, 0, 114), (114, 46, 0, 0, 0, 115), (115, 1, 1, 0, 0, 116), (116, 1, 3, 0, 0, 117), (117, 8, 6, 0, 0, 118), (118, 46, 0, 0, 0, 119), (119, 1, 1, 0, 0, 120), (120, 1, 3, 0, 0, 121), (121, 8, 7, 0, 0, 122), (122, 46, 0, 0, 0, 123), (123, 1, 1, 0, 0, 124), (124, 46, 0, 0, 0, 125)])
def jm_72 : jM := (⟨"RuleMill$Trial", "goOn", "(LRuleMill$Rule;)V"⟩, prog_10_method_6_code, 3, none, 2, 8, [677, 87, 676, 23], [(0, 2, 1, 0, 0, 1), (1, 25, 326, 98, 376, 4), (4, 2, 0, 0, 0, 5), (5, 25, 516, 39, 240, 8), (8, 34, 0, 0, 0, 9), (9, 38, 5, 110, 678, 12), (12, 0, 0, 0, 1, 13), (13, 8, 1, 0, 0, 14), (14, 4, 2, 0, 0, 15), (15, 1, 2, 0, 0, 16), (16, 19, 2, 58, 0, 19), (19, 2, 0, 0, 0, 20), (20, 25, 516, 39, 240, 23), (23, 1, 2, 0, 0, 24), (24, 28, 0, 0, 0, 25), (25, 2, 1, 0, 0, 26), (26, 25, 322, 116, 363, 29), (29, 1, 2, 0, 0, 30), (30, 28, 0, 0, 0, 31), (31, 20, 3, 45, 0, 34), (34, 2, 0, 0, 0, 35), (35, 25, 516, 39, 240, 38), (38, 1, 2, 0, 0, 39), (39, 17, 0, 0, 0, 40), (40, 28, 0, 0, 0, 41), (41, 0, 0, 0, 1, 42), (42, 8, 0, 0, 0, 43), (43, 29, 0, 0, 0, 44), (44, 45, 0, 0, 0, 45), (45, 2, 0, 0, 0, 46), (46, 25, 516, 39, 240, 49), (49, 1, 2, 0, 0, 50), (50, 0, 0, 0, 0, 51), (51, 29, 0, 0, 0, 52), (52, 7, 2, 0, (-1), 55), (55, 21, 0, 15, 0, 58), (58, 45, 0, 0, 0, 59)])
def jm_73 : jM := (⟨"RuleMill$Rule", "gain", "()I"⟩, prog_7_method_3_code, 1, (some (.int)), 1, 5, [682, 92, 680, 681], [(0, 2, 0, 0, 0, 1), (1, 25, 320, 14, 352, 4), (4, 39, 74, 62, 683, 7), (7, 2, 0, 0, 0, 8), (8, 25, 321, 20, 357, 11), (11, 39, 74, 62, 683, 14), (14, 8, 1, 0, 0, 15), (15, 46, 0, 0, 0, 16)])
def jm_74 : jM := (⟨"RuleMill$Row", "price", "()I"⟩, prog_6_method_11_code, 3, (some (.int)), 1, 4, [686, 88, 684, 685], [(0, 0, 0, 0, 0, 1), (1, 4, 1, 0, 0, 2), (2, 0, 0, 0, 0, 3), (3, 4, 2, 0, 0, 4), (4, 1, 2, 0, 0, 5), (5, 2, 0, 0, 0, 6), (6, 25, 257, 9, 209, 9), (9, 20, 3, 30, 0, 12), (12, 1, 1, 0, 0, 13), (13, 2, 0, 0, 0, 14), (14, 1, 2, 0, 0, 15), (15, 0, 0, 0, 0, 16), (16, 39, 51, 49, 583, 19), (19, 41, 75, 78, 687, 22), (22, 8, 0, 0, 0, 23), (23, 4, 1, 0, 0, 24), (24, 7, 2, 0, 1, 27), (27, 21, 0, 4, 0, 30), (30, 1, 1, 0, 0, 31), (31, 46, 0, 0, 0, 32)])
def jm_75 : jM := (⟨"RuleMill", "priceOf", "(I)I"⟩, prog_1_method_37_code, 1, (some (.int)), 1, 9, [689, 81, 688], [(0, 1, 0, 0, 0, 1), (1, 19, 2, 20, 0, 4), (4, 1, 0, 0, 0, 5), (5, 52, 2, 254, 690, 8), (8, 34, 0, 0, 0, 9), (9, 20, 3, 20, 0, 12), (12, 52, 2, 254, 690, 15), (15, 1, 0, 0, 0, 16), (16, 28, 0, 0, 0, 17), (17, 21, 0, 21, 0, 20), (20, 0, 0, 0, 0, 21), (21, 46, 0, 0, 0, 22)])
def jm_76 : jM := (⟨"RuleMill", "program", "()I"⟩, prog_1_method_6_code, 2, (some (.int)), 1, 9, [695, 81, 693, 694], [(0, 2, 0, 0, 0, 1), (1, 25, 586, 72, 284, 4), (4, 0, 0, 0, 16, 6), (6, 20, 2, 12, 0, 9), (9, 0, 0, 0, (-3), 11), (11, 46, 0, 0, 0, 12), (12, 2, 0, 0, 0, 13), (13, 39, 77, 119, 696, 16), (16, 5, 1, 0, 0, 17), (17, 2, 0, 0, 0, 18), (18, 25, 576, 10, 274, 21), (21, 2, 1, 0, 0, 22), (22, 2, 0, 0, 0, 23), (23, 25, 587, 75, 285, 26), (26, 39, 78, 123, 700, 29), (29, 2, 0, 0, 0, 30), (30, 25, 577, 20, 275, 33), (33, 0, 0, 0, 0, 34), (34, 26, 449, 93, 121, 37), (37, 2, 0, 0, 0, 38), (38, 2, 0, 0, 0, 39), (39, 25, 576, 10, 274, 42), (42, 25, 192, 104, 150, 45), (45, 26, 588, 78, 286, 48), (48, 2, 0, 0, 0, 49), (49, 25, 588, 78, 286, 52), (52, 19, 0, 66, 0, 55), (55, 0, 0, 0, (-10), 57), (57, 2, 0, 0, 0, 58), (58, 25, 576, 10, 274, 61), (61, 25, 193, 113, 152, 64), (64, 8, 1, 0, 0, 65), (65, 46, 0, 0, 0, 66), (66, 2, 0, 0, 0, 67), (67, 16, 0, 0, 0, 68), (68, 25, 586, 72, 284, 71), (71, 0, 0, 0, 1, 72), (72, 8, 0, 0, 0, 73), (73, 26, 586, 72, 284, 76), (76, 2, 0, 0, 0, 77), (77, 25, 586, 72, 284, 80), (80, 0, 0, 0, 1, 81), (81, 8, 1, 0, 0, 82), (82, 46, 0, 0, 0, 83)])
def jm_77 : jM := (⟨"RuleMill", "freshProgram", "()LRuleMill$Row;"⟩, prog_1_method_30_code, 2, (some (.object "RuleMill$Row")), 1, 9, [699, 81, 698, 24], [(0, 2, 0, 0, 0, 1), (1, 25, 586, 72, 284, 4), (4, 2, 0, 0, 0, 5), (5, 25, 584, 64, 282, 8), (8, 34, 0, 0, 0, 9), (9, 20, 3, 24, 0, 12), (12, 2, 0, 0, 0, 13), (13, 25, 584, 64, 282, 16), (16, 2, 0, 0, 0, 17), (17, 25, 586, 72, 284, 20), (20, 32, 0, 0, 0, 21), (21, 21, 0, 25, 0, 24), (24, 24, 0, 0, 0, 25), (25, 5, 1, 0, 0, 26), (26, 2, 1, 0, 0, 27), (27, 23, 0, 40, 0, 30), (30, 35, 4, 42, 254, 33), (33, 16, 0, 0, 0, 34), (34, 0, 0, 0, 24, 36), (36, 40, 9, 44, 255, 39), (39, 5, 1, 0, 0, 40), (40, 2, 0, 0, 0, 41), (41, 25, 586, 72, 284, 44), (44, 2, 0, 0, 0, 45), (45, 25, 584, 64, 282, 48), (48, 34, 0, 0, 0, 49), (49, 20, 3, 62, 0, 52), (52, 2, 0, 0, 0, 53), (53, 25, 584, 64, 282, 56), (56, 2, 0, 0, 0, 57), (57, 25, 586, 72, 284, 60), (60, 2, 1, 0, 0, 61), (61, 33, 0, 0, 0, 62), (62, 2, 1, 0, 0, 63), (63, 0, 0, 0, 0, 64), (64, 26, 257, 155, 213, 67), (67, 2, 1, 0, 0, 68), (68, 48, 0, 0, 0, 69)])
def jm_78 : jM := (⟨"RuleMill$Reader", "readProgram", "(LRuleMill$Row;I)V"⟩, prog_5_method_2_code, 3, none, 3, 3, [703, 82, 701, 702], [(0, 2, 0, 0, 0, 1), (1, 0, 0, 0, 0, 2), (2, 1, 2, 0, 0, 3), (3, 39, 22, 50, 428, 6), (6, 2, 0, 0, 0, 7), (7, 25, 198, 41, 158, 10), (10, 2, 0, 0, 0, 11), (11, 25, 194, 21, 154, 14), (14, 25, 449, 54, 120, 17), (17, 20, 3, 26, 0, 20), (20, 2, 0, 0, 0, 21), (21, 2, 1, 0, 0, 22), (22, 39, 26, 57, 444, 25), (25, 18, 0, 0, 0, 26), (26, 45, 0, 0, 0, 27)])
def jm_79 : jM := (⟨"RuleMill", "fault", "()I"⟩, prog_1_method_7_code, 1, (some (.int)), 1, 9, [707, 81, 705, 706], [(0, 2, 0, 0, 0, 1), (1, 25, 588, 78, 286, 4), (4, 46, 0, 0, 0, 5)])
def jm_80 : jM := (⟨"RuleMill", "on", "(IZ)I"⟩, prog_1_method_8_code, 5, (some (.int)), 3, 9, [711, 81, 709, 710], [(0, 2, 0, 0, 0, 1), (1, 1, 1, 0, 0, 2), (2, 39, 81, 127, 712, 5), (5, 5, 3, 0, 0, 6), (6, 2, 3, 0, 0, 7), (7, 23, 0, 12, 0, 10), (10, 0, 0, 0, (-1), 11), (11, 46, 0, 0, 0, 12), (12, 2, 3, 0, 0, 13), (13, 25, 332, 131, 392, 16), (16, 38, 82, 135, 716, 19), (19, 4, 4, 0, 0, 21), (21, 2, 3, 0, 0, 22), (22, 1, 2, 0, 0, 23), (23, 26, 332, 131, 392, 26), (26, 1, 4, 0, 0, 28), (28, 46, 0, 0, 0, 29)])
def jm_81 : jM := (⟨"RuleMill", "ruleAt", "(I)LRuleMill$Rule;"⟩, prog_1_method_27_code, 2, (some (.object "RuleMill$Rule")), 2, 9, [715, 81, 714, 25], [(0, 1, 1, 0, 0, 1), (1, 19, 2, 30, 0, 4), (4, 1, 1, 0, 0, 5), (5, 2, 0, 0, 0, 6), (6, 25, 585, 68, 283, 9), (9, 20, 3, 30, 0, 12), (12, 1, 1, 0, 0, 13), (13, 2, 0, 0, 0, 14), (14, 25, 583, 60, 281, 17), (17, 34, 0, 0, 0, 18), (18, 20, 3, 30, 0, 21), (21, 2, 0, 0, 0, 22), (22, 25, 583, 60, 281, 25), (25, 1, 1, 0, 0, 26), (26, 32, 0, 0, 0, 27), (27, 21, 0, 31, 0, 30), (30, 24, 0, 0, 0, 31), (31, 48, 0, 0, 0, 32)])
def jm_82 : jM := (⟨"RuleMill", "asNumber", "(Z)I"⟩, prog_1_method_36_code, 1, (some (.int)), 1, 9, [718, 81, 717], [(0, 1, 0, 0, 0, 1), (1, 19, 0, 8, 0, 4), (4, 0, 0, 0, 1, 5), (5, 21, 0, 9, 0, 8), (8, 0, 0, 0, 0, 9), (9, 46, 0, 0, 0, 10)])
def jm_83 : jM := (⟨"RuleMill", "told", "(II)I"⟩, prog_1_method_9_code, 4, (some (.int)), 3, 9, [722, 81, 720, 721], [(0, 2, 0, 0, 0, 1), (1, 1, 1, 0, 0, 2), (2, 39, 81, 127, 712, 5), (5, 5, 3, 0, 0, 6), (6, 2, 3, 0, 0, 7), (7, 23, 0, 12, 0, 10), (10, 0, 0, 0, (-1), 11), (11, 46, 0, 0, 0, 12), (12, 1, 2, 0, 0, 13), (13, 50, 3, 0, 0, 68), (68, 2, 3, 0, 0, 69), (69, 25, 331, 139, 390, 72), (72, 38, 82, 135, 716, 75), (75, 46, 0, 0, 0, 76), (76, 2, 3, 0, 0, 77), (77, 39, 73, 142, 723, 80), (80, 46, 0, 0, 0, 81), (81, 2, 3, 0, 0, 82), (82, 25, 327, 146, 380, 85), (85, 46, 0, 0, 0, 86), (86, 2, 3, 0, 0, 87), (87, 25, 328, 149, 383, 90), (90, 46, 0, 0, 0, 91), (91, 2, 3, 0, 0, 92), (92, 25, 320, 152, 356, 95), (95, 25, 257, 155, 213, 98), (98, 46, 0, 0, 0, 99), (99, 2, 3, 0, 0, 100), (100, 25, 321, 156, 361, 103), (103, 25, 257, 155, 213, 106), (106, 46, 0, 0, 0, 107), (107, 2, 3, 0, 0, 108), (108, 25, 324, 159, 370, 111), (111, 46, 0, 0, 0, 112), (112, 2, 3, 0, 0, 113), (113, 25, 325, 162, 374, 116), (116, 46, 0, 0, 0, 117), (117, 2, 3, 0, 0, 118), (118, 25, 329, 165, 385, 121), (121, 46, 0, 0, 0, 122), (122, 2, 3, 0, 0, 123), (123, 25, 332, 131, 392, 126), (126, 38, 82, 135, 716, 129), (129, 46, 0, 0, 0, 130), (130, 0, 0, 0, (-1), 131), (131, 46, 0, 0, 0, 132)])
def jm_84 : jM := (⟨"RuleMill", "wrong", "(II)I"⟩, prog_1_method_10_code, 4, (some (.int)), 3, 9, [727, 81, 725, 726], [(0, 2, 0, 0, 0, 1), (1, 1, 1, 0, 0, 2), (2, 39, 81, 127, 712, 5), (5, 5, 3, 0, 0, 6), (6, 2, 3, 0, 0, 7), (7, 22, 0, 31, 0, 10), (10, 1, 2, 0, 0, 11), (11, 19, 2, 31, 0, 14), (14, 1, 2, 0, 0, 15), (15, 2, 3, 0, 0, 16), (16, 25, 326, 168, 377, 19), (19, 20, 3, 31, 0, 22), (22, 1, 2, 0, 0, 23), (23, 2, 3, 0, 0, 24), (24, 25, 323, 171, 366, 27), (27, 34, 0, 0, 0, 28), (28, 20, 2, 33, 0, 31), (31, 0, 0, 0, (-1), 32), (32, 46, 0, 0, 0, 33), (33, 2, 3, 0, 0, 34), (34, 25, 328, 149, 383, 37), (37, 2, 3, 0, 0, 38), (38, 25, 327, 146, 380, 41), (41, 20, 1, 49, 0, 44), (44, 0, 0, 0, (-4), 46), (46, 21, 0, 55, 0, 49), (49, 2, 3, 0, 0, 50), (50, 25, 323, 171, 366, 53), (53, 1, 2, 0, 0, 54), (54, 28, 0, 0, 0, 55), (55, 46, 0, 0, 0, 56)])
def jm_85 : jM := (⟨"RuleMill", "order", "(III)I"⟩, prog_1_method_11_code, 5, (some (.int)), 4, 9, [731, 81, 729, 730], [(0, 2, 0, 0, 0, 1), (1, 1, 1, 0, 0, 2), (2, 39, 86, 175, 732, 5), (5, 5, 4, 0, 0, 7), (7, 2, 4, 0, 0, 9), (9, 22, 0, 30, 0, 12), (12, 2, 4, 0, 0, 14), (14, 1, 2, 0, 0, 15), (15, 39, 52, 179, 736, 18), (18, 19, 0, 30, 0, 21), (21, 1, 3, 0, 0, 22), (22, 19, 2, 30, 0, 25), (25, 1, 3, 0, 0, 26), (26, 0, 0, 0, 3, 27), (27, 20, 5, 32, 0, 30), (30, 0, 0, 0, (-1), 31), (31, 46, 0, 0, 0, 32), (32, 2, 4, 0, 0, 34), (34, 1, 2, 0, 0, 35), (35, 1, 3, 0, 0, 36), (36, 39, 51, 183, 737, 39), (39, 46, 0, 0, 0, 40)])
def jm_86 : jM := (⟨"RuleMill", "programAt", "(I)LRuleMill$Row;"⟩, prog_1_method_28_code, 2, (some (.object "RuleMill$Row")), 2, 9, [735, 81, 734, 26], [(0, 1, 1, 0, 0, 1), (1, 19, 2, 30, 0, 4), (4, 1, 1, 0, 0, 5), (5, 2, 0, 0, 0, 6), (6, 25, 586, 72, 284, 9), (9, 20, 3, 30, 0, 12), (12, 1, 1, 0, 0, 13), (13, 2, 0, 0, 0, 14), (14, 25, 584, 64, 282, 17), (17, 34, 0, 0, 0, 18), (18, 20, 3, 30, 0, 21), (21, 2, 0, 0, 0, 22), (22, 25, 584, 64, 282, 25), (25, 1, 1, 0, 0, 26), (26, 32, 0, 0, 0, 27), (27, 21, 0, 31, 0, 30), (30, 24, 0, 0, 0, 31), (31, 48, 0, 0, 0, 32)])
def jm_87 : jM := (⟨"RuleMill", "size", "(II)I"⟩, prog_1_method_12_code, 4, (some (.int)), 3, 9, [741, 81, 739, 740], [(0, 2, 0, 0, 0, 1), (1, 1, 1, 0, 0, 2), (2, 39, 86, 175, 732, 5), (5, 5, 3, 0, 0, 6), (6, 2, 3, 0, 0, 7), (7, 22, 0, 19, 0, 10), (10, 1, 2, 0, 0, 11), (11, 19, 2, 19, 0, 14), (14, 1, 2, 0, 0, 15), (15, 0, 0, 0, 1, 16), (16, 20, 5, 21, 0, 19), (19, 0, 0, 0, (-1), 20), (20, 46, 0, 0, 0, 21), (21, 1, 2, 0, 0, 22), (22, 19, 1, 32, 0, 25), (25, 2, 3, 0, 0, 26), (26, 25, 257, 155, 213, 29), (29, 21, 0, 36, 0, 32), (32, 2, 3, 0, 0, 33), (33, 39, 74, 187, 742, 36), (36, 46, 0, 0, 0, 37)])
def jm_88 : jM := (⟨"RuleMill", "letter", "(II)I"⟩, prog_1_method_13_code, 4, (some (.int)), 3, 9, [746, 81, 744, 745], [(0, 2, 0, 0, 0, 1), (1, 1, 1, 0, 0, 2), (2, 39, 86, 175, 732, 5), (5, 5, 3, 0, 0, 6), (6, 2, 3, 0, 0, 7), (7, 22, 0, 14, 0, 10), (10, 1, 2, 0, 0, 11), (11, 19, 3, 16, 0, 14), (14, 0, 0, 0, (-1), 15), (15, 46, 0, 0, 0, 16), (16, 2, 3, 0, 0, 17), (17, 1, 2, 0, 0, 18), (18, 39, 89, 190, 747, 21), (21, 46, 0, 0, 0, 22)])
def jm_89 : jM := (⟨"RuleMill$Row", "textByte", "(I)I"⟩, prog_6_method_14_code, 5, (some (.int)), 2, 4, [750, 88, 748, 749], [(0, 1, 1, 0, 0, 1), (1, 4, 2, 0, 0, 2), (2, 0, 0, 0, 0, 3), (3, 4, 3, 0, 0, 4), (4, 1, 3, 0, 0, 5), (5, 2, 0, 0, 0, 6), (6, 25, 257, 9, 209, 9), (9, 20, 3, 72, 0, 12), (12, 2, 0, 0, 0, 13), (13, 1, 3, 0, 0, 14), (14, 0, 0, 0, 0, 15), (15, 39, 51, 49, 583, 18), (18, 38, 90, 84, 751, 21), (21, 4, 4, 0, 0, 23), (23, 1, 2, 0, 0, 24), (24, 1, 4, 0, 0, 26), (26, 20, 3, 36, 0, 29), (29, 2, 0, 0, 0, 30), (30, 1, 3, 0, 0, 31), (31, 1, 2, 0, 0, 32), (32, 39, 91, 87, 755, 35), (35, 46, 0, 0, 0, 36), (36, 1, 2, 0, 0, 37), (37, 1, 4, 0, 0, 39), (39, 20, 1, 59, 0, 42), (42, 1, 3, 0, 0, 43), (43, 0, 0, 0, 1, 44), (44, 8, 0, 0, 0, 45), (45, 2, 0, 0, 0, 46), (46, 25, 257, 9, 209, 49), (49, 20, 3, 57, 0, 52), (52, 0, 0, 0, 59, 54), (54, 21, 0, 58, 0, 57), (57, 0, 0, 0, 0, 58), (58, 46, 0, 0, 0, 59), (59, 1, 2, 0, 0, 60), (60, 1, 4, 0, 0, 62), (62, 0, 0, 0, 1, 63), (63, 8, 0, 0, 0, 64), (64, 8, 1, 0, 0, 65), (65, 4, 2, 0, 0, 66), (66, 7, 3, 0, 1, 69), (69, 21, 0, 4, 0, 72), (72, 1, 2, 0, 0, 73), (73, 19, 1, 87, 0, 76), (76, 2, 0, 0, 0, 77), (77, 25, 257, 9, 209, 80), (80, 19, 1, 87, 0, 83), (83, 0, 0, 0, 0, 84), (84, 21, 0, 88, 0, 87), (87, 0, 0, 0, (-1), 88), (88, 46, 0, 0, 0, 89)])
def jm_90 : jM := (⟨"RuleMill$Row", "textLength", "(I)I"⟩, prog_6_method_15_code, 2, (some (.int)), 1, 4, [753, 88, 752], [(0, 1, 0, 0, 0, 1), (1, 41, 34, 56, 639, 4), (4, 1, 0, 0, 0, 5), (5, 41, 40, 65, 644, 8), (8, 19, 0, 15, 0, 11), (11, 0, 0, 0, 1, 12), (12, 21, 0, 16, 0, 15), (15, 0, 0, 0, 0, 16), (16, 8, 0, 0, 0, 17), (17, 4, 1, 0, 0, 18), (18, 1, 0, 0, 0, 19), (19, 41, 31, 90, 754, 22), (22, 0, 0, 0, 2, 23), (23, 1, 1, 0, 0, 24), (24, 8, 2, 0, 0, 25), (25, 8, 0, 0, 0, 26), (26, 46, 0, 0, 0, 27)])
def jm_91 : jM := (⟨"RuleMill$Row", "orderByte", "(II)I"⟩, prog_6_method_16_code, 6, (some (.int)), 3, 4, [758, 88, 757, 27], [(0, 2, 0, 0, 0, 1), (1, 1, 1, 0, 0, 2), (2, 0, 0, 0, 0, 3), (3, 39, 51, 49, 583, 6), (6, 4, 3, 0, 0, 7), (7, 1, 2, 0, 0, 8), (8, 1, 3, 0, 0, 9), (9, 41, 31, 90, 754, 12), (12, 8, 1, 0, 0, 13), (13, 4, 4, 0, 0, 15), (15, 1, 4, 0, 0, 17), (17, 19, 3, 54, 0, 20), (20, 1, 3, 0, 0, 21), (21, 0, 0, 0, 3, 22), (22, 8, 2, 0, 0, 23), (23, 1, 2, 0, 0, 24), (24, 8, 0, 0, 0, 25), (25, 4, 5, 0, 0, 27), (27, 1, 5, 0, 0, 29), (29, 19, 2, 52, 0, 32), (32, 1, 5, 0, 0, 34), (34, 53, 0, 93, 759, 36), (36, 54, 203, 95, 760, 39), (39, 20, 3, 52, 0, 42), (42, 53, 0, 93, 759, 44), (44, 1, 5, 0, 0, 46), (46, 54, 198, 100, 768, 49), (49, 21, 0, 53, 0, 52), (52, 0, 0, 0, 0, 53), (53, 46, 0, 0, 0, 54), (54, 1, 4, 0, 0, 56), (56, 0, 0, 0, 2, 57), (57, 8, 9, 0, 0, 58), (58, 19, 1, 64, 0, 61), (61, 0, 0, 0, 32, 63), (63, 46, 0, 0, 0, 64), (64, 1, 4, 0, 0, 66), (66, 0, 0, 0, 2, 67), (67, 8, 8, 0, 0, 68), (68, 0, 0, 0, 1, 69), (69, 8, 0, 0, 0, 70), (70, 4, 5, 0, 0, 72), (72, 2, 0, 0, 0, 73), (73, 1, 1, 0, 0, 74), (74, 1, 5, 0, 0, 76), (76, 39, 51, 49, 583, 79), (79, 1, 5, 0, 0, 81), (81, 1, 3, 0, 0, 82), (82, 41, 34, 56, 639, 85), (85, 20, 4, 93, 0, 88), (88, 0, 0, 0, 97, 90), (90, 21, 0, 95, 0, 93), (93, 0, 0, 0, 48, 95), (95, 8, 0, 0, 0, 96), (96, 46, 0, 0, 0, 97)])
def jm_92 : jM := (⟨"RuleMill", "joined", "(II)I"⟩, prog_1_method_14_code, 6, (some (.int)), 3, 9, [772, 81, 770, 771], [(0, 2, 0, 0, 0, 1), (1, 1, 1, 0, 0, 2), (2, 39, 86, 175, 732, 5), (5, 5, 3, 0, 0, 6), (6, 2, 0, 0, 0, 7), (7, 1, 2, 0, 0, 8), (8, 39, 86, 175, 732, 11), (11, 5, 4, 0, 0, 13), (13, 2, 3, 0, 0, 14), (14, 22, 0, 22, 0, 17), (17, 2, 4, 0, 0, 19), (19, 23, 0, 24, 0, 22), (22, 0, 0, 0, (-1), 23), (23, 46, 0, 0, 0, 24), (24, 2, 0, 0, 0, 25), (25, 25, 586, 72, 284, 28), (28, 0, 0, 0, 16, 30), (30, 20, 3, 48, 0, 33), (33, 2, 3, 0, 0, 34), (34, 25, 257, 155, 213, 37), (37, 2, 4, 0, 0, 39), (39, 25, 257, 155, 213, 42), (42, 8, 0, 0, 0, 43), (43, 0, 0, 0, 24, 45), (45, 20, 5, 51, 0, 48), (48, 0, 0, 0, (-3), 50), (50, 46, 0, 0, 0, 51), (51, 2, 0, 0, 0, 52), (52, 39, 77, 119, 696, 55), (55, 5, 5, 0, 0, 57), (57, 2, 5, 0, 0, 59), (59, 2, 3, 0, 0, 60), (60, 0, 0, 0, 0, 61), (61, 2, 3, 0, 0, 62), (62, 25, 257, 155, 213, 65), (65, 39, 93, 194, 773, 68), (68, 2, 5, 0, 0, 70), (70, 2, 4, 0, 0, 72), (72, 0, 0, 0, 0, 73), (73, 2, 4, 0, 0, 75), (75, 25, 257, 155, 213, 78), (78, 39, 93, 194, 773, 81), (81, 2, 0, 0, 0, 82), (82, 16, 0, 0, 0, 83), (83, 25, 586, 72, 284, 86), (86, 0, 0, 0, 1, 87), (87, 8, 0, 0, 0, 88), (88, 26, 586, 72, 284, 91), (91, 2, 0, 0, 0, 92), (92, 25, 586, 72, 284, 95), (95, 0, 0, 0, 1, 96), (96, 8, 1, 0, 0, 97), (97, 46, 0, 0, 0, 98)])
def jm_93 : jM := (⟨"RuleMill$Row", "append", "(LRuleMill$Row;II)V"⟩, prog_6_method_7_code, 5, none, 4, 4, [776, 88, 774, 775], [(0, 1, 2, 0, 0, 1), (1, 4, 4, 0, 0, 3), (3, 1, 4, 0, 0, 5), (5, 1, 3, 0, 0, 6), (6, 20, 3, 22, 0, 9), (9, 2, 0, 0, 0, 10), (10, 2, 1, 0, 0, 11), (11, 1, 4, 0, 0, 13), (13, 39, 94, 41, 777, 16), (16, 7, 4, 0, 1, 19), (19, 21, 0, 3, 0, 22), (22, 45, 0, 0, 0, 23)])
def jm_94 : jM := (⟨"RuleMill$Row", "copyOrder", "(LRuleMill$Row;I)V"⟩, prog_6_method_8_code, 4, none, 3, 4, [780, 88, 779, 28], [(0, 2, 0, 0, 0, 1), (1, 39, 62, 45, 631, 4), (4, 19, 0, 38, 0, 7), (7, 0, 0, 0, 0, 8), (8, 4, 3, 0, 0, 9), (9, 1, 3, 0, 0, 10), (10, 0, 0, 0, 6, 12), (12, 20, 3, 38, 0, 15), (15, 2, 0, 0, 0, 16), (16, 2, 0, 0, 0, 17), (17, 25, 257, 9, 209, 20), (20, 0, 0, 0, 1, 21), (21, 8, 1, 0, 0, 22), (22, 1, 3, 0, 0, 23), (23, 2, 1, 0, 0, 24), (24, 1, 2, 0, 0, 25), (25, 1, 3, 0, 0, 26), (26, 39, 51, 49, 583, 29), (29, 39, 63, 52, 635, 32), (32, 7, 3, 0, 1, 35), (35, 21, 0, 9, 0, 38), (38, 45, 0, 0, 0, 39)])
def jm_95 : jM := (⟨"RuleMill", "part", "(III)I"⟩, prog_1_method_15_code, 5, (some (.int)), 4, 9, [784, 81, 782, 783], [(0, 2, 0, 0, 0, 1), (1, 1, 1, 0, 0, 2), (2, 39, 86, 175, 732, 5), (5, 5, 4, 0, 0, 7), (7, 2, 4, 0, 0, 9), (9, 22, 0, 30, 0, 12), (12, 1, 2, 0, 0, 13), (13, 19, 2, 30, 0, 16), (16, 1, 2, 0, 0, 17), (17, 1, 3, 0, 0, 18), (18, 20, 4, 30, 0, 21), (21, 1, 3, 0, 0, 22), (22, 2, 4, 0, 0, 24), (24, 25, 257, 155, 213, 27), (27, 20, 5, 32, 0, 30), (30, 0, 0, 0, (-1), 31), (31, 46, 0, 0, 0, 32), (32, 2, 0, 0, 0, 33), (33, 25, 586, 72, 284, 36), (36, 0, 0, 0, 16, 38), (38, 20, 2, 44, 0, 41), (41, 0, 0, 0, (-3), 43), (43, 46, 0, 0, 0, 44), (44, 2, 0, 0, 0, 45), (45, 39, 77, 119, 696, 48), (48, 2, 4, 0, 0, 50), (50, 1, 2, 0, 0, 51), (51, 1, 3, 0, 0, 52), (52, 39, 93, 194, 773, 55), (55, 2, 0, 0, 0, 56), (56, 16, 0, 0, 0, 57), (57, 25, 586, 72, 284, 60), (60, 0, 0, 0, 1, 61), (61, 8, 0, 0, 0, 62), (62, 26, 586, 72, 284, 65), (65, 2, 0, 0, 0, 66), (66, 25, 586, 72, 284, 69), (69, 0, 0, 0, 1, 70), (70, 8, 1, 0, 0, 71), (71, 46, 0, 0, 0, 72)])
def jm_96 : jM := (⟨"RuleMill", "window", "(III)I"⟩, prog_1_method_16_code, 6, (some (.int)), 4, 9, [788, 81, 786, 787], [(0, 2, 0, 0, 0, 1), (1, 1, 1, 0, 0, 2), (2, 39, 86, 175, 732, 5), (5, 5, 4, 0, 0, 7), (7, 2, 0, 0, 0, 8), (8, 1, 3, 0, 0, 9), (9, 39, 81, 127, 712, 12), (12, 5, 5, 0, 0, 14), (14, 2, 4, 0, 0, 16), (16, 22, 0, 33, 0, 19), (19, 2, 4, 0, 0, 21), (21, 1, 2, 0, 0, 22), (22, 39, 52, 179, 736, 25), (25, 19, 0, 33, 0, 28), (28, 2, 5, 0, 0, 30), (30, 23, 0, 35, 0, 33), (33, 0, 0, 0, (-1), 34), (34, 46, 0, 0, 0, 35), (35, 2, 0, 0, 0, 36), (36, 25, 580, 38, 278, 39), (39, 2, 4, 0, 0, 41), (41, 1, 2, 0, 0, 42), (42, 2, 5, 0, 0, 44), (44, 39, 97, 197, 789, 47), (47, 38, 82, 135, 716, 50), (50, 46, 0, 0, 0, 51)])
def jm_97 : jM := (⟨"RuleMill$Binding", "finds", "(LRuleMill$Row;ILRuleMill$Rule;)Z"⟩, prog_2_method_7_code, 8, (some (.boolean)), 4, 0, [792, 89, 790, 791], [(0, 2, 3, 0, 0, 1), (1, 25, 320, 22, 355, 4), (4, 25, 257, 28, 212, 7), (7, 4, 4, 0, 0, 9), (9, 2, 1, 0, 0, 10), (10, 25, 257, 28, 212, 13), (13, 1, 4, 0, 0, 15), (15, 8, 1, 0, 0, 16), (16, 2, 3, 0, 0, 17), (17, 25, 321, 34, 360, 20), (20, 25, 257, 28, 212, 23), (23, 8, 0, 0, 0, 24), (24, 0, 0, 0, 24, 26), (26, 20, 4, 33, 0, 29), (29, 0, 0, 0, 1, 30), (30, 21, 0, 34, 0, 33), (33, 0, 0, 0, 0, 34), (34, 4, 5, 0, 0, 36), (36, 1, 5, 0, 0, 38), (38, 19, 0, 52, 0, 41), (41, 1, 2, 0, 0, 42), (42, 1, 4, 0, 0, 44), (44, 8, 0, 0, 0, 45), (45, 2, 1, 0, 0, 46), (46, 25, 257, 28, 212, 49), (49, 20, 5, 54, 0, 52), (52, 0, 0, 0, 0, 53), (53, 47, 0, 0, 0, 54), (54, 2, 0, 0, 0, 55), (55, 39, 98, 37, 793, 58), (58, 0, 0, 0, 1, 59), (59, 4, 6, 0, 0, 61), (61, 0, 0, 0, 0, 62), (62, 4, 7, 0, 0, 64), (64, 1, 7, 0, 0, 66), (66, 1, 4, 0, 0, 68), (68, 20, 3, 99, 0, 71), (71, 1, 6, 0, 0, 73), (73, 19, 0, 99, 0, 76), (76, 2, 0, 0, 0, 77), (77, 2, 3, 0, 0, 78), (78, 25, 320, 22, 355, 81), (81, 1, 7, 0, 0, 83), (83, 2, 1, 0, 0, 84), (84, 1, 2, 0, 0, 85), (85, 1, 7, 0, 0, 87), (87, 8, 0, 0, 0, 88), (88, 39, 99, 40, 797, 91), (91, 4, 6, 0, 0, 93), (93, 7, 7, 0, 1, 96), (96, 21, 0, 64, 0, 99), (99, 1, 6, 0, 0, 101), (101, 47, 0, 0, 0, 102)])
def jm_98 : jM := (⟨"RuleMill$Binding", "forget", "()V"⟩, prog_2_method_8_code, 2, none, 1, 0, [796, 89, 795, 29], [(0, 0, 0, 0, 0, 1), (1, 4, 1, 0, 0, 2), (2, 1, 1, 0, 0, 3), (3, 2, 0, 0, 0, 4), (4, 25, 0, 9, 229, 7), (7, 34, 0, 0, 0, 8), (8, 20, 3, 24, 0, 11), (11, 2, 0, 0, 0, 12), (12, 25, 0, 9, 229, 15), (15, 1, 1, 0, 0, 16), (16, 0, 0, 0, (-1), 17), (17, 29, 0, 0, 0, 18), (18, 7, 1, 0, 1, 21), (21, 21, 0, 2, 0, 24), (24, 0, 0, 0, 0, 25), (25, 4, 1, 0, 0, 26), (26, 1, 1, 0, 0, 27), (27, 2, 0, 0, 0, 28), (28, 25, 1, 15, 230, 31), (31, 34, 0, 0, 0, 32), (32, 20, 3, 48, 0, 35), (35, 2, 0, 0, 0, 36), (36, 25, 1, 15, 230, 39), (39, 1, 1, 0, 0, 40), (40, 0, 0, 0, (-1), 41), (41, 29, 0, 0, 0, 42), (42, 7, 1, 0, 1, 45), (45, 21, 0, 26, 0, 48), (48, 45, 0, 0, 0, 49)])
def jm_99 : jM := (⟨"RuleMill$Binding", "takesOrder", "(LRuleMill$Row;ILRuleMill$Row;I)Z"⟩, prog_2_method_9_code, 8, (some (.boolean)), 5, 0, [800, 89, 799, 30], [(0, 2, 1, 0, 0, 1), (1, 1, 2, 0, 0, 2), (2, 0, 0, 0, 0, 3), (3, 39, 51, 44, 801, 6), (6, 4, 5, 0, 0, 8), (8, 2, 3, 0, 0, 9), (9, 1, 4, 0, 0, 11), (11, 0, 0, 0, 0, 12), (12, 39, 51, 44, 801, 15), (15, 1, 5, 0, 0, 17), (17, 20, 1, 24, 0, 20), (20, 0, 0, 0, 1, 21), (21, 21, 0, 25, 0, 24), (24, 0, 0, 0, 0, 25), (25, 4, 6, 0, 0, 27), (27, 0, 0, 0, 1, 28), (28, 4, 7, 0, 0, 30), (30, 1, 7, 0, 0, 32), (32, 1, 5, 0, 0, 34), (34, 41, 34, 48, 802, 37), (37, 20, 4, 72, 0, 40), (40, 1, 6, 0, 0, 42), (42, 19, 0, 72, 0, 45), (45, 2, 0, 0, 0, 46), (46, 2, 1, 0, 0, 47), (47, 1, 2, 0, 0, 48), (48, 1, 7, 0, 0, 50), (50, 39, 51, 44, 801, 53), (53, 2, 3, 0, 0, 54), (54, 1, 4, 0, 0, 56), (56, 1, 7, 0, 0, 58), (58, 39, 51, 44, 801, 61), (61, 39, 100, 51, 803, 64), (64, 4, 6, 0, 0, 66), (66, 7, 7, 0, 1, 69), (69, 21, 0, 30, 0, 72), (72, 1, 6, 0, 0, 74), (74, 19, 0, 104, 0, 77), (77, 1, 5, 0, 0, 79), (79, 41, 40, 55, 807, 82), (82, 19, 0, 104, 0, 85), (85, 2, 0, 0, 0, 86), (86, 2, 1, 0, 0, 87), (87, 1, 2, 0, 0, 88), (88, 0, 0, 0, 2, 89), (89, 39, 51, 44, 801, 92), (92, 2, 3, 0, 0, 93), (93, 1, 4, 0, 0, 95), (95, 0, 0, 0, 2, 96), (96, 39, 51, 44, 801, 99), (99, 39, 101, 59, 808, 102), (102, 4, 6, 0, 0, 104), (104, 1, 6, 0, 0, 106), (106, 47, 0, 0, 0, 107)])
def jm_100 : jM := (⟨"RuleMill$Binding", "takesRegister", "(II)Z"⟩, prog_2_method_10_code, 4, (some (.boolean)), 3, 0, [806, 89, 805, 31], [(0, 1, 1, 0, 0, 1), (1, 19, 2, 13, 0, 4), (4, 1, 1, 0, 0, 5), (5, 2, 0, 0, 0, 6), (6, 25, 0, 9, 229, 9), (9, 34, 0, 0, 0, 10), (10, 20, 2, 15, 0, 13), (13, 0, 0, 0, 0, 14), (14, 47, 0, 0, 0, 15), (15, 0, 0, 0, 0, 16), (16, 4, 3, 0, 0, 17), (17, 1, 3, 0, 0, 18), (18, 2, 0, 0, 0, 19), (19, 25, 0, 9, 229, 22), (22, 34, 0, 0, 0, 23), (23, 20, 3, 49, 0, 26), (26, 1, 3, 0, 0, 27), (27, 1, 1, 0, 0, 28), (28, 20, 0, 43, 0, 31), (31, 2, 0, 0, 0, 32), (32, 25, 0, 9, 229, 35), (35, 1, 3, 0, 0, 36), (36, 28, 0, 0, 0, 37), (37, 1, 2, 0, 0, 38), (38, 20, 1, 43, 0, 41), (41, 0, 0, 0, 0, 42), (42, 47, 0, 0, 0, 43), (43, 7, 3, 0, 1, 46), (46, 21, 0, 17, 0, 49), (49, 2, 0, 0, 0, 50), (50, 25, 0, 9, 229, 53), (53, 1, 1, 0, 0, 54), (54, 28, 0, 0, 0, 55), (55, 19, 3, 65, 0, 58), (58, 2, 0, 0, 0, 59), (59, 25, 0, 9, 229, 62), (62, 1, 1, 0, 0, 63), (63, 1, 2, 0, 0, 64), (64, 29, 0, 0, 0, 65), (65, 2, 0, 0, 0, 66), (66, 25, 0, 9, 229, 69), (69, 1, 1, 0, 0, 70), (70, 28, 0, 0, 0, 71), (71, 1, 2, 0, 0, 72), (72, 20, 1, 79, 0, 75), (75, 0, 0, 0, 1, 76), (76, 21, 0, 80, 0, 79), (79, 0, 0, 0, 0, 80), (80, 47, 0, 0, 0, 81)])
def jm_101 : jM := (⟨"RuleMill$Binding", "takesNumber", "(II)Z"⟩, prog_2_method_11_code, 4, (some (.boolean)), 3, 0, [811, 89, 810, 32], [(0, 1, 1, 0, 0, 1), (1, 0, 0, 0, 16, 3), (3, 8, 1, 0, 0, 4), (4, 4, 3, 0, 0, 5), (5, 1, 3, 0, 0, 6), (6, 19, 2, 23, 0, 9), (9, 2, 0, 0, 0, 10), (10, 1, 3, 0, 0, 11), (11, 39, 66, 18, 649, 14), (14, 19, 3, 23, 0, 17), (17, 2, 0, 0, 0, 18), (18, 1, 3, 0, 0, 19), (19, 1, 2, 0, 0, 20), (20, 39, 60, 62, 812, 23), (23, 2, 0, 0, 0, 24), (24, 1, 1, 0, 0, 25), (25, 39, 65, 66, 813, 28), (28, 1, 2, 0, 0, 29), (29, 20, 1, 36, 0, 32), (32, 0, 0, 0, 1, 33), (33, 21, 0, 37, 0, 36), (36, 0, 0, 0, 0, 37), (37, 47, 0, 0, 0, 38)])
def jm_102 : jM := (⟨"RuleMill", "meant", "(IIIII)I"⟩, prog_1_method_17_code, 9, (some (.int)), 6, 9, [817, 81, 815, 816], [(0, 2, 0, 0, 0, 1), (1, 1, 1, 0, 0, 2), (2, 39, 86, 175, 732, 5), (5, 5, 6, 0, 0, 7), (7, 2, 0, 0, 0, 8), (8, 1, 3, 0, 0, 9), (9, 39, 81, 127, 712, 12), (12, 5, 7, 0, 0, 14), (14, 2, 6, 0, 0, 16), (16, 22, 0, 44, 0, 19), (19, 2, 6, 0, 0, 21), (21, 1, 2, 0, 0, 22), (22, 39, 52, 179, 736, 25), (25, 19, 0, 44, 0, 28), (28, 2, 7, 0, 0, 30), (30, 22, 0, 44, 0, 33), (33, 1, 4, 0, 0, 35), (35, 19, 2, 44, 0, 38), (38, 1, 4, 0, 0, 40), (40, 0, 0, 0, 1, 41), (41, 20, 5, 46, 0, 44), (44, 0, 0, 0, (-1), 45), (45, 46, 0, 0, 0, 46), (46, 1, 4, 0, 0, 48), (48, 19, 1, 59, 0, 51), (51, 2, 7, 0, 0, 53), (53, 25, 324, 159, 370, 56), (56, 21, 0, 64, 0, 59), (59, 2, 7, 0, 0, 61), (61, 25, 325, 162, 374, 64), (64, 4, 8, 0, 0, 66), (66, 1, 5, 0, 0, 68), (68, 19, 2, 93, 0, 71), (71, 1, 5, 0, 0, 73), (73, 1, 8, 0, 0, 75), (75, 20, 3, 93, 0, 78), (78, 2, 0, 0, 0, 79), (79, 25, 580, 38, 278, 82), (82, 2, 6, 0, 0, 84), (84, 1, 2, 0, 0, 85), (85, 2, 7, 0, 0, 87), (87, 39, 97, 197, 789, 90), (90, 19, 1, 96, 0, 93), (93, 0, 0, 0, (-4), 95), (95, 46, 0, 0, 0, 96), (96, 1, 4, 0, 0, 98), (98, 19, 1, 113, 0, 101), (101, 2, 0, 0, 0, 102), (102, 25, 580, 38, 278, 105), (105, 1, 5, 0, 0, 107), (107, 39, 64, 201, 818, 110), (110, 21, 0, 122, 0, 113), (113, 2, 0, 0, 0, 114), (114, 25, 580, 38, 278, 117), (117, 1, 5, 0, 0, 119), (119, 39, 66, 204, 819, 122), (122, 46, 0, 0, 0, 123)])
def jm_103 : jM := (⟨"RuleMill", "change", "(III)I"⟩, prog_1_method_18_code, 6, (some (.int)), 4, 9, [823, 81, 821, 822], [(0, 2, 0, 0, 0, 1), (1, 1, 1, 0, 0, 2), (2, 39, 86, 175, 732, 5), (5, 5, 4, 0, 0, 7), (7, 2, 0, 0, 0, 8), (8, 1, 3, 0, 0, 9), (9, 39, 81, 127, 712, 12), (12, 5, 5, 0, 0, 14), (14, 2, 4, 0, 0, 16), (16, 22, 0, 33, 0, 19), (19, 2, 4, 0, 0, 21), (21, 1, 2, 0, 0, 22), (22, 39, 52, 179, 736, 25), (25, 19, 0, 33, 0, 28), (28, 2, 5, 0, 0, 30), (30, 23, 0, 35, 0, 33), (33, 0, 0, 0, (-1), 34), (34, 46, 0, 0, 0, 35), (35, 2, 5, 0, 0, 37), (37, 25, 331, 139, 390, 40), (40, 19, 0, 58, 0, 43), (43, 2, 0, 0, 0, 44), (44, 25, 580, 38, 278, 47), (47, 2, 4, 0, 0, 49), (49, 1, 2, 0, 0, 50), (50, 2, 5, 0, 0, 52), (52, 39, 97, 197, 789, 55), (55, 19, 1, 61, 0, 58), (58, 0, 0, 0, (-2), 60), (60, 46, 0, 0, 0, 61), (61, 2, 0, 0, 0, 62), (62, 2, 4, 0, 0, 64), (64, 1, 2, 0, 0, 65), (65, 2, 5, 0, 0, 67), (67, 39, 104, 207, 824, 70), (70, 2, 4, 0, 0, 72), (72, 25, 257, 155, 213, 75), (75, 46, 0, 0, 0, 76)])
def jm_104 : jM := (⟨"RuleMill", "putSecondSide", "(LRuleMill$Row;ILRuleMill$Rule;)V"⟩, prog_1_method_34_code, 4, none, 4, 9, [827, 81, 826, 33], [(0, 2, 0, 0, 0, 1), (1, 25, 581, 47, 279, 4), (4, 2, 3, 0, 0, 5), (5, 25, 321, 156, 361, 8), (8, 2, 0, 0, 0, 9), (9, 25, 580, 38, 278, 12), (12, 2, 0, 0, 0, 13), (13, 25, 587, 75, 285, 16), (16, 39, 61, 243, 828, 19), (19, 2, 1, 0, 0, 20), (20, 1, 2, 0, 0, 21), (21, 2, 3, 0, 0, 22), (22, 25, 320, 152, 356, 25), (25, 25, 257, 155, 213, 28), (28, 2, 0, 0, 0, 29), (29, 25, 581, 47, 279, 32), (32, 39, 105, 247, 829, 35), (35, 2, 3, 0, 0, 36), (36, 16, 0, 0, 0, 37), (37, 25, 329, 165, 385, 40), (40, 0, 0, 0, 1, 41), (41, 8, 0, 0, 0, 42), (42, 26, 329, 165, 385, 45), (45, 45, 0, 0, 0, 46)])
def jm_105 : jM := (⟨"RuleMill$Row", "replace", "(IILRuleMill$Row;)V"⟩, prog_6_method_10_code, 7, none, 4, 4, [832, 88, 830, 831], [(0, 2, 0, 0, 0, 1), (1, 25, 257, 9, 209, 4), (4, 1, 1, 0, 0, 5), (5, 8, 1, 0, 0, 6), (6, 1, 2, 0, 0, 7), (7, 8, 1, 0, 0, 8), (8, 4, 4, 0, 0, 10), (10, 2, 0, 0, 0, 11), (11, 25, 257, 9, 209, 14), (14, 1, 2, 0, 0, 15), (15, 8, 1, 0, 0, 16), (16, 2, 3, 0, 0, 17), (17, 25, 257, 9, 209, 20), (20, 8, 0, 0, 0, 21), (21, 4, 5, 0, 0, 23), (23, 1, 1, 0, 0, 24), (24, 19, 2, 45, 0, 27), (27, 1, 2, 0, 0, 28), (28, 19, 2, 45, 0, 31), (31, 1, 4, 0, 0, 33), (33, 19, 2, 45, 0, 36), (36, 1, 5, 0, 0, 38), (38, 2, 0, 0, 0, 39), (39, 25, 256, 24, 206, 42), (42, 20, 5, 46, 0, 45), (45, 45, 0, 0, 0, 46), (46, 1, 1, 0, 0, 47), (47, 2, 3, 0, 0, 48), (48, 25, 257, 9, 209, 51), (51, 8, 0, 0, 0, 52), (52, 0, 0, 0, 6, 54), (54, 8, 2, 0, 0, 55), (55, 4, 6, 0, 0, 57), (57, 2, 0, 0, 0, 58), (58, 25, 258, 27, 214, 61), (61, 1, 1, 0, 0, 62), (62, 1, 2, 0, 0, 63), (63, 8, 0, 0, 0, 64), (64, 0, 0, 0, 6, 66), (66, 8, 2, 0, 0, 67), (67, 2, 0, 0, 0, 68), (68, 25, 258, 27, 214, 71), (71, 1, 6, 0, 0, 73), (73, 1, 4, 0, 0, 75), (75, 0, 0, 0, 6, 77), (77, 8, 2, 0, 0, 78), (78, 56, 0, 35, 568, 81), (81, 2, 3, 0, 0, 82), (82, 25, 258, 27, 214, 85), (85, 0, 0, 0, 0, 86), (86, 2, 0, 0, 0, 87), (87, 25, 258, 27, 214, 90), (90, 1, 1, 0, 0, 91), (91, 0, 0, 0, 6, 93), (93, 8, 2, 0, 0, 94), (94, 2, 3, 0, 0, 95), (95, 25, 257, 9, 209, 98), (98, 0, 0, 0, 6, 100), (100, 8, 2, 0, 0, 101), (101, 56, 0, 35, 568, 104), (104, 2, 0, 0, 0, 105), (105, 1, 5, 0, 0, 107), (107, 26, 257, 9, 209, 110), (110, 45, 0, 0, 0, 111)])
def jm_106 : jM := (⟨"RuleMill", "mill", "(I)I"⟩, prog_1_method_19_code, 5, (some (.int)), 2, 9, [836, 81, 834, 835], [(0, 2, 0, 0, 0, 1), (1, 1, 1, 0, 0, 2), (2, 39, 86, 175, 732, 5), (5, 5, 2, 0, 0, 6), (6, 2, 2, 0, 0, 7), (7, 23, 0, 12, 0, 10), (10, 0, 0, 0, (-1), 11), (11, 46, 0, 0, 0, 12), (12, 2, 0, 0, 0, 13), (13, 25, 582, 54, 280, 16), (16, 0, 0, 0, 0, 17), (17, 26, 385, 211, 265, 20), (20, 0, 0, 0, 0, 21), (21, 4, 3, 0, 0, 22), (22, 1, 3, 0, 0, 23), (23, 0, 0, 0, 144, 26), (26, 20, 3, 65, 0, 29), (29, 2, 0, 0, 0, 30), (30, 2, 2, 0, 0, 31), (31, 39, 107, 214, 837, 34), (34, 4, 4, 0, 0, 36), (36, 1, 4, 0, 0, 38), (38, 19, 3, 44, 0, 41), (41, 21, 0, 65, 0, 44), (44, 2, 0, 0, 0, 45), (45, 2, 2, 0, 0, 46), (46, 1, 4, 0, 0, 48), (48, 0, 0, 0, 24, 50), (50, 8, 8, 0, 0, 51), (51, 1, 4, 0, 0, 53), (53, 0, 0, 0, 24, 55), (55, 8, 9, 0, 0, 56), (56, 39, 108, 218, 841, 59), (59, 7, 3, 0, 1, 62), (62, 21, 0, 22, 0, 65), (65, 2, 0, 0, 0, 66), (66, 25, 582, 54, 280, 69), (69, 25, 385, 211, 265, 72), (72, 46, 0, 0, 0, 73)])
def jm_107 : jM := (⟨"RuleMill", "firstWindow", "(LRuleMill$Row;)I"⟩, prog_1_method_32_code, 5, (some (.int)), 2, 9, [840, 81, 839, 34], [(0, 0, 0, 0, 0, 1), (1, 4, 2, 0, 0, 2), (2, 1, 2, 0, 0, 3), (3, 2, 1, 0, 0, 4), (4, 25, 257, 155, 213, 7), (7, 20, 3, 81, 0, 10), (10, 0, 0, 0, 0, 11), (11, 4, 3, 0, 0, 12), (12, 1, 3, 0, 0, 13), (13, 2, 0, 0, 0, 14), (14, 25, 585, 68, 283, 17), (17, 20, 3, 75, 0, 20), (20, 2, 0, 0, 0, 21), (21, 1, 3, 0, 0, 22), (22, 39, 81, 127, 712, 25), (25, 5, 4, 0, 0, 27), (27, 2, 4, 0, 0, 29), (29, 22, 0, 69, 0, 32), (32, 2, 4, 0, 0, 34), (34, 25, 332, 131, 392, 37), (37, 19, 0, 69, 0, 40), (40, 2, 4, 0, 0, 42), (42, 25, 331, 139, 390, 45), (45, 19, 0, 69, 0, 48), (48, 2, 0, 0, 0, 49), (49, 25, 580, 38, 278, 52), (52, 2, 1, 0, 0, 53), (53, 1, 2, 0, 0, 54), (54, 2, 4, 0, 0, 56), (56, 39, 97, 197, 789, 59), (59, 19, 0, 69, 0, 62), (62, 1, 2, 0, 0, 63), (63, 0, 0, 0, 24, 65), (65, 8, 2, 0, 0, 66), (66, 1, 3, 0, 0, 67), (67, 8, 0, 0, 0, 68), (68, 46, 0, 0, 0, 69), (69, 7, 3, 0, 1, 72), (72, 21, 0, 12, 0, 75), (75, 7, 2, 0, 1, 78), (78, 21, 0, 2, 0, 81), (81, 0, 0, 0, (-4), 83), (83, 46, 0, 0, 0, 84)])
def jm_108 : jM := (⟨"RuleMill", "takeStep", "(LRuleMill$Row;II)V"⟩, prog_1_method_33_code, 5, none, 4, 9, [844, 81, 843, 35], [(0, 2, 0, 0, 0, 1), (1, 1, 3, 0, 0, 2), (2, 39, 81, 127, 712, 5), (5, 5, 4, 0, 0, 7), (7, 2, 4, 0, 0, 9), (9, 22, 0, 33, 0, 12), (12, 2, 0, 0, 0, 13), (13, 2, 1, 0, 0, 14), (14, 1, 2, 0, 0, 15), (15, 2, 4, 0, 0, 17), (17, 39, 104, 207, 824, 20), (20, 2, 0, 0, 0, 21), (21, 25, 582, 54, 280, 24), (24, 1, 2, 0, 0, 25), (25, 1, 3, 0, 0, 26), (26, 2, 1, 0, 0, 27), (27, 39, 74, 187, 742, 30), (30, 39, 109, 239, 845, 33), (33, 45, 0, 0, 0, 34)])
def jm_109 : jM := (⟨"RuleMill$Steps", "add", "(III)V"⟩, prog_8_method_2_code, 4, none, 4, 6, [848, 90, 846, 847], [(0, 2, 0, 0, 0, 1), (1, 25, 385, 15, 264, 4), (4, 0, 0, 0, 144, 7), (7, 20, 3, 60, 0, 10), (10, 2, 0, 0, 0, 11), (11, 25, 384, 11, 262, 14), (14, 2, 0, 0, 0, 15), (15, 25, 385, 15, 264, 18), (18, 0, 0, 0, 3, 19), (19, 8, 2, 0, 0, 20), (20, 1, 1, 0, 0, 21), (21, 29, 0, 0, 0, 22), (22, 2, 0, 0, 0, 23), (23, 25, 384, 11, 262, 26), (26, 2, 0, 0, 0, 27), (27, 25, 385, 15, 264, 30), (30, 0, 0, 0, 3, 31), (31, 8, 2, 0, 0, 32), (32, 0, 0, 0, 1, 33), (33, 8, 0, 0, 0, 34), (34, 1, 2, 0, 0, 35), (35, 29, 0, 0, 0, 36), (36, 2, 0, 0, 0, 37), (37, 25, 384, 11, 262, 40), (40, 2, 0, 0, 0, 41), (41, 25, 385, 15, 264, 44), (44, 0, 0, 0, 3, 45), (45, 8, 2, 0, 0, 46), (46, 0, 0, 0, 2, 47), (47, 8, 0, 0, 0, 48), (48, 1, 3, 0, 0, 49), (49, 29, 0, 0, 0, 50), (50, 2, 0, 0, 0, 51), (51, 16, 0, 0, 0, 52), (52, 25, 385, 15, 264, 55), (55, 0, 0, 0, 1, 56), (56, 8, 0, 0, 0, 57), (57, 26, 385, 15, 264, 60), (60, 45, 0, 0, 0, 61)])
def jm_110 : jM := (⟨"RuleMill", "step", "(II)I"⟩, prog_1_method_20_code, 3, (some (.int)), 3, 9, [852, 81, 850, 851], [(0, 1, 1, 0, 0, 1), (1, 19, 2, 24, 0, 4), (4, 1, 1, 0, 0, 5), (5, 2, 0, 0, 0, 6), (6, 25, 582, 54, 280, 9), (9, 25, 385, 211, 265, 12), (12, 20, 3, 24, 0, 15), (15, 1, 2, 0, 0, 16), (16, 19, 2, 24, 0, 19), (19, 1, 2, 0, 0, 20), (20, 0, 0, 0, 3, 21), (21, 20, 2, 26, 0, 24), (24, 0, 0, 0, (-1), 25), (25, 46, 0, 0, 0, 26), (26, 2, 0, 0, 0, 27), (27, 25, 582, 54, 280, 30), (30, 25, 384, 221, 263, 33), (33, 1, 1, 0, 0, 34), (34, 0, 0, 0, 3, 35), (35, 8, 2, 0, 0, 36), (36, 1, 2, 0, 0, 37), (37, 8, 0, 0, 0, 38), (38, 28, 0, 0, 0, 39), (39, 46, 0, 0, 0, 40)])
def jm_111 : jM := (⟨"RuleMill", "done", "(I)I"⟩, prog_1_method_21_code, 3, (some (.int)), 2, 9, [856, 81, 854, 855], [(0, 2, 0, 0, 0, 1), (1, 1, 1, 0, 0, 2), (2, 39, 86, 175, 732, 5), (5, 5, 2, 0, 0, 6), (6, 2, 2, 0, 0, 7), (7, 23, 0, 12, 0, 10), (10, 0, 0, 0, (-1), 11), (11, 46, 0, 0, 0, 12), (12, 2, 0, 0, 0, 13), (13, 2, 2, 0, 0, 14), (14, 39, 107, 214, 837, 17), (17, 19, 3, 24, 0, 20), (20, 0, 0, 0, 1, 21), (21, 21, 0, 25, 0, 24), (24, 0, 0, 0, 0, 25), (25, 38, 82, 135, 716, 28), (28, 46, 0, 0, 0, 29)])
def jm_112 : jM := (⟨"RuleMill", "run", "(II)I"⟩, prog_1_method_22_code, 4, (some (.int)), 3, 9, [860, 81, 858, 859], [(0, 2, 0, 0, 0, 1), (1, 1, 1, 0, 0, 2), (2, 39, 86, 175, 732, 5), (5, 5, 3, 0, 0, 6), (6, 2, 3, 0, 0, 7), (7, 22, 0, 27, 0, 10), (10, 1, 2, 0, 0, 11), (11, 19, 2, 27, 0, 14), (14, 1, 2, 0, 0, 15), (15, 0, 0, 0, 1, 16), (16, 0, 0, 0, 8, 18), (18, 2, 0, 0, 0, 19), (19, 25, 587, 75, 285, 22), (22, 8, 2, 0, 0, 23), (23, 8, 6, 0, 0, 24), (24, 20, 2, 29, 0, 27), (27, 0, 0, 0, (-1), 28), (28, 46, 0, 0, 0, 29), (29, 2, 0, 0, 0, 30), (30, 25, 578, 24, 276, 33), (33, 2, 3, 0, 0, 34), (34, 1, 2, 0, 0, 35), (35, 2, 0, 0, 0, 36), (36, 25, 587, 75, 285, 39), (39, 39, 69, 224, 861, 42), (42, 46, 0, 0, 0, 43)])
def jm_113 : jM := (⟨"RuleMill", "same", "(II)I"⟩, prog_1_method_23_code, 6, (some (.int)), 3, 9, [865, 81, 863, 864], [(0, 2, 0, 0, 0, 1), (1, 1, 1, 0, 0, 2), (2, 39, 86, 175, 732, 5), (5, 5, 3, 0, 0, 6), (6, 2, 0, 0, 0, 7), (7, 1, 2, 0, 0, 8), (8, 39, 86, 175, 732, 11), (11, 5, 4, 0, 0, 13), (13, 2, 3, 0, 0, 14), (14, 22, 0, 22, 0, 17), (17, 2, 4, 0, 0, 19), (19, 23, 0, 24, 0, 22), (22, 0, 0, 0, (-1), 23), (23, 46, 0, 0, 0, 24), (24, 2, 0, 0, 0, 25), (25, 25, 587, 75, 285, 28), (28, 0, 0, 0, 3, 29), (29, 20, 1, 35, 0, 32), (32, 0, 0, 0, (-2), 34), (34, 46, 0, 0, 0, 35), (35, 2, 0, 0, 0, 36), (36, 2, 3, 0, 0, 37), (37, 2, 4, 0, 0, 39), (39, 39, 114, 228, 866, 42), (42, 4, 5, 0, 0, 44), (44, 1, 5, 0, 0, 46), (46, 0, 0, 0, (-4), 48), (48, 20, 1, 53, 0, 51), (51, 0, 0, 0, 1, 52), (52, 46, 0, 0, 0, 53), (53, 2, 0, 0, 0, 54), (54, 1, 5, 0, 0, 56), (56, 26, 589, 81, 287, 59), (59, 0, 0, 0, 0, 60), (60, 46, 0, 0, 0, 61)])
def jm_114 : jM := (⟨"RuleMill", "leastDifference", "(LRuleMill$Row;LRuleMill$Row;)I"⟩, prog_1_method_35_code, 5, (some (.int)), 3, 9, [869, 81, 868, 36], [(0, 2, 1, 0, 0, 1), (1, 2, 0, 0, 0, 2), (2, 25, 587, 75, 285, 5), (5, 39, 115, 251, 870, 8), (8, 2, 2, 0, 0, 9), (9, 2, 0, 0, 0, 10), (10, 25, 587, 75, 285, 13), (13, 39, 115, 251, 870, 16), (16, 8, 4, 0, 0, 17), (17, 4, 3, 0, 0, 18), (18, 0, 0, 0, 0, 19), (19, 4, 4, 0, 0, 21), (21, 1, 4, 0, 0, 23), (23, 1, 3, 0, 0, 24), (24, 20, 4, 76, 0, 27), (27, 1, 4, 0, 0, 29), (29, 1, 3, 0, 0, 30), (30, 0, 0, 0, (-1), 31), (31, 8, 5, 0, 0, 32), (32, 8, 3, 0, 0, 33), (33, 19, 1, 70, 0, 36), (36, 2, 0, 0, 0, 37), (37, 25, 578, 24, 276, 40), (40, 2, 1, 0, 0, 41), (41, 1, 4, 0, 0, 43), (43, 2, 0, 0, 0, 44), (44, 25, 587, 75, 285, 47), (47, 39, 69, 224, 861, 50), (50, 2, 0, 0, 0, 51), (51, 25, 578, 24, 276, 54), (54, 2, 2, 0, 0, 55), (55, 1, 4, 0, 0, 57), (57, 2, 0, 0, 0, 58), (58, 25, 587, 75, 285, 61), (61, 39, 69, 224, 861, 64), (64, 20, 0, 70, 0, 67), (67, 1, 4, 0, 0, 69), (69, 46, 0, 0, 0, 70), (70, 7, 4, 0, 1, 73), (73, 21, 0, 21, 0, 76), (76, 0, 0, 0, (-4), 78), (78, 46, 0, 0, 0, 79)])
def jm_115 : jM := (⟨"RuleMill$Row", "namedBits", "(I)I"⟩, prog_6_method_13_code, 7, (some (.int)), 2, 4, [873, 88, 871, 872], [(0, 0, 0, 0, 1, 1), (1, 1, 1, 0, 0, 2), (2, 8, 6, 0, 0, 3), (3, 0, 0, 0, 1, 4), (4, 8, 1, 0, 0, 5), (5, 4, 2, 0, 0, 6), (6, 0, 0, 0, 0, 7), (7, 4, 3, 0, 0, 8), (8, 0, 0, 0, 0, 9), (9, 4, 4, 0, 0, 11), (11, 1, 4, 0, 0, 13), (13, 2, 0, 0, 0, 14), (14, 25, 257, 9, 209, 17), (17, 20, 3, 93, 0, 20), (20, 2, 0, 0, 0, 21), (21, 1, 4, 0, 0, 23), (23, 0, 0, 0, 0, 24), (24, 39, 51, 49, 583, 27), (27, 4, 5, 0, 0, 29), (29, 0, 0, 0, 1, 30), (30, 4, 6, 0, 0, 32), (32, 1, 6, 0, 0, 34), (34, 1, 5, 0, 0, 36), (36, 41, 34, 56, 639, 39), (39, 20, 4, 63, 0, 42), (42, 1, 3, 0, 0, 43), (43, 1, 2, 0, 0, 44), (44, 2, 0, 0, 0, 45), (45, 1, 4, 0, 0, 47), (47, 1, 6, 0, 0, 49), (49, 39, 51, 49, 583, 52), (52, 1, 1, 0, 0, 53), (53, 8, 2, 0, 0, 54), (54, 8, 6, 0, 0, 55), (55, 8, 4, 0, 0, 56), (56, 4, 3, 0, 0, 57), (57, 7, 6, 0, 1, 60), (60, 21, 0, 32, 0, 63), (63, 1, 5, 0, 0, 65), (65, 41, 41, 81, 591, 68), (68, 19, 0, 87, 0, 71), (71, 1, 3, 0, 0, 72), (72, 1, 2, 0, 0, 73), (73, 0, 0, 0, 4, 74), (74, 2, 0, 0, 0, 75), (75, 1, 4, 0, 0, 77), (77, 0, 0, 0, 2, 78), (78, 39, 51, 49, 583, 81), (81, 8, 0, 0, 0, 82), (82, 1, 1, 0, 0, 83), (83, 8, 2, 0, 0, 84), (84, 8, 6, 0, 0, 85), (85, 8, 4, 0, 0, 86), (86, 4, 3, 0, 0, 87), (87, 7, 4, 0, 1, 90), (90, 21, 0, 11, 0, 93), (93, 1, 3, 0, 0, 94), (94, 46, 0, 0, 0, 95)])
def jm_116 : jM := (⟨"RuleMill", "differs", "()I"⟩, prog_1_method_24_code, 1, (some (.int)), 1, 9, [877, 81, 875, 876], [(0, 2, 0, 0, 0, 1), (1, 25, 589, 81, 287, 4), (4, 46, 0, 0, 0, 5)])
def jm_117 : jM := (⟨"RuleMill", "count", "(I)I"⟩, prog_1_method_25_code, 2, (some (.int)), 2, 9, [881, 81, 879, 880], [(0, 1, 1, 0, 0, 1), (1, 50, 4, 0, 0, 40), (40, 2, 0, 0, 0, 41), (41, 25, 585, 68, 283, 44), (44, 46, 0, 0, 0, 45), (45, 2, 0, 0, 0, 46), (46, 39, 118, 232, 882, 49), (49, 46, 0, 0, 0, 50), (50, 2, 0, 0, 0, 51), (51, 25, 586, 72, 284, 54), (54, 46, 0, 0, 0, 55), (55, 2, 0, 0, 0, 56), (56, 25, 577, 20, 275, 59), (59, 25, 449, 93, 121, 62), (62, 46, 0, 0, 0, 63), (63, 2, 0, 0, 0, 64), (64, 25, 587, 75, 285, 67), (67, 46, 0, 0, 0, 68), (68, 2, 0, 0, 0, 69), (69, 25, 582, 54, 280, 72), (72, 25, 385, 211, 265, 75), (75, 46, 0, 0, 0, 76), (76, 0, 0, 0, (-1), 77), (77, 46, 0, 0, 0, 78)])
def jm_118 : jM := (⟨"RuleMill", "soundRules", "()I"⟩, prog_1_method_31_code, 4, (some (.int)), 1, 9, [885, 81, 884, 37], [(0, 0, 0, 0, 0, 1), (1, 4, 1, 0, 0, 2), (2, 0, 0, 0, 0, 3), (3, 4, 2, 0, 0, 4), (4, 1, 2, 0, 0, 5), (5, 2, 0, 0, 0, 6), (6, 25, 585, 68, 283, 9), (9, 20, 3, 38, 0, 12), (12, 2, 0, 0, 0, 13), (13, 1, 2, 0, 0, 14), (14, 39, 81, 127, 712, 17), (17, 5, 3, 0, 0, 18), (18, 2, 3, 0, 0, 19), (19, 22, 0, 32, 0, 22), (22, 2, 3, 0, 0, 23), (23, 25, 331, 139, 390, 26), (26, 19, 0, 32, 0, 29), (29, 7, 1, 0, 1, 32), (32, 7, 2, 0, 1, 35), (35, 21, 0, 4, 0, 38), (38, 1, 1, 0, 0, 39), (39, 46, 0, 0, 0, 40)])
def jm_119 : jM := (⟨"RuleMill", "drop", "()I"⟩, prog_1_method_26_code, 1, (some (.int)), 1, 9, [889, 81, 887, 888], [(0, 2, 0, 0, 0, 1), (1, 25, 586, 72, 284, 4), (4, 19, 1, 10, 0, 7), (7, 0, 0, 0, (-4), 9), (9, 46, 0, 0, 0, 10), (10, 2, 0, 0, 0, 11), (11, 16, 0, 0, 0, 12), (12, 25, 586, 72, 284, 15), (15, 0, 0, 0, 1, 16), (16, 8, 1, 0, 0, 17), (17, 26, 586, 72, 284, 20), (20, 2, 0, 0, 0, 21), (21, 25, 586, 72, 284, 24), (24, 46, 0, 0, 0, 25)])
def jm_120 : jM := (⟨"RuleMillModel", "<init>", "()V"⟩, prog_12_method_1_code, 1, none, 1, 10, [894, 91, 893], [(0, 2, 0, 0, 0, 1), (1, 44, 0, 1, 895, 4), (4, 2, 0, 0, 0, 5), (5, 0, 0, 0, 2, 6), (6, 26, 640, 7, 899, 9), (9, 2, 0, 0, 0, 10), (10, 0, 0, 0, 400, 13), (13, 36, 0, 0, 0, 15), (15, 27, 641, 13, 900, 18), (18, 2, 0, 0, 0, 19), (19, 0, 0, 0, 8, 21), (21, 36, 0, 0, 0, 23), (23, 27, 643, 17, 902, 26), (26, 2, 0, 0, 0, 27), (27, 0, 0, 0, 48, 29), (29, 36, 0, 0, 0, 31), (31, 27, 645, 20, 904, 34), (34, 2, 0, 0, 0, 35), (35, 0, 0, 0, 192, 38), (38, 36, 0, 0, 0, 40), (40, 27, 646, 23, 905, 43), (43, 2, 0, 0, 0, 44), (44, 0, 0, 0, 576, 47), (47, 36, 0, 0, 0, 49), (49, 27, 647, 26, 906, 52), (52, 2, 0, 0, 0, 53), (53, 0, 0, 0, 384, 56), (56, 36, 2, 0, 0, 58), (58, 27, 648, 29, 907, 61), (61, 2, 0, 0, 0, 62), (62, 0, 0, 0, 384, 65), (65, 36, 0, 0, 0, 67), (67, 27, 649, 33, 908, 70), (70, 2, 0, 0, 0, 71), (71, 0, 0, 0, 192, 74), (74, 36, 0, 0, 0, 76), (76, 27, 650, 36, 909, 79), (79, 2, 0, 0, 0, 80), (80, 0, 0, 0, 24, 82), (82, 36, 0, 0, 0, 84), (84, 27, 651, 39, 910, 87), (87, 2, 0, 0, 0, 88), (88, 0, 0, 0, 24, 90), (90, 36, 0, 0, 0, 92), (92, 27, 652, 42, 911, 95), (95, 2, 0, 0, 0, 96), (96, 0, 0, 0, 72, 98), (98, 36, 0, 0, 0, 100), (100, 27, 653, 45, 912, 103), (103, 2, 0, 0, 0, 104), (104, 0, 0, 0, 24, 106), (106, 36, 2, 0, 0, 108), (108, 27, 654, 48, 913, 111), (111, 2, 0, 0, 0, 112), (112, 0, 0, 0, 24, 114), (114, 36, 0, 0, 0, 116), (116, 27, 655, 51, 914, 119), (119, 2, 0, 0, 0, 120), (120, 0, 0, 0, 24, 122), (122, 36, 0, 0, 0, 124), (124, 27, 656, 54, 915, 127), (127, 2, 0, 0, 0, 128), (128, 0, 0, 0, 264, 131), (131, 36, 0, 0, 0, 133), (133, 27, 657, 57, 916, 136), (136, 2, 0, 0, 0, 137), (137, 0, 0, 0, 24, 139), (139, 36, 2, 0, 0, 141), (141, 27, 658, 60, 917, 144), (144, 2, 0, 0, 0, 145), (145, 0, 0, 0, 24, 147), (147, 36, 0, 0, 0, 149), (149, 27, 659, 63, 918, 152), (152, 2, 0, 0, 0, 153), (153, 0, 0, 0, 16, 155), (155, 36, 0, 0, 0, 157), (157, 27, 661, 66, 920, 160), (160, 2, 0, 0, 0, 161), (161, 0, 0, 0, 384, 164), (164, 36, 0, 0, 0, 166), (166, 27, 662, 69, 921, 169), (169, 2, 0, 0, 0, 170), (170, 0, 0, 0, 384, 173), (173, 36, 0, 0, 0, 175), (175, 27, 663, 72, 922, 178), (178, 2, 0, 0, 0, 179), (179, 0, 0, 0, 384, 182), (182, 36, 0, 0, 0, 184), (184, 27, 664, 75, 923, 187), (187, 2, 0, 0, 0, 188), (188, 0, 0, 0, 384, 191), (191, 36, 0, 0, 0, 193), (193, 27, 665, 78, 924, 196), (196, 2, 0, 0, 0, 197), (197, 0, 0, 0, 19, 199), (199, 36, 0, 0, 0, 201), (201, 16, 0, 0, 0, 202), (202, 0, 0, 0, 0, 203), (203, 0, 0, 0, 115, 205), (205, 0, 0, 0, 101, 207), (207, 0, 0, 0, 116, 209), (209, 38, 121, 81, 896, 212), (212, 29, 0, 0, 0, 213), (213, 16, 0, 0, 0, 214), (214, 0, 0, 0, 1, 215), (215, 0, 0, 0, 109, 217), (217, 0, 0, 0, 111, 219), (219, 0, 0, 0, 118, 221), (221, 38, 121, 81, 896, 224), (224, 29, 0, 0, 0, 225), (225, 16, 0, 0, 0, 226), (226, 0, 0, 0, 2, 227), (227, 0, 0, 0, 97, 229), (229, 0, 0, 0, 100, 231), (231, 0, 0, 0, 100, 233), (233, 38, 121, 81, 896, 236), (236, 29, 0, 0, 0, 237), (237, 16, 0, 0, 0, 238), (238, 0, 0, 0, 3, 239), (239, 0, 0, 0, 115, 241), (241, 0, 0, 0, 117, 243), (243, 0, 0, 0, 98, 245), (245, 38, 121, 81, 896, 248), (248, 29, 0, 0, 0, 249), (249, 16, 0, 0, 0, 250), (250, 0, 0, 0, 4, 251), (251, 0, 0, 0, 97, 253), (253, 0, 0, 0, 110, 255), (255, 0, 0, 0, 100, 257), (257, 38, 121, 81, 896, 260), (260, 29, 0, 0, 0, 261), (261, 16, 0, 0, 0, 262), (262, 0, 0, 0, 5, 263), (263, 0, 0, 0, 111, 265), (265, 0, 0, 0, 114, 267), (267, 0, 0, 0, 0, 268), (268, 38, 121, 81, 896, 271), (271, 29, 0, 0, 0, 272), (272, 16, 0, 0, 0, 273), (273, 0, 0, 0, 6, 275), (275, 0, 0, 0, 120, 277), (277, 0, 0, 0, 111, 279), (279, 0, 0, 0, 114, 281), (281, 38, 121, 81, 896, 284), (284, 29, 0, 0, 0, 285), (285, 16, 0, 0, 0, 286), (286, 0, 0, 0, 7, 288), (288, 0, 0, 0, 109, 290), (290, 0, 0, 0, 117, 292), (292, 0, 0, 0, 108, 294), (294, 38, 121, 81, 896, 297), (297, 29, 0, 0, 0, 298), (298, 16, 0, 0, 0, 299), (299, 0, 0, 0, 8, 301), (301, 0, 0, 0, 105, 303), (303, 0, 0, 0, 110, 305), (305, 0, 0, 0, 99, 307), (307, 38, 121, 81, 896, 310), (310, 29, 0, 0, 0, 311), (311, 16, 0, 0, 0, 312), (312, 0, 0, 0, 9, 314), (314, 0, 0, 0, 100, 316), (316, 0, 0, 0, 101, 318), (318, 0, 0, 0, 99, 320), (320, 38, 121, 81, 896, 323), (323, 29, 0, 0, 0, 324), (324, 16, 0, 0, 0, 325), (325, 0, 0, 0, 10, 327), (327, 0, 0, 0, 110, 329), (329, 0, 0, 0, 111, 331), (331, 0, 0, 0, 116, 333), (333, 38, 121, 81, 896, 336), (336, 29, 0, 0, 0, 337), (337, 16, 0, 0, 0, 338), (338, 0, 0, 0, 11, 340), (340, 0, 0, 0, 110, 342), (342, 0, 0, 0, 101, 344), (344, 0, 0, 0, 103, 346), (346, 38, 121, 81, 896, 349), (349, 29, 0, 0, 0, 350), (350, 16, 0, 0, 0, 351), (351, 0, 0, 0, 12, 353), (353, 0, 0, 0, 115, 355), (355, 0, 0, 0, 104, 357), (357, 0, 0, 0, 108, 359), (359, 38, 121, 81, 896, 362), (362, 29, 0, 0, 0, 363), (363, 16, 0, 0, 0, 364), (364, 0, 0, 0, 13, 366), (366, 0, 0, 0, 115, 368), (368, 0, 0, 0, 104, 370), (370, 0, 0, 0, 114, 372), (372, 38, 121, 81, 896, 375), (375, 29, 0, 0, 0, 376), (376, 16, 0, 0, 0, 377), (377, 0, 0, 0, 14, 379), (379, 0, 0, 0, 115, 381), (381, 0, 0, 0, 101, 383), (383, 0, 0, 0, 108, 385), (385, 38, 121, 81, 896, 388), (388, 29, 0, 0, 0, 389), (389, 16, 0, 0, 0, 390), (390, 0, 0, 0, 15, 392), (392, 0, 0, 0, 103, 394), (394, 0, 0, 0, 101, 396), (396, 0, 0, 0, 116, 398), (398, 38, 121, 81, 896, 401), (401, 29, 0, 0, 0, 402), (402, 16, 0, 0, 0, 403), (403, 0, 0, 0, 16, 405), (405, 0, 0, 0, 112, 407), (407, 0, 0, 0, 117, 409), (409, 0, 0, 0, 116, 411), (411, 38, 121, 81, 896, 414), (414, 29, 0, 0, 0, 415), (415, 16, 0, 0, 0, 416), (416, 0, 0, 0, 17, 418), (418, 0, 0, 0, 110, 420), (420, 0, 0, 0, 111, 422), (422, 0, 0, 0, 112, 424), (424, 38, 121, 81, 896, 427), (427, 29, 0, 0, 0, 428), (428, 16, 0, 0, 0, 429), (429, 0, 0, 0, 18, 431), (431, 0, 0, 0, 115, 433), (433, 0, 0, 0, 119, 435), (435, 0, 0, 0, 112, 437), (437, 38, 121, 81, 896, 440), (440, 29, 0, 0, 0, 441), (441, 27, 669, 85, 928, 444), (444, 2, 0, 0, 0, 445), (445, 0, 0, 0, 4, 446), (446, 36, 0, 0, 0, 448), (448, 27, 670, 88, 929, 451), (451, 2, 0, 0, 0, 452), (452, 0, 0, 0, 3, 453), (453, 36, 0, 0, 0, 455), (455, 27, 671, 91, 930, 458), (458, 2, 0, 0, 0, 459), (459, 0, 0, 0, 11, 461), (461, 36, 0, 0, 0, 463), (463, 27, 672, 94, 931, 466), (466, 2, 0, 0, 0, 467), (467, 0, 0, 0, 8, 469), (469, 36, 0, 0, 0, 471), (471, 27, 673, 97, 932, 474), (474, 2, 0, 0, 0, 475), (475, 0, 0, 0, 400, 478), (478, 36, 0, 0, 0, 480), (480, 27, 674, 100, 933, 483), (483, 2, 0, 0, 0, 484), (484, 0, 0, 0, 4, 485), (485, 36, 0, 0, 0, 487), (487, 27, 676, 103, 935, 490), (490, 2, 0, 0, 0, 491), (491, 0, 0, 0, 3, 492), (492, 36, 0, 0, 0, 494), (494, 27, 677, 106, 936, 497), (497, 2, 0, 0, 0, 498), (498, 0, 0, 0, 200, 501), (501, 36, 0, 0, 0, 503), (503, 27, 679, 109, 938, 506), (506, 2, 0, 0, 0, 507), (507, 0, 0, 0, 200, 510), (510, 36, 0, 0, 0, 512), (512, 27, 680, 112, 939, 515), (515, 2, 0, 0, 0, 516), (516, 0, 0, 0, 200, 519), (519, 36, 0, 0, 0, 521), (521, 27, 681, 115, 940, 524), (524, 2, 0, 0, 0, 525), (525, 0, 0, 0, (-4), 527), (527, 26, 682, 118, 941, 530), (530, 45, 0, 0, 0, 531)])
def jm_121 : jM := (⟨"RuleMillModel", "code", "(III)I"⟩, prog_12_method_21_code, 3, (some (.int)), 3, 10, [898, 91, 897], [(0, 1, 2, 0, 0, 1), (1, 19, 1, 19, 0, 4), (4, 0, 0, 0, 27, 6), (6, 1, 0, 0, 0, 7), (7, 0, 0, 0, 96, 9), (9, 8, 1, 0, 0, 10), (10, 8, 2, 0, 0, 11), (11, 1, 1, 0, 0, 12), (12, 8, 0, 0, 0, 13), (13, 0, 0, 0, 96, 15), (15, 8, 1, 0, 0, 16), (16, 21, 0, 40, 0, 19), (19, 0, 0, 0, 729, 22), (22, 1, 0, 0, 0, 23), (23, 0, 0, 0, 96, 25), (25, 8, 1, 0, 0, 26), (26, 8, 2, 0, 0, 27), (27, 0, 0, 0, 27, 29), (29, 1, 1, 0, 0, 30), (30, 0, 0, 0, 96, 32), (32, 8, 1, 0, 0, 33), (33, 8, 2, 0, 0, 34), (34, 8, 0, 0, 0, 35), (35, 1, 2, 0, 0, 36), (36, 8, 0, 0, 0, 37), (37, 0, 0, 0, 96, 39), (39, 8, 1, 0, 0, 40), (40, 46, 0, 0, 0, 41)])
def jm_122 : jM := (⟨"RuleMillModel", "width", "(I)I"⟩, prog_12_method_11_code, 3, (some (.int)), 2, 10, [1033, 91, 1031, 1032], [(0, 1, 1, 0, 0, 1), (1, 10, 0, 0, 0, 2), (2, 12, 0, 0, 1, 3), (3, 12, 1034, 125, 3, 6), (6, 38, 123, 127, 1035, 9), (9, 19, 1, 14, 0, 12), (12, 0, 0, 0, (-1), 13), (13, 46, 0, 0, 0, 14), (14, 2, 0, 0, 0, 15), (15, 25, 644, 131, 903, 18), (18, 19, 4, 28, 0, 21), (21, 2, 0, 0, 0, 22), (22, 25, 660, 134, 919, 25), (25, 19, 5, 31, 0, 28), (28, 0, 0, 0, (-2), 30), (30, 46, 0, 0, 0, 31), (31, 2, 0, 0, 0, 32), (32, 25, 640, 7, 899, 35), (35, 4, 2, 0, 0, 36), (36, 2, 0, 0, 0, 37), (37, 1, 1, 0, 0, 38), (38, 26, 640, 7, 899, 41), (41, 1, 2, 0, 0, 42), (42, 46, 0, 0, 0, 43)])
def jm_123 : jM := (⟨"RuleMillModel", "in", "(JJJ)Z"⟩, prog_12_method_3_code, 6, (some (.boolean)), 3, 10, [1037, 91, 1036], [(0, 3, 0, 0, 0, 1), (1, 3, 2, 0, 0, 2), (2, 14, 0, 0, 0, 3), (3, 19, 2, 17, 0, 6), (6, 3, 0, 0, 0, 7), (7, 3, 4, 0, 0, 9), (9, 14, 0, 0, 0, 10), (10, 19, 4, 17, 0, 13), (13, 0, 0, 0, 1, 14), (14, 21, 0, 18, 0, 17), (17, 0, 0, 0, 0, 18), (18, 47, 0, 0, 0, 19)])
def jm_124 : jM := (⟨"RuleMillModel", "feed", "(IIIII)I"⟩, prog_12_method_13_code, 6, (some (.int)), 6, 10, [1041, 91, 1039, 1040], [(0, 2, 0, 0, 0, 1), (1, 25, 642, 137, 901, 4), (4, 0, 0, 0, 20, 6), (6, 8, 0, 0, 0, 7), (7, 0, 0, 0, 400, 10), (10, 20, 5, 16, 0, 13), (13, 0, 0, 0, (-3), 15), (15, 46, 0, 0, 0, 16), (16, 2, 0, 0, 0, 17), (17, 1, 1, 0, 0, 18), (18, 39, 125, 140, 1042, 21), (21, 2, 0, 0, 0, 22), (22, 1, 2, 0, 0, 23), (23, 39, 125, 140, 1042, 26), (26, 2, 0, 0, 0, 27), (27, 1, 3, 0, 0, 28), (28, 39, 125, 140, 1042, 31), (31, 2, 0, 0, 0, 32), (32, 1, 4, 0, 0, 34), (34, 39, 125, 140, 1042, 37), (37, 2, 0, 0, 0, 38), (38, 1, 5, 0, 0, 40), (40, 39, 125, 140, 1042, 43), (43, 2, 0, 0, 0, 44), (44, 25, 642, 137, 901, 47), (47, 46, 0, 0, 0, 48)])
def jm_125 : jM := (⟨"RuleMillModel", "put", "(I)V"⟩, prog_12_method_12_code, 3, none, 2, 10, [1045, 91, 1044, 38], [(0, 0, 0, 0, 24, 2), (2, 4, 2, 0, 0, 3), (3, 1, 2, 0, 0, 4), (4, 19, 2, 39, 0, 7), (7, 2, 0, 0, 0, 8), (8, 25, 641, 13, 900, 11), (11, 2, 0, 0, 0, 12), (12, 25, 642, 137, 901, 15), (15, 1, 1, 0, 0, 16), (16, 1, 2, 0, 0, 17), (17, 8, 7, 0, 0, 18), (18, 0, 0, 0, 255, 21), (21, 8, 3, 0, 0, 22), (22, 29, 0, 0, 0, 23), (23, 2, 0, 0, 0, 24), (24, 16, 0, 0, 0, 25), (25, 25, 642, 137, 901, 28), (28, 0, 0, 0, 1, 29), (29, 8, 0, 0, 0, 30), (30, 26, 642, 137, 901, 33), (33, 7, 2, 0, (-8), 36), (36, 21, 0, 3, 0, 39), (39, 45, 0, 0, 0, 40)])
def jm_126 : jM := (⟨"RuleMillModel", "end", "(I)I"⟩, prog_12_method_14_code, 3, (some (.int)), 2, 10, [1049, 91, 1047, 1048], [(0, 1, 1, 0, 0, 1), (1, 10, 0, 0, 0, 2), (2, 12, 0, 0, 0, 3), (3, 2, 0, 0, 0, 4), (4, 25, 642, 137, 901, 7), (7, 10, 0, 0, 0, 8), (8, 38, 123, 127, 1035, 11), (11, 19, 1, 16, 0, 14), (14, 0, 0, 0, (-1), 15), (15, 46, 0, 0, 0, 16), (16, 2, 0, 0, 0, 17), (17, 25, 642, 137, 901, 20), (20, 4, 2, 0, 0, 21), (21, 2, 0, 0, 0, 22), (22, 1, 1, 0, 0, 23), (23, 26, 642, 137, 901, 26), (26, 1, 2, 0, 0, 27), (27, 46, 0, 0, 0, 28)])
def jm_127 : jM := (⟨"RuleMillModel", "rule", "()I"⟩, prog_12_method_41_code, 4, (some (.int)), 1, 10, [1053, 91, 1051, 1052], [(0, 2, 0, 0, 0, 1), (1, 25, 644, 131, 903, 4), (4, 0, 0, 0, 24, 6), (6, 20, 1, 12, 0, 9), (9, 0, 0, 0, (-3), 11), (11, 46, 0, 0, 0, 12), (12, 2, 0, 0, 0, 13), (13, 0, 0, 0, 0, 14), (14, 26, 667, 147, 926, 17), (17, 2, 0, 0, 0, 18), (18, 2, 0, 0, 0, 19), (19, 25, 644, 131, 903, 22), (22, 39, 128, 244, 1054, 25), (25, 2, 0, 0, 0, 26), (26, 25, 667, 147, 926, 29), (29, 19, 1, 104, 0, 32), (32, 12, 0, 0, 1, 33), (33, 6, 1, 0, 0, 34), (34, 0, 0, 0, 0, 35), (35, 4, 3, 0, 0, 36), (36, 1, 3, 0, 0, 37), (37, 2, 0, 0, 0, 38), (38, 2, 0, 0, 0, 39), (39, 25, 644, 131, 903, 42), (42, 39, 149, 235, 1133, 45), (45, 20, 3, 67, 0, 48), (48, 3, 1, 0, 0, 49), (49, 2, 0, 0, 0, 50), (50, 2, 0, 0, 0, 51), (51, 25, 644, 131, 903, 54), (54, 1, 3, 0, 0, 55), (55, 39, 150, 241, 1137, 58), (58, 10, 0, 0, 0, 59), (59, 13, 0, 0, 0, 60), (60, 6, 1, 0, 0, 61), (61, 7, 3, 0, 1, 64), (64, 21, 0, 36, 0, 67), (67, 3, 1, 0, 0, 68), (68, 12, 1141, 247, 70000, 71), (71, 14, 0, 0, 0, 72), (72, 19, 5, 81, 0, 75), (75, 2, 0, 0, 0, 76), (76, 0, 0, 0, 5, 77), (77, 0, 0, 0, 0, 78), (78, 39, 136, 168, 1085, 81), (81, 2, 0, 0, 0, 82), (82, 25, 655, 51, 914, 85), (85, 2, 0, 0, 0, 86), (86, 25, 644, 131, 903, 89), (89, 3, 1, 0, 0, 90), (90, 12, 1141, 247, 70000, 93), (93, 14, 0, 0, 0, 94), (94, 19, 5, 101, 0, 97), (97, 12, 0, 0, 0, 98), (98, 21, 0, 102, 0, 101), (101, 3, 1, 0, 0, 102), (102, 11, 0, 0, 0, 103), (103, 29, 0, 0, 0, 104), (104, 2, 0, 0, 0, 105), (105, 0, 0, 0, 0, 106), (106, 26, 642, 137, 901, 109), (109, 2, 0, 0, 0, 110), (110, 25, 667, 147, 926, 113), (113, 19, 5, 124, 0, 116), (116, 0, 0, 0, (-10), 118), (118, 2, 0, 0, 0, 119), (119, 25, 668, 150, 927, 122), (122, 8, 1, 0, 0, 123), (123, 46, 0, 0, 0, 124), (124, 2, 0, 0, 0, 125), (125, 2, 0, 0, 0, 126), (126, 25, 644, 131, 903, 129), (129, 39, 151, 249, 1142, 132), (132, 2, 0, 0, 0, 133), (133, 25, 658, 60, 917, 136), (136, 2, 0, 0, 0, 137), (137, 25, 644, 131, 903, 140), (140, 0, 0, 0, 1, 141), (141, 31, 0, 0, 0, 142), (142, 2, 0, 0, 0, 143), (143, 25, 659, 63, 918, 146), (146, 2, 0, 0, 0, 147), (147, 25, 644, 131, 903, 150), (150, 0, 0, 0, 0, 151), (151, 29, 0, 0, 0, 152), (152, 2, 0, 0, 0, 153), (153, 16, 0, 0, 0, 154), (154, 25, 644, 131, 903, 157), (157, 0, 0, 0, 1, 158), (158, 8, 0, 0, 0, 159), (159, 26, 644, 131, 903, 162), (162, 2, 0, 0, 0, 163), (163, 25, 644, 131, 903, 166), (166, 0, 0, 0, 1, 167), (167, 8, 1, 0, 0, 168), (168, 46, 0, 0, 0, 169)])
def jm_128 : jM := (⟨"RuleMillModel", "readRule", "(I)V"⟩, prog_12_method_34_code, 2, none, 2, 10, [1057, 91, 1056, 39], [(0, 2, 0, 0, 0, 1), (1, 0, 0, 0, 0, 2), (2, 26, 666, 144, 925, 5), (5, 2, 0, 0, 0, 6), (6, 25, 651, 39, 910, 9), (9, 1, 1, 0, 0, 10), (10, 0, 0, 0, 0, 11), (11, 29, 0, 0, 0, 12), (12, 2, 0, 0, 0, 13), (13, 25, 652, 42, 911, 16), (16, 1, 1, 0, 0, 17), (17, 0, 0, 0, 0, 18), (18, 29, 0, 0, 0, 19), (19, 2, 0, 0, 0, 20), (20, 25, 654, 48, 913, 23), (23, 1, 1, 0, 0, 24), (24, 0, 0, 0, 0, 25), (25, 31, 0, 0, 0, 26), (26, 2, 0, 0, 0, 27), (27, 39, 129, 172, 1058, 30), (30, 2, 0, 0, 0, 31), (31, 25, 645, 20, 904, 34), (34, 0, 0, 0, 2, 35), (35, 1, 1, 0, 0, 36), (36, 8, 2, 0, 0, 37), (37, 2, 0, 0, 0, 38), (38, 1, 1, 0, 0, 39), (39, 0, 0, 0, 0, 40), (40, 39, 131, 221, 1066, 43), (43, 29, 0, 0, 0, 44), (44, 2, 0, 0, 0, 45), (45, 25, 667, 147, 926, 48), (48, 19, 1, 158, 0, 51), (51, 2, 0, 0, 0, 52), (52, 39, 130, 153, 1062, 55), (55, 0, 0, 0, 61, 57), (57, 20, 1, 149, 0, 60), (60, 2, 0, 0, 0, 61), (61, 25, 666, 144, 925, 64), (64, 0, 0, 0, 1, 65), (65, 8, 0, 0, 0, 66), (66, 2, 0, 0, 0, 67), (67, 25, 642, 137, 901, 70), (70, 20, 3, 149, 0, 73), (73, 2, 0, 0, 0, 74), (74, 25, 641, 13, 900, 77), (77, 2, 0, 0, 0, 78), (78, 25, 666, 144, 925, 81), (81, 0, 0, 0, 1, 82), (82, 8, 0, 0, 0, 83), (83, 28, 0, 0, 0, 84), (84, 0, 0, 0, 62, 86), (86, 20, 1, 149, 0, 89), (89, 2, 0, 0, 0, 90), (90, 16, 0, 0, 0, 91), (91, 25, 666, 144, 925, 94), (94, 0, 0, 0, 2, 95), (95, 8, 0, 0, 0, 96), (96, 26, 666, 144, 925, 99), (99, 2, 0, 0, 0, 100), (100, 39, 129, 172, 1058, 103), (103, 2, 0, 0, 0, 104), (104, 25, 645, 20, 904, 107), (107, 0, 0, 0, 2, 108), (108, 1, 1, 0, 0, 109), (109, 8, 2, 0, 0, 110), (110, 0, 0, 0, 1, 111), (111, 8, 0, 0, 0, 112), (112, 2, 0, 0, 0, 113), (113, 1, 1, 0, 0, 114), (114, 0, 0, 0, 1, 115), (115, 39, 131, 221, 1066, 118), (118, 29, 0, 0, 0, 119), (119, 2, 0, 0, 0, 120), (120, 25, 667, 147, 926, 123), (123, 19, 1, 158, 0, 126), (126, 2, 0, 0, 0, 127), (127, 25, 666, 144, 925, 130), (130, 2, 0, 0, 0, 131), (131, 25, 642, 137, 901, 134), (134, 20, 3, 158, 0, 137), (137, 2, 0, 0, 0, 138), (138, 0, 0, 0, 1, 139), (139, 2, 0, 0, 0, 140), (140, 25, 666, 144, 925, 143), (143, 39, 136, 168, 1085, 146), (146, 21, 0, 158, 0, 149), (149, 2, 0, 0, 0, 150), (150, 0, 0, 0, 1, 151), (151, 2, 0, 0, 0, 152), (152, 25, 666, 144, 925, 155), (155, 39, 136, 168, 1085, 158), (158, 45, 0, 0, 0, 159)])
def jm_129 : jM := (⟨"RuleMillModel", "blanks", "()V"⟩, prog_12_method_17_code, 1, none, 1, 10, [1061, 91, 1060, 40], [(0, 2, 0, 0, 0, 1), (1, 39, 130, 153, 1062, 4), (4, 0, 0, 0, 32, 6), (6, 20, 1, 22, 0, 9), (9, 2, 0, 0, 0, 10), (10, 16, 0, 0, 0, 11), (11, 25, 666, 144, 925, 14), (14, 0, 0, 0, 1, 15), (15, 8, 0, 0, 0, 16), (16, 26, 666, 144, 925, 19), (19, 21, 0, 0, 0, 22), (22, 45, 0, 0, 0, 23)])
def jm_130 : jM := (⟨"RuleMillModel", "look", "()I"⟩, prog_12_method_15_code, 1, (some (.int)), 1, 10, [1065, 91, 1064, 41], [(0, 2, 0, 0, 0, 1), (1, 25, 666, 144, 925, 4), (4, 2, 0, 0, 0, 5), (5, 25, 642, 137, 901, 8), (8, 20, 3, 23, 0, 11), (11, 2, 0, 0, 0, 12), (12, 25, 641, 13, 900, 15), (15, 2, 0, 0, 0, 16), (16, 25, 666, 144, 925, 19), (19, 28, 0, 0, 0, 20), (20, 21, 0, 24, 0, 23), (23, 0, 0, 0, (-1), 24), (24, 46, 0, 0, 0, 25)])
def jm_131 : jM := (⟨"RuleMillModel", "readSide", "(II)I"⟩, prog_12_method_33_code, 9, (some (.int)), 3, 10, [1069, 91, 1068, 42], [(0, 0, 0, 0, 0, 1), (1, 4, 3, 0, 0, 2), (2, 1, 2, 0, 0, 3), (3, 19, 0, 17, 0, 6), (6, 2, 0, 0, 0, 7), (7, 25, 666, 144, 925, 10), (10, 2, 0, 0, 0, 11), (11, 25, 642, 137, 901, 14), (14, 20, 3, 21, 0, 17), (17, 0, 0, 0, 1, 18), (18, 21, 0, 22, 0, 21), (21, 0, 0, 0, 0, 22), (22, 4, 4, 0, 0, 24), (24, 1, 4, 0, 0, 26), (26, 19, 0, 317, 0, 29), (29, 2, 0, 0, 0, 30), (30, 25, 667, 147, 926, 33), (33, 19, 1, 317, 0, 36), (36, 2, 0, 0, 0, 37), (37, 1, 3, 0, 0, 38), (38, 0, 0, 0, 4, 39), (39, 39, 132, 178, 1070, 42), (42, 4, 5, 0, 0, 44), (44, 0, 0, 0, 8, 46), (46, 1, 1, 0, 0, 47), (47, 8, 2, 0, 0, 48), (48, 0, 0, 0, 4, 49), (49, 1, 2, 0, 0, 50), (50, 8, 2, 0, 0, 51), (51, 8, 0, 0, 0, 52), (52, 1, 3, 0, 0, 53), (53, 8, 0, 0, 0, 54), (54, 4, 6, 0, 0, 56), (56, 2, 0, 0, 0, 57), (57, 25, 667, 147, 926, 60), (60, 19, 1, 71, 0, 63), (63, 1, 5, 0, 0, 65), (65, 38, 137, 181, 1089, 68), (68, 21, 0, 72, 0, 71), (71, 0, 0, 0, 0, 72), (72, 4, 7, 0, 0, 74), (74, 0, 0, 0, 0, 75), (75, 4, 8, 0, 0, 77), (77, 1, 8, 0, 0, 79), (79, 1, 7, 0, 0, 81), (81, 20, 3, 129, 0, 84), (84, 2, 0, 0, 0, 85), (85, 25, 667, 147, 926, 88), (88, 19, 1, 129, 0, 91), (91, 2, 0, 0, 0, 92), (92, 39, 138, 184, 1092, 95), (95, 2, 0, 0, 0, 96), (96, 25, 667, 147, 926, 99), (99, 19, 1, 123, 0, 102), (102, 2, 0, 0, 0, 103), (103, 1, 1, 0, 0, 104), (104, 0, 0, 0, 3, 105), (105, 1, 6, 0, 0, 107), (107, 8, 2, 0, 0, 108), (108, 1, 8, 0, 0, 110), (110, 8, 0, 0, 0, 111), (111, 1, 2, 0, 0, 112), (112, 19, 1, 119, 0, 115), (115, 0, 0, 0, 1, 116), (116, 21, 0, 120, 0, 119), (119, 0, 0, 0, 0, 120), (120, 39, 139, 210, 1096, 123), (123, 7, 8, 0, 1, 126), (126, 21, 0, 77, 0, 129), (129, 2, 0, 0, 0, 130), (130, 25, 667, 147, 926, 133), (133, 19, 1, 153, 0, 136), (136, 2, 0, 0, 0, 137), (137, 25, 650, 36, 909, 140), (140, 1, 6, 0, 0, 142), (142, 0, 0, 0, 0, 143), (143, 29, 0, 0, 0, 144), (144, 2, 0, 0, 0, 145), (145, 25, 646, 23, 905, 148), (148, 1, 6, 0, 0, 150), (150, 1, 5, 0, 0, 152), (152, 29, 0, 0, 0, 153), (153, 2, 0, 0, 0, 154), (154, 25, 667, 147, 926, 157), (157, 19, 1, 256, 0, 160), (160, 1, 5, 0, 0, 162), (162, 38, 143, 190, 1111, 165), (165, 19, 0, 256, 0, 168), (168, 2, 0, 0, 0, 169), (169, 39, 138, 184, 1092, 172), (172, 2, 0, 0, 0, 173), (173, 25, 667, 147, 926, 176), (176, 19, 1, 199, 0, 179), (179, 2, 0, 0, 0, 180), (180, 1, 1, 0, 0, 181), (181, 0, 0, 0, 2, 182), (182, 1, 6, 0, 0, 184), (184, 8, 2, 0, 0, 185), (185, 1, 5, 0, 0, 187), (187, 1, 2, 0, 0, 188), (188, 19, 1, 195, 0, 191), (191, 0, 0, 0, 1, 192), (192, 21, 0, 196, 0, 195), (195, 0, 0, 0, 0, 196), (196, 39, 144, 214, 1114, 199), (199, 2, 0, 0, 0, 200), (200, 25, 667, 147, 926, 203), (203, 19, 1, 256, 0, 206), (206, 1, 2, 0, 0, 207), (207, 0, 0, 0, 1, 208), (208, 20, 1, 256, 0, 211), (211, 2, 0, 0, 0, 212), (212, 39, 130, 153, 1062, 215), (215, 38, 147, 218, 1126, 218), (218, 19, 0, 256, 0, 221), (221, 2, 0, 0, 0, 222), (222, 25, 650, 36, 909, 225), (225, 1, 6, 0, 0, 227), (227, 2, 0, 0, 0, 228), (228, 39, 130, 153, 1062, 231), (231, 29, 0, 0, 0, 232), (232, 2, 0, 0, 0, 233), (233, 16, 0, 0, 0, 234), (234, 25, 666, 144, 925, 237), (237, 0, 0, 0, 1, 238), (238, 8, 0, 0, 0, 239), (239, 26, 666, 144, 925, 242), (242, 2, 0, 0, 0, 243), (243, 1, 1, 0, 0, 244), (244, 0, 0, 0, 2, 245), (245, 1, 6, 0, 0, 247), (247, 8, 2, 0, 0, 248), (248, 0, 0, 0, 1, 249), (249, 8, 0, 0, 0, 250), (250, 1, 5, 0, 0, 252), (252, 0, 0, 0, 0, 253), (253, 39, 144, 214, 1114, 256), (256, 2, 0, 0, 0, 257), (257, 25, 667, 147, 926, 260), (260, 19, 1, 314, 0, 263), (263, 2, 0, 0, 0, 264), (264, 25, 654, 48, 913, 267), (267, 1, 1, 0, 0, 268), (268, 2, 0, 0, 0, 269), (269, 25, 654, 48, 913, 272), (272, 1, 1, 0, 0, 273), (273, 30, 0, 0, 0, 274), (274, 19, 1, 291, 0, 277), (277, 1, 5, 0, 0, 279), (279, 0, 0, 0, 15, 281), (281, 20, 0, 291, 0, 284), (284, 1, 5, 0, 0, 286), (286, 0, 0, 0, 16, 288), (288, 20, 1, 295, 0, 291), (291, 0, 0, 0, 1, 292), (292, 21, 0, 296, 0, 295), (295, 0, 0, 0, 0, 296), (296, 31, 0, 0, 0, 297), (297, 7, 3, 0, 1, 300), (300, 2, 0, 0, 0, 301), (301, 39, 148, 199, 1129, 304), (304, 19, 1, 311, 0, 307), (307, 0, 0, 0, 1, 308), (308, 21, 0, 312, 0, 311), (311, 0, 0, 0, 0, 312), (312, 4, 4, 0, 0, 314), (314, 21, 0, 24, 0, 317), (317, 1, 3, 0, 0, 318), (318, 46, 0, 0, 0, 319)])
def jm_132 : jM := (⟨"RuleMillModel", "readName", "(II)I"⟩, prog_12_method_23_code, 5, (some (.int)), 3, 10, [1073, 91, 1072, 43], [(0, 2, 0, 0, 0, 1), (1, 25, 666, 144, 925, 4), (4, 4, 3, 0, 0, 5), (5, 2, 0, 0, 0, 6), (6, 39, 130, 153, 1062, 9), (9, 38, 133, 157, 1074, 12), (12, 19, 0, 26, 0, 15), (15, 2, 0, 0, 0, 16), (16, 2, 0, 0, 0, 17), (17, 39, 134, 161, 1077, 20), (20, 39, 135, 164, 1081, 23), (23, 21, 0, 28, 0, 26), (26, 0, 0, 0, (-4), 28), (28, 4, 4, 0, 0, 30), (30, 1, 4, 0, 0, 32), (32, 0, 0, 0, (-4), 34), (34, 20, 1, 46, 0, 37), (37, 2, 0, 0, 0, 38), (38, 0, 0, 0, 1, 39), (39, 1, 3, 0, 0, 40), (40, 39, 136, 168, 1085, 43), (43, 21, 0, 57, 0, 46), (46, 1, 1, 0, 0, 47), (47, 1, 2, 0, 0, 48), (48, 20, 1, 57, 0, 51), (51, 2, 0, 0, 0, 52), (52, 0, 0, 0, 4, 53), (53, 1, 3, 0, 0, 54), (54, 39, 136, 168, 1085, 57), (57, 1, 4, 0, 0, 59), (59, 46, 0, 0, 0, 60)])
def jm_133 : jM := (⟨"RuleMillModel", "isLetter", "(I)Z"⟩, prog_12_method_18_code, 1, (some (.boolean)), 1, 10, [1076, 91, 1075], [(0, 1, 0, 0, 0, 1), (1, 0, 0, 0, 97, 3), (3, 20, 2, 16, 0, 6), (6, 1, 0, 0, 0, 7), (7, 0, 0, 0, 122, 9), (9, 20, 4, 16, 0, 12), (12, 0, 0, 0, 1, 13), (13, 21, 0, 17, 0, 16), (16, 0, 0, 0, 0, 17), (17, 47, 0, 0, 0, 18)])
def jm_134 : jM := (⟨"RuleMillModel", "word", "()I"⟩, prog_12_method_20_code, 3, (some (.int)), 1, 10, [1080, 91, 1079, 44], [(0, 0, 0, 0, 0, 1), (1, 4, 1, 0, 0, 2), (2, 0, 0, 0, 0, 3), (3, 4, 2, 0, 0, 4), (4, 2, 0, 0, 0, 5), (5, 39, 130, 153, 1062, 8), (8, 38, 133, 157, 1074, 11), (11, 19, 0, 54, 0, 14), (14, 0, 0, 0, 27, 16), (16, 1, 1, 0, 0, 17), (17, 8, 2, 0, 0, 18), (18, 2, 0, 0, 0, 19), (19, 39, 130, 153, 1062, 22), (22, 8, 0, 0, 0, 23), (23, 0, 0, 0, 96, 25), (25, 8, 1, 0, 0, 26), (26, 4, 1, 0, 0, 27), (27, 7, 2, 0, 1, 30), (30, 2, 0, 0, 0, 31), (31, 16, 0, 0, 0, 32), (32, 25, 666, 144, 925, 35), (35, 0, 0, 0, 1, 36), (36, 8, 0, 0, 0, 37), (37, 26, 666, 144, 925, 40), (40, 1, 2, 0, 0, 41), (41, 0, 0, 0, 3, 42), (42, 20, 5, 49, 0, 45), (45, 0, 0, 0, 0, 46), (46, 21, 0, 50, 0, 49), (49, 1, 1, 0, 0, 50), (50, 4, 1, 0, 0, 51), (51, 21, 0, 4, 0, 54), (54, 1, 2, 0, 0, 55), (55, 0, 0, 0, 3, 56), (56, 20, 5, 63, 0, 59), (59, 0, 0, 0, 0, 60), (60, 21, 0, 64, 0, 63), (63, 1, 1, 0, 0, 64), (64, 46, 0, 0, 0, 65)])
def jm_135 : jM := (⟨"RuleMillModel", "opNamed", "(I)I"⟩, prog_12_method_22_code, 3, (some (.int)), 2, 10, [1084, 91, 1083, 45], [(0, 0, 0, 0, 0, 1), (1, 4, 2, 0, 0, 2), (2, 1, 2, 0, 0, 3), (3, 0, 0, 0, 19, 5), (5, 20, 3, 26, 0, 8), (8, 2, 0, 0, 0, 9), (9, 25, 669, 85, 928, 12), (12, 1, 2, 0, 0, 13), (13, 28, 0, 0, 0, 14), (14, 1, 1, 0, 0, 15), (15, 20, 1, 20, 0, 18), (18, 1, 2, 0, 0, 19), (19, 46, 0, 0, 0, 20), (20, 7, 2, 0, 1, 23), (23, 21, 0, 2, 0, 26), (26, 0, 0, 0, (-4), 28), (28, 46, 0, 0, 0, 29)])
def jm_136 : jM := (⟨"RuleMillModel", "fails", "(II)V"⟩, prog_12_method_16_code, 3, none, 3, 10, [1088, 91, 1087, 46], [(0, 2, 0, 0, 0, 1), (1, 25, 667, 147, 926, 4), (4, 19, 1, 17, 0, 7), (7, 2, 0, 0, 0, 8), (8, 1, 1, 0, 0, 9), (9, 26, 667, 147, 926, 12), (12, 2, 0, 0, 0, 13), (13, 1, 2, 0, 0, 14), (14, 26, 668, 150, 927, 17), (17, 45, 0, 0, 0, 18)])
def jm_137 : jM := (⟨"RuleMillModel", "registersOf", "(I)I"⟩, prog_12_method_4_code, 1, (some (.int)), 1, 10, [1091, 91, 1090], [(0, 1, 0, 0, 0, 1), (1, 0, 0, 0, 17, 3), (3, 20, 1, 10, 0, 6), (6, 0, 0, 0, 0, 7), (7, 21, 0, 42, 0, 10), (10, 1, 0, 0, 0, 11), (11, 0, 0, 0, 14, 13), (13, 20, 1, 20, 0, 16), (16, 0, 0, 0, 3, 17), (17, 21, 0, 42, 0, 20), (20, 1, 0, 0, 0, 21), (21, 0, 0, 0, 1, 22), (22, 20, 2, 31, 0, 25), (25, 1, 0, 0, 0, 26), (26, 0, 0, 0, 7, 28), (28, 20, 5, 37, 0, 31), (31, 1, 0, 0, 0, 32), (32, 0, 0, 0, 18, 34), (34, 20, 1, 41, 0, 37), (37, 0, 0, 0, 2, 38), (38, 21, 0, 42, 0, 41), (41, 0, 0, 0, 1, 42), (42, 46, 0, 0, 0, 43)])
def jm_138 : jM := (⟨"RuleMillModel", "part1", "()V"⟩, prog_12_method_24_code, 1, none, 1, 10, [1095, 91, 1094, 47], [(0, 2, 0, 0, 0, 1), (1, 39, 130, 153, 1062, 4), (4, 0, 0, 0, 32, 6), (6, 20, 0, 18, 0, 9), (9, 2, 0, 0, 0, 10), (10, 0, 0, 0, 1, 11), (11, 2, 0, 0, 0, 12), (12, 25, 666, 144, 925, 15), (15, 39, 136, 168, 1085, 18), (18, 2, 0, 0, 0, 19), (19, 39, 129, 172, 1058, 22), (22, 45, 0, 0, 0, 23)])
def jm_139 : jM := (⟨"RuleMillModel", "readRegister", "(IIZ)V"⟩, prog_12_method_30_code, 7, none, 4, 10, [1099, 91, 1098, 48], [(0, 2, 0, 0, 0, 1), (1, 25, 666, 144, 925, 4), (4, 4, 4, 0, 0, 6), (6, 2, 0, 0, 0, 7), (7, 0, 0, 0, 112, 9), (9, 0, 0, 0, 4, 10), (10, 39, 140, 187, 1100, 13), (13, 4, 5, 0, 0, 15), (15, 2, 0, 0, 0, 16), (16, 25, 667, 147, 926, 19), (19, 19, 1, 88, 0, 22), (22, 2, 0, 0, 0, 23), (23, 2, 0, 0, 0, 24), (24, 25, 670, 88, 929, 27), (27, 1, 5, 0, 0, 29), (29, 2, 0, 0, 0, 30), (30, 25, 651, 39, 910, 33), (33, 1, 1, 0, 0, 34), (34, 28, 0, 0, 0, 35), (35, 1, 3, 0, 0, 36), (36, 1, 4, 0, 0, 38), (38, 39, 142, 203, 1107, 41), (41, 4, 6, 0, 0, 43), (43, 2, 0, 0, 0, 44), (44, 25, 651, 39, 910, 47), (47, 1, 1, 0, 0, 48), (48, 1, 6, 0, 0, 50), (50, 2, 0, 0, 0, 51), (51, 25, 651, 39, 910, 54), (54, 1, 1, 0, 0, 55), (55, 28, 0, 0, 0, 56), (56, 20, 1, 73, 0, 59), (59, 2, 0, 0, 0, 60), (60, 25, 667, 147, 926, 63), (63, 19, 1, 73, 0, 66), (66, 1, 6, 0, 0, 68), (68, 0, 0, 0, 1, 69), (69, 8, 0, 0, 0, 70), (70, 21, 0, 79, 0, 73), (73, 2, 0, 0, 0, 74), (74, 25, 651, 39, 910, 77), (77, 1, 1, 0, 0, 78), (78, 28, 0, 0, 0, 79), (79, 29, 0, 0, 0, 80), (80, 2, 0, 0, 0, 81), (81, 25, 647, 26, 906, 84), (84, 1, 2, 0, 0, 85), (85, 1, 6, 0, 0, 87), (87, 29, 0, 0, 0, 88), (88, 45, 0, 0, 0, 89)])
def jm_140 : jM := (⟨"RuleMillModel", "letterAlone", "(II)I"⟩, prog_12_method_25_code, 6, (some (.int)), 3, 10, [1103, 91, 1102, 49], [(0, 2, 0, 0, 0, 1), (1, 25, 666, 144, 925, 4), (4, 4, 3, 0, 0, 5), (5, 2, 0, 0, 0, 6), (6, 39, 130, 153, 1062, 9), (9, 4, 4, 0, 0, 11), (11, 1, 4, 0, 0, 13), (13, 38, 133, 157, 1074, 16), (16, 19, 0, 26, 0, 19), (19, 2, 0, 0, 0, 20), (20, 39, 134, 161, 1077, 23), (23, 21, 0, 27, 0, 26), (26, 0, 0, 0, 0, 27), (27, 4, 5, 0, 0, 29), (29, 2, 0, 0, 0, 30), (30, 25, 666, 144, 925, 33), (33, 1, 3, 0, 0, 34), (34, 0, 0, 0, 1, 35), (35, 8, 0, 0, 0, 36), (36, 20, 1, 71, 0, 39), (39, 1, 4, 0, 0, 41), (41, 10, 0, 0, 0, 42), (42, 1, 1, 0, 0, 43), (43, 10, 0, 0, 0, 44), (44, 1, 1, 0, 0, 45), (45, 1, 2, 0, 0, 46), (46, 8, 0, 0, 0, 47), (47, 0, 0, 0, 1, 48), (48, 8, 1, 0, 0, 49), (49, 10, 0, 0, 0, 50), (50, 38, 123, 127, 1035, 53), (53, 19, 0, 71, 0, 56), (56, 1, 5, 0, 0, 58), (58, 19, 0, 71, 0, 61), (61, 2, 0, 0, 0, 62), (62, 39, 130, 153, 1062, 65), (65, 38, 141, 175, 1104, 68), (68, 19, 0, 79, 0, 71), (71, 2, 0, 0, 0, 72), (72, 0, 0, 0, 1, 73), (73, 1, 3, 0, 0, 74), (74, 39, 136, 168, 1085, 77), (77, 0, 0, 0, 0, 78), (78, 46, 0, 0, 0, 79), (79, 1, 4, 0, 0, 81), (81, 1, 1, 0, 0, 82), (82, 8, 1, 0, 0, 83), (83, 46, 0, 0, 0, 84)])
def jm_141 : jM := (⟨"RuleMillModel", "isFigure", "(I)Z"⟩, prog_12_method_19_code, 1, (some (.boolean)), 1, 10, [1106, 91, 1105], [(0, 1, 0, 0, 0, 1), (1, 0, 0, 0, 48, 3), (3, 20, 2, 16, 0, 6), (6, 1, 0, 0, 0, 7), (7, 0, 0, 0, 57, 9), (9, 20, 4, 16, 0, 12), (12, 0, 0, 0, 1, 13), (13, 21, 0, 17, 0, 16), (16, 0, 0, 0, 0, 17), (17, 47, 0, 0, 0, 18)])
def jm_142 : jM := (⟨"RuleMillModel", "known", "([IIIZI)I"⟩, prog_12_method_29_code, 7, (some (.int)), 6, 10, [1110, 91, 1109, 50], [(0, 0, 0, 0, 0, 1), (1, 4, 6, 0, 0, 3), (3, 1, 6, 0, 0, 5), (5, 1, 3, 0, 0, 6), (6, 20, 3, 26, 0, 9), (9, 2, 1, 0, 0, 10), (10, 1, 6, 0, 0, 12), (12, 28, 0, 0, 0, 13), (13, 1, 2, 0, 0, 14), (14, 20, 1, 20, 0, 17), (17, 1, 6, 0, 0, 19), (19, 46, 0, 0, 0, 20), (20, 7, 6, 0, 1, 23), (23, 21, 0, 3, 0, 26), (26, 1, 4, 0, 0, 28), (28, 19, 1, 40, 0, 31), (31, 2, 0, 0, 0, 32), (32, 0, 0, 0, 3, 33), (33, 1, 5, 0, 0, 35), (35, 39, 136, 168, 1085, 38), (38, 0, 0, 0, 0, 39), (39, 46, 0, 0, 0, 40), (40, 2, 1, 0, 0, 41), (41, 1, 3, 0, 0, 42), (42, 1, 2, 0, 0, 43), (43, 29, 0, 0, 0, 44), (44, 1, 3, 0, 0, 45), (45, 46, 0, 0, 0, 46)])
def jm_143 : jM := (⟨"RuleMillModel", "hasNumber", "(I)Z"⟩, prog_12_method_5_code, 1, (some (.boolean)), 1, 10, [1113, 91, 1112], [(0, 1, 0, 0, 0, 1), (1, 19, 0, 28, 0, 4), (4, 1, 0, 0, 0, 5), (5, 0, 0, 0, 12, 7), (7, 20, 0, 28, 0, 10), (10, 1, 0, 0, 0, 11), (11, 0, 0, 0, 13, 13), (13, 20, 0, 28, 0, 16), (16, 1, 0, 0, 0, 17), (17, 0, 0, 0, 15, 19), (19, 20, 0, 28, 0, 22), (22, 1, 0, 0, 0, 23), (23, 0, 0, 0, 16, 25), (25, 20, 1, 32, 0, 28), (28, 0, 0, 0, 1, 29), (29, 21, 0, 33, 0, 32), (32, 0, 0, 0, 0, 33), (33, 47, 0, 0, 0, 34)])
def jm_144 : jM := (⟨"RuleMillModel", "readOne", "(IIIZ)V"⟩, prog_12_method_31_code, 8, none, 5, 10, [1117, 91, 1116, 51], [(0, 2, 0, 0, 0, 1), (1, 25, 666, 144, 925, 4), (4, 4, 5, 0, 0, 6), (6, 2, 0, 0, 0, 7), (7, 39, 130, 153, 1062, 10), (10, 38, 141, 175, 1104, 13), (13, 19, 0, 34, 0, 16), (16, 2, 0, 0, 0, 17), (17, 25, 648, 29, 907, 20), (20, 1, 2, 0, 0, 21), (21, 0, 0, 0, 0, 22), (22, 31, 0, 0, 0, 23), (23, 2, 0, 0, 0, 24), (24, 25, 649, 33, 908, 27), (27, 1, 2, 0, 0, 28), (28, 2, 0, 0, 0, 29), (29, 39, 145, 193, 1118, 32), (32, 29, 0, 0, 0, 33), (33, 45, 0, 0, 0, 34), (34, 2, 0, 0, 0, 35), (35, 0, 0, 0, 105, 37), (37, 0, 0, 0, 3, 38), (38, 39, 140, 187, 1100, 41), (41, 4, 6, 0, 0, 43), (43, 2, 0, 0, 0, 44), (44, 25, 667, 147, 926, 47), (47, 19, 1, 178, 0, 50), (50, 2, 0, 0, 0, 51), (51, 2, 0, 0, 0, 52), (52, 25, 671, 91, 930, 55), (55, 1, 6, 0, 0, 57), (57, 2, 0, 0, 0, 58), (58, 25, 652, 42, 911, 61), (61, 1, 1, 0, 0, 62), (62, 28, 0, 0, 0, 63), (63, 1, 4, 0, 0, 65), (65, 1, 5, 0, 0, 67), (67, 39, 142, 203, 1107, 70), (70, 4, 7, 0, 0, 72), (72, 2, 0, 0, 0, 73), (73, 25, 667, 147, 926, 76), (76, 19, 1, 116, 0, 79), (79, 1, 7, 0, 0, 81), (81, 2, 0, 0, 0, 82), (82, 25, 652, 42, 911, 85), (85, 1, 1, 0, 0, 86), (86, 28, 0, 0, 0, 87), (87, 20, 1, 116, 0, 90), (90, 2, 0, 0, 0, 91), (91, 25, 652, 42, 911, 94), (94, 1, 1, 0, 0, 95), (95, 17, 0, 0, 0, 96), (96, 28, 0, 0, 0, 97), (97, 0, 0, 0, 1, 98), (98, 8, 0, 0, 0, 99), (99, 29, 0, 0, 0, 100), (100, 2, 0, 0, 0, 101), (101, 25, 653, 45, 912, 104), (104, 0, 0, 0, 3, 105), (105, 1, 1, 0, 0, 106), (106, 8, 2, 0, 0, 107), (107, 1, 7, 0, 0, 109), (109, 8, 0, 0, 0, 110), (110, 2, 0, 0, 0, 111), (111, 1, 3, 0, 0, 112), (112, 39, 146, 207, 1122, 115), (115, 29, 0, 0, 0, 116), (116, 2, 0, 0, 0, 117), (117, 25, 667, 147, 926, 120), (120, 19, 1, 163, 0, 123), (123, 1, 4, 0, 0, 125), (125, 19, 0, 163, 0, 128), (128, 2, 0, 0, 0, 129), (129, 1, 3, 0, 0, 130), (130, 39, 146, 207, 1122, 133), (133, 2, 0, 0, 0, 134), (134, 25, 653, 45, 912, 137), (137, 0, 0, 0, 3, 138), (138, 1, 1, 0, 0, 139), (139, 8, 2, 0, 0, 140), (140, 1, 7, 0, 0, 142), (142, 8, 0, 0, 0, 143), (143, 28, 0, 0, 0, 144), (144, 20, 3, 163, 0, 147), (147, 2, 0, 0, 0, 148), (148, 25, 653, 45, 912, 151), (151, 0, 0, 0, 3, 152), (152, 1, 1, 0, 0, 153), (153, 8, 2, 0, 0, 154), (154, 1, 7, 0, 0, 156), (156, 8, 0, 0, 0, 157), (157, 2, 0, 0, 0, 158), (158, 1, 3, 0, 0, 159), (159, 39, 146, 207, 1122, 162), (162, 29, 0, 0, 0, 163), (163, 2, 0, 0, 0, 164), (164, 25, 648, 29, 907, 167), (167, 1, 2, 0, 0, 168), (168, 0, 0, 0, 1, 169), (169, 31, 0, 0, 0, 170), (170, 2, 0, 0, 0, 171), (171, 25, 649, 33, 908, 174), (174, 1, 2, 0, 0, 175), (175, 1, 7, 0, 0, 177), (177, 29, 0, 0, 0, 178), (178, 45, 0, 0, 0, 179)])
def jm_145 : jM := (⟨"RuleMillModel", "readNumber", "()I"⟩, prog_12_method_26_code, 3, (some (.int)), 1, 10, [1121, 91, 1120, 52], [(0, 2, 0, 0, 0, 1), (1, 25, 666, 144, 925, 4), (4, 4, 1, 0, 0, 5), (5, 0, 0, 0, 0, 6), (6, 4, 2, 0, 0, 7), (7, 2, 0, 0, 0, 8), (8, 39, 130, 153, 1062, 11), (11, 38, 141, 175, 1104, 14), (14, 19, 0, 57, 0, 17), (17, 2, 0, 0, 0, 18), (18, 25, 666, 144, 925, 21), (21, 1, 1, 0, 0, 22), (22, 8, 1, 0, 0, 23), (23, 0, 0, 0, 3, 24), (24, 20, 3, 42, 0, 27), (27, 0, 0, 0, 10, 29), (29, 1, 2, 0, 0, 30), (30, 8, 2, 0, 0, 31), (31, 2, 0, 0, 0, 32), (32, 39, 130, 153, 1062, 35), (35, 8, 0, 0, 0, 36), (36, 0, 0, 0, 48, 38), (38, 8, 1, 0, 0, 39), (39, 21, 0, 43, 0, 42), (42, 1, 2, 0, 0, 43), (43, 4, 2, 0, 0, 44), (44, 2, 0, 0, 0, 45), (45, 16, 0, 0, 0, 46), (46, 25, 666, 144, 925, 49), (49, 0, 0, 0, 1, 50), (50, 8, 0, 0, 0, 51), (51, 26, 666, 144, 925, 54), (54, 21, 0, 7, 0, 57), (57, 2, 0, 0, 0, 58), (58, 25, 666, 144, 925, 61), (61, 1, 1, 0, 0, 62), (62, 20, 1, 74, 0, 65), (65, 2, 0, 0, 0, 66), (66, 0, 0, 0, 1, 67), (67, 1, 1, 0, 0, 68), (68, 39, 136, 168, 1085, 71), (71, 21, 0, 96, 0, 74), (74, 2, 0, 0, 0, 75), (75, 25, 666, 144, 925, 78), (78, 1, 1, 0, 0, 79), (79, 8, 1, 0, 0, 80), (80, 0, 0, 0, 2, 81), (81, 20, 4, 90, 0, 84), (84, 1, 2, 0, 0, 85), (85, 0, 0, 0, 15, 87), (87, 20, 5, 96, 0, 90), (90, 2, 0, 0, 0, 91), (91, 0, 0, 0, 2, 92), (92, 1, 1, 0, 0, 93), (93, 39, 136, 168, 1085, 96), (96, 1, 2, 0, 0, 97), (97, 46, 0, 0, 0, 98)])
def jm_146 : jM := (⟨"RuleMillModel", "boundOf", "(I)I"⟩, prog_12_method_7_code, 2, (some (.int)), 2, 10, [1125, 91, 1124, 53], [(0, 1, 1, 0, 0, 1), (1, 19, 1, 15, 0, 4), (4, 0, 0, 0, 1, 5), (5, 2, 0, 0, 0, 6), (6, 25, 640, 7, 899, 9), (9, 8, 6, 0, 0, 10), (10, 0, 0, 0, 1, 11), (11, 8, 1, 0, 0, 12), (12, 21, 0, 35, 0, 15), (15, 1, 1, 0, 0, 16), (16, 0, 0, 0, 15, 18), (18, 20, 0, 27, 0, 21), (21, 1, 1, 0, 0, 22), (22, 0, 0, 0, 16, 24), (24, 20, 1, 31, 0, 27), (27, 0, 0, 0, 3, 28), (28, 21, 0, 35, 0, 31), (31, 2, 0, 0, 0, 32), (32, 25, 640, 7, 899, 35), (35, 46, 0, 0, 0, 36)])
def jm_147 : jM := (⟨"RuleMillModel", "isSign", "(I)Z"⟩, prog_12_method_32_code, 1, (some (.boolean)), 1, 10, [1128, 91, 1127], [(0, 1, 0, 0, 0, 1), (1, 0, 0, 0, 43, 3), (3, 20, 0, 30, 0, 6), (6, 1, 0, 0, 0, 7), (7, 0, 0, 0, 45, 9), (9, 20, 0, 30, 0, 12), (12, 1, 0, 0, 0, 13), (13, 0, 0, 0, 38, 15), (15, 20, 0, 30, 0, 18), (18, 1, 0, 0, 0, 19), (19, 0, 0, 0, 124, 21), (21, 20, 0, 30, 0, 24), (24, 1, 0, 0, 0, 25), (25, 0, 0, 0, 94, 27), (27, 20, 1, 34, 0, 30), (30, 0, 0, 0, 1, 31), (31, 21, 0, 35, 0, 34), (34, 0, 0, 0, 0, 35), (35, 47, 0, 0, 0, 36)])
def jm_148 : jM := (⟨"RuleMillModel", "endsOrder", "()Z"⟩, prog_12_method_27_code, 1, (some (.boolean)), 1, 10, [1132, 91, 1131, 54], [(0, 2, 0, 0, 0, 1), (1, 39, 129, 172, 1058, 4), (4, 2, 0, 0, 0, 5), (5, 39, 130, 153, 1062, 8), (8, 0, 0, 0, 59, 10), (10, 20, 1, 29, 0, 13), (13, 2, 0, 0, 0, 14), (14, 16, 0, 0, 0, 15), (15, 25, 666, 144, 925, 18), (18, 0, 0, 0, 1, 19), (19, 8, 0, 0, 0, 20), (20, 26, 666, 144, 925, 23), (23, 2, 0, 0, 0, 24), (24, 39, 129, 172, 1058, 27), (27, 0, 0, 0, 0, 28), (28, 47, 0, 0, 0, 29), (29, 0, 0, 0, 1, 30), (30, 47, 0, 0, 0, 31)])
def jm_149 : jM := (⟨"RuleMillModel", "placesOf", "(I)I"⟩, prog_12_method_35_code, 2, (some (.int)), 2, 10, [1136, 91, 1135, 55], [(0, 2, 0, 0, 0, 1), (1, 25, 651, 39, 910, 4), (4, 1, 1, 0, 0, 5), (5, 28, 0, 0, 0, 6), (6, 2, 0, 0, 0, 7), (7, 25, 654, 48, 913, 10), (10, 1, 1, 0, 0, 11), (11, 30, 0, 0, 0, 12), (12, 19, 0, 19, 0, 15), (15, 0, 0, 0, 4, 16), (16, 21, 0, 20, 0, 19), (19, 0, 0, 0, 0, 20), (20, 8, 0, 0, 0, 21), (21, 2, 0, 0, 0, 22), (22, 25, 652, 42, 911, 25), (25, 1, 1, 0, 0, 26), (26, 28, 0, 0, 0, 27), (27, 8, 0, 0, 0, 28), (28, 46, 0, 0, 0, 29)])
def jm_150 : jM := (⟨"RuleMillModel", "valuesAt", "(II)I"⟩, prog_12_method_36_code, 4, (some (.int)), 3, 10, [1140, 91, 1139, 56], [(0, 2, 0, 0, 0, 1), (1, 25, 651, 39, 910, 4), (4, 1, 1, 0, 0, 5), (5, 28, 0, 0, 0, 6), (6, 2, 0, 0, 0, 7), (7, 25, 654, 48, 913, 10), (10, 1, 1, 0, 0, 11), (11, 30, 0, 0, 0, 12), (12, 19, 0, 19, 0, 15), (15, 0, 0, 0, 4, 16), (16, 21, 0, 20, 0, 19), (19, 0, 0, 0, 0, 20), (20, 8, 0, 0, 0, 21), (21, 4, 3, 0, 0, 22), (22, 1, 2, 0, 0, 23), (23, 1, 3, 0, 0, 24), (24, 20, 3, 36, 0, 27), (27, 0, 0, 0, 1, 28), (28, 2, 0, 0, 0, 29), (29, 25, 640, 7, 899, 32), (32, 8, 6, 0, 0, 33), (33, 21, 0, 50, 0, 36), (36, 2, 0, 0, 0, 37), (37, 25, 653, 45, 912, 40), (40, 0, 0, 0, 3, 41), (41, 1, 1, 0, 0, 42), (42, 8, 2, 0, 0, 43), (43, 1, 2, 0, 0, 44), (44, 8, 0, 0, 0, 45), (45, 1, 3, 0, 0, 46), (46, 8, 1, 0, 0, 47), (47, 28, 0, 0, 0, 48), (48, 0, 0, 0, 1, 49), (49, 8, 0, 0, 0, 50), (50, 46, 0, 0, 0, 51)])
def jm_151 : jM := (⟨"RuleMillModel", "tryAll", "(I)V"⟩, prog_12_method_40_code, 6, none, 2, 10, [1145, 91, 1144, 57], [(0, 2, 0, 0, 0, 1), (1, 1, 1, 0, 0, 2), (2, 39, 149, 235, 1133, 5), (5, 4, 2, 0, 0, 6), (6, 2, 0, 0, 0, 7), (7, 25, 656, 54, 915, 10), (10, 1, 1, 0, 0, 11), (11, 0, 0, 0, 0, 12), (12, 29, 0, 0, 0, 13), (13, 2, 0, 0, 0, 14), (14, 25, 657, 57, 916, 17), (17, 0, 0, 0, 11, 19), (19, 1, 1, 0, 0, 20), (20, 8, 2, 0, 0, 21), (21, 0, 0, 0, (-4), 23), (23, 29, 0, 0, 0, 24), (24, 0, 0, 0, 0, 25), (25, 4, 3, 0, 0, 26), (26, 1, 3, 0, 0, 27), (27, 0, 0, 0, 11, 29), (29, 20, 3, 45, 0, 32), (32, 2, 0, 0, 0, 33), (33, 25, 672, 94, 931, 36), (36, 1, 3, 0, 0, 37), (37, 0, 0, 0, 0, 38), (38, 29, 0, 0, 0, 39), (39, 7, 3, 0, 1, 42), (42, 21, 0, 26, 0, 45), (45, 0, 0, 0, 0, 46), (46, 4, 3, 0, 0, 47), (47, 0, 0, 0, 0, 48), (48, 4, 4, 0, 0, 50), (50, 1, 4, 0, 0, 52), (52, 2, 0, 0, 0, 53), (53, 25, 655, 51, 914, 56), (56, 1, 1, 0, 0, 57), (57, 28, 0, 0, 0, 58), (58, 20, 3, 187, 0, 61), (61, 2, 0, 0, 0, 62), (62, 1, 1, 0, 0, 63), (63, 39, 152, 238, 1146, 66), (66, 19, 0, 82, 0, 69), (69, 2, 0, 0, 0, 70), (70, 25, 656, 54, 915, 73), (73, 1, 1, 0, 0, 74), (74, 17, 0, 0, 0, 75), (75, 28, 0, 0, 0, 76), (76, 0, 0, 0, 1, 77), (77, 8, 0, 0, 0, 78), (78, 29, 0, 0, 0, 79), (79, 21, 0, 122, 0, 82), (82, 1, 3, 0, 0, 83), (83, 19, 1, 122, 0, 86), (86, 0, 0, 0, 1, 87), (87, 4, 3, 0, 0, 88), (88, 0, 0, 0, 0, 89), (89, 4, 5, 0, 0, 91), (91, 1, 5, 0, 0, 93), (93, 1, 2, 0, 0, 94), (94, 20, 3, 122, 0, 97), (97, 2, 0, 0, 0, 98), (98, 25, 657, 57, 916, 101), (101, 0, 0, 0, 11, 103), (103, 1, 1, 0, 0, 104), (104, 8, 2, 0, 0, 105), (105, 1, 5, 0, 0, 107), (107, 8, 0, 0, 0, 108), (108, 2, 0, 0, 0, 109), (109, 25, 672, 94, 931, 112), (112, 1, 5, 0, 0, 114), (114, 28, 0, 0, 0, 115), (115, 29, 0, 0, 0, 116), (116, 7, 5, 0, 1, 119), (119, 21, 0, 91, 0, 122), (122, 1, 2, 0, 0, 123), (123, 0, 0, 0, 1, 124), (124, 8, 1, 0, 0, 125), (125, 4, 5, 0, 0, 127), (127, 1, 5, 0, 0, 129), (129, 19, 2, 165, 0, 132), (132, 2, 0, 0, 0, 133), (133, 25, 672, 94, 931, 136), (136, 1, 5, 0, 0, 138), (138, 28, 0, 0, 0, 139), (139, 2, 0, 0, 0, 140), (140, 1, 1, 0, 0, 141), (141, 1, 5, 0, 0, 143), (143, 39, 150, 241, 1137, 146), (146, 0, 0, 0, 1, 147), (147, 8, 1, 0, 0, 148), (148, 20, 1, 165, 0, 151), (151, 2, 0, 0, 0, 152), (152, 25, 672, 94, 931, 155), (155, 1, 5, 0, 0, 157), (157, 0, 0, 0, 0, 158), (158, 29, 0, 0, 0, 159), (159, 7, 5, 0, (-1), 162), (162, 21, 0, 127, 0, 165), (165, 1, 5, 0, 0, 167), (167, 19, 2, 181, 0, 170), (170, 2, 0, 0, 0, 171), (171, 25, 672, 94, 931, 174), (174, 1, 5, 0, 0, 176), (176, 17, 0, 0, 0, 177), (177, 28, 0, 0, 0, 178), (178, 0, 0, 0, 1, 179), (179, 8, 0, 0, 0, 180), (180, 29, 0, 0, 0, 181), (181, 7, 4, 0, 1, 184), (184, 21, 0, 50, 0, 187), (187, 45, 0, 0, 0, 188)])
def jm_152 : jM := (⟨"RuleMillModel", "leavesSame", "(I)Z"⟩, prog_12_method_39_code, 4, (some (.boolean)), 2, 10, [1149, 91, 1148, 58], [(0, 2, 0, 0, 0, 1), (1, 1, 1, 0, 0, 2), (2, 0, 0, 0, 0, 3), (3, 39, 153, 232, 1150, 6), (6, 0, 0, 0, 0, 7), (7, 4, 2, 0, 0, 8), (8, 1, 2, 0, 0, 9), (9, 0, 0, 0, 8, 11), (11, 20, 3, 32, 0, 14), (14, 2, 0, 0, 0, 15), (15, 25, 673, 97, 932, 18), (18, 1, 2, 0, 0, 19), (19, 2, 0, 0, 0, 20), (20, 25, 643, 17, 902, 23), (23, 1, 2, 0, 0, 24), (24, 28, 0, 0, 0, 25), (25, 29, 0, 0, 0, 26), (26, 7, 2, 0, 1, 29), (29, 21, 0, 8, 0, 32), (32, 2, 0, 0, 0, 33), (33, 1, 1, 0, 0, 34), (34, 0, 0, 0, 1, 35), (35, 39, 153, 232, 1150, 38), (38, 0, 0, 0, 1, 39), (39, 4, 2, 0, 0, 40), (40, 0, 0, 0, 0, 41), (41, 4, 3, 0, 0, 42), (42, 1, 3, 0, 0, 43), (43, 0, 0, 0, 4, 44), (44, 20, 3, 107, 0, 47), (47, 1, 2, 0, 0, 48), (48, 19, 0, 99, 0, 51), (51, 1, 3, 0, 0, 52), (52, 2, 0, 0, 0, 53), (53, 25, 651, 39, 910, 56), (56, 1, 1, 0, 0, 57), (57, 28, 0, 0, 0, 58), (58, 20, 3, 76, 0, 61), (61, 2, 0, 0, 0, 62), (62, 25, 673, 97, 932, 65), (65, 1, 3, 0, 0, 66), (66, 28, 0, 0, 0, 67), (67, 2, 0, 0, 0, 68), (68, 25, 643, 17, 902, 71), (71, 1, 3, 0, 0, 72), (72, 28, 0, 0, 0, 73), (73, 20, 1, 99, 0, 76), (76, 2, 0, 0, 0, 77), (77, 25, 673, 97, 932, 80), (80, 0, 0, 0, 4, 81), (81, 1, 3, 0, 0, 82), (82, 8, 0, 0, 0, 83), (83, 28, 0, 0, 0, 84), (84, 2, 0, 0, 0, 85), (85, 25, 643, 17, 902, 88), (88, 0, 0, 0, 4, 89), (89, 1, 3, 0, 0, 90), (90, 8, 0, 0, 0, 91), (91, 28, 0, 0, 0, 92), (92, 20, 1, 99, 0, 95), (95, 0, 0, 0, 1, 96), (96, 21, 0, 100, 0, 99), (99, 0, 0, 0, 0, 100), (100, 4, 2, 0, 0, 101), (101, 7, 3, 0, 1, 104), (104, 21, 0, 42, 0, 107), (107, 1, 2, 0, 0, 108), (108, 47, 0, 0, 0, 109)])
def jm_153 : jM := (⟨"RuleMillModel", "runSide", "(II)V"⟩, prog_12_method_38_code, 9, none, 3, 10, [1153, 91, 1152, 59], [(0, 2, 0, 0, 0, 1), (1, 25, 651, 39, 910, 4), (4, 1, 1, 0, 0, 5), (5, 28, 0, 0, 0, 6), (6, 2, 0, 0, 0, 7), (7, 25, 654, 48, 913, 10), (10, 1, 1, 0, 0, 11), (11, 30, 0, 0, 0, 12), (12, 19, 0, 19, 0, 15), (15, 0, 0, 0, 4, 16), (16, 21, 0, 20, 0, 19), (19, 0, 0, 0, 0, 20), (20, 8, 0, 0, 0, 21), (21, 4, 3, 0, 0, 22), (22, 0, 0, 0, 0, 23), (23, 4, 4, 0, 0, 25), (25, 1, 4, 0, 0, 27), (27, 0, 0, 0, 4, 28), (28, 20, 3, 102, 0, 31), (31, 2, 0, 0, 0, 32), (32, 25, 643, 17, 902, 35), (35, 1, 4, 0, 0, 37), (37, 1, 4, 0, 0, 39), (39, 2, 0, 0, 0, 40), (40, 25, 651, 39, 910, 43), (43, 1, 1, 0, 0, 44), (44, 28, 0, 0, 0, 45), (45, 20, 3, 58, 0, 48), (48, 2, 0, 0, 0, 49), (49, 25, 672, 94, 931, 52), (52, 1, 4, 0, 0, 54), (54, 28, 0, 0, 0, 55), (55, 21, 0, 59, 0, 58), (58, 0, 0, 0, 0, 59), (59, 29, 0, 0, 0, 60), (60, 2, 0, 0, 0, 61), (61, 25, 643, 17, 902, 64), (64, 0, 0, 0, 4, 65), (65, 1, 4, 0, 0, 67), (67, 8, 0, 0, 0, 68), (68, 2, 0, 0, 0, 69), (69, 25, 654, 48, 913, 72), (72, 1, 1, 0, 0, 73), (73, 30, 0, 0, 0, 74), (74, 19, 0, 94, 0, 77), (77, 2, 0, 0, 0, 78), (78, 25, 672, 94, 931, 81), (81, 2, 0, 0, 0, 82), (82, 25, 651, 39, 910, 85), (85, 1, 1, 0, 0, 86), (86, 28, 0, 0, 0, 87), (87, 1, 4, 0, 0, 89), (89, 8, 0, 0, 0, 90), (90, 28, 0, 0, 0, 91), (91, 21, 0, 95, 0, 94), (94, 0, 0, 0, 0, 95), (95, 29, 0, 0, 0, 96), (96, 7, 4, 0, 1, 99), (99, 21, 0, 25, 0, 102), (102, 0, 0, 0, 0, 103), (103, 4, 4, 0, 0, 105), (105, 1, 4, 0, 0, 107), (107, 2, 0, 0, 0, 108), (108, 25, 645, 20, 904, 111), (111, 0, 0, 0, 2, 112), (112, 1, 1, 0, 0, 113), (113, 8, 2, 0, 0, 114), (114, 1, 2, 0, 0, 115), (115, 8, 0, 0, 0, 116), (116, 28, 0, 0, 0, 117), (117, 20, 3, 247, 0, 120), (120, 0, 0, 0, 8, 122), (122, 1, 1, 0, 0, 123), (123, 8, 2, 0, 0, 124), (124, 0, 0, 0, 4, 125), (125, 1, 2, 0, 0, 126), (126, 8, 2, 0, 0, 127), (127, 8, 0, 0, 0, 128), (128, 1, 4, 0, 0, 130), (130, 8, 0, 0, 0, 131), (131, 4, 5, 0, 0, 133), (133, 2, 0, 0, 0, 134), (134, 25, 646, 23, 905, 137), (137, 1, 5, 0, 0, 139), (139, 28, 0, 0, 0, 140), (140, 4, 6, 0, 0, 142), (142, 1, 6, 0, 0, 144), (144, 38, 137, 181, 1089, 147), (147, 4, 7, 0, 0, 149), (149, 1, 6, 0, 0, 151), (151, 38, 143, 190, 1111, 154), (154, 19, 0, 171, 0, 157), (157, 2, 0, 0, 0, 158), (158, 1, 5, 0, 0, 160), (160, 2, 0, 0, 0, 161), (161, 25, 672, 94, 931, 164), (164, 1, 3, 0, 0, 165), (165, 39, 154, 224, 1154, 168), (168, 21, 0, 192, 0, 171), (171, 1, 7, 0, 0, 173), (173, 0, 0, 0, 1, 174), (174, 20, 5, 191, 0, 177), (177, 2, 0, 0, 0, 178), (178, 25, 647, 26, 906, 181), (181, 0, 0, 0, 3, 182), (182, 1, 5, 0, 0, 184), (184, 8, 2, 0, 0, 185), (185, 0, 0, 0, 1, 186), (186, 8, 0, 0, 0, 187), (187, 28, 0, 0, 0, 188), (188, 21, 0, 192, 0, 191), (191, 0, 0, 0, 0, 192), (192, 4, 8, 0, 0, 194), (194, 2, 0, 0, 0, 195), (195, 1, 6, 0, 0, 197), (197, 1, 7, 0, 0, 199), (199, 19, 5, 214, 0, 202), (202, 2, 0, 0, 0, 203), (203, 25, 647, 26, 906, 206), (206, 0, 0, 0, 3, 207), (207, 1, 5, 0, 0, 209), (209, 8, 2, 0, 0, 210), (210, 28, 0, 0, 0, 211), (211, 21, 0, 215, 0, 214), (214, 0, 0, 0, 0, 215), (215, 1, 8, 0, 0, 217), (217, 1, 7, 0, 0, 219), (219, 0, 0, 0, 2, 220), (220, 20, 5, 237, 0, 223), (223, 2, 0, 0, 0, 224), (224, 25, 647, 26, 906, 227), (227, 0, 0, 0, 3, 228), (228, 1, 5, 0, 0, 230), (230, 8, 2, 0, 0, 231), (231, 0, 0, 0, 2, 232), (232, 8, 0, 0, 0, 233), (233, 28, 0, 0, 0, 234), (234, 21, 0, 238, 0, 237), (237, 0, 0, 0, 0, 238), (238, 39, 157, 228, 1165, 241), (241, 7, 4, 0, 1, 244), (244, 21, 0, 105, 0, 247), (247, 45, 0, 0, 0, 248)])
def jm_154 : jM := (⟨"RuleMillModel", "numberOf", "(I[II)I"⟩, prog_12_method_37_code, 7, (some (.int)), 4, 10, [1157, 91, 1156, 60], [(0, 2, 0, 0, 0, 1), (1, 25, 648, 29, 907, 4), (4, 0, 0, 0, 2, 5), (5, 1, 1, 0, 0, 6), (6, 8, 2, 0, 0, 7), (7, 30, 0, 0, 0, 8), (8, 19, 0, 26, 0, 11), (11, 2, 2, 0, 0, 12), (12, 1, 3, 0, 0, 13), (13, 2, 0, 0, 0, 14), (14, 25, 649, 33, 908, 17), (17, 0, 0, 0, 2, 18), (18, 1, 1, 0, 0, 19), (19, 8, 2, 0, 0, 20), (20, 28, 0, 0, 0, 21), (21, 8, 0, 0, 0, 22), (22, 28, 0, 0, 0, 23), (23, 21, 0, 34, 0, 26), (26, 2, 0, 0, 0, 27), (27, 25, 649, 33, 908, 30), (30, 0, 0, 0, 2, 31), (31, 1, 1, 0, 0, 32), (32, 8, 2, 0, 0, 33), (33, 28, 0, 0, 0, 34), (34, 4, 4, 0, 0, 36), (36, 1, 4, 0, 0, 38), (38, 4, 5, 0, 0, 40), (40, 2, 0, 0, 0, 41), (41, 25, 650, 36, 909, 44), (44, 1, 1, 0, 0, 45), (45, 28, 0, 0, 0, 46), (46, 19, 0, 174, 0, 49), (49, 2, 0, 0, 0, 50), (50, 25, 648, 29, 907, 53), (53, 0, 0, 0, 2, 54), (54, 1, 1, 0, 0, 55), (55, 8, 2, 0, 0, 56), (56, 0, 0, 0, 1, 57), (57, 8, 0, 0, 0, 58), (58, 30, 0, 0, 0, 59), (59, 19, 0, 79, 0, 62), (62, 2, 2, 0, 0, 63), (63, 1, 3, 0, 0, 64), (64, 2, 0, 0, 0, 65), (65, 25, 649, 33, 908, 68), (68, 0, 0, 0, 2, 69), (69, 1, 1, 0, 0, 70), (70, 8, 2, 0, 0, 71), (71, 0, 0, 0, 1, 72), (72, 8, 0, 0, 0, 73), (73, 28, 0, 0, 0, 74), (74, 8, 0, 0, 0, 75), (75, 28, 0, 0, 0, 76), (76, 21, 0, 89, 0, 79), (79, 2, 0, 0, 0, 80), (80, 25, 649, 33, 908, 83), (83, 0, 0, 0, 2, 84), (84, 1, 1, 0, 0, 85), (85, 8, 2, 0, 0, 86), (86, 0, 0, 0, 1, 87), (87, 8, 0, 0, 0, 88), (88, 28, 0, 0, 0, 89), (89, 4, 6, 0, 0, 91), (91, 2, 0, 0, 0, 92), (92, 25, 650, 36, 909, 95), (95, 1, 1, 0, 0, 96), (96, 28, 0, 0, 0, 97), (97, 0, 0, 0, 43, 99), (99, 20, 1, 110, 0, 102), (102, 1, 4, 0, 0, 104), (104, 1, 6, 0, 0, 106), (106, 8, 0, 0, 0, 107), (107, 21, 0, 172, 0, 110), (110, 2, 0, 0, 0, 111), (111, 25, 650, 36, 909, 114), (114, 1, 1, 0, 0, 115), (115, 28, 0, 0, 0, 116), (116, 0, 0, 0, 45, 118), (118, 20, 1, 129, 0, 121), (121, 1, 4, 0, 0, 123), (123, 1, 6, 0, 0, 125), (125, 8, 1, 0, 0, 126), (126, 21, 0, 172, 0, 129), (129, 2, 0, 0, 0, 130), (130, 25, 650, 36, 909, 133), (133, 1, 1, 0, 0, 134), (134, 28, 0, 0, 0, 135), (135, 0, 0, 0, 38, 137), (137, 20, 1, 148, 0, 140), (140, 1, 4, 0, 0, 142), (142, 1, 6, 0, 0, 144), (144, 8, 3, 0, 0, 145), (145, 21, 0, 172, 0, 148), (148, 2, 0, 0, 0, 149), (149, 25, 650, 36, 909, 152), (152, 1, 1, 0, 0, 153), (153, 28, 0, 0, 0, 154), (154, 0, 0, 0, 124, 156), (156, 20, 1, 167, 0, 159), (159, 1, 4, 0, 0, 161), (161, 1, 6, 0, 0, 163), (163, 8, 4, 0, 0, 164), (164, 21, 0, 172, 0, 167), (167, 1, 4, 0, 0, 169), (169, 1, 6, 0, 0, 171), (171, 8, 5, 0, 0, 172), (172, 4, 5, 0, 0, 174), (174, 2, 0, 0, 0, 175), (175, 2, 0, 0, 0, 176), (176, 25, 646, 23, 905, 179), (179, 1, 1, 0, 0, 180), (180, 28, 0, 0, 0, 181), (181, 1, 5, 0, 0, 183), (183, 39, 155, 196, 1158, 186), (186, 46, 0, 0, 0, 187)])
def jm_155 : jM := (⟨"RuleMillModel", "keptBy", "(II)I"⟩, prog_12_method_9_code, 4, (some (.int)), 3, 10, [1161, 91, 1160, 61], [(0, 1, 1, 0, 0, 1), (1, 19, 1, 15, 0, 4), (4, 1, 2, 0, 0, 5), (5, 0, 0, 0, 1, 6), (6, 2, 0, 0, 0, 7), (7, 25, 640, 7, 899, 10), (10, 8, 6, 0, 0, 11), (11, 38, 156, 121, 1162, 14), (14, 46, 0, 0, 0, 15), (15, 1, 1, 0, 0, 16), (16, 0, 0, 0, 15, 18), (18, 20, 0, 27, 0, 21), (21, 1, 1, 0, 0, 22), (22, 0, 0, 0, 16, 24), (24, 20, 1, 33, 0, 27), (27, 1, 2, 0, 0, 28), (28, 0, 0, 0, 4, 29), (29, 38, 156, 121, 1162, 32), (32, 46, 0, 0, 0, 33), (33, 1, 2, 0, 0, 34), (34, 0, 0, 0, 16, 36), (36, 38, 156, 121, 1162, 39), (39, 4, 3, 0, 0, 40), (40, 1, 3, 0, 0, 41), (41, 2, 0, 0, 0, 42), (42, 25, 640, 7, 899, 45), (45, 20, 5, 55, 0, 48), (48, 2, 0, 0, 0, 49), (49, 25, 640, 7, 899, 52), (52, 21, 0, 56, 0, 55), (55, 1, 3, 0, 0, 56), (56, 46, 0, 0, 0, 57)])
def jm_156 : jM := (⟨"RuleMillModel", "rest", "(II)I"⟩, prog_12_method_8_code, 3, (some (.int)), 2, 10, [1164, 91, 1163], [(0, 1, 0, 0, 0, 1), (1, 1, 1, 0, 0, 2), (2, 8, 9, 0, 0, 3), (3, 4, 2, 0, 0, 4), (4, 1, 2, 0, 0, 5), (5, 19, 3, 14, 0, 8), (8, 1, 2, 0, 0, 9), (9, 1, 1, 0, 0, 10), (10, 8, 0, 0, 0, 11), (11, 21, 0, 15, 0, 14), (14, 1, 2, 0, 0, 15), (15, 46, 0, 0, 0, 16)])
def jm_157 : jM := (⟨"RuleMillModel", "does", "(IIII)V"⟩, prog_12_method_10_code, 9, none, 5, 10, [1168, 91, 1167, 62], [(0, 0, 0, 0, 1, 1), (1, 2, 0, 0, 0, 2), (2, 25, 640, 7, 899, 5), (5, 8, 6, 0, 0, 6), (6, 0, 0, 0, 1, 7), (7, 8, 1, 0, 0, 8), (8, 4, 5, 0, 0, 10), (10, 2, 0, 0, 0, 11), (11, 25, 643, 17, 902, 14), (14, 1, 2, 0, 0, 15), (15, 28, 0, 0, 0, 16), (16, 4, 6, 0, 0, 18), (18, 2, 0, 0, 0, 19), (19, 25, 643, 17, 902, 22), (22, 1, 3, 0, 0, 23), (23, 0, 0, 0, 3, 24), (24, 8, 3, 0, 0, 25), (25, 28, 0, 0, 0, 26), (26, 4, 7, 0, 0, 28), (28, 1, 6, 0, 0, 30), (30, 4, 8, 0, 0, 32), (32, 1, 1, 0, 0, 33), (33, 50, 5, 0, 0, 124), (124, 1, 3, 0, 0, 125), (125, 4, 8, 0, 0, 127), (127, 21, 0, 313, 0, 130), (130, 1, 7, 0, 0, 132), (132, 4, 8, 0, 0, 134), (134, 21, 0, 313, 0, 137), (137, 1, 6, 0, 0, 139), (139, 1, 7, 0, 0, 141), (141, 8, 0, 0, 0, 142), (142, 4, 8, 0, 0, 144), (144, 21, 0, 313, 0, 147), (147, 1, 6, 0, 0, 149), (149, 1, 7, 0, 0, 151), (151, 8, 1, 0, 0, 152), (152, 4, 8, 0, 0, 154), (154, 21, 0, 313, 0, 157), (157, 1, 6, 0, 0, 159), (159, 1, 7, 0, 0, 161), (161, 8, 3, 0, 0, 162), (162, 4, 8, 0, 0, 164), (164, 21, 0, 313, 0, 167), (167, 1, 6, 0, 0, 169), (169, 1, 7, 0, 0, 171), (171, 8, 4, 0, 0, 172), (172, 4, 8, 0, 0, 174), (174, 21, 0, 313, 0, 177), (177, 1, 6, 0, 0, 179), (179, 1, 7, 0, 0, 181), (181, 8, 5, 0, 0, 182), (182, 4, 8, 0, 0, 184), (184, 21, 0, 313, 0, 187), (187, 1, 6, 0, 0, 189), (189, 1, 7, 0, 0, 191), (191, 8, 2, 0, 0, 192), (192, 4, 8, 0, 0, 194), (194, 21, 0, 313, 0, 197), (197, 1, 6, 0, 0, 199), (199, 0, 0, 0, 1, 200), (200, 8, 0, 0, 0, 201), (201, 4, 8, 0, 0, 203), (203, 21, 0, 313, 0, 206), (206, 1, 6, 0, 0, 208), (208, 0, 0, 0, 1, 209), (209, 8, 1, 0, 0, 210), (210, 4, 8, 0, 0, 212), (212, 21, 0, 313, 0, 215), (215, 1, 6, 0, 0, 217), (217, 0, 0, 0, (-1), 218), (218, 8, 5, 0, 0, 219), (219, 4, 8, 0, 0, 221), (221, 21, 0, 313, 0, 224), (224, 1, 6, 0, 0, 226), (226, 9, 0, 0, 0, 227), (227, 4, 8, 0, 0, 229), (229, 21, 0, 313, 0, 232), (232, 1, 6, 0, 0, 234), (234, 1, 3, 0, 0, 235), (235, 8, 6, 0, 0, 236), (236, 4, 8, 0, 0, 238), (238, 21, 0, 313, 0, 241), (241, 1, 6, 0, 0, 243), (243, 1, 3, 0, 0, 244), (244, 8, 7, 0, 0, 245), (245, 4, 8, 0, 0, 247), (247, 21, 0, 313, 0, 250), (250, 1, 6, 0, 0, 252), (252, 19, 0, 260, 0, 255), (255, 1, 7, 0, 0, 257), (257, 21, 0, 267, 0, 260), (260, 2, 0, 0, 0, 261), (261, 25, 643, 17, 902, 264), (264, 1, 4, 0, 0, 266), (266, 28, 0, 0, 0, 267), (267, 4, 8, 0, 0, 269), (269, 21, 0, 313, 0, 272), (272, 2, 0, 0, 0, 273), (273, 25, 643, 17, 902, 276), (276, 0, 0, 0, 4, 277), (277, 1, 3, 0, 0, 278), (278, 8, 0, 0, 0, 279), (279, 28, 0, 0, 0, 280), (280, 4, 8, 0, 0, 282), (282, 21, 0, 313, 0, 285), (285, 2, 0, 0, 0, 286), (286, 25, 643, 17, 902, 289), (289, 0, 0, 0, 4, 290), (290, 1, 3, 0, 0, 291), (291, 8, 0, 0, 0, 292), (292, 1, 6, 0, 0, 294), (294, 29, 0, 0, 0, 295), (295, 21, 0, 313, 0, 298), (298, 2, 0, 0, 0, 299), (299, 25, 643, 17, 902, 302), (302, 1, 3, 0, 0, 303), (303, 1, 6, 0, 0, 305), (305, 29, 0, 0, 0, 306), (306, 1, 7, 0, 0, 308), (308, 4, 8, 0, 0, 310), (310, 21, 0, 313, 0, 313), (313, 1, 1, 0, 0, 314), (314, 0, 0, 0, 17, 316), (316, 20, 0, 330, 0, 319), (319, 2, 0, 0, 0, 320), (320, 25, 643, 17, 902, 323), (323, 1, 2, 0, 0, 324), (324, 1, 8, 0, 0, 326), (326, 1, 5, 0, 0, 328), (328, 8, 3, 0, 0, 329), (329, 29, 0, 0, 0, 330), (330, 45, 0, 0, 0, 331)])
def jm_158 : jM := (⟨"RuleMillModel", "program", "()I"⟩, prog_12_method_42_code, 1, (some (.int)), 1, 10, [1172, 91, 1170, 1171], [(0, 2, 0, 0, 0, 1), (1, 25, 660, 134, 919, 4), (4, 0, 0, 0, 16, 6), (6, 20, 1, 12, 0, 9), (9, 0, 0, 0, (-3), 11), (11, 46, 0, 0, 0, 12), (12, 2, 0, 0, 0, 13), (13, 0, 0, 0, 0, 14), (14, 26, 667, 147, 926, 17), (17, 2, 0, 0, 0, 18), (18, 2, 0, 0, 0, 19), (19, 25, 660, 134, 919, 22), (22, 39, 159, 252, 1173, 25), (25, 2, 0, 0, 0, 26), (26, 0, 0, 0, 0, 27), (27, 26, 642, 137, 901, 30), (30, 2, 0, 0, 0, 31), (31, 25, 667, 147, 926, 34), (34, 19, 5, 45, 0, 37), (37, 0, 0, 0, (-10), 39), (39, 2, 0, 0, 0, 40), (40, 25, 668, 150, 927, 43), (43, 8, 1, 0, 0, 44), (44, 46, 0, 0, 0, 45), (45, 2, 0, 0, 0, 46), (46, 16, 0, 0, 0, 47), (47, 25, 660, 134, 919, 50), (50, 0, 0, 0, 1, 51), (51, 8, 0, 0, 0, 52), (52, 26, 660, 134, 919, 55), (55, 2, 0, 0, 0, 56), (56, 25, 660, 134, 919, 59), (59, 0, 0, 0, 1, 60), (60, 8, 1, 0, 0, 61), (61, 46, 0, 0, 0, 62)])
def jm_159 : jM := (⟨"RuleMillModel", "readProgram", "(I)V"⟩, prog_12_method_28_code, 9, none, 2, 10, [1176, 91, 1175, 63], [(0, 2, 0, 0, 0, 1), (1, 0, 0, 0, 0, 2), (2, 26, 666, 144, 925, 5), (5, 0, 0, 0, 0, 6), (6, 4, 2, 0, 0, 7), (7, 2, 0, 0, 0, 8), (8, 39, 129, 172, 1058, 11), (11, 2, 0, 0, 0, 12), (12, 25, 666, 144, 925, 15), (15, 2, 0, 0, 0, 16), (16, 25, 642, 137, 901, 19), (19, 20, 3, 26, 0, 22), (22, 0, 0, 0, 1, 23), (23, 21, 0, 27, 0, 26), (26, 0, 0, 0, 0, 27), (27, 4, 3, 0, 0, 28), (28, 1, 3, 0, 0, 29), (29, 19, 0, 277, 0, 32), (32, 2, 0, 0, 0, 33), (33, 25, 667, 147, 926, 36), (36, 19, 1, 277, 0, 39), (39, 2, 0, 0, 0, 40), (40, 1, 2, 0, 0, 41), (41, 0, 0, 0, 24, 43), (43, 39, 132, 178, 1070, 46), (46, 4, 4, 0, 0, 48), (48, 0, 0, 0, 24, 50), (50, 1, 1, 0, 0, 51), (51, 8, 2, 0, 0, 52), (52, 1, 2, 0, 0, 53), (53, 8, 0, 0, 0, 54), (54, 4, 5, 0, 0, 56), (56, 0, 0, 0, 3, 57), (57, 36, 0, 0, 0, 59), (59, 16, 0, 0, 0, 60), (60, 0, 0, 0, 0, 61), (61, 0, 0, 0, 0, 62), (62, 29, 0, 0, 0, 63), (63, 16, 0, 0, 0, 64), (64, 0, 0, 0, 1, 65), (65, 0, 0, 0, 0, 66), (66, 29, 0, 0, 0, 67), (67, 16, 0, 0, 0, 68), (68, 0, 0, 0, 2, 69), (69, 0, 0, 0, 0, 70), (70, 29, 0, 0, 0, 71), (71, 5, 6, 0, 0, 73), (73, 2, 0, 0, 0, 74), (74, 25, 667, 147, 926, 77), (77, 19, 1, 88, 0, 80), (80, 1, 4, 0, 0, 82), (82, 38, 137, 181, 1089, 85), (85, 21, 0, 89, 0, 88), (88, 0, 0, 0, 0, 89), (89, 4, 7, 0, 0, 91), (91, 0, 0, 0, 0, 92), (92, 4, 8, 0, 0, 94), (94, 1, 8, 0, 0, 96), (96, 1, 7, 0, 0, 98), (98, 20, 3, 141, 0, 101), (101, 2, 0, 0, 0, 102), (102, 25, 667, 147, 926, 105), (105, 19, 1, 141, 0, 108), (108, 2, 0, 0, 0, 109), (109, 39, 138, 184, 1092, 112), (112, 2, 6, 0, 0, 114), (114, 1, 8, 0, 0, 116), (116, 2, 0, 0, 0, 117), (117, 25, 667, 147, 926, 120), (120, 19, 1, 133, 0, 123), (123, 2, 0, 0, 0, 124), (124, 0, 0, 0, 97, 126), (126, 0, 0, 0, 4, 127), (127, 39, 140, 187, 1100, 130), (130, 21, 0, 134, 0, 133), (133, 0, 0, 0, 0, 134), (134, 29, 0, 0, 0, 135), (135, 7, 8, 0, 1, 138), (138, 21, 0, 94, 0, 141), (141, 2, 0, 0, 0, 142), (142, 25, 667, 147, 926, 145), (145, 19, 1, 185, 0, 148), (148, 1, 4, 0, 0, 150), (150, 38, 143, 190, 1111, 153), (153, 19, 0, 185, 0, 156), (156, 2, 0, 0, 0, 157), (157, 39, 138, 184, 1092, 160), (160, 2, 6, 0, 0, 162), (162, 0, 0, 0, 1, 163), (163, 2, 0, 0, 0, 164), (164, 25, 667, 147, 926, 167), (167, 19, 1, 183, 0, 170), (170, 2, 0, 0, 0, 171), (171, 1, 4, 0, 0, 173), (173, 2, 0, 0, 0, 174), (174, 39, 145, 193, 1118, 177), (177, 39, 155, 196, 1158, 180), (180, 21, 0, 184, 0, 183), (183, 0, 0, 0, 0, 184), (184, 29, 0, 0, 0, 185), (185, 2, 0, 0, 0, 186), (186, 25, 667, 147, 926, 189), (189, 19, 1, 274, 0, 192), (192, 2, 0, 0, 0, 193), (193, 25, 662, 69, 921, 196), (196, 1, 5, 0, 0, 198), (198, 1, 4, 0, 0, 200), (200, 29, 0, 0, 0, 201), (201, 2, 0, 0, 0, 202), (202, 25, 663, 72, 922, 205), (205, 1, 5, 0, 0, 207), (207, 2, 6, 0, 0, 209), (209, 0, 0, 0, 0, 210), (210, 28, 0, 0, 0, 211), (211, 29, 0, 0, 0, 212), (212, 2, 0, 0, 0, 213), (213, 25, 664, 75, 923, 216), (216, 1, 5, 0, 0, 218), (218, 2, 6, 0, 0, 220), (220, 0, 0, 0, 1, 221), (221, 28, 0, 0, 0, 222), (222, 29, 0, 0, 0, 223), (223, 2, 0, 0, 0, 224), (224, 25, 665, 78, 924, 227), (227, 1, 5, 0, 0, 229), (229, 2, 6, 0, 0, 231), (231, 0, 0, 0, 2, 232), (232, 28, 0, 0, 0, 233), (233, 29, 0, 0, 0, 234), (234, 7, 2, 0, 1, 237), (237, 2, 0, 0, 0, 238), (238, 39, 148, 199, 1129, 241), (241, 19, 1, 248, 0, 244), (244, 0, 0, 0, 1, 245), (245, 21, 0, 249, 0, 248), (248, 0, 0, 0, 0, 249), (249, 4, 3, 0, 0, 250), (250, 1, 3, 0, 0, 251), (251, 19, 1, 274, 0, 254), (254, 2, 0, 0, 0, 255), (255, 25, 666, 144, 925, 258), (258, 2, 0, 0, 0, 259), (259, 25, 642, 137, 901, 262), (262, 20, 3, 274, 0, 265), (265, 2, 0, 0, 0, 266), (266, 0, 0, 0, 1, 267), (267, 2, 0, 0, 0, 268), (268, 25, 666, 144, 925, 271), (271, 39, 136, 168, 1085, 274), (274, 21, 0, 28, 0, 277), (277, 2, 0, 0, 0, 278), (278, 25, 661, 66, 920, 281), (281, 1, 1, 0, 0, 282), (282, 1, 2, 0, 0, 283), (283, 29, 0, 0, 0, 284), (284, 45, 0, 0, 0, 285)])
def jm_160 : jM := (⟨"RuleMillModel", "fault", "()I"⟩, prog_12_method_43_code, 1, (some (.int)), 1, 10, [1180, 91, 1178, 1179], [(0, 2, 0, 0, 0, 1), (1, 25, 667, 147, 926, 4), (4, 46, 0, 0, 0, 5)])
def jm_161 : jM := (⟨"RuleMillModel", "on", "(IZ)I"⟩, prog_12_method_46_code, 4, (some (.int)), 3, 10, [1184, 91, 1182, 1183], [(0, 2, 0, 0, 0, 1), (1, 1, 1, 0, 0, 2), (2, 39, 162, 255, 1185, 5), (5, 19, 1, 10, 0, 8), (8, 0, 0, 0, (-1), 9), (9, 46, 0, 0, 0, 10), (10, 2, 0, 0, 0, 11), (11, 25, 658, 60, 917, 14), (14, 1, 1, 0, 0, 15), (15, 30, 0, 0, 0, 16), (16, 19, 0, 23, 0, 19), (19, 0, 0, 0, 1, 20), (20, 21, 0, 24, 0, 23), (23, 0, 0, 0, 0, 24), (24, 4, 3, 0, 0, 25), (25, 2, 0, 0, 0, 26), (26, 25, 658, 60, 917, 29), (29, 1, 1, 0, 0, 30), (30, 1, 2, 0, 0, 31), (31, 31, 0, 0, 0, 32), (32, 1, 3, 0, 0, 33), (33, 46, 0, 0, 0, 34)])
def jm_162 : jM := (⟨"RuleMillModel", "isRule", "(I)Z"⟩, prog_12_method_44_code, 2, (some (.boolean)), 2, 10, [1188, 91, 1187, 64], [(0, 1, 1, 0, 0, 1), (1, 10, 0, 0, 0, 2), (2, 12, 0, 0, 0, 3), (3, 2, 0, 0, 0, 4), (4, 25, 644, 131, 903, 7), (7, 0, 0, 0, 1, 8), (8, 8, 1, 0, 0, 9), (9, 10, 0, 0, 0, 10), (10, 38, 123, 127, 1035, 13), (13, 47, 0, 0, 0, 14)])
def jm_163 : jM := (⟨"RuleMillModel", "told", "(II)I"⟩, prog_12_method_50_code, 3, (some (.int)), 3, 10, [1192, 91, 1190, 1191], [(0, 2, 0, 0, 0, 1), (1, 1, 1, 0, 0, 2), (2, 39, 162, 255, 1185, 5), (5, 19, 1, 10, 0, 8), (8, 0, 0, 0, (-1), 9), (9, 46, 0, 0, 0, 10), (10, 1, 2, 0, 0, 11), (11, 50, 6, 0, 0, 64), (64, 2, 0, 0, 0, 65), (65, 1, 1, 0, 0, 66), (66, 39, 164, 267, 1193, 69), (69, 19, 0, 76, 0, 72), (72, 0, 0, 0, 1, 73), (73, 21, 0, 77, 0, 76), (76, 0, 0, 0, 0, 77), (77, 46, 0, 0, 0, 78), (78, 2, 0, 0, 0, 79), (79, 1, 1, 0, 0, 80), (80, 39, 165, 264, 1197, 83), (83, 46, 0, 0, 0, 84), (84, 2, 0, 0, 0, 85), (85, 25, 655, 51, 914, 88), (88, 1, 1, 0, 0, 89), (89, 28, 0, 0, 0, 90), (90, 46, 0, 0, 0, 91), (91, 2, 0, 0, 0, 92), (92, 25, 656, 54, 915, 95), (95, 1, 1, 0, 0, 96), (96, 28, 0, 0, 0, 97), (97, 46, 0, 0, 0, 98), (98, 2, 0, 0, 0, 99), (99, 25, 645, 20, 904, 102), (102, 0, 0, 0, 2, 103), (103, 1, 1, 0, 0, 104), (104, 8, 2, 0, 0, 105), (105, 28, 0, 0, 0, 106), (106, 46, 0, 0, 0, 107), (107, 2, 0, 0, 0, 108), (108, 25, 645, 20, 904, 111), (111, 0, 0, 0, 2, 112), (112, 1, 1, 0, 0, 113), (113, 8, 2, 0, 0, 114), (114, 0, 0, 0, 1, 115), (115, 8, 0, 0, 0, 116), (116, 28, 0, 0, 0, 117), (117, 46, 0, 0, 0, 118), (118, 2, 0, 0, 0, 119), (119, 25, 651, 39, 910, 122), (122, 1, 1, 0, 0, 123), (123, 28, 0, 0, 0, 124), (124, 46, 0, 0, 0, 125), (125, 2, 0, 0, 0, 126), (126, 25, 652, 42, 911, 129), (129, 1, 1, 0, 0, 130), (130, 28, 0, 0, 0, 131), (131, 46, 0, 0, 0, 132), (132, 2, 0, 0, 0, 133), (133, 25, 659, 63, 918, 136), (136, 1, 1, 0, 0, 137), (137, 28, 0, 0, 0, 138), (138, 46, 0, 0, 0, 139), (139, 2, 0, 0, 0, 140), (140, 25, 658, 60, 917, 143), (143, 1, 1, 0, 0, 144), (144, 30, 0, 0, 0, 145), (145, 19, 0, 152, 0, 148), (148, 0, 0, 0, 1, 149), (149, 21, 0, 153, 0, 152), (152, 0, 0, 0, 0, 153), (153, 46, 0, 0, 0, 154), (154, 0, 0, 0, (-1), 155), (155, 46, 0, 0, 0, 156)])
def jm_164 : jM := (⟨"RuleMillModel", "isSound", "(I)Z"⟩, prog_12_method_49_code, 2, (some (.boolean)), 2, 10, [1196, 91, 1195, 65], [(0, 2, 0, 0, 0, 1), (1, 25, 656, 54, 915, 4), (4, 1, 1, 0, 0, 5), (5, 28, 0, 0, 0, 6), (6, 2, 0, 0, 0, 7), (7, 25, 655, 51, 914, 10), (10, 1, 1, 0, 0, 11), (11, 28, 0, 0, 0, 12), (12, 20, 1, 27, 0, 15), (15, 2, 0, 0, 0, 16), (16, 1, 1, 0, 0, 17), (17, 39, 165, 264, 1197, 20), (20, 19, 5, 27, 0, 23), (23, 0, 0, 0, 1, 24), (24, 21, 0, 28, 0, 27), (27, 0, 0, 0, 0, 28), (28, 47, 0, 0, 0, 29)])
def jm_165 : jM := (⟨"RuleMillModel", "gain", "(I)I"⟩, prog_12_method_48_code, 2, (some (.int)), 2, 10, [1200, 91, 1199, 66], [(0, 2, 0, 0, 0, 1), (1, 1, 1, 0, 0, 2), (2, 0, 0, 0, 0, 3), (3, 39, 166, 261, 1201, 6), (6, 2, 0, 0, 0, 7), (7, 1, 1, 0, 0, 8), (8, 0, 0, 0, 1, 9), (9, 39, 166, 261, 1201, 12), (12, 8, 1, 0, 0, 13), (13, 46, 0, 0, 0, 14)])
def jm_166 : jM := (⟨"RuleMillModel", "sidePrice", "(II)I"⟩, prog_12_method_47_code, 5, (some (.int)), 3, 10, [1204, 91, 1203, 67], [(0, 0, 0, 0, 0, 1), (1, 4, 3, 0, 0, 2), (2, 0, 0, 0, 0, 3), (3, 4, 4, 0, 0, 5), (5, 1, 4, 0, 0, 7), (7, 2, 0, 0, 0, 8), (8, 25, 645, 20, 904, 11), (11, 0, 0, 0, 2, 12), (12, 1, 1, 0, 0, 13), (13, 8, 2, 0, 0, 14), (14, 1, 2, 0, 0, 15), (15, 8, 0, 0, 0, 16), (16, 28, 0, 0, 0, 17), (17, 20, 3, 48, 0, 20), (20, 1, 3, 0, 0, 21), (21, 2, 0, 0, 0, 22), (22, 25, 646, 23, 905, 25), (25, 0, 0, 0, 8, 27), (27, 1, 1, 0, 0, 28), (28, 8, 2, 0, 0, 29), (29, 0, 0, 0, 4, 30), (30, 1, 2, 0, 0, 31), (31, 8, 2, 0, 0, 32), (32, 8, 0, 0, 0, 33), (33, 1, 4, 0, 0, 35), (35, 8, 0, 0, 0, 36), (36, 28, 0, 0, 0, 37), (37, 38, 167, 258, 1205, 40), (40, 8, 0, 0, 0, 41), (41, 4, 3, 0, 0, 42), (42, 7, 4, 0, 1, 45), (45, 21, 0, 5, 0, 48), (48, 1, 3, 0, 0, 49), (49, 46, 0, 0, 0, 50)])
def jm_167 : jM := (⟨"RuleMillModel", "priceOf", "(I)I"⟩, prog_12_method_6_code, 1, (some (.int)), 1, 10, [1207, 91, 1206], [(0, 1, 0, 0, 0, 1), (1, 50, 7, 0, 0, 88), (88, 0, 0, 0, 2, 89), (89, 46, 0, 0, 0, 90), (90, 0, 0, 0, 6, 92), (92, 46, 0, 0, 0, 93), (93, 0, 0, 0, 4, 94), (94, 46, 0, 0, 0, 95), (95, 0, 0, 0, 1, 96), (96, 46, 0, 0, 0, 97), (97, 0, 0, 0, 3, 98), (98, 46, 0, 0, 0, 99)])
def jm_168 : jM := (⟨"RuleMillModel", "wrong", "(II)I"⟩, prog_12_method_51_code, 3, (some (.int)), 3, 10, [1211, 91, 1209, 1210], [(0, 2, 0, 0, 0, 1), (1, 1, 1, 0, 0, 2), (2, 39, 162, 255, 1185, 5), (5, 19, 1, 10, 0, 8), (8, 0, 0, 0, (-1), 9), (9, 46, 0, 0, 0, 10), (10, 2, 0, 0, 0, 11), (11, 25, 656, 54, 915, 14), (14, 1, 1, 0, 0, 15), (15, 28, 0, 0, 0, 16), (16, 2, 0, 0, 0, 17), (17, 25, 655, 51, 914, 20), (20, 1, 1, 0, 0, 21), (21, 28, 0, 0, 0, 22), (22, 20, 0, 42, 0, 25), (25, 1, 2, 0, 0, 26), (26, 10, 0, 0, 0, 27), (27, 12, 0, 0, 0, 28), (28, 2, 0, 0, 0, 29), (29, 1, 1, 0, 0, 30), (30, 39, 149, 235, 1133, 33), (33, 0, 0, 0, 1, 34), (34, 8, 1, 0, 0, 35), (35, 10, 0, 0, 0, 36), (36, 38, 123, 127, 1035, 39), (39, 19, 1, 47, 0, 42), (42, 0, 0, 0, (-4), 44), (44, 21, 0, 58, 0, 47), (47, 2, 0, 0, 0, 48), (48, 25, 657, 57, 916, 51), (51, 0, 0, 0, 11, 53), (53, 1, 1, 0, 0, 54), (54, 8, 2, 0, 0, 55), (55, 1, 2, 0, 0, 56), (56, 8, 0, 0, 0, 57), (57, 28, 0, 0, 0, 58), (58, 46, 0, 0, 0, 59)])
def jm_169 : jM := (⟨"RuleMillModel", "order", "(III)I"⟩, prog_12_method_52_code, 5, (some (.int)), 4, 10, [1215, 91, 1213, 1214], [(0, 2, 0, 0, 0, 1), (1, 1, 1, 0, 0, 2), (2, 39, 170, 270, 1216, 5), (5, 19, 0, 38, 0, 8), (8, 1, 2, 0, 0, 9), (9, 10, 0, 0, 0, 10), (10, 12, 0, 0, 0, 11), (11, 2, 0, 0, 0, 12), (12, 25, 661, 66, 920, 15), (15, 1, 1, 0, 0, 16), (16, 28, 0, 0, 0, 17), (17, 0, 0, 0, 1, 18), (18, 8, 1, 0, 0, 19), (19, 10, 0, 0, 0, 20), (20, 38, 123, 127, 1035, 23), (23, 19, 0, 38, 0, 26), (26, 1, 3, 0, 0, 27), (27, 10, 0, 0, 0, 28), (28, 12, 0, 0, 0, 29), (29, 12, 1034, 125, 3, 32), (32, 38, 123, 127, 1035, 35), (35, 19, 1, 40, 0, 38), (38, 0, 0, 0, (-1), 39), (39, 46, 0, 0, 0, 40), (40, 0, 0, 0, 24, 42), (42, 1, 1, 0, 0, 43), (43, 8, 2, 0, 0, 44), (44, 1, 2, 0, 0, 45), (45, 8, 0, 0, 0, 46), (46, 4, 4, 0, 0, 48), (48, 1, 3, 0, 0, 49), (49, 19, 1, 62, 0, 52), (52, 2, 0, 0, 0, 53), (53, 25, 662, 69, 921, 56), (56, 1, 4, 0, 0, 58), (58, 28, 0, 0, 0, 59), (59, 21, 0, 99, 0, 62), (62, 1, 3, 0, 0, 63), (63, 0, 0, 0, 1, 64), (64, 20, 1, 77, 0, 67), (67, 2, 0, 0, 0, 68), (68, 25, 663, 72, 922, 71), (71, 1, 4, 0, 0, 73), (73, 28, 0, 0, 0, 74), (74, 21, 0, 99, 0, 77), (77, 1, 3, 0, 0, 78), (78, 0, 0, 0, 2, 79), (79, 20, 1, 92, 0, 82), (82, 2, 0, 0, 0, 83), (83, 25, 664, 75, 923, 86), (86, 1, 4, 0, 0, 88), (88, 28, 0, 0, 0, 89), (89, 21, 0, 99, 0, 92), (92, 2, 0, 0, 0, 93), (93, 25, 665, 78, 924, 96), (96, 1, 4, 0, 0, 98), (98, 28, 0, 0, 0, 99), (99, 46, 0, 0, 0, 100)])
def jm_170 : jM := (⟨"RuleMillModel", "isProgram", "(I)Z"⟩, prog_12_method_45_code, 2, (some (.boolean)), 2, 10, [1219, 91, 1218, 68], [(0, 1, 1, 0, 0, 1), (1, 10, 0, 0, 0, 2), (2, 12, 0, 0, 0, 3), (3, 2, 0, 0, 0, 4), (4, 25, 660, 134, 919, 7), (7, 0, 0, 0, 1, 8), (8, 8, 1, 0, 0, 9), (9, 10, 0, 0, 0, 10), (10, 38, 123, 127, 1035, 13), (13, 47, 0, 0, 0, 14)])
def jm_171 : jM := (⟨"RuleMillModel", "size", "(II)I"⟩, prog_12_method_54_code, 3, (some (.int)), 3, 10, [1223, 91, 1221, 1222], [(0, 2, 0, 0, 0, 1), (1, 1, 1, 0, 0, 2), (2, 39, 170, 270, 1216, 5), (5, 19, 0, 18, 0, 8), (8, 1, 2, 0, 0, 9), (9, 10, 0, 0, 0, 10), (10, 12, 0, 0, 0, 11), (11, 12, 0, 0, 1, 12), (12, 38, 123, 127, 1035, 15), (15, 19, 1, 20, 0, 18), (18, 0, 0, 0, (-1), 19), (19, 46, 0, 0, 0, 20), (20, 1, 2, 0, 0, 21), (21, 19, 1, 33, 0, 24), (24, 2, 0, 0, 0, 25), (25, 25, 661, 66, 920, 28), (28, 1, 1, 0, 0, 29), (29, 28, 0, 0, 0, 30), (30, 21, 0, 38, 0, 33), (33, 2, 0, 0, 0, 34), (34, 1, 1, 0, 0, 35), (35, 39, 172, 273, 1224, 38), (38, 46, 0, 0, 0, 39)])
def jm_172 : jM := (⟨"RuleMillModel", "priceIn", "(I)I"⟩, prog_12_method_53_code, 4, (some (.int)), 2, 10, [1227, 91, 1226, 69], [(0, 0, 0, 0, 0, 1), (1, 4, 2, 0, 0, 2), (2, 0, 0, 0, 0, 3), (3, 4, 3, 0, 0, 4), (4, 1, 3, 0, 0, 5), (5, 2, 0, 0, 0, 6), (6, 25, 661, 66, 920, 9), (9, 1, 1, 0, 0, 10), (10, 28, 0, 0, 0, 11), (11, 20, 3, 37, 0, 14), (14, 1, 2, 0, 0, 15), (15, 2, 0, 0, 0, 16), (16, 25, 662, 69, 921, 19), (19, 0, 0, 0, 24, 21), (21, 1, 1, 0, 0, 22), (22, 8, 2, 0, 0, 23), (23, 1, 3, 0, 0, 24), (24, 8, 0, 0, 0, 25), (25, 28, 0, 0, 0, 26), (26, 38, 167, 258, 1205, 29), (29, 8, 0, 0, 0, 30), (30, 4, 2, 0, 0, 31), (31, 7, 3, 0, 1, 34), (34, 21, 0, 4, 0, 37), (37, 1, 2, 0, 0, 38), (38, 46, 0, 0, 0, 39)])
def jm_173 : jM := (⟨"RuleMillModel", "letter", "(II)I"⟩, prog_12_method_58_code, 3, (some (.int)), 3, 10, [1231, 91, 1229, 1230], [(0, 2, 0, 0, 0, 1), (1, 1, 1, 0, 0, 2), (2, 39, 170, 270, 1216, 5), (5, 19, 1, 10, 0, 8), (8, 0, 0, 0, (-1), 9), (9, 46, 0, 0, 0, 10), (10, 2, 0, 0, 0, 11), (11, 1, 1, 0, 0, 12), (12, 39, 174, 285, 1232, 15), (15, 1, 2, 0, 0, 16), (16, 10, 0, 0, 0, 17), (17, 12, 0, 0, 0, 18), (18, 2, 0, 0, 0, 19), (19, 25, 675, 276, 934, 22), (22, 10, 0, 0, 0, 23), (23, 38, 123, 127, 1035, 26), (26, 19, 1, 31, 0, 29), (29, 0, 0, 0, (-1), 30), (30, 46, 0, 0, 0, 31), (31, 1, 2, 0, 0, 32), (32, 2, 0, 0, 0, 33), (33, 25, 675, 276, 934, 36), (36, 20, 1, 43, 0, 39), (39, 0, 0, 0, 0, 40), (40, 21, 0, 49, 0, 43), (43, 2, 0, 0, 0, 44), (44, 25, 674, 100, 933, 47), (47, 1, 2, 0, 0, 48), (48, 28, 0, 0, 0, 49), (49, 46, 0, 0, 0, 50)])
def jm_174 : jM := (⟨"RuleMillModel", "sayProgram", "(I)V"⟩, prog_12_method_57_code, 6, none, 2, 10, [1235, 91, 1234, 70], [(0, 2, 0, 0, 0, 1), (1, 0, 0, 0, 0, 2), (2, 26, 675, 276, 934, 5), (5, 0, 0, 0, 0, 6), (6, 4, 2, 0, 0, 7), (7, 1, 2, 0, 0, 8), (8, 2, 0, 0, 0, 9), (9, 25, 661, 66, 920, 12), (12, 1, 1, 0, 0, 13), (13, 28, 0, 0, 0, 14), (14, 20, 3, 186, 0, 17), (17, 0, 0, 0, 24, 19), (19, 1, 1, 0, 0, 20), (20, 8, 2, 0, 0, 21), (21, 1, 2, 0, 0, 22), (22, 8, 0, 0, 0, 23), (23, 4, 3, 0, 0, 24), (24, 1, 2, 0, 0, 25), (25, 19, 5, 34, 0, 28), (28, 2, 0, 0, 0, 29), (29, 0, 0, 0, 59, 31), (31, 39, 175, 279, 1236, 34), (34, 2, 0, 0, 0, 35), (35, 2, 0, 0, 0, 36), (36, 25, 662, 69, 921, 39), (39, 1, 3, 0, 0, 40), (40, 28, 0, 0, 0, 41), (41, 39, 176, 282, 1240, 44), (44, 2, 0, 0, 0, 45), (45, 25, 662, 69, 921, 48), (48, 1, 3, 0, 0, 49), (49, 28, 0, 0, 0, 50), (50, 38, 137, 181, 1089, 53), (53, 4, 4, 0, 0, 55), (55, 0, 0, 0, 0, 56), (56, 4, 5, 0, 0, 58), (58, 1, 5, 0, 0, 60), (60, 1, 4, 0, 0, 62), (62, 20, 3, 119, 0, 65), (65, 2, 0, 0, 0, 66), (66, 0, 0, 0, 32, 68), (68, 39, 175, 279, 1236, 71), (71, 2, 0, 0, 0, 72), (72, 0, 0, 0, 97, 74), (74, 1, 5, 0, 0, 76), (76, 19, 1, 88, 0, 79), (79, 2, 0, 0, 0, 80), (80, 25, 663, 72, 922, 83), (83, 1, 3, 0, 0, 84), (84, 28, 0, 0, 0, 85), (85, 21, 0, 109, 0, 88), (88, 1, 5, 0, 0, 90), (90, 0, 0, 0, 1, 91), (91, 20, 1, 103, 0, 94), (94, 2, 0, 0, 0, 95), (95, 25, 664, 75, 923, 98), (98, 1, 3, 0, 0, 99), (99, 28, 0, 0, 0, 100), (100, 21, 0, 109, 0, 103), (103, 2, 0, 0, 0, 104), (104, 25, 665, 78, 924, 107), (107, 1, 3, 0, 0, 108), (108, 28, 0, 0, 0, 109), (109, 8, 0, 0, 0, 110), (110, 39, 175, 279, 1236, 113), (113, 7, 5, 0, 1, 116), (116, 21, 0, 58, 0, 119), (119, 2, 0, 0, 0, 120), (120, 25, 662, 69, 921, 123), (123, 1, 3, 0, 0, 124), (124, 28, 0, 0, 0, 125), (125, 38, 143, 190, 1111, 128), (128, 19, 0, 180, 0, 131), (131, 2, 0, 0, 0, 132), (132, 0, 0, 0, 32, 134), (134, 39, 175, 279, 1236, 137), (137, 2, 0, 0, 0, 138), (138, 25, 664, 75, 923, 141), (141, 1, 3, 0, 0, 142), (142, 28, 0, 0, 0, 143), (143, 0, 0, 0, 9, 145), (145, 20, 5, 164, 0, 148), (148, 2, 0, 0, 0, 149), (149, 0, 0, 0, 48, 151), (151, 2, 0, 0, 0, 152), (152, 25, 664, 75, 923, 155), (155, 1, 3, 0, 0, 156), (156, 28, 0, 0, 0, 157), (157, 0, 0, 0, 10, 159), (159, 8, 8, 0, 0, 160), (160, 8, 0, 0, 0, 161), (161, 39, 175, 279, 1236, 164), (164, 2, 0, 0, 0, 165), (165, 0, 0, 0, 48, 167), (167, 2, 0, 0, 0, 168), (168, 25, 664, 75, 923, 171), (171, 1, 3, 0, 0, 172), (172, 28, 0, 0, 0, 173), (173, 0, 0, 0, 10, 175), (175, 8, 9, 0, 0, 176), (176, 8, 0, 0, 0, 177), (177, 39, 175, 279, 1236, 180), (180, 7, 2, 0, 1, 183), (183, 21, 0, 7, 0, 186), (186, 45, 0, 0, 0, 187)])
def jm_175 : jM := (⟨"RuleMillModel", "say", "(I)V"⟩, prog_12_method_55_code, 2, none, 2, 10, [1239, 91, 1238, 71], [(0, 2, 0, 0, 0, 1), (1, 25, 674, 100, 933, 4), (4, 2, 0, 0, 0, 5), (5, 25, 675, 276, 934, 8), (8, 1, 1, 0, 0, 9), (9, 29, 0, 0, 0, 10), (10, 2, 0, 0, 0, 11), (11, 16, 0, 0, 0, 12), (12, 25, 675, 276, 934, 15), (15, 0, 0, 0, 1, 16), (16, 8, 0, 0, 0, 17), (17, 26, 675, 276, 934, 20), (20, 45, 0, 0, 0, 21)])
def jm_176 : jM := (⟨"RuleMillModel", "sayName", "(I)V"⟩, prog_12_method_56_code, 3, none, 2, 10, [1243, 91, 1242, 72], [(0, 2, 0, 0, 0, 1), (1, 25, 669, 85, 928, 4), (4, 1, 1, 0, 0, 5), (5, 28, 0, 0, 0, 6), (6, 4, 2, 0, 0, 7), (7, 1, 2, 0, 0, 8), (8, 0, 0, 0, 729, 11), (11, 20, 2, 32, 0, 14), (14, 2, 0, 0, 0, 15), (15, 0, 0, 0, 96, 17), (17, 1, 2, 0, 0, 18), (18, 0, 0, 0, 729, 21), (21, 8, 8, 0, 0, 22), (22, 8, 0, 0, 0, 23), (23, 39, 175, 279, 1236, 26), (26, 1, 2, 0, 0, 27), (27, 0, 0, 0, 729, 30), (30, 8, 9, 0, 0, 31), (31, 4, 2, 0, 0, 32), (32, 2, 0, 0, 0, 33), (33, 0, 0, 0, 96, 35), (35, 1, 2, 0, 0, 36), (36, 0, 0, 0, 27, 38), (38, 8, 8, 0, 0, 39), (39, 8, 0, 0, 0, 40), (40, 39, 175, 279, 1236, 43), (43, 2, 0, 0, 0, 44), (44, 0, 0, 0, 96, 46), (46, 1, 2, 0, 0, 47), (47, 0, 0, 0, 27, 49), (49, 8, 9, 0, 0, 50), (50, 8, 0, 0, 0, 51), (51, 39, 175, 279, 1236, 54), (54, 45, 0, 0, 0, 55)])
def jm_177 : jM := (⟨"RuleMillModel", "joined", "(II)I"⟩, prog_12_method_60_code, 4, (some (.int)), 3, 10, [1247, 91, 1245, 1246], [(0, 2, 0, 0, 0, 1), (1, 1, 1, 0, 0, 2), (2, 39, 170, 270, 1216, 5), (5, 19, 0, 16, 0, 8), (8, 2, 0, 0, 0, 9), (9, 1, 2, 0, 0, 10), (10, 39, 170, 270, 1216, 13), (13, 19, 1, 18, 0, 16), (16, 0, 0, 0, (-1), 17), (17, 46, 0, 0, 0, 18), (18, 2, 0, 0, 0, 19), (19, 25, 660, 134, 919, 22), (22, 0, 0, 0, 16, 24), (24, 20, 0, 45, 0, 27), (27, 2, 0, 0, 0, 28), (28, 25, 661, 66, 920, 31), (31, 1, 1, 0, 0, 32), (32, 28, 0, 0, 0, 33), (33, 2, 0, 0, 0, 34), (34, 25, 661, 66, 920, 37), (37, 1, 2, 0, 0, 38), (38, 28, 0, 0, 0, 39), (39, 8, 0, 0, 0, 40), (40, 0, 0, 0, 24, 42), (42, 20, 5, 48, 0, 45), (45, 0, 0, 0, (-3), 47), (47, 46, 0, 0, 0, 48), (48, 0, 0, 0, 0, 49), (49, 4, 3, 0, 0, 50), (50, 1, 3, 0, 0, 51), (51, 2, 0, 0, 0, 52), (52, 25, 661, 66, 920, 55), (55, 1, 1, 0, 0, 56), (56, 28, 0, 0, 0, 57), (57, 2, 0, 0, 0, 58), (58, 25, 661, 66, 920, 61), (61, 1, 2, 0, 0, 62), (62, 28, 0, 0, 0, 63), (63, 8, 0, 0, 0, 64), (64, 20, 3, 118, 0, 67), (67, 2, 0, 0, 0, 68), (68, 1, 3, 0, 0, 69), (69, 2, 0, 0, 0, 70), (70, 25, 661, 66, 920, 73), (73, 1, 1, 0, 0, 74), (74, 28, 0, 0, 0, 75), (75, 20, 3, 87, 0, 78), (78, 0, 0, 0, 24, 80), (80, 1, 1, 0, 0, 81), (81, 8, 2, 0, 0, 82), (82, 1, 3, 0, 0, 83), (83, 8, 0, 0, 0, 84), (84, 21, 0, 100, 0, 87), (87, 0, 0, 0, 24, 89), (89, 1, 2, 0, 0, 90), (90, 8, 2, 0, 0, 91), (91, 1, 3, 0, 0, 92), (92, 8, 0, 0, 0, 93), (93, 2, 0, 0, 0, 94), (94, 25, 661, 66, 920, 97), (97, 1, 1, 0, 0, 98), (98, 28, 0, 0, 0, 99), (99, 8, 1, 0, 0, 100), (100, 0, 0, 0, 24, 102), (102, 2, 0, 0, 0, 103), (103, 25, 660, 134, 919, 106), (106, 8, 2, 0, 0, 107), (107, 1, 3, 0, 0, 108), (108, 8, 0, 0, 0, 109), (109, 39, 178, 288, 1248, 112), (112, 7, 3, 0, 1, 115), (115, 21, 0, 50, 0, 118), (118, 2, 0, 0, 0, 119), (119, 25, 661, 66, 920, 122), (122, 2, 0, 0, 0, 123), (123, 25, 660, 134, 919, 126), (126, 2, 0, 0, 0, 127), (127, 25, 661, 66, 920, 130), (130, 1, 1, 0, 0, 131), (131, 28, 0, 0, 0, 132), (132, 2, 0, 0, 0, 133), (133, 25, 661, 66, 920, 136), (136, 1, 2, 0, 0, 137), (137, 28, 0, 0, 0, 138), (138, 8, 0, 0, 0, 139), (139, 29, 0, 0, 0, 140), (140, 2, 0, 0, 0, 141), (141, 16, 0, 0, 0, 142), (142, 25, 660, 134, 919, 145), (145, 0, 0, 0, 1, 146), (146, 8, 0, 0, 0, 147), (147, 26, 660, 134, 919, 150), (150, 2, 0, 0, 0, 151), (151, 25, 660, 134, 919, 154), (154, 0, 0, 0, 1, 155), (155, 8, 1, 0, 0, 156), (156, 46, 0, 0, 0, 157)])
def jm_178 : jM := (⟨"RuleMillModel", "copyOrder", "(II)V"⟩, prog_12_method_59_code, 3, none, 3, 10, [1251, 91, 1250, 73], [(0, 2, 0, 0, 0, 1), (1, 25, 662, 69, 921, 4), (4, 1, 2, 0, 0, 5), (5, 2, 0, 0, 0, 6), (6, 25, 662, 69, 921, 9), (9, 1, 1, 0, 0, 10), (10, 28, 0, 0, 0, 11), (11, 29, 0, 0, 0, 12), (12, 2, 0, 0, 0, 13), (13, 25, 663, 72, 922, 16), (16, 1, 2, 0, 0, 17), (17, 2, 0, 0, 0, 18), (18, 25, 663, 72, 922, 21), (21, 1, 1, 0, 0, 22), (22, 28, 0, 0, 0, 23), (23, 29, 0, 0, 0, 24), (24, 2, 0, 0, 0, 25), (25, 25, 664, 75, 923, 28), (28, 1, 2, 0, 0, 29), (29, 2, 0, 0, 0, 30), (30, 25, 664, 75, 923, 33), (33, 1, 1, 0, 0, 34), (34, 28, 0, 0, 0, 35), (35, 29, 0, 0, 0, 36), (36, 2, 0, 0, 0, 37), (37, 25, 665, 78, 924, 40), (40, 1, 2, 0, 0, 41), (41, 2, 0, 0, 0, 42), (42, 25, 665, 78, 924, 45), (45, 1, 1, 0, 0, 46), (46, 28, 0, 0, 0, 47), (47, 29, 0, 0, 0, 48), (48, 45, 0, 0, 0, 49)])
def jm_179 : jM := (⟨"RuleMillModel", "part", "(III)I"⟩, prog_12_method_61_code, 5, (some (.int)), 4, 10, [1255, 91, 1253, 1254], [(0, 2, 0, 0, 0, 1), (1, 1, 1, 0, 0, 2), (2, 39, 170, 270, 1216, 5), (5, 19, 0, 27, 0, 8), (8, 1, 2, 0, 0, 9), (9, 19, 2, 27, 0, 12), (12, 1, 3, 0, 0, 13), (13, 1, 2, 0, 0, 14), (14, 20, 2, 27, 0, 17), (17, 1, 3, 0, 0, 18), (18, 2, 0, 0, 0, 19), (19, 25, 661, 66, 920, 22), (22, 1, 1, 0, 0, 23), (23, 28, 0, 0, 0, 24), (24, 20, 5, 29, 0, 27), (27, 0, 0, 0, (-1), 28), (28, 46, 0, 0, 0, 29), (29, 2, 0, 0, 0, 30), (30, 25, 660, 134, 919, 33), (33, 0, 0, 0, 16, 35), (35, 20, 1, 41, 0, 38), (38, 0, 0, 0, (-3), 40), (40, 46, 0, 0, 0, 41), (41, 1, 2, 0, 0, 42), (42, 4, 4, 0, 0, 44), (44, 1, 4, 0, 0, 46), (46, 1, 3, 0, 0, 47), (47, 20, 3, 79, 0, 50), (50, 2, 0, 0, 0, 51), (51, 0, 0, 0, 24, 53), (53, 1, 1, 0, 0, 54), (54, 8, 2, 0, 0, 55), (55, 1, 4, 0, 0, 57), (57, 8, 0, 0, 0, 58), (58, 0, 0, 0, 24, 60), (60, 2, 0, 0, 0, 61), (61, 25, 660, 134, 919, 64), (64, 8, 2, 0, 0, 65), (65, 1, 4, 0, 0, 67), (67, 8, 0, 0, 0, 68), (68, 1, 2, 0, 0, 69), (69, 8, 1, 0, 0, 70), (70, 39, 178, 288, 1248, 73), (73, 7, 4, 0, 1, 76), (76, 21, 0, 44, 0, 79), (79, 2, 0, 0, 0, 80), (80, 25, 661, 66, 920, 83), (83, 2, 0, 0, 0, 84), (84, 25, 660, 134, 919, 87), (87, 1, 3, 0, 0, 88), (88, 1, 2, 0, 0, 89), (89, 8, 1, 0, 0, 90), (90, 29, 0, 0, 0, 91), (91, 2, 0, 0, 0, 92), (92, 16, 0, 0, 0, 93), (93, 25, 660, 134, 919, 96), (96, 0, 0, 0, 1, 97), (97, 8, 0, 0, 0, 98), (98, 26, 660, 134, 919, 101), (101, 2, 0, 0, 0, 102), (102, 25, 660, 134, 919, 105), (105, 0, 0, 0, 1, 106), (106, 8, 1, 0, 0, 107), (107, 46, 0, 0, 0, 108)])
def jm_180 : jM := (⟨"RuleMillModel", "window", "(III)I"⟩, prog_12_method_65_code, 4, (some (.int)), 4, 10, [1259, 91, 1257, 1258], [(0, 2, 0, 0, 0, 1), (1, 1, 1, 0, 0, 2), (2, 1, 2, 0, 0, 3), (3, 1, 3, 0, 0, 4), (4, 39, 181, 295, 1260, 7), (7, 19, 1, 12, 0, 10), (10, 0, 0, 0, (-1), 11), (11, 46, 0, 0, 0, 12), (12, 2, 0, 0, 0, 13), (13, 1, 1, 0, 0, 14), (14, 1, 2, 0, 0, 15), (15, 1, 3, 0, 0, 16), (16, 39, 182, 299, 1264, 19), (19, 19, 0, 26, 0, 22), (22, 0, 0, 0, 1, 23), (23, 21, 0, 27, 0, 26), (26, 0, 0, 0, 0, 27), (27, 46, 0, 0, 0, 28)])
def jm_181 : jM := (⟨"RuleMillModel", "isPlace", "(III)Z"⟩, prog_12_method_64_code, 4, (some (.boolean)), 4, 10, [1263, 91, 1262, 74], [(0, 2, 0, 0, 0, 1), (1, 1, 1, 0, 0, 2), (2, 39, 170, 270, 1216, 5), (5, 19, 0, 38, 0, 8), (8, 2, 0, 0, 0, 9), (9, 1, 3, 0, 0, 10), (10, 39, 162, 255, 1185, 13), (13, 19, 0, 38, 0, 16), (16, 1, 2, 0, 0, 17), (17, 10, 0, 0, 0, 18), (18, 12, 0, 0, 0, 19), (19, 2, 0, 0, 0, 20), (20, 25, 661, 66, 920, 23), (23, 1, 1, 0, 0, 24), (24, 28, 0, 0, 0, 25), (25, 0, 0, 0, 1, 26), (26, 8, 1, 0, 0, 27), (27, 10, 0, 0, 0, 28), (28, 38, 123, 127, 1035, 31), (31, 19, 0, 38, 0, 34), (34, 0, 0, 0, 1, 35), (35, 21, 0, 39, 0, 38), (38, 0, 0, 0, 0, 39), (39, 47, 0, 0, 0, 40)])
def jm_182 : jM := (⟨"RuleMillModel", "isWindow", "(III)Z"⟩, prog_12_method_63_code, 12, (some (.boolean)), 4, 10, [1267, 91, 1266, 75], [(0, 2, 0, 0, 0, 1), (1, 25, 645, 20, 904, 4), (4, 0, 0, 0, 2, 5), (5, 1, 3, 0, 0, 6), (6, 8, 2, 0, 0, 7), (7, 28, 0, 0, 0, 8), (8, 4, 4, 0, 0, 10), (10, 1, 2, 0, 0, 11), (11, 1, 4, 0, 0, 13), (13, 8, 0, 0, 0, 14), (14, 2, 0, 0, 0, 15), (15, 25, 661, 66, 920, 18), (18, 1, 1, 0, 0, 19), (19, 28, 0, 0, 0, 20), (20, 20, 4, 48, 0, 23), (23, 2, 0, 0, 0, 24), (24, 25, 661, 66, 920, 27), (27, 1, 1, 0, 0, 28), (28, 28, 0, 0, 0, 29), (29, 1, 4, 0, 0, 31), (31, 8, 1, 0, 0, 32), (32, 2, 0, 0, 0, 33), (33, 25, 645, 20, 904, 36), (36, 0, 0, 0, 2, 37), (37, 1, 3, 0, 0, 38), (38, 8, 2, 0, 0, 39), (39, 0, 0, 0, 1, 40), (40, 8, 0, 0, 0, 41), (41, 28, 0, 0, 0, 42), (42, 8, 0, 0, 0, 43), (43, 0, 0, 0, 24, 45), (45, 20, 5, 50, 0, 48), (48, 0, 0, 0, 0, 49), (49, 47, 0, 0, 0, 50), (50, 0, 0, 0, 0, 51), (51, 4, 5, 0, 0, 53), (53, 1, 5, 0, 0, 55), (55, 0, 0, 0, 4, 56), (56, 20, 3, 85, 0, 59), (59, 2, 0, 0, 0, 60), (60, 25, 676, 103, 935, 63), (63, 1, 5, 0, 0, 65), (65, 0, 0, 0, (-4), 67), (67, 29, 0, 0, 0, 68), (68, 2, 0, 0, 0, 69), (69, 25, 677, 106, 936, 72), (72, 1, 5, 0, 0, 74), (74, 0, 0, 0, 3, 75), (75, 8, 9, 0, 0, 76), (76, 0, 0, 0, (-4), 78), (78, 29, 0, 0, 0, 79), (79, 7, 5, 0, 1, 82), (82, 21, 0, 53, 0, 85), (85, 0, 0, 0, 1, 86), (86, 4, 5, 0, 0, 88), (88, 0, 0, 0, 0, 89), (89, 4, 6, 0, 0, 91), (91, 1, 6, 0, 0, 93), (93, 1, 4, 0, 0, 95), (95, 20, 3, 329, 0, 98), (98, 1, 5, 0, 0, 100), (100, 19, 0, 329, 0, 103), (103, 0, 0, 0, 8, 105), (105, 1, 3, 0, 0, 106), (106, 8, 2, 0, 0, 107), (107, 1, 6, 0, 0, 109), (109, 8, 0, 0, 0, 110), (110, 4, 7, 0, 0, 112), (112, 0, 0, 0, 24, 114), (114, 1, 1, 0, 0, 115), (115, 8, 2, 0, 0, 116), (116, 1, 2, 0, 0, 117), (117, 8, 0, 0, 0, 118), (118, 1, 6, 0, 0, 120), (120, 8, 0, 0, 0, 121), (121, 4, 8, 0, 0, 123), (123, 2, 0, 0, 0, 124), (124, 25, 646, 23, 905, 127), (127, 1, 7, 0, 0, 129), (129, 28, 0, 0, 0, 130), (130, 4, 9, 0, 0, 132), (132, 1, 9, 0, 0, 134), (134, 38, 137, 181, 1089, 137), (137, 4, 10, 0, 0, 139), (139, 2, 0, 0, 0, 140), (140, 25, 662, 69, 921, 143), (143, 1, 8, 0, 0, 145), (145, 28, 0, 0, 0, 146), (146, 1, 9, 0, 0, 148), (148, 20, 1, 155, 0, 151), (151, 0, 0, 0, 1, 152), (152, 21, 0, 156, 0, 155), (155, 0, 0, 0, 0, 156), (156, 4, 5, 0, 0, 158), (158, 0, 0, 0, 0, 159), (159, 4, 11, 0, 0, 161), (161, 1, 11, 0, 0, 163), (163, 1, 10, 0, 0, 165), (165, 20, 3, 239, 0, 168), (168, 1, 5, 0, 0, 170), (170, 19, 0, 239, 0, 173), (173, 2, 0, 0, 0, 174), (174, 25, 676, 103, 935, 177), (177, 2, 0, 0, 0, 178), (178, 25, 647, 26, 906, 181), (181, 0, 0, 0, 3, 182), (182, 1, 7, 0, 0, 184), (184, 8, 2, 0, 0, 185), (185, 1, 11, 0, 0, 187), (187, 8, 0, 0, 0, 188), (188, 28, 0, 0, 0, 189), (189, 1, 11, 0, 0, 191), (191, 19, 1, 204, 0, 194), (194, 2, 0, 0, 0, 195), (195, 25, 663, 72, 922, 198), (198, 1, 8, 0, 0, 200), (200, 28, 0, 0, 0, 201), (201, 21, 0, 227, 0, 204), (204, 1, 11, 0, 0, 206), (206, 0, 0, 0, 1, 207), (207, 20, 1, 220, 0, 210), (210, 2, 0, 0, 0, 211), (211, 25, 664, 75, 923, 214), (214, 1, 8, 0, 0, 216), (216, 28, 0, 0, 0, 217), (217, 21, 0, 227, 0, 220), (220, 2, 0, 0, 0, 221), (221, 25, 665, 78, 924, 224), (224, 1, 8, 0, 0, 226), (226, 28, 0, 0, 0, 227), (227, 0, 0, 0, 1, 228), (228, 38, 183, 291, 1268, 231), (231, 4, 5, 0, 0, 233), (233, 7, 11, 0, 1, 236), (236, 21, 0, 161, 0, 239), (239, 1, 5, 0, 0, 241), (241, 19, 0, 323, 0, 244), (244, 1, 9, 0, 0, 246), (246, 38, 143, 190, 1111, 249), (249, 19, 0, 323, 0, 252), (252, 2, 0, 0, 0, 253), (253, 25, 648, 29, 907, 256), (256, 0, 0, 0, 2, 257), (257, 1, 7, 0, 0, 259), (259, 8, 2, 0, 0, 260), (260, 30, 0, 0, 0, 261), (261, 19, 0, 291, 0, 264), (264, 2, 0, 0, 0, 265), (265, 25, 677, 106, 936, 268), (268, 2, 0, 0, 0, 269), (269, 25, 649, 33, 908, 272), (272, 0, 0, 0, 2, 273), (273, 1, 7, 0, 0, 275), (275, 8, 2, 0, 0, 276), (276, 28, 0, 0, 0, 277), (277, 2, 0, 0, 0, 278), (278, 25, 664, 75, 923, 281), (281, 1, 8, 0, 0, 283), (283, 28, 0, 0, 0, 284), (284, 0, 0, 0, 0, 285), (285, 38, 183, 291, 1268, 288), (288, 21, 0, 321, 0, 291), (291, 2, 0, 0, 0, 292), (292, 1, 9, 0, 0, 294), (294, 2, 0, 0, 0, 295), (295, 25, 649, 33, 908, 298), (298, 0, 0, 0, 2, 299), (299, 1, 7, 0, 0, 301), (301, 8, 2, 0, 0, 302), (302, 28, 0, 0, 0, 303), (303, 39, 155, 196, 1158, 306), (306, 2, 0, 0, 0, 307), (307, 25, 664, 75, 923, 310), (310, 1, 8, 0, 0, 312), (312, 28, 0, 0, 0, 313), (313, 20, 1, 320, 0, 316), (316, 0, 0, 0, 1, 317), (317, 21, 0, 321, 0, 320), (320, 0, 0, 0, 0, 321), (321, 4, 5, 0, 0, 323), (323, 7, 6, 0, 1, 326), (326, 21, 0, 91, 0, 329), (329, 1, 5, 0, 0, 331), (331, 47, 0, 0, 0, 332)])
def jm_183 : jM := (⟨"RuleMillModel", "fits", "([IIIZ)Z"⟩, prog_12_method_62_code, 5, (some (.boolean)), 4, 10, [1270, 91, 1269], [(0, 2, 0, 0, 0, 1), (1, 1, 1, 0, 0, 2), (2, 28, 0, 0, 0, 3), (3, 0, 0, 0, (-4), 5), (5, 20, 1, 44, 0, 8), (8, 0, 0, 0, 0, 9), (9, 4, 4, 0, 0, 11), (11, 1, 4, 0, 0, 13), (13, 2, 0, 0, 0, 14), (14, 34, 0, 0, 0, 15), (15, 20, 3, 38, 0, 18), (18, 1, 3, 0, 0, 19), (19, 19, 0, 38, 0, 22), (22, 2, 0, 0, 0, 23), (23, 1, 4, 0, 0, 25), (25, 28, 0, 0, 0, 26), (26, 1, 2, 0, 0, 27), (27, 20, 1, 32, 0, 30), (30, 0, 0, 0, 0, 31), (31, 47, 0, 0, 0, 32), (32, 7, 4, 0, 1, 35), (35, 21, 0, 11, 0, 38), (38, 2, 0, 0, 0, 39), (39, 1, 1, 0, 0, 40), (40, 1, 2, 0, 0, 41), (41, 29, 0, 0, 0, 42), (42, 0, 0, 0, 1, 43), (43, 47, 0, 0, 0, 44), (44, 2, 0, 0, 0, 45), (45, 1, 1, 0, 0, 46), (46, 28, 0, 0, 0, 47), (47, 1, 2, 0, 0, 48), (48, 20, 1, 55, 0, 51), (51, 0, 0, 0, 1, 52), (52, 21, 0, 56, 0, 55), (55, 0, 0, 0, 0, 56), (56, 47, 0, 0, 0, 57)])
def jm_184 : jM := (⟨"RuleMillModel", "meant", "(IIIII)I"⟩, prog_12_method_66_code, 6, (some (.int)), 6, 10, [1274, 91, 1272, 1273], [(0, 2, 0, 0, 0, 1), (1, 1, 1, 0, 0, 2), (2, 1, 2, 0, 0, 3), (3, 1, 3, 0, 0, 4), (4, 39, 181, 295, 1260, 7), (7, 19, 0, 21, 0, 10), (10, 1, 4, 0, 0, 12), (12, 10, 0, 0, 0, 13), (13, 12, 0, 0, 0, 14), (14, 12, 0, 0, 1, 15), (15, 38, 123, 127, 1035, 18), (18, 19, 1, 23, 0, 21), (21, 0, 0, 0, (-1), 22), (22, 46, 0, 0, 0, 23), (23, 2, 0, 0, 0, 24), (24, 1, 1, 0, 0, 25), (25, 1, 2, 0, 0, 26), (26, 1, 3, 0, 0, 27), (27, 39, 182, 299, 1264, 30), (30, 19, 0, 66, 0, 33), (33, 1, 5, 0, 0, 35), (35, 10, 0, 0, 0, 36), (36, 12, 0, 0, 0, 37), (37, 1, 4, 0, 0, 39), (39, 19, 1, 51, 0, 42), (42, 2, 0, 0, 0, 43), (43, 25, 651, 39, 910, 46), (46, 1, 3, 0, 0, 47), (47, 28, 0, 0, 0, 48), (48, 21, 0, 57, 0, 51), (51, 2, 0, 0, 0, 52), (52, 25, 652, 42, 911, 55), (55, 1, 3, 0, 0, 56), (56, 28, 0, 0, 0, 57), (57, 0, 0, 0, 1, 58), (58, 8, 1, 0, 0, 59), (59, 10, 0, 0, 0, 60), (60, 38, 123, 127, 1035, 63), (63, 19, 1, 69, 0, 66), (66, 0, 0, 0, (-4), 68), (68, 46, 0, 0, 0, 69), (69, 1, 4, 0, 0, 71), (71, 19, 1, 84, 0, 74), (74, 2, 0, 0, 0, 75), (75, 25, 676, 103, 935, 78), (78, 1, 5, 0, 0, 80), (80, 28, 0, 0, 0, 81), (81, 21, 0, 91, 0, 84), (84, 2, 0, 0, 0, 85), (85, 25, 677, 106, 936, 88), (88, 1, 5, 0, 0, 90), (90, 28, 0, 0, 0, 91), (91, 46, 0, 0, 0, 92)])
def jm_185 : jM := (⟨"RuleMillModel", "change", "(III)I"⟩, prog_12_method_68_code, 4, (some (.int)), 4, 10, [1278, 91, 1276, 1277], [(0, 2, 0, 0, 0, 1), (1, 1, 1, 0, 0, 2), (2, 1, 2, 0, 0, 3), (3, 1, 3, 0, 0, 4), (4, 39, 181, 295, 1260, 7), (7, 19, 1, 12, 0, 10), (10, 0, 0, 0, (-1), 11), (11, 46, 0, 0, 0, 12), (12, 2, 0, 0, 0, 13), (13, 1, 1, 0, 0, 14), (14, 1, 2, 0, 0, 15), (15, 1, 3, 0, 0, 16), (16, 39, 182, 299, 1264, 19), (19, 19, 0, 30, 0, 22), (22, 2, 0, 0, 0, 23), (23, 1, 3, 0, 0, 24), (24, 39, 164, 267, 1193, 27), (27, 19, 1, 33, 0, 30), (30, 0, 0, 0, (-2), 32), (32, 46, 0, 0, 0, 33), (33, 2, 0, 0, 0, 34), (34, 1, 1, 0, 0, 35), (35, 1, 2, 0, 0, 36), (36, 1, 3, 0, 0, 37), (37, 39, 186, 302, 1279, 40), (40, 2, 0, 0, 0, 41), (41, 25, 661, 66, 920, 44), (44, 1, 1, 0, 0, 45), (45, 28, 0, 0, 0, 46), (46, 46, 0, 0, 0, 47)])
def jm_186 : jM := (⟨"RuleMillModel", "changes", "(III)V"⟩, prog_12_method_67_code, 12, none, 4, 10, [1282, 91, 1281, 76], [(0, 2, 0, 0, 0, 1), (1, 25, 645, 20, 904, 4), (4, 0, 0, 0, 2, 5), (5, 1, 3, 0, 0, 6), (6, 8, 2, 0, 0, 7), (7, 28, 0, 0, 0, 8), (8, 4, 4, 0, 0, 10), (10, 2, 0, 0, 0, 11), (11, 25, 645, 20, 904, 14), (14, 0, 0, 0, 2, 15), (15, 1, 3, 0, 0, 16), (16, 8, 2, 0, 0, 17), (17, 0, 0, 0, 1, 18), (18, 8, 0, 0, 0, 19), (19, 28, 0, 0, 0, 20), (20, 4, 5, 0, 0, 22), (22, 2, 0, 0, 0, 23), (23, 25, 661, 66, 920, 26), (26, 1, 1, 0, 0, 27), (27, 28, 0, 0, 0, 28), (28, 4, 6, 0, 0, 30), (30, 0, 0, 0, 24, 32), (32, 1, 1, 0, 0, 33), (33, 8, 2, 0, 0, 34), (34, 4, 7, 0, 0, 36), (36, 1, 5, 0, 0, 38), (38, 1, 4, 0, 0, 40), (40, 20, 5, 87, 0, 43), (43, 1, 6, 0, 0, 45), (45, 0, 0, 0, 1, 46), (46, 8, 1, 0, 0, 47), (47, 4, 8, 0, 0, 49), (49, 1, 8, 0, 0, 51), (51, 1, 2, 0, 0, 52), (52, 1, 4, 0, 0, 54), (54, 8, 0, 0, 0, 55), (55, 20, 2, 84, 0, 58), (58, 2, 0, 0, 0, 59), (59, 1, 7, 0, 0, 61), (61, 1, 8, 0, 0, 63), (63, 8, 0, 0, 0, 64), (64, 1, 7, 0, 0, 66), (66, 1, 8, 0, 0, 68), (68, 8, 0, 0, 0, 69), (69, 1, 5, 0, 0, 71), (71, 8, 0, 0, 0, 72), (72, 1, 4, 0, 0, 74), (74, 8, 1, 0, 0, 75), (75, 39, 178, 288, 1248, 78), (78, 7, 8, 0, (-1), 81), (81, 21, 0, 49, 0, 84), (84, 21, 0, 126, 0, 87), (87, 1, 2, 0, 0, 88), (88, 1, 4, 0, 0, 90), (90, 8, 0, 0, 0, 91), (91, 4, 8, 0, 0, 93), (93, 1, 8, 0, 0, 95), (95, 1, 6, 0, 0, 97), (97, 20, 3, 126, 0, 100), (100, 2, 0, 0, 0, 101), (101, 1, 7, 0, 0, 103), (103, 1, 8, 0, 0, 105), (105, 8, 0, 0, 0, 106), (106, 1, 7, 0, 0, 108), (108, 1, 8, 0, 0, 110), (110, 8, 0, 0, 0, 111), (111, 1, 5, 0, 0, 113), (113, 8, 0, 0, 0, 114), (114, 1, 4, 0, 0, 116), (116, 8, 1, 0, 0, 117), (117, 39, 178, 288, 1248, 120), (120, 7, 8, 0, 1, 123), (123, 21, 0, 93, 0, 126), (126, 2, 0, 0, 0, 127), (127, 25, 661, 66, 920, 130), (130, 1, 1, 0, 0, 131), (131, 1, 6, 0, 0, 133), (133, 1, 5, 0, 0, 135), (135, 8, 0, 0, 0, 136), (136, 1, 4, 0, 0, 138), (138, 8, 1, 0, 0, 139), (139, 29, 0, 0, 0, 140), (140, 0, 0, 0, 0, 141), (141, 4, 8, 0, 0, 143), (143, 1, 8, 0, 0, 145), (145, 1, 5, 0, 0, 147), (147, 20, 3, 329, 0, 150), (150, 0, 0, 0, 8, 152), (152, 1, 3, 0, 0, 153), (153, 8, 2, 0, 0, 154), (154, 0, 0, 0, 4, 155), (155, 8, 0, 0, 0, 156), (156, 1, 8, 0, 0, 158), (158, 8, 0, 0, 0, 159), (159, 4, 9, 0, 0, 161), (161, 1, 7, 0, 0, 163), (163, 1, 2, 0, 0, 164), (164, 8, 0, 0, 0, 165), (165, 1, 8, 0, 0, 167), (167, 8, 0, 0, 0, 168), (168, 4, 10, 0, 0, 170), (170, 2, 0, 0, 0, 171), (171, 25, 646, 23, 905, 174), (174, 1, 9, 0, 0, 176), (176, 28, 0, 0, 0, 177), (177, 38, 137, 181, 1089, 180), (180, 4, 11, 0, 0, 182), (182, 2, 0, 0, 0, 183), (183, 25, 662, 69, 921, 186), (186, 1, 10, 0, 0, 188), (188, 2, 0, 0, 0, 189), (189, 25, 646, 23, 905, 192), (192, 1, 9, 0, 0, 194), (194, 28, 0, 0, 0, 195), (195, 29, 0, 0, 0, 196), (196, 2, 0, 0, 0, 197), (197, 25, 663, 72, 922, 200), (200, 1, 10, 0, 0, 202), (202, 1, 11, 0, 0, 204), (204, 19, 5, 224, 0, 207), (207, 2, 0, 0, 0, 208), (208, 25, 676, 103, 935, 211), (211, 2, 0, 0, 0, 212), (212, 25, 647, 26, 906, 215), (215, 0, 0, 0, 3, 216), (216, 1, 9, 0, 0, 218), (218, 8, 2, 0, 0, 219), (219, 28, 0, 0, 0, 220), (220, 28, 0, 0, 0, 221), (221, 21, 0, 225, 0, 224), (224, 0, 0, 0, 0, 225), (225, 29, 0, 0, 0, 226), (226, 2, 0, 0, 0, 227), (227, 25, 664, 75, 923, 230), (230, 1, 10, 0, 0, 232), (232, 1, 11, 0, 0, 234), (234, 0, 0, 0, 1, 235), (235, 20, 5, 257, 0, 238), (238, 2, 0, 0, 0, 239), (239, 25, 676, 103, 935, 242), (242, 2, 0, 0, 0, 243), (243, 25, 647, 26, 906, 246), (246, 0, 0, 0, 3, 247), (247, 1, 9, 0, 0, 249), (249, 8, 2, 0, 0, 250), (250, 0, 0, 0, 1, 251), (251, 8, 0, 0, 0, 252), (252, 28, 0, 0, 0, 253), (253, 28, 0, 0, 0, 254), (254, 21, 0, 258, 0, 257), (257, 0, 0, 0, 0, 258), (258, 29, 0, 0, 0, 259), (259, 2, 0, 0, 0, 260), (260, 25, 665, 78, 924, 263), (263, 1, 10, 0, 0, 265), (265, 1, 11, 0, 0, 267), (267, 0, 0, 0, 2, 268), (268, 20, 5, 290, 0, 271), (271, 2, 0, 0, 0, 272), (272, 25, 676, 103, 935, 275), (275, 2, 0, 0, 0, 276), (276, 25, 647, 26, 906, 279), (279, 0, 0, 0, 3, 280), (280, 1, 9, 0, 0, 282), (282, 8, 2, 0, 0, 283), (283, 0, 0, 0, 2, 284), (284, 8, 0, 0, 0, 285), (285, 28, 0, 0, 0, 286), (286, 28, 0, 0, 0, 287), (287, 21, 0, 291, 0, 290), (290, 0, 0, 0, 0, 291), (291, 29, 0, 0, 0, 292), (292, 2, 0, 0, 0, 293), (293, 25, 646, 23, 905, 296), (296, 1, 9, 0, 0, 298), (298, 28, 0, 0, 0, 299), (299, 38, 143, 190, 1111, 302), (302, 19, 0, 323, 0, 305), (305, 2, 0, 0, 0, 306), (306, 25, 664, 75, 923, 309), (309, 1, 10, 0, 0, 311), (311, 2, 0, 0, 0, 312), (312, 1, 9, 0, 0, 314), (314, 2, 0, 0, 0, 315), (315, 25, 677, 106, 936, 318), (318, 0, 0, 0, 0, 319), (319, 39, 154, 224, 1154, 322), (322, 29, 0, 0, 0, 323), (323, 7, 8, 0, 1, 326), (326, 21, 0, 143, 0, 329), (329, 2, 0, 0, 0, 330), (330, 25, 659, 63, 918, 333), (333, 1, 3, 0, 0, 334), (334, 17, 0, 0, 0, 335), (335, 28, 0, 0, 0, 336), (336, 0, 0, 0, 1, 337), (337, 8, 0, 0, 0, 338), (338, 29, 0, 0, 0, 339), (339, 45, 0, 0, 0, 340)])
def jm_187 : jM := (⟨"RuleMillModel", "mill", "(I)I"⟩, prog_12_method_71_code, 4, (some (.int)), 2, 10, [1286, 91, 1284, 1285], [(0, 2, 0, 0, 0, 1), (1, 1, 1, 0, 0, 2), (2, 39, 170, 270, 1216, 5), (5, 19, 1, 10, 0, 8), (8, 0, 0, 0, (-1), 9), (9, 46, 0, 0, 0, 10), (10, 2, 0, 0, 0, 11), (11, 0, 0, 0, 0, 12), (12, 26, 678, 309, 937, 15), (15, 2, 0, 0, 0, 16), (16, 1, 1, 0, 0, 17), (17, 39, 188, 312, 1287, 20), (20, 4, 2, 0, 0, 21), (21, 1, 2, 0, 0, 22), (22, 0, 0, 0, (-4), 24), (24, 20, 0, 94, 0, 27), (27, 2, 0, 0, 0, 28), (28, 1, 1, 0, 0, 29), (29, 1, 2, 0, 0, 30), (30, 39, 189, 306, 1291, 33), (33, 4, 3, 0, 0, 34), (34, 2, 0, 0, 0, 35), (35, 1, 1, 0, 0, 36), (36, 1, 2, 0, 0, 37), (37, 1, 3, 0, 0, 38), (38, 39, 186, 302, 1279, 41), (41, 2, 0, 0, 0, 42), (42, 25, 679, 109, 938, 45), (45, 2, 0, 0, 0, 46), (46, 25, 678, 309, 937, 49), (49, 1, 2, 0, 0, 50), (50, 29, 0, 0, 0, 51), (51, 2, 0, 0, 0, 52), (52, 25, 680, 112, 939, 55), (55, 2, 0, 0, 0, 56), (56, 25, 678, 309, 937, 59), (59, 1, 3, 0, 0, 60), (60, 29, 0, 0, 0, 61), (61, 2, 0, 0, 0, 62), (62, 25, 681, 115, 940, 65), (65, 2, 0, 0, 0, 66), (66, 25, 678, 309, 937, 69), (69, 2, 0, 0, 0, 70), (70, 1, 1, 0, 0, 71), (71, 39, 172, 273, 1224, 74), (74, 29, 0, 0, 0, 75), (75, 2, 0, 0, 0, 76), (76, 16, 0, 0, 0, 77), (77, 25, 678, 309, 937, 80), (80, 0, 0, 0, 1, 81), (81, 8, 0, 0, 0, 82), (82, 26, 678, 309, 937, 85), (85, 2, 0, 0, 0, 86), (86, 1, 1, 0, 0, 87), (87, 39, 188, 312, 1287, 90), (90, 4, 2, 0, 0, 91), (91, 21, 0, 21, 0, 94), (94, 2, 0, 0, 0, 95), (95, 25, 678, 309, 937, 98), (98, 46, 0, 0, 0, 99)])
def jm_188 : jM := (⟨"RuleMillModel", "placeIn", "(I)I"⟩, prog_12_method_70_code, 3, (some (.int)), 2, 10, [1290, 91, 1289, 77], [(0, 0, 0, 0, 0, 1), (1, 4, 2, 0, 0, 2), (2, 1, 2, 0, 0, 3), (3, 2, 0, 0, 0, 4), (4, 25, 661, 66, 920, 7), (7, 1, 1, 0, 0, 8), (8, 28, 0, 0, 0, 9), (9, 20, 3, 31, 0, 12), (12, 2, 0, 0, 0, 13), (13, 1, 1, 0, 0, 14), (14, 1, 2, 0, 0, 15), (15, 39, 189, 306, 1291, 18), (18, 0, 0, 0, (-4), 20), (20, 20, 0, 25, 0, 23), (23, 1, 2, 0, 0, 24), (24, 46, 0, 0, 0, 25), (25, 7, 2, 0, 1, 28), (28, 21, 0, 2, 0, 31), (31, 0, 0, 0, (-4), 33), (33, 46, 0, 0, 0, 34)])
def jm_189 : jM := (⟨"RuleMillModel", "ruleAt", "(II)I"⟩, prog_12_method_69_code, 4, (some (.int)), 3, 10, [1294, 91, 1293, 78], [(0, 0, 0, 0, 0, 1), (1, 4, 3, 0, 0, 2), (2, 1, 3, 0, 0, 3), (3, 2, 0, 0, 0, 4), (4, 25, 644, 131, 903, 7), (7, 20, 3, 45, 0, 10), (10, 2, 0, 0, 0, 11), (11, 25, 658, 60, 917, 14), (14, 1, 3, 0, 0, 15), (15, 30, 0, 0, 0, 16), (16, 19, 0, 39, 0, 19), (19, 2, 0, 0, 0, 20), (20, 1, 3, 0, 0, 21), (21, 39, 164, 267, 1193, 24), (24, 19, 0, 39, 0, 27), (27, 2, 0, 0, 0, 28), (28, 1, 1, 0, 0, 29), (29, 1, 2, 0, 0, 30), (30, 1, 3, 0, 0, 31), (31, 39, 182, 299, 1264, 34), (34, 19, 0, 39, 0, 37), (37, 1, 3, 0, 0, 38), (38, 46, 0, 0, 0, 39), (39, 7, 3, 0, 1, 42), (42, 21, 0, 2, 0, 45), (45, 0, 0, 0, (-4), 47), (47, 46, 0, 0, 0, 48)])
def jm_190 : jM := (⟨"RuleMillModel", "step", "(II)I"⟩, prog_12_method_72_code, 3, (some (.int)), 3, 10, [1298, 91, 1296, 1297], [(0, 1, 1, 0, 0, 1), (1, 10, 0, 0, 0, 2), (2, 12, 0, 0, 0, 3), (3, 2, 0, 0, 0, 4), (4, 25, 678, 309, 937, 7), (7, 0, 0, 0, 1, 8), (8, 8, 1, 0, 0, 9), (9, 10, 0, 0, 0, 10), (10, 38, 123, 127, 1035, 13), (13, 19, 1, 18, 0, 16), (16, 0, 0, 0, (-1), 17), (17, 46, 0, 0, 0, 18), (18, 1, 2, 0, 0, 19), (19, 19, 1, 31, 0, 22), (22, 2, 0, 0, 0, 23), (23, 25, 679, 109, 938, 26), (26, 1, 1, 0, 0, 27), (27, 28, 0, 0, 0, 28), (28, 21, 0, 60, 0, 31), (31, 1, 2, 0, 0, 32), (32, 0, 0, 0, 1, 33), (33, 20, 1, 45, 0, 36), (36, 2, 0, 0, 0, 37), (37, 25, 680, 112, 939, 40), (40, 1, 1, 0, 0, 41), (41, 28, 0, 0, 0, 42), (42, 21, 0, 60, 0, 45), (45, 1, 2, 0, 0, 46), (46, 0, 0, 0, 2, 47), (47, 20, 1, 59, 0, 50), (50, 2, 0, 0, 0, 51), (51, 25, 681, 115, 940, 54), (54, 1, 1, 0, 0, 55), (55, 28, 0, 0, 0, 56), (56, 21, 0, 60, 0, 59), (59, 0, 0, 0, (-1), 60), (60, 46, 0, 0, 0, 61)])
def jm_191 : jM := (⟨"RuleMillModel", "done", "(I)I"⟩, prog_12_method_73_code, 2, (some (.int)), 2, 10, [1302, 91, 1300, 1301], [(0, 2, 0, 0, 0, 1), (1, 1, 1, 0, 0, 2), (2, 39, 170, 270, 1216, 5), (5, 19, 1, 10, 0, 8), (8, 0, 0, 0, (-1), 9), (9, 46, 0, 0, 0, 10), (10, 2, 0, 0, 0, 11), (11, 1, 1, 0, 0, 12), (12, 39, 188, 312, 1287, 15), (15, 0, 0, 0, (-4), 17), (17, 20, 1, 24, 0, 20), (20, 0, 0, 0, 1, 21), (21, 21, 0, 25, 0, 24), (24, 0, 0, 0, 0, 25), (25, 46, 0, 0, 0, 26)])
def jm_192 : jM := (⟨"RuleMillModel", "run", "(II)I"⟩, prog_12_method_75_code, 3, (some (.int)), 3, 10, [1306, 91, 1304, 1305], [(0, 2, 0, 0, 0, 1), (1, 1, 1, 0, 0, 2), (2, 39, 170, 270, 1216, 5), (5, 19, 0, 29, 0, 8), (8, 1, 2, 0, 0, 9), (9, 10, 0, 0, 0, 10), (10, 12, 0, 0, 0, 11), (11, 0, 0, 0, 1, 12), (12, 0, 0, 0, 8, 14), (14, 2, 0, 0, 0, 15), (15, 25, 640, 7, 899, 18), (18, 8, 2, 0, 0, 19), (19, 8, 6, 0, 0, 20), (20, 0, 0, 0, 1, 21), (21, 8, 1, 0, 0, 22), (22, 10, 0, 0, 0, 23), (23, 38, 123, 127, 1035, 26), (26, 19, 1, 31, 0, 29), (29, 0, 0, 0, (-1), 30), (30, 46, 0, 0, 0, 31), (31, 2, 0, 0, 0, 32), (32, 1, 1, 0, 0, 33), (33, 1, 2, 0, 0, 34), (34, 39, 193, 315, 1307, 37), (37, 46, 0, 0, 0, 38)])
def jm_193 : jM := (⟨"RuleMillModel", "ran", "(II)I"⟩, prog_12_method_74_code, 6, (some (.int)), 3, 10, [1310, 91, 1309, 79], [(0, 0, 0, 0, 1, 1), (1, 2, 0, 0, 0, 2), (2, 25, 640, 7, 899, 5), (5, 8, 6, 0, 0, 6), (6, 0, 0, 0, 1, 7), (7, 8, 1, 0, 0, 8), (8, 4, 3, 0, 0, 9), (9, 0, 0, 0, 0, 10), (10, 4, 4, 0, 0, 12), (12, 1, 4, 0, 0, 14), (14, 0, 0, 0, 8, 16), (16, 20, 3, 43, 0, 19), (19, 2, 0, 0, 0, 20), (20, 25, 643, 17, 902, 23), (23, 1, 4, 0, 0, 25), (25, 1, 2, 0, 0, 26), (26, 1, 4, 0, 0, 28), (28, 2, 0, 0, 0, 29), (29, 25, 640, 7, 899, 32), (32, 8, 2, 0, 0, 33), (33, 8, 7, 0, 0, 34), (34, 1, 3, 0, 0, 35), (35, 8, 3, 0, 0, 36), (36, 29, 0, 0, 0, 37), (37, 7, 4, 0, 1, 40), (40, 21, 0, 12, 0, 43), (43, 0, 0, 0, 0, 44), (44, 4, 4, 0, 0, 46), (46, 1, 4, 0, 0, 48), (48, 2, 0, 0, 0, 49), (49, 25, 661, 66, 920, 52), (52, 1, 1, 0, 0, 53), (53, 28, 0, 0, 0, 54), (54, 20, 3, 104, 0, 57), (57, 0, 0, 0, 24, 59), (59, 1, 1, 0, 0, 60), (60, 8, 2, 0, 0, 61), (61, 1, 4, 0, 0, 63), (63, 8, 0, 0, 0, 64), (64, 4, 5, 0, 0, 66), (66, 2, 0, 0, 0, 67), (67, 2, 0, 0, 0, 68), (68, 25, 662, 69, 921, 71), (71, 1, 5, 0, 0, 73), (73, 28, 0, 0, 0, 74), (74, 2, 0, 0, 0, 75), (75, 25, 663, 72, 922, 78), (78, 1, 5, 0, 0, 80), (80, 28, 0, 0, 0, 81), (81, 2, 0, 0, 0, 82), (82, 25, 664, 75, 923, 85), (85, 1, 5, 0, 0, 87), (87, 28, 0, 0, 0, 88), (88, 2, 0, 0, 0, 89), (89, 25, 665, 78, 924, 92), (92, 1, 5, 0, 0, 94), (94, 28, 0, 0, 0, 95), (95, 39, 157, 228, 1165, 98), (98, 7, 4, 0, 1, 101), (101, 21, 0, 46, 0, 104), (104, 0, 0, 0, 0, 105), (105, 4, 4, 0, 0, 107), (107, 0, 0, 0, 7, 109), (109, 4, 5, 0, 0, 111), (111, 1, 5, 0, 0, 113), (113, 19, 2, 139, 0, 116), (116, 1, 4, 0, 0, 118), (118, 2, 0, 0, 0, 119), (119, 25, 640, 7, 899, 122), (122, 8, 6, 0, 0, 123), (123, 2, 0, 0, 0, 124), (124, 25, 643, 17, 902, 127), (127, 1, 5, 0, 0, 129), (129, 28, 0, 0, 0, 130), (130, 8, 4, 0, 0, 131), (131, 4, 4, 0, 0, 133), (133, 7, 5, 0, (-1), 136), (136, 21, 0, 111, 0, 139), (139, 1, 4, 0, 0, 141), (141, 46, 0, 0, 0, 142)])
def jm_194 : jM := (⟨"RuleMillModel", "same", "(II)I"⟩, prog_12_method_76_code, 4, (some (.int)), 3, 10, [1314, 91, 1312, 1313], [(0, 2, 0, 0, 0, 1), (1, 1, 1, 0, 0, 2), (2, 39, 170, 270, 1216, 5), (5, 19, 0, 16, 0, 8), (8, 2, 0, 0, 0, 9), (9, 1, 2, 0, 0, 10), (10, 39, 170, 270, 1216, 13), (13, 19, 1, 18, 0, 16), (16, 0, 0, 0, (-1), 17), (17, 46, 0, 0, 0, 18), (18, 2, 0, 0, 0, 19), (19, 25, 640, 7, 899, 22), (22, 0, 0, 0, 3, 23), (23, 20, 1, 29, 0, 26), (26, 0, 0, 0, (-2), 28), (28, 46, 0, 0, 0, 29), (29, 0, 0, 0, 0, 30), (30, 4, 3, 0, 0, 31), (31, 1, 3, 0, 0, 32), (32, 0, 0, 0, 1, 33), (33, 0, 0, 0, 8, 35), (35, 2, 0, 0, 0, 36), (36, 25, 640, 7, 899, 39), (39, 8, 2, 0, 0, 40), (40, 8, 6, 0, 0, 41), (41, 20, 3, 72, 0, 44), (44, 2, 0, 0, 0, 45), (45, 1, 1, 0, 0, 46), (46, 1, 3, 0, 0, 47), (47, 39, 193, 315, 1307, 50), (50, 2, 0, 0, 0, 51), (51, 1, 2, 0, 0, 52), (52, 1, 3, 0, 0, 53), (53, 39, 193, 315, 1307, 56), (56, 20, 0, 66, 0, 59), (59, 2, 0, 0, 0, 60), (60, 1, 3, 0, 0, 61), (61, 26, 682, 118, 941, 64), (64, 0, 0, 0, 0, 65), (65, 46, 0, 0, 0, 66), (66, 7, 3, 0, 1, 69), (69, 21, 0, 31, 0, 72), (72, 0, 0, 0, 1, 73), (73, 46, 0, 0, 0, 74)])
def jm_195 : jM := (⟨"RuleMillModel", "differs", "()I"⟩, prog_12_method_77_code, 1, (some (.int)), 1, 10, [1318, 91, 1316, 1317], [(0, 2, 0, 0, 0, 1), (1, 25, 682, 118, 941, 4), (4, 46, 0, 0, 0, 5)])
def jm_196 : jM := (⟨"RuleMillModel", "count", "(I)I"⟩, prog_12_method_78_code, 4, (some (.int)), 2, 10, [1322, 91, 1320, 1321], [(0, 1, 1, 0, 0, 1), (1, 50, 8, 0, 0, 40), (40, 2, 0, 0, 0, 41), (41, 25, 644, 131, 903, 44), (44, 46, 0, 0, 0, 45), (45, 0, 0, 0, 0, 46), (46, 4, 2, 0, 0, 47), (47, 0, 0, 0, 0, 48), (48, 4, 3, 0, 0, 49), (49, 1, 3, 0, 0, 50), (50, 2, 0, 0, 0, 51), (51, 25, 644, 131, 903, 54), (54, 20, 3, 79, 0, 57), (57, 1, 2, 0, 0, 58), (58, 2, 0, 0, 0, 59), (59, 1, 3, 0, 0, 60), (60, 39, 164, 267, 1193, 63), (63, 19, 0, 70, 0, 66), (66, 0, 0, 0, 1, 67), (67, 21, 0, 71, 0, 70), (70, 0, 0, 0, 0, 71), (71, 8, 0, 0, 0, 72), (72, 4, 2, 0, 0, 73), (73, 7, 3, 0, 1, 76), (76, 21, 0, 49, 0, 79), (79, 1, 2, 0, 0, 80), (80, 46, 0, 0, 0, 81), (81, 2, 0, 0, 0, 82), (82, 25, 660, 134, 919, 85), (85, 46, 0, 0, 0, 86), (86, 2, 0, 0, 0, 87), (87, 25, 642, 137, 901, 90), (90, 46, 0, 0, 0, 91), (91, 2, 0, 0, 0, 92), (92, 25, 640, 7, 899, 95), (95, 46, 0, 0, 0, 96), (96, 2, 0, 0, 0, 97), (97, 25, 678, 309, 937, 100), (100, 46, 0, 0, 0, 101), (101, 0, 0, 0, (-1), 102), (102, 46, 0, 0, 0, 103)])
def jm_197 : jM := (⟨"RuleMillModel", "drop", "()I"⟩, prog_12_method_79_code, 1, (some (.int)), 1, 10, [1326, 91, 1324, 1325], [(0, 2, 0, 0, 0, 1), (1, 25, 660, 134, 919, 4), (4, 19, 1, 10, 0, 7), (7, 0, 0, 0, (-4), 9), (9, 46, 0, 0, 0, 10), (10, 2, 0, 0, 0, 11), (11, 16, 0, 0, 0, 12), (12, 25, 660, 134, 919, 15), (15, 0, 0, 0, 1, 16), (16, 8, 1, 0, 0, 17), (17, 26, 660, 134, 919, 20), (20, 2, 0, 0, 0, 21), (21, 25, 660, 134, 919, 24), (24, 46, 0, 0, 0, 25)])
def jm_198 : jM := (⟨"java/lang/String", "charAt", "(I)C"⟩, prog_14_method_56_code, 2, (some (.char)), 2, 99, [470, 93, 468, 469], [(0, 2, 0, 0, 0, 1), (1, 54, 199, 492, 471, 4), (4, 19, 0, 16, 0, 7), (7, 2, 0, 0, 0, 8), (8, 57, 0, 9, 1328, 11), (11, 1, 1, 0, 0, 12), (12, 38, 200, 495, 477, 15), (15, 61, 0, 0, 0, 16), (16, 2, 0, 0, 0, 17), (17, 57, 0, 9, 1328, 20), (20, 1, 1, 0, 0, 21), (21, 99, 0, 0, 0, 24), (24, 61, 0, 0, 0, 25)])
def jm_199 : jM := (⟨"java/lang/String", "isLatin1", "()Z"⟩, prog_14_method_154_code, 1, (some (.boolean)), 1, 99, [474, 93, 472, 473], [(0, 55, 0, 38, 475, 3), (3, 19, 0, 17, 0, 6), (6, 2, 0, 0, 0, 7), (7, 58, 0, 15, 1327, 10), (10, 19, 1, 17, 0, 13), (13, 0, 0, 0, 1, 14), (14, 21, 0, 18, 0, 17), (17, 0, 0, 0, 0, 18), (18, 47, 0, 0, 0, 19)])
def jm_200 : jM := (⟨"java/lang/StringLatin1", "charAt", "([BI)C"⟩, prog_15_method_2_code, 2, (some (.char)), 2, 99, [479, 94, 478], [(0, 1, 1, 0, 0, 1), (1, 2, 0, 0, 0, 2), (2, 63, 0, 0, 0, 3), (3, 38, 201, 9, 480, 6), (6, 2, 0, 0, 0, 7), (7, 1, 1, 0, 0, 8), (8, 62, 0, 0, 0, 9), (9, 0, 0, 0, 255, 12), (12, 8, 3, 0, 0, 13), (13, 60, 0, 0, 0, 14), (14, 61, 0, 0, 0, 15)])
def jm_201 : jM := (⟨"java/lang/String", "checkIndex", "(II)V"⟩, prog_14_method_155_code, 2, none, 2, 99, [482, 93, 481], [(0, 1, 0, 0, 0, 1), (1, 1, 1, 0, 0, 2), (2, 59, 0, 1053, 483, 5), (5, 38, 202, 1059, 485, 8), (8, 18, 0, 0, 0, 9), (9, 45, 0, 0, 0, 10)])
def jm_202 : jM := (⟨"jdk/internal/util/Preconditions", "checkIndex", "(IILjava/util/function/BiFunction;)I"⟩, prog_18_method_11_code, 3, (some (.int)), 3, 99, [487, 95, 486], [(0, 1, 0, 0, 0, 1), (1, 19, 2, 9, 0, 4), (4, 1, 0, 0, 0, 5), (5, 1, 1, 0, 0, 6), (6, 20, 2, 16, 0, 9), (9, 2, 2, 0, 0, 10), (10, 1, 0, 0, 0, 11), (11, 1, 1, 0, 0, 12), (12, 99, 0, 0, 0, 15), (15, 99, 0, 0, 0, 16), (16, 1, 0, 0, 0, 17), (17, 46, 0, 0, 0, 18)])
def jm_203 : jM := (⟨"java/lang/String", "length", "()I"⟩, prog_14_method_54_code, 1, (some (.int)), 1, 99, [763, 93, 761, 762], [(0, 2, 0, 0, 0, 1), (1, 57, 0, 9, 1328, 4), (4, 63, 0, 0, 0, 5), (5, 2, 0, 0, 0, 6), (6, 54, 204, 335, 764, 9), (9, 8, 7, 0, 0, 10), (10, 46, 0, 0, 0, 11)])
def jm_204 : jM := (⟨"java/lang/String", "coder", "()B"⟩, prog_14_method_152_code, 1, (some (.byte)), 1, 99, [767, 93, 765, 766], [(0, 55, 0, 38, 475, 3), (3, 19, 0, 13, 0, 6), (6, 2, 0, 0, 0, 7), (7, 58, 0, 15, 1327, 10), (10, 21, 0, 14, 0, 13), (13, 0, 0, 0, 1, 14), (14, 61, 1, 0, 0, 15)])
def jtab : List jM := [jm_0, jm_1, jm_2, jm_3, jm_4, jm_5, jm_6, jm_7, jm_8, jm_9, jm_10, jm_11, jm_12, jm_13, jm_14, jm_15, jm_16, jm_17, jm_18, jm_19, jm_20, jm_21, jm_22, jm_23, jm_24, jm_25, jm_26, jm_27, jm_28, jm_29, jm_30, jm_31, jm_32, jm_33, jm_34, jm_35, jm_36, jm_37, jm_38, jm_39, jm_40, jm_41, jm_42, jm_43, jm_44, jm_45, jm_46, jm_47, jm_48, jm_49, jm_50, jm_51, jm_52, jm_53, jm_54, jm_55, jm_56, jm_57, jm_58, jm_59, jm_60, jm_61, jm_62, jm_63, jm_64, jm_65, jm_66, jm_67, jm_68, jm_69, jm_70, jm_71, jm_72, jm_73, jm_74, jm_75, jm_76, jm_77, jm_78, jm_79, jm_80, jm_81, jm_82, jm_83, jm_84, jm_85, jm_86, jm_87, jm_88, jm_89, jm_90, jm_91, jm_92, jm_93, jm_94, jm_95, jm_96, jm_97, jm_98, jm_99, jm_100, jm_101, jm_102, jm_103, jm_104, jm_105, jm_106, jm_107, jm_108, jm_109, jm_110, jm_111, jm_112, jm_113, jm_114, jm_115, jm_116, jm_117, jm_118, jm_119, jm_120, jm_121, jm_122, jm_123, jm_124, jm_125, jm_126, jm_127, jm_128, jm_129, jm_130, jm_131, jm_132, jm_133, jm_134, jm_135, jm_136, jm_137, jm_138, jm_139, jm_140, jm_141, jm_142, jm_143, jm_144, jm_145, jm_146, jm_147, jm_148, jm_149, jm_150, jm_151, jm_152, jm_153, jm_154, jm_155, jm_156, jm_157, jm_158, jm_159, jm_160, jm_161, jm_162, jm_163, jm_164, jm_165, jm_166, jm_167, jm_168, jm_169, jm_170, jm_171, jm_172, jm_173, jm_174, jm_175, jm_176, jm_177, jm_178, jm_179, jm_180, jm_181, jm_182, jm_183, jm_184, jm_185, jm_186, jm_187, jm_188, jm_189, jm_190, jm_191, jm_192, jm_193, jm_194, jm_195, jm_196, jm_197, jm_198, jm_199, jm_200, jm_201, jm_202, jm_203, jm_204]
def jno : jE := (99, 0, 0, 0, 0)
def jm_no : jM := (⟨"", "", ""⟩, ⟨#[]⟩, 0, none, 0, 99, [], [])
def jts : List (Int × Int × Nat × List Nat) := [(0, 24, 939, [148, 171, 234, 257, 270, 283, 296, 345, 378, 411, 454, 487, 520, 553, 596, 639, 702, 745, 768, 801, 824, 857, 890, 903, 926]), (14, 18, 189, [117, 98, 79, 76, 154]), (0, 13, 123, [72, 74, 76, 80, 84, 88, 92, 96, 100, 104, 108, 112, 115, 119]), (0, 9, 130, [68, 76, 81, 86, 91, 99, 107, 112, 117, 122]), (0, 5, 76, [40, 45, 50, 55, 63, 68]), (0, 18, 313, [124, 130, 137, 147, 157, 167, 177, 187, 197, 206, 215, 224, 232, 241, 250, 272, 285, 313, 298]), (0, 9, 154, [64, 78, 84, 91, 98, 107, 118, 125, 132, 139]), (0, 17, 97, [88, 88, 97, 97, 97, 97, 97, 90, 95, 95, 95, 88, 88, 88, 93, 93, 93, 95]), (0, 5, 101, [40, 45, 81, 86, 91, 96])]
def jls : List (Nat × List (Int × Nat)) := [(72, [(38, 60), (43, 52), (45, 56), (94, 68), (124, 64)])]
end
section
/-! the J machine: what the bytecode does, over cells that have numbers; a number below 16 is a cell that was there before -/
abbrev jS : Type := (Nat → Nat) × (Nat → Nat) × (Nat → Nat → Int32) × (Nat → Nat → Option Nat) × (Nat → Nat → Int32) × (Nat → Nat → Option Nat) × Nat × Nat
def jT (σ : jS) : Nat → Nat := σ.1
def jN (σ : jS) : Nat → Nat := σ.2.1
def jI (σ : jS) : Nat → Nat → Int32 := σ.2.2.1
def jR (σ : jS) : Nat → Nat → Option Nat := σ.2.2.2.1
def jA (σ : jS) : Nat → Nat → Int32 := σ.2.2.2.2.1
def jG (σ : jS) : Nat → Nat → Option Nat := σ.2.2.2.2.2.1
def jnx (σ : jS) : Nat := σ.2.2.2.2.2.2.1
def jsl (σ : jS) : Nat := σ.2.2.2.2.2.2.2
def ju1 {α : Type} (f : Nat → α) (a : Nat) (v : α) : Nat → α := fun b => if b = a then v else f b
def ju2 {α : Type} (f : Nat → Nat → α) (k a : Nat) (v : α) : Nat → Nat → α := fun k' a' => if k' = k ∧ a' = a then v else f k' a'
def jz2 {α : Type} (f : Nat → Nat → α) (a : Nat) (v : α) : Nat → Nat → α := fun k' a' => if a' = a then v else f k' a'
def jz1 {α : Type} (f : Nat → Nat → α) (a : Nat) (v : α) : Nat → Nat → α := fun a' i => if a' = a then v else f a' i
def jsI (σ : jS) (g a : Nat) (v : Int32) : jS := (jT σ, jN σ, ju2 (jI σ) g a v, jR σ, jA σ, jG σ, jnx σ, jsl σ)
def jsR (σ : jS) (g a : Nat) (v : Option Nat) : jS := (jT σ, jN σ, jI σ, ju2 (jR σ) g a v, jA σ, jG σ, jnx σ, jsl σ)
def jsA (σ : jS) (a i : Nat) (v : Int32) : jS := (jT σ, jN σ, jI σ, jR σ, ju2 (jA σ) a i v, jG σ, jnx σ, jsl σ)
def jsG (σ : jS) (a i : Nat) (v : Option Nat) : jS := (jT σ, jN σ, jI σ, jR σ, jA σ, ju2 (jG σ) a i v, jnx σ, jsl σ)
def jnO (σ : jS) (ci n : Nat) : jS := (ju1 (jT σ) (jnx σ) (1 + ci), jN σ, jz2 (jI σ) (jnx σ) 0, jz2 (jR σ) (jnx σ) none, jA σ, jG σ, jnx σ + 1, jsl σ + n)
def jnA (σ : jS) (t n : Nat) : jS := (ju1 (jT σ) (jnx σ) (20 + t), ju1 (jN σ) (jnx σ) n, jI σ, jR σ, jz1 (jA σ) (jnx σ) 0, jG σ, jnx σ + 1, jsl σ + n)
def jnG (σ : jS) (ci n : Nat) : jS := (ju1 (jT σ) (jnx σ) (30 + ci), ju1 (jN σ) (jnx σ) n, jI σ, jR σ, jA σ, jz1 (jG σ) (jnx σ) none, jnx σ + 1, jsl σ + n)
def jget (M : Nat) : jM := jtab.getD M jm_no
def jlook : List (Nat × jE) → Nat → jE
  | [], _ => jno
  | (q, e) :: t, pc => if pc = q then e else jlook t pc
def jcode (M pc : Nat) : jE := jlook (jget M).2.2.2.2.2.2.2 pc
def jna (M : Nat) : Nat := (jget M).2.2.2.2.1
def jml (M : Nat) : Nat := (jget M).2.2.1
def jci (M : Nat) : Nat := (jget M).2.2.2.2.2.1
def jty (g : Nat) : FieldType := jtys.getD (g / 64) (fun _ => .int) (g % 64)
def jkind : FieldType → Nat
  | .boolean => 2
  | .object _ => 1
  | .array _ => 1
  | _ => 0
def jkd (g : Nat) : Nat := jkind (jty g)
def jfv (σ : jS) (g a : Nat) : Value := if jkd g = 1 then va_rf (jR σ g a) else .int (jI σ g a)
def jcs : List Value → Nat
  | [] => 0
  | v :: t => v.category + jcs t
abbrev jL : Type := List (Option Value)
def jclr (L : jL) (i : Nat) : jL := match i with
  | 0 => L
  | j + 1 => match L[j]? with
    | some (some w) => if w.category = 2 then L.set j none else L
    | _ => L
def jst1 (L : jL) (i : Nat) (v : Value) : jL := (jclr L i).set i (some v)
def jst2 (L : jL) (i : Nat) (v : Value) : jL := ((jclr L i).set i (some v)).set (i + 1) none
def jlay : List Value → jL
  | [] => []
  | v :: t => if v.category = 2 then some v :: none :: jlay t else some v :: jlay t
def jent (M : Nat) (as : List Value) : jL := jlay as ++ List.replicate (jml M - (jlay as).length) none
abbrev jO : Type := (Nat × jL × List Value × jS) ⊕ (Option Value ⊕ (Nat × List Value × Nat × List Value))
def jgo (n : Nat) (L : jL) (st : List Value) (σ : jS) : Option jO := some (.inl (n, L, st, σ))
def jbin (a : Nat) (x y : Int32) : Int32 :=
  if a = 0 then x + y else if a = 1 then x - y else if a = 2 then x * y else if a = 3 then x &&& y else if a = 4 then x ||| y else if a = 5 then x ^^^ y
  else if a = 6 then x <<< (y &&& 31) else if a = 7 then x >>> (y &&& 31) else if a = 8 then x / y else x - x / y * y
def jcnd (a : Nat) (x y : Int32) : Prop :=
  (a = 0 ∧ x = y) ∨ (a = 1 ∧ ¬ x = y) ∨ (a = 2 ∧ x < y) ∨ (a = 3 ∧ y ≤ x) ∨ (a = 4 ∧ y < x) ∨ (a = 5 ∧ x ≤ y)
def jcnb (a : Nat) (x y : Int32) : Bool :=
  if a = 0 then decide (x = y) else if a = 1 then !decide (x = y) else if a = 2 then decide (x < y) else if a = 3 then decide (y ≤ x) else if a = 4 then decide (y < x) else decide (x ≤ y)
def jlk : List (Int × Nat) → Nat → Int → Nat
  | [], df, _ => df
  | (k, t) :: r, df, x => if k = x then t else jlk r df x
def jcall (M : Nat) (n : Nat) (recv : Bool) (st : List Value) (σ : jS) : Option jO :=
  if st.length < jna M ∨ 8 < jcs (st.drop (jna M)) ∨ jml M < (jlay ((st.take (jna M)).reverse)).length then none
  else if recv then
    match (st.take (jna M)).reverse with
    | .ref b :: as => if jT σ b = 1 + jci M then some (.inr (.inr (M, .ref b :: as, n, st.drop (jna M)))) else none
    | _ => none
  else some (.inr (.inr (M, (st.take (jna M)).reverse, n, st.drop (jna M))))
def jcmd1 (d op a b : Nat) (k : Int) (n : Nat) (L : jL) (st : List Value) (σ : jS) : Option jO :=
  if op = 0 then jgo n L (.int (Int32.ofInt k) :: st) σ
  else if op = 1 then (match L[a]? with | some (some (.int x)) => jgo n L (.int x :: st) σ | _ => none)
  else if op = 2 then (match L[a]? with | some (some (.ref x)) => jgo n L (.ref x :: st) σ | some (some .null) => jgo n L (.null :: st) σ | _ => none)
  else if op = 3 then (match L[a]? with | some (some (.long x)) => jgo n L (.long x :: st) σ | _ => none)
  else if op = 4 then (match st with | .int x :: r => if a < L.length then jgo n (jst1 L a (.int x)) r σ else none | _ => none)
  else if op = 5 then (match st with | .ref x :: r => if a < L.length then jgo n (jst1 L a (.ref x)) r σ else none | .null :: r => if a < L.length then jgo n (jst1 L a .null) r σ else none | _ => none)
  else if op = 6 then (match st with | .long x :: r => if a + 1 < L.length then jgo n (jst2 L a (.long x)) r σ else none | _ => none)
  else if op = 7 then (match L[a]? with | some (some (.int x)) => jgo n (jst1 L a (.int (x + Int32.ofInt k))) st σ | _ => none)
  else if op = 8 then (match st with | .int y :: .int x :: r => if 8 ≤ a ∧ y = 0 then none else jgo n L (.int (jbin a x y) :: r) σ | _ => none)
  else if op = 9 then (match st with | .int x :: r => jgo n L (.int (-x) :: r) σ | _ => none)
  else if op = 10 then (match st with | .int x :: r => jgo n L (.long x.toInt64 :: r) σ | _ => none)
  else if op = 11 then (match st with | .long x :: r => jgo n L (.int x.toInt32 :: r) σ | _ => none)
  else if op = 12 then jgo n L (.long (Int64.ofInt k) :: st) σ
  else if op = 13 then (match st with | .long y :: .long x :: r => jgo n L (.long (x * y) :: r) σ | _ => none)
  else if op = 14 then (match st with | .long y :: .long x :: r => jgo n L (.int (lg_cmp x y) :: r) σ | _ => none)
  else if op = 15 then (match st with | .int x :: r => jgo n L (.int x.toInt8.toInt32 :: r) σ | _ => none)
  else if op = 16 then (match st with | v :: r => if v.category = 1 then jgo n L (v :: v :: r) σ else none | _ => none)
  else if op = 17 then (match st with | v :: w :: r => if v.category = 1 ∧ w.category = 1 then jgo n L (v :: w :: v :: w :: r) σ else none | _ => none)
  else if op = 18 then (match st with | v :: r => if v.category = 1 then jgo n L r σ else none | _ => none)
  else if op = 19 then (match st with | .int x :: r => if jcnb a x 0 then jgo b L r σ else jgo n L r σ | _ => none)
  else if op = 20 then (match st with | .int y :: .int x :: r => if jcnb a x y then jgo b L r σ else jgo n L r σ | _ => none)
  else if op = 21 then jgo b L st σ
  else if op = 22 then (match st with | .null :: r => jgo b L r σ | .ref _ :: r => jgo n L r σ | _ => none)
  else if op = 23 then (match st with | .null :: r => jgo n L r σ | .ref _ :: r => jgo b L r σ | _ => none)
  else if op = 24 then jgo n L (.null :: st) σ
  else none
def jput (n g : Nat) (L : jL) (st : List Value) (σ : jS) : Option jO :=
  match st with
  | .int x :: .ref q :: r => if jT σ q = 1 + g / 64 ∧ (jkd g = 0 ∨ (jkd g = 2 ∧ (x = 0 ∨ x = 1))) then jgo n L r (jsI σ g q x) else none
  | .ref x :: .ref q :: r => if jT σ q = 1 + g / 64 ∧ jkd g = 1 then jgo n L r (jsR σ g q (some x)) else none
  | .null :: .ref q :: r => if jT σ q = 1 + g / 64 ∧ jkd g = 1 then jgo n L r (jsR σ g q none) else none
  | _ => none
def jcmd2 (d op a b : Nat) (k : Int) (n : Nat) (L : jL) (st : List Value) (σ : jS) : Option jO :=
  if op = 25 then (match st with | .ref q :: r => if jT σ q = 1 + a / 64 then jgo n L (jfv σ a q :: r) σ else none | _ => none)
  else if op = 26 then jput n a L st σ
  else if op = 27 then jput n a L st σ
  else if op = 28 then (match st with | .int i :: .ref q :: r => if jT σ q = 20 ∨ jT σ q = 60 then (if i < 0 ∨ jN σ q ≤ i.toNatClampNeg then none else jgo n L (.int (jA σ q i.toNatClampNeg) :: r) σ) else none | _ => none)
  else if op = 29 then (match st with | .int x :: .int i :: .ref q :: r => if jT σ q = 20 then (if i < 0 ∨ jN σ q ≤ i.toNatClampNeg then none else jgo n L r (jsA σ q i.toNatClampNeg x)) else none | _ => none)
  else if op = 30 then (match st with | .int i :: .ref q :: r => if jT σ q = 21 ∨ jT σ q = 22 then (if i < 0 ∨ jN σ q ≤ i.toNatClampNeg then none else jgo n L (.int (jA σ q i.toNatClampNeg) :: r) σ) else none | _ => none)
  else if op = 31 then (match st with | .int x :: .int i :: .ref q :: r => if i < 0 ∨ jN σ q ≤ i.toNatClampNeg then none else if jT σ q = 21 then jgo n L r (jsA σ q i.toNatClampNeg x.toInt8.toInt32) else if jT σ q = 22 then jgo n L r (jsA σ q i.toNatClampNeg (x &&& 1)) else none | _ => none)
  else if op = 32 then (match st with | .int i :: .ref q :: r => if 30 ≤ jT σ q ∧ jT σ q < 50 then (if i < 0 ∨ jN σ q ≤ i.toNatClampNeg then none else jgo n L (va_rf (jG σ q i.toNatClampNeg) :: r) σ) else none | _ => none)
  else if op = 33 then (match st with | .ref x :: .int i :: .ref q :: r => if 30 ≤ jT σ q ∧ jT σ q < 50 ∧ jT σ x + 29 = jT σ q then (if i < 0 ∨ jN σ q ≤ i.toNatClampNeg then none else jgo n L r (jsG σ q i.toNatClampNeg (some x))) else none | _ => none)
  else if op = 34 then (match st with | .ref q :: r => if 20 ≤ jT σ q ∧ jT σ q ≤ 60 then jgo n L (.int (Int32.ofNat (jN σ q)) :: r) σ else none | _ => none)
  else if op = 35 then (match jcl[a]? with | some c => jgo n L (.ref (jnx σ) :: st) (jnO σ a c.2.2) | none => none)
  else if op = 36 then (match st with | .int x :: r => if x < 0 ∨ 1000000 < x.toNatClampNeg then none else jgo n L (.ref (jnx σ) :: r) (jnA σ a x.toNatClampNeg) | _ => none)
  else if op = 37 then (match st with | .int x :: r => if x < 0 ∨ 1000000 < x.toNatClampNeg then none else jgo n L (.ref (jnx σ) :: r) (jnG σ a x.toNatClampNeg) | _ => none)
  else none
def jcmd3 (d op a b : Nat) (k : Int) (n : Nat) (L : jL) (st : List Value) (σ : jS) : Option jO :=
  if op = 38 then jcall a n false st σ
  else if op = 39 then jcall a n true st σ
  else if op = 40 then jcall a n true st σ
  else if op = 41 then jcall a n false st σ
  else if op = 42 then jcall a n true st σ
  else if op = 43 then jcall a n true st σ
  else if op = 44 then (match st with | .ref _ :: r => if 1 ≤ d ∧ jcs r ≤ 8 then jgo n L r σ else none | _ => none)
  else if op = 45 then (match st with | [] => some (.inr (.inl none)) | _ => none)
  else if op = 46 then (match st with | [.int x] => some (.inr (.inl (some (.int x)))) | _ => none)
  else if op = 47 then (match st with | [.int x] => if x &&& 1 = x then some (.inr (.inl (some (.int x)))) else none | _ => none)
  else if op = 48 then (match st with | [.ref x] => some (.inr (.inl (some (.ref x)))) | [.null] => some (.inr (.inl (some .null))) | _ => none)
  else if op = 49 then (match st with | [.long x] => some (.inr (.inl (some (.long x)))) | _ => none)
  else if op = 50 then (match st, jts[a]? with
    | .int x :: r, some (lo, hi, df, ts) => if x.toInt < lo ∨ hi < x.toInt then jgo df L r σ else (match ts[(x.toInt - lo).toNat]? with | some t => jgo t L r σ | none => none)
    | _, _ => none)
  else if op = 51 then (match st, jls[a]? with
    | .int x :: r, some (df, ps) => jgo (jlk ps df x.toInt) L r σ
    | _, _ => none)
  else none
/-- the names' bytes -/
def jnml : List Int32 := [115, 101, 116, 109, 111, 118, 97, 100, 100, 115, 117, 98, 97, 110, 100, 111, 114, 32, 120, 111, 114, 109, 117, 108, 105, 110, 99, 100, 101, 99, 110, 111, 116, 110, 101, 103, 115, 104, 108, 115, 104, 114, 115, 101, 108, 103, 101, 116, 112, 117, 116, 110, 111, 112, 115, 119, 112]
def jnmb (i : Nat) : Int32 := jnml.getD i 0
def jNAMES : String := "setmovaddsubandor xormulincdecnotnegshlshrselgetputnopswp"
/-- a stretch of one row of ints comes into another -/
def jcp (σ : jS) (p sp q dp x : Nat) : jS := (jT σ, jN σ, jI σ, jR σ, (fun a i => if a = q then va_cpy (jA σ p) (jA σ q) sp dp x i else jA σ a i), jG σ, jnx σ, jsl σ)
/-- 52 a static row, 53 the names, 54 a call on them, 55 COMPACT_STRINGS, 56 arraycopy, 57 value, 58 coder, 59 the formatter, 60 i2c, 61 a char or byte is answered, 62 a byte of the names, 63 how many -/
def jcmd4 (d op a b : Nat) (k : Int) (n : Nat) (L : jL) (st : List Value) (σ : jS) : Option jO :=
  if op = 52 then (if jT σ 3 = 61 ∧ (a = 1 ∨ a = 2) then jgo n L (.ref a :: st) σ else none)
  else if op = 53 then (if jT σ 3 = 61 then jgo n L (.ref 3 :: st) σ else none)
  else if op = 54 then (match (st.take (jna a)).reverse with | .ref q :: _ => if q = 3 ∧ jT σ 3 = 61 then jcall a n false st σ else none | _ => none)
  else if op = 55 then (if jT σ 3 = 61 then jgo n L (.int 1 :: st) σ else none)
  else if op = 56 then (match st with | .int x :: .int y :: .ref q :: .int i :: .ref p :: r => if (jT σ p = 20 ∧ jT σ q = 20) ∧ (1 ≤ d ∧ jcs r ≤ 8) ∧ (¬ i < 0 ∧ ¬ y < 0 ∧ ¬ x < 0) ∧ i.toNatClampNeg + x.toNatClampNeg ≤ jN σ p ∧ y.toNatClampNeg + x.toNatClampNeg ≤ jN σ q then jgo n L r (jcp σ p i.toNatClampNeg q y.toNatClampNeg x.toNatClampNeg) else none | _ => none)
  else if op = 57 then (match st with | .ref q :: r => if q = 3 ∧ jT σ 3 = 61 then jgo n L (.ref 4 :: r) σ else none | _ => none)
  else if op = 58 then (match st with | .ref q :: r => if q = 3 ∧ jT σ 3 = 61 then jgo n L (.int 0 :: r) σ else none | _ => none)
  else if op = 59 then (if jT σ 3 = 61 then jgo n L (va_rf (jR σ 0 3) :: st) σ else none)
  else if op = 60 then (match st with | .int x :: r => jgo n L (.int (x.toUInt32 % 65536).toInt32 :: r) σ | _ => none)
  else if op = 61 then (match st with | [.int x] => if (a = 0 ∧ x.toUInt32.toUInt16.toUInt32.toInt32 = x) ∨ (a = 1 ∧ x.toInt8.toInt32 = x) then some (.inr (.inl (some (.int x)))) else none | _ => none)
  else if op = 62 then (match st with | .int i :: .ref q :: r => if (q = 4 ∧ jT σ 3 = 61) ∧ ¬ (i < 0 ∨ 57 ≤ i.toNatClampNeg) then jgo n L (.int (jnmb i.toNatClampNeg) :: r) σ else none | _ => none)
  else if op = 63 then (match st with | .ref q :: r => if q = 4 ∧ jT σ 3 = 61 then jgo n L (.int 57 :: r) σ else none | _ => none)
  else none
def jcmd (d : Nat) (e : jE) (L : jL) (st : List Value) (σ : jS) : Option jO :=
  if e.1 < 25 then jcmd1 d e.1 e.2.1 e.2.2.1 e.2.2.2.1 e.2.2.2.2 L st σ
  else if e.1 < 38 then jcmd2 d e.1 e.2.1 e.2.2.1 e.2.2.2.1 e.2.2.2.2 L st σ
  else if e.1 < 52 then jcmd3 d e.1 e.2.1 e.2.2.1 e.2.2.2.1 e.2.2.2.2 L st σ
  else jcmd4 d e.1 e.2.1 e.2.2.1 e.2.2.2.1 e.2.2.2.2 L st σ
abbrev jr : Type := Option (Option Value × jS)
def jrun : Nat → Nat → Nat → Nat → jL → List Value → jS → jr
  | 0, _, _, _, _, _, _ => none
  | f + 1, d, M, pc, L, st, σ => match jcmd d (jcode M pc) L st σ with
    | none => none
    | some (.inl (pc', L', st', σ')) => jrun f d M pc' L' st' σ'
    | some (.inr (.inl v)) => some (v, σ)
    | some (.inr (.inr (M', as, n, rest))) => match d with
      | 0 => none
      | d' + 1 => match jrun f d' M' 0 (jent M' as) [] σ with
        | none => none
        | some (v, σ') => jrun f (d' + 1) M n L (v.toList ++ rest) σ'
end
section
/-! what must hold of each instruction of the lists, by the bytes and the tables' words -/
def jown (M : Nat) : String := (jget M).1.cls
def jbs (M : Nat) : ByteArray := (jget M).2.1
def jret (M : Nat) : Option FieldType := (jget M).2.2.2.1
def jhint (M i : Nat) : Nat := (jget M).2.2.2.2.2.2.1.getD i 0
def jdc (M pc : Nat) (i : Instr) (len n : Nat) : Bool := decide (decode (jbs M) pc = .ok (i, len)) && decide (n = pc + len)
def jwd (i : Nat) (w : Jvm.Cond) : Bool := decide (lw_tbl[i]? = some w)
def jat (a : Nat) : ArrayType := if a = 0 then .int else if a = 1 then .byte else .boolean
def jfl (M a b : Nat) (k : Int) : Bool := match jcl[a / 64]? with
  | some c => decide (a % 64 < c.2.2) && jwd k.toNat (.fieldLink (jown M) b (c.2.1 (a % 64)).1 (c.2.1 (a % 64)).2.1 (c.2.1 (a % 64)).2.2.1)
  | none => false
def jfin (a : Nat) : Bool := match jcl[a / 64]? with
  | some c => (c.2.1 (a % 64)).2.2.2
  | none => false
def jfo (a : Nat) : String := match jcl[a / 64]? with
  | some c => (c.2.1 (a % 64)).1
  | none => ""
/-- a method that is called: its words -/
def jmk (M : Nat) : Bool :=
  jwd (jhint M 0) (.code (jget M).1 (jbs M) (jml M) (jret M)) && jwd (jhint M 1) (.initialized (jown M)) && decide (jown M ≠ "java/lang/invoke/MethodHandle" ∧ jown M ≠ "java/lang/invoke/VarHandle") && decide (jml M ≤ 17)
def jmS (M : Nat) : Bool := jmk M && jwd (jhint M 2) (.static (jget M).1) && decide ((parseMethodDescriptor (jget M).1.desc).map (fun d => d.parameters.length) = some (jna M))
def jmV (M : Nat) : Bool := jmk M && jwd (jhint M 2) (.instanceMethod (jget M).1) && jwd (jhint M 3) (.selects (jown M) (jget M).1 (jget M).1) && decide ((parseMethodDescriptor (jget M).1.desc).map (fun d => d.parameters.length + 1) = some (jna M)) && decide ((jcl[jci M]?).map (fun c => c.1) = some (jown M))
def jmI (M : Nat) : Bool := jmk M && jwd (jhint M 2) (.instanceMethod (jget M).1) && decide ((jget M).1.name = "<init>") && decide (jret M = none) && decide ((parseMethodDescriptor (jget M).1.desc).map (fun d => d.parameters.length + 1) = some (jna M)) && decide ((jcl[jci M]?).map (fun c => c.1) = some (jown M))
def jcon (M pc : Nat) (i : Instr → Bool) : Bool := match decode (jbs M) pc with
  | .ok (x, _) => i x
  | _ => false
def jchk1 (M pc op a b : Nat) (k : Int) (n : Nat) : Bool :=
  if op = 0 then jdc M pc (.iconst k) 1 n || (jdc M pc (.bipush k) 2 n && decide ((Int8.ofInt k).toInt32 = Int32.ofInt k)) || (jdc M pc (.sipush k) 3 n && decide ((Int16.ofInt k).toInt32 = Int32.ofInt k))
  else if op = 1 then (decide (a < 4) && jdc M pc (.iload_n (Fin.ofNat 4 a)) 1 n) || jdc M pc (.iload a) 2 n
  else if op = 2 then (decide (a < 4) && jdc M pc (.aload_n (Fin.ofNat 4 a)) 1 n) || jdc M pc (.aload a) 2 n
  else if op = 3 then (decide (a < 4) && jdc M pc (.lload_n (Fin.ofNat 4 a)) 1 n) || jdc M pc (.lload a) 2 n
  else if op = 4 then (decide (a < 4) && jdc M pc (.istore_n (Fin.ofNat 4 a)) 1 n) || jdc M pc (.istore a) 2 n
  else if op = 5 then (decide (a < 4) && jdc M pc (.astore_n (Fin.ofNat 4 a)) 1 n) || jdc M pc (.astore a) 2 n
  else if op = 6 then (decide (a < 4) && jdc M pc (.lstore_n (Fin.ofNat 4 a)) 1 n) || jdc M pc (.lstore a) 2 n
  else if op = 7 then jdc M pc (.iinc a k) 3 n
  else if op = 8 then
    (decide (a = 0) && jdc M pc .iadd 1 n) || (decide (a = 1) && jdc M pc .isub 1 n) || (decide (a = 2) && jdc M pc .imul 1 n) || (decide (a = 3) && jdc M pc .iand 1 n) || (decide (a = 4) && jdc M pc .ior 1 n)
    || (decide (a = 5) && jdc M pc .ixor 1 n) || (decide (a = 6) && jdc M pc .ishl 1 n) || (decide (a = 7) && jdc M pc .ishr 1 n) || (decide (a = 8) && jdc M pc .idiv 1 n) || (decide (a = 9) && jdc M pc .irem 1 n)
  else if op = 9 then jdc M pc .ineg 1 n
  else if op = 10 then jdc M pc .i2l 1 n
  else if op = 11 then jdc M pc .l2i 1 n
  else if op = 12 then (decide (k = 0) && jdc M pc (.lconst 0) 1 n) || (decide (k = 1) && jdc M pc (.lconst 1) 1 n) || (jdc M pc (.ldc2_w b) 3 n && jwd a (.constantLong (jown M) b (Int64.ofInt k)))
  else if op = 13 then jdc M pc .lmul 1 n
  else if op = 14 then jdc M pc .lcmp 1 n
  else if op = 15 then jdc M pc .i2b 1 n
  else if op = 16 then jdc M pc .dup 1 n
  else if op = 17 then jdc M pc .dup2 1 n
  else if op = 18 then jdc M pc .pop 1 n
  else if op = 19 then
    (decide (a = 0) && jdc M pc (.ifCond .eq ((b : Int) - pc)) 3 n) || (decide (a = 1) && jdc M pc (.ifCond .ne ((b : Int) - pc)) 3 n) || (decide (a = 2) && jdc M pc (.ifCond .lt ((b : Int) - pc)) 3 n)
    || (decide (a = 3) && jdc M pc (.ifCond .ge ((b : Int) - pc)) 3 n) || (decide (a = 4) && jdc M pc (.ifCond .gt ((b : Int) - pc)) 3 n) || (decide (a = 5) && jdc M pc (.ifCond .le ((b : Int) - pc)) 3 n)
  else if op = 20 then
    (decide (a = 0) && jdc M pc (.if_icmp .eq ((b : Int) - pc)) 3 n) || (decide (a = 1) && jdc M pc (.if_icmp .ne ((b : Int) - pc)) 3 n) || (decide (a = 2) && jdc M pc (.if_icmp .lt ((b : Int) - pc)) 3 n)
    || (decide (a = 3) && jdc M pc (.if_icmp .ge ((b : Int) - pc)) 3 n) || (decide (a = 4) && jdc M pc (.if_icmp .gt ((b : Int) - pc)) 3 n) || (decide (a = 5) && jdc M pc (.if_icmp .le ((b : Int) - pc)) 3 n)
  else if op = 21 then jdc M pc (.goto ((b : Int) - pc)) 3 n
  else if op = 22 then jdc M pc (.ifnull ((b : Int) - pc)) 3 n
  else if op = 23 then jdc M pc (.ifnonnull ((b : Int) - pc)) 3 n
  else if op = 24 then jdc M pc .aconst_null 1 n
  else false
def jchk2 (M pc op a b : Nat) (k : Int) (n : Nat) : Bool :=
  if op = 25 then jdc M pc (.getfield b) 3 n && jfl M a b k
  else if op = 26 then jdc M pc (.putfield b) 3 n && jfl M a b k && !(jfin a)
  else if op = 27 then jdc M pc (.putfield b) 3 n && jfl M a b k && jfin a && decide (jfo a = jown M) && decide ((jget M).1.name = "<init>")
  else if op = 28 then jdc M pc .iaload 1 n
  else if op = 29 then jdc M pc .iastore 1 n
  else if op = 30 then jdc M pc .baload 1 n
  else if op = 31 then jdc M pc .bastore 1 n
  else if op = 32 then jdc M pc .aaload 1 n
  else if op = 33 then jdc M pc .aastore 1 n
  else if op = 34 then jdc M pc .arraylength 1 n
  else if op = 35 then jdc M pc (.new b) 3 n && (match jcl[a]? with | some c => jwd k.toNat (.classLink (jown M) b c.1) | none => false)
  else if op = 36 then jdc M pc (.newarray (jat a)) 2 n && decide (a < 3)
  else if op = 37 then jdc M pc (.anewarray b) 3 n && decide (a = 4 ∨ a = 5) && (match jcl[a]? with | some c => jwd k.toNat (.classLink (jown M) b c.1) | none => false)
  else false
def jchk3 (M pc op a b : Nat) (k : Int) (n : Nat) : Bool :=
  if op = 38 then jdc M pc (.invokestatic b) 3 n && jwd k.toNat (.methodLink (jown M) b (jget a).1) && jmS a
  else if op = 39 then jdc M pc (.invokevirtual b) 3 n && jwd k.toNat (.methodLink (jown M) b (jget a).1) && jmV a
  else if op = 40 then jdc M pc (.invokespecial b) 3 n && jwd k.toNat (.methodLink (jown M) b (jget a).1) && jmI a
  else if op = 41 then jdc M pc (.invokestatic b) 3 n && jwd k.toNat (.methodLinkNest (jown M) b (jget a).1 "RuleMill") && jmS a
  else if op = 42 then jdc M pc (.invokevirtual b) 3 n && jwd k.toNat (.methodLinkNest (jown M) b (jget a).1 "RuleMill") && jmV a
  else if op = 43 then jdc M pc (.invokespecial b) 3 n && jwd k.toNat (.methodLinkNest (jown M) b (jget a).1 "RuleMill") && jmI a
  else if op = 44 then jdc M pc (.invokespecial b) 3 n && jwd k.toNat (.methodLink (jown M) b objectInit)
  else if op = 45 then jdc M pc .return_ 1 n && decide (jret M = none)
  else if op = 46 then jdc M pc .ireturn 1 n && decide (jret M = some .int)
  else if op = 47 then jdc M pc .ireturn 1 n && decide (jret M = some .boolean)
  else if op = 48 then jdc M pc .areturn 1 n && (match jret M with | some (.object _) => true | _ => false)
  else if op = 49 then jdc M pc .lreturn 1 n && decide (jret M = some .long)
  else if op = 50 then (match jts[a]? with
    | some (lo, hi, df, ts) => jdc M pc (.tableswitch ((df : Int) - pc) lo hi ((ts.map (fun (t : Nat) => (t : Int) - pc)).toArray)) (n - pc) n
    | none => false)
  else if op = 51 then (match jls[a]? with
    | some (df, ps) => jdc M pc (.lookupswitch ((df : Int) - pc) ((ps.map (fun (q : Int × Nat) => (q.1, (q.2 : Int) - pc))).toArray)) (n - pc) n && decide (((((ps.map (fun (q : Int × Nat) => (q.1, (q.2 : Int) - pc))).toArray).toList.zip ((((ps.map (fun (q : Int × Nat) => (q.1, (q.2 : Int) - pc))).toArray).toList.drop 1))).all (fun (a, next) => a.1 < next.1)) = true)
    | none => false)
  else decide (51 < op)
def jmT (M : Nat) : Bool := jmk M && jwd (jhint M 2) (.instanceMethod (jget M).1) && jwd (jhint M 3) (.selects (jown M) (jget M).1 (jget M).1) && decide ((parseMethodDescriptor (jget M).1.desc).map (fun d => d.parameters.length + 1) = some (jna M)) && decide (jown M = "java/lang/String")
def jchk4 (M pc op a b : Nat) (k : Int) (n : Nat) : Bool :=
  if op = 52 then jdc M pc (.getstatic b) 3 n && jwd k.toNat (.fieldLink (jown M) b "RuleMill" (if a = 1 then "REGISTERS_OF" else "PRICES") "[I")
  else if op = 53 then jdc M pc (.ldc b) 2 n && (decide (jown M = "RuleMill$Reader" ∧ b = 163) || decide (jown M = "RuleMill$Row" ∧ b = 93))
  else if op = 54 then jdc M pc (.invokevirtual b) 3 n && jwd k.toNat (.methodLink (jown M) b (jget a).1) && jmT a
  else if op = 55 then jdc M pc (.getstatic b) 3 n && jwd k.toNat (.fieldLink (jown M) b "java/lang/String" "COMPACT_STRINGS" "Z")
  else if op = 56 then jdc M pc (.invokestatic b) 3 n && jwd k.toNat (.methodLink (jown M) b arraycopyName)
  else if op = 57 then jdc M pc (.getfield b) 3 n && jwd k.toNat (.fieldLink (jown M) b "java/lang/String" "value" "[B")
  else if op = 58 then jdc M pc (.getfield b) 3 n && jwd k.toNat (.fieldLink (jown M) b "java/lang/String" "coder" "B")
  else if op = 59 then jdc M pc (.getstatic b) 3 n && jwd k.toNat (.fieldLink (jown M) b "jdk/internal/util/Preconditions" "SIOOBE_FORMATTER" "Ljava/util/function/BiFunction;")
  else if op = 60 then jdc M pc .i2c 1 n
  else if op = 61 then jdc M pc .ireturn 1 n && decide ((a = 0 ∧ jret M = some .char) ∨ (a = 1 ∧ jret M = some .byte))
  else if op = 62 then jdc M pc .baload 1 n
  else if op = 63 then jdc M pc .arraylength 1 n
  else decide (63 < op)
def jchk (M pc : Nat) (e : jE) : Bool :=
  if e.1 < 25 then jchk1 M pc e.1 e.2.1 e.2.2.1 e.2.2.2.1 e.2.2.2.2
  else if e.1 < 38 then jchk2 M pc e.1 e.2.1 e.2.2.1 e.2.2.2.1 e.2.2.2.2
  else if e.1 < 52 then jchk3 M pc e.1 e.2.1 e.2.2.1 e.2.2.2.1 e.2.2.2.2
  else jchk4 M pc e.1 e.2.1 e.2.2.1 e.2.2.2.1 e.2.2.2.2
def jcM (M : Nat) : Bool := (jget M).2.2.2.2.2.2.2.all (fun q => jchk M q.1 q.2)
def jcR (M i j : Nat) : Bool := (((jget M).2.2.2.2.2.2.2.drop i).take j).all (fun q => jchk M q.1 q.2)
end
section
theorem jk_0_0 : jcR 0 0 60 = true := sorry
theorem jk_0_1 : jcR 0 60 60 = true := sorry
theorem jk_0_2 : jcR 0 120 60 = true := sorry
theorem jk_0_3 : jcR 0 180 60 = true := sorry
theorem jk_0_4 : jcR 0 240 60 = true := sorry
theorem jk_0_5 : jcR 0 300 60 = true := sorry
theorem jk_0_6 : jcR 0 360 60 = true := sorry
theorem jk_0_7 : jcR 0 420 60 = true := sorry
theorem jk_0_8 : jcR 0 480 60 = true := sorry
theorem jk_0_9 : jcR 0 540 60 = true := sorry
theorem jk_0_10 : jcR 0 600 59 = true := sorry
theorem jk_1_0 : jcR 1 0 62 = true := sorry
theorem jk_2_0 : jcR 2 0 39 = true := sorry
theorem jk_3_0 : jcR 3 0 10 = true := sorry
theorem jk_4_0 : jcR 4 0 14 = true := sorry
theorem jk_5_0 : jcR 5 0 7 = true := sorry
theorem jk_6_0 : jcR 6 0 7 = true := sorry
theorem jk_7_0 : jcR 7 0 7 = true := sorry
theorem jk_8_0 : jcR 8 0 29 = true := sorry
theorem jk_9_0 : jcR 9 0 20 = true := sorry
theorem jk_10_0 : jcR 10 0 11 = true := sorry
theorem jk_11_0 : jcR 11 0 10 = true := sorry
theorem jk_12_0 : jcR 12 0 24 = true := sorry
theorem jk_13_0 : jcR 13 0 30 = true := sorry
theorem jk_14_0 : jcR 14 0 12 = true := sorry
theorem jk_15_0 : jcR 15 0 28 = true := sorry
theorem jk_16_0 : jcR 16 0 19 = true := sorry
theorem jk_17_0 : jcR 17 0 63 = true := sorry
theorem jk_18_0 : jcR 18 0 36 = true := sorry
theorem jk_19_0 : jcR 19 0 23 = true := sorry
theorem jk_20_0 : jcR 20 0 36 = true := sorry
theorem jk_21_0 : jcR 21 0 36 = true := sorry
theorem jk_22_0 : jcR 22 0 24 = true := sorry
theorem jk_23_0 : jcR 23 0 18 = true := sorry
theorem jk_24_0 : jcR 24 0 21 = true := sorry
theorem jk_25_0 : jcR 25 0 20 = true := sorry
theorem jk_26_0 : jcR 26 0 58 = true := sorry
theorem jk_27_0 : jcR 27 0 44 = true := sorry
theorem jk_28_0 : jcR 28 0 23 = true := sorry
theorem jk_29_0 : jcR 29 0 16 = true := sorry
theorem jk_30_0 : jcR 30 0 49 = true := sorry
theorem jk_31_0 : jcR 31 0 7 = true := sorry
theorem jk_32_0 : jcR 32 0 9 = true := sorry
theorem jk_33_0 : jcR 33 0 22 = true := sorry
theorem jk_34_0 : jcR 34 0 12 = true := sorry
theorem jk_35_0 : jcR 35 0 15 = true := sorry
theorem jk_36_0 : jcR 36 0 59 = true := sorry
theorem jk_37_0 : jcR 37 0 33 = true := sorry
theorem jk_38_0 : jcR 38 0 20 = true := sorry
theorem jk_39_0 : jcR 39 0 66 = true := sorry
theorem jk_40_0 : jcR 40 0 15 = true := sorry
theorem jk_41_0 : jcR 41 0 10 = true := sorry
theorem jk_42_0 : jcR 42 0 60 = true := sorry
theorem jk_42_1 : jcR 42 60 17 = true := sorry
theorem jk_43_0 : jcR 43 0 10 = true := sorry
theorem jk_44_0 : jcR 44 0 54 = true := sorry
theorem jk_45_0 : jcR 45 0 19 = true := sorry
theorem jk_46_0 : jcR 46 0 24 = true := sorry
theorem jk_47_0 : jcR 47 0 26 = true := sorry
theorem jk_48_0 : jcR 48 0 44 = true := sorry
theorem jk_49_0 : jcR 49 0 60 = true := sorry
theorem jk_49_1 : jcR 49 60 20 = true := sorry
theorem jk_50_0 : jcR 50 0 24 = true := sorry
theorem jk_51_0 : jcR 51 0 20 = true := sorry
theorem jk_52_0 : jcR 52 0 14 = true := sorry
theorem jk_53_0 : jcR 53 0 41 = true := sorry
theorem jk_54_0 : jcR 54 0 15 = true := sorry
theorem jk_55_0 : jcR 55 0 8 = true := sorry
theorem jk_56_0 : jcR 56 0 60 = true := sorry
theorem jk_56_1 : jcR 56 60 17 = true := sorry
theorem jk_57_0 : jcR 57 0 22 = true := sorry
theorem jk_58_0 : jcR 58 0 15 = true := sorry
theorem jk_59_0 : jcR 59 0 50 = true := sorry
theorem jk_60_0 : jcR 60 0 13 = true := sorry
theorem jk_61_0 : jcR 61 0 60 = true := sorry
theorem jk_61_1 : jcR 61 60 14 = true := sorry
theorem jk_62_0 : jcR 62 0 32 = true := sorry
theorem jk_63_0 : jcR 63 0 19 = true := sorry
theorem jk_64_0 : jcR 64 0 14 = true := sorry
theorem jk_65_0 : jcR 65 0 11 = true := sorry
theorem jk_66_0 : jcR 66 0 14 = true := sorry
theorem jk_67_0 : jcR 67 0 24 = true := sorry
end
section
theorem jk_68_0 : jcR 68 0 60 = true := sorry
theorem jk_69_0 : jcR 69 0 71 = true := sorry
theorem jk_70_0 : jcR 70 0 60 = true := sorry
theorem jk_70_1 : jcR 70 60 59 = true := sorry
theorem jk_71_0 : jcR 71 0 55 = true := sorry
theorem jk_72_0 : jcR 72 0 37 = true := sorry
theorem jk_73_0 : jcR 73 0 8 = true := sorry
theorem jk_74_0 : jcR 74 0 20 = true := sorry
theorem jk_75_0 : jcR 75 0 12 = true := sorry
theorem jk_76_0 : jcR 76 0 44 = true := sorry
theorem jk_77_0 : jcR 77 0 38 = true := sorry
theorem jk_78_0 : jcR 78 0 15 = true := sorry
theorem jk_79_0 : jcR 79 0 3 = true := sorry
theorem jk_80_0 : jcR 80 0 17 = true := sorry
theorem jk_81_0 : jcR 81 0 18 = true := sorry
theorem jk_82_0 : jcR 82 0 6 = true := sorry
theorem jk_83_0 : jcR 83 0 46 = true := sorry
theorem jk_84_0 : jcR 84 0 31 = true := sorry
theorem jk_85_0 : jcR 85 0 22 = true := sorry
theorem jk_86_0 : jcR 86 0 18 = true := sorry
theorem jk_87_0 : jcR 87 0 21 = true := sorry
theorem jk_88_0 : jcR 88 0 14 = true := sorry
theorem jk_89_0 : jcR 89 0 52 = true := sorry
theorem jk_90_0 : jcR 90 0 17 = true := sorry
theorem jk_91_0 : jcR 91 0 55 = true := sorry
theorem jk_92_0 : jcR 92 0 53 = true := sorry
theorem jk_93_0 : jcR 93 0 12 = true := sorry
theorem jk_94_0 : jcR 94 0 22 = true := sorry
theorem jk_95_0 : jcR 95 0 40 = true := sorry
theorem jk_96_0 : jcR 96 0 26 = true := sorry
theorem jk_97_0 : jcR 97 0 53 = true := sorry
theorem jk_98_0 : jcR 98 0 29 = true := sorry
theorem jk_99_0 : jcR 99 0 54 = true := sorry
theorem jk_100_0 : jcR 100 0 49 = true := sorry
theorem jk_101_0 : jcR 101 0 23 = true := sorry
theorem jk_102_0 : jcR 102 0 57 = true := sorry
theorem jk_103_0 : jcR 103 0 38 = true := sorry
theorem jk_104_0 : jcR 104 0 24 = true := sorry
theorem jk_105_0 : jcR 105 0 64 = true := sorry
theorem jk_106_0 : jcR 106 0 39 = true := sorry
theorem jk_107_0 : jcR 107 0 43 = true := sorry
theorem jk_108_0 : jcR 108 0 19 = true := sorry
theorem jk_109_0 : jcR 109 0 39 = true := sorry
theorem jk_110_0 : jcR 110 0 24 = true := sorry
theorem jk_111_0 : jcR 111 0 17 = true := sorry
theorem jk_112_0 : jcR 112 0 26 = true := sorry
theorem jk_113_0 : jcR 113 0 35 = true := sorry
theorem jk_114_0 : jcR 114 0 42 = true := sorry
theorem jk_115_0 : jcR 115 0 58 = true := sorry
theorem jk_116_0 : jcR 116 0 3 = true := sorry
theorem jk_117_0 : jcR 117 0 24 = true := sorry
theorem jk_118_0 : jcR 118 0 22 = true := sorry
theorem jk_119_0 : jcR 119 0 14 = true := sorry
theorem jk_120_0 : jcR 120 0 60 = true := sorry
theorem jk_120_1 : jcR 120 60 60 = true := sorry
theorem jk_120_2 : jcR 120 120 60 = true := sorry
theorem jk_120_3 : jcR 120 180 60 = true := sorry
theorem jk_120_4 : jcR 120 240 34 = true := sorry
theorem jk_121_0 : jcR 121 0 28 = true := sorry
theorem jk_122_0 : jcR 122 0 24 = true := sorry
theorem jk_123_0 : jcR 123 0 12 = true := sorry
theorem jk_124_0 : jcR 124 0 26 = true := sorry
theorem jk_125_0 : jcR 125 0 23 = true := sorry
theorem jk_126_0 : jcR 126 0 18 = true := sorry
theorem jk_127_0 : jcR 127 0 60 = true := sorry
theorem jk_127_1 : jcR 127 60 36 = true := sorry
theorem jk_128_0 : jcR 128 0 60 = true := sorry
theorem jk_128_1 : jcR 128 60 33 = true := sorry
theorem jk_129_0 : jcR 129 0 12 = true := sorry
theorem jk_130_0 : jcR 130 0 13 = true := sorry
theorem jk_131_0 : jcR 131 0 60 = true := sorry
theorem jk_131_1 : jcR 131 60 60 = true := sorry
theorem jk_131_2 : jcR 131 120 49 = true := sorry
theorem jk_132_0 : jcR 132 0 31 = true := sorry
theorem jk_133_0 : jcR 133 0 10 = true := sorry
theorem jk_134_0 : jcR 134 0 39 = true := sorry
theorem jk_135_0 : jcR 135 0 17 = true := sorry
theorem jk_136_0 : jcR 136 0 10 = true := sorry
theorem jk_137_0 : jcR 137 0 23 = true := sorry
theorem jk_138_0 : jcR 138 0 12 = true := sorry
theorem jk_139_0 : jcR 139 0 50 = true := sorry
theorem jk_140_0 : jcR 140 0 48 = true := sorry
end
section
theorem jk_141_0 : jcR 141 0 10 = true := sorry
theorem jk_142_0 : jcR 142 0 28 = true := sorry
theorem jk_143_0 : jcR 143 0 18 = true := sorry
theorem jk_144_0 : jcR 144 0 60 = true := sorry
theorem jk_144_1 : jcR 144 60 46 = true := sorry
theorem jk_145_0 : jcR 145 0 57 = true := sorry
theorem jk_146_0 : jcR 146 0 20 = true := sorry
theorem jk_147_0 : jcR 147 0 19 = true := sorry
theorem jk_148_0 : jcR 148 0 18 = true := sorry
theorem jk_149_0 : jcR 149 0 19 = true := sorry
theorem jk_150_0 : jcR 150 0 35 = true := sorry
theorem jk_151_0 : jcR 151 0 60 = true := sorry
theorem jk_151_1 : jcR 151 60 51 = true := sorry
theorem jk_152_0 : jcR 152 0 68 = true := sorry
theorem jk_153_0 : jcR 153 0 60 = true := sorry
theorem jk_153_1 : jcR 153 60 60 = true := sorry
theorem jk_153_2 : jcR 153 120 23 = true := sorry
theorem jk_154_0 : jcR 154 0 60 = true := sorry
theorem jk_154_1 : jcR 154 60 55 = true := sorry
theorem jk_155_0 : jcR 155 0 32 = true := sorry
theorem jk_156_0 : jcR 156 0 12 = true := sorry
theorem jk_157_0 : jcR 157 0 60 = true := sorry
theorem jk_157_1 : jcR 157 60 60 = true := sorry
theorem jk_157_2 : jcR 157 120 13 = true := sorry
theorem jk_158_0 : jcR 158 0 35 = true := sorry
theorem jk_159_0 : jcR 159 0 60 = true := sorry
theorem jk_159_1 : jcR 159 60 60 = true := sorry
theorem jk_159_2 : jcR 159 120 36 = true := sorry
theorem jk_160_0 : jcR 160 0 3 = true := sorry
theorem jk_161_0 : jcR 161 0 22 = true := sorry
theorem jk_162_0 : jcR 162 0 10 = true := sorry
theorem jk_163_0 : jcR 163 0 72 = true := sorry
theorem jk_164_0 : jcR 164 0 17 = true := sorry
theorem jk_165_0 : jcR 165 0 10 = true := sorry
theorem jk_166_0 : jcR 166 0 34 = true := sorry
theorem jk_167_0 : jcR 167 0 12 = true := sorry
theorem jk_168_0 : jcR 168 0 37 = true := sorry
theorem jk_169_0 : jcR 169 0 58 = true := sorry
theorem jk_170_0 : jcR 170 0 10 = true := sorry
theorem jk_171_0 : jcR 171 0 23 = true := sorry
theorem jk_172_0 : jcR 172 0 26 = true := sorry
theorem jk_173_0 : jcR 173 0 30 = true := sorry
theorem jk_174_0 : jcR 174 0 60 = true := sorry
theorem jk_174_1 : jcR 174 60 45 = true := sorry
theorem jk_175_0 : jcR 175 0 13 = true := sorry
theorem jk_176_0 : jcR 176 0 34 = true := sorry
theorem jk_177_0 : jcR 177 0 60 = true := sorry
theorem jk_177_1 : jcR 177 60 37 = true := sorry
theorem jk_178_0 : jcR 178 0 33 = true := sorry
theorem jk_179_0 : jcR 179 0 64 = true := sorry
theorem jk_180_0 : jcR 180 0 18 = true := sorry
theorem jk_181_0 : jcR 181 0 24 = true := sorry
theorem jk_182_0 : jcR 182 0 60 = true := sorry
theorem jk_182_1 : jcR 182 60 60 = true := sorry
theorem jk_182_2 : jcR 182 120 60 = true := sorry
theorem jk_182_3 : jcR 182 180 4 = true := sorry
theorem jk_183_0 : jcR 183 0 37 = true := sorry
theorem jk_184_0 : jcR 184 0 53 = true := sorry
theorem jk_185_0 : jcR 185 0 30 = true := sorry
theorem jk_186_0 : jcR 186 0 60 = true := sorry
theorem jk_186_1 : jcR 186 60 60 = true := sorry
theorem jk_186_2 : jcR 186 120 60 = true := sorry
theorem jk_186_3 : jcR 186 180 19 = true := sorry
theorem jk_187_0 : jcR 187 0 60 = true := sorry
theorem jk_188_0 : jcR 188 0 20 = true := sorry
theorem jk_189_0 : jcR 189 0 27 = true := sorry
theorem jk_190_0 : jcR 190 0 37 = true := sorry
theorem jk_191_0 : jcR 191 0 15 = true := sorry
theorem jk_192_0 : jcR 192 0 25 = true := sorry
theorem jk_193_0 : jcR 193 0 60 = true := sorry
theorem jk_193_1 : jcR 193 60 20 = true := sorry
theorem jk_194_0 : jcR 194 0 44 = true := sorry
theorem jk_195_0 : jcR 195 0 3 = true := sorry
theorem jk_196_0 : jcR 196 0 41 = true := sorry
theorem jk_197_0 : jcR 197 0 14 = true := sorry
theorem jk_198_0 : jcR 198 0 13 = true := sorry
theorem jk_199_0 : jcR 199 0 9 = true := sorry
theorem jk_200_0 : jcR 200 0 11 = true := sorry
theorem jk_201_0 : jcR 201 0 6 = true := sorry
theorem jk_202_0 : jcR 202 0 12 = true := sorry
theorem jk_203_0 : jcR 203 0 7 = true := sorry
theorem jk_204_0 : jcR 204 0 7 = true := sorry
end
section
/-! the run without its fuel -/
def jbnd (go : Nat → Nat → Nat → jL → List Value → jS → jr) (d M : Nat) (L : jL) (σ : jS) (o : Option jO) : jr := match o with
  | none => none
  | some (.inl q) => go d M q.1 q.2.1 q.2.2.1 q.2.2.2
  | some (.inr (.inl v)) => some (v, σ)
  | some (.inr (.inr q)) => match d with
    | 0 => none
    | d' + 1 => (go d' q.1 0 (jent q.1 q.2.1) [] σ).bind (fun z => go (d' + 1) M q.2.2.1 L (z.1.toList ++ q.2.2.2) z.2)
def jrn : Nat → Nat → Nat → Nat → jL → List Value → jS → jr
  | 0 => fun _ _ _ _ _ _ => none
  | f + 1 => fun d M pc L st σ => jbnd (jrn f) d M L σ (jcmd d (jcode M pc) L st σ)
theorem jrn_s (f d M pc : Nat) (L : jL) (st : List Value) (σ : jS) : jrn (f + 1) d M pc L st σ = jbnd (jrn f) d M L σ (jcmd d (jcode M pc) L st σ) := rfl
theorem jbnd_mono {go go' : Nat → Nat → Nat → jL → List Value → jS → jr} (h : ∀ d M pc L st σ r, go d M pc L st σ = some r → go' d M pc L st σ = some r) (d M : Nat) (L : jL) (σ : jS) (o : Option jO) (r : Option Value × jS) (hr : jbnd go d M L σ o = some r) : jbnd go' d M L σ o = some r := by
  rcases o with _ | q | v | q
  · exact hr
  · exact h _ _ _ _ _ _ _ hr
  · exact hr
  · cases d with
    | zero => exact hr
    | succ d =>
      obtain ⟨z, h1, h2⟩ := Option.bind_eq_some_iff.mp hr
      exact Option.bind_eq_some_iff.mpr ⟨z, h _ _ _ _ _ _ _ h1, h _ _ _ _ _ _ _ h2⟩
theorem jrn_1 (f : Nat) : ∀ d M pc L st σ r, jrn f d M pc L st σ = some r → jrn (f + 1) d M pc L st σ = some r := by
  induction f with
  | zero => intro d M pc L st σ r h; cases h
  | succ f ih => intro d M pc L st σ r h; exact jbnd_mono ih _ _ _ _ _ _ h
theorem jrn_le {f g : Nat} (hfg : f ≤ g) : ∀ d M pc L st σ r, jrn f d M pc L st σ = some r → jrn g d M pc L st σ = some r := by
  induction g with
  | zero => intro d M pc L st σ r h; rw [Nat.le_zero.mp hfg] at h; exact h
  | succ g ih =>
    intro d M pc L st σ r h
    rcases Nat.lt_or_ge f (g + 1) with q | q
    · exact jrn_1 _ _ _ _ _ _ _ _ (ih (by omega) _ _ _ _ _ _ _ h)
    · rw [show g + 1 = f by omega]; exact h
noncomputable def jx (d M pc : Nat) (L : jL) (st : List Value) (σ : jS) : jr :=
  @dite jr (∃ r, ∃ f, jrn f d M pc L st σ = some r) (Classical.propDecidable _) (fun h => some (Classical.choose h)) (fun _ => none)
theorem jx_iff {d M pc : Nat} {L : jL} {st : List Value} {σ : jS} {r : Option Value × jS} : jx d M pc L st σ = some r ↔ ∃ f, jrn f d M pc L st σ = some r := by
  unfold jx
  by_cases h : ∃ r, ∃ f, jrn f d M pc L st σ = some r
  · rw [dif_pos h]
    obtain ⟨f0, h0⟩ := Classical.choose_spec h
    constructor
    · intro e
      cases e
      exact ⟨f0, h0⟩
    · rintro ⟨f, hf⟩
      have a := jrn_le (Nat.le_max_left f0 f) _ _ _ _ _ _ _ h0
      have b := jrn_le (Nat.le_max_right f0 f) _ _ _ _ _ _ _ hf
      rw [a] at b
      exact b
  · rw [dif_neg h]
    constructor
    · intro e; cases e
    · rintro ⟨f, hf⟩; exact absurd ⟨r, f, hf⟩ h
theorem jx_of {f d M pc : Nat} {L : jL} {st : List Value} {σ : jS} {r : Option Value × jS} (h : jrn f d M pc L st σ = some r) : jx d M pc L st σ = some r := jx_iff.mpr ⟨f, h⟩
theorem jx_un (d M pc : Nat) (L : jL) (st : List Value) (σ : jS) : jx d M pc L st σ = jbnd jx d M L σ (jcmd d (jcode M pc) L st σ) := by
  apply Option.ext
  intro r
  rw [jx_iff]
  constructor
  · rintro ⟨f, hf⟩
    cases f with
    | zero => cases hf
    | succ f => exact jbnd_mono (fun d M pc L st σ r h => jx_of h) _ _ _ _ _ _ hf
  · intro h
    rcases hc : jcmd d (jcode M pc) L st σ with _ | q | v | q
    · rw [hc] at h; cases h
    · rw [hc] at h
      obtain ⟨f, hf⟩ := jx_iff.mp h
      exact ⟨f + 1, by rw [jrn_s, hc]; exact hf⟩
    · rw [hc] at h
      exact ⟨1, by rw [jrn_s, hc]; exact h⟩
    · rw [hc] at h
      cases d with
      | zero => cases h
      | succ d =>
        obtain ⟨z, h1, h2⟩ := Option.bind_eq_some_iff.mp h
        obtain ⟨f1, e1⟩ := jx_iff.mp h1
        obtain ⟨f2, e2⟩ := jx_iff.mp h2
        refine ⟨max f1 f2 + 1, ?_⟩
        rw [jrn_s, hc]
        exact Option.bind_eq_some_iff.mpr ⟨z, jrn_le (Nat.le_max_left _ _) _ _ _ _ _ _ _ e1, jrn_le (Nat.le_max_right _ _) _ _ _ _ _ _ _ e2⟩
end
section
/-! how the J machine's cells stand in the heap -/
abbrev jD : Type := (Nat → ClassId) × (Nat → Nat → Nat) × (Nat → ClassId) × (Nat → Nat) × Nat
def jn0 (D : jD) : Nat := D.2.2.2.2
def jdA (D : jD) (t : Nat) : ClassId := D.2.2.1 t
def jloc (D : jD) (a : Nat) : Nat := if a < 16 then D.2.2.2.1 a else D.2.2.2.2 + (a - 16)
def jv (D : jD) : Value → Value
  | .ref a => .ref (jloc D a)
  | v => v
theorem jv_int (D : jD) (x : Int32) : jv D (.int x) = .int x := rfl
theorem jv_long (D : jD) (x : Int64) : jv D (.long x) = .long x := rfl
theorem jv_ref (D : jD) (a : Nat) : jv D (.ref a) = .ref (jloc D a) := rfl
theorem jv_null (D : jD) : jv D .null = .null := rfl
theorem jv_cat (D : jD) (v : Value) : (jv D v).category = v.category := by cases v <;> rfl
theorem jcs_sum (D : jD) (st : List Value) : ((st.map (jv D)).map fun v => v.category).sum = jcs st := by
  induction st with
  | nil => rfl
  | cons v t ih => simp only [List.map_cons, List.sum_cons, jcs, jv_cat, ih]
theorem jloc_inj {D : jD} {a b : Nat} (ha : 16 ≤ a) (hb : 16 ≤ b) (h : jloc D a = jloc D b) : a = b := by
  unfold jloc at h
  rw [if_neg (by omega), if_neg (by omega)] at h
  omega
theorem jloc_ge {D : jD} {a : Nat} (ha : 16 ≤ a) : jn0 D ≤ jloc D a := by
  unfold jloc jn0
  rw [if_neg (by omega)]
  omega
theorem jloc_s {D : jD} {a : Nat} (ha : 16 ≤ a) : jloc D (a + 1) = jloc D a + 1 := by
  unfold jloc
  rw [if_neg (by omega), if_neg (by omega)]
  omega
theorem jloc_lt {D : jD} {a b : Nat} (ha : 16 ≤ a) (h : a < b) : jloc D a < jloc D b := by
  unfold jloc
  rw [if_neg (by omega), if_neg (by omega)]
  omega
/-- what was there before and stays: the static rows, the names -/
def jA0 (D : jD) : Nat → Prop := fun q => jn0 D ≤ q
def jOl (D : jD) (r : Option Nat) (U : State) (H : Heap) : Prop :=
  va_Z "RuleMill" "REGISTERS_OF" "[I" (.ref (jloc D 1)) (jA0 D) U H ∧ va_Z "RuleMill" "PRICES" "[I" (.ref (jloc D 2)) (jA0 D) U H ∧ va_Z "java/lang/String" "COMPACT_STRINGS" "Z" (.int 1) (jA0 D) U H ∧
  va_Z "jdk/internal/util/Preconditions" "SIOOBE_FORMATTER" "Ljava/util/function/BiFunction;" (jv D (va_rf r)) (jA0 D) U H ∧ vk_S 1 [57] [jnml] (fun _ => jloc D 3) (fun _ => jloc D 4) (jA0 D) U H
theorem jOl.kept {D : jD} {r : Option Nat} {U : State} {H H' : Heap} (h : jOl D r U H) (hq : ∀ x, x < H.size → ¬ jn0 D ≤ x → H'[x]? = H[x]?) : jOl D r U H' :=
  ⟨h.1.kept hq, h.2.1.kept hq, h.2.2.1.kept hq, h.2.2.2.1.kept hq, h.2.2.2.2.kept hq⟩
theorem jOl.moved {D : jD} {r : Option Nat} {u U : State} {H : Heap} (hvm : u.vm.Alike U.vm) (h : jOl D r u H) : jOl D r U H :=
  ⟨h.1.moved hvm, h.2.1.moved hvm, h.2.2.1.moved hvm, h.2.2.2.1.moved hvm, h.2.2.2.2.moved hvm⟩
def jcell (D : jD) (σ : jS) (s : State) (H : Heap) (a : Nat) : Prop :=
  (∀ (ci : Nat) (c : vw_C), jcl[ci]? = some c → jT σ a = 1 + ci → 16 ≤ a ∧ a < jnx σ ∧ t_OB (jloc D a) (D.1 ci) c.2.2 (D.2.1 ci) H (fun j => jv D (jfv σ (64 * ci + j) a))) ∧
  (20 ≤ jT σ a → jT σ a ≤ 22 → 16 ≤ a ∧ a < jnx σ ∧ H[jloc D a]? = some (arrV (jdA D (jT σ a)) (jN σ a) (fun j => .int (jA σ a j)))) ∧
  (30 ≤ jT σ a → jT σ a < 50 → 16 ≤ a ∧ a < jnx σ ∧ (jT σ a = 34 ∨ jT σ a = 35) ∧ H[jloc D a]? = some (arrV (jdA D (jT σ a)) (jN σ a) (fun j => jv D (va_rf (jG σ a j))))) ∧
  (jT σ a = 60 → a < 16 ∧ jloc D a < jn0 D ∧ ∃ cell : Cell, H[jloc D a]? = some cell ∧ s.isArrayOf cell .int ∧ cell.vm ≠ .unknown ∧ (jN σ a ≤ cell.slots.size ∧ cell.slots.size.toInt32 = Int32.ofNat (jN σ a)) ∧ ∀ j : Nat, j < jN σ a → cell.slots[j]? = some (.int (jA σ a j))) ∧
  (jT σ a < 23 ∨ (30 ≤ jT σ a ∧ jT σ a < 50) ∨ jT σ a = 60 ∨ (jT σ a = 61 ∧ a = 3 ∧ jOl D (jR σ 0 3) s H))
def jRel (D : jD) (σ : jS) (s : State) (H : Heap) : Prop := H.size = jloc D (jnx σ) ∧ 16 ≤ jnx σ ∧ ∀ a : Nat, jcell D σ s H a
theorem jcell.kept {D : jD} {σ σ' : jS} {s : State} {H H' : Heap} {a : Nat} (h : jcell D σ s H a) (hT : jT σ' a = jT σ a) (hN : jN σ' a = jN σ a) (hI : ∀ g, jI σ' g a = jI σ g a) (hR : ∀ g, jR σ' g a = jR σ g a) (hA : ∀ i, jA σ' a i = jA σ a i) (hG : ∀ i, jG σ' a i = jG σ a i) (hn : jnx σ ≤ jnx σ')
    (hH : (16 ≤ a ∧ a < jnx σ) ∨ (a < 16 ∧ jloc D a < jn0 D) → H'[jloc D a]? = H[jloc D a]?) (hO : ∀ x, x < H.size → ¬ jn0 D ≤ x → H'[x]? = H[x]?) : jcell D σ' s H' a := by
  obtain ⟨h1, h2, h3, h4, h5⟩ := h
  refine ⟨fun ci c hc ht => ?_, fun t1 t2 => ?_, fun t1 t2 => ?_, fun t => ?_, ?_⟩
  · rw [hT] at ht
    obtain ⟨a1, a2, a3⟩ := h1 ci c hc ht
    refine ⟨a1, by omega, (a3.kept (hH (Or.inl ⟨a1, a2⟩))).to (fun j _ => ?_)⟩
    simp only [jfv, hI, hR]
  · rw [hT] at t1 t2 ⊢
    obtain ⟨a1, a2, a3⟩ := h2 t1 t2
    refine ⟨a1, by omega, ?_⟩
    rw [hH (Or.inl ⟨a1, a2⟩), a3, hN]
    simp only [hA]
  · rw [hT] at t1 t2 ⊢
    obtain ⟨a1, a2, a4, a3⟩ := h3 t1 t2
    refine ⟨a1, by omega, a4, ?_⟩
    rw [hH (Or.inl ⟨a1, a2⟩), a3, hN]
    simp only [hG]
  · rw [hT] at t
    obtain ⟨a1, a2, cell, a3, a4, a5, a6, a7⟩ := h4 t
    refine ⟨a1, a2, cell, by rw [hH (Or.inr ⟨a1, a2⟩)]; exact a3, a4, a5, by rw [hN]; exact a6, fun j hj => ?_⟩
    rw [hN] at hj
    rw [hA]
    exact a7 j hj
  · rw [hT]
    rcases h5 with h | h | h | ⟨h, h3, ho⟩
    · exact Or.inl h
    · exact Or.inr (Or.inl h)
    · exact Or.inr (Or.inr (Or.inl h))
    · subst h3
      refine Or.inr (Or.inr (Or.inr ⟨h, rfl, ?_⟩))
      rw [hR 0]
      exact ho.kept hO
theorem jRel.moved {D : jD} {σ : jS} {u U : State} {H : Heap} (hvm : u.vm.Alike U.vm) (h : jRel D σ u H) : jRel D σ U H := by
  obtain ⟨h1, h2, h3⟩ := h
  refine ⟨h1, h2, fun a => ?_⟩
  obtain ⟨a1, a2, a3, a4, a5⟩ := h3 a
  refine ⟨a1, a2, a3, fun t => ?_, ?_⟩
  · obtain ⟨b1, b2, cell, b3, b4, b5⟩ := a4 t
    exact ⟨b1, b2, cell, b3, State.isArrayOf_alike hvm b4, b5⟩
  · rcases a5 with h | h | h | ⟨h, h3, ho⟩
    · exact Or.inl h
    · exact Or.inr (Or.inl h)
    · exact Or.inr (Or.inr (Or.inl h))
    · exact Or.inr (Or.inr (Or.inr ⟨h, h3, ho.moved hvm⟩))
theorem jRel.old {D : jD} {σ : jS} {s : State} {H : Heap} (h : jRel D σ s H) (hT : jT σ 3 = 61) : jOl D (jR σ 0 3) s H := by
  rcases (h.2.2 3).2.2.2.2 with q | q | q | ⟨-, -, ho⟩
  · omega
  · omega
  · omega
  · exact ho
/-- which words of the tables go along into a call -/
def jw : List Jvm.Cond := lw_tbl.filter goodWord
def jnest : Jvm.Cond → Bool
  | .methodLinkNest _ _ _ _ => true
  | _ => false
theorem jw_of {i : Nat} {w : Jvm.Cond} (h : jwd i w = true) (hg : goodWord w = true) : w ∈ jw := by
  unfold jwd at h
  have h1 := of_decide_eq_true h
  exact List.mem_filter.mpr ⟨List.mem_of_getElem? h1, hg⟩
theorem jw_good {w : Jvm.Cond} (h : w ∈ jw) : (w.onTables && w.keeps) = true ∨ ∃ ty, w = .arrayClass ty := good_of_word (List.mem_filter.mp h).2
def jKn (D : jD) (U : State) : Prop :=
  (∀ (ci : Nat) (c : vw_C), jcl[ci]? = some c → u_Kn U c.1 c.2.1 c.2.2 (D.1 ci) (D.2.1 ci)) ∧
  (∀ t : Nat, t < 3 → ArrOfT U (jdA D (20 + t)) (newarray.typeOf (jat t)) ∧ U.vm.findClass ("[" ++ (newarray.typeOf (jat t)).toString) = some (jdA D (20 + t))) ∧
  (∀ (ci : Nat) (c : vw_C), jcl[ci]? = some c → ci = 4 ∨ ci = 5 → ArrOfT U (jdA D (30 + ci)) (.object c.1) ∧ va_RA U (jdA D (30 + ci)) (.object c.1) ∧ va_AO c.1 U) ∧
  (∀ w ∈ lw_tbl, jnest w = true → va_Nw w U) ∧ vk_R "RuleMill$Reader" 163 jNAMES (jloc D 3) U ∧ vk_R "RuleMill$Row" 93 jNAMES (jloc D 3) U
theorem jKn.warm {D : jD} {s U : State} (hW : s.WarmedH U.vm) (h : jKn D s) : jKn D U := by
  obtain ⟨h1, h2, h3, h4, h5, h6⟩ := h
  refine ⟨fun ci c hc => u_Kn_moved hW.alike (h1 ci c hc), fun t ht => ⟨arrOfT_moved hW.alike (h2 t ht).1, by rw [hW.alike.findClass]; exact (h2 t ht).2⟩, fun ci c hc hi => ?_, fun w hw hn => ?_, h5.warm hW, h6.warm hW⟩
  · obtain ⟨a1, a2, a3⟩ := h3 ci c hc hi
    exact ⟨arrOfT_moved hW.alike a1, a2.moved hW.alike, a3.moved hW.alike⟩
  · have h5 := h4 w hw hn
    cases w <;> first | exact va_Nw.warmM hW h5 | cases hn
theorem jKn.same {D : jD} {u U : State} (h : u.vm = U.vm) (hk : jKn D u) : jKn D U := by
  have hal : u.vm.Alike U.vm := by rw [h]; exact Vm.Alike.refl _
  obtain ⟨h1, h2, h3, h4, h5, h6⟩ := hk
  refine ⟨fun ci c hc => u_Kn_moved hal (h1 ci c hc), fun t ht => ⟨arrOfT_moved hal (h2 t ht).1, by rw [hal.findClass]; exact (h2 t ht).2⟩, fun ci c hc hi => ?_, fun w hw hn => ?_, h5.same h.symm, h6.same h.symm⟩
  · obtain ⟨a1, a2, a3⟩ := h3 ci c hc hi
    exact ⟨arrOfT_moved hal a1, a2.moved hal, a3.moved hal⟩
  · have h5 := h4 w hw hn
    cases w <;> first | exact va_Nw.same rfl h h5 | cases hn
/-- the fields' words of each kind of object are in the table -/
theorem jclw : jcl.all (fun c => (u_ws c.1 c.2.1 c.2.2).all (fun w => decide (w ∈ lw_tbl) && goodWord w) && decide (Jvm.Cond.instantiable c.1 c.2.2 ∈ lw_tbl) && decide (Jvm.Cond.initialized c.1 ∈ lw_tbl)) = true := by decide +kernel
theorem jcl_ws {ci : Nat} {c : vw_C} (hc : jcl[ci]? = some c) : (∀ w ∈ u_ws c.1 c.2.1 c.2.2, w ∈ jw) ∧ Jvm.Cond.instantiable c.1 c.2.2 ∈ lw_tbl ∧ Jvm.Cond.initialized c.1 ∈ lw_tbl := by
  have h := List.all_eq_true.mp jclw c (List.mem_of_getElem? hc)
  simp only [Bool.and_eq_true, decide_eq_true_eq] at h
  refine ⟨fun w hw => ?_, h.1.2, h.2⟩
  have h2 := List.all_eq_true.mp h.1.1 w hw
  simp only [Bool.and_eq_true, decide_eq_true_eq] at h2
  exact List.mem_filter.mpr h2
theorem jcl_64 {ci : Nat} {c : vw_C} (hc : jcl[ci]? = some c) : c.2.2 ≤ 64 := by
  have h : jcl.all (fun c => decide (c.2.2 ≤ 64)) = true := by decide +kernel
  exact of_decide_eq_true (List.all_eq_true.mp h c (List.mem_of_getElem? hc))
theorem jcl_ty {ci : Nat} {c : vw_C} (hc : jcl[ci]? = some c) : ∀ k, k < c.2.2 → parseFieldDescriptor (c.2.1 k).2.2.1 = some (jty (64 * ci + k)) := by
  have key : jcl.length ≤ 11 := by decide
  have hl : ci < 11 := Nat.lt_of_lt_of_le (List.getElem?_eq_some_iff.mp hc).1 key
  have h64 : ∀ k, k < 64 → jty (64 * ci + k) = jtys.getD ci (fun _ => .int) k := by
    intro k hk
    unfold jty
    rw [show (64 * ci + k) / 64 = ci by omega, show (64 * ci + k) % 64 = k by omega]
  intro k hk
  have hk64 : k < 64 := Nat.lt_of_lt_of_le hk (jcl_64 hc)
  match ci, hl, hc, h64 with
  | 0, _, hc, h64 => cases hc; rw [h64 k hk64]; exact tyX0_ok k hk
  | 1, _, hc, h64 => cases hc; rw [h64 k hk64]; exact tyX1_ok k hk
  | 2, _, hc, h64 => cases hc; rw [h64 k hk64]; exact tyX2_ok k hk
  | 3, _, hc, h64 => cases hc; rw [h64 k hk64]; exact tyX3_ok k hk
  | 4, _, hc, h64 => cases hc; rw [h64 k hk64]; exact tyX4_ok k hk
  | 5, _, hc, h64 => cases hc; rw [h64 k hk64]; exact tyX5_ok k hk
  | 6, _, hc, h64 => cases hc; rw [h64 k hk64]; exact tyX6_ok k hk
  | 7, _, hc, h64 => cases hc; rw [h64 k hk64]; exact tyX7_ok k hk
  | 8, _, hc, h64 => cases hc; rw [h64 k hk64]; exact tyX8_ok k hk
  | 9, _, hc, h64 => cases hc; rw [h64 k hk64]; exact tyX9_ok k hk
  | 10, _, hc, h64 => cases hc; rw [h64 k hk64]; exact tyX10_ok k hk
theorem jcl_nm {ci : Nat} {c : vw_C} (hc : jcl[ci]? = some c) : ∀ a, a < c.2.2 → ∀ b, b < c.2.2 → a ≠ b → (c.2.1 a).2.1 ≠ (c.2.1 b).2.1 := by
  have key : jcl.length ≤ 11 := by decide
  have hl : ci < 11 := Nat.lt_of_lt_of_le (List.getElem?_eq_some_iff.mp hc).1 key
  match ci, hl, hc with
  | 0, _, hc => cases hc; exact nmX0
  | 1, _, hc => cases hc; exact nmX1
  | 2, _, hc => cases hc; exact nmX2
  | 3, _, hc => cases hc; exact nmX3
  | 4, _, hc => cases hc; exact nmX4
  | 5, _, hc => cases hc; exact nmX5
  | 6, _, hc => cases hc; exact nmX6
  | 7, _, hc => cases hc; exact nmX7
  | 8, _, hc => cases hc; exact nmX8
  | 9, _, hc => cases hc; exact nmX9
  | 10, _, hc => cases hc; exact nmX10
/-! locals -/
def jl (D : jD) (ls : Array Slot) (n : Nat) (L : jL) : Prop := ls.size = n ∧ lv_wf ls ∧ L.length = n ∧ ∀ (i : Nat) (v : Value), L[i]? = some (some v) → ls[i]? = some (.val (jv D v))
def jpo (D : jD) (L : jL) (i : Nat) : Option (Nat × Value) := (L[i]?.join).map (fun v => (i, jv D v))
def jps (D : jD) (L : jL) : List (Nat × Value) := (List.range L.length).filterMap (jpo D L)
theorem jps_mem {D : jD} {L : jL} {q : Nat × Value} : q ∈ jps D L ↔ ∃ v, L[q.1]? = some (some v) ∧ q.2 = jv D v := by
  unfold jps
  rw [List.mem_filterMap]
  constructor
  · rintro ⟨i, -, h⟩
    unfold jpo at h
    rcases hL : L[i]? with _ | _ | v
    · rw [hL] at h; cases h
    · rw [hL] at h; cases h
    · rw [hL] at h; cases h; exact ⟨v, hL, rfl⟩
  · rintro ⟨v, h1, h2⟩
    refine ⟨q.1, List.mem_range.mpr (List.getElem?_eq_some_iff.mp h1).1, ?_⟩
    unfold jpo
    rw [h1]
    simp [← h2]
theorem jl.has {D : jD} {ls : Array Slot} {n : Nat} {L : jL} (h : jl D ls n L) : lv_has ls n (jps D L) := by
  refine ⟨h.1, h.2.1, fun q hq => ?_⟩
  obtain ⟨v, h1, h2⟩ := jps_mem.mp hq
  rw [h2]
  exact h.2.2.2 q.1 v h1
theorem jclr_len (L : jL) (i : Nat) : (jclr L i).length = L.length := by
  unfold jclr
  split
  · rfl
  · split
    · split
      · simp
      · rfl
    · rfl
theorem jclr_get {L : jL} {i j : Nat} {w : Value} (h : (jclr L i)[j]? = some (some w)) : L[j]? = some (some w) ∧ ¬ (j + 1 = i ∧ w.category = 2) := by
  cases i with
  | zero => exact ⟨h, by omega⟩
  | succ i =>
    simp only [jclr] at h
    split at h
    · rename_i u hu
      split at h
      · by_cases hj : j = i
        · subst hj
          have hl := (List.getElem?_eq_some_iff.mp hu).1
          rw [List.getElem?_set_self hl] at h
          cases h
        · rw [List.getElem?_set_ne (Ne.symm hj)] at h
          exact ⟨h, by omega⟩
      · rename_i hc
        refine ⟨h, ?_⟩
        rintro ⟨a, b⟩
        have : j = i := by omega
        subst this
        rw [hu] at h
        cases h
        exact hc b
    · rename_i hu
      refine ⟨h, ?_⟩
      rintro ⟨a, b⟩
      have : j = i := by omega
      subst this
      exact hu w h
theorem jl.st1 {D : jD} {ls ls' : Array Slot} {n i : Nat} {L : jL} {v : Value} (h : jl D ls n L) (hi : i < n) (h' : lv_has ls' n ((i, jv D v) :: (jps D L).filter (fun q => !(q.1 == i) && !(q.1 + 1 == i && q.2.category == 2)))) : jl D ls' n (jst1 L i v) := by
  refine ⟨h'.1, h'.2.1, ?_, fun j w hj => ?_⟩
  · simp only [jst1, List.length_set, jclr_len]; exact h.2.2.1
  · by_cases hji : j = i
    · subst hji
      have hl : j < (jclr L j).length := by rw [jclr_len, h.2.2.1]; exact hi
      simp only [jst1, List.getElem?_set_self hl] at hj
      cases hj
      exact h'.2.2 (j, jv D v) List.mem_cons_self
    · simp only [jst1] at hj
      rw [List.getElem?_set_ne (Ne.symm hji)] at hj
      obtain ⟨h1, h2⟩ := jclr_get hj
      refine h'.2.2 (j, jv D w) (List.mem_cons_of_mem _ (List.mem_filter.mpr ⟨jps_mem.mpr ⟨w, h1, rfl⟩, ?_⟩))
      simp only [jv_cat, Bool.and_eq_true, Bool.not_eq_true', beq_eq_false_iff_ne, ne_eq, Bool.and_eq_false_iff]
      refine ⟨hji, ?_⟩
      by_cases a : j + 1 = i
      · exact Or.inr (fun b => h2 ⟨a, b⟩)
      · exact Or.inl a
theorem jl.st2 {D : jD} {ls ls' : Array Slot} {n i : Nat} {L : jL} {v : Value} (h : jl D ls n L) (hi : i + 1 < n) (h' : lv_has ls' n ((i, jv D v) :: (jps D L).filter (fun q => !(q.1 == i) && (!(q.1 == i + 1) && !(q.1 + 1 == i && q.2.category == 2))))) : jl D ls' n (jst2 L i v) := by
  refine ⟨h'.1, h'.2.1, ?_, fun j w hj => ?_⟩
  · simp only [jst2, List.length_set, jclr_len]; exact h.2.2.1
  · simp only [jst2] at hj
    by_cases hj1 : j = i + 1
    · subst hj1
      have hl : i + 1 < ((jclr L i).set i (some v)).length := by rw [List.length_set, jclr_len, h.2.2.1]; exact hi
      rw [List.getElem?_set_self hl] at hj
      cases hj
    · rw [List.getElem?_set_ne (Ne.symm hj1)] at hj
      by_cases hji : j = i
      · subst hji
        have hl : j < (jclr L j).length := by rw [jclr_len, h.2.2.1]; omega
        rw [List.getElem?_set_self hl] at hj
        cases hj
        exact h'.2.2 (j, jv D v) List.mem_cons_self
      · rw [List.getElem?_set_ne (Ne.symm hji)] at hj
        obtain ⟨h1, h2⟩ := jclr_get hj
        refine h'.2.2 (j, jv D w) (List.mem_cons_of_mem _ (List.mem_filter.mpr ⟨jps_mem.mpr ⟨w, h1, rfl⟩, ?_⟩))
        simp only [jv_cat, Bool.and_eq_true, Bool.not_eq_true', beq_eq_false_iff_ne, ne_eq, Bool.and_eq_false_iff]
        refine ⟨hji, hj1, ?_⟩
        by_cases a : j + 1 = i
        · exact Or.inr (fun b => h2 ⟨a, b⟩)
        · exact Or.inl a
end
section
/-! each instruction of the J machine is a step of the machine -/
def jCtx (D : jD) (M : Nat) (p : Program) (s : State) (m : MethodId) (args : Array Value) (meth : Method) (c : Code) : Prop :=
  p.tables.exec = Jvm.exec ∧ c.code = jbs M ∧ c.maxLocals = jml M ∧ s.vm.findClass (jown M) = some m.cls ∧ (∀ w ∈ jw, w.before args s = true) ∧ jKn D s ∧ ((jget M).1.name = "<init>" → meth.name = "<init>")
/-- from here the machine comes to an end with Q -/
def jK (D : jD) (M : Nat) (p : Program) (l : Launch) (e : Env) (R : Room) (s : State) (m : MethodId) (args : Array Value) (below : List Frame) (meth : Method) (c : Code) (Q : State → Prop) (n1 s1 pc : Nat) (L : jL) (st : List Value) (σ : jS) : Prop :=
  ∀ (H : Heap) (locs : List Loc) (ls : Array Slot), jl D ls (jml M) L → jRel D σ s H → (∀ q ∈ locs, jn0 D ≤ q.base) → W p l e R s m args below meth c H locs (jnx σ - n1) (jsl σ - s1) Q (F0 m pc ls (st.map (jv D)))
theorem jdc_of {M pc len n : Nat} {i : Instr} (h : jdc M pc i len n = true) : decode (jbs M) pc = .ok (i, len) ∧ n = pc + len := by
  unfold jdc at h
  simp only [Bool.and_eq_true, decide_eq_true_eq] at h
  exact h
section JO
variable {D : jD} {M : Nat} {p : Program} {l : Launch} {e : Env} {R : Room} {s : State} {m : MethodId} {args : Array Value} {below : List Frame} {meth : Method} {c : Code} {Q : State → Prop} {n1 s1 pc n : Nat} {L : jL} {st : List Value} {σ : jS}
theorem jo_const (C : jCtx D M p s m args meth c) {a b : Nat} {k : Int} (h : jchk1 M pc 0 a b k n = true) (kk : jK D M p l e R s m args below meth c Q n1 s1 n L (.int (Int32.ofInt k) :: st) σ) : jK D M p l e R s m args below meth c Q n1 s1 pc L st σ := by
  intro H locs ls hl hr hlo
  have kk := kk H locs ls hl hr hlo
  simp only [jchk1, if_pos, Bool.or_eq_true, Bool.and_eq_true, decide_eq_true_eq] at h
  rcases h with (h | ⟨h, hv⟩) | ⟨h, hv⟩
  · obtain ⟨h1, rfl⟩ := jdc_of h
    exact lv_iconst C.1 C.2.1 h1 rfl kk
  · obtain ⟨h1, rfl⟩ := jdc_of h
    exact lv_bipush C.1 C.2.1 h1 hv kk
  · obtain ⟨h1, rfl⟩ := jdc_of h
    exact lv_sipush C.1 C.2.1 h1 hv kk
theorem jo_iload (C : jCtx D M p s m args meth c) {a b : Nat} {k : Int} (h : jchk1 M pc 1 a b k n = true) {x : Int32} (hx : L[a]? = some (some (.int x))) (kk : jK D M p l e R s m args below meth c Q n1 s1 n L (.int x :: st) σ) : jK D M p l e R s m args below meth c Q n1 s1 pc L st σ := by
  intro H locs ls hl hr hlo
  have kk := kk H locs ls hl hr hlo
  have hx := hl.2.2.2 a _ hx
  simp (decide := true) only [jchk1, reduceIte, Bool.or_eq_true, Bool.and_eq_true, decide_eq_true_eq] at h
  rcases h with ⟨h4, h⟩ | h
  · obtain ⟨h1, rfl⟩ := jdc_of h
    exact lv_iload_n C.1 C.2.1 h1 (Nat.mod_eq_of_lt h4) hx kk
  · obtain ⟨h1, rfl⟩ := jdc_of h
    exact lv_iload C.1 C.2.1 h1 hx kk
theorem jo_aload (C : jCtx D M p s m args meth c) {a b : Nat} {k : Int} (h : jchk1 M pc 2 a b k n = true) {x : Nat} (hx : L[a]? = some (some (.ref x))) (kk : jK D M p l e R s m args below meth c Q n1 s1 n L (.ref x :: st) σ) : jK D M p l e R s m args below meth c Q n1 s1 pc L st σ := by
  intro H locs ls hl hr hlo
  have kk := kk H locs ls hl hr hlo
  have hx := hl.2.2.2 a _ hx
  simp (decide := true) only [jchk1, reduceIte, Bool.or_eq_true, Bool.and_eq_true, decide_eq_true_eq] at h
  rcases h with ⟨h4, h⟩ | h
  · obtain ⟨h1, rfl⟩ := jdc_of h
    exact lv_aload_n C.1 C.2.1 h1 (Nat.mod_eq_of_lt h4) hx kk
  · obtain ⟨h1, rfl⟩ := jdc_of h
    exact lv_aload C.1 C.2.1 h1 hx kk
theorem jo_aloadN (C : jCtx D M p s m args meth c) {a b : Nat} {k : Int} (h : jchk1 M pc 2 a b k n = true) (hx : L[a]? = some (some .null)) (kk : jK D M p l e R s m args below meth c Q n1 s1 n L (.null :: st) σ) : jK D M p l e R s m args below meth c Q n1 s1 pc L st σ := by
  intro H locs ls hl hr hlo
  have kk := kk H locs ls hl hr hlo
  have hx := hl.2.2.2 a _ hx
  simp (decide := true) only [jchk1, reduceIte, Bool.or_eq_true, Bool.and_eq_true, decide_eq_true_eq] at h
  rcases h with ⟨h4, h⟩ | h
  · obtain ⟨h1, rfl⟩ := jdc_of h
    exact lv_aload_nN C.1 C.2.1 h1 (Nat.mod_eq_of_lt h4) hx kk
  · obtain ⟨h1, rfl⟩ := jdc_of h
    exact lv_aloadN C.1 C.2.1 h1 hx kk
theorem jo_lload (C : jCtx D M p s m args meth c) {a b : Nat} {k : Int} (h : jchk1 M pc 3 a b k n = true) {x : Int64} (hx : L[a]? = some (some (.long x))) (kk : jK D M p l e R s m args below meth c Q n1 s1 n L (.long x :: st) σ) : jK D M p l e R s m args below meth c Q n1 s1 pc L st σ := by
  intro H locs ls hl hr hlo
  have kk := kk H locs ls hl hr hlo
  have hx := hl.2.2.2 a _ hx
  simp (decide := true) only [jchk1, reduceIte, Bool.or_eq_true, Bool.and_eq_true, decide_eq_true_eq] at h
  rcases h with ⟨h4, h⟩ | h
  · obtain ⟨h1, rfl⟩ := jdc_of h
    exact lv_lload_n C.1 C.2.1 h1 (Nat.mod_eq_of_lt h4) hx kk
  · obtain ⟨h1, rfl⟩ := jdc_of h
    exact lv_lload C.1 C.2.1 h1 hx kk
theorem jo_istore (C : jCtx D M p s m args meth c) {a b : Nat} {k : Int} (h : jchk1 M pc 4 a b k n = true) {x : Int32} (ha : a < L.length) (kk : jK D M p l e R s m args below meth c Q n1 s1 n (jst1 L a (.int x)) st σ) : jK D M p l e R s m args below meth c Q n1 s1 pc L (.int x :: st) σ := by
  intro H locs ls hl hr hlo
  rw [hl.2.2.1] at ha
  simp (decide := true) only [jchk1, reduceIte, Bool.or_eq_true, Bool.and_eq_true, decide_eq_true_eq] at h
  rcases h with ⟨h4, h⟩ | h
  · obtain ⟨h1, rfl⟩ := jdc_of h
    exact lv_istore_n C.1 C.2.1 h1 (Nat.mod_eq_of_lt h4) hl.has ha rfl (fun ls' hl' => kk H locs ls' (hl.st1 ha hl') hr hlo)
  · obtain ⟨h1, rfl⟩ := jdc_of h
    exact lv_istore C.1 C.2.1 h1 hl.has ha rfl (fun ls' hl' => kk H locs ls' (hl.st1 ha hl') hr hlo)
theorem jo_astore (C : jCtx D M p s m args meth c) {a b : Nat} {k : Int} (h : jchk1 M pc 5 a b k n = true) {x : Nat} (ha : a < L.length) (kk : jK D M p l e R s m args below meth c Q n1 s1 n (jst1 L a (.ref x)) st σ) : jK D M p l e R s m args below meth c Q n1 s1 pc L (.ref x :: st) σ := by
  intro H locs ls hl hr hlo
  rw [hl.2.2.1] at ha
  simp (decide := true) only [jchk1, reduceIte, Bool.or_eq_true, Bool.and_eq_true, decide_eq_true_eq] at h
  rcases h with ⟨h4, h⟩ | h
  · obtain ⟨h1, rfl⟩ := jdc_of h
    exact lv_astore_n C.1 C.2.1 h1 (Nat.mod_eq_of_lt h4) hl.has ha rfl (fun ls' hl' => kk H locs ls' (hl.st1 (v := .ref x) ha hl') hr hlo)
  · obtain ⟨h1, rfl⟩ := jdc_of h
    exact lv_astore C.1 C.2.1 h1 hl.has ha rfl (fun ls' hl' => kk H locs ls' (hl.st1 (v := .ref x) ha hl') hr hlo)
theorem jo_astoreN (C : jCtx D M p s m args meth c) {a b : Nat} {k : Int} (h : jchk1 M pc 5 a b k n = true) (ha : a < L.length) (kk : jK D M p l e R s m args below meth c Q n1 s1 n (jst1 L a .null) st σ) : jK D M p l e R s m args below meth c Q n1 s1 pc L (.null :: st) σ := by
  intro H locs ls hl hr hlo
  rw [hl.2.2.1] at ha
  simp (decide := true) only [jchk1, reduceIte, Bool.or_eq_true, Bool.and_eq_true, decide_eq_true_eq] at h
  rcases h with ⟨h4, h⟩ | h
  · obtain ⟨h1, rfl⟩ := jdc_of h
    exact lv_astore_nN C.1 C.2.1 h1 (Nat.mod_eq_of_lt h4) hl.has ha rfl (fun ls' hl' => kk H locs ls' (hl.st1 (v := .null) ha hl') hr hlo)
  · obtain ⟨h1, rfl⟩ := jdc_of h
    exact lv_astoreN C.1 C.2.1 h1 hl.has ha rfl (fun ls' hl' => kk H locs ls' (hl.st1 (v := .null) ha hl') hr hlo)
theorem jo_lstore (C : jCtx D M p s m args meth c) {a b : Nat} {k : Int} (h : jchk1 M pc 6 a b k n = true) {x : Int64} (ha : a + 1 < L.length) (kk : jK D M p l e R s m args below meth c Q n1 s1 n (jst2 L a (.long x)) st σ) : jK D M p l e R s m args below meth c Q n1 s1 pc L (.long x :: st) σ := by
  intro H locs ls hl hr hlo
  rw [hl.2.2.1] at ha
  simp (decide := true) only [jchk1, reduceIte, Bool.or_eq_true, Bool.and_eq_true, decide_eq_true_eq] at h
  rcases h with ⟨h4, h⟩ | h
  · obtain ⟨h1, rfl⟩ := jdc_of h
    exact lv_lstore_n C.1 C.2.1 h1 (Nat.mod_eq_of_lt h4) hl.has ha rfl (fun ls' hl' => kk H locs ls' (hl.st2 (v := .long x) ha hl') hr hlo)
  · obtain ⟨h1, rfl⟩ := jdc_of h
    exact lv_lstore C.1 C.2.1 h1 hl.has ha rfl (fun ls' hl' => kk H locs ls' (hl.st2 (v := .long x) ha hl') hr hlo)
theorem jo_iinc (C : jCtx D M p s m args meth c) {a b : Nat} {k : Int} (h : jchk1 M pc 7 a b k n = true) {x : Int32} (hx : L[a]? = some (some (.int x))) (kk : jK D M p l e R s m args below meth c Q n1 s1 n (jst1 L a (.int (x + Int32.ofInt k))) st σ) : jK D M p l e R s m args below meth c Q n1 s1 pc L st σ := by
  intro H locs ls hl hr hlo
  have ha : a < jml M := by rw [← hl.2.2.1]; exact (List.getElem?_eq_some_iff.mp hx).1
  obtain ⟨j, hj⟩ := List.getElem?_of_mem (jps_mem (D := D) (q := (a, .int x)).mpr ⟨_, hx, rfl⟩)
  simp (decide := true) only [jchk1, reduceIte, Bool.or_eq_true, Bool.and_eq_true, decide_eq_true_eq] at h
  obtain ⟨h1, rfl⟩ := jdc_of h
  exact lv_iinc C.1 C.2.1 h1 hl.has hj rfl ha rfl (fun ls' hl' => kk H locs ls' (hl.st1 (v := .int (x + Int32.ofInt k)) ha hl') hr hlo)
theorem jo_bin (C : jCtx D M p s m args meth c) {a b : Nat} {k : Int} (h : jchk1 M pc 8 a b k n = true) {x y : Int32} (hz : ¬ (8 ≤ a ∧ y = 0)) (kk : jK D M p l e R s m args below meth c Q n1 s1 n L (.int (jbin a x y) :: st) σ) : jK D M p l e R s m args below meth c Q n1 s1 pc L (.int y :: .int x :: st) σ := by
  intro H locs ls hl hr hlo
  have kk := kk H locs ls hl hr hlo
  simp (decide := true) only [jchk1, reduceIte, Bool.or_eq_true, Bool.and_eq_true, decide_eq_true_eq] at h
  rcases h with ((((((((⟨rfl, h⟩ | ⟨rfl, h⟩) | ⟨rfl, h⟩) | ⟨rfl, h⟩) | ⟨rfl, h⟩) | ⟨rfl, h⟩) | ⟨rfl, h⟩) | ⟨rfl, h⟩) | ⟨rfl, h⟩) | ⟨rfl, h⟩
  · obtain ⟨h1, rfl⟩ := jdc_of h; exact lv_iadd C.1 C.2.1 h1 kk
  · obtain ⟨h1, rfl⟩ := jdc_of h; exact lv_isub C.1 C.2.1 h1 kk
  · obtain ⟨h1, rfl⟩ := jdc_of h; exact lv_imul C.1 C.2.1 h1 kk
  · obtain ⟨h1, rfl⟩ := jdc_of h; exact lv_iand C.1 C.2.1 h1 kk
  · obtain ⟨h1, rfl⟩ := jdc_of h; exact lv_ior C.1 C.2.1 h1 kk
  · obtain ⟨h1, rfl⟩ := jdc_of h; exact lv_ixor C.1 C.2.1 h1 kk
  · obtain ⟨h1, rfl⟩ := jdc_of h; exact lv_ishl C.1 C.2.1 h1 kk
  · obtain ⟨h1, rfl⟩ := jdc_of h; exact lv_ishr C.1 C.2.1 h1 kk
  · obtain ⟨h1, rfl⟩ := jdc_of h; exact lv_idiv C.1 C.2.1 h1 (fun q => hz ⟨Nat.le_refl 8, q⟩) kk
  · obtain ⟨h1, rfl⟩ := jdc_of h; exact lv_irem C.1 C.2.1 h1 (fun q => hz ⟨by decide, q⟩) kk
theorem jo_ineg (C : jCtx D M p s m args meth c) {a b : Nat} {k : Int} (h : jchk1 M pc 9 a b k n = true) {x : Int32} (kk : jK D M p l e R s m args below meth c Q n1 s1 n L (.int (-x) :: st) σ) : jK D M p l e R s m args below meth c Q n1 s1 pc L (.int x :: st) σ := by
  intro H locs ls hl hr hlo
  simp only [jchk1, if_pos, if_neg] at h
  obtain ⟨h1, rfl⟩ := jdc_of h
  exact lv_ineg C.1 C.2.1 h1 (kk H locs ls hl hr hlo)
theorem jo_i2l (C : jCtx D M p s m args meth c) {a b : Nat} {k : Int} (h : jchk1 M pc 10 a b k n = true) {x : Int32} (kk : jK D M p l e R s m args below meth c Q n1 s1 n L (.long x.toInt64 :: st) σ) : jK D M p l e R s m args below meth c Q n1 s1 pc L (.int x :: st) σ := by
  intro H locs ls hl hr hlo
  simp only [jchk1, if_pos, if_neg] at h
  obtain ⟨h1, rfl⟩ := jdc_of h
  exact lv_i2l C.1 C.2.1 h1 rfl (kk H locs ls hl hr hlo)
theorem jo_l2i (C : jCtx D M p s m args meth c) {a b : Nat} {k : Int} (h : jchk1 M pc 11 a b k n = true) {x : Int64} (kk : jK D M p l e R s m args below meth c Q n1 s1 n L (.int x.toInt32 :: st) σ) : jK D M p l e R s m args below meth c Q n1 s1 pc L (.long x :: st) σ := by
  intro H locs ls hl hr hlo
  simp only [jchk1, if_pos, if_neg] at h
  obtain ⟨h1, rfl⟩ := jdc_of h
  exact lv_l2i C.1 C.2.1 h1 rfl (kk H locs ls hl hr hlo)
theorem jo_lconst (C : jCtx D M p s m args meth c) {a b : Nat} {k : Int} (h : jchk1 M pc 12 a b k n = true) (kk : jK D M p l e R s m args below meth c Q n1 s1 n L (.long (Int64.ofInt k) :: st) σ) : jK D M p l e R s m args below meth c Q n1 s1 pc L st σ := by
  intro H locs ls hl hr hlo
  have kk := kk H locs ls hl hr hlo
  simp (decide := true) only [jchk1, reduceIte, Bool.or_eq_true, Bool.and_eq_true, decide_eq_true_eq] at h
  rcases h with (⟨rfl, h⟩ | ⟨rfl, h⟩) | ⟨h, hw⟩
  · obtain ⟨h1, rfl⟩ := jdc_of h
    exact lv_lconst C.1 C.2.1 h1 rfl kk
  · obtain ⟨h1, rfl⟩ := jdc_of h
    exact lv_lconst C.1 C.2.1 h1 rfl kk
  · obtain ⟨h1, rfl⟩ := jdc_of h
    exact lv_ldc2 C.1 C.2.1 C.2.2.2.1 (C.2.2.2.2.1 _ (jw_of hw rfl)) h1 kk
theorem jo_lmul (C : jCtx D M p s m args meth c) {a b : Nat} {k : Int} (h : jchk1 M pc 13 a b k n = true) {x y : Int64} (kk : jK D M p l e R s m args below meth c Q n1 s1 n L (.long (x * y) :: st) σ) : jK D M p l e R s m args below meth c Q n1 s1 pc L (.long y :: .long x :: st) σ := by
  intro H locs ls hl hr hlo
  simp only [jchk1, if_pos, if_neg] at h
  obtain ⟨h1, rfl⟩ := jdc_of h
  exact lv_lmul C.1 C.2.1 h1 (kk H locs ls hl hr hlo)
theorem jo_lcmp (C : jCtx D M p s m args meth c) {a b : Nat} {k : Int} (h : jchk1 M pc 14 a b k n = true) {x y : Int64} (kk : jK D M p l e R s m args below meth c Q n1 s1 n L (.int (lg_cmp x y) :: st) σ) : jK D M p l e R s m args below meth c Q n1 s1 pc L (.long y :: .long x :: st) σ := by
  intro H locs ls hl hr hlo
  simp only [jchk1, if_pos, if_neg] at h
  obtain ⟨h1, rfl⟩ := jdc_of h
  exact W.lcmp C.1 C.2.1 h1 (kk H locs ls hl hr hlo)
theorem jo_i2b (C : jCtx D M p s m args meth c) {a b : Nat} {k : Int} (h : jchk1 M pc 15 a b k n = true) {x : Int32} (kk : jK D M p l e R s m args below meth c Q n1 s1 n L (.int x.toInt8.toInt32 :: st) σ) : jK D M p l e R s m args below meth c Q n1 s1 pc L (.int x :: st) σ := by
  intro H locs ls hl hr hlo
  simp only [jchk1, if_pos, if_neg] at h
  obtain ⟨h1, rfl⟩ := jdc_of h
  exact lv_i2b C.1 C.2.1 h1 rfl (kk H locs ls hl hr hlo)
theorem jo_dup (C : jCtx D M p s m args meth c) {a b : Nat} {k : Int} (h : jchk1 M pc 16 a b k n = true) {v : Value} (hv : v.category = 1) (kk : jK D M p l e R s m args below meth c Q n1 s1 n L (v :: v :: st) σ) : jK D M p l e R s m args below meth c Q n1 s1 pc L (v :: st) σ := by
  intro H locs ls hl hr hlo
  simp only [jchk1, if_pos, if_neg] at h
  obtain ⟨h1, rfl⟩ := jdc_of h
  exact lv_dup C.1 C.2.1 h1 (by rw [jv_cat]; exact hv) (kk H locs ls hl hr hlo)
theorem jo_dup2 (C : jCtx D M p s m args meth c) {a b : Nat} {k : Int} (h : jchk1 M pc 17 a b k n = true) {v w : Value} (hv : v.category = 1 ∧ w.category = 1) (kk : jK D M p l e R s m args below meth c Q n1 s1 n L (v :: w :: v :: w :: st) σ) : jK D M p l e R s m args below meth c Q n1 s1 pc L (v :: w :: st) σ := by
  intro H locs ls hl hr hlo
  simp only [jchk1, if_pos, if_neg] at h
  obtain ⟨h1, rfl⟩ := jdc_of h
  exact lv_dup2_11 C.1 C.2.1 h1 (by rw [jv_cat]; exact hv.1) (by rw [jv_cat]; exact hv.2) (kk H locs ls hl hr hlo)
theorem jo_pop (C : jCtx D M p s m args meth c) {a b : Nat} {k : Int} (h : jchk1 M pc 18 a b k n = true) {v : Value} (hv : v.category = 1) (kk : jK D M p l e R s m args below meth c Q n1 s1 n L st σ) : jK D M p l e R s m args below meth c Q n1 s1 pc L (v :: st) σ := by
  intro H locs ls hl hr hlo
  simp only [jchk1, if_pos, if_neg] at h
  obtain ⟨h1, rfl⟩ := jdc_of h
  exact lv_pop C.1 C.2.1 h1 (by rw [jv_cat]; exact hv) (kk H locs ls hl hr hlo)
theorem jo_if (C : jCtx D M p s m args meth c) {a b : Nat} {k : Int} (h : jchk1 M pc 19 a b k n = true) {x : Int32} (kt : jcnb a x 0 = true → jK D M p l e R s m args below meth c Q n1 s1 b L st σ) (kf : ¬ jcnb a x 0 = true → jK D M p l e R s m args below meth c Q n1 s1 n L st σ) : jK D M p l e R s m args below meth c Q n1 s1 pc L (.int x :: st) σ := by
  intro H locs ls hl hr hlo
  simp (decide := true) only [jchk1, reduceIte, Bool.or_eq_true, Bool.and_eq_true, decide_eq_true_eq] at h
  have kt := fun q => kt q H locs ls hl hr hlo
  have kf := fun q => kf q H locs ls hl hr hlo
  rcases h with ((((⟨rfl, h⟩ | ⟨rfl, h⟩) | ⟨rfl, h⟩) | ⟨rfl, h⟩) | ⟨rfl, h⟩) | ⟨rfl, h⟩ <;> obtain ⟨h1, rfl⟩ := jdc_of h
  · exact lv_if_eq C.1 C.2.1 h1 (by omega) (fun q => kt (by simp [jcnb, q])) (fun q => kf (by simp [jcnb, q]))
  · exact lv_if_ne C.1 C.2.1 h1 (by omega) (fun q => kt (by simp [jcnb, q])) (fun q => kf (by simp [jcnb, q]))
  · exact lv_if_lt C.1 C.2.1 h1 (by omega) (fun q => kt (by simp [jcnb, q])) (fun q => kf (by simp [jcnb, q]))
  · exact lv_if_ge C.1 C.2.1 h1 (by omega) (fun q => kt (by simp [jcnb, q])) (fun q => kf (by simp [jcnb, q]))
  · exact lv_if_gt C.1 C.2.1 h1 (by omega) (fun q => kt (by simp [jcnb, q])) (fun q => kf (by simp [jcnb, q]))
  · exact lv_if_le C.1 C.2.1 h1 (by omega) (fun q => kt (by simp [jcnb, q])) (fun q => kf (by simp [jcnb, q]))
theorem jo_icmp (C : jCtx D M p s m args meth c) {a b : Nat} {k : Int} (h : jchk1 M pc 20 a b k n = true) {x y : Int32} (kt : jcnb a x y = true → jK D M p l e R s m args below meth c Q n1 s1 b L st σ) (kf : ¬ jcnb a x y = true → jK D M p l e R s m args below meth c Q n1 s1 n L st σ) : jK D M p l e R s m args below meth c Q n1 s1 pc L (.int y :: .int x :: st) σ := by
  intro H locs ls hl hr hlo
  simp (decide := true) only [jchk1, reduceIte, Bool.or_eq_true, Bool.and_eq_true, decide_eq_true_eq] at h
  have kt := fun q => kt q H locs ls hl hr hlo
  have kf := fun q => kf q H locs ls hl hr hlo
  rcases h with ((((⟨rfl, h⟩ | ⟨rfl, h⟩) | ⟨rfl, h⟩) | ⟨rfl, h⟩) | ⟨rfl, h⟩) | ⟨rfl, h⟩ <;> obtain ⟨h1, rfl⟩ := jdc_of h
  · exact lv_icmp_eq C.1 C.2.1 h1 (by omega) (fun q => kt (by simp [jcnb, q])) (fun q => kf (by simp [jcnb, q]))
  · exact lv_icmp_ne C.1 C.2.1 h1 (by omega) (fun q => kt (by simp [jcnb, q])) (fun q => kf (by simp [jcnb, q]))
  · exact lv_icmp_lt C.1 C.2.1 h1 (by omega) (fun q => kt (by simp [jcnb, q])) (fun q => kf (by simp [jcnb, q]))
  · exact lv_icmp_ge C.1 C.2.1 h1 (by omega) (fun q => kt (by simp [jcnb, q])) (fun q => kf (by simp [jcnb, q]))
  · exact lv_icmp_gt C.1 C.2.1 h1 (by omega) (fun q => kt (by simp [jcnb, q])) (fun q => kf (by simp [jcnb, q]))
  · exact lv_icmp_le C.1 C.2.1 h1 (by omega) (fun q => kt (by simp [jcnb, q])) (fun q => kf (by simp [jcnb, q]))
theorem jo_goto (C : jCtx D M p s m args meth c) {a b : Nat} {k : Int} (h : jchk1 M pc 21 a b k n = true) (kk : jK D M p l e R s m args below meth c Q n1 s1 b L st σ) : jK D M p l e R s m args below meth c Q n1 s1 pc L st σ := by
  intro H locs ls hl hr hlo
  simp only [jchk1, if_pos, if_neg] at h
  obtain ⟨h1, rfl⟩ := jdc_of h
  exact lv_goto C.1 C.2.1 h1 (by omega) (kk H locs ls hl hr hlo)
theorem jo_ifnull (C : jCtx D M p s m args meth c) {a b : Nat} {k : Int} (h : jchk1 M pc 22 a b k n = true) {x : Nat} (kk : jK D M p l e R s m args below meth c Q n1 s1 n L st σ) : jK D M p l e R s m args below meth c Q n1 s1 pc L (.ref x :: st) σ := by
  intro H locs ls hl hr hlo
  simp only [jchk1, if_pos, if_neg] at h
  obtain ⟨h1, rfl⟩ := jdc_of h
  exact lv_ifnull C.1 C.2.1 h1 (kk H locs ls hl hr hlo)
theorem jo_ifnullN (C : jCtx D M p s m args meth c) {a b : Nat} {k : Int} (h : jchk1 M pc 22 a b k n = true) (kk : jK D M p l e R s m args below meth c Q n1 s1 b L st σ) : jK D M p l e R s m args below meth c Q n1 s1 pc L (.null :: st) σ := by
  intro H locs ls hl hr hlo
  simp only [jchk1, if_pos, if_neg] at h
  obtain ⟨h1, rfl⟩ := jdc_of h
  exact lv_ifnullN C.1 C.2.1 h1 (by omega) (kk H locs ls hl hr hlo)
theorem jo_ifnn (C : jCtx D M p s m args meth c) {a b : Nat} {k : Int} (h : jchk1 M pc 23 a b k n = true) {x : Nat} (kk : jK D M p l e R s m args below meth c Q n1 s1 b L st σ) : jK D M p l e R s m args below meth c Q n1 s1 pc L (.ref x :: st) σ := by
  intro H locs ls hl hr hlo
  simp only [jchk1, if_pos, if_neg] at h
  obtain ⟨h1, rfl⟩ := jdc_of h
  exact lv_ifnonnull C.1 C.2.1 h1 (by omega) (kk H locs ls hl hr hlo)
theorem jo_ifnnN (C : jCtx D M p s m args meth c) {a b : Nat} {k : Int} (h : jchk1 M pc 23 a b k n = true) (kk : jK D M p l e R s m args below meth c Q n1 s1 n L st σ) : jK D M p l e R s m args below meth c Q n1 s1 pc L (.null :: st) σ := by
  intro H locs ls hl hr hlo
  simp only [jchk1, if_pos, if_neg] at h
  obtain ⟨h1, rfl⟩ := jdc_of h
  exact lv_ifnonnullN C.1 C.2.1 h1 (kk H locs ls hl hr hlo)
theorem jo_null (C : jCtx D M p s m args meth c) {a b : Nat} {k : Int} (h : jchk1 M pc 24 a b k n = true) (kk : jK D M p l e R s m args below meth c Q n1 s1 n L (.null :: st) σ) : jK D M p l e R s m args below meth c Q n1 s1 pc L st σ := by
  intro H locs ls hl hr hlo
  simp only [jchk1, if_pos, if_neg] at h
  obtain ⟨h1, rfl⟩ := jdc_of h
  exact lv_null C.1 C.2.1 h1 (kk H locs ls hl hr hlo)
end JO
end
section
/-! fields, arrays, new cells -/
section JH
variable {D : jD} {M : Nat} {p : Program} {l : Launch} {e : Env} {R : Room} {s : State} {m : MethodId} {args : Array Value} {below : List Frame} {meth : Method} {c : Code} {Q : State → Prop} {n1 s1 pc n : Nat} {L : jL} {st : List Value} {σ : jS}
theorem jfl_of {M a b : Nat} {k : Int} (h : jfl M a b k = true) : ∃ r, jcl[a / 64]? = some r ∧ a % 64 < r.2.2 ∧ Jvm.Cond.fieldLink (jown M) b (r.2.1 (a % 64)).1 (r.2.1 (a % 64)).2.1 (r.2.1 (a % 64)).2.2.1 ∈ jw := by
  unfold jfl at h
  split at h
  · rename_i r hr
    rw [Bool.and_eq_true] at h
    exact ⟨r, hr, of_decide_eq_true h.1, jw_of h.2 rfl⟩
  · cases h
theorem j64 (a : Nat) : 64 * (a / 64) + a % 64 = a := Nat.div_add_mod a 64
theorem jo_get (C : jCtx D M p s m args meth c) {a b : Nat} {k : Int} (h : jchk2 M pc 25 a b k n = true) {q : Nat} (hT : jT σ q = 1 + a / 64) (kk : jK D M p l e R s m args below meth c Q n1 s1 n L (jfv σ a q :: st) σ) : jK D M p l e R s m args below meth c Q n1 s1 pc L (.ref q :: st) σ := by
  intro H locs ls hl hr hlo
  have kk := kk H locs ls hl hr hlo
  have h : (jdc M pc (.getfield b) 3 n && jfl M a b k) = true := h
  rw [Bool.and_eq_true] at h
  obtain ⟨h1, rfl⟩ := jdc_of h.1
  obtain ⟨r, hc, hlt, hw⟩ := jfl_of h.2
  obtain ⟨hx, hb, hml, hown, hts, hK, hin⟩ := C
  obtain ⟨-, -, cell, q1, q2, q3, q4⟩ := (hr.2.2 q).1 _ r hc hT
  obtain ⟨hS, hfc, kC, hkC, hkind⟩ := hK.1 _ r hc
  obtain ⟨cf, kf, fi, f, hi, hsl⟩ := hS (a % 64) hlt
  refine W.getf hx hb hown (hts _ hw) hi (u_facts hfc hkC (u_lays hts (jcl_ws hc).1 hlt) hi).1 q1 (by rw [q3]; exact fun h => by cases h) (v := jv D (jfv σ a q)) ?_ rfl rfl h1 kk
  rw [hsl, q4 _ hlt]
  show some (jv D (jfv σ (64 * (a / 64) + a % 64) q)) = _
  rw [j64]
/-- one object's field is another: the cells stand -/
theorem jRel.put {σ' : jS} {H H' : Heap} (hr : jRel D σ s H) {a : Nat} {r : vw_C} (hc : jcl[a / 64]? = some r) (hlt : a % 64 < r.2.2) {q : Nat} (hT : jT σ q = 1 + a / 64) {v : Value} (iS : Nat → Nat) (hiS : iS = D.2.1 (a / 64)) (hap : ∀ x y, x < r.2.2 → y < r.2.2 → x ≠ y → iS x ≠ iS y)
    {cell : Cell} (q1 : H[jloc D q]? = some cell) (e1 : H'[jloc D q]? = some (cell.setSlot (iS (a % 64)) (jv D v))) (e2 : H'.size = H.size) (e3 : ∀ x, x ≠ jloc D q → H'[x]? = H[x]?)
    (hT' : jT σ' = jT σ) (hN' : jN σ' = jN σ) (hA' : jA σ' = jA σ) (hG' : jG σ' = jG σ) (hx' : jnx σ' = jnx σ) (ho : ∀ g b, ¬ (g = a ∧ b = q) → jfv σ' g b = jfv σ g b) (ho2 : ∀ g b, b ≠ q → jI σ' g b = jI σ g b ∧ jR σ' g b = jR σ g b) (hv : jfv σ' a q = v) : jRel D σ' s H' := by
  subst hiS
  obtain ⟨h1, h2, h3⟩ := hr
  refine ⟨by rw [e2, hx']; exact h1, by rw [hx']; exact h2, fun b => ?_⟩
  obtain ⟨b1, b2, b3⟩ := (h3 q).1 _ r hc hT
  by_cases hbq : b = q
  · subst hbq
    have hne : ∀ t, jT σ b = t → t = 1 + a / 64 := fun t h => by rw [← h]; exact hT
    have hl11 : a / 64 < 11 := (List.getElem?_eq_some_iff.mp hc).1
    refine ⟨fun ci c' hc' ht => ?_, fun t1 t2 => ?_, fun t1 t2 => ?_, fun t => ?_, ?_⟩
    · rw [hT'] at ht
      have hci : ci = a / 64 := by rw [hT] at ht; omega
      subst hci
      have : c' = r := Option.some.inj (hc'.symm.trans hc)
      subst this
      refine ⟨b1, by rw [hx']; exact b2, ?_⟩
      obtain ⟨cell', g1, g2, g3, g4⟩ := b3
      have : cell' = cell := Option.some.inj (g1.symm.trans q1)
      subst this
      refine t_OB.to (V := updV (fun j => jv D (jfv σ (64 * (a / 64) + j) b)) (a % 64) (jv D v)) ⟨_, e1, g2, g3, t_set g4 hap hlt _⟩ (fun j hj => ?_)
      by_cases hja : j = a % 64
      · subst hja
        simp only [updV, if_pos]
        rw [j64, hv]
      · simp only [updV, if_neg hja]
        rw [ho _ _ (fun z => hja (by have := z.1; omega))]
    · rw [hT', hT] at t1; omega
    · rw [hT', hT] at t1; omega
    · rw [hT', hT] at t; omega
    · rw [hT', hT]; omega
  · refine (h3 b).kept (by rw [hT']) (by rw [hN']) (fun g => (ho2 g b hbq).1) (fun g => (ho2 g b hbq).2) (fun i => by rw [hA']) (fun i => by rw [hG']) (by rw [hx']; exact Nat.le_refl _) (fun hcase => e3 _ ?_) (fun x _ hx => e3 x (fun z => hx (by rw [z]; exact jloc_ge b1)))
    rcases hcase with ⟨c1, c2⟩ | ⟨c1, c2⟩
    · exact fun z => hbq (jloc_inj c1 b1 z)
    · exact fun z => absurd (jloc_ge (D := D) b1) (by rw [← z]; omega)
theorem jsI_o {σ : jS} {a q : Nat} {x : Int32} : jT (jsI σ a q x) = jT σ ∧ jN (jsI σ a q x) = jN σ ∧ jA (jsI σ a q x) = jA σ ∧ jG (jsI σ a q x) = jG σ ∧ jnx (jsI σ a q x) = jnx σ ∧ jR (jsI σ a q x) = jR σ ∧ jsl (jsI σ a q x) = jsl σ ∧ ∀ g b, jI (jsI σ a q x) g b = if g = a ∧ b = q then x else jI σ g b := ⟨rfl, rfl, rfl, rfl, rfl, rfl, rfl, fun _ _ => rfl⟩
theorem jsR_o {σ : jS} {a q : Nat} {x : Option Nat} : jT (jsR σ a q x) = jT σ ∧ jN (jsR σ a q x) = jN σ ∧ jA (jsR σ a q x) = jA σ ∧ jG (jsR σ a q x) = jG σ ∧ jnx (jsR σ a q x) = jnx σ ∧ jI (jsR σ a q x) = jI σ ∧ jsl (jsR σ a q x) = jsl σ ∧ ∀ g b, jR (jsR σ a q x) g b = if g = a ∧ b = q then x else jR σ g b := ⟨rfl, rfl, rfl, rfl, rfl, rfl, rfl, fun _ _ => rfl⟩
theorem jfits {g : Nat} {v : Value} (h : (∃ x, v = .int x ∧ (jkd g = 0 ∨ (jkd g = 2 ∧ (x = 0 ∨ x = 1)))) ∨ (jkd g = 1 ∧ (v = .null ∨ ∃ a, v = .ref a))) (hq : jty g = .int ∨ jty g = .boolean ∨ jkind (jty g) = 1) : narrow (jty g) v = v ∧ fits (jty g) v = true := by
  unfold jkd at h
  rcases hq with hq | hq | hq
  · rw [hq] at h ⊢
    rcases h with ⟨x, rfl, -⟩ | ⟨h, -⟩
    · exact ⟨rfl, rfl⟩
    · cases h
  · rw [hq] at h ⊢
    rcases h with ⟨x, rfl, h | ⟨-, rfl | rfl⟩⟩ | ⟨h, -⟩
    · cases h
    · exact ⟨rfl, rfl⟩
    · exact ⟨rfl, rfl⟩
    · cases h
  · rcases h with ⟨x, rfl, h | ⟨h, -⟩⟩ | ⟨-, h⟩
    · rw [hq] at h; cases h
    · rw [hq] at h; cases h
    · cases ht : jty g with
      | object C => rcases h with rfl | ⟨a, rfl⟩ <;> exact ⟨rfl, rfl⟩
      | array C => rcases h with rfl | ⟨a, rfl⟩ <;> exact ⟨rfl, rfl⟩
      | _ => rw [ht] at hq; cases hq
theorem jtyq : (List.range 704).all (fun g => decide (jty g = .int) || decide (jty g = .boolean) || decide (jkind (jty g) = 1)) = true := by decide +kernel
theorem jty_ok {a : Nat} {r : vw_C} (hc : jcl[a / 64]? = some r) : jty a = .int ∨ jty a = .boolean ∨ jkind (jty a) = 1 := by
  have hl11 : a / 64 < 11 := (List.getElem?_eq_some_iff.mp hc).1
  have h := List.all_eq_true.mp jtyq a (List.mem_range.mpr (by omega))
  simp only [Bool.or_eq_true, decide_eq_true_eq] at h
  rcases h with (h | h) | h
  · exact Or.inl h
  · exact Or.inr (Or.inl h)
  · exact Or.inr (Or.inr h)
theorem jty_p {a : Nat} {r : vw_C} (hc : jcl[a / 64]? = some r) (hlt : a % 64 < r.2.2) : parseFieldDescriptor (r.2.1 (a % 64)).2.2.1 = some (jty a) := by
  have h := jcl_ty hc (a % 64) hlt
  rw [j64] at h
  exact h
theorem jfin_of {a : Nat} {r : vw_C} (hc : jcl[a / 64]? = some r) : jfin a = (r.2.1 (a % 64)).2.2.2 ∧ jfo a = (r.2.1 (a % 64)).1 := by
  unfold jfin jfo
  rw [hc]
  exact ⟨rfl, rfl⟩
/-- a store into a field, of whatever kind: the machine's step -/
theorem jo_putW (C : jCtx D M p s m args meth c) {a b : Nat} {k : Int} {op : Nat} (hop : op = 26 ∨ op = 27) (h : jchk2 M pc op a b k n = true) {q : Nat} (hT : jT σ q = 1 + a / 64) {v : Value} (hv : (∃ x, v = .int x ∧ (jkd a = 0 ∨ (jkd a = 2 ∧ (x = 0 ∨ x = 1)))) ∨ (jkd a = 1 ∧ (v = .null ∨ ∃ a, v = .ref a)))
    {σ' : jS} (hT' : jT σ' = jT σ) (hN' : jN σ' = jN σ) (hA' : jA σ' = jA σ) (hG' : jG σ' = jG σ) (hx' : jnx σ' = jnx σ) (hs' : jsl σ' = jsl σ) (ho : ∀ g b, ¬ (g = a ∧ b = q) → jfv σ' g b = jfv σ g b) (ho2 : ∀ g b, b ≠ q → jI σ' g b = jI σ g b ∧ jR σ' g b = jR σ g b) (hv' : jfv σ' a q = v)
    (kk : jK D M p l e R s m args below meth c Q n1 s1 n L st σ') : jK D M p l e R s m args below meth c Q n1 s1 pc L (v :: .ref q :: st) σ := by
  intro H locs ls hl hr hlo
  have hq : jdc M pc (.putfield b) 3 n = true ∧ jfl M a b k = true ∧ (jfin a = false ∨ (jfin a = true ∧ jfo a = jown M ∧ (jget M).1.name = "<init>")) := by
    rcases hop with rfl | rfl
    · have h : (jdc M pc (.putfield b) 3 n && jfl M a b k && !(jfin a)) = true := h
      simp only [Bool.and_eq_true, Bool.not_eq_true'] at h
      exact ⟨h.1.1, h.1.2, Or.inl h.2⟩
    · have h : (jdc M pc (.putfield b) 3 n && jfl M a b k && jfin a && decide (jfo a = jown M) && decide ((jget M).1.name = "<init>")) = true := h
      simp only [Bool.and_eq_true, decide_eq_true_eq] at h
      exact ⟨h.1.1.1.1, h.1.1.1.2, Or.inr ⟨h.1.1.2, h.1.2, h.2⟩⟩
  obtain ⟨hd, hf, hfin⟩ := hq
  obtain ⟨h1, rfl⟩ := jdc_of hd
  obtain ⟨r, hc, hlt, hw⟩ := jfl_of hf
  obtain ⟨hx, hb, hml, hown, hts, hK, hin⟩ := C
  obtain ⟨b1, -, cell, q1, q2, q3, q4⟩ := (hr.2.2 q).1 _ r hc hT
  obtain ⟨hS, hfc, kC, hkC, hkind⟩ := hK.1 _ r hc
  obtain ⟨cf, kf, fi, f, hi, hsl⟩ := hS (a % 64) hlt
  obtain ⟨f1, f2⟩ := jfin_of hc
  have hiw := (jcl_ws hc).1
  have hap : ∀ x y, x < r.2.2 → y < r.2.2 → x ≠ y → (D.2.1 (a / 64)) x ≠ (D.2.1 (a / 64)) y := by
    intro x y hx1 hy1 hne
    obtain ⟨_, _, _, fa, hia, ea⟩ := hS x hx1
    obtain ⟨_, _, _, fb, hib, eb⟩ := hS y hy1
    rw [← ea, ← eb]
    refine u_apart (u_lays hts hiw hx1) (u_lays hts hiw hy1) hia hib ?_
    rw [(State.fieldFound?_type hia (jcl_ty hc x hx1)).1, (State.fieldFound?_type hib (jcl_ty hc y hy1)).1]
    exact jcl_nm hc x hx1 y hy1 hne
  have hfit0 := jfits hv (jty_ok hc)
  have hfit : narrow (jty a) (jv D v) = jv D v ∧ fits (jty a) (jv D v) = true := by
    rcases hv with ⟨x, rfl, -⟩ | ⟨hk1, rfl | ⟨y, rfl⟩⟩
    · exact hfit0
    · exact hfit0
    · unfold jkd at hk1
      cases ht : jty a with
      | object C => exact ⟨rfl, rfl⟩
      | array C => exact ⟨rfl, rfl⟩
      | _ => rw [ht] at hk1; cases hk1
  have hst := (u_facts hfc hkC (u_lays hts hiw hlt) hi).1
  have fin : ∀ H' : Heap, H'[jloc D q]? = some (cell.setSlot f.slot (jv D v)) → H'.size = H.size → (∀ x, x ≠ jloc D q → H'[x]? = H[x]?) → W p l e R s m args below meth c H' (locs ++ [⟨jloc D q, f.slot⟩]) (jnx σ - n1) (jsl σ - s1) Q (F0 m (pc + 3) ls (st.map (jv D))) := by
    intro H' e1 e2 e3
    rw [hsl] at e1
    rw [← hx', ← hs']
    refine kk H' _ ls hl (hr.put hc hlt hT (D.2.1 (a / 64)) rfl hap q1 e1 e2 e3 hT' hN' hA' hG' hx' ho ho2 hv') (fun z hz => ?_)
    rcases List.mem_append.mp hz with hz | hz
    · exact hlo z hz
    · rw [List.mem_singleton.mp hz]; exact jloc_ge b1
  have hlay := hts _ (hiw _ (u_in_lay hlt))
  unfold u_lay at hlay
  rcases hfin with hfin | ⟨hfin, hfo, hni⟩
  · rw [if_neg (by rw [← f1, hfin]; decide)] at hlay
    have h6 := u_store hfc hkC hkind hlay hi (jty_p hc hlt) hfit.1 hfit.2
    exact W.putK hx hb (f := f) ⟨hown, hts _ hw, ⟨_, _, _, hi⟩, hst⟩ (by rw [q2]; exact h6) q1 q3 (by rw [hsl]; exact k2_hasslot (q4 _ hlt)) rfl rfl h1 fin
  · rw [if_pos (by rw [← f1]; exact hfin)] at hlay
    have hcf : m.cls = cf := by
      obtain ⟨_, _, c', _, _, _, -, -, hf', -, -, -, hown2, -⟩ := Cond.laysFinal_spec hlay
      have e1 : c' = cf := by have := hi.symm.trans hf'; simp at this; exact this.1.symm
      rw [← f2, hfo] at hown2
      rw [← e1]; exact Option.some.inj (hown.symm.trans hown2)
    have h6 := u_fits hfc hkC hkind (Or.inr hlay) hi (jty_p hc hlt) hfit.1 hfit.2
    exact W.putFinK hx hb hown (hts _ hw) hi hst hcf (hin hni) (by rw [q2]; exact h6) q1 q3 (by rw [hsl]; exact k2_hasslot (q4 _ hlt)) rfl rfl h1 fin
theorem jo_putI (C : jCtx D M p s m args meth c) {a b : Nat} {k : Int} {op : Nat} (hop : op = 26 ∨ op = 27) (h : jchk2 M pc op a b k n = true) {q : Nat} {x : Int32} (hq : jT σ q = 1 + a / 64 ∧ (jkd a = 0 ∨ (jkd a = 2 ∧ (x = 0 ∨ x = 1)))) (kk : jK D M p l e R s m args below meth c Q n1 s1 n L st (jsI σ a q x)) : jK D M p l e R s m args below meth c Q n1 s1 pc L (.int x :: .ref q :: st) σ := by
  have hk : ¬ jkd a = 1 := by rcases hq.2 with h | h <;> omega
  refine jo_putW C hop h hq.1 (Or.inl ⟨x, rfl, hq.2⟩) (σ' := jsI σ a q x) rfl rfl rfl rfl rfl rfl (fun g b hgb => ?_) (fun g b hb => ⟨?_, rfl⟩) ?_ kk
  · simp only [jfv, jsI_o.2.2.2.2.2.2.2, jsI_o.2.2.2.2.2.1, if_neg hgb]
  · rw [jsI_o.2.2.2.2.2.2.2, if_neg (fun z => hb z.2)]
  · simp only [jfv, if_neg hk, jsI_o.2.2.2.2.2.2.2]
    simp
theorem jo_putR (C : jCtx D M p s m args meth c) {a b : Nat} {k : Int} {op : Nat} (hop : op = 26 ∨ op = 27) (h : jchk2 M pc op a b k n = true) {q : Nat} {x : Option Nat} (hq : jT σ q = 1 + a / 64 ∧ jkd a = 1) (kk : jK D M p l e R s m args below meth c Q n1 s1 n L st (jsR σ a q x)) : jK D M p l e R s m args below meth c Q n1 s1 pc L (va_rf x :: .ref q :: st) σ := by
  refine jo_putW C hop h hq.1 (Or.inr ⟨hq.2, by cases x with | none => exact Or.inl rfl | some y => exact Or.inr ⟨y, rfl⟩⟩) (σ' := jsR σ a q x) rfl rfl rfl rfl rfl rfl (fun g b hgb => ?_) (fun g b hb => ⟨rfl, ?_⟩) ?_ kk
  · simp only [jfv, jsR_o.2.2.2.2.2.2.2, jsR_o.2.2.2.2.2.1, if_neg hgb]
  · rw [jsR_o.2.2.2.2.2.2.2, if_neg (fun z => hb z.2)]
  · simp only [jfv, if_pos hq.2, jsR_o.2.2.2.2.2.2.2]
    simp
end JH
end
section
/-! arrays and new cells -/
section JA
variable {D : jD} {M : Nat} {p : Program} {l : Launch} {e : Env} {R : Room} {s : State} {m : MethodId} {args : Array Value} {below : List Frame} {meth : Method} {c : Code} {Q : State → Prop} {n1 s1 pc n : Nat} {L : jL} {st : List Value} {σ : jS}
theorem jarr0 (hK : jKn D s) (N : Nat) (z : Nat → Value) : s.isArrayOf (arrV (jdA D 20) N z) .int := (hK.2.1 0 (by decide)).1 N z
theorem jarr1 (hK : jKn D s) (N : Nat) (z : Nat → Value) : s.isArrayOf (arrV (jdA D 21) N z) .byte := (hK.2.1 1 (by decide)).1 N z
theorem jarr2 (hK : jKn D s) (N : Nat) (z : Nat → Value) : s.isArrayOf (arrV (jdA D 22) N z) .boolean := (hK.2.1 2 (by decide)).1 N z
theorem jclam {i : Int32} {N : Nat} (h : ¬ (i < 0 ∨ N ≤ i.toNatClampNeg)) : i.toNatClampNeg < N := Nat.not_le.mp fun q => h (Or.inr q)
theorem jo_iald (C : jCtx D M p s m args meth c) {a b : Nat} {k : Int} (h : jchk2 M pc 28 a b k n = true) {q : Nat} {i : Int32} (hT : jT σ q = 20 ∨ jT σ q = 60) (hin : ¬ (i < 0 ∨ jN σ q ≤ i.toNatClampNeg)) (kk : jK D M p l e R s m args below meth c Q n1 s1 n L (.int (jA σ q i.toNatClampNeg) :: st) σ) : jK D M p l e R s m args below meth c Q n1 s1 pc L (.int i :: .ref q :: st) σ := by
  intro H locs ls hl hr hlo
  have kk := kk H locs ls hl hr hlo
  obtain ⟨h1, rfl⟩ := jdc_of (show jdc M pc .iaload 1 n = true from h)
  have hlt := jclam hin
  rcases hT with hT | hT
  · obtain ⟨-, -, a3⟩ := (hr.2.2 q).2.1 (by omega) (by omega)
    rw [hT] at a3
    exact W.iald (v := .int (jA σ q i.toNatClampNeg)) C.1 C.2.1 a3 (jarr0 C.2.2.2.2.2.1 _ _) (fun z => by cases z) (by rw [arrV_size]; exact hin) (by rw [arrV_read _ _ hlt]) rfl rfl h1 kk
  · obtain ⟨-, -, cell, a3, a4, a5, a6, a7⟩ := (hr.2.2 q).2.2.2.1 hT
    exact W.iald (v := .int (jA σ q i.toNatClampNeg)) C.1 C.2.1 a3 a4 a5 (fun z => hin (z.elim Or.inl (fun w => Or.inr (Nat.le_trans a6.1 w)))) (a7 _ hlt) rfl rfl h1 kk
theorem jo_bald (C : jCtx D M p s m args meth c) {a b : Nat} {k : Int} (h : jchk2 M pc 30 a b k n = true) {q : Nat} {i : Int32} (hT : jT σ q = 21 ∨ jT σ q = 22) (hin : ¬ (i < 0 ∨ jN σ q ≤ i.toNatClampNeg)) (kk : jK D M p l e R s m args below meth c Q n1 s1 n L (.int (jA σ q i.toNatClampNeg) :: st) σ) : jK D M p l e R s m args below meth c Q n1 s1 pc L (.int i :: .ref q :: st) σ := by
  intro H locs ls hl hr hlo
  have kk := kk H locs ls hl hr hlo
  obtain ⟨h1, rfl⟩ := jdc_of (show jdc M pc .baload 1 n = true from h)
  have hlt := jclam hin
  rcases hT with hT | hT
  · obtain ⟨-, -, a3⟩ := (hr.2.2 q).2.1 (by omega) (by omega)
    rw [hT] at a3
    exact W.bald (v := .int (jA σ q i.toNatClampNeg)) C.1 C.2.1 a3 (jarr1 C.2.2.2.2.2.1 _ _) (fun z => by cases z) (by rw [arrV_size]; exact hin) (by rw [arrV_read _ _ hlt]) rfl rfl h1 kk
  · obtain ⟨-, -, a3⟩ := (hr.2.2 q).2.1 (by omega) (by omega)
    rw [hT] at a3
    exact W.zald (v := .int (jA σ q i.toNatClampNeg)) C.1 C.2.1 a3 (jarr2 C.2.2.2.2.2.1 _ _) (fun z => by cases z) (by rw [arrV_size]; exact hin) (by rw [arrV_read _ _ hlt]) rfl rfl h1 kk
theorem jRel.arr {σ' : jS} {H H' : Heap} (hr : jRel D σ s H) {q : Nat} (t1 : 20 ≤ jT σ q) (t2 : jT σ q ≤ 22) (e1 : H'[jloc D q]? = some (arrV (jdA D (jT σ q)) (jN σ q) (fun j => .int (jA σ' q j)))) (e2 : H'.size = H.size) (e3 : ∀ x, x ≠ jloc D q → H'[x]? = H[x]?)
    (hT' : jT σ' = jT σ) (hN' : jN σ' = jN σ) (hI' : jI σ' = jI σ) (hR' : jR σ' = jR σ) (hG' : jG σ' = jG σ) (hx' : jnx σ' = jnx σ) (ho : ∀ b i, b ≠ q → jA σ' b i = jA σ b i) : jRel D σ' s H' := by
  obtain ⟨h1, h2, h3⟩ := hr
  refine ⟨by rw [e2, hx']; exact h1, by rw [hx']; exact h2, fun b => ?_⟩
  obtain ⟨b1, b2, b3⟩ := (h3 q).2.1 t1 t2
  by_cases hbq : b = q
  · subst hbq
    refine ⟨fun ci c' hc' ht => ?_, fun _ _ => ⟨b1, by rw [hx']; exact b2, by rw [hT', hN']; exact e1⟩, fun u1 u2 => ?_, fun t => ?_, ?_⟩
    · rw [hT'] at ht
      have hl11 : ci < 11 := (List.getElem?_eq_some_iff.mp hc').1
      omega
    · rw [hT'] at u1; omega
    · rw [hT'] at t; omega
    · rw [hT']; omega
  · refine (h3 b).kept (by rw [hT']) (by rw [hN']) (fun g => by rw [hI']) (fun g => by rw [hR']) (fun i => ho b i hbq) (fun i => by rw [hG']) (by rw [hx']; exact Nat.le_refl _) (fun hcase => e3 _ ?_) (fun x _ hx => e3 x (fun z => hx (by rw [z]; exact jloc_ge b1)))
    rcases hcase with ⟨c1, c2⟩ | ⟨c1, c2⟩
    · exact fun z => hbq (jloc_inj c1 b1 z)
    · exact fun z => absurd (jloc_ge (D := D) b1) (by rw [← z]; omega)
theorem jsA_o {σ : jS} {q i : Nat} {x : Int32} (b j : Nat) : jA (jsA σ q i x) b j = if b = q ∧ j = i then x else jA σ b j := rfl
theorem jsA_f {σ : jS} {q i : Nat} {x : Int32} : (fun j => Value.int (jA (jsA σ q i x) q j)) = updV (fun j => .int (jA σ q j)) i (.int x) := by
  funext j
  rw [jsA_o]
  by_cases hj : j = i
  · simp [updV, hj]
  · simp [updV, hj]
theorem jlo {locs : List Loc} {q i : Nat} (hlo : ∀ z ∈ locs, jn0 D ≤ z.base) (hq : 16 ≤ q) : ∀ z ∈ locs ++ [⟨jloc D q, i⟩], jn0 D ≤ z.base := by
  intro z hz
  rcases List.mem_append.mp hz with hz | hz
  · exact hlo z hz
  · rw [List.mem_singleton.mp hz]; exact jloc_ge hq
theorem jo_iast (C : jCtx D M p s m args meth c) {a b : Nat} {k : Int} (h : jchk2 M pc 29 a b k n = true) {q : Nat} {i x : Int32} (hT : jT σ q = 20) (hin : ¬ (i < 0 ∨ jN σ q ≤ i.toNatClampNeg)) (kk : jK D M p l e R s m args below meth c Q n1 s1 n L st (jsA σ q i.toNatClampNeg x)) : jK D M p l e R s m args below meth c Q n1 s1 pc L (.int x :: .int i :: .ref q :: st) σ := by
  intro H locs ls hl hr hlo
  obtain ⟨h1, rfl⟩ := jdc_of (show jdc M pc .iastore 1 n = true from h)
  obtain ⟨a1, -, a3⟩ := (hr.2.2 q).2.1 (by omega) (by omega)
  have a3' := a3
  rw [hT] at a3'
  refine W.iast C.1 C.2.1 a3' (jarr0 C.2.2.2.2.2.1 _ _) (fun z => by cases z) (by rw [arrV_size]; exact hin) rfl rfl h1 fun H' e1 e2 e3 => ?_
  refine kk H' _ ls hl (hr.arr (q := q) (by omega) (by omega) ?_ e2 e3 rfl rfl rfl rfl rfl rfl (fun b j hb => ?_)) (jlo hlo a1)
  · rw [e1, arrV_store, jsA_f, hT]
  · rw [jsA_o, if_neg (fun z => hb z.1)]
theorem jo_bast (C : jCtx D M p s m args meth c) {a b : Nat} {k : Int} (h : jchk2 M pc 31 a b k n = true) {q : Nat} {i x : Int32} (hT : jT σ q = 21) (hin : ¬ (i < 0 ∨ jN σ q ≤ i.toNatClampNeg)) (kk : jK D M p l e R s m args below meth c Q n1 s1 n L st (jsA σ q i.toNatClampNeg x.toInt8.toInt32)) : jK D M p l e R s m args below meth c Q n1 s1 pc L (.int x :: .int i :: .ref q :: st) σ := by
  intro H locs ls hl hr hlo
  obtain ⟨h1, rfl⟩ := jdc_of (show jdc M pc .bastore 1 n = true from h)
  obtain ⟨a1, -, a3⟩ := (hr.2.2 q).2.1 (by omega) (by omega)
  have a3' := a3
  rw [hT] at a3'
  refine W.bast C.1 C.2.1 a3' (jarr1 C.2.2.2.2.2.1 _ _) (fun z => by cases z) (by rw [arrV_size]; exact hin) rfl rfl h1 fun H' e1 e2 e3 => ?_
  refine kk H' _ ls hl (hr.arr (q := q) (by omega) (by omega) ?_ e2 e3 rfl rfl rfl rfl rfl rfl (fun b j hb => ?_)) (jlo hlo a1)
  · rw [e1, arrV_store, jsA_f, hT]; rfl
  · rw [jsA_o, if_neg (fun z => hb z.1)]
theorem jo_zast (C : jCtx D M p s m args meth c) {a b : Nat} {k : Int} (h : jchk2 M pc 31 a b k n = true) {q : Nat} {i x : Int32} (hT : jT σ q = 22) (hin : ¬ (i < 0 ∨ jN σ q ≤ i.toNatClampNeg)) (kk : jK D M p l e R s m args below meth c Q n1 s1 n L st (jsA σ q i.toNatClampNeg (x &&& 1))) : jK D M p l e R s m args below meth c Q n1 s1 pc L (.int x :: .int i :: .ref q :: st) σ := by
  intro H locs ls hl hr hlo
  obtain ⟨h1, rfl⟩ := jdc_of (show jdc M pc .bastore 1 n = true from h)
  obtain ⟨a1, -, a3⟩ := (hr.2.2 q).2.1 (by omega) (by omega)
  have a3' := a3
  rw [hT] at a3'
  refine W.zast C.1 C.2.1 a3' (jarr2 C.2.2.2.2.2.1 _ _) (fun z => by cases z) (by rw [arrV_size]; exact hin) rfl rfl h1 fun H' e1 e2 e3 => ?_
  refine kk H' _ ls hl (hr.arr (q := q) (by omega) (by omega) ?_ e2 e3 rfl rfl rfl rfl rfl rfl (fun b j hb => ?_)) (jlo hlo a1)
  · rw [e1, arrV_store, jsA_f, hT]; rfl
  · rw [jsA_o, if_neg (fun z => hb z.1)]
theorem jref {hK : jKn D s} {t : Nat} (ht : t = 34 ∨ t = 35) : ∃ (ci : Nat) (r : vw_C), jcl[ci]? = some r ∧ (ci = 4 ∨ ci = 5) ∧ t = 30 + ci ∧ ArrOfT s (jdA D t) (.object r.1) ∧ va_RA s (jdA D t) (.object r.1) ∧ va_AO r.1 s := by
  rcases ht with rfl | rfl
  · obtain ⟨a1, a2, a3⟩ := hK.2.2.1 4 _ rfl (Or.inl rfl)
    exact ⟨4, _, rfl, Or.inl rfl, rfl, a1, a2, a3⟩
  · obtain ⟨a1, a2, a3⟩ := hK.2.2.1 5 _ rfl (Or.inr rfl)
    exact ⟨5, _, rfl, Or.inr rfl, rfl, a1, a2, a3⟩
theorem jo_aald (C : jCtx D M p s m args meth c) {a b : Nat} {k : Int} (h : jchk2 M pc 32 a b k n = true) {q : Nat} {i : Int32} (hT : 30 ≤ jT σ q ∧ jT σ q < 50) (hin : ¬ (i < 0 ∨ jN σ q ≤ i.toNatClampNeg)) (kk : jK D M p l e R s m args below meth c Q n1 s1 n L (va_rf (jG σ q i.toNatClampNeg) :: st) σ) : jK D M p l e R s m args below meth c Q n1 s1 pc L (.int i :: .ref q :: st) σ := by
  intro H locs ls hl hr hlo
  have kk := kk H locs ls hl hr hlo
  obtain ⟨h1, rfl⟩ := jdc_of (show jdc M pc .aaload 1 n = true from h)
  have hlt := jclam hin
  obtain ⟨-, -, a4, a3⟩ := (hr.2.2 q).2.2.1 hT.1 hT.2
  obtain ⟨ci, r, hc, hci, ht, g1, g2, g3⟩ := jref (hK := C.2.2.2.2.2.1) a4
  exact W.aald (v := jv D (va_rf (jG σ q i.toNatClampNeg))) (ty := .object r.1) C.1 C.2.1 a3 (g1 _ _) rfl (fun z => by cases z) (by rw [arrV_size]; exact hin) (by rw [arrV_read _ _ hlt]) rfl rfl h1 kk
theorem jRel.arq {σ' : jS} {H H' : Heap} (hr : jRel D σ s H) {q : Nat} (t1 : 30 ≤ jT σ q) (t2 : jT σ q < 50) (e1 : H'[jloc D q]? = some (arrV (jdA D (jT σ q)) (jN σ q) (fun j => jv D (va_rf (jG σ' q j))))) (e2 : H'.size = H.size) (e3 : ∀ x, x ≠ jloc D q → H'[x]? = H[x]?)
    (hT' : jT σ' = jT σ) (hN' : jN σ' = jN σ) (hI' : jI σ' = jI σ) (hR' : jR σ' = jR σ) (hA' : jA σ' = jA σ) (hx' : jnx σ' = jnx σ) (ho : ∀ b i, b ≠ q → jG σ' b i = jG σ b i) : jRel D σ' s H' := by
  obtain ⟨h1, h2, h3⟩ := hr
  refine ⟨by rw [e2, hx']; exact h1, by rw [hx']; exact h2, fun b => ?_⟩
  obtain ⟨b1, b2, b4, b3⟩ := (h3 q).2.2.1 t1 t2
  by_cases hbq : b = q
  · subst hbq
    refine ⟨fun ci c' hc' ht => ?_, fun u1 u2 => ?_, fun _ _ => ⟨b1, by rw [hx']; exact b2, by rw [hT']; exact b4, by rw [hT', hN']; exact e1⟩, fun t => ?_, ?_⟩
    · rw [hT'] at ht
      have hl11 : ci < 11 := (List.getElem?_eq_some_iff.mp hc').1
      omega
    · rw [hT'] at u2; omega
    · rw [hT'] at t; omega
    · rw [hT']; omega
  · refine (h3 b).kept (by rw [hT']) (by rw [hN']) (fun g => by rw [hI']) (fun g => by rw [hR']) (fun i => by rw [hA']) (fun i => ho b i hbq) (by rw [hx']; exact Nat.le_refl _) (fun hcase => e3 _ ?_) (fun x _ hx => e3 x (fun z => hx (by rw [z]; exact jloc_ge b1)))
    rcases hcase with ⟨c1, c2⟩ | ⟨c1, c2⟩
    · exact fun z => hbq (jloc_inj c1 b1 z)
    · exact fun z => absurd (jloc_ge (D := D) b1) (by rw [← z]; omega)
theorem jsG_o {σ : jS} {q i : Nat} {x : Option Nat} (b j : Nat) : jG (jsG σ q i x) b j = if b = q ∧ j = i then x else jG σ b j := rfl
theorem jsG_f {σ : jS} {q i : Nat} {x : Option Nat} : (fun j => jv D (va_rf (jG (jsG σ q i x) q j))) = updV (fun j => jv D (va_rf (jG σ q j))) i (jv D (va_rf x)) := by
  funext j
  rw [jsG_o]
  by_cases hj : j = i
  · simp [updV, hj]
  · simp [updV, hj]
theorem jo_aast (C : jCtx D M p s m args meth c) {a b : Nat} {k : Int} (h : jchk2 M pc 33 a b k n = true) {q x : Nat} {i : Int32} (hT : 30 ≤ jT σ q ∧ jT σ q < 50 ∧ jT σ x + 29 = jT σ q) (hin : ¬ (i < 0 ∨ jN σ q ≤ i.toNatClampNeg)) (kk : jK D M p l e R s m args below meth c Q n1 s1 n L st (jsG σ q i.toNatClampNeg (some x))) : jK D M p l e R s m args below meth c Q n1 s1 pc L (.ref x :: .int i :: .ref q :: st) σ := by
  intro H locs ls hl hr hlo
  obtain ⟨h1, rfl⟩ := jdc_of (show jdc M pc .aastore 1 n = true from h)
  have hlt := jclam hin
  obtain ⟨a1, -, a4, a3⟩ := (hr.2.2 q).2.2.1 hT.1 hT.2.1
  obtain ⟨ci, r, hc, hci, ht, g1, g2, g3⟩ := jref (hK := C.2.2.2.2.2.1) a4
  obtain ⟨-, -, cellV, q1, q2, q3, -⟩ := (hr.2.2 x).1 ci r hc (by omega)
  have hcls := (C.2.2.2.2.2.1.1 ci r hc).2
  obtain ⟨kA, comp, k1, k2, k3, -⟩ := g2
  have hcomp : comp = D.1 ci := Option.some.inj (k3.symm.trans hcls.1)
  subst hcomp
  obtain ⟨kC, hkC, -⟩ := hcls.2
  refine W.aast C.1 C.2.1 a3 (fun q h => by cases h) (fun h => by cases h) k1 k2 rfl hkC ⟨fun z => hin (Or.inl z), by rw [arrV_size]; exact hlt⟩ q1 (fun q h => by rw [q3] at h; cases h) (by rw [q2]; exact hkC) (by rw [q2]; exact va_assign hcls) rfl rfl h1 fun H' e1 e2 e3 => ?_
  refine kk H' _ ls hl (hr.arq (q := q) hT.1 hT.2.1 ?_ e2 e3 rfl rfl rfl rfl rfl rfl (fun b j hb => ?_)) (jlo hlo a1)
  · rw [e1, arrV_store, jsG_f]; rfl
  · rw [jsG_o, if_neg (fun z => hb z.1)]
theorem jo_alen (C : jCtx D M p s m args meth c) {a b : Nat} {k : Int} (h : jchk2 M pc 34 a b k n = true) {q : Nat} (hT : 20 ≤ jT σ q ∧ jT σ q ≤ 60) (kk : jK D M p l e R s m args below meth c Q n1 s1 n L (.int (Int32.ofNat (jN σ q)) :: st) σ) : jK D M p l e R s m args below meth c Q n1 s1 pc L (.ref q :: st) σ := by
  intro H locs ls hl hr hlo
  have kk := kk H locs ls hl hr hlo
  obtain ⟨h1, rfl⟩ := jdc_of (show jdc M pc .arraylength 1 n = true from h)
  obtain ⟨-, c2, c3, c4, c5⟩ := hr.2.2 q
  rcases c5 with c5 | c5 | c5 | ⟨c5, -, -⟩
  · obtain ⟨-, -, a3⟩ := c2 hT.1 (by omega)
    have hc : jT σ q = 20 ∨ jT σ q = 21 ∨ jT σ q = 22 := by omega
    rcases hc with hc | hc | hc <;> rw [hc] at a3
    · exact W.alen (n := Int32.ofNat (jN σ q)) C.1 C.2.1 a3 (jarr0 C.2.2.2.2.2.1 _ _) (by rw [arrV_size] <;> rfl) rfl rfl h1 kk
    · exact W.alen (n := Int32.ofNat (jN σ q)) C.1 C.2.1 a3 (jarr1 C.2.2.2.2.2.1 _ _) (by rw [arrV_size] <;> rfl) rfl rfl h1 kk
    · exact W.alen (n := Int32.ofNat (jN σ q)) C.1 C.2.1 a3 (jarr2 C.2.2.2.2.2.1 _ _) (by rw [arrV_size] <;> rfl) rfl rfl h1 kk
  · obtain ⟨-, -, a4, a3⟩ := c3 c5.1 c5.2
    obtain ⟨ci, r, hc, hci, ht, g1, g2, g3⟩ := jref (hK := C.2.2.2.2.2.1) a4
    exact W.alen (n := Int32.ofNat (jN σ q)) C.1 C.2.1 a3 (g1 _ _) (by rw [arrV_size] <;> rfl) rfl rfl h1 kk
  · obtain ⟨-, -, cell, a3, a4, a5, a6, a7⟩ := c4 c5
    exact W.alen (n := Int32.ofNat (jN σ q)) C.1 C.2.1 a3 a4 (by first | exact a6.2 | exact a6.2.symm) rfl rfl h1 kk
  · omega
/-- a new cell at the heap's end: the others stand -/
theorem jRel.new {σ' : jS} {H H' : Heap} (hr : jRel D σ s H) (z1 : H'.size = jloc D (jnx σ) + 1) (o1 : ∀ x, x < jloc D (jnx σ) → H'[x]? = H[x]?) (hx' : jnx σ' = jnx σ + 1)
    (ho : ∀ a, a ≠ jnx σ → jT σ' a = jT σ a ∧ jN σ' a = jN σ a ∧ (∀ g, jI σ' g a = jI σ g a) ∧ (∀ g, jR σ' g a = jR σ g a) ∧ (∀ i, jA σ' a i = jA σ a i) ∧ (∀ i, jG σ' a i = jG σ a i)) (hc : jcell D σ' s H' (jnx σ)) : jRel D σ' s H' := by
  obtain ⟨h1, h2, h3⟩ := hr
  refine ⟨by rw [z1, hx', jloc_s h2], by omega, fun a => ?_⟩
  by_cases ha : a = jnx σ
  · rw [ha]; exact hc
  · obtain ⟨p1, p2, p3, p4, p5, p6⟩ := ho a ha
    refine (h3 a).kept p1 p2 p3 p4 p5 p6 (by omega) (fun hcase => o1 _ ?_) (fun x hx _ => o1 x (by rw [← h1]; exact hx))
    rcases hcase with ⟨c1, c2⟩ | ⟨c1, c2⟩
    · exact jloc_lt c1 c2
    · exact Nat.lt_of_lt_of_le c2 (jloc_ge h2)
theorem jju {α : Type} (f : Nat → α) (a : Nat) (v : α) : ju1 f a v a = v ∧ ∀ b, b ≠ a → ju1 f a v b = f b := ⟨by simp [ju1], fun b hb => by simp [ju1, hb]⟩
theorem jo_new (C : jCtx D M p s m args meth c) {a b : Nat} {k : Int} (h : jchk2 M pc 35 a b k n = true) {r : vw_C} (hc : jcl[a]? = some r) (hn1 : n1 ≤ jnx σ) (hs1 : s1 ≤ jsl σ) (hRc : jnx σ - n1 + 1 ≤ R.cells) (hRs : jsl σ - s1 + r.2.2 ≤ R.slots) (kk : jK D M p l e R s m args below meth c Q n1 s1 n L (.ref (jnx σ) :: st) (jnO σ a r.2.2)) : jK D M p l e R s m args below meth c Q n1 s1 pc L st σ := by
  intro H locs ls hl hr hlo
  have h : (jdc M pc (.new b) 3 n && (match jcl[a]? with | some c => jwd k.toNat (.classLink (jown M) b c.1) | none => false)) = true := h
  rw [hc, Bool.and_eq_true] at h
  obtain ⟨h1, rfl⟩ := jdc_of h.1
  obtain ⟨hx, hb, hml, hown, hts, hK, hin⟩ := C
  obtain ⟨w1, w2, w3⟩ := jcl_ws hc
  have hKn := hK.1 a r hc
  refine W.newcK hx hb hown (hts _ (jw_of h.2 rfl)) (hts _ (List.mem_filter.mpr ⟨w2, rfl⟩)) (hts _ (List.mem_filter.mpr ⟨w3, rfl⟩)) rfl h1 hRc hRs hKn.2.1 hr.1 fun H1 kC hkC e1 z1 o1 => ?_
  have e : jnx σ - n1 + 1 = jnx (jnO σ a r.2.2) - n1 := by show _ = jnx σ + 1 - n1; omega
  have e' : jsl σ - s1 + r.2.2 = jsl (jnO σ a r.2.2) - s1 := by show _ = jsl σ + r.2.2 - s1; omega
  rw [e, e']
  have hl11 : a < 11 := (List.getElem?_eq_some_iff.mp hc).1
  have hTn : jT (jnO σ a r.2.2) (jnx σ) = 1 + a := (jju _ _ _).1
  refine kk H1 locs ls hl (hr.new z1 o1 rfl (fun y hy => ⟨(jju _ _ _).2 y hy, rfl, fun g => ?_, fun g => ?_, fun i => rfl, fun i => rfl⟩) ⟨fun ci c' hc' ht => ?_, fun t1 t2 => ?_, fun t1 t2 => ?_, fun t => ?_, ?_⟩) hlo
  · show jz2 (jI σ) (jnx σ) 0 g y = _
    simp [jz2, hy]
  · show jz2 (jR σ) (jnx σ) none g y = _
    simp [jz2, hy]
  · rw [hTn] at ht
    have hci : ci = a := by omega
    subst hci
    have : c' = r := Option.some.inj (hc'.symm.trans hc)
    subst this
    refine ⟨hr.2.1, Nat.lt_succ_self _, (u_born (fun k => jty (64 * ci + k)) hts w1 hKn hkC e1 (jcl_ty hc)).to (fun j hj => ?_)⟩
    have h64 := jcl_64 hc
    have hq := jty_ok (a := 64 * ci + j) (r := c') (by rw [show (64 * ci + j) / 64 = ci by omega]; exact hc)
    have hI0 : jI (jnO σ ci c'.2.2) (64 * ci + j) (jnx σ) = 0 := by show jz2 (jI σ) (jnx σ) 0 _ _ = _; simp [jz2]
    have hR0 : jR (jnO σ ci c'.2.2) (64 * ci + j) (jnx σ) = none := by show jz2 (jR σ) (jnx σ) none _ _ = _; simp [jz2]
    show defaultValue (jty (64 * ci + j)) = jv D (jfv (jnO σ ci c'.2.2) (64 * ci + j) (jnx σ))
    unfold jfv
    rw [hI0, hR0]
    rcases hq with hq | hq | hq
    · rw [if_neg (by unfold jkd; rw [hq]; decide), hq]; rfl
    · rw [if_neg (by unfold jkd; rw [hq]; decide), hq]; rfl
    · rw [if_pos (by unfold jkd; exact hq)]
      cases ht : jty (64 * ci + j) with
      | object C => rfl
      | array C => rfl
      | _ => rw [ht] at hq; cases hq
  · rw [hTn] at t1; omega
  · rw [hTn] at t1; omega
  · rw [hTn] at t; omega
  · rw [hTn]; omega
theorem jarw : [ArrayType.int, .byte, .boolean].all (fun t => decide (Jvm.Cond.arrayClass (newarray.typeOf t) ∈ lw_tbl)) = true := by decide +kernel
theorem jarw_of {a : Nat} (ha : a < 3) : Jvm.Cond.arrayClass (newarray.typeOf (jat a)) ∈ jw := by
  have h := List.all_eq_true.mp jarw
  have ha : a = 0 ∨ a = 1 ∨ a = 2 := by omega
  refine List.mem_filter.mpr ⟨of_decide_eq_true (h (jat a) ?_), rfl⟩
  rcases ha with rfl | rfl | rfl
  · exact List.mem_cons_self
  · exact List.mem_cons_of_mem _ List.mem_cons_self
  · exact List.mem_cons_of_mem _ (List.mem_cons_of_mem _ List.mem_cons_self)
theorem jo_newa (C : jCtx D M p s m args meth c) {a b : Nat} {k : Int} (h : jchk2 M pc 36 a b k n = true) {x : Int32} (hx0 : ¬ (x < 0 ∨ 1000000 < x.toNatClampNeg)) (hn1 : n1 ≤ jnx σ) (hs1 : s1 ≤ jsl σ) (hRc : jnx σ - n1 + 1 ≤ R.cells) (hRs : jsl σ - s1 + x.toNatClampNeg ≤ R.slots) (kk : jK D M p l e R s m args below meth c Q n1 s1 n L (.ref (jnx σ) :: st) (jnA σ a x.toNatClampNeg)) : jK D M p l e R s m args below meth c Q n1 s1 pc L (.int x :: st) σ := by
  intro H locs ls hl hr hlo
  have h : (jdc M pc (.newarray (jat a)) 2 n && decide (a < 3)) = true := h
  rw [Bool.and_eq_true] at h
  have ha : a < 3 := of_decide_eq_true h.2
  obtain ⟨h1, rfl⟩ := jdc_of h.1
  obtain ⟨hx, hb, hml, hown, hts, hK, hin⟩ := C
  have hbytes : x.toNatClampNeg * componentBytes (newarray.typeOf (jat a)) ≤ 536870912 := by
    have ha : a = 0 ∨ a = 1 ∨ a = 2 := by omega
    have : componentBytes (newarray.typeOf (jat a)) ≤ 8 := by rcases ha with rfl | rfl | rfl <;> decide
    have h2 : x.toNatClampNeg ≤ 1000000 := Nat.not_lt.mp fun q => hx0 (Or.inr q)
    exact Nat.le_trans (Nat.mul_le_mul h2 this) (by decide)
  have hdef : defaultValue (newarray.typeOf (jat a)) = .int 0 := by
    have ha : a = 0 ∨ a = 1 ∨ a = 2 := by omega
    rcases ha with rfl | rfl | rfl <;> rfl
  refine va_newaK hx hb (hts _ (jarw_of ha)) rfl h1 rfl (fun q => hx0 (Or.inl q)) rfl hbytes hRc hRs hr.1 fun H1 cA e1 z1 o1 hAr hNm => ?_
  have hcA : cA = jdA D (20 + a) := Option.some.inj (hNm.symm.trans (hK.2.1 a ha).2)
  subst hcA
  have e : jnx σ - n1 + 1 = jnx (jnA σ a x.toNatClampNeg) - n1 := by show _ = jnx σ + 1 - n1; omega
  have e' : jsl σ - s1 + x.toNatClampNeg = jsl (jnA σ a x.toNatClampNeg) - s1 := by show _ = jsl σ + x.toNatClampNeg - s1; omega
  rw [e, e']
  have hTn : jT (jnA σ a x.toNatClampNeg) (jnx σ) = 20 + a := (jju _ _ _).1
  have hNn : jN (jnA σ a x.toNatClampNeg) (jnx σ) = x.toNatClampNeg := (jju _ _ _).1
  refine kk H1 locs ls hl (hr.new z1 o1 rfl (fun y hy => ⟨(jju _ _ _).2 y hy, (jju _ _ _).2 y hy, fun g => rfl, fun g => rfl, fun i => ?_, fun i => rfl⟩) ⟨fun ci c' hc' ht => ?_, fun t1 t2 => ⟨hr.2.1, Nat.lt_succ_self _, ?_⟩, fun t1 t2 => ?_, fun t => ?_, ?_⟩) hlo
  · show jz1 (jA σ) (jnx σ) 0 y i = _
    simp [jz1, hy]
  · rw [hTn] at ht
    have hl11 : ci < 11 := (List.getElem?_eq_some_iff.mp hc').1
    omega
  · rw [e1, hTn, hNn, hdef]
    have : (fun j => Value.int (jA (jnA σ a x.toNatClampNeg) (jnx σ) j)) = (fun _ => Value.int 0) := by
      funext j
      show Value.int (jz1 (jA σ) (jnx σ) 0 (jnx σ) j) = _
      simp [jz1]
    rw [this]
  · rw [hTn] at t1; omega
  · rw [hTn] at t; omega
  · rw [hTn]; omega
theorem jo_newq (C : jCtx D M p s m args meth c) {a b : Nat} {k : Int} (h : jchk2 M pc 37 a b k n = true) {x : Int32} (hx0 : ¬ (x < 0 ∨ 1000000 < x.toNatClampNeg)) (hn1 : n1 ≤ jnx σ) (hs1 : s1 ≤ jsl σ) (hRc : jnx σ - n1 + 1 ≤ R.cells) (hRs : jsl σ - s1 + x.toNatClampNeg ≤ R.slots) (kk : jK D M p l e R s m args below meth c Q n1 s1 n L (.ref (jnx σ) :: st) (jnG σ a x.toNatClampNeg)) : jK D M p l e R s m args below meth c Q n1 s1 pc L (.int x :: st) σ := by
  intro H locs ls hl hr hlo
  have h : (jdc M pc (.anewarray b) 3 n && decide (a = 4 ∨ a = 5) && (match jcl[a]? with | some c => jwd k.toNat (.classLink (jown M) b c.1) | none => false)) = true := h
  rw [Bool.and_eq_true, Bool.and_eq_true] at h
  obtain ⟨⟨hd, ha⟩, hw⟩ := h
  have ha : a = 4 ∨ a = 5 := of_decide_eq_true ha
  obtain ⟨h1, rfl⟩ := jdc_of hd
  obtain ⟨hx, hb, hml, hown, hts, hK, hin⟩ := C
  obtain ⟨r, hc⟩ : ∃ r, jcl[a]? = some r := by rcases ha with rfl | rfl <;> exact ⟨_, rfl⟩
  rw [hc] at hw
  obtain ⟨g1, g2, g3⟩ := hK.2.2.1 a r hc ha
  refine W.anew hx hb hown (hts _ (jw_of hw rfl)) (va_AO.use g3) rfl h1 rfl (fun q => hx0 (Or.inl q)) (Nat.le_trans (Nat.mul_le_mul_right 4 (Nat.not_lt.mp fun q => hx0 (Or.inr q))) (by decide)) hRc hRs fun cA kA comp f1 f2 f3 f4 => ?_
  have hcA : cA = jdA D (30 + a) := by
    obtain ⟨_, _, _, _, _, k4⟩ := g2
    exact Option.some.inj (f1.symm.trans k4)
  subst hcA
  generalize hH1 : H.push ({ cls := jdA D (30 + a), slots := Array.replicate x.toNatClampNeg .null, vm := .none } : Cell) = H1
  have z1 : H1.size = jloc D (jnx σ) + 1 := by rw [← hH1, Array.size_push, hr.1]
  have e1 : H1[jloc D (jnx σ)]? = some (arrV (jdA D (30 + a)) x.toNatClampNeg (fun _ => .null)) := by rw [← hr.1, ← hH1, Array.getElem?_push_size, ← arrV_new]
  have o1 : ∀ q : Nat, q < jloc D (jnx σ) → H1[q]? = H[q]? := fun q hq => by rw [← hH1, Array.getElem?_push, if_neg (Nat.ne_of_lt (by rw [hr.1]; exact hq))]
  have e : jnx σ - n1 + 1 = jnx (jnG σ a x.toNatClampNeg) - n1 := by show _ = jnx σ + 1 - n1; omega
  have e' : jsl σ - s1 + x.toNatClampNeg = jsl (jnG σ a x.toNatClampNeg) - s1 := by show _ = jsl σ + x.toNatClampNeg - s1; omega
  rw [e, e', hr.1]
  have hTn : jT (jnG σ a x.toNatClampNeg) (jnx σ) = 30 + a := (jju _ _ _).1
  have hNn : jN (jnG σ a x.toNatClampNeg) (jnx σ) = x.toNatClampNeg := (jju _ _ _).1
  refine kk H1 locs ls hl (hr.new z1 o1 rfl (fun y hy => ⟨(jju _ _ _).2 y hy, (jju _ _ _).2 y hy, fun g => rfl, fun g => rfl, fun i => rfl, fun i => ?_⟩) ⟨fun ci c' hc' ht => ?_, fun t1 t2 => ?_, fun t1 t2 => ⟨hr.2.1, Nat.lt_succ_self _, by rw [hTn]; omega, ?_⟩, fun t => ?_, ?_⟩) hlo
  · show jz1 (jG σ) (jnx σ) none y i = _
    simp [jz1, hy]
  · rw [hTn] at ht
    have hl11 : ci < 11 := (List.getElem?_eq_some_iff.mp hc').1
    omega
  · rw [hTn] at t2; omega
  · rw [e1, hTn, hNn]
    have : (fun j => jv D (va_rf (jG (jnG σ a x.toNatClampNeg) (jnx σ) j))) = (fun _ => Value.null) := by
      funext j
      show jv D (va_rf (jz1 (jG σ) (jnx σ) none (jnx σ) j)) = _
      simp [jz1, va_rf, jv]
    rw [this]
  · rw [hTn] at t; omega
  · rw [hTn]; omega
end JA
end
section
/-! one step, by its number -/
section JP
variable {D : jD} {M : Nat} {p : Program} {l : Launch} {e : Env} {R : Room} {s : State} {m : MethodId} {args : Array Value} {below : List Frame} {meth : Method} {c : Code} {Q : State → Prop} {n1 s1 pc n : Nat} {L : jL} {st : List Value} {σ : jS}
theorem jop25 {op : Nat} (h : op < 25) : op = 0 ∨ op = 1 ∨ op = 2 ∨ op = 3 ∨ op = 4 ∨ op = 5 ∨ op = 6 ∨ op = 7 ∨ op = 8 ∨ op = 9 ∨ op = 10 ∨ op = 11 ∨ op = 12 ∨ op = 13 ∨ op = 14 ∨ op = 15 ∨ op = 16 ∨ op = 17 ∨ op = 18 ∨ op = 19 ∨ op = 20 ∨ op = 21 ∨ op = 22 ∨ op = 23 ∨ op = 24 := by omega
theorem jop38 {op : Nat} (h1 : ¬ op < 25) (h : op < 38) : op = 25 ∨ op = 26 ∨ op = 27 ∨ op = 28 ∨ op = 29 ∨ op = 30 ∨ op = 31 ∨ op = 32 ∨ op = 33 ∨ op = 34 ∨ op = 35 ∨ op = 36 ∨ op = 37 := by omega
theorem jstep1 (C : jCtx D M p s m args meth c) {d op a b : Nat} {k : Int} (hop : op < 25) (h : jchk1 M pc op a b k n = true) {o : jO} (ho : jcmd1 d op a b k n L st σ = some o) (kk : ∀ q, o = .inl q → jK D M p l e R s m args below meth c Q n1 s1 q.1 q.2.1 q.2.2.1 q.2.2.2) : jK D M p l e R s m args below meth c Q n1 s1 pc L st σ := by
  rcases jop25 hop with rfl | rfl | rfl | rfl | rfl | rfl | rfl | rfl | rfl | rfl | rfl | rfl | rfl | rfl | rfl | rfl | rfl | rfl | rfl | rfl | rfl | rfl | rfl | rfl | rfl <;> simp (decide := true) only [jcmd1, reduceIte, jgo] at ho
  · cases ho; exact jo_const C h (kk _ rfl)
  · split at ho
    · rename_i x hx; cases ho; exact jo_iload C h hx (kk _ rfl)
    · cases ho
  · split at ho
    · rename_i x hx; cases ho; exact jo_aload C h hx (kk _ rfl)
    · rename_i hx; cases ho; exact jo_aloadN C h hx (kk _ rfl)
    · cases ho
  · split at ho
    · rename_i x hx; cases ho; exact jo_lload C h hx (kk _ rfl)
    · cases ho
  · split at ho
    · split at ho
      · rename_i hx; cases ho; exact jo_istore C h hx (kk _ rfl)
      · cases ho
    · cases ho
  · split at ho
    · split at ho
      · rename_i hx; cases ho; exact jo_astore C h hx (kk _ rfl)
      · cases ho
    · split at ho
      · rename_i hx; cases ho; exact jo_astoreN C h hx (kk _ rfl)
      · cases ho
    · cases ho
  · split at ho
    · split at ho
      · rename_i hx; cases ho; exact jo_lstore C h hx (kk _ rfl)
      · cases ho
    · cases ho
  · split at ho
    · rename_i x hx; cases ho; exact jo_iinc C h hx (kk _ rfl)
    · cases ho
  · split at ho
    · split at ho
      · cases ho
      · rename_i hx; cases ho; exact jo_bin C h hx (kk _ rfl)
    · cases ho
  · split at ho
    · cases ho; exact jo_ineg C h (kk _ rfl)
    · cases ho
  · split at ho
    · cases ho; exact jo_i2l C h (kk _ rfl)
    · cases ho
  · split at ho
    · cases ho; exact jo_l2i C h (kk _ rfl)
    · cases ho
  · cases ho; exact jo_lconst C h (kk _ rfl)
  · split at ho
    · cases ho; exact jo_lmul C h (kk _ rfl)
    · cases ho
  · split at ho
    · cases ho; exact jo_lcmp C h (kk _ rfl)
    · cases ho
  · split at ho
    · cases ho; exact jo_i2b C h (kk _ rfl)
    · cases ho
  · split at ho
    · split at ho
      · rename_i hx; cases ho; exact jo_dup C h hx (kk _ rfl)
      · cases ho
    · cases ho
  · split at ho
    · split at ho
      · rename_i hx; cases ho; exact jo_dup2 C h hx (kk _ rfl)
      · cases ho
    · cases ho
  · split at ho
    · split at ho
      · rename_i hx; cases ho; exact jo_pop C h hx (kk _ rfl)
      · cases ho
    · cases ho
  · split at ho
    · split at ho
      · rename_i hx; cases ho; exact jo_if C h (fun _ => kk _ rfl) (fun z => absurd hx z)
      · rename_i hx; cases ho; exact jo_if C h (fun z => absurd z hx) (fun _ => kk _ rfl)
    · cases ho
  · split at ho
    · split at ho
      · rename_i hx; cases ho; exact jo_icmp C h (fun _ => kk _ rfl) (fun z => absurd hx z)
      · rename_i hx; cases ho; exact jo_icmp C h (fun z => absurd z hx) (fun _ => kk _ rfl)
    · cases ho
  · cases ho; exact jo_goto C h (kk _ rfl)
  · split at ho
    · cases ho; exact jo_ifnullN C h (kk _ rfl)
    · cases ho; exact jo_ifnull C h (kk _ rfl)
    · cases ho
  · split at ho
    · cases ho; exact jo_ifnnN C h (kk _ rfl)
    · cases ho; exact jo_ifnn C h (kk _ rfl)
    · cases ho
  · cases ho; exact jo_null C h (kk _ rfl)
theorem jput_step (C : jCtx D M p s m args meth c) {op a b : Nat} {k : Int} (hop : op = 26 ∨ op = 27) (h : jchk2 M pc op a b k n = true) {o : jO} (ho : jput n a L st σ = some o) (kk : ∀ q, o = .inl q → jK D M p l e R s m args below meth c Q n1 s1 q.1 q.2.1 q.2.2.1 q.2.2.2) : jK D M p l e R s m args below meth c Q n1 s1 pc L st σ := by
  simp only [jput, jgo] at ho
  split at ho
  · split at ho
    · rename_i hx; cases ho; exact jo_putI C hop h hx (kk _ rfl)
    · cases ho
  · split at ho
    · rename_i x _ _ hx; cases ho; exact jo_putR (x := some x) C hop h hx (kk _ rfl)
    · cases ho
  · split at ho
    · rename_i hx; cases ho; exact jo_putR (x := none) C hop h hx (kk _ rfl)
    · cases ho
  · cases ho
theorem jstep2 (C : jCtx D M p s m args meth c) {d op a b : Nat} {k : Int} (h25 : ¬ op < 25) (hop : op < 38) (h : jchk2 M pc op a b k n = true) (hn1 : n1 ≤ jnx σ) (hs1 : s1 ≤ jsl σ) {o : jO} (ho : jcmd2 d op a b k n L st σ = some o) (hR : ∀ q, o = .inl q → jnx q.2.2.2 - n1 ≤ R.cells ∧ jsl q.2.2.2 - s1 ≤ R.slots) (kk : ∀ q, o = .inl q → jK D M p l e R s m args below meth c Q n1 s1 q.1 q.2.1 q.2.2.1 q.2.2.2) : jK D M p l e R s m args below meth c Q n1 s1 pc L st σ := by
  rcases jop38 h25 hop with rfl | rfl | rfl | rfl | rfl | rfl | rfl | rfl | rfl | rfl | rfl | rfl | rfl <;> simp (decide := true) only [jcmd2, reduceIte, jgo] at ho
  · split at ho
    · split at ho
      · rename_i hx; cases ho; exact jo_get C h hx (kk _ rfl)
      · cases ho
    · cases ho
  · exact jput_step C (Or.inl rfl) h ho kk
  · exact jput_step C (Or.inr rfl) h ho kk
  · split at ho
    · split at ho
      · rename_i hx
        split at ho
        · cases ho
        · rename_i hy; cases ho; exact jo_iald C h hx hy (kk _ rfl)
      · cases ho
    · cases ho
  · split at ho
    · split at ho
      · rename_i hx
        split at ho
        · cases ho
        · rename_i hy; cases ho; exact jo_iast C h hx hy (kk _ rfl)
      · cases ho
    · cases ho
  · split at ho
    · split at ho
      · rename_i hx
        split at ho
        · cases ho
        · rename_i hy; cases ho; exact jo_bald C h hx hy (kk _ rfl)
      · cases ho
    · cases ho
  · split at ho
    · split at ho
      · cases ho
      · rename_i hy
        split at ho
        · rename_i hx; cases ho; exact jo_bast C h hx hy (kk _ rfl)
        · split at ho
          · rename_i hx; cases ho; exact jo_zast C h hx hy (kk _ rfl)
          · cases ho
    · cases ho
  · split at ho
    · split at ho
      · rename_i hx
        split at ho
        · cases ho
        · rename_i hy; cases ho; exact jo_aald C h hx hy (kk _ rfl)
      · cases ho
    · cases ho
  · split at ho
    · split at ho
      · rename_i hx
        split at ho
        · cases ho
        · rename_i hy; cases ho; exact jo_aast C h hx hy (kk _ rfl)
      · cases ho
    · cases ho
  · split at ho
    · split at ho
      · rename_i hx; cases ho; exact jo_alen C h hx (kk _ rfl)
      · cases ho
    · cases ho
  · split at ho
    · rename_i r hc
      cases ho
      have h2 := hR _ rfl
      have e1 : jnx (jnO σ a r.2.2) = jnx σ + 1 := rfl
      have e2 : jsl (jnO σ a r.2.2) = jsl σ + r.2.2 := rfl
      simp only [e1, e2] at h2
      exact jo_new C h hc hn1 hs1 (by omega) (by omega) (kk _ rfl)
    · cases ho
  · split at ho
    · rename_i x _
      split at ho
      · cases ho
      · rename_i hx
        cases ho
        have h2 := hR _ rfl
        have e1 : jnx (jnA σ a x.toNatClampNeg) = jnx σ + 1 := rfl
        have e2 : jsl (jnA σ a x.toNatClampNeg) = jsl σ + x.toNatClampNeg := rfl
        simp only [e1, e2] at h2
        exact jo_newa C h hx hn1 hs1 (by omega) (by omega) (kk _ rfl)
    · cases ho
  · split at ho
    · rename_i x _
      split at ho
      · cases ho
      · rename_i hx
        cases ho
        have h2 := hR _ rfl
        have e1 : jnx (jnG σ a x.toNatClampNeg) = jnx σ + 1 := rfl
        have e2 : jsl (jnG σ a x.toNatClampNeg) = jsl σ + x.toNatClampNeg := rfl
        simp only [e1, e2] at h2
        exact jo_newq C h hx hn1 hs1 (by omega) (by omega) (kk _ rfl)
    · cases ho
/-! what is made only grows -/
theorem jcmd1_m {d op a b : Nat} {k : Int} (hop : op < 25) {q : Nat × jL × List Value × jS} (h : jcmd1 d op a b k n L st σ = some (.inl q)) : q.2.2.2 = σ := by
  rcases jop25 hop with rfl | rfl | rfl | rfl | rfl | rfl | rfl | rfl | rfl | rfl | rfl | rfl | rfl | rfl | rfl | rfl | rfl | rfl | rfl | rfl | rfl | rfl | rfl | rfl | rfl <;> simp (decide := true) only [jcmd1, reduceIte, jgo] at h <;> (repeat' (split at h)) <;> first | (cases h; rfl) | cases h
theorem jput_m {a : Nat} {q : Nat × jL × List Value × jS} (h : jput n a L st σ = some (.inl q)) : jnx q.2.2.2 = jnx σ ∧ jsl q.2.2.2 = jsl σ := by
  unfold jput at h
  repeat' (split at h)
  all_goals first | (simp only [jgo] at h; cases h; exact ⟨rfl, rfl⟩) | cases h
theorem jcmd2_m {d op a b : Nat} {k : Int} (h25 : ¬ op < 25) (hop : op < 38) {q : Nat × jL × List Value × jS} (h : jcmd2 d op a b k n L st σ = some (.inl q)) : jnx σ ≤ jnx q.2.2.2 ∧ jsl σ ≤ jsl q.2.2.2 := by
  rcases jop38 h25 hop with rfl | rfl | rfl | rfl | rfl | rfl | rfl | rfl | rfl | rfl | rfl | rfl | rfl <;> simp (decide := true) only [jcmd2, reduceIte, jgo] at h
  · (repeat' (split at h)) <;> first | (cases h; exact ⟨Nat.le_refl _, Nat.le_refl _⟩) | cases h
  · have h2 := jput_m h; exact ⟨Nat.le_of_eq h2.1.symm, Nat.le_of_eq h2.2.symm⟩
  · have h2 := jput_m h; exact ⟨Nat.le_of_eq h2.1.symm, Nat.le_of_eq h2.2.symm⟩
  all_goals (repeat' (split at h)) <;> first | (cases h; exact ⟨Nat.le_refl _, Nat.le_refl _⟩) | (cases h; exact ⟨Nat.le_succ _, Nat.le_add_right _ _⟩) | cases h
theorem jcall_m {a : Nat} {v : Bool} {q : Nat × jL × List Value × jS} (h : jcall a n v st σ = some (.inl q)) : False := by
  unfold jcall at h
  repeat' (split at h)
  all_goals cases h
theorem jop52 {op : Nat} (h1 : ¬ op < 38) : op = 38 ∨ op = 39 ∨ op = 40 ∨ op = 41 ∨ op = 42 ∨ op = 43 ∨ op = 44 ∨ op = 45 ∨ op = 46 ∨ op = 47 ∨ op = 48 ∨ op = 49 ∨ op = 50 ∨ op = 51 ∨ 51 < op := by omega
theorem jcmd3_big {d op a b : Nat} {k : Int} (h51 : 51 < op) : jcmd3 d op a b k n L st σ = none := by
  unfold jcmd3
  rw [if_neg (by omega), if_neg (by omega), if_neg (by omega), if_neg (by omega), if_neg (by omega), if_neg (by omega), if_neg (by omega), if_neg (by omega), if_neg (by omega), if_neg (by omega), if_neg (by omega), if_neg (by omega), if_neg (by omega), if_neg (by omega)]
theorem jcmd3_m {d op a b : Nat} {k : Int} (h38 : ¬ op < 38) {q : Nat × jL × List Value × jS} (h : jcmd3 d op a b k n L st σ = some (.inl q)) : q.2.2.2 = σ := by
  rcases jop52 h38 with rfl | rfl | rfl | rfl | rfl | rfl | rfl | rfl | rfl | rfl | rfl | rfl | rfl | rfl | h51
  case inr.inr.inr.inr.inr.inr.inr.inr.inr.inr.inr.inr.inr.inr => rw [jcmd3_big h51] at h; cases h
  all_goals simp (decide := true) only [jcmd3, reduceIte, jgo] at h
  all_goals first | exact (jcall_m h).elim | ((repeat' (split at h)) <;> first | (cases h; rfl) | cases h)
theorem jop64 {op : Nat} (h1 : ¬ op < 52) : op = 52 ∨ op = 53 ∨ op = 54 ∨ op = 55 ∨ op = 56 ∨ op = 57 ∨ op = 58 ∨ op = 59 ∨ op = 60 ∨ op = 61 ∨ op = 62 ∨ op = 63 ∨ 63 < op := by omega
theorem jcmd4_big {d op a b : Nat} {k : Int} (h63 : 63 < op) : jcmd4 d op a b k n L st σ = none := by
  unfold jcmd4
  rw [if_neg (by omega), if_neg (by omega), if_neg (by omega), if_neg (by omega), if_neg (by omega), if_neg (by omega), if_neg (by omega), if_neg (by omega), if_neg (by omega), if_neg (by omega), if_neg (by omega), if_neg (by omega)]
theorem jcmd4_m {d op a b : Nat} {k : Int} (h52 : ¬ op < 52) {q : Nat × jL × List Value × jS} (h : jcmd4 d op a b k n L st σ = some (.inl q)) : jnx σ ≤ jnx q.2.2.2 ∧ jsl σ ≤ jsl q.2.2.2 := by
  rcases jop64 h52 with rfl | rfl | rfl | rfl | rfl | rfl | rfl | rfl | rfl | rfl | rfl | rfl | h63
  case inr.inr.inr.inr.inr.inr.inr.inr.inr.inr.inr.inr => rw [jcmd4_big h63] at h; cases h
  all_goals simp (decide := true) only [jcmd4, reduceIte, jgo] at h
  all_goals (repeat' (split at h)) <;> first | (cases h; exact ⟨Nat.le_refl _, Nat.le_refl _⟩) | exact (jcall_m h).elim | cases h
theorem jcmd_m {d : Nat} {x : jE} {q : Nat × jL × List Value × jS} (h : jcmd d x L st σ = some (.inl q)) : jnx σ ≤ jnx q.2.2.2 ∧ jsl σ ≤ jsl q.2.2.2 := by
  unfold jcmd at h
  split at h
  · rename_i h25
    rw [jcmd1_m h25 h]; exact ⟨Nat.le_refl _, Nat.le_refl _⟩
  · rename_i h25
    split at h
    · rename_i h38
      exact jcmd2_m h25 h38 h
    · rename_i h38
      split at h
      · rw [jcmd3_m h38 h]; exact ⟨Nat.le_refl _, Nat.le_refl _⟩
      · rename_i h52
        exact jcmd4_m h52 h
theorem jrn_m (f : Nat) : ∀ (d M pc : Nat) (L : jL) (st : List Value) (σ : jS) (r : Option Value × jS), jrn f d M pc L st σ = some r → jnx σ ≤ jnx r.2 ∧ jsl σ ≤ jsl r.2 := by
  induction f with
  | zero => intro d M pc L st σ r h; cases h
  | succ f ih =>
    intro d M pc L st σ r h
    rw [jrn_s] at h
    rcases hc : jcmd d (jcode M pc) L st σ with _ | q | v | q
    · rw [hc] at h; cases h
    · rw [hc] at h
      have h1 := jcmd_m hc
      have h2 := ih _ _ _ _ _ _ _ h
      omega
    · rw [hc] at h
      cases h
      exact ⟨Nat.le_refl _, Nat.le_refl _⟩
    · rw [hc] at h
      cases d with
      | zero => cases h
      | succ d =>
        obtain ⟨z, h1, h2⟩ := Option.bind_eq_some_iff.mp h
        have g1 := ih _ _ _ _ _ _ _ h1
        have g2 := ih _ _ _ _ _ _ _ h2
        omega
end JP
end
section
/-! calls, switches -/
def jws (M : Nat) : List Jvm.Cond := Jvm.Cond.code (jget M).1 (jbs M) (jml M) (jret M) :: jw
def jPc (D : jD) (as : List Value) (σ : jS) : Array Value → State → Prop := fun v U => v = (as.map (jv D)).toArray ∧ jRel D σ U U.heap ∧ jKn D U
def jQc (D : jD) (r : Option Value) (σ' : jS) : Array Value → State → Outcome → State → Prop := fun _ _ oc t => oc = .returned (r.map (jv D)) ∧ jRel D σ' t t.heap
def jrm (d mc ms : Nat) : Jvm.Room := { frames := d, cells := mc, slots := ms, locals := 36 * d }
def jMet (D : jD) (l : Launch) (d M : Nat) (as : List Value) (σ : jS) (r : Option Value) (σ' : jS) : Prop :=
  Met l (jget M).1 (jws M) (jrm d (jnx σ' - jnx σ) (jsl σ' - jsl σ)) (jPc D as σ) (jQc D r σ') (jnx σ' - jnx σ) (jsl σ' - jsl σ) (fun q => jn0 D ≤ q)
theorem jmk_of {M : Nat} (h : jmk M = true) : Jvm.Cond.code (jget M).1 (jbs M) (jml M) (jret M) ∈ jw ∧ Jvm.Cond.initialized (jown M) ∈ jw ∧ (jown M ≠ "java/lang/invoke/MethodHandle" ∧ jown M ≠ "java/lang/invoke/VarHandle") ∧ jml M ≤ 17 := by
  unfold jmk at h
  simp only [Bool.and_eq_true, decide_eq_true_eq] at h
  exact ⟨jw_of h.1.1.1 rfl, jw_of h.1.1.2 rfl, h.1.2, h.2⟩
theorem jGood {M : Nat} (h : jmk M = true) : GoodIn jw (jws M) := by
  intro w hw
  rcases List.mem_cons.mp hw with rfl | hw
  · exact ⟨(jmk_of h).1, jw_good (jmk_of h).1⟩
  · exact ⟨hw, jw_good hw⟩
section JC
variable {D : jD} {M : Nat} {p : Program} {l : Launch} {e : Env} {R : Room} {s : State} {m : MethodId} {args : Array Value} {below : List Frame} {meth : Method} {c : Code} {Q : State → Prop} {n1 s1 pc n : Nat} {L : jL} {st : List Value} {σ σ1 : jS} {r : Option Value}
theorem jo_run {H : Heap} {locs : List Loc} {cells slots mc ms : Nat} {ls : Array Slot} {st0 rest : List Value} {av : Array Value} (hr : va_Run p l e R s m args below meth c H locs cells slots mc ms (F0 m pc ls st0) rest (jQc D r σ1 av) (fun q => jn0 D ≤ q)) (hlo : ∀ q ∈ locs, jn0 D ≤ q.base)
    (kk : ∀ (H1 : Heap) (locs1 : List Loc), jRel D σ1 s H1 → (∀ q ∈ locs1, jn0 D ≤ q.base) → W p l e R s m args below meth c H1 locs1 (cells + mc) (slots + ms) Q (F0 m (pc + 3) ls ((r.map (jv D)).toList ++ rest))) : W p l e R s m args below meth c H locs cells slots Q (F0 m pc ls st0) := by
  intro T hT X
  obtain ⟨v, st₀, t, T', L, h0, X', hL, e1, e2, ⟨hv, hrel⟩, st⟩ := hr T hT X
  cases hv
  have hal : t.vm.Alike s.vm := by rw [← e2]; exact X'.warmed.alike.symm
  obtain ⟨t2, a1, b1⟩ := kk T'.heap (locs ++ L) (by rw [e1]; exact hrel.moved hal) (fun q hq => by
    rcases List.mem_append.mp hq with h | h
    · exact hlo q h
    · exact hL q h) T' rfl X'
  exact ⟨t2, st t2 a1, b1⟩
theorem jPc_blind (as : List Value) : FrameBlind (jPc D as σ) := by
  intro a U g mk ⟨h1, h2, h3⟩
  exact ⟨h1, jRel.moved (u := U) (U := U.calling g mk a) (Vm.Alike.refl U.vm) h2, jKn.same (u := U) (U := U.calling g mk a) rfl h3⟩
theorem jPc_in {as : List Value} {H : Heap} (hK : jKn D s) (hr : jRel D σ s H) : ∀ U : State, U.heap = H → s.WarmedH U.vm → jPc D as σ (as.map (jv D)).toArray U := by
  intro U hU hW
  exact ⟨rfl, by rw [hU]; exact hr.moved hW.alike, hK.warm hW⟩
theorem jroom {g : JFrame} (h : g.monitorRoom = 0) {rest : List Value} (hc : jcs rest ≤ 8) : 2 * g.monitorRoom + ((rest.map (jv D)).map fun v => v.category).sum ≤ 8 := by
  rw [h, jcs_sum]; omega
theorem jst_split {na : Nat} {as rest : List Value} (h1 : as = (st.take na).reverse) (h2 : rest = st.drop na) : st.map (jv D) = (as.map (jv D)).reverse ++ rest.map (jv D) := by
  rw [← List.map_reverse, h1, List.reverse_reverse, h2, ← List.map_append, List.take_append_drop]
/-- the room of a call -/
theorem jroom_ok {d a mc ms : Nat} (hf : d + 1 ≤ R.frames) (hl : 36 * (d + 1) ≤ R.locals) (ha : jml a ≤ 17) : (jrm d mc ms).frames + 1 ≤ R.frames ∧ 8 + (jml a + 11) + (jrm d mc ms).locals ≤ R.locals := by
  refine ⟨hf, ?_⟩
  show 8 + (jml a + 11) + 36 * d ≤ R.locals
  omega
theorem jo_callS (C : jCtx D M p s m args meth c) {a b d : Nat} {k : Int} {op : Nat} (hop : op = 38 ∨ op = 41) (h : jchk3 M pc op a b k n = true) {as rest : List Value} (hlen : jna a ≤ st.length) (has : as = (st.take (jna a)).reverse) (hrest : rest = st.drop (jna a)) (hcs : jcs rest ≤ 8)
    (hM : jMet D l d a as σ r σ1) (hf : d + 1 ≤ R.frames) (hlc : 36 * (d + 1) ≤ R.locals) (hn1 : n1 ≤ jnx σ) (hs1 : s1 ≤ jsl σ) (hx1 : jnx σ ≤ jnx σ1) (hx2 : jsl σ ≤ jsl σ1) (hRc : jnx σ1 - n1 ≤ R.cells) (hRs : jsl σ1 - s1 ≤ R.slots)
    (kk : jK D M p l e R s m args below meth c Q n1 s1 n L (r.toList ++ rest) σ1) : jK D M p l e R s m args below meth c Q n1 s1 pc L st σ := by
  intro H locs ls hl hr hlo
  have hq : jdc M pc (.invokestatic b) 3 n = true ∧ jmS a = true ∧ ((op = 38 ∧ jwd k.toNat (.methodLink (jown M) b (jget a).1) = true) ∨ (op = 41 ∧ jwd k.toNat (.methodLinkNest (jown M) b (jget a).1 "RuleMill") = true)) := by
    rcases hop with rfl | rfl
    · have h : (jdc M pc (.invokestatic b) 3 n && jwd k.toNat (.methodLink (jown M) b (jget a).1) && jmS a) = true := h
      simp only [Bool.and_eq_true] at h
      exact ⟨h.1.1, h.2, Or.inl ⟨rfl, h.1.2⟩⟩
    · have h : (jdc M pc (.invokestatic b) 3 n && jwd k.toNat (.methodLinkNest (jown M) b (jget a).1 "RuleMill") && jmS a) = true := h
      simp only [Bool.and_eq_true] at h
      exact ⟨h.1.1, h.2, Or.inr ⟨rfl, h.1.2⟩⟩
  obtain ⟨hd, hmS, hlink⟩ := hq
  obtain ⟨h1, rfl⟩ := jdc_of hd
  obtain ⟨hx, hb, hml, hown, hts, hK, hin⟩ := C
  unfold jmS at hmS
  simp only [Bool.and_eq_true, decide_eq_true_eq] at hmS
  obtain ⟨⟨hmk, hst⟩, hpar⟩ := hmS
  obtain ⟨w1, w2, w3, w4⟩ := jmk_of hmk
  have hlenA : (as.map (jv D)).length = jna a := by rw [List.length_map, has, List.length_reverse, List.length_take]; omega
  have e1 : jnx σ - n1 + (jnx σ1 - jnx σ) = jnx σ1 - n1 := by omega
  have e2 : jsl σ - s1 + (jsl σ1 - jsl σ) = jsl σ1 - s1 := by omega
  have fin : va_Run p l e R s m args below meth c H locs (jnx σ - n1) (jsl σ - s1) (jnx σ1 - jnx σ) (jsl σ1 - jsl σ) (F0 m pc ls (st.map (jv D))) (rest.map (jv D)) (jQc D r σ1 ((as.map (jv D)).toArray)) (fun q => jn0 D ≤ q) := by
    rcases hlink with ⟨-, hw⟩ | ⟨-, hw⟩
    · exact va_runS (Ts := jw) ⟨hx, hb, hml, hown, hts⟩ hM ⟨callB_of (jna a) hts (jGood hmk) rfl rfl rfl (hts _ w2) (hts _ (jw_of hw rfl)) ⟨w3.1, w3.2, hpar⟩ (jroom_ok hf hlc w4), hts _ (jw_of hst rfl)⟩ ⟨jPc_blind as, jPc_in hK hr⟩ rfl hlenA hl.1 (jst_split has hrest) (jroom rfl hcs) h1 ⟨by omega, by omega⟩
    · exact va_runSN (Ts := jw) ⟨hx, hb, hml, hown, hts⟩ hM ⟨va_cnB (jna a) hts (jGood hmk) rfl rfl rfl (hK.2.2.2.1 _ (List.mem_of_getElem? (of_decide_eq_true hw)) rfl) (hts _ w2) ⟨w3.1, w3.2, hpar⟩ (jroom_ok hf hlc w4), hts _ (jw_of hst rfl), trivial⟩ ⟨jPc_blind as, jPc_in hK hr⟩ rfl hlenA hl.1 (jst_split has hrest) (jroom rfl hcs) h1 ⟨by omega, by omega⟩
  refine jo_run fin hlo (fun H1 locs1 hr1 hlo1 => ?_)
  rw [e1, e2]
  have kk := kk H1 locs1 ls hl hr1 hlo1
  rw [List.map_append] at kk
  cases r with
  | none => exact kk
  | some v => exact kk
theorem jo_callV (C : jCtx D M p s m args meth c) {a b d : Nat} {k : Int} {op : Nat} (hop : op = 39 ∨ op = 40 ∨ op = 42 ∨ op = 43) (h : jchk3 M pc op a b k n = true) {q : Nat} {as rest : List Value} (hlen : jna a ≤ st.length) (has : .ref q :: as = (st.take (jna a)).reverse) (hrest : rest = st.drop (jna a)) (hcs : jcs rest ≤ 8) (hT : jT σ q = 1 + jci a)
    (hM : jMet D l d a (.ref q :: as) σ r σ1) (hf : d + 1 ≤ R.frames) (hlc : 36 * (d + 1) ≤ R.locals) (hn1 : n1 ≤ jnx σ) (hs1 : s1 ≤ jsl σ) (hx1 : jnx σ ≤ jnx σ1) (hx2 : jsl σ ≤ jsl σ1) (hRc : jnx σ1 - n1 ≤ R.cells) (hRs : jsl σ1 - s1 ≤ R.slots)
    (kk : jK D M p l e R s m args below meth c Q n1 s1 n L (r.toList ++ rest) σ1) : jK D M p l e R s m args below meth c Q n1 s1 pc L st σ := by
  intro H locs ls hl hr hlo
  have e1 : jnx σ - n1 + (jnx σ1 - jnx σ) = jnx σ1 - n1 := by omega
  have e2 : jsl σ - s1 + (jsl σ1 - jsl σ) = jsl σ1 - s1 := by omega
  have hlenA : (as.map (jv D)).length + 1 = jna a := by
    have h2 : (Value.ref q :: as).length = jna a := by rw [has, List.length_reverse, List.length_take]; omega
    rw [List.length_map]; exact h2
  have hstk : st.map (jv D) = (as.map (jv D)).reverse ++ .ref (jloc D q) :: rest.map (jv D) := by
    rw [jst_split has hrest]
    simp [jv]
  obtain ⟨hx, hb, hml, hown, hts, hK, hin⟩ := C
  have hd3 : ∀ (hpar : (parseMethodDescriptor (jget a).1.desc).map (fun d => d.parameters.length + 1) = some (jna a)), (parseMethodDescriptor (jget a).1.desc).map (fun d => d.parameters.length) = some ((as.map (jv D)).length) := by
    intro hpar
    cases hp : parseMethodDescriptor (jget a).1.desc with
    | none => rw [hp] at hpar; cases hpar
    | some z =>
      rw [hp] at hpar
      have h9 : z.parameters.length + 1 = jna a := Option.some.inj hpar
      simp only [Option.map_some, Option.some.injEq]
      omega
  have cell : ∀ (hcl : (jcl[jci a]?).map (fun c => c.1) = some (jown a)), ∃ cellB : Cell, H[jloc D q]? = some cellB ∧ cellB.vm.isStatics = false ∧ s.vm.findClass (jown a) = some cellB.cls := by
    intro hcl
    cases hc : jcl[jci a]? with
    | none => rw [hc] at hcl; cases hcl
    | some z =>
      rw [hc] at hcl
      have hz : z.1 = jown a := Option.some.inj hcl
      obtain ⟨-, -, cellB, q1, q2, q3, -⟩ := (hr.2.2 q).1 _ z hc hT
      exact ⟨cellB, q1, by rw [q3]; rfl, by rw [← hz, q2]; exact (hK.1 _ z hc).2.1⟩
  have goes : ∀ {hn : n = pc + 3}, va_Run p l e R s m args below meth c H locs (jnx σ - n1) (jsl σ - s1) (jnx σ1 - jnx σ) (jsl σ1 - jsl σ) (F0 m pc ls (st.map (jv D))) (rest.map (jv D)) (jQc D r σ1 (Value.ref (jloc D q) :: as.map (jv D)).toArray) (fun q => jn0 D ≤ q) → W p l e R s m args below meth c H locs (jnx σ - n1) (jsl σ - s1) Q (F0 m pc ls (st.map (jv D))) := by
    intro hn fin
    subst hn
    refine jo_run fin hlo (fun H1 locs1 hr1 hlo1 => ?_)
    rw [e1, e2]
    have kk := kk H1 locs1 ls hl hr1 hlo1
    rw [List.map_append] at kk
    cases r with
    | none => exact kk
    | some v => exact kk
  have vir : ∀ (hmV : jmV a = true), jmk a = true ∧ Jvm.Cond.instanceMethod (jget a).1 ∈ jw ∧ Jvm.Cond.selects (jown a) (jget a).1 (jget a).1 ∈ jw ∧ (parseMethodDescriptor (jget a).1.desc).map (fun d => d.parameters.length + 1) = some (jna a) ∧ (jcl[jci a]?).map (fun c => c.1) = some (jown a) := by
    intro hmV
    unfold jmV at hmV
    simp only [Bool.and_eq_true, decide_eq_true_eq] at hmV
    exact ⟨hmV.1.1.1.1, jw_of hmV.1.1.1.2 rfl, jw_of hmV.1.1.2 rfl, hmV.1.2, hmV.2⟩
  have ini : ∀ (hmI : jmI a = true), jmk a = true ∧ Jvm.Cond.instanceMethod (jget a).1 ∈ jw ∧ (jget a).1.name = "<init>" ∧ jret a = none ∧ (parseMethodDescriptor (jget a).1.desc).map (fun d => d.parameters.length + 1) = some (jna a) := by
    intro hmI
    unfold jmI at hmI
    simp only [Bool.and_eq_true, decide_eq_true_eq] at hmI
    exact ⟨hmI.1.1.1.1.1, jw_of hmI.1.1.1.1.2 rfl, hmI.1.1.1.2, hmI.1.1.2, hmI.1.2⟩
  rcases hop with rfl | rfl | rfl | rfl
  · have h : (jdc M pc (.invokevirtual b) 3 n && jwd k.toNat (.methodLink (jown M) b (jget a).1) && jmV a) = true := h
    simp only [Bool.and_eq_true] at h
    obtain ⟨h1, hn⟩ := jdc_of h.1.1
    obtain ⟨hmk, v1, v2, v3, v4⟩ := vir h.2
    obtain ⟨w1, w2, w3, w4⟩ := jmk_of hmk
    exact goes (hn := hn) (va_runV (Ts := jw) (C := jown a) (b := jloc D q) ⟨hx, hb, hml, hown, hts⟩ hM ⟨callB_of _ hts (jGood hmk) rfl rfl rfl (hts _ w2) (hts _ (jw_of h.1.2 rfl)) ⟨w3.1, w3.2, hd3 v3⟩ (jroom_ok hf hlc w4), hts _ v1, hts _ v2⟩ ⟨jPc_blind _, cell v4, jPc_in (as := .ref q :: as) hK hr⟩ rfl rfl hl.1 hstk (jroom rfl hcs) h1 ⟨by omega, by omega⟩)
  · have h : (jdc M pc (.invokespecial b) 3 n && jwd k.toNat (.methodLink (jown M) b (jget a).1) && jmI a) = true := h
    simp only [Bool.and_eq_true] at h
    obtain ⟨h1, hn⟩ := jdc_of h.1.1
    obtain ⟨hmk, v1, v2, v3, v4⟩ := ini h.2
    obtain ⟨w1, w2, w3, w4⟩ := jmk_of hmk
    exact goes (hn := hn) (va_runI (Ts := jw) (b := jloc D q) ⟨hx, hb, hml, hown, hts⟩ hM ⟨callB_of (ws' := jw) _ hts (jGood hmk) (by unfold jws; rw [v3]) rfl rfl (hts _ w2) (hts _ (jw_of h.1.2 rfl)) ⟨w3.1, w3.2, hd3 v4⟩ (jroom_ok hf hlc w4), v2, hts _ v1⟩ ⟨jPc_blind _, jPc_in (as := .ref q :: as) hK hr⟩ rfl rfl hl.1 hstk (jroom rfl hcs) h1 ⟨by omega, by omega⟩)
  · have h : (jdc M pc (.invokevirtual b) 3 n && jwd k.toNat (.methodLinkNest (jown M) b (jget a).1 "RuleMill") && jmV a) = true := h
    simp only [Bool.and_eq_true] at h
    obtain ⟨h1, hn⟩ := jdc_of h.1.1
    obtain ⟨hmk, v1, v2, v3, v4⟩ := vir h.2
    obtain ⟨w1, w2, w3, w4⟩ := jmk_of hmk
    exact goes (hn := hn) (va_runVN (Ts := jw) (C := jown a) (b := jloc D q) ⟨hx, hb, hml, hown, hts⟩ hM ⟨va_cnB _ hts (jGood hmk) rfl rfl rfl (hK.2.2.2.1 _ (List.mem_of_getElem? (of_decide_eq_true h.1.2)) rfl) (hts _ w2) ⟨w3.1, w3.2, hd3 v3⟩ (jroom_ok hf hlc w4), hts _ v1, hts _ v2⟩ ⟨jPc_blind _, cell v4, jPc_in (as := .ref q :: as) hK hr⟩ rfl rfl hl.1 hstk (jroom rfl hcs) h1 ⟨by omega, by omega⟩)
  · have h : (jdc M pc (.invokespecial b) 3 n && jwd k.toNat (.methodLinkNest (jown M) b (jget a).1 "RuleMill") && jmI a) = true := h
    simp only [Bool.and_eq_true] at h
    obtain ⟨h1, hn⟩ := jdc_of h.1.1
    obtain ⟨hmk, v1, v2, v3, v4⟩ := ini h.2
    obtain ⟨w1, w2, w3, w4⟩ := jmk_of hmk
    exact goes (hn := hn) (va_runIN (Ts := jw) (b := jloc D q) ⟨hx, hb, hml, hown, hts⟩ hM ⟨va_cnB (ws' := jw) _ hts (jGood hmk) (by unfold jws; rw [v3]) rfl rfl (hK.2.2.2.1 _ (List.mem_of_getElem? (of_decide_eq_true h.1.2)) rfl) (hts _ w2) ⟨w3.1, w3.2, hd3 v4⟩ (jroom_ok hf hlc w4), v2, hts _ v1⟩ ⟨jPc_blind _, jPc_in (as := .ref q :: as) hK hr⟩ rfl rfl hl.1 hstk (jroom rfl hcs) h1 ⟨by omega, by omega⟩)
theorem jobw : decide (Jvm.Cond.instanceMethod objectInit ∈ lw_tbl) && decide (Jvm.Cond.code objectInit ⟨#[0xb1]⟩ 1 none ∈ lw_tbl) = true := by decide +kernel
theorem jo_obj (C : jCtx D M p s m args meth c) {a b d : Nat} {k : Int} (h : jchk3 M pc 44 a b k n = true) {q : Nat} (hq : 1 ≤ d ∧ jcs st ≤ 8) (hf : d ≤ R.frames) (hlc : 36 * d ≤ R.locals) (kk : jK D M p l e R s m args below meth c Q n1 s1 n L st σ) : jK D M p l e R s m args below meth c Q n1 s1 pc L (.ref q :: st) σ := by
  intro H locs ls hl hr hlo
  have kk := kk H locs ls hl hr hlo
  have h : (jdc M pc (.invokespecial b) 3 n && jwd k.toNat (.methodLink (jown M) b objectInit)) = true := h
  simp only [Bool.and_eq_true] at h
  obtain ⟨h1, rfl⟩ := jdc_of h.1
  obtain ⟨hx, hb, hml, hown, hts, hK, hin⟩ := C
  have ho := jobw
  simp only [Bool.and_eq_true, decide_eq_true_eq] at ho
  refine W.objInit hx hb hown (hts _ (jw_of h.2 rfl)) (hts _ (List.mem_filter.mpr ⟨ho.1, rfl⟩)) (hts _ (List.mem_filter.mpr ⟨ho.2, rfl⟩)) rfl (by rw [hml]; exact hl.1) rfl h1 (by omega) ?_ kk
  have := jroom (D := D) (g := F0 m pc ls (List.map (jv D) (.ref q :: st))) rfl hq.2
  omega
theorem jo_tsw (C : jCtx D M p s m args meth c) {a b : Nat} {k : Int} (h : jchk3 M pc 50 a b k n = true) {lo hi : Int} {df : Nat} {ts : List Nat} (ht : jts[a]? = some (lo, hi, df, ts)) {x : Int32}
    (k1 : x.toInt < lo ∨ hi < x.toInt → jK D M p l e R s m args below meth c Q n1 s1 df L st σ) (k2 : ¬ (x.toInt < lo ∨ hi < x.toInt) → ∃ t, ts[(x.toInt - lo).toNat]? = some t ∧ jK D M p l e R s m args below meth c Q n1 s1 t L st σ) : jK D M p l e R s m args below meth c Q n1 s1 pc L (.int x :: st) σ := by
  intro H locs ls hl hr hlo
  have h : (match jts[a]? with
    | some (lo, hi, df, ts) => jdc M pc (.tableswitch ((df : Int) - pc) lo hi ((ts.map (fun (t : Nat) => (t : Int) - pc)).toArray)) (n - pc) n
    | none => false) = true := h
  rw [ht] at h
  obtain ⟨h1, h2⟩ := jdc_of h
  by_cases hx : x.toInt < lo ∨ hi < x.toInt
  · exact lv_tableOut C.1 C.2.1 h1 hx (by omega) (k1 hx H locs ls hl hr hlo)
  · obtain ⟨t, g1, g2⟩ := k2 hx
    refine lv_tableIn (off := (t : Int) - pc) C.1 C.2.1 h1 (fun q => hx (Or.inl q)) (fun q => hx (Or.inr q)) ?_ (by omega) (g2 H locs ls hl hr hlo)
    rw [List.getElem?_toArray, List.getElem?_map, g1]
    rfl
theorem jlk_off (pc : Nat) (df : Nat) (x : Int) : ∀ ps : List (Int × Nat), Op.lookupswitch.offset (ps.map (fun (q : Int × Nat) => (q.1, (q.2 : Int) - pc))) ((df : Int) - pc) x = (jlk ps df x : Int) - pc := by
  intro ps
  induction ps with
  | nil => rfl
  | cons q t ih =>
    obtain ⟨k, v⟩ := q
    rw [List.map_cons, Op.lookupswitch.offset_cons, ih]
    simp only [jlk]
    by_cases hk : k = x
    · rw [if_pos hk, if_pos (by first | exact hk | exact hk.symm)]
    · rw [if_neg hk, if_neg (by first | exact hk | exact fun z => hk z.symm)]
theorem jo_lsw (C : jCtx D M p s m args meth c) {a b : Nat} {k : Int} (h : jchk3 M pc 51 a b k n = true) {df : Nat} {ps : List (Int × Nat)} (ht : jls[a]? = some (df, ps)) {x : Int32}
    (kk : jK D M p l e R s m args below meth c Q n1 s1 (jlk ps df x.toInt) L st σ) : jK D M p l e R s m args below meth c Q n1 s1 pc L (.int x :: st) σ := by
  intro H locs ls hl hr hlo
  have kk := kk H locs ls hl hr hlo
  simp (decide := true) only [jchk3, reduceIte, ht, Bool.and_eq_true, decide_eq_true_eq] at h
  obtain ⟨h1, h2⟩ := jdc_of h.1
  refine lv_lookup (off := (jlk ps df x.toInt : Int) - pc) C.1 C.2.1 h1 h.2 ?_ (by omega) kk
  exact jlk_off pc df x.toInt ps
end JC
end
section
/-! the instructions that meet what was there before; arraycopy -/
section JN
variable {D : jD} {M : Nat} {p : Program} {l : Launch} {e : Env} {R : Room} {s : State} {m : MethodId} {args : Array Value} {below : List Frame} {meth : Method} {c : Code} {Q : State → Prop} {n1 s1 pc n : Nat} {L : jL} {st : List Value} {σ σ1 : jS} {r : Option Value}
theorem jo_getsA (C : jCtx D M p s m args meth c) {a b : Nat} {k : Int} (h : jchk4 M pc 52 a b k n = true) (ha : a = 1 ∨ a = 2) (hT : jT σ 3 = 61) (kk : jK D M p l e R s m args below meth c Q n1 s1 n L (.ref a :: st) σ) : jK D M p l e R s m args below meth c Q n1 s1 pc L st σ := by
  intro H locs ls hl hr hlo
  have kk := kk H locs ls hl hr hlo
  have hO := hr.old hT
  have h : (jdc M pc (.getstatic b) 3 n && jwd k.toNat (.fieldLink (jown M) b "RuleMill" (if a = 1 then "REGISTERS_OF" else "PRICES") "[I")) = true := h
  rw [Bool.and_eq_true] at h
  obtain ⟨h1, rfl⟩ := jdc_of h.1
  obtain ⟨hx, hb, hml, hown, hts, hK, hin⟩ := C
  have hw := hts _ (jw_of h.2 rfl)
  rcases ha with rfl | rfl
  · obtain ⟨cf, kf, fi, f, a, cell, g1, g2, g3, g4, g5, g6, g7, g8⟩ := hO.1
    exact W.gets hx hb hown hw g1 g2 g3 g4 g5 (fun e => by rw [e] at g6; cases g6) g7 rfl h1 kk
  · obtain ⟨cf, kf, fi, f, a, cell, g1, g2, g3, g4, g5, g6, g7, g8⟩ := hO.2.1
    exact W.gets hx hb hown hw g1 g2 g3 g4 g5 (fun e => by rw [e] at g6; cases g6) g7 rfl h1 kk
theorem jo_ldcs (C : jCtx D M p s m args meth c) {a b : Nat} {k : Int} (h : jchk4 M pc 53 a b k n = true) (kk : jK D M p l e R s m args below meth c Q n1 s1 n L (.ref 3 :: st) σ) : jK D M p l e R s m args below meth c Q n1 s1 pc L st σ := by
  intro H locs ls hl hr hlo
  have kk := kk H locs ls hl hr hlo
  have h : (jdc M pc (.ldc b) 2 n && (decide (jown M = "RuleMill$Reader" ∧ b = 163) || decide (jown M = "RuleMill$Row" ∧ b = 93))) = true := h
  simp only [Bool.and_eq_true, Bool.or_eq_true, decide_eq_true_eq] at h
  obtain ⟨h1, rfl⟩ := jdc_of h.1
  obtain ⟨hx, hb, hml, hown, hts, hK, hin⟩ := C
  rcases h.2 with ⟨g1, rfl⟩ | ⟨g1, rfl⟩
  · rw [g1] at hown
    exact va_ldcS hx hb hown hK.2.2.2.2.1 h1 kk
  · rw [g1] at hown
    exact va_ldcS hx hb hown hK.2.2.2.2.2 h1 kk
theorem jo_getsI (C : jCtx D M p s m args meth c) {a b : Nat} {k : Int} (h : jchk4 M pc 55 a b k n = true) (hT : jT σ 3 = 61) (kk : jK D M p l e R s m args below meth c Q n1 s1 n L (.int 1 :: st) σ) : jK D M p l e R s m args below meth c Q n1 s1 pc L st σ := by
  intro H locs ls hl hr hlo
  have kk := kk H locs ls hl hr hlo
  have hO := hr.old hT
  have h : (jdc M pc (.getstatic b) 3 n && jwd k.toNat (.fieldLink (jown M) b "java/lang/String" "COMPACT_STRINGS" "Z")) = true := h
  rw [Bool.and_eq_true] at h
  obtain ⟨h1, rfl⟩ := jdc_of h.1
  obtain ⟨hx, hb, hml, hown, hts, hK, hin⟩ := C
  obtain ⟨cf, kf, fi, f, a, cell, g1, g2, g3, g4, g5, g6, g7, g8⟩ := hO.2.2.1
  exact W.gets hx hb hown (hts _ (jw_of h.2 rfl)) g1 g2 g3 g4 g5 (fun e => by rw [e] at g6; cases g6) g7 rfl h1 kk
theorem jo_getsF (C : jCtx D M p s m args meth c) {a b : Nat} {k : Int} (h : jchk4 M pc 59 a b k n = true) (hT : jT σ 3 = 61) (kk : jK D M p l e R s m args below meth c Q n1 s1 n L (va_rf (jR σ 0 3) :: st) σ) : jK D M p l e R s m args below meth c Q n1 s1 pc L st σ := by
  intro H locs ls hl hr hlo
  have kk := kk H locs ls hl hr hlo
  have hO := hr.old hT
  have h : (jdc M pc (.getstatic b) 3 n && jwd k.toNat (.fieldLink (jown M) b "jdk/internal/util/Preconditions" "SIOOBE_FORMATTER" "Ljava/util/function/BiFunction;")) = true := h
  rw [Bool.and_eq_true] at h
  obtain ⟨h1, rfl⟩ := jdc_of h.1
  obtain ⟨hx, hb, hml, hown, hts, hK, hin⟩ := C
  obtain ⟨cf, kf, fi, f, a, cell, g1, g2, g3, g4, g5, g6, g7, g8⟩ := hO.2.2.2.1
  exact W.gets hx hb hown (hts _ (jw_of h.2 rfl)) g1 g2 g3 g4 g5 (fun e => by rw [e] at g6; cases g6) g7 rfl h1 kk
theorem jo_getV (C : jCtx D M p s m args meth c) {a b : Nat} {k : Int} (h : jchk4 M pc 57 a b k n = true) (hT : jT σ 3 = 61) (kk : jK D M p l e R s m args below meth c Q n1 s1 n L (.ref 4 :: st) σ) : jK D M p l e R s m args below meth c Q n1 s1 pc L (.ref 3 :: st) σ := by
  intro H locs ls hl hr hlo
  have kk := kk H locs ls hl hr hlo
  have hO := hr.old hT
  have h : (jdc M pc (.getfield b) 3 n && jwd k.toNat (.fieldLink (jown M) b "java/lang/String" "value" "[B")) = true := h
  rw [Bool.and_eq_true] at h
  obtain ⟨h1, rfl⟩ := jdc_of h.1
  obtain ⟨hx, hb, hml, hown, hts, hK, hin⟩ := C
  obtain ⟨cf, k, fi, f, cell, g1, g2, g3, g4, g5, g6⟩ := (hO.2.2.2.2.1 0 (by decide)).2.2.1
  exact W.getf hx hb hown (hts _ (jw_of h.2 rfl)) g1 g2 g3 g4 (v := .ref (jloc D 4)) g5 rfl rfl h1 kk
theorem jo_getC (C : jCtx D M p s m args meth c) {a b : Nat} {k : Int} (h : jchk4 M pc 58 a b k n = true) (hT : jT σ 3 = 61) (kk : jK D M p l e R s m args below meth c Q n1 s1 n L (.int 0 :: st) σ) : jK D M p l e R s m args below meth c Q n1 s1 pc L (.ref 3 :: st) σ := by
  intro H locs ls hl hr hlo
  have kk := kk H locs ls hl hr hlo
  have hO := hr.old hT
  have h : (jdc M pc (.getfield b) 3 n && jwd k.toNat (.fieldLink (jown M) b "java/lang/String" "coder" "B")) = true := h
  rw [Bool.and_eq_true] at h
  obtain ⟨h1, rfl⟩ := jdc_of h.1
  obtain ⟨hx, hb, hml, hown, hts, hK, hin⟩ := C
  obtain ⟨cf, k, fi, f, cell, g1, g2, g3, g4, g5, g6⟩ := (hO.2.2.2.2.1 0 (by decide)).2.1
  exact W.getf hx hb hown (hts _ (jw_of h.2 rfl)) g1 g2 g3 g4 (v := .int 0) g5 rfl rfl h1 kk
theorem jo_i2c (C : jCtx D M p s m args meth c) {a b : Nat} {k : Int} (h : jchk4 M pc 60 a b k n = true) {x : Int32} (kk : jK D M p l e R s m args below meth c Q n1 s1 n L (.int (x.toUInt32 % 65536).toInt32 :: st) σ) : jK D M p l e R s m args below meth c Q n1 s1 pc L (.int x :: st) σ := by
  intro H locs ls hl hr hlo
  have kk := kk H locs ls hl hr hlo
  obtain ⟨h1, rfl⟩ := jdc_of (show jdc M pc .i2c 1 n = true from h)
  exact lv_i2c C.1 C.2.1 h1 rfl kk
theorem jo_tbald (C : jCtx D M p s m args meth c) {a b : Nat} {k : Int} (h : jchk4 M pc 62 a b k n = true) (hT : jT σ 3 = 61) {i : Int32} (hin : ¬ (i < 0 ∨ 57 ≤ i.toNatClampNeg)) (kk : jK D M p l e R s m args below meth c Q n1 s1 n L (.int (jnmb i.toNatClampNeg) :: st) σ) : jK D M p l e R s m args below meth c Q n1 s1 pc L (.int i :: .ref 4 :: st) σ := by
  intro H locs ls hl hr hlo
  have kk := kk H locs ls hl hr hlo
  have hO := hr.old hT
  obtain ⟨h1, rfl⟩ := jdc_of (show jdc M pc .baload 1 n = true from h)
  obtain ⟨cell, a3, a4, a5, a6, a7, a8, a9⟩ := (hO.2.2.2.2.1 0 (by decide)).2.2.2
  have a6 : 57 ≤ cell.slots.size := a6
  exact W.bald (v := .int (jnmb i.toNatClampNeg)) C.1 C.2.1 a3 a4 a5 (fun z => hin (z.elim Or.inl (fun q => Or.inr (by omega)))) (a8 _ (jclam hin)) rfl rfl h1 kk
theorem jo_tlen (C : jCtx D M p s m args meth c) {a b : Nat} {k : Int} (h : jchk4 M pc 63 a b k n = true) (hT : jT σ 3 = 61) (kk : jK D M p l e R s m args below meth c Q n1 s1 n L (.int 57 :: st) σ) : jK D M p l e R s m args below meth c Q n1 s1 pc L (.ref 4 :: st) σ := by
  intro H locs ls hl hr hlo
  have kk := kk H locs ls hl hr hlo
  have hO := hr.old hT
  obtain ⟨h1, rfl⟩ := jdc_of (show jdc M pc .arraylength 1 n = true from h)
  obtain ⟨cell, a3, a4, a5, a6, a7, a8, a9⟩ := (hO.2.2.2.2.1 0 (by decide)).2.2.2
  exact W.alen (n := 57) C.1 C.2.1 a3 a4 (by first | exact a7 | exact a7.symm) rfl rfl h1 kk
theorem jo_callT (C : jCtx D M p s m args meth c) {a b d : Nat} {k : Int} (h : jchk4 M pc 54 a b k n = true) {as rest : List Value} (hlen : jna a ≤ st.length) (has : .ref 3 :: as = (st.take (jna a)).reverse) (hrest : rest = st.drop (jna a)) (hcs : jcs rest ≤ 8) (hT : jT σ 3 = 61)
    (hM : jMet D l d a (.ref 3 :: as) σ r σ1) (hf : d + 1 ≤ R.frames) (hlc : 36 * (d + 1) ≤ R.locals) (hn1 : n1 ≤ jnx σ) (hs1 : s1 ≤ jsl σ) (hx1 : jnx σ ≤ jnx σ1) (hx2 : jsl σ ≤ jsl σ1) (hRc : jnx σ1 - n1 ≤ R.cells) (hRs : jsl σ1 - s1 ≤ R.slots)
    (kk : jK D M p l e R s m args below meth c Q n1 s1 n L (r.toList ++ rest) σ1) : jK D M p l e R s m args below meth c Q n1 s1 pc L st σ := by
  intro H locs ls hl hr hlo
  have e1 : jnx σ - n1 + (jnx σ1 - jnx σ) = jnx σ1 - n1 := by omega
  have e2 : jsl σ - s1 + (jsl σ1 - jsl σ) = jsl σ1 - s1 := by omega
  have hstk : st.map (jv D) = (as.map (jv D)).reverse ++ .ref (jloc D 3) :: rest.map (jv D) := by
    rw [jst_split has hrest]
    simp [jv]
  obtain ⟨hx, hb, hml, hown, hts, hK, hin⟩ := C
  have h : (jdc M pc (.invokevirtual b) 3 n && jwd k.toNat (.methodLink (jown M) b (jget a).1) && jmT a) = true := h
  simp only [Bool.and_eq_true] at h
  obtain ⟨h1, hn⟩ := jdc_of h.1.1
  have hmT := h.2
  unfold jmT at hmT
  simp only [Bool.and_eq_true, decide_eq_true_eq] at hmT
  obtain ⟨⟨⟨⟨hmk, v1⟩, v2⟩, v3⟩, v4⟩ := hmT
  have hd3 : (parseMethodDescriptor (jget a).1.desc).map (fun d => d.parameters.length) = some ((as.map (jv D)).length) := by
    have hlenA : (as.map (jv D)).length + 1 = jna a := by
      have h2 : (Value.ref 3 :: as).length = jna a := by rw [has, List.length_reverse, List.length_take]; omega
      rw [List.length_map]; exact h2
    cases hp : parseMethodDescriptor (jget a).1.desc with
    | none => rw [hp] at v3; cases v3
    | some z =>
      rw [hp] at v3
      have h9 : z.parameters.length + 1 = jna a := Option.some.inj v3
      simp only [Option.map_some, Option.some.injEq]
      omega
  have cell : ∃ cellB : Cell, H[jloc D 3]? = some cellB ∧ cellB.vm.isStatics = false ∧ s.vm.findClass (jown a) = some cellB.cls := by
    obtain ⟨cellB, q1, q2, q3, -⟩ := ((hr.old hT).2.2.2.2.1 0 (by decide)).1
    exact ⟨cellB, q1, q2, by rw [v4]; exact q3⟩
  obtain ⟨w1, w2, w3, w4⟩ := jmk_of hmk
  have fin : va_Run p l e R s m args below meth c H locs (jnx σ - n1) (jsl σ - s1) (jnx σ1 - jnx σ) (jsl σ1 - jsl σ) (F0 m pc ls (st.map (jv D))) (rest.map (jv D)) (jQc D r σ1 (Value.ref (jloc D 3) :: as.map (jv D)).toArray) (fun q => jn0 D ≤ q) := va_runV (Ts := jw) (C := jown a) (b := jloc D 3) ⟨hx, hb, hml, hown, hts⟩ hM ⟨callB_of _ hts (jGood hmk) rfl rfl rfl (hts _ w2) (hts _ (jw_of h.1.2 rfl)) ⟨w3.1, w3.2, hd3⟩ (jroom_ok hf hlc w4), hts _ (jw_of v1 rfl), hts _ (jw_of v2 rfl)⟩ ⟨jPc_blind _, cell, jPc_in (as := .ref 3 :: as) hK hr⟩ rfl rfl hl.1 hstk (jroom rfl hcs) h1 ⟨by omega, by omega⟩
  subst hn
  refine jo_run fin hlo (fun H1 locs1 hr1 hlo1 => ?_)
  rw [e1, e2]
  have kk := kk H1 locs1 ls hl hr1 hlo1
  rw [List.map_append] at kk
  cases r with
  | none => exact kk
  | some v => exact kk
theorem jcpw : (decide (Jvm.Cond.native arraycopyName ∈ lw_tbl) && decide (Jvm.Cond.static arraycopyName ∈ lw_tbl) && decide (Jvm.Cond.initialized "java/lang/System" ∈ lw_tbl)) = true := by decide +kernel
theorem jo_acpy (C : jCtx D M p s m args meth c) {a b d : Nat} {k : Int} (h : jchk4 M pc 56 a b k n = true) {pp q : Nat} {x y i : Int32} (hp : jT σ pp = 20) (hq : jT σ q = 20) (hd1 : 1 ≤ d) (hcs : jcs st ≤ 8) (h1 : ¬ i < 0) (h2 : ¬ y < 0) (h3 : ¬ x < 0) (h4 : i.toNatClampNeg + x.toNatClampNeg ≤ jN σ pp) (h5 : y.toNatClampNeg + x.toNatClampNeg ≤ jN σ q)
    (hf : d ≤ R.frames) (hlc : 36 * d ≤ R.locals) (kk : jK D M p l e R s m args below meth c Q n1 s1 n L st (jcp σ pp i.toNatClampNeg q y.toNatClampNeg x.toNatClampNeg)) : jK D M p l e R s m args below meth c Q n1 s1 pc L (.int x :: .int y :: .ref q :: .int i :: .ref pp :: st) σ := by
  intro H locs ls hl hr hlo
  have h : (jdc M pc (.invokestatic b) 3 n && jwd k.toNat (.methodLink (jown M) b arraycopyName)) = true := h
  rw [Bool.and_eq_true] at h
  obtain ⟨hdg, rfl⟩ := jdc_of h.1
  obtain ⟨hx, hb, hml, hown, hts, hK, hin⟩ := C
  have hcw := jcpw
  simp only [Bool.and_eq_true, decide_eq_true_eq] at hcw
  have nn : ∀ z : Int32, ¬ z < 0 → z.toInt = (z.toNatClampNeg : Int) := by
    intro z hz
    have hz0 : (0 : Int) ≤ z.toInt := by
      have := Int32.not_lt.mp hz
      simpa using Int32.le_iff_toInt_le.mp this
    show z.toInt = ((z.toInt.toNat : Nat) : Int)
    omega
  obtain ⟨b0, -, a0⟩ := (hr.2.2 pp).2.1 (by omega) (by omega)
  obtain ⟨b1, -, a1⟩ := (hr.2.2 q).2.1 (by omega) (by omega)
  rw [hp] at a0
  rw [hq] at a1
  have hc0 : H[jloc D pp]? = some (vp_cell (jdA D 20) (jN σ pp, .inl (jA σ pp))) := a0
  have hc1 : H[jloc D q]? = some (vp_cell (jdA D 20) (jN σ q, .inl (jA σ q))) := a1
  intro T hT X
  obtain ⟨-, k0, hk0, cm0, hkk0⟩ := jarr0 hK (jN σ pp) (fun j => .int (jA σ pp j))
  obtain ⟨-, k1, hk1, cm1, hkk1⟩ := jarr0 hK (jN σ q) (fun j => .int (jA σ q j))
  obtain ⟨vm', X', step⟩ := X.arraycopy hx hown (hts _ (jw_of h.2 rfl)) (hts _ (List.mem_filter.mpr ⟨hcw.1.1, rfl⟩)) (hts _ (List.mem_filter.mpr ⟨hcw.1.2, rfl⟩)) (hts _ (List.mem_filter.mpr ⟨hcw.2, rfl⟩)) (src := jloc D pp) (dst := jloc D q) (cs := vp_cell (jdA D 20) (jN σ pp, .inl (jA σ pp))) (cd := vp_cell (jdA D 20) (jN σ q, .inl (jA σ q))) (srcPos := i) (destPos := y) (n := x) (by rw [hT]; exact hc0) (by rw [hT]; exact hc1)
    (fun _ h => by cases h) (fun _ h => by cases h) (fun h => by cases h) (fun h => by cases h) hk0 hk1 hkk0 hkk1 (by simp [refKind]) h1 h2 h3
    (by rw [nn i h1, nn x h3]; show ¬ _ > ((arrV (jdA D 20) (jN σ pp) (fun j => .int (jA σ pp j))).slots.size : Int); rw [arrV_size]; omega)
    (by rw [nn y h2, nn x h3]; show ¬ _ > ((arrV (jdA D 20) (jN σ q) (fun j => .int (jA σ q j))).slots.size : Int); rw [arrV_size]; omega)
    (fun vm₁ _ z hz => by
      have e : (vp_cell (jdA D 20) (jN σ pp, .inl (jA σ pp))).slots.getD (i.toNatClampNeg + z) .null = .int (jA σ pp (i.toNatClampNeg + z)) := by
        show (arrV (jdA D 20) (jN σ pp) (fun j => .int (jA σ pp j))).slots.getD _ _ = _
        rw [Array.getD_eq_getD_getElem?, arrV_read _ _ (by omega)]
        rfl
      refine ⟨?_, ?_⟩
      · rw [e]
        rfl
      · rw [e]
        exact trivial)
    (g := F0 m pc ls ((.int x :: .int y :: .ref q :: .int i :: .ref pp :: st).map (jv D))) rfl (by rw [hml]; exact hl.1) (rest := st.map (jv D)) rfl (by rw [hb]; exact hdg) (by omega) (by
      have hjc := jcs_sum D st
      have hnf : nativeFrameWords "java/lang/System" "arraycopy" 5 = 7 := by decide
      show 2 * 0 + _ + _ ≤ _
      omega)
  have e1 : copied (vp_cell (jdA D 20) (jN σ pp, .inl (jA σ pp))) (vp_cell (jdA D 20) (jN σ q, .inl (jA σ q))) i y x = vp_cell (jdA D 20) (jN σ q, .inl (va_cpy (jA σ pp) (jA σ q) i.toNatClampNeg y.toNatClampNeg x.toNatClampNeg)) := va_copied (fun z => .int z) _ _ _ _ h4
  rw [e1] at X' step
  have hlq : jloc D q < H.size := (Array.getElem?_eq_some_iff.mp hc1).1
  have hheap : ((T.setVm vm').setCell (jloc D q) (vp_cell (jdA D 20) (jN σ q, .inl (va_cpy (jA σ pp) (jA σ q) i.toNatClampNeg y.toNatClampNeg x.toNatClampNeg)))).heap = H.setIfInBounds (jloc D q) (vp_cell (jdA D 20) (jN σ q, .inl (va_cpy (jA σ pp) (jA σ q) i.toNatClampNeg y.toNatClampNeg x.toNatClampNeg))) := by rw [← hT]; rfl
  have hrel : jRel D (jcp σ pp i.toNatClampNeg q y.toNatClampNeg x.toNatClampNeg) s (H.setIfInBounds (jloc D q) (vp_cell (jdA D 20) (jN σ q, .inl (va_cpy (jA σ pp) (jA σ q) i.toNatClampNeg y.toNatClampNeg x.toNatClampNeg)))) := by
    refine hr.arr (q := q) (by omega) (by omega) ?_ (by simp) (fun z hz => by simp [Array.getElem?_setIfInBounds, Ne.symm hz]) rfl rfl rfl rfl rfl rfl (fun z j hz => ?_)
    · rw [hq]
      have e9 : (fun j => Value.int (jA (jcp σ pp i.toNatClampNeg q y.toNatClampNeg x.toNatClampNeg) q j)) = fun j => Value.int (va_cpy (jA σ pp) (jA σ q) i.toNatClampNeg y.toNatClampNeg x.toNatClampNeg j) := by
        funext j
        show Value.int (if q = q then _ else _) = _
        rw [if_pos rfl]
      rw [e9]
      show (H.setIfInBounds (jloc D q) _)[jloc D q]? = some _
      simp [Array.getElem?_setIfInBounds, hlq]
      rfl
    · show (if z = q then _ else _) = _
      rw [if_neg hz]
  obtain ⟨t, g1, g2⟩ := kk _ _ ls hl hrel (fun z hz => by
      rcases List.mem_append.mp hz with hz | hz
      · exact hlo z hz
      · obtain ⟨w, -, hw⟩ := List.mem_map.mp hz
        rw [← hw]
        exact jloc_ge b1) _ hheap X'
  exact ⟨t, step t g1, g2⟩
end JN
end
section
/-! the run's equations, an instruction each -/
theorem jx_go {d M pc n : Nat} {L L' : jL} {st st' : List Value} {σ σ' : jS} (h : jcmd d (jcode M pc) L st σ = jgo n L' st' σ') : jx d M pc L st σ = jx d M n L' st' σ' := by
  rw [jx_un, h]; rfl
theorem jx_ret {d M pc : Nat} {L : jL} {st : List Value} {σ : jS} {v : Option Value} (h : jcmd d (jcode M pc) L st σ = some (.inr (.inl v))) : jx d M pc L st σ = some (v, σ) := by
  rw [jx_un, h]; rfl
theorem jx_cl {d M pc n a : Nat} {L : jL} {st as rest : List Value} {σ : jS} (h : jcmd (d + 1) (jcode M pc) L st σ = some (.inr (.inr (a, as, n, rest)))) : jx (d + 1) M pc L st σ = (jx d a 0 (jent a as) [] σ).bind (fun z => jx (d + 1) M n L (z.1.toList ++ rest) z.2) := by
  rw [jx_un, h]; rfl
theorem jcmd_1 {d op a b n : Nat} {k : Int} {L : jL} {st : List Value} {σ : jS} (h : op < 25) : jcmd d (op, a, b, k, n) L st σ = jcmd1 d op a b k n L st σ := by unfold jcmd; rw [if_pos h]
theorem jcmd_2 {d op a b n : Nat} {k : Int} {L : jL} {st : List Value} {σ : jS} (h : ¬ op < 25) (h2 : op < 38) : jcmd d (op, a, b, k, n) L st σ = jcmd2 d op a b k n L st σ := by unfold jcmd; rw [if_neg h, if_pos h2]
theorem jcmd_3 {d op a b n : Nat} {k : Int} {L : jL} {st : List Value} {σ : jS} (h : ¬ op < 25) (h2 : ¬ op < 38) (h3 : op < 52) : jcmd d (op, a, b, k, n) L st σ = jcmd3 d op a b k n L st σ := by unfold jcmd; rw [if_neg h, if_neg h2, if_pos h3]
theorem jcmd_4 {d op a b n : Nat} {k : Int} {L : jL} {st : List Value} {σ : jS} (h : ¬ op < 25) (h2 : ¬ op < 38) (h3 : ¬ op < 52) : jcmd d (op, a, b, k, n) L st σ = jcmd4 d op a b k n L st σ := by unfold jcmd; rw [if_neg h, if_neg h2, if_neg h3]
section JXO
variable {d M pc n a b : Nat} {k : Int} {L : jL} {st : List Value} {σ : jS}
theorem jx_const (hc : jcode M pc = (0, a, b, k, n)) {v : Int32} (hv : Int32.ofInt k = v) : jx d M pc L st σ = jx d M n L (.int v :: st) σ := by subst hv; exact jx_go (by rw [hc]; rfl)
theorem jx_iload (hc : jcode M pc = (1, a, b, k, n)) {x : Int32} (hl : L[a]? = some (some (.int x))) : jx d M pc L st σ = jx d M n L (.int x :: st) σ := jx_go (by rw [hc]; rw [jcmd_1 (by decide)]; simp (decide := true) only [jcmd1, reduceIte, hl])
theorem jx_aload (hc : jcode M pc = (2, a, b, k, n)) {x : Nat} (hl : L[a]? = some (some (.ref x))) : jx d M pc L st σ = jx d M n L (.ref x :: st) σ := jx_go (by rw [hc]; rw [jcmd_1 (by decide)]; simp (decide := true) only [jcmd1, reduceIte, hl])
theorem jx_aloadN (hc : jcode M pc = (2, a, b, k, n)) (hl : L[a]? = some (some .null)) : jx d M pc L st σ = jx d M n L (.null :: st) σ := jx_go (by rw [hc]; rw [jcmd_1 (by decide)]; simp (decide := true) only [jcmd1, reduceIte, hl])
theorem jx_lload (hc : jcode M pc = (3, a, b, k, n)) {x : Int64} (hl : L[a]? = some (some (.long x))) : jx d M pc L st σ = jx d M n L (.long x :: st) σ := jx_go (by rw [hc]; rw [jcmd_1 (by decide)]; simp (decide := true) only [jcmd1, reduceIte, hl])
theorem jx_istore (hc : jcode M pc = (4, a, b, k, n)) {x : Int32} (hl : a < L.length) {L' : jL} (hL : jst1 L a (.int x) = L') : jx d M pc L (.int x :: st) σ = jx d M n L' st σ := by subst hL; exact jx_go (by rw [hc]; rw [jcmd_1 (by decide)]; simp (decide := true) only [jcmd1, reduceIte, if_pos hl])
theorem jx_astore (hc : jcode M pc = (5, a, b, k, n)) {x : Nat} (hl : a < L.length) {L' : jL} (hL : jst1 L a (.ref x) = L') : jx d M pc L (.ref x :: st) σ = jx d M n L' st σ := by subst hL; exact jx_go (by rw [hc]; rw [jcmd_1 (by decide)]; simp (decide := true) only [jcmd1, reduceIte, if_pos hl])
theorem jx_astoreN (hc : jcode M pc = (5, a, b, k, n)) (hl : a < L.length) {L' : jL} (hL : jst1 L a .null = L') : jx d M pc L (.null :: st) σ = jx d M n L' st σ := by subst hL; exact jx_go (by rw [hc]; rw [jcmd_1 (by decide)]; simp (decide := true) only [jcmd1, reduceIte, if_pos hl])
theorem jx_lstore (hc : jcode M pc = (6, a, b, k, n)) {x : Int64} (hl : a + 1 < L.length) {L' : jL} (hL : jst2 L a (.long x) = L') : jx d M pc L (.long x :: st) σ = jx d M n L' st σ := by subst hL; exact jx_go (by rw [hc]; rw [jcmd_1 (by decide)]; simp (decide := true) only [jcmd1, reduceIte, if_pos hl])
theorem jx_iinc (hc : jcode M pc = (7, a, b, k, n)) {x v : Int32} (hl : L[a]? = some (some (.int x))) (hv : Int32.ofInt k = v) {L' : jL} (hL : jst1 L a (.int (x + v)) = L') : jx d M pc L st σ = jx d M n L' st σ := by subst hL; subst hv; exact jx_go (by rw [hc]; rw [jcmd_1 (by decide)]; simp (decide := true) only [jcmd1, reduceIte, hl])
theorem jx_bin (hc : jcode M pc = (8, a, b, k, n)) (ha : a < 8) {x y : Int32} : jx d M pc L (.int y :: .int x :: st) σ = jx d M n L (.int (jbin a x y) :: st) σ := jx_go (by rw [hc]; rw [jcmd_1 (by decide)]; simp (decide := true) only [jcmd1, reduceIte]; rw [if_neg (fun q => by omega)])
theorem jx_div (hc : jcode M pc = (8, 8, b, k, n)) {x y : Int32} (hy : ¬ y = 0) : jx d M pc L (.int y :: .int x :: st) σ = jx d M n L (.int (x / y) :: st) σ := jx_go (by rw [hc]; rw [jcmd_1 (by decide)]; simp (decide := true) only [jcmd1, reduceIte]; rw [if_neg (fun q => hy q.2)]; rfl)
theorem jx_rem (hc : jcode M pc = (8, 9, b, k, n)) {x y : Int32} (hy : ¬ y = 0) : jx d M pc L (.int y :: .int x :: st) σ = jx d M n L (.int (x - x / y * y) :: st) σ := jx_go (by rw [hc]; rw [jcmd_1 (by decide)]; simp (decide := true) only [jcmd1, reduceIte]; rw [if_neg (fun q => hy q.2)]; rfl)
theorem jx_ineg (hc : jcode M pc = (9, a, b, k, n)) {x : Int32} : jx d M pc L (.int x :: st) σ = jx d M n L (.int (-x) :: st) σ := jx_go (by rw [hc]; rfl)
theorem jx_i2l (hc : jcode M pc = (10, a, b, k, n)) {x : Int32} : jx d M pc L (.int x :: st) σ = jx d M n L (.long x.toInt64 :: st) σ := jx_go (by rw [hc]; rfl)
theorem jx_l2i (hc : jcode M pc = (11, a, b, k, n)) {x : Int64} : jx d M pc L (.long x :: st) σ = jx d M n L (.int x.toInt32 :: st) σ := jx_go (by rw [hc]; rfl)
theorem jx_lconst (hc : jcode M pc = (12, a, b, k, n)) {v : Int64} (hv : Int64.ofInt k = v) : jx d M pc L st σ = jx d M n L (.long v :: st) σ := by subst hv; exact jx_go (by rw [hc]; rfl)
theorem jx_lmul (hc : jcode M pc = (13, a, b, k, n)) {x y : Int64} : jx d M pc L (.long y :: .long x :: st) σ = jx d M n L (.long (x * y) :: st) σ := jx_go (by rw [hc]; rfl)
theorem jx_lcmp (hc : jcode M pc = (14, a, b, k, n)) {x y : Int64} : jx d M pc L (.long y :: .long x :: st) σ = jx d M n L (.int (lg_cmp x y) :: st) σ := jx_go (by rw [hc]; rfl)
theorem jx_i2b (hc : jcode M pc = (15, a, b, k, n)) {x : Int32} : jx d M pc L (.int x :: st) σ = jx d M n L (.int x.toInt8.toInt32 :: st) σ := jx_go (by rw [hc]; rfl)
theorem jx_dup (hc : jcode M pc = (16, a, b, k, n)) {v : Value} (hv : v.category = 1) : jx d M pc L (v :: st) σ = jx d M n L (v :: v :: st) σ := jx_go (by rw [hc]; rw [jcmd_1 (by decide)]; simp (decide := true) only [jcmd1, reduceIte]; rw [if_pos hv])
theorem jx_dup2 (hc : jcode M pc = (17, a, b, k, n)) {v w : Value} (hv : v.category = 1 ∧ w.category = 1) : jx d M pc L (v :: w :: st) σ = jx d M n L (v :: w :: v :: w :: st) σ := jx_go (by rw [hc]; rw [jcmd_1 (by decide)]; simp (decide := true) only [jcmd1, reduceIte]; rw [if_pos hv])
theorem jx_pop (hc : jcode M pc = (18, a, b, k, n)) {v : Value} (hv : v.category = 1) : jx d M pc L (v :: st) σ = jx d M n L st σ := jx_go (by rw [hc]; rw [jcmd_1 (by decide)]; simp (decide := true) only [jcmd1, reduceIte]; rw [if_pos hv])
theorem jx_if0 (hc : jcode M pc = (19, a, b, k, n)) {x : Int32} : jx d M pc L (.int x :: st) σ = if jcnb a x 0 = true then jx d M b L st σ else jx d M n L st σ := by
  by_cases h : jcnb a x 0 = true
  · rw [if_pos h]; exact jx_go (by rw [hc]; rw [jcmd_1 (by decide)]; simp (decide := true) only [jcmd1, reduceIte, if_pos h])
  · rw [if_neg h]; exact jx_go (by rw [hc]; rw [jcmd_1 (by decide)]; simp (decide := true) only [jcmd1, reduceIte, if_neg h])
theorem jx_if2 (hc : jcode M pc = (20, a, b, k, n)) {x y : Int32} : jx d M pc L (.int y :: .int x :: st) σ = if jcnb a x y = true then jx d M b L st σ else jx d M n L st σ := by
  by_cases h : jcnb a x y = true
  · rw [if_pos h]; exact jx_go (by rw [hc]; rw [jcmd_1 (by decide)]; simp (decide := true) only [jcmd1, reduceIte, if_pos h])
  · rw [if_neg h]; exact jx_go (by rw [hc]; rw [jcmd_1 (by decide)]; simp (decide := true) only [jcmd1, reduceIte, if_neg h])
theorem jcnb0 (x y : Int32) : (jcnb 0 x y = true) = (x = y) := by simp [jcnb]
theorem jcnb1 (x y : Int32) : (jcnb 1 x y = true) = ¬ (x = y) := by simp [jcnb]
theorem jcnb2 (x y : Int32) : (jcnb 2 x y = true) = (x < y) := by simp [jcnb]
theorem jcnb3 (x y : Int32) : (jcnb 3 x y = true) = (y ≤ x) := by simp [jcnb]
theorem jcnb4 (x y : Int32) : (jcnb 4 x y = true) = (y < x) := by simp [jcnb]
theorem jcnb5 (x y : Int32) : (jcnb 5 x y = true) = (x ≤ y) := by simp [jcnb]
theorem jite {p q : Prop} [Decidable p] [Decidable q] {α : Type} {a b : α} (h : p = q) : (if p then a else b) = (if q then a else b) := by
  by_cases hp : p
  · rw [if_pos hp, if_pos (h ▸ hp)]
  · rw [if_neg hp, if_neg (fun z => hp (h ▸ z))]
theorem jx_ifeq (hc : jcode M pc = (19, 0, b, k, n)) {x : Int32} : jx d M pc L (.int x :: st) σ = if x = 0 then jx d M b L st σ else jx d M n L st σ := (jx_if0 hc).trans (jite (jcnb0 x 0))
theorem jx_iceq (hc : jcode M pc = (20, 0, b, k, n)) {x y : Int32} : jx d M pc L (.int y :: .int x :: st) σ = if x = y then jx d M b L st σ else jx d M n L st σ := (jx_if2 hc).trans (jite (jcnb0 x y))
theorem jx_ifne (hc : jcode M pc = (19, 1, b, k, n)) {x : Int32} : jx d M pc L (.int x :: st) σ = if ¬ (x = 0) then jx d M b L st σ else jx d M n L st σ := (jx_if0 hc).trans (jite (jcnb1 x 0))
theorem jx_icne (hc : jcode M pc = (20, 1, b, k, n)) {x y : Int32} : jx d M pc L (.int y :: .int x :: st) σ = if ¬ (x = y) then jx d M b L st σ else jx d M n L st σ := (jx_if2 hc).trans (jite (jcnb1 x y))
theorem jx_iflt (hc : jcode M pc = (19, 2, b, k, n)) {x : Int32} : jx d M pc L (.int x :: st) σ = if x < 0 then jx d M b L st σ else jx d M n L st σ := (jx_if0 hc).trans (jite (jcnb2 x 0))
theorem jx_iclt (hc : jcode M pc = (20, 2, b, k, n)) {x y : Int32} : jx d M pc L (.int y :: .int x :: st) σ = if x < y then jx d M b L st σ else jx d M n L st σ := (jx_if2 hc).trans (jite (jcnb2 x y))
theorem jx_ifge (hc : jcode M pc = (19, 3, b, k, n)) {x : Int32} : jx d M pc L (.int x :: st) σ = if 0 ≤ x then jx d M b L st σ else jx d M n L st σ := (jx_if0 hc).trans (jite (jcnb3 x 0))
theorem jx_icge (hc : jcode M pc = (20, 3, b, k, n)) {x y : Int32} : jx d M pc L (.int y :: .int x :: st) σ = if y ≤ x then jx d M b L st σ else jx d M n L st σ := (jx_if2 hc).trans (jite (jcnb3 x y))
theorem jx_ifgt (hc : jcode M pc = (19, 4, b, k, n)) {x : Int32} : jx d M pc L (.int x :: st) σ = if 0 < x then jx d M b L st σ else jx d M n L st σ := (jx_if0 hc).trans (jite (jcnb4 x 0))
theorem jx_icgt (hc : jcode M pc = (20, 4, b, k, n)) {x y : Int32} : jx d M pc L (.int y :: .int x :: st) σ = if y < x then jx d M b L st σ else jx d M n L st σ := (jx_if2 hc).trans (jite (jcnb4 x y))
theorem jx_ifle (hc : jcode M pc = (19, 5, b, k, n)) {x : Int32} : jx d M pc L (.int x :: st) σ = if x ≤ 0 then jx d M b L st σ else jx d M n L st σ := (jx_if0 hc).trans (jite (jcnb5 x 0))
theorem jx_icle (hc : jcode M pc = (20, 5, b, k, n)) {x y : Int32} : jx d M pc L (.int y :: .int x :: st) σ = if x ≤ y then jx d M b L st σ else jx d M n L st σ := (jx_if2 hc).trans (jite (jcnb5 x y))
theorem jx_iadd (hc : jcode M pc = (8, 0, b, k, n)) {x y : Int32} : jx d M pc L (.int y :: .int x :: st) σ = jx d M n L (.int (x + y) :: st) σ := jx_bin hc (by decide)
theorem jx_isub (hc : jcode M pc = (8, 1, b, k, n)) {x y : Int32} : jx d M pc L (.int y :: .int x :: st) σ = jx d M n L (.int (x - y) :: st) σ := jx_bin hc (by decide)
theorem jx_imul (hc : jcode M pc = (8, 2, b, k, n)) {x y : Int32} : jx d M pc L (.int y :: .int x :: st) σ = jx d M n L (.int (x * y) :: st) σ := jx_bin hc (by decide)
theorem jx_iand (hc : jcode M pc = (8, 3, b, k, n)) {x y : Int32} : jx d M pc L (.int y :: .int x :: st) σ = jx d M n L (.int (x &&& y) :: st) σ := jx_bin hc (by decide)
theorem jx_ior (hc : jcode M pc = (8, 4, b, k, n)) {x y : Int32} : jx d M pc L (.int y :: .int x :: st) σ = jx d M n L (.int (x ||| y) :: st) σ := jx_bin hc (by decide)
theorem jx_ixor (hc : jcode M pc = (8, 5, b, k, n)) {x y : Int32} : jx d M pc L (.int y :: .int x :: st) σ = jx d M n L (.int (x ^^^ y) :: st) σ := jx_bin hc (by decide)
theorem jx_ishl (hc : jcode M pc = (8, 6, b, k, n)) {x y : Int32} : jx d M pc L (.int y :: .int x :: st) σ = jx d M n L (.int (x <<< (y &&& 31)) :: st) σ := jx_bin hc (by decide)
theorem jx_ishr (hc : jcode M pc = (8, 7, b, k, n)) {x y : Int32} : jx d M pc L (.int y :: .int x :: st) σ = jx d M n L (.int (x >>> (y &&& 31)) :: st) σ := jx_bin hc (by decide)
theorem jx_goto (hc : jcode M pc = (21, a, b, k, n)) : jx d M pc L st σ = jx d M b L st σ := jx_go (by rw [hc]; rfl)
theorem jx_ifnull (hc : jcode M pc = (22, a, b, k, n)) {x : Nat} : jx d M pc L (.ref x :: st) σ = jx d M n L st σ := jx_go (by rw [hc]; rfl)
theorem jx_ifnullN (hc : jcode M pc = (22, a, b, k, n)) : jx d M pc L (.null :: st) σ = jx d M b L st σ := jx_go (by rw [hc]; rfl)
theorem jx_ifnn (hc : jcode M pc = (23, a, b, k, n)) {x : Nat} : jx d M pc L (.ref x :: st) σ = jx d M b L st σ := jx_go (by rw [hc]; rfl)
theorem jx_ifnnN (hc : jcode M pc = (23, a, b, k, n)) : jx d M pc L (.null :: st) σ = jx d M n L st σ := jx_go (by rw [hc]; rfl)
theorem jx_null (hc : jcode M pc = (24, a, b, k, n)) : jx d M pc L st σ = jx d M n L (.null :: st) σ := jx_go (by rw [hc]; rfl)
theorem jx_getI (hc : jcode M pc = (25, a, b, k, n)) (hk : ¬ jkd a = 1) {q t : Nat} (ht : 1 + a / 64 = t) (hT : jT σ q = t) : jx d M pc L (.ref q :: st) σ = jx d M n L (.int (jI σ a q) :: st) σ := by
  subst ht
  exact jx_go (by rw [hc]; rw [jcmd_2 (by decide) (by decide)]; simp (decide := true) only [jcmd2, reduceIte, hT]; rw [show jfv σ a q = .int (jI σ a q) from if_neg hk])
theorem jx_getR (hc : jcode M pc = (25, a, b, k, n)) (hk : jkd a = 1) {q t : Nat} (ht : 1 + a / 64 = t) (hT : jT σ q = t) : jx d M pc L (.ref q :: st) σ = jx d M n L (va_rf (jR σ a q) :: st) σ := by
  subst ht
  exact jx_go (by rw [hc]; rw [jcmd_2 (by decide) (by decide)]; simp (decide := true) only [jcmd2, reduceIte, hT]; rw [show jfv σ a q = va_rf (jR σ a q) from if_pos hk])
theorem jx_putI {op : Nat} (hop : op = 26 ∨ op = 27) (hc : jcode M pc = (op, a, b, k, n)) {q t : Nat} {x : Int32} (hk : jkd a = 0) (ht : 1 + a / 64 = t) (hT : jT σ q = t) : jx d M pc L (.int x :: .ref q :: st) σ = jx d M n L st (jsI σ a q x) := by
  subst ht
  have h : jput n a L (.int x :: .ref q :: st) σ = jgo n L st (jsI σ a q x) := by show (if _ then _ else _) = _; rw [if_pos ⟨hT, Or.inl hk⟩]
  rcases hop with rfl | rfl <;> exact jx_go (by rw [hc]; exact h)
theorem jx_putZ {op : Nat} (hop : op = 26 ∨ op = 27) (hc : jcode M pc = (op, a, b, k, n)) {q t : Nat} {x : Int32} (hk : jkd a = 2) (hx : x = 0 ∨ x = 1) (ht : 1 + a / 64 = t) (hT : jT σ q = t) : jx d M pc L (.int x :: .ref q :: st) σ = jx d M n L st (jsI σ a q x) := by
  subst ht
  have h : jput n a L (.int x :: .ref q :: st) σ = jgo n L st (jsI σ a q x) := by show (if _ then _ else _) = _; rw [if_pos ⟨hT, Or.inr ⟨hk, hx⟩⟩]
  rcases hop with rfl | rfl <;> exact jx_go (by rw [hc]; exact h)
theorem jx_putR {op : Nat} (hop : op = 26 ∨ op = 27) (hc : jcode M pc = (op, a, b, k, n)) {q t x : Nat} (hk : jkd a = 1) (ht : 1 + a / 64 = t) (hT : jT σ q = t) : jx d M pc L (.ref x :: .ref q :: st) σ = jx d M n L st (jsR σ a q (some x)) := by
  subst ht
  have h : jput n a L (.ref x :: .ref q :: st) σ = jgo n L st (jsR σ a q (some x)) := by show (if _ then _ else _) = _; rw [if_pos ⟨hT, hk⟩]
  rcases hop with rfl | rfl <;> exact jx_go (by rw [hc]; exact h)
theorem jx_iald (hc : jcode M pc = (28, a, b, k, n)) {q : Nat} {i : Int32} (hT : jT σ q = 20 ∨ jT σ q = 60) (hi : ¬ (i < 0 ∨ jN σ q ≤ i.toNatClampNeg)) : jx d M pc L (.int i :: .ref q :: st) σ = jx d M n L (.int (jA σ q i.toNatClampNeg) :: st) σ := jx_go (by rw [hc]; rw [jcmd_2 (by decide) (by decide)]; simp (decide := true) only [jcmd2, reduceIte]; rw [if_pos hT, if_neg hi])
theorem jx_iast (hc : jcode M pc = (29, a, b, k, n)) {q : Nat} {i x : Int32} (hT : jT σ q = 20) (hi : ¬ (i < 0 ∨ jN σ q ≤ i.toNatClampNeg)) : jx d M pc L (.int x :: .int i :: .ref q :: st) σ = jx d M n L st (jsA σ q i.toNatClampNeg x) := jx_go (by rw [hc]; rw [jcmd_2 (by decide) (by decide)]; simp (decide := true) only [jcmd2, reduceIte]; rw [if_pos hT, if_neg hi])
theorem jx_bald (hc : jcode M pc = (30, a, b, k, n)) {q : Nat} {i : Int32} (hT : jT σ q = 21 ∨ jT σ q = 22) (hi : ¬ (i < 0 ∨ jN σ q ≤ i.toNatClampNeg)) : jx d M pc L (.int i :: .ref q :: st) σ = jx d M n L (.int (jA σ q i.toNatClampNeg) :: st) σ := jx_go (by rw [hc]; rw [jcmd_2 (by decide) (by decide)]; simp (decide := true) only [jcmd2, reduceIte]; rw [if_pos hT, if_neg hi])
theorem jx_bast (hc : jcode M pc = (31, a, b, k, n)) {q : Nat} {i x : Int32} (hT : jT σ q = 21) (hi : ¬ (i < 0 ∨ jN σ q ≤ i.toNatClampNeg)) : jx d M pc L (.int x :: .int i :: .ref q :: st) σ = jx d M n L st (jsA σ q i.toNatClampNeg x.toInt8.toInt32) := jx_go (by rw [hc]; rw [jcmd_2 (by decide) (by decide)]; simp (decide := true) only [jcmd2, reduceIte]; rw [if_neg hi, if_pos hT])
theorem jx_zast (hc : jcode M pc = (31, a, b, k, n)) {q : Nat} {i x : Int32} (hT : jT σ q = 22) (hi : ¬ (i < 0 ∨ jN σ q ≤ i.toNatClampNeg)) : jx d M pc L (.int x :: .int i :: .ref q :: st) σ = jx d M n L st (jsA σ q i.toNatClampNeg (x &&& 1)) := jx_go (by rw [hc]; rw [jcmd_2 (by decide) (by decide)]; simp (decide := true) only [jcmd2, reduceIte]; rw [if_neg hi, if_neg (by omega), if_pos hT])
theorem jx_aald (hc : jcode M pc = (32, a, b, k, n)) {q t : Nat} {i : Int32} (hT : jT σ q = t) (ht : 30 ≤ t ∧ t < 50) (hi : ¬ (i < 0 ∨ jN σ q ≤ i.toNatClampNeg)) : jx d M pc L (.int i :: .ref q :: st) σ = jx d M n L (va_rf (jG σ q i.toNatClampNeg) :: st) σ := by
  subst hT
  exact jx_go (by rw [hc]; rw [jcmd_2 (by decide) (by decide)]; simp (decide := true) only [jcmd2, reduceIte]; rw [if_pos ht, if_neg hi])
theorem jx_aast (hc : jcode M pc = (33, a, b, k, n)) {q x t : Nat} {i : Int32} (hT : jT σ q = t) (hX : jT σ x + 29 = t) (ht : 30 ≤ t ∧ t < 50) (hi : ¬ (i < 0 ∨ jN σ q ≤ i.toNatClampNeg)) : jx d M pc L (.ref x :: .int i :: .ref q :: st) σ = jx d M n L st (jsG σ q i.toNatClampNeg (some x)) := by
  subst hT
  exact jx_go (by rw [hc]; rw [jcmd_2 (by decide) (by decide)]; simp (decide := true) only [jcmd2, reduceIte]; rw [if_pos ⟨ht.1, ht.2, hX⟩, if_neg hi])
theorem jx_alen (hc : jcode M pc = (34, a, b, k, n)) {q t : Nat} (hT : jT σ q = t) (ht : 20 ≤ t ∧ t ≤ 60) : jx d M pc L (.ref q :: st) σ = jx d M n L (.int (Int32.ofNat (jN σ q)) :: st) σ := by
  subst hT
  exact jx_go (by rw [hc]; rw [jcmd_2 (by decide) (by decide)]; simp (decide := true) only [jcmd2, reduceIte]; rw [if_pos ht])
theorem jx_new (hc : jcode M pc = (35, a, b, k, n)) {r : vw_C} (hr : jcl[a]? = some r) {w : Nat} (hw : r.2.2 = w) : jx d M pc L st σ = jx d M n L (.ref (jnx σ) :: st) (jnO σ a w) := by
  subst hw
  exact jx_go (by rw [hc]; rw [jcmd_2 (by decide) (by decide)]; simp (decide := true) only [jcmd2, reduceIte, hr])
theorem jx_newa (hc : jcode M pc = (36, a, b, k, n)) {x : Int32} (hx : ¬ (x < 0 ∨ 1000000 < x.toNatClampNeg)) : jx d M pc L (.int x :: st) σ = jx d M n L (.ref (jnx σ) :: st) (jnA σ a x.toNatClampNeg) := jx_go (by rw [hc]; rw [jcmd_2 (by decide) (by decide)]; simp (decide := true) only [jcmd2, reduceIte]; rw [if_neg hx])
theorem jx_newq (hc : jcode M pc = (37, a, b, k, n)) {x : Int32} (hx : ¬ (x < 0 ∨ 1000000 < x.toNatClampNeg)) : jx d M pc L (.int x :: st) σ = jx d M n L (.ref (jnx σ) :: st) (jnG σ a x.toNatClampNeg) := jx_go (by rw [hc]; rw [jcmd_2 (by decide) (by decide)]; simp (decide := true) only [jcmd2, reduceIte]; rw [if_neg hx])
theorem jx_callS {op : Nat} (hop : op = 38 ∨ op = 41) (hc : jcode M pc = (op, a, b, k, n)) {as rest s0 : List Value} {L0 : jL} (hs : s0 = as.reverse ++ rest) (hn : as.length = jna a) (hcs : jcs rest ≤ 8) (hl : (jlay as).length ≤ jml a) (hL : jent a as = L0) : jx (d + 1) M pc L s0 σ = (jx d a 0 L0 [] σ).bind (fun z => jx (d + 1) M n L (z.1.toList ++ rest) z.2) := by
  subst hL
  have h1 : s0.take (jna a) = as.reverse := by rw [hs, ← hn, ← List.length_reverse, List.take_left]
  have h2 : s0.drop (jna a) = rest := by rw [hs, ← hn, ← List.length_reverse, List.drop_left]
  have h : jcall a n false s0 σ = some (.inr (.inr (a, as, n, rest))) := by
    unfold jcall
    rw [h1, h2, List.reverse_reverse, if_neg]
    · simp
    · rw [hs, List.length_append, List.length_reverse]; omega
  rcases hop with rfl | rfl <;> exact jx_cl (by rw [hc]; exact h)
theorem jx_callV {op : Nat} (hop : op = 39 ∨ op = 40 ∨ op = 42 ∨ op = 43) (hc : jcode M pc = (op, a, b, k, n)) {q t : Nat} {as rest s0 : List Value} {L0 : jL} (hs : s0 = as.reverse ++ .ref q :: rest) (hn : as.length + 1 = jna a) (hcs : jcs rest ≤ 8) (hl : (jlay (.ref q :: as)).length ≤ jml a) (hL : jent a (.ref q :: as) = L0) (ht : 1 + jci a = t) (hT : jT σ q = t) : jx (d + 1) M pc L s0 σ = (jx d a 0 L0 [] σ).bind (fun z => jx (d + 1) M n L (z.1.toList ++ rest) z.2) := by
  subst hL
  subst ht
  have hs' : s0 = (.ref q :: as).reverse ++ rest := by rw [hs]; simp
  have hn' : (Value.ref q :: as).length = jna a := hn
  have h1 : s0.take (jna a) = (Value.ref q :: as).reverse := by rw [hs', ← hn', ← List.length_reverse, List.take_left]
  have h2 : s0.drop (jna a) = rest := by rw [hs', ← hn', ← List.length_reverse, List.drop_left]
  have h : jcall a n true s0 σ = some (.inr (.inr (a, .ref q :: as, n, rest))) := by
    unfold jcall
    rw [h1, h2, List.reverse_reverse, if_neg]
    · simp only [if_true]
      rw [if_pos hT]
    · rw [hs', List.length_append, List.length_reverse]; omega
  rcases hop with rfl | rfl | rfl | rfl <;> exact jx_cl (by rw [hc]; exact h)
theorem jx_obj (hc : jcode M pc = (44, a, b, k, n)) {q : Nat} (hcs : jcs st ≤ 8) : jx (d + 1) M pc L (.ref q :: st) σ = jx (d + 1) M n L st σ := jx_go (by rw [hc]; rw [jcmd_3 (by decide) (by decide) (by decide)]; simp (decide := true) only [jcmd3, reduceIte]; rw [if_pos ⟨Nat.succ_pos _, hcs⟩])
theorem jx_vret (hc : jcode M pc = (45, a, b, k, n)) : jx d M pc L [] σ = some (none, σ) := jx_ret (by rw [hc]; rfl)
theorem jx_iret (hc : jcode M pc = (46, a, b, k, n)) {x : Int32} : jx d M pc L [.int x] σ = some (some (.int x), σ) := jx_ret (by rw [hc]; rfl)
theorem jx_zret (hc : jcode M pc = (47, a, b, k, n)) {x : Int32} (hx : x &&& 1 = x) : jx d M pc L [.int x] σ = some (some (.int x), σ) := jx_ret (by rw [hc]; rw [jcmd_3 (by decide) (by decide) (by decide)]; simp (decide := true) only [jcmd3, reduceIte]; rw [if_pos hx])
theorem jx_aret (hc : jcode M pc = (48, a, b, k, n)) {x : Nat} : jx d M pc L [.ref x] σ = some (some (.ref x), σ) := jx_ret (by rw [hc]; rfl)
theorem jx_aretN (hc : jcode M pc = (48, a, b, k, n)) : jx d M pc L [.null] σ = some (some .null, σ) := jx_ret (by rw [hc]; rfl)
theorem jx_lret (hc : jcode M pc = (49, a, b, k, n)) {x : Int64} : jx d M pc L [.long x] σ = some (some (.long x), σ) := jx_ret (by rw [hc]; rfl)
theorem jx_tsw (hc : jcode M pc = (50, a, b, k, n)) {x : Int32} {lo hi : Int} {df t : Nat} {ts : List Nat} (ht : jts[a]? = some (lo, hi, df, ts)) (h1 : ¬ (x.toInt < lo ∨ hi < x.toInt)) (h2 : ts[(x.toInt - lo).toNat]? = some t) : jx d M pc L (.int x :: st) σ = jx d M t L st σ := jx_go (by rw [hc]; rw [jcmd_3 (by decide) (by decide) (by decide)]; simp (decide := true) only [jcmd3, reduceIte, ht]; rw [if_neg h1, h2])
theorem jx_tswD (hc : jcode M pc = (50, a, b, k, n)) {x : Int32} {lo hi : Int} {df : Nat} {ts : List Nat} (ht : jts[a]? = some (lo, hi, df, ts)) (h1 : x.toInt < lo ∨ hi < x.toInt) : jx d M pc L (.int x :: st) σ = jx d M df L st σ := jx_go (by rw [hc]; rw [jcmd_3 (by decide) (by decide) (by decide)]; simp (decide := true) only [jcmd3, reduceIte, ht]; rw [if_pos h1])
theorem jx_lsw (hc : jcode M pc = (51, a, b, k, n)) {x : Int32} {df : Nat} {ps : List (Int × Nat)} (ht : jls[a]? = some (df, ps)) : jx d M pc L (.int x :: st) σ = jx d M (jlk ps df x.toInt) L st σ := jx_go (by rw [hc]; rw [jcmd_3 (by decide) (by decide) (by decide)]; simp (decide := true) only [jcmd3, reduceIte, ht])
theorem jx_getsA (hc : jcode M pc = (52, a, b, k, n)) (ha : a = 1 ∨ a = 2) (hT : jT σ 3 = 61) : jx d M pc L st σ = jx d M n L (.ref a :: st) σ := jx_go (by rw [hc]; rw [jcmd_4 (by decide) (by decide) (by decide)]; simp (decide := true) only [jcmd4, reduceIte]; rw [if_pos ⟨hT, ha⟩])
theorem jx_ldcs (hc : jcode M pc = (53, a, b, k, n)) (hT : jT σ 3 = 61) : jx d M pc L st σ = jx d M n L (.ref 3 :: st) σ := jx_go (by rw [hc]; rw [jcmd_4 (by decide) (by decide) (by decide)]; simp (decide := true) only [jcmd4, reduceIte]; rw [if_pos hT])
theorem jx_getsI (hc : jcode M pc = (55, a, b, k, n)) (hT : jT σ 3 = 61) : jx d M pc L st σ = jx d M n L (.int 1 :: st) σ := jx_go (by rw [hc]; rw [jcmd_4 (by decide) (by decide) (by decide)]; simp (decide := true) only [jcmd4, reduceIte]; rw [if_pos hT])
theorem jx_getsF (hc : jcode M pc = (59, a, b, k, n)) (hT : jT σ 3 = 61) : jx d M pc L st σ = jx d M n L (va_rf (jR σ 0 3) :: st) σ := jx_go (by rw [hc]; rw [jcmd_4 (by decide) (by decide) (by decide)]; simp (decide := true) only [jcmd4, reduceIte]; rw [if_pos hT])
theorem jx_getV (hc : jcode M pc = (57, a, b, k, n)) (hT : jT σ 3 = 61) : jx d M pc L (.ref 3 :: st) σ = jx d M n L (.ref 4 :: st) σ := jx_go (by rw [hc]; rw [jcmd_4 (by decide) (by decide) (by decide)]; simp (decide := true) only [jcmd4, reduceIte]; rw [if_pos ⟨trivial, hT⟩])
theorem jx_getC (hc : jcode M pc = (58, a, b, k, n)) (hT : jT σ 3 = 61) : jx d M pc L (.ref 3 :: st) σ = jx d M n L (.int 0 :: st) σ := jx_go (by rw [hc]; rw [jcmd_4 (by decide) (by decide) (by decide)]; simp (decide := true) only [jcmd4, reduceIte]; rw [if_pos ⟨trivial, hT⟩])
theorem jx_i2c (hc : jcode M pc = (60, a, b, k, n)) {x : Int32} : jx d M pc L (.int x :: st) σ = jx d M n L (.int (x.toUInt32 % 65536).toInt32 :: st) σ := jx_go (by rw [hc]; rfl)
theorem jx_cret (hc : jcode M pc = (61, 0, b, k, n)) {x : Int32} (hx : x.toUInt32.toUInt16.toUInt32.toInt32 = x) : jx d M pc L [.int x] σ = some (some (.int x), σ) := jx_ret (by rw [hc]; rw [jcmd_4 (by decide) (by decide) (by decide)]; simp (decide := true) only [jcmd4, reduceIte]; rw [if_pos (Or.inl ⟨trivial, hx⟩)])
theorem jx_bret (hc : jcode M pc = (61, 1, b, k, n)) {x : Int32} (hx : x.toInt8.toInt32 = x) : jx d M pc L [.int x] σ = some (some (.int x), σ) := jx_ret (by rw [hc]; rw [jcmd_4 (by decide) (by decide) (by decide)]; simp (decide := true) only [jcmd4, reduceIte]; rw [if_pos (Or.inr ⟨trivial, hx⟩)])
theorem jx_tbald (hc : jcode M pc = (62, a, b, k, n)) {i : Int32} (hT : jT σ 3 = 61) (hi : ¬ (i < 0 ∨ 57 ≤ i.toNatClampNeg)) : jx d M pc L (.int i :: .ref 4 :: st) σ = jx d M n L (.int (jnmb i.toNatClampNeg) :: st) σ := jx_go (by rw [hc]; rw [jcmd_4 (by decide) (by decide) (by decide)]; simp (decide := true) only [jcmd4, reduceIte]; rw [if_pos ⟨⟨trivial, hT⟩, hi⟩])
theorem jx_tlen (hc : jcode M pc = (63, a, b, k, n)) (hT : jT σ 3 = 61) : jx d M pc L (.ref 4 :: st) σ = jx d M n L (.int 57 :: st) σ := jx_go (by rw [hc]; rw [jcmd_4 (by decide) (by decide) (by decide)]; simp (decide := true) only [jcmd4, reduceIte]; rw [if_pos ⟨trivial, hT⟩])
theorem jx_acpy (hc : jcode M pc = (56, a, b, k, n)) {p q : Nat} {i y x : Int32} (hp : jT σ p = 20) (hq : jT σ q = 20) (hcs : jcs st ≤ 8) (hi : ¬ i < 0 ∧ ¬ y < 0 ∧ ¬ x < 0) (h1 : i.toNatClampNeg + x.toNatClampNeg ≤ jN σ p) (h2 : y.toNatClampNeg + x.toNatClampNeg ≤ jN σ q) : jx (d + 1) M pc L (.int x :: .int y :: .ref q :: .int i :: .ref p :: st) σ = jx (d + 1) M n L st (jcp σ p i.toNatClampNeg q y.toNatClampNeg x.toNatClampNeg) := jx_go (by rw [hc]; rw [jcmd_4 (by decide) (by decide) (by decide)]; simp (decide := true) only [jcmd4, reduceIte]; rw [if_pos ⟨⟨hp, hq⟩, ⟨Nat.succ_pos _, hcs⟩, hi, h1, h2⟩])
theorem jx_callT (hc : jcode M pc = (54, a, b, k, n)) {as rest s0 : List Value} {L0 : jL} (hs : s0 = as.reverse ++ .ref 3 :: rest) (hn : as.length + 1 = jna a) (hcs : jcs rest ≤ 8) (hl : (jlay (.ref 3 :: as)).length ≤ jml a) (hL : jent a (.ref 3 :: as) = L0) (hT : jT σ 3 = 61) : jx (d + 1) M pc L s0 σ = (jx d a 0 L0 [] σ).bind (fun z => jx (d + 1) M n L (z.1.toList ++ rest) z.2) := by
  subst hL
  have hs' : s0 = (.ref 3 :: as).reverse ++ rest := by rw [hs]; simp
  have hn' : (Value.ref 3 :: as).length = jna a := hn
  have h1 : s0.take (jna a) = (Value.ref 3 :: as).reverse := by rw [hs', ← hn', ← List.length_reverse, List.take_left]
  have h2 : s0.drop (jna a) = rest := by rw [hs', ← hn', ← List.length_reverse, List.drop_left]
  have h : jcall a n false s0 σ = some (.inr (.inr (a, .ref 3 :: as, n, rest))) := by
    unfold jcall
    rw [h1, h2, List.reverse_reverse, if_neg]
    · simp
    · rw [hs', List.length_append, List.length_reverse]; omega
  refine jx_cl ?_
  rw [hc, jcmd_4 (by decide) (by decide) (by decide)]
  simp (decide := true) only [jcmd4, reduceIte]
  rw [h1, List.reverse_reverse]
  simp only
  rw [if_pos ⟨trivial, hT⟩]
  exact h
end JXO
/-! Math's three -/
theorem jx_min (d : Nat) (x y : Int32) (σ : jS) : jx d 5 0 [some (.int x), some (.int y)] [] σ = some (some (.int (if y < x then y else x)), σ) := by
  rw [jx_iload (M := 5) (pc := 0) rfl rfl, jx_iload (M := 5) (pc := 1) rfl rfl, jx_icgt (M := 5) (pc := 2) rfl]
  by_cases h : y < x
  · rw [if_pos h, if_pos h, jx_iload (M := 5) (pc := 9) rfl rfl, jx_iret (M := 5) (pc := 10) rfl]
  · rw [if_neg h, if_neg h, jx_iload (M := 5) (pc := 5) rfl rfl, jx_goto (M := 5) (pc := 6) rfl, jx_iret (M := 5) (pc := 10) rfl]
theorem jx_max (d : Nat) (x y : Int32) (σ : jS) : jx d 6 0 [some (.int x), some (.int y)] [] σ = some (some (.int (if x < y then y else x)), σ) := by
  rw [jx_iload (M := 6) (pc := 0) rfl rfl, jx_iload (M := 6) (pc := 1) rfl rfl, jx_iclt (M := 6) (pc := 2) rfl]
  by_cases h : x < y
  · rw [if_pos h, if_pos h, jx_iload (M := 6) (pc := 9) rfl rfl, jx_iret (M := 6) (pc := 10) rfl]
  · rw [if_neg h, if_neg h, jx_iload (M := 6) (pc := 5) rfl rfl, jx_goto (M := 6) (pc := 6) rfl, jx_iret (M := 6) (pc := 10) rfl]
theorem jx_lmin (d : Nat) (x y : Int64) (σ : jS) : jx d 55 0 [some (.long x), none, some (.long y), none] [] σ = some (some (.long (if y < x then y else x)), σ) := by
  rw [jx_lload (M := 55) (pc := 0) rfl rfl, jx_lload (M := 55) (pc := 1) rfl rfl, jx_lcmp (M := 55) (pc := 2) rfl, jx_ifgt (M := 55) (pc := 3) rfl]
  by_cases h : y < x
  · have h2 : (0 : Int32) < lg_cmp x y := by unfold lg_cmp; rw [if_pos h]; decide
    rw [if_pos h2, if_pos h, jx_lload (M := 55) (pc := 10) rfl rfl, jx_lret (M := 55) (pc := 11) rfl]
  · have h2 : ¬ (0 : Int32) < lg_cmp x y := by
      unfold lg_cmp
      rw [if_neg h]
      by_cases h3 : x = y
      · rw [if_pos h3]; decide
      · rw [if_neg h3]; decide
    rw [if_neg h2, if_neg h, jx_lload (M := 55) (pc := 6) rfl rfl, jx_goto (M := 55) (pc := 7) rfl, jx_lret (M := 55) (pc := 11) rfl]
end
section
/-! Math's three, by the kit's own rows -/
section JMT
variable {D : jD} {M : Nat} {p : Program} {l : Launch} {e : Env} {R : Room} {s : State} {m : MethodId} {args : Array Value} {below : List Frame} {meth : Method} {c : Code} {Q : State → Prop} {n1 s1 pc n : Nat} {L : jL} {st : List Value} {σ σ1 : jS} {r : Option Value}
theorem jst2c {st : List Value} (h : 2 ≤ st.length) : ∃ v w t, st = v :: w :: t := by
  match st, h with
  | v :: w :: t, _ => exact ⟨v, w, t, rfl⟩
theorem jo_mathS (C : jCtx D M p s m args meth c) {a b d f : Nat} {k : Int} (hma : a = 5 ∨ a = 6 ∨ a = 55) (h : jchk3 M pc 38 a b k n = true) (hlen : jna a ≤ st.length) (hcs : jcs (st.drop (jna a)) ≤ 8) (h1 : jrn f d a 0 (jent a ((st.take (jna a)).reverse)) [] σ = some (r, σ1))
    (hf : d + 1 ≤ R.frames) (hlc : 36 * (d + 1) ≤ R.locals) (hRc : jnx σ - n1 ≤ R.cells) (hRs : jsl σ - s1 ≤ R.slots) (kk : jK D M p l e R s m args below meth c Q n1 s1 n L (r.toList ++ st.drop (jna a)) σ1) : jK D M p l e R s m args below meth c Q n1 s1 pc L st σ := by
  have h : (jdc M pc (.invokestatic b) 3 n && jwd k.toNat (.methodLink (jown M) b (jget a).1) && jmS a) = true := h
  simp only [Bool.and_eq_true] at h
  obtain ⟨⟨hd, hlink⟩, hmS⟩ := h
  obtain ⟨hdd, rfl⟩ := jdc_of hd
  unfold jmS at hmS
  simp only [Bool.and_eq_true, decide_eq_true_eq] at hmS
  obtain ⟨⟨hmk, hst⟩, hpar⟩ := hmS
  obtain ⟨w1, w2, w3, w4⟩ := jmk_of hmk
  obtain ⟨hx, hb, hml, hown, hts, hK, hin⟩ := C
  have hx1 := jx_of h1
  have j5 : jna 5 = 2 := rfl
  have j6 : jna 6 = 2 := rfl
  have j55 : jna 55 = 2 := rfl
  have hlen2 : 2 ≤ st.length := by rcases hma with rfl | rfl | rfl <;> exact hlen
  obtain ⟨v, w, t, rfl⟩ := jst2c hlen2
  have rm : ∀ (ls : Array Slot), ((t.map (jv D)).map fun v => v.category).sum + 15 ≤ R.locals := by
    intro ls
    rw [jcs_sum]
    have hc8 : jcs t ≤ 8 := by rcases hma with rfl | rfl | rfl <;> exact hcs
    omega
  rcases hma with rfl | rfl | rfl
  · have hx1 : jx d 5 0 (jent 5 [w, v]) [] σ = some (r, σ1) := hx1
    cases w with
    | int x =>
      cases v with
      | int y =>
        have h2 : jx d 5 0 [some (.int x), some (.int y)] [] σ = some (r, σ1) := hx1
        rw [jx_min] at h2
        cases h2
        intro H locs ls hl hr hlo
        have kk := kk H locs ls hl hr hlo
        exact va_mmin hx hb (by rw [hml]; exact hl.1.symm) hown (hts _ (jw_of hlink rfl)) (hts _ (jw_of hst rfl)) (hts _ w2) (hts _ w1) (by omega) (by have := rm ls; omega) hRc hRs hdd kk
      | _ => exfalso; have h2 : jx d 5 1 _ _ σ = some (r, σ1) := (jx_iload (M := 5) (pc := 0) (x := x) rfl rfl).symm.trans hx1; rw [jx_un] at h2; cases h2
    | _ => exfalso; rw [jx_un] at hx1; cases hx1
  · have hx1 : jx d 6 0 (jent 6 [w, v]) [] σ = some (r, σ1) := hx1
    cases w with
    | int x =>
      cases v with
      | int y =>
        have h2 : jx d 6 0 [some (.int x), some (.int y)] [] σ = some (r, σ1) := hx1
        rw [jx_max] at h2
        cases h2
        intro H locs ls hl hr hlo
        have kk := kk H locs ls hl hr hlo
        exact va_mmax hx hb (by rw [hml]; exact hl.1.symm) hown (hts _ (jw_of hlink rfl)) (hts _ (jw_of hst rfl)) (hts _ w2) (hts _ w1) (by omega) (by have := rm ls; omega) hRc hRs hdd kk
      | _ => exfalso; have h2 : jx d 6 1 _ _ σ = some (r, σ1) := (jx_iload (M := 6) (pc := 0) (x := x) rfl rfl).symm.trans hx1; rw [jx_un] at h2; cases h2
    | _ => exfalso; rw [jx_un] at hx1; cases hx1
  · have hx1 : jx d 55 0 (jent 55 [w, v]) [] σ = some (r, σ1) := hx1
    cases w with
    | long x =>
      cases v with
      | long y =>
        have h2 : jx d 55 0 [some (.long x), none, some (.long y), none] [] σ = some (r, σ1) := hx1
        rw [jx_lmin] at h2
        cases h2
        intro H locs ls hl hr hlo
        have kk := kk H locs ls hl hr hlo
        intro T hT X
        obtain ⟨vm', X', sp⟩ := va_min_longV X hx hown (hts _ (jw_of hlink rfl)) (hts _ (jw_of hst rfl)) (hts _ w2) (hts _ w1) (g := F0 m pc ls (.long y :: .long x :: t.map (jv D))) rfl (by rw [hml]; exact hl.1) (a := x) (b := y) (rest := t.map (jv D)) rfl (by rw [hb]; exact hdd) (by omega) (by show 2 * 0 + _ + 15 ≤ _; have := rm ls; omega) hRc hRs
        obtain ⟨t2, a1, b1⟩ := kk (T.setVm vm') hT X'
        exact ⟨t2, sp t2 a1, b1⟩
      | _ => exfalso; have h2 : jx d 55 1 _ _ σ = some (r, σ1) := (jx_lload (M := 55) (pc := 0) (x := x) rfl rfl).symm.trans hx1; rw [jx_un] at h2; cases h2
    | _ => exfalso; rw [jx_un] at hx1; cases hx1
end JMT
end
section
theorem jmaths : (List.range 205).all (fun M => !(decide (jown M = "java/lang/Math")) || (decide (M = 5) || (decide (M = 6) || decide (M = 55)))) = true := by decide +kernel
theorem jplains : (List.range 205).all (fun M => decide (jown M = "java/lang/Math") || Jvm.plainName (jown M)) = true := by decide +kernel
theorem jmk_lt {M : Nat} (h : jmk M = true) : M < 205 := by
  rcases Nat.lt_or_ge M 205 with q | q
  · exact q
  · exfalso
    have e : jget M = jm_no := by
      unfold jget
      rw [List.getD, List.getElem?_eq_none (by exact q)]
      rfl
    have : jmk M = (jwd 0 (.code jm_no.1 jm_no.2.1 0 none) && jwd 0 (.initialized "") && decide ("" ≠ "java/lang/invoke/MethodHandle" ∧ "" ≠ "java/lang/invoke/VarHandle") && decide (0 ≤ 17)) := by
      unfold jmk jhint jbs jml jret jown
      rw [e]
      rfl
    rw [this] at h
    simp only [Bool.and_eq_true] at h
    have h0 := of_decide_eq_true h.1.1.1
    revert h0
    decide +kernel
theorem jmath_ix {a : Nat} (h : jmk a = true) (hm : jown a = "java/lang/Math") : a = 5 ∨ a = 6 ∨ a = 55 := by
  have h2 := List.all_eq_true.mp jmaths a (List.mem_range.mpr (jmk_lt h))
  simp only [hm, decide_true, Bool.not_true, Bool.false_or, Bool.or_eq_true, decide_eq_true_eq] at h2
  exact h2
theorem jplain_of {a : Nat} (h : jmk a = true) (hm : ¬ jown a = "java/lang/Math") : Jvm.plainName (jown a) = true := by
  have h2 := List.all_eq_true.mp jplains a (List.mem_range.mpr (jmk_lt h))
  rw [Bool.or_eq_true, decide_eq_true_eq] at h2
  exact h2.resolve_left hm
theorem jplcl : jcl.all (fun c => Jvm.plainName c.1) = true := by decide +kernel
theorem jplain_cl {a : Nat} (h : (jcl[jci a]?).map (fun c => c.1) = some (jown a)) : Jvm.plainName (jown a) = true := by
  cases hc : jcl[jci a]? with
  | none => rw [hc] at h; cases h
  | some z =>
    rw [hc] at h
    have hz : z.1 = jown a := Option.some.inj h
    rw [← hz]
    exact List.all_eq_true.mp jplcl z (List.mem_of_getElem? hc)
def jnm : Jvm.Cond → Bool
  | .methodLinkNest _ _ y _ => decide (¬ y.cls = "java/lang/Math")
  | _ => true
theorem jnms : lw_tbl.all jnm = true := by decide +kernel
theorem jplain_nest {a b i : Nat} {o h0 : String} (h : jmk a = true) (hw : jwd i (.methodLinkNest o b (jget a).1 h0) = true) : Jvm.plainName (jown a) = true := by
  refine jplain_of h ?_
  have h2 := List.all_eq_true.mp jnms _ (List.mem_of_getElem? (of_decide_eq_true hw))
  exact of_decide_eq_true h2
end
section
/-! the J machine's run is a run of the machine -/
def jEnd (M pc : Nat) (r : Option Value) : Prop :=
  (r = none ∧ decode (jbs M) pc = .ok (.return_, 1) ∧ jret M = none) ∨
  (∃ x : Int32, r = some (.int x) ∧ decode (jbs M) pc = .ok (.ireturn, 1) ∧ (jret M = some .int ∨ ∃ ty, jret M = some ty ∧ narrow ty (.int x) = .int x)) ∨
  (∃ (v : Value) (nm : String), r = some v ∧ (v = .null ∨ ∃ a, v = .ref a) ∧ decode (jbs M) pc = .ok (.areturn, 1) ∧ jret M = some (.object nm)) ∨
  (∃ x : Int64, r = some (.long x) ∧ decode (jbs M) pc = .ok (.lreturn, 1) ∧ jret M = some .long)
theorem jc_add {α : Type} {p : α → Bool} {l : List α} {i j : Nat} (h1 : ((l.drop i).take j).all p = true) (h2 : (l.drop (i + j)).all p = true) : (l.drop i).all p = true := by
  rw [← List.take_append_drop j (l.drop i), List.all_append, h1, List.drop_drop]
  simpa using h2
theorem jc_end {α : Type} {p : α → Bool} {l : List α} {i : Nat} (h : decide (l.length ≤ i) = true) : (l.drop i).all p = true := by
  rw [List.drop_eq_nil_of_le (of_decide_eq_true h)]
  rfl
theorem ja_0 : (jget 0).2.2.2.2.2.2.2.all (fun q => jchk 0 q.1 q.2) = true := (jc_add (i := 0) (j := 60) jk_0_0 (jc_add (i := 60) (j := 60) jk_0_1 (jc_add (i := 120) (j := 60) jk_0_2 (jc_add (i := 180) (j := 60) jk_0_3 (jc_add (i := 240) (j := 60) jk_0_4 (jc_add (i := 300) (j := 60) jk_0_5 (jc_add (i := 360) (j := 60) jk_0_6 (jc_add (i := 420) (j := 60) jk_0_7 (jc_add (i := 480) (j := 60) jk_0_8 (jc_add (i := 540) (j := 60) jk_0_9 (jc_add (i := 600) (j := 59) jk_0_10 (jc_end (i := 659) (by decide +kernel)))))))))))))
theorem ja_1 : (jget 1).2.2.2.2.2.2.2.all (fun q => jchk 1 q.1 q.2) = true := (jc_add (i := 0) (j := 62) jk_1_0 (jc_end (i := 62) (by decide +kernel)))
theorem ja_2 : (jget 2).2.2.2.2.2.2.2.all (fun q => jchk 2 q.1 q.2) = true := (jc_add (i := 0) (j := 39) jk_2_0 (jc_end (i := 39) (by decide +kernel)))
theorem ja_3 : (jget 3).2.2.2.2.2.2.2.all (fun q => jchk 3 q.1 q.2) = true := (jc_add (i := 0) (j := 10) jk_3_0 (jc_end (i := 10) (by decide +kernel)))
theorem ja_4 : (jget 4).2.2.2.2.2.2.2.all (fun q => jchk 4 q.1 q.2) = true := (jc_add (i := 0) (j := 14) jk_4_0 (jc_end (i := 14) (by decide +kernel)))
theorem ja_5 : (jget 5).2.2.2.2.2.2.2.all (fun q => jchk 5 q.1 q.2) = true := (jc_add (i := 0) (j := 7) jk_5_0 (jc_end (i := 7) (by decide +kernel)))
theorem ja_6 : (jget 6).2.2.2.2.2.2.2.all (fun q => jchk 6 q.1 q.2) = true := (jc_add (i := 0) (j := 7) jk_6_0 (jc_end (i := 7) (by decide +kernel)))
theorem ja_7 : (jget 7).2.2.2.2.2.2.2.all (fun q => jchk 7 q.1 q.2) = true := (jc_add (i := 0) (j := 7) jk_7_0 (jc_end (i := 7) (by decide +kernel)))
theorem ja_8 : (jget 8).2.2.2.2.2.2.2.all (fun q => jchk 8 q.1 q.2) = true := (jc_add (i := 0) (j := 29) jk_8_0 (jc_end (i := 29) (by decide +kernel)))
theorem ja_9 : (jget 9).2.2.2.2.2.2.2.all (fun q => jchk 9 q.1 q.2) = true := (jc_add (i := 0) (j := 20) jk_9_0 (jc_end (i := 20) (by decide +kernel)))
theorem ja_10 : (jget 10).2.2.2.2.2.2.2.all (fun q => jchk 10 q.1 q.2) = true := (jc_add (i := 0) (j := 11) jk_10_0 (jc_end (i := 11) (by decide +kernel)))
theorem ja_11 : (jget 11).2.2.2.2.2.2.2.all (fun q => jchk 11 q.1 q.2) = true := (jc_add (i := 0) (j := 10) jk_11_0 (jc_end (i := 10) (by decide +kernel)))
theorem ja_12 : (jget 12).2.2.2.2.2.2.2.all (fun q => jchk 12 q.1 q.2) = true := (jc_add (i := 0) (j := 24) jk_12_0 (jc_end (i := 24) (by decide +kernel)))
theorem ja_13 : (jget 13).2.2.2.2.2.2.2.all (fun q => jchk 13 q.1 q.2) = true := (jc_add (i := 0) (j := 30) jk_13_0 (jc_end (i := 30) (by decide +kernel)))
theorem ja_14 : (jget 14).2.2.2.2.2.2.2.all (fun q => jchk 14 q.1 q.2) = true := (jc_add (i := 0) (j := 12) jk_14_0 (jc_end (i := 12) (by decide +kernel)))
theorem ja_15 : (jget 15).2.2.2.2.2.2.2.all (fun q => jchk 15 q.1 q.2) = true := (jc_add (i := 0) (j := 28) jk_15_0 (jc_end (i := 28) (by decide +kernel)))
theorem ja_16 : (jget 16).2.2.2.2.2.2.2.all (fun q => jchk 16 q.1 q.2) = true := (jc_add (i := 0) (j := 19) jk_16_0 (jc_end (i := 19) (by decide +kernel)))
theorem ja_17 : (jget 17).2.2.2.2.2.2.2.all (fun q => jchk 17 q.1 q.2) = true := (jc_add (i := 0) (j := 63) jk_17_0 (jc_end (i := 63) (by decide +kernel)))
theorem ja_18 : (jget 18).2.2.2.2.2.2.2.all (fun q => jchk 18 q.1 q.2) = true := (jc_add (i := 0) (j := 36) jk_18_0 (jc_end (i := 36) (by decide +kernel)))
theorem ja_19 : (jget 19).2.2.2.2.2.2.2.all (fun q => jchk 19 q.1 q.2) = true := (jc_add (i := 0) (j := 23) jk_19_0 (jc_end (i := 23) (by decide +kernel)))
theorem ja_20 : (jget 20).2.2.2.2.2.2.2.all (fun q => jchk 20 q.1 q.2) = true := (jc_add (i := 0) (j := 36) jk_20_0 (jc_end (i := 36) (by decide +kernel)))
theorem ja_21 : (jget 21).2.2.2.2.2.2.2.all (fun q => jchk 21 q.1 q.2) = true := (jc_add (i := 0) (j := 36) jk_21_0 (jc_end (i := 36) (by decide +kernel)))
theorem ja_22 : (jget 22).2.2.2.2.2.2.2.all (fun q => jchk 22 q.1 q.2) = true := (jc_add (i := 0) (j := 24) jk_22_0 (jc_end (i := 24) (by decide +kernel)))
theorem ja_23 : (jget 23).2.2.2.2.2.2.2.all (fun q => jchk 23 q.1 q.2) = true := (jc_add (i := 0) (j := 18) jk_23_0 (jc_end (i := 18) (by decide +kernel)))
theorem ja_24 : (jget 24).2.2.2.2.2.2.2.all (fun q => jchk 24 q.1 q.2) = true := (jc_add (i := 0) (j := 21) jk_24_0 (jc_end (i := 21) (by decide +kernel)))
theorem ja_25 : (jget 25).2.2.2.2.2.2.2.all (fun q => jchk 25 q.1 q.2) = true := (jc_add (i := 0) (j := 20) jk_25_0 (jc_end (i := 20) (by decide +kernel)))
theorem ja_26 : (jget 26).2.2.2.2.2.2.2.all (fun q => jchk 26 q.1 q.2) = true := (jc_add (i := 0) (j := 58) jk_26_0 (jc_end (i := 58) (by decide +kernel)))
theorem ja_27 : (jget 27).2.2.2.2.2.2.2.all (fun q => jchk 27 q.1 q.2) = true := (jc_add (i := 0) (j := 44) jk_27_0 (jc_end (i := 44) (by decide +kernel)))
theorem ja_28 : (jget 28).2.2.2.2.2.2.2.all (fun q => jchk 28 q.1 q.2) = true := (jc_add (i := 0) (j := 23) jk_28_0 (jc_end (i := 23) (by decide +kernel)))
theorem ja_29 : (jget 29).2.2.2.2.2.2.2.all (fun q => jchk 29 q.1 q.2) = true := (jc_add (i := 0) (j := 16) jk_29_0 (jc_end (i := 16) (by decide +kernel)))
theorem ja_30 : (jget 30).2.2.2.2.2.2.2.all (fun q => jchk 30 q.1 q.2) = true := (jc_add (i := 0) (j := 49) jk_30_0 (jc_end (i := 49) (by decide +kernel)))
theorem ja_31 : (jget 31).2.2.2.2.2.2.2.all (fun q => jchk 31 q.1 q.2) = true := (jc_add (i := 0) (j := 7) jk_31_0 (jc_end (i := 7) (by decide +kernel)))
theorem ja_32 : (jget 32).2.2.2.2.2.2.2.all (fun q => jchk 32 q.1 q.2) = true := (jc_add (i := 0) (j := 9) jk_32_0 (jc_end (i := 9) (by decide +kernel)))
theorem ja_33 : (jget 33).2.2.2.2.2.2.2.all (fun q => jchk 33 q.1 q.2) = true := (jc_add (i := 0) (j := 22) jk_33_0 (jc_end (i := 22) (by decide +kernel)))
theorem ja_34 : (jget 34).2.2.2.2.2.2.2.all (fun q => jchk 34 q.1 q.2) = true := (jc_add (i := 0) (j := 12) jk_34_0 (jc_end (i := 12) (by decide +kernel)))
theorem ja_35 : (jget 35).2.2.2.2.2.2.2.all (fun q => jchk 35 q.1 q.2) = true := (jc_add (i := 0) (j := 15) jk_35_0 (jc_end (i := 15) (by decide +kernel)))
theorem ja_36 : (jget 36).2.2.2.2.2.2.2.all (fun q => jchk 36 q.1 q.2) = true := (jc_add (i := 0) (j := 59) jk_36_0 (jc_end (i := 59) (by decide +kernel)))
theorem ja_37 : (jget 37).2.2.2.2.2.2.2.all (fun q => jchk 37 q.1 q.2) = true := (jc_add (i := 0) (j := 33) jk_37_0 (jc_end (i := 33) (by decide +kernel)))
theorem ja_38 : (jget 38).2.2.2.2.2.2.2.all (fun q => jchk 38 q.1 q.2) = true := (jc_add (i := 0) (j := 20) jk_38_0 (jc_end (i := 20) (by decide +kernel)))
theorem ja_39 : (jget 39).2.2.2.2.2.2.2.all (fun q => jchk 39 q.1 q.2) = true := (jc_add (i := 0) (j := 66) jk_39_0 (jc_end (i := 66) (by decide +kernel)))
theorem ja_40 : (jget 40).2.2.2.2.2.2.2.all (fun q => jchk 40 q.1 q.2) = true := (jc_add (i := 0) (j := 15) jk_40_0 (jc_end (i := 15) (by decide +kernel)))
theorem ja_41 : (jget 41).2.2.2.2.2.2.2.all (fun q => jchk 41 q.1 q.2) = true := (jc_add (i := 0) (j := 10) jk_41_0 (jc_end (i := 10) (by decide +kernel)))
theorem ja_42 : (jget 42).2.2.2.2.2.2.2.all (fun q => jchk 42 q.1 q.2) = true := (jc_add (i := 0) (j := 60) jk_42_0 (jc_add (i := 60) (j := 17) jk_42_1 (jc_end (i := 77) (by decide +kernel))))
theorem ja_43 : (jget 43).2.2.2.2.2.2.2.all (fun q => jchk 43 q.1 q.2) = true := (jc_add (i := 0) (j := 10) jk_43_0 (jc_end (i := 10) (by decide +kernel)))
theorem ja_44 : (jget 44).2.2.2.2.2.2.2.all (fun q => jchk 44 q.1 q.2) = true := (jc_add (i := 0) (j := 54) jk_44_0 (jc_end (i := 54) (by decide +kernel)))
theorem ja_45 : (jget 45).2.2.2.2.2.2.2.all (fun q => jchk 45 q.1 q.2) = true := (jc_add (i := 0) (j := 19) jk_45_0 (jc_end (i := 19) (by decide +kernel)))
theorem ja_46 : (jget 46).2.2.2.2.2.2.2.all (fun q => jchk 46 q.1 q.2) = true := (jc_add (i := 0) (j := 24) jk_46_0 (jc_end (i := 24) (by decide +kernel)))
theorem ja_47 : (jget 47).2.2.2.2.2.2.2.all (fun q => jchk 47 q.1 q.2) = true := (jc_add (i := 0) (j := 26) jk_47_0 (jc_end (i := 26) (by decide +kernel)))
theorem ja_48 : (jget 48).2.2.2.2.2.2.2.all (fun q => jchk 48 q.1 q.2) = true := (jc_add (i := 0) (j := 44) jk_48_0 (jc_end (i := 44) (by decide +kernel)))
theorem ja_49 : (jget 49).2.2.2.2.2.2.2.all (fun q => jchk 49 q.1 q.2) = true := (jc_add (i := 0) (j := 60) jk_49_0 (jc_add (i := 60) (j := 20) jk_49_1 (jc_end (i := 80) (by decide +kernel))))
theorem ja_50 : (jget 50).2.2.2.2.2.2.2.all (fun q => jchk 50 q.1 q.2) = true := (jc_add (i := 0) (j := 24) jk_50_0 (jc_end (i := 24) (by decide +kernel)))
theorem ja_51 : (jget 51).2.2.2.2.2.2.2.all (fun q => jchk 51 q.1 q.2) = true := (jc_add (i := 0) (j := 20) jk_51_0 (jc_end (i := 20) (by decide +kernel)))
theorem ja_52 : (jget 52).2.2.2.2.2.2.2.all (fun q => jchk 52 q.1 q.2) = true := (jc_add (i := 0) (j := 14) jk_52_0 (jc_end (i := 14) (by decide +kernel)))
theorem ja_53 : (jget 53).2.2.2.2.2.2.2.all (fun q => jchk 53 q.1 q.2) = true := (jc_add (i := 0) (j := 41) jk_53_0 (jc_end (i := 41) (by decide +kernel)))
theorem ja_54 : (jget 54).2.2.2.2.2.2.2.all (fun q => jchk 54 q.1 q.2) = true := (jc_add (i := 0) (j := 15) jk_54_0 (jc_end (i := 15) (by decide +kernel)))
theorem ja_55 : (jget 55).2.2.2.2.2.2.2.all (fun q => jchk 55 q.1 q.2) = true := (jc_add (i := 0) (j := 8) jk_55_0 (jc_end (i := 8) (by decide +kernel)))
theorem ja_56 : (jget 56).2.2.2.2.2.2.2.all (fun q => jchk 56 q.1 q.2) = true := (jc_add (i := 0) (j := 60) jk_56_0 (jc_add (i := 60) (j := 17) jk_56_1 (jc_end (i := 77) (by decide +kernel))))
theorem ja_57 : (jget 57).2.2.2.2.2.2.2.all (fun q => jchk 57 q.1 q.2) = true := (jc_add (i := 0) (j := 22) jk_57_0 (jc_end (i := 22) (by decide +kernel)))
theorem ja_58 : (jget 58).2.2.2.2.2.2.2.all (fun q => jchk 58 q.1 q.2) = true := (jc_add (i := 0) (j := 15) jk_58_0 (jc_end (i := 15) (by decide +kernel)))
theorem ja_59 : (jget 59).2.2.2.2.2.2.2.all (fun q => jchk 59 q.1 q.2) = true := (jc_add (i := 0) (j := 50) jk_59_0 (jc_end (i := 50) (by decide +kernel)))
theorem ja_60 : (jget 60).2.2.2.2.2.2.2.all (fun q => jchk 60 q.1 q.2) = true := (jc_add (i := 0) (j := 13) jk_60_0 (jc_end (i := 13) (by decide +kernel)))
theorem ja_61 : (jget 61).2.2.2.2.2.2.2.all (fun q => jchk 61 q.1 q.2) = true := (jc_add (i := 0) (j := 60) jk_61_0 (jc_add (i := 60) (j := 14) jk_61_1 (jc_end (i := 74) (by decide +kernel))))
theorem ja_62 : (jget 62).2.2.2.2.2.2.2.all (fun q => jchk 62 q.1 q.2) = true := (jc_add (i := 0) (j := 32) jk_62_0 (jc_end (i := 32) (by decide +kernel)))
theorem ja_63 : (jget 63).2.2.2.2.2.2.2.all (fun q => jchk 63 q.1 q.2) = true := (jc_add (i := 0) (j := 19) jk_63_0 (jc_end (i := 19) (by decide +kernel)))
theorem ja_64 : (jget 64).2.2.2.2.2.2.2.all (fun q => jchk 64 q.1 q.2) = true := (jc_add (i := 0) (j := 14) jk_64_0 (jc_end (i := 14) (by decide +kernel)))
theorem ja_65 : (jget 65).2.2.2.2.2.2.2.all (fun q => jchk 65 q.1 q.2) = true := (jc_add (i := 0) (j := 11) jk_65_0 (jc_end (i := 11) (by decide +kernel)))
theorem ja_66 : (jget 66).2.2.2.2.2.2.2.all (fun q => jchk 66 q.1 q.2) = true := (jc_add (i := 0) (j := 14) jk_66_0 (jc_end (i := 14) (by decide +kernel)))
theorem ja_67 : (jget 67).2.2.2.2.2.2.2.all (fun q => jchk 67 q.1 q.2) = true := (jc_add (i := 0) (j := 24) jk_67_0 (jc_end (i := 24) (by decide +kernel)))
theorem ja_68 : (jget 68).2.2.2.2.2.2.2.all (fun q => jchk 68 q.1 q.2) = true := (jc_add (i := 0) (j := 60) jk_68_0 (jc_end (i := 60) (by decide +kernel)))
theorem ja_69 : (jget 69).2.2.2.2.2.2.2.all (fun q => jchk 69 q.1 q.2) = true := (jc_add (i := 0) (j := 71) jk_69_0 (jc_end (i := 71) (by decide +kernel)))
theorem ja_70 : (jget 70).2.2.2.2.2.2.2.all (fun q => jchk 70 q.1 q.2) = true := (jc_add (i := 0) (j := 60) jk_70_0 (jc_add (i := 60) (j := 59) jk_70_1 (jc_end (i := 119) (by decide +kernel))))
theorem ja_71 : (jget 71).2.2.2.2.2.2.2.all (fun q => jchk 71 q.1 q.2) = true := (jc_add (i := 0) (j := 55) jk_71_0 (jc_end (i := 55) (by decide +kernel)))
theorem ja_72 : (jget 72).2.2.2.2.2.2.2.all (fun q => jchk 72 q.1 q.2) = true := (jc_add (i := 0) (j := 37) jk_72_0 (jc_end (i := 37) (by decide +kernel)))
theorem ja_73 : (jget 73).2.2.2.2.2.2.2.all (fun q => jchk 73 q.1 q.2) = true := (jc_add (i := 0) (j := 8) jk_73_0 (jc_end (i := 8) (by decide +kernel)))
theorem ja_74 : (jget 74).2.2.2.2.2.2.2.all (fun q => jchk 74 q.1 q.2) = true := (jc_add (i := 0) (j := 20) jk_74_0 (jc_end (i := 20) (by decide +kernel)))
theorem ja_75 : (jget 75).2.2.2.2.2.2.2.all (fun q => jchk 75 q.1 q.2) = true := (jc_add (i := 0) (j := 12) jk_75_0 (jc_end (i := 12) (by decide +kernel)))
theorem ja_76 : (jget 76).2.2.2.2.2.2.2.all (fun q => jchk 76 q.1 q.2) = true := (jc_add (i := 0) (j := 44) jk_76_0 (jc_end (i := 44) (by decide +kernel)))
theorem ja_77 : (jget 77).2.2.2.2.2.2.2.all (fun q => jchk 77 q.1 q.2) = true := (jc_add (i := 0) (j := 38) jk_77_0 (jc_end (i := 38) (by decide +kernel)))
theorem ja_78 : (jget 78).2.2.2.2.2.2.2.all (fun q => jchk 78 q.1 q.2) = true := (jc_add (i := 0) (j := 15) jk_78_0 (jc_end (i := 15) (by decide +kernel)))
theorem ja_79 : (jget 79).2.2.2.2.2.2.2.all (fun q => jchk 79 q.1 q.2) = true := (jc_add (i := 0) (j := 3) jk_79_0 (jc_end (i := 3) (by decide +kernel)))
theorem ja_80 : (jget 80).2.2.2.2.2.2.2.all (fun q => jchk 80 q.1 q.2) = true := (jc_add (i := 0) (j := 17) jk_80_0 (jc_end (i := 17) (by decide +kernel)))
theorem ja_81 : (jget 81).2.2.2.2.2.2.2.all (fun q => jchk 81 q.1 q.2) = true := (jc_add (i := 0) (j := 18) jk_81_0 (jc_end (i := 18) (by decide +kernel)))
theorem ja_82 : (jget 82).2.2.2.2.2.2.2.all (fun q => jchk 82 q.1 q.2) = true := (jc_add (i := 0) (j := 6) jk_82_0 (jc_end (i := 6) (by decide +kernel)))
theorem ja_83 : (jget 83).2.2.2.2.2.2.2.all (fun q => jchk 83 q.1 q.2) = true := (jc_add (i := 0) (j := 46) jk_83_0 (jc_end (i := 46) (by decide +kernel)))
theorem ja_84 : (jget 84).2.2.2.2.2.2.2.all (fun q => jchk 84 q.1 q.2) = true := (jc_add (i := 0) (j := 31) jk_84_0 (jc_end (i := 31) (by decide +kernel)))
theorem ja_85 : (jget 85).2.2.2.2.2.2.2.all (fun q => jchk 85 q.1 q.2) = true := (jc_add (i := 0) (j := 22) jk_85_0 (jc_end (i := 22) (by decide +kernel)))
theorem ja_86 : (jget 86).2.2.2.2.2.2.2.all (fun q => jchk 86 q.1 q.2) = true := (jc_add (i := 0) (j := 18) jk_86_0 (jc_end (i := 18) (by decide +kernel)))
theorem ja_87 : (jget 87).2.2.2.2.2.2.2.all (fun q => jchk 87 q.1 q.2) = true := (jc_add (i := 0) (j := 21) jk_87_0 (jc_end (i := 21) (by decide +kernel)))
theorem ja_88 : (jget 88).2.2.2.2.2.2.2.all (fun q => jchk 88 q.1 q.2) = true := (jc_add (i := 0) (j := 14) jk_88_0 (jc_end (i := 14) (by decide +kernel)))
theorem ja_89 : (jget 89).2.2.2.2.2.2.2.all (fun q => jchk 89 q.1 q.2) = true := (jc_add (i := 0) (j := 52) jk_89_0 (jc_end (i := 52) (by decide +kernel)))
theorem ja_90 : (jget 90).2.2.2.2.2.2.2.all (fun q => jchk 90 q.1 q.2) = true := (jc_add (i := 0) (j := 17) jk_90_0 (jc_end (i := 17) (by decide +kernel)))
theorem ja_91 : (jget 91).2.2.2.2.2.2.2.all (fun q => jchk 91 q.1 q.2) = true := (jc_add (i := 0) (j := 55) jk_91_0 (jc_end (i := 55) (by decide +kernel)))
theorem ja_92 : (jget 92).2.2.2.2.2.2.2.all (fun q => jchk 92 q.1 q.2) = true := (jc_add (i := 0) (j := 53) jk_92_0 (jc_end (i := 53) (by decide +kernel)))
theorem ja_93 : (jget 93).2.2.2.2.2.2.2.all (fun q => jchk 93 q.1 q.2) = true := (jc_add (i := 0) (j := 12) jk_93_0 (jc_end (i := 12) (by decide +kernel)))
theorem ja_94 : (jget 94).2.2.2.2.2.2.2.all (fun q => jchk 94 q.1 q.2) = true := (jc_add (i := 0) (j := 22) jk_94_0 (jc_end (i := 22) (by decide +kernel)))
theorem ja_95 : (jget 95).2.2.2.2.2.2.2.all (fun q => jchk 95 q.1 q.2) = true := (jc_add (i := 0) (j := 40) jk_95_0 (jc_end (i := 40) (by decide +kernel)))
theorem ja_96 : (jget 96).2.2.2.2.2.2.2.all (fun q => jchk 96 q.1 q.2) = true := (jc_add (i := 0) (j := 26) jk_96_0 (jc_end (i := 26) (by decide +kernel)))
theorem ja_97 : (jget 97).2.2.2.2.2.2.2.all (fun q => jchk 97 q.1 q.2) = true := (jc_add (i := 0) (j := 53) jk_97_0 (jc_end (i := 53) (by decide +kernel)))
theorem ja_98 : (jget 98).2.2.2.2.2.2.2.all (fun q => jchk 98 q.1 q.2) = true := (jc_add (i := 0) (j := 29) jk_98_0 (jc_end (i := 29) (by decide +kernel)))
theorem ja_99 : (jget 99).2.2.2.2.2.2.2.all (fun q => jchk 99 q.1 q.2) = true := (jc_add (i := 0) (j := 54) jk_99_0 (jc_end (i := 54) (by decide +kernel)))
theorem ja_100 : (jget 100).2.2.2.2.2.2.2.all (fun q => jchk 100 q.1 q.2) = true := (jc_add (i := 0) (j := 49) jk_100_0 (jc_end (i := 49) (by decide +kernel)))
theorem ja_101 : (jget 101).2.2.2.2.2.2.2.all (fun q => jchk 101 q.1 q.2) = true := (jc_add (i := 0) (j := 23) jk_101_0 (jc_end (i := 23) (by decide +kernel)))
theorem ja_102 : (jget 102).2.2.2.2.2.2.2.all (fun q => jchk 102 q.1 q.2) = true := (jc_add (i := 0) (j := 57) jk_102_0 (jc_end (i := 57) (by decide +kernel)))
theorem ja_103 : (jget 103).2.2.2.2.2.2.2.all (fun q => jchk 103 q.1 q.2) = true := (jc_add (i := 0) (j := 38) jk_103_0 (jc_end (i := 38) (by decide +kernel)))
theorem ja_104 : (jget 104).2.2.2.2.2.2.2.all (fun q => jchk 104 q.1 q.2) = true := (jc_add (i := 0) (j := 24) jk_104_0 (jc_end (i := 24) (by decide +kernel)))
theorem ja_105 : (jget 105).2.2.2.2.2.2.2.all (fun q => jchk 105 q.1 q.2) = true := (jc_add (i := 0) (j := 64) jk_105_0 (jc_end (i := 64) (by decide +kernel)))
theorem ja_106 : (jget 106).2.2.2.2.2.2.2.all (fun q => jchk 106 q.1 q.2) = true := (jc_add (i := 0) (j := 39) jk_106_0 (jc_end (i := 39) (by decide +kernel)))
theorem ja_107 : (jget 107).2.2.2.2.2.2.2.all (fun q => jchk 107 q.1 q.2) = true := (jc_add (i := 0) (j := 43) jk_107_0 (jc_end (i := 43) (by decide +kernel)))
theorem ja_108 : (jget 108).2.2.2.2.2.2.2.all (fun q => jchk 108 q.1 q.2) = true := (jc_add (i := 0) (j := 19) jk_108_0 (jc_end (i := 19) (by decide +kernel)))
theorem ja_109 : (jget 109).2.2.2.2.2.2.2.all (fun q => jchk 109 q.1 q.2) = true := (jc_add (i := 0) (j := 39) jk_109_0 (jc_end (i := 39) (by decide +kernel)))
theorem ja_110 : (jget 110).2.2.2.2.2.2.2.all (fun q => jchk 110 q.1 q.2) = true := (jc_add (i := 0) (j := 24) jk_110_0 (jc_end (i := 24) (by decide +kernel)))
theorem ja_111 : (jget 111).2.2.2.2.2.2.2.all (fun q => jchk 111 q.1 q.2) = true := (jc_add (i := 0) (j := 17) jk_111_0 (jc_end (i := 17) (by decide +kernel)))
theorem ja_112 : (jget 112).2.2.2.2.2.2.2.all (fun q => jchk 112 q.1 q.2) = true := (jc_add (i := 0) (j := 26) jk_112_0 (jc_end (i := 26) (by decide +kernel)))
theorem ja_113 : (jget 113).2.2.2.2.2.2.2.all (fun q => jchk 113 q.1 q.2) = true := (jc_add (i := 0) (j := 35) jk_113_0 (jc_end (i := 35) (by decide +kernel)))
theorem ja_114 : (jget 114).2.2.2.2.2.2.2.all (fun q => jchk 114 q.1 q.2) = true := (jc_add (i := 0) (j := 42) jk_114_0 (jc_end (i := 42) (by decide +kernel)))
theorem ja_115 : (jget 115).2.2.2.2.2.2.2.all (fun q => jchk 115 q.1 q.2) = true := (jc_add (i := 0) (j := 58) jk_115_0 (jc_end (i := 58) (by decide +kernel)))
theorem ja_116 : (jget 116).2.2.2.2.2.2.2.all (fun q => jchk 116 q.1 q.2) = true := (jc_add (i := 0) (j := 3) jk_116_0 (jc_end (i := 3) (by decide +kernel)))
theorem ja_117 : (jget 117).2.2.2.2.2.2.2.all (fun q => jchk 117 q.1 q.2) = true := (jc_add (i := 0) (j := 24) jk_117_0 (jc_end (i := 24) (by decide +kernel)))
theorem ja_118 : (jget 118).2.2.2.2.2.2.2.all (fun q => jchk 118 q.1 q.2) = true := (jc_add (i := 0) (j := 22) jk_118_0 (jc_end (i := 22) (by decide +kernel)))
theorem ja_119 : (jget 119).2.2.2.2.2.2.2.all (fun q => jchk 119 q.1 q.2) = true := (jc_add (i := 0) (j := 14) jk_119_0 (jc_end (i := 14) (by decide +kernel)))
theorem ja_120 : (jget 120).2.2.2.2.2.2.2.all (fun q => jchk 120 q.1 q.2) = true := (jc_add (i := 0) (j := 60) jk_120_0 (jc_add (i := 60) (j := 60) jk_120_1 (jc_add (i := 120) (j := 60) jk_120_2 (jc_add (i := 180) (j := 60) jk_120_3 (jc_add (i := 240) (j := 34) jk_120_4 (jc_end (i := 274) (by decide +kernel)))))))
theorem ja_121 : (jget 121).2.2.2.2.2.2.2.all (fun q => jchk 121 q.1 q.2) = true := (jc_add (i := 0) (j := 28) jk_121_0 (jc_end (i := 28) (by decide +kernel)))
theorem ja_122 : (jget 122).2.2.2.2.2.2.2.all (fun q => jchk 122 q.1 q.2) = true := (jc_add (i := 0) (j := 24) jk_122_0 (jc_end (i := 24) (by decide +kernel)))
theorem ja_123 : (jget 123).2.2.2.2.2.2.2.all (fun q => jchk 123 q.1 q.2) = true := (jc_add (i := 0) (j := 12) jk_123_0 (jc_end (i := 12) (by decide +kernel)))
theorem ja_124 : (jget 124).2.2.2.2.2.2.2.all (fun q => jchk 124 q.1 q.2) = true := (jc_add (i := 0) (j := 26) jk_124_0 (jc_end (i := 26) (by decide +kernel)))
theorem ja_125 : (jget 125).2.2.2.2.2.2.2.all (fun q => jchk 125 q.1 q.2) = true := (jc_add (i := 0) (j := 23) jk_125_0 (jc_end (i := 23) (by decide +kernel)))
theorem ja_126 : (jget 126).2.2.2.2.2.2.2.all (fun q => jchk 126 q.1 q.2) = true := (jc_add (i := 0) (j := 18) jk_126_0 (jc_end (i := 18) (by decide +kernel)))
theorem ja_127 : (jget 127).2.2.2.2.2.2.2.all (fun q => jchk 127 q.1 q.2) = true := (jc_add (i := 0) (j := 60) jk_127_0 (jc_add (i := 60) (j := 36) jk_127_1 (jc_end (i := 96) (by decide +kernel))))
theorem ja_128 : (jget 128).2.2.2.2.2.2.2.all (fun q => jchk 128 q.1 q.2) = true := (jc_add (i := 0) (j := 60) jk_128_0 (jc_add (i := 60) (j := 33) jk_128_1 (jc_end (i := 93) (by decide +kernel))))
theorem ja_129 : (jget 129).2.2.2.2.2.2.2.all (fun q => jchk 129 q.1 q.2) = true := (jc_add (i := 0) (j := 12) jk_129_0 (jc_end (i := 12) (by decide +kernel)))
theorem ja_130 : (jget 130).2.2.2.2.2.2.2.all (fun q => jchk 130 q.1 q.2) = true := (jc_add (i := 0) (j := 13) jk_130_0 (jc_end (i := 13) (by decide +kernel)))
theorem ja_131 : (jget 131).2.2.2.2.2.2.2.all (fun q => jchk 131 q.1 q.2) = true := (jc_add (i := 0) (j := 60) jk_131_0 (jc_add (i := 60) (j := 60) jk_131_1 (jc_add (i := 120) (j := 49) jk_131_2 (jc_end (i := 169) (by decide +kernel)))))
theorem ja_132 : (jget 132).2.2.2.2.2.2.2.all (fun q => jchk 132 q.1 q.2) = true := (jc_add (i := 0) (j := 31) jk_132_0 (jc_end (i := 31) (by decide +kernel)))
theorem ja_133 : (jget 133).2.2.2.2.2.2.2.all (fun q => jchk 133 q.1 q.2) = true := (jc_add (i := 0) (j := 10) jk_133_0 (jc_end (i := 10) (by decide +kernel)))
theorem ja_134 : (jget 134).2.2.2.2.2.2.2.all (fun q => jchk 134 q.1 q.2) = true := (jc_add (i := 0) (j := 39) jk_134_0 (jc_end (i := 39) (by decide +kernel)))
theorem ja_135 : (jget 135).2.2.2.2.2.2.2.all (fun q => jchk 135 q.1 q.2) = true := (jc_add (i := 0) (j := 17) jk_135_0 (jc_end (i := 17) (by decide +kernel)))
theorem ja_136 : (jget 136).2.2.2.2.2.2.2.all (fun q => jchk 136 q.1 q.2) = true := (jc_add (i := 0) (j := 10) jk_136_0 (jc_end (i := 10) (by decide +kernel)))
theorem ja_137 : (jget 137).2.2.2.2.2.2.2.all (fun q => jchk 137 q.1 q.2) = true := (jc_add (i := 0) (j := 23) jk_137_0 (jc_end (i := 23) (by decide +kernel)))
theorem ja_138 : (jget 138).2.2.2.2.2.2.2.all (fun q => jchk 138 q.1 q.2) = true := (jc_add (i := 0) (j := 12) jk_138_0 (jc_end (i := 12) (by decide +kernel)))
theorem ja_139 : (jget 139).2.2.2.2.2.2.2.all (fun q => jchk 139 q.1 q.2) = true := (jc_add (i := 0) (j := 50) jk_139_0 (jc_end (i := 50) (by decide +kernel)))
theorem ja_140 : (jget 140).2.2.2.2.2.2.2.all (fun q => jchk 140 q.1 q.2) = true := (jc_add (i := 0) (j := 48) jk_140_0 (jc_end (i := 48) (by decide +kernel)))
theorem ja_141 : (jget 141).2.2.2.2.2.2.2.all (fun q => jchk 141 q.1 q.2) = true := (jc_add (i := 0) (j := 10) jk_141_0 (jc_end (i := 10) (by decide +kernel)))
theorem ja_142 : (jget 142).2.2.2.2.2.2.2.all (fun q => jchk 142 q.1 q.2) = true := (jc_add (i := 0) (j := 28) jk_142_0 (jc_end (i := 28) (by decide +kernel)))
theorem ja_143 : (jget 143).2.2.2.2.2.2.2.all (fun q => jchk 143 q.1 q.2) = true := (jc_add (i := 0) (j := 18) jk_143_0 (jc_end (i := 18) (by decide +kernel)))
theorem ja_144 : (jget 144).2.2.2.2.2.2.2.all (fun q => jchk 144 q.1 q.2) = true := (jc_add (i := 0) (j := 60) jk_144_0 (jc_add (i := 60) (j := 46) jk_144_1 (jc_end (i := 106) (by decide +kernel))))
theorem ja_145 : (jget 145).2.2.2.2.2.2.2.all (fun q => jchk 145 q.1 q.2) = true := (jc_add (i := 0) (j := 57) jk_145_0 (jc_end (i := 57) (by decide +kernel)))
theorem ja_146 : (jget 146).2.2.2.2.2.2.2.all (fun q => jchk 146 q.1 q.2) = true := (jc_add (i := 0) (j := 20) jk_146_0 (jc_end (i := 20) (by decide +kernel)))
theorem ja_147 : (jget 147).2.2.2.2.2.2.2.all (fun q => jchk 147 q.1 q.2) = true := (jc_add (i := 0) (j := 19) jk_147_0 (jc_end (i := 19) (by decide +kernel)))
theorem ja_148 : (jget 148).2.2.2.2.2.2.2.all (fun q => jchk 148 q.1 q.2) = true := (jc_add (i := 0) (j := 18) jk_148_0 (jc_end (i := 18) (by decide +kernel)))
theorem ja_149 : (jget 149).2.2.2.2.2.2.2.all (fun q => jchk 149 q.1 q.2) = true := (jc_add (i := 0) (j := 19) jk_149_0 (jc_end (i := 19) (by decide +kernel)))
theorem ja_150 : (jget 150).2.2.2.2.2.2.2.all (fun q => jchk 150 q.1 q.2) = true := (jc_add (i := 0) (j := 35) jk_150_0 (jc_end (i := 35) (by decide +kernel)))
theorem ja_151 : (jget 151).2.2.2.2.2.2.2.all (fun q => jchk 151 q.1 q.2) = true := (jc_add (i := 0) (j := 60) jk_151_0 (jc_add (i := 60) (j := 51) jk_151_1 (jc_end (i := 111) (by decide +kernel))))
theorem ja_152 : (jget 152).2.2.2.2.2.2.2.all (fun q => jchk 152 q.1 q.2) = true := (jc_add (i := 0) (j := 68) jk_152_0 (jc_end (i := 68) (by decide +kernel)))
theorem ja_153 : (jget 153).2.2.2.2.2.2.2.all (fun q => jchk 153 q.1 q.2) = true := (jc_add (i := 0) (j := 60) jk_153_0 (jc_add (i := 60) (j := 60) jk_153_1 (jc_add (i := 120) (j := 23) jk_153_2 (jc_end (i := 143) (by decide +kernel)))))
theorem ja_154 : (jget 154).2.2.2.2.2.2.2.all (fun q => jchk 154 q.1 q.2) = true := (jc_add (i := 0) (j := 60) jk_154_0 (jc_add (i := 60) (j := 55) jk_154_1 (jc_end (i := 115) (by decide +kernel))))
theorem ja_155 : (jget 155).2.2.2.2.2.2.2.all (fun q => jchk 155 q.1 q.2) = true := (jc_add (i := 0) (j := 32) jk_155_0 (jc_end (i := 32) (by decide +kernel)))
theorem ja_156 : (jget 156).2.2.2.2.2.2.2.all (fun q => jchk 156 q.1 q.2) = true := (jc_add (i := 0) (j := 12) jk_156_0 (jc_end (i := 12) (by decide +kernel)))
theorem ja_157 : (jget 157).2.2.2.2.2.2.2.all (fun q => jchk 157 q.1 q.2) = true := (jc_add (i := 0) (j := 60) jk_157_0 (jc_add (i := 60) (j := 60) jk_157_1 (jc_add (i := 120) (j := 13) jk_157_2 (jc_end (i := 133) (by decide +kernel)))))
theorem ja_158 : (jget 158).2.2.2.2.2.2.2.all (fun q => jchk 158 q.1 q.2) = true := (jc_add (i := 0) (j := 35) jk_158_0 (jc_end (i := 35) (by decide +kernel)))
theorem ja_159 : (jget 159).2.2.2.2.2.2.2.all (fun q => jchk 159 q.1 q.2) = true := (jc_add (i := 0) (j := 60) jk_159_0 (jc_add (i := 60) (j := 60) jk_159_1 (jc_add (i := 120) (j := 36) jk_159_2 (jc_end (i := 156) (by decide +kernel)))))
theorem ja_160 : (jget 160).2.2.2.2.2.2.2.all (fun q => jchk 160 q.1 q.2) = true := (jc_add (i := 0) (j := 3) jk_160_0 (jc_end (i := 3) (by decide +kernel)))
theorem ja_161 : (jget 161).2.2.2.2.2.2.2.all (fun q => jchk 161 q.1 q.2) = true := (jc_add (i := 0) (j := 22) jk_161_0 (jc_end (i := 22) (by decide +kernel)))
theorem ja_162 : (jget 162).2.2.2.2.2.2.2.all (fun q => jchk 162 q.1 q.2) = true := (jc_add (i := 0) (j := 10) jk_162_0 (jc_end (i := 10) (by decide +kernel)))
theorem ja_163 : (jget 163).2.2.2.2.2.2.2.all (fun q => jchk 163 q.1 q.2) = true := (jc_add (i := 0) (j := 72) jk_163_0 (jc_end (i := 72) (by decide +kernel)))
theorem ja_164 : (jget 164).2.2.2.2.2.2.2.all (fun q => jchk 164 q.1 q.2) = true := (jc_add (i := 0) (j := 17) jk_164_0 (jc_end (i := 17) (by decide +kernel)))
theorem ja_165 : (jget 165).2.2.2.2.2.2.2.all (fun q => jchk 165 q.1 q.2) = true := (jc_add (i := 0) (j := 10) jk_165_0 (jc_end (i := 10) (by decide +kernel)))
theorem ja_166 : (jget 166).2.2.2.2.2.2.2.all (fun q => jchk 166 q.1 q.2) = true := (jc_add (i := 0) (j := 34) jk_166_0 (jc_end (i := 34) (by decide +kernel)))
theorem ja_167 : (jget 167).2.2.2.2.2.2.2.all (fun q => jchk 167 q.1 q.2) = true := (jc_add (i := 0) (j := 12) jk_167_0 (jc_end (i := 12) (by decide +kernel)))
theorem ja_168 : (jget 168).2.2.2.2.2.2.2.all (fun q => jchk 168 q.1 q.2) = true := (jc_add (i := 0) (j := 37) jk_168_0 (jc_end (i := 37) (by decide +kernel)))
theorem ja_169 : (jget 169).2.2.2.2.2.2.2.all (fun q => jchk 169 q.1 q.2) = true := (jc_add (i := 0) (j := 58) jk_169_0 (jc_end (i := 58) (by decide +kernel)))
theorem ja_170 : (jget 170).2.2.2.2.2.2.2.all (fun q => jchk 170 q.1 q.2) = true := (jc_add (i := 0) (j := 10) jk_170_0 (jc_end (i := 10) (by decide +kernel)))
theorem ja_171 : (jget 171).2.2.2.2.2.2.2.all (fun q => jchk 171 q.1 q.2) = true := (jc_add (i := 0) (j := 23) jk_171_0 (jc_end (i := 23) (by decide +kernel)))
theorem ja_172 : (jget 172).2.2.2.2.2.2.2.all (fun q => jchk 172 q.1 q.2) = true := (jc_add (i := 0) (j := 26) jk_172_0 (jc_end (i := 26) (by decide +kernel)))
theorem ja_173 : (jget 173).2.2.2.2.2.2.2.all (fun q => jchk 173 q.1 q.2) = true := (jc_add (i := 0) (j := 30) jk_173_0 (jc_end (i := 30) (by decide +kernel)))
theorem ja_174 : (jget 174).2.2.2.2.2.2.2.all (fun q => jchk 174 q.1 q.2) = true := (jc_add (i := 0) (j := 60) jk_174_0 (jc_add (i := 60) (j := 45) jk_174_1 (jc_end (i := 105) (by decide +kernel))))
theorem ja_175 : (jget 175).2.2.2.2.2.2.2.all (fun q => jchk 175 q.1 q.2) = true := (jc_add (i := 0) (j := 13) jk_175_0 (jc_end (i := 13) (by decide +kernel)))
theorem ja_176 : (jget 176).2.2.2.2.2.2.2.all (fun q => jchk 176 q.1 q.2) = true := (jc_add (i := 0) (j := 34) jk_176_0 (jc_end (i := 34) (by decide +kernel)))
theorem ja_177 : (jget 177).2.2.2.2.2.2.2.all (fun q => jchk 177 q.1 q.2) = true := (jc_add (i := 0) (j := 60) jk_177_0 (jc_add (i := 60) (j := 37) jk_177_1 (jc_end (i := 97) (by decide +kernel))))
theorem ja_178 : (jget 178).2.2.2.2.2.2.2.all (fun q => jchk 178 q.1 q.2) = true := (jc_add (i := 0) (j := 33) jk_178_0 (jc_end (i := 33) (by decide +kernel)))
theorem ja_179 : (jget 179).2.2.2.2.2.2.2.all (fun q => jchk 179 q.1 q.2) = true := (jc_add (i := 0) (j := 64) jk_179_0 (jc_end (i := 64) (by decide +kernel)))
theorem ja_180 : (jget 180).2.2.2.2.2.2.2.all (fun q => jchk 180 q.1 q.2) = true := (jc_add (i := 0) (j := 18) jk_180_0 (jc_end (i := 18) (by decide +kernel)))
theorem ja_181 : (jget 181).2.2.2.2.2.2.2.all (fun q => jchk 181 q.1 q.2) = true := (jc_add (i := 0) (j := 24) jk_181_0 (jc_end (i := 24) (by decide +kernel)))
theorem ja_182 : (jget 182).2.2.2.2.2.2.2.all (fun q => jchk 182 q.1 q.2) = true := (jc_add (i := 0) (j := 60) jk_182_0 (jc_add (i := 60) (j := 60) jk_182_1 (jc_add (i := 120) (j := 60) jk_182_2 (jc_add (i := 180) (j := 4) jk_182_3 (jc_end (i := 184) (by decide +kernel))))))
theorem ja_183 : (jget 183).2.2.2.2.2.2.2.all (fun q => jchk 183 q.1 q.2) = true := (jc_add (i := 0) (j := 37) jk_183_0 (jc_end (i := 37) (by decide +kernel)))
theorem ja_184 : (jget 184).2.2.2.2.2.2.2.all (fun q => jchk 184 q.1 q.2) = true := (jc_add (i := 0) (j := 53) jk_184_0 (jc_end (i := 53) (by decide +kernel)))
theorem ja_185 : (jget 185).2.2.2.2.2.2.2.all (fun q => jchk 185 q.1 q.2) = true := (jc_add (i := 0) (j := 30) jk_185_0 (jc_end (i := 30) (by decide +kernel)))
theorem ja_186 : (jget 186).2.2.2.2.2.2.2.all (fun q => jchk 186 q.1 q.2) = true := (jc_add (i := 0) (j := 60) jk_186_0 (jc_add (i := 60) (j := 60) jk_186_1 (jc_add (i := 120) (j := 60) jk_186_2 (jc_add (i := 180) (j := 19) jk_186_3 (jc_end (i := 199) (by decide +kernel))))))
theorem ja_187 : (jget 187).2.2.2.2.2.2.2.all (fun q => jchk 187 q.1 q.2) = true := (jc_add (i := 0) (j := 60) jk_187_0 (jc_end (i := 60) (by decide +kernel)))
theorem ja_188 : (jget 188).2.2.2.2.2.2.2.all (fun q => jchk 188 q.1 q.2) = true := (jc_add (i := 0) (j := 20) jk_188_0 (jc_end (i := 20) (by decide +kernel)))
theorem ja_189 : (jget 189).2.2.2.2.2.2.2.all (fun q => jchk 189 q.1 q.2) = true := (jc_add (i := 0) (j := 27) jk_189_0 (jc_end (i := 27) (by decide +kernel)))
theorem ja_190 : (jget 190).2.2.2.2.2.2.2.all (fun q => jchk 190 q.1 q.2) = true := (jc_add (i := 0) (j := 37) jk_190_0 (jc_end (i := 37) (by decide +kernel)))
theorem ja_191 : (jget 191).2.2.2.2.2.2.2.all (fun q => jchk 191 q.1 q.2) = true := (jc_add (i := 0) (j := 15) jk_191_0 (jc_end (i := 15) (by decide +kernel)))
theorem ja_192 : (jget 192).2.2.2.2.2.2.2.all (fun q => jchk 192 q.1 q.2) = true := (jc_add (i := 0) (j := 25) jk_192_0 (jc_end (i := 25) (by decide +kernel)))
theorem ja_193 : (jget 193).2.2.2.2.2.2.2.all (fun q => jchk 193 q.1 q.2) = true := (jc_add (i := 0) (j := 60) jk_193_0 (jc_add (i := 60) (j := 20) jk_193_1 (jc_end (i := 80) (by decide +kernel))))
theorem ja_194 : (jget 194).2.2.2.2.2.2.2.all (fun q => jchk 194 q.1 q.2) = true := (jc_add (i := 0) (j := 44) jk_194_0 (jc_end (i := 44) (by decide +kernel)))
theorem ja_195 : (jget 195).2.2.2.2.2.2.2.all (fun q => jchk 195 q.1 q.2) = true := (jc_add (i := 0) (j := 3) jk_195_0 (jc_end (i := 3) (by decide +kernel)))
theorem ja_196 : (jget 196).2.2.2.2.2.2.2.all (fun q => jchk 196 q.1 q.2) = true := (jc_add (i := 0) (j := 41) jk_196_0 (jc_end (i := 41) (by decide +kernel)))
theorem ja_197 : (jget 197).2.2.2.2.2.2.2.all (fun q => jchk 197 q.1 q.2) = true := (jc_add (i := 0) (j := 14) jk_197_0 (jc_end (i := 14) (by decide +kernel)))
theorem ja_198 : (jget 198).2.2.2.2.2.2.2.all (fun q => jchk 198 q.1 q.2) = true := (jc_add (i := 0) (j := 13) jk_198_0 (jc_end (i := 13) (by decide +kernel)))
theorem ja_199 : (jget 199).2.2.2.2.2.2.2.all (fun q => jchk 199 q.1 q.2) = true := (jc_add (i := 0) (j := 9) jk_199_0 (jc_end (i := 9) (by decide +kernel)))
theorem ja_200 : (jget 200).2.2.2.2.2.2.2.all (fun q => jchk 200 q.1 q.2) = true := (jc_add (i := 0) (j := 11) jk_200_0 (jc_end (i := 11) (by decide +kernel)))
theorem ja_201 : (jget 201).2.2.2.2.2.2.2.all (fun q => jchk 201 q.1 q.2) = true := (jc_add (i := 0) (j := 6) jk_201_0 (jc_end (i := 6) (by decide +kernel)))
theorem ja_202 : (jget 202).2.2.2.2.2.2.2.all (fun q => jchk 202 q.1 q.2) = true := (jc_add (i := 0) (j := 12) jk_202_0 (jc_end (i := 12) (by decide +kernel)))
theorem ja_203 : (jget 203).2.2.2.2.2.2.2.all (fun q => jchk 203 q.1 q.2) = true := (jc_add (i := 0) (j := 7) jk_203_0 (jc_end (i := 7) (by decide +kernel)))
theorem ja_204 : (jget 204).2.2.2.2.2.2.2.all (fun q => jchk 204 q.1 q.2) = true := (jc_add (i := 0) (j := 7) jk_204_0 (jc_end (i := 7) (by decide +kernel)))
def jP (M : Nat) : Prop := (jget M).2.2.2.2.2.2.2.all (fun q => jchk M q.1 q.2) = true
theorem jh1 {a : Nat} (h : jP a) : ∀ M, a ≤ M → M < a + 1 → jP M := fun M h1 h2 => by rw [show M = a by omega]; exact h
theorem jh2 {a b c : Nat} (h1 : ∀ M, a ≤ M → M < b → jP M) (h2 : ∀ M, b ≤ M → M < c → jP M) : ∀ M, a ≤ M → M < c → jP M := fun M p q => (Nat.lt_or_ge M b).elim (fun z => h1 M p z) (fun z => h2 M z q)
theorem jg_0 : ∀ M, 0 ≤ M → M < 14 → jP M := (jh2 (b := 7) (jh2 (b := 3) (jh2 (b := 1) (jh1 ja_0) (jh2 (b := 2) (jh1 ja_1) (jh1 ja_2))) (jh2 (b := 5) (jh2 (b := 4) (jh1 ja_3) (jh1 ja_4)) (jh2 (b := 6) (jh1 ja_5) (jh1 ja_6)))) (jh2 (b := 10) (jh2 (b := 8) (jh1 ja_7) (jh2 (b := 9) (jh1 ja_8) (jh1 ja_9))) (jh2 (b := 12) (jh2 (b := 11) (jh1 ja_10) (jh1 ja_11)) (jh2 (b := 13) (jh1 ja_12) (jh1 ja_13)))))
theorem jg_14 : ∀ M, 14 ≤ M → M < 28 → jP M := (jh2 (b := 21) (jh2 (b := 17) (jh2 (b := 15) (jh1 ja_14) (jh2 (b := 16) (jh1 ja_15) (jh1 ja_16))) (jh2 (b := 19) (jh2 (b := 18) (jh1 ja_17) (jh1 ja_18)) (jh2 (b := 20) (jh1 ja_19) (jh1 ja_20)))) (jh2 (b := 24) (jh2 (b := 22) (jh1 ja_21) (jh2 (b := 23) (jh1 ja_22) (jh1 ja_23))) (jh2 (b := 26) (jh2 (b := 25) (jh1 ja_24) (jh1 ja_25)) (jh2 (b := 27) (jh1 ja_26) (jh1 ja_27)))))
theorem jg_28 : ∀ M, 28 ≤ M → M < 42 → jP M := (jh2 (b := 35) (jh2 (b := 31) (jh2 (b := 29) (jh1 ja_28) (jh2 (b := 30) (jh1 ja_29) (jh1 ja_30))) (jh2 (b := 33) (jh2 (b := 32) (jh1 ja_31) (jh1 ja_32)) (jh2 (b := 34) (jh1 ja_33) (jh1 ja_34)))) (jh2 (b := 38) (jh2 (b := 36) (jh1 ja_35) (jh2 (b := 37) (jh1 ja_36) (jh1 ja_37))) (jh2 (b := 40) (jh2 (b := 39) (jh1 ja_38) (jh1 ja_39)) (jh2 (b := 41) (jh1 ja_40) (jh1 ja_41)))))
theorem jg_42 : ∀ M, 42 ≤ M → M < 56 → jP M := (jh2 (b := 49) (jh2 (b := 45) (jh2 (b := 43) (jh1 ja_42) (jh2 (b := 44) (jh1 ja_43) (jh1 ja_44))) (jh2 (b := 47) (jh2 (b := 46) (jh1 ja_45) (jh1 ja_46)) (jh2 (b := 48) (jh1 ja_47) (jh1 ja_48)))) (jh2 (b := 52) (jh2 (b := 50) (jh1 ja_49) (jh2 (b := 51) (jh1 ja_50) (jh1 ja_51))) (jh2 (b := 54) (jh2 (b := 53) (jh1 ja_52) (jh1 ja_53)) (jh2 (b := 55) (jh1 ja_54) (jh1 ja_55)))))
theorem jg_56 : ∀ M, 56 ≤ M → M < 70 → jP M := (jh2 (b := 63) (jh2 (b := 59) (jh2 (b := 57) (jh1 ja_56) (jh2 (b := 58) (jh1 ja_57) (jh1 ja_58))) (jh2 (b := 61) (jh2 (b := 60) (jh1 ja_59) (jh1 ja_60)) (jh2 (b := 62) (jh1 ja_61) (jh1 ja_62)))) (jh2 (b := 66) (jh2 (b := 64) (jh1 ja_63) (jh2 (b := 65) (jh1 ja_64) (jh1 ja_65))) (jh2 (b := 68) (jh2 (b := 67) (jh1 ja_66) (jh1 ja_67)) (jh2 (b := 69) (jh1 ja_68) (jh1 ja_69)))))
theorem jg_70 : ∀ M, 70 ≤ M → M < 84 → jP M := (jh2 (b := 77) (jh2 (b := 73) (jh2 (b := 71) (jh1 ja_70) (jh2 (b := 72) (jh1 ja_71) (jh1 ja_72))) (jh2 (b := 75) (jh2 (b := 74) (jh1 ja_73) (jh1 ja_74)) (jh2 (b := 76) (jh1 ja_75) (jh1 ja_76)))) (jh2 (b := 80) (jh2 (b := 78) (jh1 ja_77) (jh2 (b := 79) (jh1 ja_78) (jh1 ja_79))) (jh2 (b := 82) (jh2 (b := 81) (jh1 ja_80) (jh1 ja_81)) (jh2 (b := 83) (jh1 ja_82) (jh1 ja_83)))))
theorem jg_84 : ∀ M, 84 ≤ M → M < 98 → jP M := (jh2 (b := 91) (jh2 (b := 87) (jh2 (b := 85) (jh1 ja_84) (jh2 (b := 86) (jh1 ja_85) (jh1 ja_86))) (jh2 (b := 89) (jh2 (b := 88) (jh1 ja_87) (jh1 ja_88)) (jh2 (b := 90) (jh1 ja_89) (jh1 ja_90)))) (jh2 (b := 94) (jh2 (b := 92) (jh1 ja_91) (jh2 (b := 93) (jh1 ja_92) (jh1 ja_93))) (jh2 (b := 96) (jh2 (b := 95) (jh1 ja_94) (jh1 ja_95)) (jh2 (b := 97) (jh1 ja_96) (jh1 ja_97)))))
theorem jg_98 : ∀ M, 98 ≤ M → M < 112 → jP M := (jh2 (b := 105) (jh2 (b := 101) (jh2 (b := 99) (jh1 ja_98) (jh2 (b := 100) (jh1 ja_99) (jh1 ja_100))) (jh2 (b := 103) (jh2 (b := 102) (jh1 ja_101) (jh1 ja_102)) (jh2 (b := 104) (jh1 ja_103) (jh1 ja_104)))) (jh2 (b := 108) (jh2 (b := 106) (jh1 ja_105) (jh2 (b := 107) (jh1 ja_106) (jh1 ja_107))) (jh2 (b := 110) (jh2 (b := 109) (jh1 ja_108) (jh1 ja_109)) (jh2 (b := 111) (jh1 ja_110) (jh1 ja_111)))))
theorem jg_112 : ∀ M, 112 ≤ M → M < 126 → jP M := (jh2 (b := 119) (jh2 (b := 115) (jh2 (b := 113) (jh1 ja_112) (jh2 (b := 114) (jh1 ja_113) (jh1 ja_114))) (jh2 (b := 117) (jh2 (b := 116) (jh1 ja_115) (jh1 ja_116)) (jh2 (b := 118) (jh1 ja_117) (jh1 ja_118)))) (jh2 (b := 122) (jh2 (b := 120) (jh1 ja_119) (jh2 (b := 121) (jh1 ja_120) (jh1 ja_121))) (jh2 (b := 124) (jh2 (b := 123) (jh1 ja_122) (jh1 ja_123)) (jh2 (b := 125) (jh1 ja_124) (jh1 ja_125)))))
theorem jg_126 : ∀ M, 126 ≤ M → M < 140 → jP M := (jh2 (b := 133) (jh2 (b := 129) (jh2 (b := 127) (jh1 ja_126) (jh2 (b := 128) (jh1 ja_127) (jh1 ja_128))) (jh2 (b := 131) (jh2 (b := 130) (jh1 ja_129) (jh1 ja_130)) (jh2 (b := 132) (jh1 ja_131) (jh1 ja_132)))) (jh2 (b := 136) (jh2 (b := 134) (jh1 ja_133) (jh2 (b := 135) (jh1 ja_134) (jh1 ja_135))) (jh2 (b := 138) (jh2 (b := 137) (jh1 ja_136) (jh1 ja_137)) (jh2 (b := 139) (jh1 ja_138) (jh1 ja_139)))))
theorem jg_140 : ∀ M, 140 ≤ M → M < 154 → jP M := (jh2 (b := 147) (jh2 (b := 143) (jh2 (b := 141) (jh1 ja_140) (jh2 (b := 142) (jh1 ja_141) (jh1 ja_142))) (jh2 (b := 145) (jh2 (b := 144) (jh1 ja_143) (jh1 ja_144)) (jh2 (b := 146) (jh1 ja_145) (jh1 ja_146)))) (jh2 (b := 150) (jh2 (b := 148) (jh1 ja_147) (jh2 (b := 149) (jh1 ja_148) (jh1 ja_149))) (jh2 (b := 152) (jh2 (b := 151) (jh1 ja_150) (jh1 ja_151)) (jh2 (b := 153) (jh1 ja_152) (jh1 ja_153)))))
theorem jg_154 : ∀ M, 154 ≤ M → M < 168 → jP M := (jh2 (b := 161) (jh2 (b := 157) (jh2 (b := 155) (jh1 ja_154) (jh2 (b := 156) (jh1 ja_155) (jh1 ja_156))) (jh2 (b := 159) (jh2 (b := 158) (jh1 ja_157) (jh1 ja_158)) (jh2 (b := 160) (jh1 ja_159) (jh1 ja_160)))) (jh2 (b := 164) (jh2 (b := 162) (jh1 ja_161) (jh2 (b := 163) (jh1 ja_162) (jh1 ja_163))) (jh2 (b := 166) (jh2 (b := 165) (jh1 ja_164) (jh1 ja_165)) (jh2 (b := 167) (jh1 ja_166) (jh1 ja_167)))))
theorem jg_168 : ∀ M, 168 ≤ M → M < 182 → jP M := (jh2 (b := 175) (jh2 (b := 171) (jh2 (b := 169) (jh1 ja_168) (jh2 (b := 170) (jh1 ja_169) (jh1 ja_170))) (jh2 (b := 173) (jh2 (b := 172) (jh1 ja_171) (jh1 ja_172)) (jh2 (b := 174) (jh1 ja_173) (jh1 ja_174)))) (jh2 (b := 178) (jh2 (b := 176) (jh1 ja_175) (jh2 (b := 177) (jh1 ja_176) (jh1 ja_177))) (jh2 (b := 180) (jh2 (b := 179) (jh1 ja_178) (jh1 ja_179)) (jh2 (b := 181) (jh1 ja_180) (jh1 ja_181)))))
theorem jg_182 : ∀ M, 182 ≤ M → M < 196 → jP M := (jh2 (b := 189) (jh2 (b := 185) (jh2 (b := 183) (jh1 ja_182) (jh2 (b := 184) (jh1 ja_183) (jh1 ja_184))) (jh2 (b := 187) (jh2 (b := 186) (jh1 ja_185) (jh1 ja_186)) (jh2 (b := 188) (jh1 ja_187) (jh1 ja_188)))) (jh2 (b := 192) (jh2 (b := 190) (jh1 ja_189) (jh2 (b := 191) (jh1 ja_190) (jh1 ja_191))) (jh2 (b := 194) (jh2 (b := 193) (jh1 ja_192) (jh1 ja_193)) (jh2 (b := 195) (jh1 ja_194) (jh1 ja_195)))))
theorem jg_196 : ∀ M, 196 ≤ M → M < 205 → jP M := (jh2 (b := 200) (jh2 (b := 198) (jh2 (b := 197) (jh1 ja_196) (jh1 ja_197)) (jh2 (b := 199) (jh1 ja_198) (jh1 ja_199))) (jh2 (b := 202) (jh2 (b := 201) (jh1 ja_200) (jh1 ja_201)) (jh2 (b := 203) (jh1 ja_202) (jh2 (b := 204) (jh1 ja_203) (jh1 ja_204)))))
theorem jall0 : ∀ M, 0 ≤ M → M < 205 → jP M := (jh2 (b := 98) (jh2 (b := 42) (jh2 (b := 14) jg_0 (jh2 (b := 28) jg_14 jg_28)) (jh2 (b := 70) (jh2 (b := 56) jg_42 jg_56) (jh2 (b := 84) jg_70 jg_84))) (jh2 (b := 154) (jh2 (b := 126) (jh2 (b := 112) jg_98 jg_112) (jh2 (b := 140) jg_126 jg_140)) (jh2 (b := 182) (jh2 (b := 168) jg_154 jg_168) (jh2 (b := 196) jg_182 jg_196))))
theorem jall (M : Nat) (h : M < jtab.length) : (jget M).2.2.2.2.2.2.2.all (fun q => jchk M q.1 q.2) = true := jall0 M (Nat.zero_le _) h
theorem jlook_ok {M : Nat} {l : List (Nat × jE)} (h : l.all (fun q => jchk M q.1 q.2) = true) (pc : Nat) : jlook l pc = jno ∨ jchk M pc (jlook l pc) = true := by
  induction l with
  | nil => exact Or.inl rfl
  | cons q t ih =>
    obtain ⟨a, x⟩ := q
    simp only [List.all_cons, Bool.and_eq_true] at h
    simp only [jlook]
    by_cases hp : pc = a
    · rw [if_pos hp, hp]; exact Or.inr h.1
    · rw [if_neg hp]; exact ih h.2
theorem jcode_ok (M pc : Nat) : jcode M pc = jno ∨ jchk M pc (jcode M pc) = true := by
  by_cases hM : M < jtab.length
  · exact jlook_ok (jall M hM) pc
  · refine Or.inl ?_
    unfold jcode jget
    rw [show jtab.getD M jm_no = jm_no by simp [List.getD, List.getElem?_eq_none (Nat.not_lt.mp hM)]]
    rfl
section JQ
variable {D : jD} {l : Launch}
/-- the callee, by its run: its contract -/
def jA1 (D : jD) (l : Launch) (f : Nat) : Prop := ∀ (d M : Nat) (as : List Value) (σ σ' : jS) (r : Option Value), jmk M = true → Jvm.plainName (jown M) = true → (jlay as).length ≤ jml M → jrn f d M 0 (jent M as) [] σ = some (r, σ') → jMet D l d M as σ r σ'
def jB1 (D : jD) (l : Launch) (f : Nat) : Prop := ∀ (d M pc : Nat) (L : jL) (st : List Value) (σ σ' : jS) (r : Option Value), jrn f d M pc L st σ = some (r, σ') →
  ∀ (p : Program) (e : Env) (R : Room) (s : State) (m : MethodId) (args : Array Value) (below : List Frame) (meth : Method) (c : Code) (Q : State → Prop) (n1 s1 : Nat), jCtx D M p s m args meth c → d ≤ R.frames → 36 * d ≤ R.locals → jnx σ' - n1 ≤ R.cells → jsl σ' - s1 ≤ R.slots → n1 ≤ jnx σ → s1 ≤ jsl σ →
  (∀ (H : Heap) (locs : List Loc) (ls : Array Slot) (pc : Nat), jRel D σ' s H → (∀ q ∈ locs, jn0 D ≤ q.base) → jEnd M pc r → W p l e R s m args below meth c H locs (jnx σ' - n1) (jsl σ' - s1) Q (F0 m pc ls (r.toList.map (jv D)))) →
  jK D M p l e R s m args below meth c Q n1 s1 pc L st σ
theorem jcall_of {a n : Nat} {v : Bool} {st : List Value} {σ : jS} {o : jO} (h : jcall a n v st σ = some o) : jna a ≤ st.length ∧ jcs (st.drop (jna a)) ≤ 8 ∧ (jlay ((st.take (jna a)).reverse)).length ≤ jml a ∧ o = .inr (.inr (a, (st.take (jna a)).reverse, n, st.drop (jna a))) ∧ (v = true → ∃ b as, (st.take (jna a)).reverse = .ref b :: as ∧ jT σ b = 1 + jci a) := by
  unfold jcall at h
  split at h
  · cases h
  · rename_i h1
    have g1 : jna a ≤ st.length := Nat.not_lt.mp fun q => h1 (Or.inl q)
    have g2 : jcs (st.drop (jna a)) ≤ 8 := Nat.not_lt.mp fun q => h1 (Or.inr (Or.inl q))
    have g3 : (jlay ((st.take (jna a)).reverse)).length ≤ jml a := Nat.not_lt.mp fun q => h1 (Or.inr (Or.inr q))
    split at h
    · split at h
      · rename_i b as hb
        split at h
        · rename_i hT
          cases h
          exact ⟨g1, g2, g3, by rw [hb], fun _ => ⟨b, as, hb, hT⟩⟩
        · cases h
      · cases h
    · rename_i hv
      cases h
      exact ⟨g1, g2, g3, rfl, fun z => absurd z hv⟩
theorem jstep4 {f : Nat} (ih : jB1 D l f) (ia : jA1 D l f) {d M pc op a b n : Nat} {k : Int} {L : jL} {st : List Value} {σ σ' : jS} {r : Option Value} (h25 : ¬ op < 25) (h38 : ¬ op < 38) (h52 : ¬ op < 52) (hchk : jchk4 M pc op a b k n = true) (hrun : jbnd (jrn f) d M L σ (jcmd d (op, a, b, k, n) L st σ) = some (r, σ'))
    {p : Program} {e : Env} {R : Room} {s : State} {m : MethodId} {args : Array Value} {below : List Frame} {meth : Method} {c : Code} {Q : State → Prop} {n1 s1 : Nat} (C : jCtx D M p s m args meth c) (hf : d ≤ R.frames) (hlc : 36 * d ≤ R.locals) (hRc : jnx σ' - n1 ≤ R.cells) (hRs : jsl σ' - s1 ≤ R.slots) (hn1 : n1 ≤ jnx σ) (hs1 : s1 ≤ jsl σ)
    (hQ : ∀ (H : Heap) (locs : List Loc) (ls : Array Slot) (pc : Nat), jRel D σ' s H → (∀ q ∈ locs, jn0 D ≤ q.base) → jEnd M pc r → W p l e R s m args below meth c H locs (jnx σ' - n1) (jsl σ' - s1) Q (F0 m pc ls (r.toList.map (jv D)))) : jK D M p l e R s m args below meth c Q n1 s1 pc L st σ := by
  have e1 : jcmd d (op, a, b, k, n) L st σ = jcmd4 d op a b k n L st σ := by unfold jcmd; rw [if_neg h25, if_neg h38, if_neg h52]
  rw [e1] at hrun
  have next : ∀ q, jcmd4 d op a b k n L st σ = some (.inl q) → jK D M p l e R s m args below meth c Q n1 s1 q.1 q.2.1 q.2.2.1 q.2.2.2 := by
    intro q hq
    rw [hq] at hrun
    have hm := jcmd4_m h52 hq
    exact ih _ _ _ _ _ _ _ _ hrun p e R s m args below meth c Q n1 s1 C hf hlc hRc hRs (by omega) (by omega) hQ
  have calls : jcall a n false st σ = jcmd4 d op a b k n L st σ → ∃ (d' : Nat) (σ1 : jS) (r1 : Option Value), d = d' + 1 ∧ jrn f d' a 0 (jent a ((st.take (jna a)).reverse)) [] σ = some (r1, σ1) ∧ jna a ≤ st.length ∧ jcs (st.drop (jna a)) ≤ 8 ∧ (jlay ((st.take (jna a)).reverse)).length ≤ jml a ∧ jnx σ ≤ jnx σ1 ∧ jsl σ ≤ jsl σ1 ∧ jnx σ1 - n1 ≤ R.cells ∧ jsl σ1 - s1 ≤ R.slots ∧ jK D M p l e R s m args below meth c Q n1 s1 n L (r1.toList ++ st.drop (jna a)) σ1 := by
    intro hv
    rw [← hv] at hrun
    cases ho : jcall a n false st σ with
    | none => rw [ho] at hrun; cases hrun
    | some o =>
      obtain ⟨g1, g2, g3, g4, g5⟩ := jcall_of ho
      rw [ho, g4] at hrun
      cases d with
      | zero => cases hrun
      | succ d' =>
        obtain ⟨z, h1, h2⟩ := Option.bind_eq_some_iff.mp hrun
        have m1 := jrn_m f _ _ _ _ _ _ _ h1
        have m2 := jrn_m f _ _ _ _ _ _ _ h2
        have m2a : jnx z.2 ≤ jnx σ' := m2.1
        have m2b : jsl z.2 ≤ jsl σ' := m2.2
        exact ⟨d', z.2, z.1, rfl, h1, g1, g2, g3, m1.1, m1.2, by omega, by omega, ih _ _ _ _ _ _ _ _ h2 p e R s m args below meth c Q n1 s1 C hf hlc hRc hRs (by omega) (by omega) hQ⟩
  have none4 : jcmd4 d op a b k n L st σ = none → jK D M p l e R s m args below meth c Q n1 s1 pc L st σ := by
    intro hz
    rw [hz] at hrun
    cases hrun
  rcases jop64 h52 with rfl | rfl | rfl | rfl | rfl | rfl | rfl | rfl | rfl | rfl | rfl | rfl | h63
  · cases ho : jcmd4 d 52 a b k n L st σ with
    | none => exact none4 ho
    | some o =>
      have ho2 := ho
      simp (decide := true) only [jcmd4, reduceIte, jgo] at ho2
      split at ho2
      · rename_i hx; cases ho2; exact jo_getsA C hchk hx.2 hx.1 (next _ ho)
      · cases ho2
  · cases ho : jcmd4 d 53 a b k n L st σ with
    | none => exact none4 ho
    | some o =>
      have ho2 := ho
      simp (decide := true) only [jcmd4, reduceIte, jgo] at ho2
      split at ho2
      · cases ho2; exact jo_ldcs C hchk (next _ ho)
      · cases ho2
  · cases ho : jcmd4 d 54 a b k n L st σ with
    | none => exact none4 ho
    | some o =>
      have ho2 := ho
      simp (decide := true) only [jcmd4, reduceIte, jgo] at ho2
      split at ho2
      · rename_i q as has
        split at ho2
        · rename_i hx
          obtain ⟨rfl, hT⟩ := hx
          obtain ⟨d', σ1, r1, rfl, h1, g1, g2, g3, g4, g5, g6, g7, g8⟩ := calls (by rw [ho2, ho])
          rw [has] at h1 g3
          have hmT : jmT a = true := by have h : (jdc M pc (.invokevirtual b) 3 n && jwd k.toNat (.methodLink (jown M) b (jget a).1) && jmT a) = true := hchk; simp only [Bool.and_eq_true] at h; exact h.2
          have hmk : jmk a = true := by unfold jmT at hmT; simp only [Bool.and_eq_true] at hmT; exact hmT.1.1.1.1
          have hnm : ¬ jown a = "java/lang/Math" := by unfold jmT at hmT; simp only [Bool.and_eq_true, decide_eq_true_eq] at hmT; rw [hmT.2]; decide
          exact jo_callT C hchk g1 has.symm rfl g2 hT (ia _ _ _ _ _ _ hmk (jplain_of hmk hnm) g3 h1) hf hlc hn1 hs1 g4 g5 g6 g7 g8
        · cases ho2
      · cases ho2
  · cases ho : jcmd4 d 55 a b k n L st σ with
    | none => exact none4 ho
    | some o =>
      have ho2 := ho
      simp (decide := true) only [jcmd4, reduceIte, jgo] at ho2
      split at ho2
      · rename_i hx; cases ho2; exact jo_getsI C hchk hx (next _ ho)
      · cases ho2
  · cases ho : jcmd4 d 56 a b k n L st σ with
    | none => exact none4 ho
    | some o =>
      have ho2 := ho
      simp (decide := true) only [jcmd4, reduceIte, jgo] at ho2
      split at ho2
      · split at ho2
        · rename_i hx; cases ho2; exact jo_acpy C hchk hx.1.1 hx.1.2 hx.2.1.1 hx.2.1.2 hx.2.2.1.1 hx.2.2.1.2.1 hx.2.2.1.2.2 hx.2.2.2.1 hx.2.2.2.2 hf hlc (next _ ho)
        · cases ho2
      · cases ho2
  · cases ho : jcmd4 d 57 a b k n L st σ with
    | none => exact none4 ho
    | some o =>
      have ho2 := ho
      simp (decide := true) only [jcmd4, reduceIte, jgo] at ho2
      split at ho2
      · split at ho2
        · rename_i hx; obtain ⟨rfl, hT⟩ := hx; cases ho2; exact jo_getV C hchk hT (next _ ho)
        · cases ho2
      · cases ho2
  · cases ho : jcmd4 d 58 a b k n L st σ with
    | none => exact none4 ho
    | some o =>
      have ho2 := ho
      simp (decide := true) only [jcmd4, reduceIte, jgo] at ho2
      split at ho2
      · split at ho2
        · rename_i hx; obtain ⟨rfl, hT⟩ := hx; cases ho2; exact jo_getC C hchk hT (next _ ho)
        · cases ho2
      · cases ho2
  · cases ho : jcmd4 d 59 a b k n L st σ with
    | none => exact none4 ho
    | some o =>
      have ho2 := ho
      simp (decide := true) only [jcmd4, reduceIte, jgo] at ho2
      split at ho2
      · rename_i hx; cases ho2; exact jo_getsF C hchk hx (next _ ho)
      · cases ho2
  · cases ho : jcmd4 d 60 a b k n L st σ with
    | none => exact none4 ho
    | some o =>
      have ho2 := ho
      simp (decide := true) only [jcmd4, reduceIte, jgo] at ho2
      split at ho2
      · cases ho2; exact jo_i2c C hchk (next _ ho)
      · cases ho2
  · cases ho : jcmd4 d 61 a b k n L st σ with
    | none => exact none4 ho
    | some o =>
      have ho2 := ho
      simp (decide := true) only [jcmd4, reduceIte, jgo] at ho2
      split at ho2
      · rename_i x
        split at ho2
        · rename_i hx
          cases ho2
          rw [ho] at hrun
          have h : (jdc M pc .ireturn 1 n && decide ((a = 0 ∧ jret M = some .char) ∨ (a = 1 ∧ jret M = some .byte))) = true := hchk
          simp only [Bool.and_eq_true, decide_eq_true_eq] at h
          have hE : jEnd M pc (some (.int x)) := by
            rcases h.2 with ⟨ha, hj⟩ | ⟨ha, hj⟩
            · rcases hx with ⟨-, hx⟩ | ⟨ha', -⟩
              · exact Or.inr (Or.inl ⟨x, rfl, (jdc_of h.1).1, Or.inr ⟨_, hj, by show Value.int (x.toUInt32.toUInt16.toUInt32.toInt32) = _; rw [hx]⟩⟩)
              · omega
            · rcases hx with ⟨ha', -⟩ | ⟨-, hx⟩
              · omega
              · exact Or.inr (Or.inl ⟨x, rfl, (jdc_of h.1).1, Or.inr ⟨_, hj, by show Value.int (x.toInt8.toInt32) = _; rw [hx]⟩⟩)
          intro H locs ls hl hrel hlo
          have h9 : r = some (.int x) ∧ σ' = σ := by cases hrun; exact ⟨rfl, rfl⟩
          obtain ⟨rfl, rfl⟩ := h9
          exact hQ H locs ls pc hrel hlo hE
        · cases ho2
      · cases ho2
  · cases ho : jcmd4 d 62 a b k n L st σ with
    | none => exact none4 ho
    | some o =>
      have ho2 := ho
      simp (decide := true) only [jcmd4, reduceIte, jgo] at ho2
      split at ho2
      · split at ho2
        · rename_i hx; obtain ⟨⟨rfl, hT⟩, hi⟩ := hx; cases ho2; exact jo_tbald C hchk hT hi (next _ ho)
        · cases ho2
      · cases ho2
  · cases ho : jcmd4 d 63 a b k n L st σ with
    | none => exact none4 ho
    | some o =>
      have ho2 := ho
      simp (decide := true) only [jcmd4, reduceIte, jgo] at ho2
      split at ho2
      · split at ho2
        · rename_i hx; obtain ⟨rfl, hT⟩ := hx; cases ho2; exact jo_tlen C hchk hT (next _ ho)
        · cases ho2
      · cases ho2
  · exact none4 (jcmd4_big h63)
theorem jB_of (f : Nat) (ih : jB1 D l f) (ia : jA1 D l f) : jB1 D l (f + 1) := by
  intro d M pc L st σ σ' r hrun p e R s m args below meth c Q n1 s1 C hf hlc hRc hRs hn1 hs1 hQ
  rw [jrn_s] at hrun
  rcases jcode_ok M pc with hno | hchk
  · rw [hno] at hrun
    rw [show jcmd d jno L st σ = none from rfl] at hrun
    cases hrun
  · generalize jcode M pc = x at hrun hchk
    obtain ⟨op, a, b, k, n⟩ := x
    have next : ∀ q, jcmd d (op, a, b, k, n) L st σ = some (.inl q) → jK D M p l e R s m args below meth c Q n1 s1 q.1 q.2.1 q.2.2.1 q.2.2.2 := by
      intro q hq
      rw [hq] at hrun
      have hm := jcmd_m hq
      exact ih _ _ _ _ _ _ _ _ hrun p e R s m args below meth c Q n1 s1 C hf hlc hRc hRs (by omega) (by omega) hQ
    have room : ∀ q, jcmd d (op, a, b, k, n) L st σ = some (.inl q) → jnx q.2.2.2 - n1 ≤ R.cells ∧ jsl q.2.2.2 - s1 ≤ R.slots := by
      intro q hq
      rw [hq] at hrun
      have hm := jrn_m f _ _ _ _ _ _ _ hrun
      have h1 : jnx q.2.2.2 ≤ jnx σ' := hm.1
      have h2 : jsl q.2.2.2 ≤ jsl σ' := hm.2
      omega
    have hchk' := hchk
    unfold jchk at hchk'
    by_cases h25 : op < 25
    · have e1 : jcmd d (op, a, b, k, n) L st σ = jcmd1 d op a b k n L st σ := by unfold jcmd; rw [if_pos h25]
      rw [if_pos h25] at hchk'
      cases ho : jcmd1 d op a b k n L st σ with
      | none => rw [e1, ho] at hrun; cases hrun
      | some o => exact jstep1 C h25 hchk' ho (fun q hq => next q (by rw [e1, ho, hq]))
    · rw [if_neg h25] at hchk'
      by_cases h38 : op < 38
      · have e1 : jcmd d (op, a, b, k, n) L st σ = jcmd2 d op a b k n L st σ := by unfold jcmd; rw [if_neg h25, if_pos h38]
        rw [if_pos h38] at hchk'
        cases ho : jcmd2 d op a b k n L st σ with
        | none => rw [e1, ho] at hrun; cases hrun
        | some o => exact jstep2 C h25 h38 hchk' hn1 hs1 ho (fun q hq => room q (by rw [e1, ho, hq])) (fun q hq => next q (by rw [e1, ho, hq]))
      · rw [if_neg h38] at hchk'
        by_cases h52 : ¬ op < 52
        · rw [if_neg h52] at hchk'
          exact jstep4 ih ia h25 h38 h52 hchk' hrun C hf hlc hRc hRs hn1 hs1 hQ
        have h52 : op < 52 := Nat.not_le.mp (fun z => h52 (Nat.not_lt.mpr z))
        rw [if_pos h52] at hchk'
        have e1 : jcmd d (op, a, b, k, n) L st σ = jcmd3 d op a b k n L st σ := by unfold jcmd; rw [if_neg h25, if_neg h38, if_pos h52]
        have hchk : jchk3 M pc op a b k n = true := hchk'
        rw [e1] at hrun next room
        have calls : ∀ (v : Bool), jcall a n v st σ = jcmd3 d op a b k n L st σ → ∃ (d' : Nat) (σ1 : jS) (r1 : Option Value), d = d' + 1 ∧ jrn f d' a 0 (jent a ((st.take (jna a)).reverse)) [] σ = some (r1, σ1) ∧ jna a ≤ st.length ∧ jcs (st.drop (jna a)) ≤ 8 ∧ (jlay ((st.take (jna a)).reverse)).length ≤ jml a ∧ jnx σ ≤ jnx σ1 ∧ jsl σ ≤ jsl σ1 ∧ jnx σ1 - n1 ≤ R.cells ∧ jsl σ1 - s1 ≤ R.slots ∧ jK D M p l e R s m args below meth c Q n1 s1 n L (r1.toList ++ st.drop (jna a)) σ1 ∧ (v = true → ∃ b as, (st.take (jna a)).reverse = .ref b :: as ∧ jT σ b = 1 + jci a) := by
          intro v hv
          rw [← hv] at hrun
          cases ho : jcall a n v st σ with
          | none => rw [ho] at hrun; cases hrun
          | some o =>
            obtain ⟨g1, g2, g3, g4, g5⟩ := jcall_of ho
            rw [ho, g4] at hrun
            cases d with
            | zero => cases hrun
            | succ d' =>
              obtain ⟨z, h1, h2⟩ := Option.bind_eq_some_iff.mp hrun
              have m1 := jrn_m f _ _ _ _ _ _ _ h1
              have m2 := jrn_m f _ _ _ _ _ _ _ h2
              have m2a : jnx z.2 ≤ jnx σ' := m2.1
              have m2b : jsl z.2 ≤ jsl σ' := m2.2
              exact ⟨d', z.2, z.1, rfl, h1, g1, g2, g3, m1.1, m1.2, by omega, by omega, ih _ _ _ _ _ _ _ _ h2 p e R s m args below meth c Q n1 s1 C hf hlc hRc hRs (by omega) (by omega) hQ, g5⟩
        have fin : ∀ (hr : jcmd3 d op a b k n L st σ = some (.inr (.inl r))), jEnd M pc r → st = r.toList → jK D M p l e R s m args below meth c Q n1 s1 pc L st σ := by
          intro hr hE hst H locs ls hl hrel hlo
          rw [hr] at hrun
          have : σ' = σ := by cases hrun; rfl
          subst this
          rw [hst]
          exact hQ H locs ls pc hrel hlo hE
        have rets : ∀ v, jcmd3 d op a b k n L st σ = some (.inr (.inl v)) → v = r := by
          intro v hv
          rw [hv] at hrun
          cases hrun
          rfl
        rcases jop52 h38 with rfl | rfl | rfl | rfl | rfl | rfl | rfl | rfl | rfl | rfl | rfl | rfl | rfl | rfl | h51
        · obtain ⟨d', σ1, r1, rfl, h1, g1, g2, g3, g4, g5, g6, g7, g8, -⟩ := calls false rfl
          have hmk : jmk a = true := by have h : (jdc M pc (.invokestatic b) 3 n && jwd k.toNat (.methodLink (jown M) b (jget a).1) && jmS a) = true := hchk; simp only [jmS, Bool.and_eq_true] at h; exact h.2.1.1
          by_cases hma : jown a = "java/lang/Math"
          · exact jo_mathS C (jmath_ix hmk hma) hchk g1 g2 h1 hf hlc (by omega) (by omega) g8
          · exact jo_callS C (Or.inl rfl) hchk g1 rfl rfl g2 (ia _ _ _ _ _ _ hmk (jplain_of hmk hma) g3 h1) hf hlc hn1 hs1 g4 g5 g6 g7 g8
        · obtain ⟨d', σ1, r1, rfl, h1, g1, g2, g3, g4, g5, g6, g7, g8, g9⟩ := calls true rfl
          obtain ⟨q, as, has, hT⟩ := g9 rfl
          rw [has] at h1 g3
          exact jo_callV C (Or.inl rfl) hchk g1 has.symm rfl g2 hT (ia _ _ _ _ _ _ (by have h : (jdc M pc (.invokevirtual b) 3 n && jwd k.toNat (.methodLink (jown M) b (jget a).1) && jmV a) = true := hchk; simp only [jmV, Bool.and_eq_true] at h; exact h.2.1.1.1.1) (by have h : (jdc M pc (.invokevirtual b) 3 n && jwd k.toNat (.methodLink (jown M) b (jget a).1) && jmV a) = true := hchk; simp only [jmV, Bool.and_eq_true, decide_eq_true_eq] at h; exact jplain_cl h.2.2) g3 h1) hf hlc hn1 hs1 g4 g5 g6 g7 g8
        · obtain ⟨d', σ1, r1, rfl, h1, g1, g2, g3, g4, g5, g6, g7, g8, g9⟩ := calls true rfl
          obtain ⟨q, as, has, hT⟩ := g9 rfl
          rw [has] at h1 g3
          exact jo_callV C (Or.inr (Or.inl rfl)) hchk g1 has.symm rfl g2 hT (ia _ _ _ _ _ _ (by have h : (jdc M pc (.invokespecial b) 3 n && jwd k.toNat (.methodLink (jown M) b (jget a).1) && jmI a) = true := hchk; simp only [jmI, Bool.and_eq_true] at h; exact h.2.1.1.1.1.1) (by have h : (jdc M pc (.invokespecial b) 3 n && jwd k.toNat (.methodLink (jown M) b (jget a).1) && jmI a) = true := hchk; simp only [jmI, Bool.and_eq_true, decide_eq_true_eq] at h; exact jplain_cl h.2.2) g3 h1) hf hlc hn1 hs1 g4 g5 g6 g7 g8
        · obtain ⟨d', σ1, r1, rfl, h1, g1, g2, g3, g4, g5, g6, g7, g8, -⟩ := calls false rfl
          exact jo_callS C (Or.inr rfl) hchk g1 rfl rfl g2 (ia _ _ _ _ _ _ (by have h : (jdc M pc (.invokestatic b) 3 n && jwd k.toNat (.methodLinkNest (jown M) b (jget a).1 "RuleMill") && jmS a) = true := hchk; simp only [jmS, Bool.and_eq_true] at h; exact h.2.1.1) (by have h : (jdc M pc (.invokestatic b) 3 n && jwd k.toNat (.methodLinkNest (jown M) b (jget a).1 "RuleMill") && jmS a) = true := hchk; simp only [jmS, Bool.and_eq_true] at h; exact jplain_nest h.2.1.1 h.1.2) g3 h1) hf hlc hn1 hs1 g4 g5 g6 g7 g8
        · obtain ⟨d', σ1, r1, rfl, h1, g1, g2, g3, g4, g5, g6, g7, g8, g9⟩ := calls true rfl
          obtain ⟨q, as, has, hT⟩ := g9 rfl
          rw [has] at h1 g3
          exact jo_callV C (Or.inr (Or.inr (Or.inl rfl))) hchk g1 has.symm rfl g2 hT (ia _ _ _ _ _ _ (by have h : (jdc M pc (.invokevirtual b) 3 n && jwd k.toNat (.methodLinkNest (jown M) b (jget a).1 "RuleMill") && jmV a) = true := hchk; simp only [jmV, Bool.and_eq_true] at h; exact h.2.1.1.1.1) (by have h : (jdc M pc (.invokevirtual b) 3 n && jwd k.toNat (.methodLinkNest (jown M) b (jget a).1 "RuleMill") && jmV a) = true := hchk; simp only [jmV, Bool.and_eq_true, decide_eq_true_eq] at h; exact jplain_cl h.2.2) g3 h1) hf hlc hn1 hs1 g4 g5 g6 g7 g8
        · obtain ⟨d', σ1, r1, rfl, h1, g1, g2, g3, g4, g5, g6, g7, g8, g9⟩ := calls true rfl
          obtain ⟨q, as, has, hT⟩ := g9 rfl
          rw [has] at h1 g3
          exact jo_callV C (Or.inr (Or.inr (Or.inr rfl))) hchk g1 has.symm rfl g2 hT (ia _ _ _ _ _ _ (by have h : (jdc M pc (.invokespecial b) 3 n && jwd k.toNat (.methodLinkNest (jown M) b (jget a).1 "RuleMill") && jmI a) = true := hchk; simp only [jmI, Bool.and_eq_true] at h; exact h.2.1.1.1.1.1) (by have h : (jdc M pc (.invokespecial b) 3 n && jwd k.toNat (.methodLinkNest (jown M) b (jget a).1 "RuleMill") && jmI a) = true := hchk; simp only [jmI, Bool.and_eq_true, decide_eq_true_eq] at h; exact jplain_cl h.2.2) g3 h1) hf hlc hn1 hs1 g4 g5 g6 g7 g8
        · cases ho : jcmd3 d 44 a b k n L st σ with
          | none => rw [ho] at hrun; cases hrun
          | some o =>
            have ho2 := ho
            simp (decide := true) only [jcmd3, reduceIte, jgo] at ho2
            split at ho2
            · split at ho2
              · rename_i hx; cases ho2; exact jo_obj C hchk hx hf hlc (next _ ho)
              · cases ho2
            · cases ho2
        · cases ho : jcmd3 d 45 a b k n L st σ with
          | none => rw [ho] at hrun; cases hrun
          | some o =>
            have ho2 := ho
            simp (decide := true) only [jcmd3, reduceIte, jgo] at ho2
            split at ho2
            · cases ho2
              have hr := rets _ ho
              subst hr
              have h : (jdc M pc .return_ 1 n && decide (jret M = none)) = true := hchk
              simp only [Bool.and_eq_true, decide_eq_true_eq] at h
              exact fin ho (Or.inl ⟨rfl, (jdc_of h.1).1, h.2⟩) rfl
            · cases ho2
        · cases ho : jcmd3 d 46 a b k n L st σ with
          | none => rw [ho] at hrun; cases hrun
          | some o =>
            have ho2 := ho
            simp (decide := true) only [jcmd3, reduceIte, jgo] at ho2
            split at ho2
            · rename_i x
              cases ho2
              have hr := rets _ ho
              subst hr
              have h : (jdc M pc .ireturn 1 n && decide (jret M = some .int)) = true := hchk
              simp only [Bool.and_eq_true, decide_eq_true_eq] at h
              exact fin ho (Or.inr (Or.inl ⟨x, rfl, (jdc_of h.1).1, Or.inl h.2⟩)) rfl
            · cases ho2
        · cases ho : jcmd3 d 47 a b k n L st σ with
          | none => rw [ho] at hrun; cases hrun
          | some o =>
            have ho2 := ho
            simp (decide := true) only [jcmd3, reduceIte, jgo] at ho2
            split at ho2
            · rename_i x
              split at ho2
              · rename_i hx
                cases ho2
                have hr := rets _ ho
                subst hr
                have h : (jdc M pc .ireturn 1 n && decide (jret M = some .boolean)) = true := hchk
                simp only [Bool.and_eq_true, decide_eq_true_eq] at h
                exact fin ho (Or.inr (Or.inl ⟨x, rfl, (jdc_of h.1).1, Or.inr ⟨_, h.2, by show Value.int (x &&& 1) = _; rw [hx]⟩⟩)) rfl
              · cases ho2
            · cases ho2
        · cases ho : jcmd3 d 48 a b k n L st σ with
          | none => rw [ho] at hrun; cases hrun
          | some o =>
            have ho2 := ho
            simp (decide := true) only [jcmd3, reduceIte, jgo] at ho2
            have h : (jdc M pc .areturn 1 n && (match jret M with | some (.object _) => true | _ => false)) = true := hchk
            simp only [Bool.and_eq_true] at h
            obtain ⟨nm, hnm⟩ : ∃ nm, jret M = some (.object nm) := by
              have h2 := h.2
              split at h2
              · rename_i nm hnm; exact ⟨nm, hnm⟩
              · cases h2
            split at ho2
            · rename_i x
              cases ho2
              have hr := rets _ ho
              subst hr
              exact fin ho (Or.inr (Or.inr (Or.inl ⟨_, nm, rfl, Or.inr ⟨x, rfl⟩, (jdc_of h.1).1, hnm⟩))) rfl
            · cases ho2
              have hr := rets _ ho
              subst hr
              exact fin ho (Or.inr (Or.inr (Or.inl ⟨_, nm, rfl, Or.inl rfl, (jdc_of h.1).1, hnm⟩))) rfl
            · cases ho2
        · cases ho : jcmd3 d 49 a b k n L st σ with
          | none => rw [ho] at hrun; cases hrun
          | some o =>
            have ho2 := ho
            simp (decide := true) only [jcmd3, reduceIte, jgo] at ho2
            split at ho2
            · rename_i x
              cases ho2
              have hr := rets _ ho
              subst hr
              have h : (jdc M pc .lreturn 1 n && decide (jret M = some .long)) = true := hchk
              simp only [Bool.and_eq_true, decide_eq_true_eq] at h
              exact fin ho (Or.inr (Or.inr (Or.inr ⟨x, rfl, (jdc_of h.1).1, h.2⟩))) rfl
            · cases ho2
        · cases ho : jcmd3 d 50 a b k n L st σ with
          | none => rw [ho] at hrun; cases hrun
          | some o =>
            have ho2 := ho
            simp (decide := true) only [jcmd3, reduceIte, jgo] at ho2
            split at ho2
            · rename_i x rr lo hi df ts ht
              split at ho2
              · rename_i hx
                cases ho2
                exact jo_tsw C hchk ht (fun _ => next _ ho) (fun z => absurd hx z)
              · rename_i hx
                split at ho2
                · rename_i t htt
                  cases ho2
                  exact jo_tsw C hchk ht (fun z => absurd z hx) (fun _ => ⟨t, htt, next _ ho⟩)
                · cases ho2
            · cases ho2
        · cases ho : jcmd3 d 51 a b k n L st σ with
          | none => rw [ho] at hrun; cases hrun
          | some o =>
            have ho2 := ho
            simp (decide := true) only [jcmd3, reduceIte, jgo] at ho2
            split at ho2
            · rename_i x rr df ps ht
              cases ho2
              exact jo_lsw C hchk ht (next _ ho)
            · cases ho2
        · rw [jcmd3_big h51] at hrun
          cases hrun
end JQ
end
section
/-! a method's contract by its run; the run of the law's own method -/
theorem jlay_get (D : jD) : ∀ (as : List Value) (off i : Nat) (v : Value), (jlay as)[i]? = some (some v) → (off + i, jv D v) ∈ lv_args off (as.map (jv D)) := by
  intro as
  induction as with
  | nil => intro off i v h; simp [jlay] at h
  | cons w t ih =>
    intro off i v h
    simp only [List.map_cons, lv_args, jv_cat]
    simp only [jlay] at h
    by_cases hw : w.category = 2
    · rw [if_pos hw] at h ⊢
      match i, h with
      | 0, h =>
        simp only [List.getElem?_cons_zero] at h
        cases h
        exact List.mem_cons_self
      | 1, h => simp at h
      | j + 2, h =>
        simp only [List.getElem?_cons_succ] at h
        have h2 := ih (off + 2) j v h
        refine List.mem_cons_of_mem _ ?_
        rw [show off + (j + 2) = off + 2 + j by omega]
        exact h2
    · rw [if_neg hw] at h ⊢
      match i, h with
      | 0, h =>
        simp only [List.getElem?_cons_zero] at h
        cases h
        exact List.mem_cons_self
      | j + 1, h =>
        simp only [List.getElem?_cons_succ] at h
        have h2 := ih (off + 1) j v h
        refine List.mem_cons_of_mem _ ?_
        rw [show off + (j + 1) = off + 1 + j by omega]
        exact h2
theorem jlay_len (D : jD) (as : List Value) : (lg_sl (as.map (jv D))).length = (jlay as).length := by
  induction as with
  | nil => rfl
  | cons w t ih =>
    have h : lg_sl ((w :: t).map (jv D)) = (if (jv D w).category = 2 then [Slot.val (jv D w), Slot.second] else [Slot.val (jv D w)]) ++ lg_sl (t.map (jv D)) := by simp [lg_sl]
    rw [h, List.length_append, ih, jv_cat]
    simp only [jlay]
    by_cases hw : w.category = 2
    · rw [if_pos hw, if_pos hw]; simp; omega
    · rw [if_neg hw, if_neg hw]; simp; omega
theorem jl_entry (D : jD) {M : Nat} {as : List Value} (h : (jlay as).length ≤ jml M) : jl D ((lg_sl (as.map (jv D)) ++ List.replicate (jml M - (lg_sl (as.map (jv D))).length) Slot.unset).toArray) (jml M) (jent M as) := by
  have hl := lv_entry (as.map (jv D)) (n := jml M) (by rw [jlay_len]; exact h)
  refine ⟨hl.1, hl.2.1, by simp [jent]; omega, fun i v hv => ?_⟩
  refine hl.2.2 (i, jv D v) ?_
  unfold jent at hv
  by_cases hi : i < (jlay as).length
  · rw [List.getElem?_append_left hi] at hv
    have h2 := jlay_get D as 0 i v hv
    rw [Nat.zero_add] at h2
    exact h2
  · rw [List.getElem?_append_right (by omega)] at hv
    have h2 := List.eq_of_mem_replicate (List.mem_of_getElem? hv)
    cases h2
theorem jA_of {D : jD} {l : Launch} {f : Nat} (hB : jB1 D l f) : jA1 D l f := by
  intro d M as σ σ' r hmk hpl hlay hrun
  unfold jMet
  refine Met.ofW (cc := jbs M) (maxL := jml M) (ret := jret M) hpl rfl ?_
  intro p e s m args below meth c s₁ B hml hv
  obtain ⟨rfl, hrel, hK⟩ := hv
  have hx := B.exec
  have hb := B.bytes
  have hr := B.returns
  have hlocks := B.notSynchronized
  have hts := atoms_spec (ws := jws M) B.pre
  have C : jCtx D M p s m (as.map (jv D)).toArray meth c := ⟨hx, hb, hml, findClass_of_methodNamed B.named, fun w hw => hts w (List.mem_cons_of_mem _ hw), hK, fun h => (name_of_methodNamed B.named B.method).1.trans h⟩
  rw [lg_entry_eq]
  have key := hB d M 0 (jent M as) [] σ σ' r hrun p e (headSpec (jws M) (jrm d (jnx σ' - jnx σ) (jsl σ' - jsl σ))).room s m (as.map (jv D)).toArray below meth c (MQ below (jQc D r σ') (as.map (jv D)).toArray s (jnx σ' - jnx σ) (jsl σ' - jsl σ) (fun q => jn0 D ≤ q)) (jnx σ) (jsl σ) C (Nat.le_refl _) (Nat.le_refl _) (Nat.le_refl _) (Nat.le_refl _) (Nat.le_refl _) (Nat.le_refl _) ?_ s.heap [] _ (jl_entry D hlay) hrel (fun q h => by cases h)
  · rw [Nat.sub_self, Nat.sub_self] at key
    exact key
  · intro H locs ls pc hrel' hlo hE
    have hq : ∀ t : State, t.heap = H → s.WarmedH t.vm → jQc D r σ' (as.map (jv D)).toArray s (.returned (r.map (jv D))) t := fun t ht hW => ⟨rfl, by rw [ht]; exact hrel'.moved hW.alike⟩
    rcases hE with ⟨rfl, hd, hret⟩ | ⟨x, rfl, hd, hret⟩ | ⟨v, nm, rfl, hv, hd, hret⟩ | ⟨x, rfl, hd, hret⟩
    · exact W.vret hx hb (hr.trans hret) hq hlo hd
    · rcases hret with hret | ⟨ty, hret, hx1⟩
      · exact W.iret (v := x) hx hb (hr.trans hret) hq hlo hd
      · exact W.zret (v := x) (ty := ty) hx hb (hr.trans hret) hx1 hq hlo hd
    · refine W.aret (v := jv D v) hx hb (hr.trans hret) (Or.inl ⟨nm, rfl⟩) ?_ hq hlo hd
      rcases hv with rfl | ⟨a, rfl⟩
      · exact Or.inl rfl
      · exact Or.inr ⟨_, rfl⟩
    · exact W.lret (v := x) hx hb (hr.trans hret) hq hlo hd
theorem jsim (D : jD) (l : Launch) (f : Nat) : jB1 D l f := by
  induction f with
  | zero => intro d M pc L st σ σ' r h; cases h
  | succ f ih => exact jB_of f ih (jA_of ih)
/-- the start: the script alone -/
def jtr : List Int32 := [1, 2, 2, 2, 2, 2, 2, 2, 1, 1, 1, 1, 1, 1, 3, 1, 1, 0, 2]
def jtp : List Int32 := [2, 2, 3, 3, 3, 3, 3, 6, 1, 1, 1, 2, 2, 2, 4, 4, 4, 1, 3]
/-- without the script: the static rows and the names; whether the formatter is null -/
def jτ0 (z : Option Nat) : jS := (fun a => if a = 1 then 60 else if a = 2 then 60 else if a = 3 then 61 else 0, fun a => if a = 1 then 19 else if a = 2 then 19 else 0, fun _ _ => 0, fun g a => if a = 3 then z else none, fun a i => if a = 1 then jtr.getD i 0 else if a = 2 then jtp.getD i 0 else 0, fun _ _ => none, 16, 0)
def jσ0 (z : Option Nat) (L : Nat) (xs : Nat → Int32) : jS := (ju1 (jT (jτ0 z)) 0 60, ju1 (jN (jτ0 z)) 0 L, jI (jτ0 z), jR (jτ0 z), (fun a i => if a = 0 then xs i else jA (jτ0 z) a i), jG (jτ0 z), jnx (jτ0 z), jsl (jτ0 z))
end
section
/-! THE CLAIM OUT OF ONE WALK OF THE LAW'S BODY. Your part is whole_start (and what it stands on); all else here is the same for every law, but numbers. -/
def R_law : String := "RuleMillLaw"
def lw_P (b : Addr) (xs : List Int32) (args : Array Value) (s : State) : Prop := args = #[.ref b] ∧ s.IntsAt b xs ∧ xs.length ≤ 3072 ∧ (Jvm.Cond.and given_1 narrow_1).before args s = true
def lw_Q (_ : Array Value) (s : State) (o : Outcome) (t : State) : Prop := o = .returned (some (.int 1)) ∧ Framed s o t [] 600000 7302250
def lw_Z (below : List Frame) (a : Array Value) (s : State) : State → Prop := fun t => ∃ o, t.status = .running ∧ Ended t below o ∧ lw_Q a s o t
/-- the law's own end, with 1 on the stack, nothing written that was there before, its room as the claim has it -/
theorem lw_ret {p : Program} {l : Launch} {e : Env} {s : State} {m : MethodId} {below : List Frame} {meth : Method} {c : Code} {b : Nat} (hx : p.tables.exec = Jvm.exec) (hb : c.code = code) (hr : meth.sig.returnType = ret) (hlocks : meth.locks = false) {pc : Nat} {H : Heap} {ls : Array Slot} (hdg : decode code pc = .ok (.ireturn, 1)) : W p l e room_1 s m #[Value.ref b] below meth c H [] 600000 7302250 (lw_Z below #[Value.ref b] s) (F0 m pc ls [.int 1]) := by
  intro T hT X
  obtain ⟨fs, hret, hrun, hended, hW, hframe⟩ := X.leave (v := some (.int 1)) (hlocks := hlocks) (fun h => by rw [hr] at h; cases h)
  have hmeth' : T.vm.method? m = some meth := X.method'
  refine ⟨T.setFrames fs, ?_, .returned (some (.int 1)), hrun, hended, rfl, ⟨_, rfl⟩, hW, hframe⟩
  jvm_step X.here [X.here.top, hx, hb, hdg, hmeth', hr, ret, narrow_b1]
  (try refine ⟨rfl, ?_⟩); (try refine ⟨rfl, ?_⟩)
  first | (intro acts; rw [hret _ acts rfl rfl rfl]) | rw [hret _ _ rfl rfl rfl]
  exact Steps.refl _
/-- what holds at the law's entry: the machine, the code, the tables' words (any of lw_tbl by 'hts w (by decide +kernel)'), the script of L ints xs at the cell b, what the Statement gives of the start (any of its parts by flat_of_before) -/
def lw_At (p : Program) (s : State) (m : MethodId) (meth : Method) (c : Code) (b L : Nat) (xs : Nat → Int32) : Prop :=
  p.tables.exec = Jvm.exec ∧ c.code = code ∧ meth.sig.returnType = ret ∧ c.maxLocals = 4 ∧ s.vm.findClass R_law = some m.cls ∧ (∀ w ∈ lw_tbl, w.before #[Value.ref b] s = true) ∧ va_X b L xs s s.heap ∧ b < s.heap.size ∧ meth.locks = false ∧ (Jvm.Cond.and given_1 narrow_1).before #[Value.ref b] s = true

theorem jovw : [4, 5].all (fun ci => match jcl[ci]? with | some c => decide (Jvm.Cond.arrayOver (.object c.1) ∈ lw_tbl) | none => false) = true := by decide +kernel
/-- the statics and the names at the start -/
theorem jold0 {b : Nat} {s : State} (hts : ∀ w ∈ lw_tbl, w.before #[Value.ref b] s = true) (hgv : (Jvm.Cond.and given_1 narrow_1).before #[Value.ref b] s = true) (A : Nat → Prop) (hA : ∀ a : Nat, a < s.heap.size → ¬ A a) :
    ∃ (tR tP kS vS t5 : Nat) (z : Option Nat), (va_Z "RuleMill" "REGISTERS_OF" "[I" (.ref tR) A s s.heap ∧ va_T .int tR 19 (fun j => .int (jtr.getD j 0)) A s s.heap) ∧ (va_Z "RuleMill" "PRICES" "[I" (.ref tP) A s s.heap ∧ va_T .int tP 19 (fun j => .int (jtp.getD j 0)) A s s.heap) ∧ va_Z "java/lang/String" "COMPACT_STRINGS" "Z" (.int 1) A s s.heap ∧
      ((z = none ∧ va_Z "jdk/internal/util/Preconditions" "SIOOBE_FORMATTER" "Ljava/util/function/BiFunction;" .null A s s.heap) ∨ (z = some 5 ∧ va_Z "jdk/internal/util/Preconditions" "SIOOBE_FORMATTER" "Ljava/util/function/BiFunction;" (.ref t5) A s s.heap)) ∧ vk_S 1 [57] [jnml] (fun _ => kS) (fun _ => vS) A s s.heap ∧ vk_R "RuleMill$Reader" 163 jNAMES kS s ∧ vk_R "RuleMill$Row" 93 jNAMES kS s := by
  have hs := flat_of_before _ hgv
  obtain ⟨tR, eR, hR⟩ := va_Tof (tm := .static "RuleMill" "REGISTERS_OF" "[I") (ty := .int) (N := 19) (f := fun j => .int (jtr.getD j 0)) (A := A) (args := #[Value.ref b]) (s := s) (by decide) (hs _ (by decide +kernel)) (va_eqt (hs _ (by decide +kernel))) (fun j hj => va_eqt (hs _ ((by decide +kernel : ∀ j, j < 19 → (Jvm.Cond.eq (.elem (.static "RuleMill" "REGISTERS_OF" "[I") (.int (Int32.ofNat j))) (.int (jtr.getD j 0))) ∈ flatC (Jvm.Cond.and given_1 narrow_1)) j hj))) hA
  obtain ⟨tP, eP, hP⟩ := va_Tof (tm := .static "RuleMill" "PRICES" "[I") (ty := .int) (N := 19) (f := fun j => .int (jtp.getD j 0)) (A := A) (args := #[Value.ref b]) (s := s) (by decide) (hs _ (by decide +kernel)) (va_eqt (hs _ (by decide +kernel))) (fun j hj => va_eqt (hs _ ((by decide +kernel : ∀ j, j < 19 → (Jvm.Cond.eq (.elem (.static "RuleMill" "PRICES" "[I") (.int (Int32.ofNat j))) (.int (jtp.getD j 0))) ∈ flatC (Jvm.Cond.and given_1 narrow_1)) j hj))) hA
  have zR := va_Zref (hts (.laysStatic "RuleMill" "REGISTERS_OF" "[I") (by decide +kernel)) (hts (.initialized "RuleMill") (by decide +kernel)) eR hA
  have zP := va_Zref (hts (.laysStatic "RuleMill" "PRICES" "[I") (by decide +kernel)) (hts (.initialized "RuleMill") (by decide +kernel)) eP hA
  have zC := va_Zof (hts (.laysStatic "java/lang/String" "COMPACT_STRINGS" "Z") (by decide +kernel)) (hts (.initialized "java/lang/String") (by decide +kernel)) (va_eqt (z := 1) (hs _ (by decide +kernel))) hA
  have zF := va_Zqof (hts (.laysStatic "jdk/internal/util/Preconditions" "SIOOBE_FORMATTER" "Ljava/util/function/BiFunction;") (by decide +kernel)) (hts (.initialized "jdk/internal/util/Preconditions") (by decide +kernel)) (hs _ (by decide +kernel)) hA
  obtain ⟨adK, adV, hS, hE⟩ := vk_Sof (args := #[Value.ref b]) (s := s) (N := 1) (tm := fun _ => .string "RuleMill$Reader" 163) (len := [57]) (byt := [jnml]) (A := A) (fun i hi => by have : i = 0 := by omega
                                                                                                                                                                                       subst this; decide) (fun _ _ => hs _ (by decide +kernel)) (fun _ _ => hs _ (by decide +kernel)) (fun _ _ => hs _ (by decide +kernel))
    (fun i hi => by have : i = 0 := by omega
                    subst this; exact hs _ (by decide +kernel))
    (fun i hi j hj => by have : i = 0 := by omega
                         subst this
                         exact hs _ ((by decide +kernel : ∀ j, j < 57 → (Jvm.Cond.eq (.elem (.field (.string "RuleMill$Reader" 163) "java/lang/String" "value" "[B") (.int (Int32.ofNat j))) (.int (jnml.getD j 0))) ∈ flatC (Jvm.Cond.and given_1 narrow_1)) j hj))
    (fun i j hi hj hne => absurd (by omega : i = j) hne) hA
  have eK := hE 0 (by decide)
  have r1 : vk_R "RuleMill$Reader" 163 jNAMES (adK 0) s := vk_R.of (hts _ (by decide +kernel)) eK
  have r2 : vk_R "RuleMill$Row" 93 jNAMES (adK 0) s := vk_R.of (hts _ (by decide +kernel)) (va_eqR (t := .string "RuleMill$Reader" 163) (hs _ (by decide +kernel)) eK)
  have hS1 : vk_S 1 [57] [jnml] (fun _ => adK 0) (fun _ => adV 0) A s s.heap := by
    refine ⟨fun i hi => ?_, fun i j hi hj _ => by omega⟩
    have : i = 0 := by omega
    subst this
    exact hS.1 0 hi
  rcases zF with zF | ⟨t, zF⟩
  · exact ⟨tR, tP, adK 0, adV 0, 0, none, ⟨zR, hR⟩, ⟨zP, hP⟩, zC, Or.inl ⟨rfl, zF⟩, hS1, r1, r2⟩
  · exact ⟨tR, tP, adK 0, adV 0, t, some 5, ⟨zR, hR⟩, ⟨zP, hP⟩, zC, Or.inr ⟨rfl, zF⟩, hS1, r1, r2⟩
theorem jstart {p : Program} {e : Env} {s : State} {m : MethodId} {below : List Frame} {meth : Method} {c : Code} (l : Launch) {b L : Nat} {xs : Nat → Int32} (C0 : lw_At p s m meth c b L xs) (hruns : ∀ z : Option Nat, ∃ σ', jx 12 0 0 [some (.ref 0), none, none, none] [] (jσ0 z L xs) = some (some (.int 1), σ') ∧ jnx σ' ≤ 600016 ∧ jsl σ' ≤ 7302250) :
    W p l e room_1 s m #[Value.ref b] below meth c s.heap [] 0 0 (lw_Z below #[Value.ref b] s) (entryFrame m ([Value.ref b] : List Value).toArray 4) := by
  obtain ⟨hx, hb, hr, hml, hown, hts, hX, hbl, hlocks, hgv⟩ := id C0
  have hcls : ∀ ci : Nat, ∃ q : ClassId × (Nat → Nat), ∀ r, jcl[ci]? = some r → u_Kn s r.1 r.2.1 r.2.2 q.1 q.2 := by
    intro ci
    cases hc : jcl[ci]? with
    | none => exact ⟨(0, fun _ => 0), fun r h => by cases h⟩
    | some r =>
      obtain ⟨w1, w2, -⟩ := jcl_ws hc
      obtain ⟨cC, iS, h⟩ := u_known (C := r.1) (T := r.2.1) (N := r.2.2) (n := r.2.2) hts (fun w hw => (List.mem_filter.mp (w1 w hw)).1) (hts _ w2)
      exact ⟨(cC, iS), fun r' h' => by cases h'; exact h⟩
  have harr : ∀ t : Nat, ∃ cA : ClassId, t < 3 → ArrOfT s cA (newarray.typeOf (jat t)) ∧ s.vm.findClass ("[" ++ (newarray.typeOf (jat t)).toString) = some cA := by
    intro t
    by_cases ht : t < 3
    · obtain ⟨cA, kA, comp, h1, h2, h3⟩ := Cond.arrayClass_spec (hts _ (List.mem_filter.mp (jarw_of ht)).1)
      exact ⟨cA, fun _ => ⟨fun n z => ⟨fun k h => (by cases h), kA, h2, comp, h3⟩, h1⟩⟩
    · exact ⟨0, fun h => absurd h ht⟩
  have href : ∀ ci : Nat, ∃ cA : ClassId, ∀ r, jcl[ci]? = some r → ci = 4 ∨ ci = 5 → ArrOfT s cA (.object r.1) ∧ va_RA s cA (.object r.1) ∧ va_AO r.1 s := by
    intro ci
    by_cases hci : ci = 4 ∨ ci = 5
    · cases hc : jcl[ci]? with
      | none => exact ⟨0, fun r h => by cases h⟩
      | some r =>
        have ho := List.all_eq_true.mp jovw ci (by rcases hci with rfl | rfl <;> simp)
        rw [hc] at ho
        have hw := hts _ (of_decide_eq_true ho)
        obtain ⟨comp, cA, k, h1, h2, h3, h4, h5⟩ := Cond.arrayOver_spec hw
        exact ⟨cA, fun r' h' _ => by cases h'; exact ⟨fun n z => ⟨fun k h => (by cases h), k, h3, comp, h4⟩, ⟨k, comp, h3, h4, h1, h5⟩, va_AO.of hw⟩⟩
    · exact ⟨0, fun r _ h => absurd h hci⟩
  obtain ⟨tR, tP, kS, vS, t5, z, ⟨zR, aR⟩, ⟨zP, aP⟩, zC, zF, hS, r1, r2⟩ := jold0 hts hgv (fun q => s.heap.size ≤ q) (fun a ha h => by omega)
  obtain ⟨σ', hrun, hz1, hz2⟩ := hruns z
  let D : jD := (fun ci => (Classical.choose (hcls ci)).1, fun ci => (Classical.choose (hcls ci)).2, fun t => if t < 30 then Classical.choose (harr (t - 20)) else Classical.choose (href (t - 30)), fun a => if a = 0 then b else if a = 1 then tR else if a = 2 then tP else if a = 3 then kS else if a = 4 then vS else t5, s.heap.size)
  have hK : jKn D s := by
    refine ⟨fun ci r hc => Classical.choose_spec (hcls ci) r hc, fun t ht => ?_, fun ci r hc hi => ?_, fun w hw hn => ?_, r1, r2⟩
    · have h1 := Classical.choose_spec (harr t) ht
      have e : jdA D (20 + t) = Classical.choose (harr t) := by
        show (if 20 + t < 30 then Classical.choose (harr (20 + t - 20)) else _) = _
        rw [if_pos (by omega)]
        simp only [Nat.add_sub_cancel_left]
      rw [e]
      exact h1
    · have h1 := Classical.choose_spec (href ci) r hc hi
      have e : jdA D (30 + ci) = Classical.choose (href ci) := by
        show (if 30 + ci < 30 then _ else Classical.choose (href (30 + ci - 30))) = _
        rw [if_neg (by omega)]
        simp only [Nat.add_sub_cancel_left]
      rw [e]
      exact h1
    · have h5 := hts w hw
      cases w <;> first | exact va_Nw.of rfl h5 | cases hn
  have hol : jOl D z s s.heap := by
    refine ⟨zR, zP, zC, ?_, hS⟩
    rcases zF with ⟨rfl, zF⟩ | ⟨rfl, zF⟩
    · exact zF
    · exact zF
  have hrel : jRel D (jσ0 z L xs) s s.heap := by
    refine ⟨rfl, Nat.le_refl _, fun a => ?_⟩
    have hst : ∀ (a t : Nat) (T : List Int32), jT (jσ0 z L xs) a = 60 → jN (jσ0 z L xs) a = 19 → jloc D a = t → a < 16 → (∀ j, jA (jσ0 z L xs) a j = T.getD j 0) → va_T .int t 19 (fun j => .int (T.getD j 0)) (fun q => s.heap.size ≤ q) s s.heap → jcell D (jσ0 z L xs) s s.heap a := by
      intro a t T h1 h2 h3 h16 h4 h5
      refine ⟨fun ci r hc h => ?_, fun t1 t2 => ?_, fun t1 t2 => ?_, fun _ => ?_, Or.inr (Or.inr (Or.inl h1))⟩
      · have hl11 : ci < 11 := (List.getElem?_eq_some_iff.mp hc).1
        rw [h1] at h; omega
      · rw [h1] at t2; omega
      · rw [h1] at t2; omega
      · obtain ⟨cell, g1, g2, g3, g4, g5, g6, g7⟩ := h5
        refine ⟨h16, ?_, cell, by rw [h3]; exact g1, g2, g3, by rw [h2]; exact ⟨g4, g5⟩, fun j hj => ?_⟩
        · rw [h3]
          show t < s.heap.size
          exact Nat.not_le.mp g7
        · rw [h4]
          rw [h2] at hj
          exact g6 j hj
    by_cases ha : a = 0
    · subst ha
      have hT : jT (jσ0 z L xs) 0 = 60 := rfl
      refine ⟨fun ci r hc h => ?_, fun t1 t2 => ?_, fun t1 t2 => ?_, fun _ => ?_, Or.inr (Or.inr (Or.inl hT))⟩
      · have hl11 : ci < 11 := (List.getElem?_eq_some_iff.mp hc).1
        rw [hT] at h; omega
      · rw [hT] at t2; omega
      · rw [hT] at t2; omega
      · obtain ⟨scr, h1, h2, h3, h4, h5⟩ := hX
        exact ⟨by decide, hbl, scr, h1, h2, h3, ⟨Nat.le_of_eq h4.symm, by rw [h4]; rfl⟩, h5⟩
    by_cases ha1 : a = 1
    · subst ha1
      exact hst 1 tR jtr rfl rfl rfl (by decide) (fun j => rfl) aR
    by_cases ha2 : a = 2
    · subst ha2
      exact hst 2 tP jtp rfl rfl rfl (by decide) (fun j => rfl) aP
    by_cases ha3 : a = 3
    · subst ha3
      have hT : jT (jσ0 z L xs) 3 = 61 := rfl
      refine ⟨fun ci r hc h => ?_, fun t1 t2 => ?_, fun t1 t2 => ?_, fun t => ?_, Or.inr (Or.inr (Or.inr ⟨hT, rfl, hol⟩))⟩
      · have hl11 : ci < 11 := (List.getElem?_eq_some_iff.mp hc).1
        rw [hT] at h; omega
      · rw [hT] at t2; omega
      · rw [hT] at t2; omega
      · rw [hT] at t; omega
    · have hT : jT (jσ0 z L xs) a = 0 := by show (if a = 0 then 60 else if a = 1 then 60 else if a = 2 then 60 else if a = 3 then 61 else 0) = 0; rw [if_neg ha, if_neg ha1, if_neg ha2, if_neg ha3]
      refine ⟨fun ci r hc h => ?_, fun t1 t2 => ?_, fun t1 t2 => ?_, fun t => ?_, Or.inl (by rw [hT]; decide)⟩
      · rw [hT] at h; omega
      · rw [hT] at t1; omega
      · rw [hT] at t1; omega
      · rw [hT] at t; omega
  have C : jCtx D 0 p s m #[Value.ref b] meth c := ⟨hx, hb, hml, hown, fun w hw => hts w (List.mem_filter.mp hw).1, hK, fun h => absurd h (by decide)⟩
  obtain ⟨f, hf⟩ := jx_iff.mp hrun
  have hle := jl_entry D (M := 0) (as := [.ref 0]) (by decide)
  have key := jsim D l f 12 0 0 [some (.ref 0), none, none, none] [] (jσ0 z L xs) σ' (some (.int 1)) hf p e room_1 s m #[Value.ref b] below meth c (lw_Z below #[Value.ref b] s) 16 0 C (by decide) (by decide) (by show jnx σ' - 16 ≤ 600000; omega) (by show jsl σ' - 0 ≤ 7302250; omega) (Nat.le_refl _) (Nat.le_refl _) ?_ s.heap [] _ hle hrel (fun q h => by cases h)
  · rw [lg_entry_eq]
    exact key
  · intro H locs ls pc hrel' hlo hE
    rcases hE with ⟨h, -⟩ | ⟨x, h, hd, -⟩ | ⟨v, nm, h, hv, -⟩ | ⟨x, h, -⟩
    · cases h
    · cases h
      refine va_forget (fun q hq => hlo q hq) ?_
      refine W.widen (k := 600000) (n := 7302250) (by omega) (by omega) ?_
      exact lw_ret hx hb hr hlocks hd
    · cases h
      rcases hv with h | ⟨a, h⟩ <;> cases h
    · cases h
end
section
/-! a run that never meets the script's cell runs just so beside it -/
def jX0 (N : Nat) (X : Nat → Int32) (τ : jS) : jS := (ju1 (jT τ) 0 60, ju1 (jN τ) 0 N, jI τ, jR τ, (fun a i => if a = 0 then X i else jA τ a i), jG τ, jnx τ, jsl τ)
theorem jσ0_eq (z : Option Nat) (N : Nat) (X : Nat → Int32) : jσ0 z N X = jX0 N X (jτ0 z) := rfl
def jOK (τ : jS) : Prop := jT τ 0 = 0 ∧ 0 < jnx τ
def jmo (N : Nat) (X : Nat → Int32) (o : jO) : jO := match o with
  | .inl q => .inl (q.1, q.2.1, q.2.2.1, jX0 N X q.2.2.2)
  | .inr z => .inr z
section JEX
variable {N : Nat} {X : Nat → Int32} {τ : jS}
theorem jX_T {q t : Nat} (h0 : jOK τ) (ht : jT τ q = t) (h : t ≠ 0) : q ≠ 0 ∧ jT (jX0 N X τ) q = t := by
  have hq : q ≠ 0 := fun z => h (by rw [← ht, z]; exact h0.1)
  refine ⟨hq, ?_⟩
  show (if q = 0 then 60 else jT τ q) = t
  rw [if_neg hq]; exact ht
theorem jX_Ta {q a b : Nat} (h0 : jOK τ) (hx : jT τ q = a ∨ jT τ q = b) (ha : a ≠ 0) (hb : b ≠ 0) : q ≠ 0 ∧ jT (jX0 N X τ) q = jT τ q := by
  rcases hx with h | h
  · rw [h]; exact jX_T h0 h ha
  · rw [h]; exact jX_T h0 h hb
theorem jX_Tl {q k : Nat} (h0 : jOK τ) (hx : k + 1 ≤ jT τ q) : q ≠ 0 ∧ jT (jX0 N X τ) q = jT τ q := jX_T h0 rfl (by omega)
theorem jX_Ts {x t : Nat} (h0 : jOK τ) (hx : jT τ x + 29 = t) (ht : 30 ≤ t) : x ≠ 0 ∧ jT (jX0 N X τ) x = jT τ x := jX_T h0 rfl (by omega)
theorem jX_N {q : Nat} (hq : q ≠ 0) : jN (jX0 N X τ) q = jN τ q := by show (if q = 0 then N else jN τ q) = _; rw [if_neg hq]
theorem jX_A {q : Nat} (hq : q ≠ 0) (i : Nat) : jA (jX0 N X τ) q i = jA τ q i := by show (if q = 0 then X i else jA τ q i) = _; rw [if_neg hq]
theorem jX_sA {q i : Nat} {x : Int32} (hq : q ≠ 0) : jsA (jX0 N X τ) q i x = jX0 N X (jsA τ q i x) := by
  have e : jA (jsA (jX0 N X τ) q i x) = jA (jX0 N X (jsA τ q i x)) := by
    funext a j
    show (if a = q ∧ j = i then x else (if a = 0 then X j else jA τ a j)) = (if a = 0 then X j else (if a = q ∧ j = i then x else jA τ a j))
    by_cases ha : a = 0
    · rw [if_neg (fun z => hq (z.1.symm.trans ha)), if_pos ha, if_pos ha]
    · rw [if_neg ha, if_neg ha]
  exact congrArg (fun (A : Nat → Nat → Int32) => ((jT (jX0 N X τ), jN (jX0 N X τ), jI τ, jR τ, A, jG τ, jnx τ, jsl τ) : jS)) e
theorem ju1_c {α : Type} (f : Nat → α) {a b : Nat} (h : a ≠ b) (v w : α) : ju1 (ju1 f a v) b w = ju1 (ju1 f b w) a v := by
  funext z
  unfold ju1
  by_cases h1 : z = a
  · rw [if_neg (fun q => h (h1.symm.trans q)), if_pos h1, if_pos h1]
  · by_cases h2 : z = b
    · rw [if_pos h2, if_neg h1, if_pos h2]
    · rw [if_neg h2, if_neg h1, if_neg h1, if_neg h2]
theorem jX_nO {a n : Nat} (h : jOK τ) : jnO (jX0 N X τ) a n = jX0 N X (jnO τ a n) := by
  have hn : (0 : Nat) ≠ jnx τ := Nat.ne_of_lt h.2
  exact congrArg (fun (T : Nat → Nat) => ((T, ju1 (jN τ) 0 N, jz2 (jI τ) (jnx τ) 0, jz2 (jR τ) (jnx τ) none, jA (jX0 N X τ), jG τ, jnx τ + 1, jsl τ + n) : jS)) (ju1_c (jT τ) hn 60 (1 + a))
theorem jX_nA {a n : Nat} (h : jOK τ) : jnA (jX0 N X τ) a n = jX0 N X (jnA τ a n) := by
  have hn : (0 : Nat) ≠ jnx τ := Nat.ne_of_lt h.2
  have e : jA (jnA (jX0 N X τ) a n) = jA (jX0 N X (jnA τ a n)) := by
    funext z j
    show (if z = jnx τ then 0 else (if z = 0 then X j else jA τ z j)) = (if z = 0 then X j else (if z = jnx τ then 0 else jA τ z j))
    by_cases h1 : z = 0
    · rw [if_neg (fun q => hn (h1.symm.trans q)), if_pos h1, if_pos h1]
    · rw [if_neg h1, if_neg h1]
  have e1 : ∀ (T T' U U' : Nat → Nat) (A A' : Nat → Nat → Int32), T = T' → U = U' → A = A' → ((T, U, jI τ, jR τ, A, jG τ, jnx τ + 1, jsl τ + n) : jS) = (T', U', jI τ, jR τ, A', jG τ, jnx τ + 1, jsl τ + n) := by
    intro T T' U U' A A' h1 h2 h3; rw [h1, h2, h3]
  exact e1 _ _ _ _ _ _ (ju1_c (jT τ) hn 60 (20 + a)) (ju1_c (jN τ) hn N n) e
theorem jX_nG {a n : Nat} (h : jOK τ) : jnG (jX0 N X τ) a n = jX0 N X (jnG τ a n) := by
  have hn : (0 : Nat) ≠ jnx τ := Nat.ne_of_lt h.2
  have e1 : ∀ (T T' U U' : Nat → Nat), T = T' → U = U' → ((T, U, jI τ, jR τ, jA (jX0 N X τ), jz1 (jG τ) (jnx τ) none, jnx τ + 1, jsl τ + n) : jS) = (T', U', jI τ, jR τ, jA (jX0 N X τ), jz1 (jG τ) (jnx τ) none, jnx τ + 1, jsl τ + n) := by
    intro T T' U U' h1 h2; rw [h1, h2]
  exact e1 _ _ _ _ (ju1_c (jT τ) hn 60 (30 + a)) (ju1_c (jN τ) hn N n)
theorem jOK_new {T : Nat → Nat} {v : Nat} (h : jOK τ) : ju1 (jT τ) (jnx τ) v 0 = 0 := by
  show (if 0 = jnx τ then v else jT τ 0) = 0
  rw [if_neg (Nat.ne_of_lt h.2)]; exact h.1
theorem jX_c1 {d op a b n : Nat} {k : Int} {L : jL} {st : List Value} {o : jO} (hop : op < 25) (h0 : jOK τ) (ho : jcmd1 d op a b k n L st τ = some o) : jcmd1 d op a b k n L st (jX0 N X τ) = some (jmo N X o) ∧ ∀ q, o = .inl q → jOK q.2.2.2 := by
  refine ⟨?_, ?_⟩
  · rcases jop25 hop with rfl | rfl | rfl | rfl | rfl | rfl | rfl | rfl | rfl | rfl | rfl | rfl | rfl | rfl | rfl | rfl | rfl | rfl | rfl | rfl | rfl | rfl | rfl | rfl | rfl <;> simp (decide := true) only [jcmd1, reduceIte, jgo] at ho ⊢ <;> (repeat' (split at ho)) <;> first | (cases ho; done) | (cases ho; rfl) | (cases ho; simp_all [jmo])
  · intro q hq
    subst hq
    rw [jcmd1_m hop ho]
    exact h0
theorem jX_put {a n : Nat} {L : jL} {st : List Value} {o : jO} (h0 : jOK τ) (ho : jput n a L st τ = some o) : jput n a L st (jX0 N X τ) = some (jmo N X o) ∧ ∀ q, o = .inl q → jOK q.2.2.2 := by
  unfold jput at ho ⊢
  split at ho
  · split at ho
    · rename_i hx
      cases ho
      have h1 := (jX_T (N := N) (X := X) h0 hx.1 (by omega)).2
      refine ⟨?_, fun q hq => by cases hq; exact h0⟩
      rw [if_pos ⟨h1, hx.2⟩]; rfl
    · cases ho
  · split at ho
    · rename_i hx
      cases ho
      have h1 := (jX_T (N := N) (X := X) h0 hx.1 (by omega)).2
      refine ⟨?_, fun q hq => by cases hq; exact h0⟩
      show (if _ then _ else _) = _
      rw [if_pos ⟨h1, hx.2⟩]; rfl
    · cases ho
  · split at ho
    · rename_i hx
      cases ho
      have h1 := (jX_T (N := N) (X := X) h0 hx.1 (by omega)).2
      refine ⟨?_, fun q hq => by cases hq; exact h0⟩
      show (if _ then _ else _) = _
      rw [if_pos ⟨h1, hx.2⟩]; rfl
    · cases ho
  · cases ho
theorem jX_c2 {d op a b n : Nat} {k : Int} {L : jL} {st : List Value} {o : jO} (h25 : ¬ op < 25) (hop : op < 38) (h0 : jOK τ) (ho : jcmd2 d op a b k n L st τ = some o) : jcmd2 d op a b k n L st (jX0 N X τ) = some (jmo N X o) ∧ ∀ q, o = .inl q → jOK q.2.2.2 := by
  rcases jop38 h25 hop with rfl | rfl | rfl | rfl | rfl | rfl | rfl | rfl | rfl | rfl | rfl | rfl | rfl <;> simp (decide := true) only [jcmd2, reduceIte, jgo] at ho ⊢
  · split at ho
    · split at ho
      · rename_i hx
        cases ho
        have h1 := (jX_T (N := N) (X := X) h0 hx (by omega)).2
        exact ⟨by rw [if_pos h1]; rfl, fun q hq => by cases hq; exact h0⟩
      · cases ho
    · cases ho
  · exact jX_put h0 ho
  · exact jX_put h0 ho
  · split at ho
    · split at ho
      · rename_i hx
        split at ho
        · cases ho
        · rename_i hy
          cases ho
          have h1 := jX_Ta (N := N) (X := X) h0 hx (by decide) (by decide)
          refine ⟨?_, fun q hq => by cases hq; exact h0⟩
          rw [h1.2, jX_N h1.1, if_pos hx, if_neg hy, jX_A h1.1]; rfl
      · cases ho
    · cases ho
  · split at ho
    · split at ho
      · rename_i hx
        split at ho
        · cases ho
        · rename_i hy
          cases ho
          have h1 := jX_T (N := N) (X := X) h0 hx (by decide)
          refine ⟨?_, fun q hq => by cases hq; exact h0⟩
          rw [if_pos h1.2, jX_N h1.1, if_neg hy, jX_sA h1.1]; rfl
      · cases ho
    · cases ho
  · split at ho
    · split at ho
      · rename_i hx
        split at ho
        · cases ho
        · rename_i hy
          cases ho
          have h1 := jX_Ta (N := N) (X := X) h0 hx (by decide) (by decide)
          refine ⟨?_, fun q hq => by cases hq; exact h0⟩
          rw [h1.2, jX_N h1.1, if_pos hx, if_neg hy, jX_A h1.1]; rfl
      · cases ho
    · cases ho
  · split at ho
    · split at ho
      · cases ho
      · rename_i hy
        split at ho
        · rename_i hx
          cases ho
          have h1 := jX_T (N := N) (X := X) h0 hx (by decide)
          refine ⟨?_, fun q hq => by cases hq; exact h0⟩
          rw [jX_N h1.1, if_neg hy, if_pos h1.2, jX_sA h1.1]; rfl
        · rename_i hx1
          split at ho
          · rename_i hx
            cases ho
            have h1 := jX_T (N := N) (X := X) h0 hx (by decide)
            refine ⟨?_, fun q hq => by cases hq; exact h0⟩
            rw [jX_N h1.1, if_neg hy, if_neg (by rw [h1.2]; decide), if_pos h1.2, jX_sA h1.1]; rfl
          · cases ho
    · cases ho
  · split at ho
    · split at ho
      · rename_i hx
        split at ho
        · cases ho
        · rename_i hy
          cases ho
          have h1 := jX_Tl (N := N) (X := X) h0 hx.1
          refine ⟨?_, fun q hq => by cases hq; exact h0⟩
          rw [h1.2, jX_N h1.1, if_pos hx, if_neg hy]; rfl
      · cases ho
    · cases ho
  · split at ho
    · split at ho
      · rename_i hx
        split at ho
        · cases ho
        · rename_i hy
          cases ho
          have h1 := jX_Tl (N := N) (X := X) h0 hx.1
          have h2 := jX_Ts (N := N) (X := X) h0 hx.2.2 hx.1
          refine ⟨?_, fun q hq => by cases hq; exact h0⟩
          rw [h1.2, h2.2, jX_N h1.1, if_pos hx, if_neg hy]; rfl
      · cases ho
    · cases ho
  · split at ho
    · split at ho
      · rename_i hx
        cases ho
        have h1 := jX_Tl (N := N) (X := X) h0 hx.1
        refine ⟨?_, fun q hq => by cases hq; exact h0⟩
        rw [h1.2, jX_N h1.1, if_pos hx]; rfl
      · cases ho
    · cases ho
  · split at ho
    · rename_i r hc
      cases ho
      refine ⟨?_, fun q hq => by cases hq; exact ⟨jOK_new (T := fun _ => 0) h0, Nat.succ_pos _⟩⟩
      rw [jX_nO h0]; rfl
    · cases ho
  · split at ho
    · split at ho
      · cases ho
      · rename_i hx
        cases ho
        refine ⟨?_, fun q hq => by cases hq; exact ⟨jOK_new (T := fun _ => 0) h0, Nat.succ_pos _⟩⟩
        rw [if_neg hx, jX_nA h0]; rfl
    · cases ho
  · split at ho
    · split at ho
      · cases ho
      · rename_i hx
        cases ho
        refine ⟨?_, fun q hq => by cases hq; exact ⟨jOK_new (T := fun _ => 0) h0, Nat.succ_pos _⟩⟩
        rw [if_neg hx, jX_nG h0]; rfl
    · cases ho
theorem jX_call {a n : Nat} {v : Bool} {st : List Value} {o : jO} (h0 : jOK τ) (ho : jcall a n v st τ = some o) : jcall a n v st (jX0 N X τ) = some (jmo N X o) ∧ ∀ q, o = .inl q → jOK q.2.2.2 := by
  refine ⟨?_, fun q hq => by subst hq; exact (jcall_m ho).elim⟩
  unfold jcall at ho ⊢
  split at ho
  · cases ho
  · rename_i h1
    rw [if_neg h1]
    split at ho
    · rename_i hv
      rw [if_pos hv]
      split at ho
      · rename_i b as hb
        split at ho
        · rename_i hT
          cases ho
          have h2 := (jX_T (N := N) (X := X) h0 hT (by omega)).2
          rw [if_pos h2]; rfl
        · cases ho
      · cases ho
    · rename_i hv
      rw [if_neg hv]
      cases ho
      rfl
theorem jX_c3 {d op a b n : Nat} {k : Int} {L : jL} {st : List Value} {o : jO} (h38 : ¬ op < 38) (h0 : jOK τ) (ho : jcmd3 d op a b k n L st τ = some o) : jcmd3 d op a b k n L st (jX0 N X τ) = some (jmo N X o) ∧ ∀ q, o = .inl q → jOK q.2.2.2 := by
  refine ⟨?_, fun q hq => by subst hq; rw [jcmd3_m h38 ho]; exact h0⟩
  rcases jop52 h38 with rfl | rfl | rfl | rfl | rfl | rfl | rfl | rfl | rfl | rfl | rfl | rfl | rfl | rfl | h51
  case inr.inr.inr.inr.inr.inr.inr.inr.inr.inr.inr.inr.inr.inr => rw [jcmd3_big h51] at ho; cases ho
  all_goals simp (decide := true) only [jcmd3, reduceIte, jgo] at ho ⊢
  all_goals first | exact (jX_call h0 ho).1 | ((repeat' (split at ho)) <;> first | (cases ho; done) | (cases ho; rfl) | (cases ho; simp_all [jmo]; done) | (cases ho; simp only [jmo]; split <;> simp_all))
theorem jX_3 {t : Nat} (h0 : jOK τ) (ht : jT τ 3 = t) (h : t ≠ 0) : jT (jX0 N X τ) 3 = t := (jX_T h0 ht h).2
theorem jX_cp {p sp q dp x : Nat} (hp : p ≠ 0) (hq : q ≠ 0) : jcp (jX0 N X τ) p sp q dp x = jX0 N X (jcp τ p sp q dp x) := by
  have e : jA (jcp (jX0 N X τ) p sp q dp x) = jA (jX0 N X (jcp τ p sp q dp x)) := by
    funext a j
    show (if a = q then va_cpy (fun i => if p = 0 then X i else jA τ p i) (fun i => if q = 0 then X i else jA τ q i) sp dp x j else (if a = 0 then X j else jA τ a j)) = (if a = 0 then X j else (if a = q then va_cpy (jA τ p) (jA τ q) sp dp x j else jA τ a j))
    by_cases ha : a = 0
    · rw [if_neg (fun z => hq (z.symm.trans ha)), if_pos ha, if_pos ha]
    · rw [if_neg ha, if_neg ha]
      by_cases hb : a = q
      · rw [if_pos hb, if_pos hb]
        simp only [if_neg hp, if_neg hq]
      · rw [if_neg hb, if_neg hb]
  exact congrArg (fun (A : Nat → Nat → Int32) => ((jT (jX0 N X τ), jN (jX0 N X τ), jI τ, jR τ, A, jG τ, jnx τ, jsl τ) : jS)) e
theorem jX_c4 {d op a b n : Nat} {k : Int} {L : jL} {st : List Value} {o : jO} (h52 : ¬ op < 52) (h0 : jOK τ) (ho : jcmd4 d op a b k n L st τ = some o) : jcmd4 d op a b k n L st (jX0 N X τ) = some (jmo N X o) ∧ ∀ q, o = .inl q → jOK q.2.2.2 := by
  rcases jop64 h52 with rfl | rfl | rfl | rfl | rfl | rfl | rfl | rfl | rfl | rfl | rfl | rfl | h63
  case inr.inr.inr.inr.inr.inr.inr.inr.inr.inr.inr.inr => rw [jcmd4_big h63] at ho; cases ho
  all_goals simp (decide := true) only [jcmd4, reduceIte, jgo] at ho ⊢
  · split at ho
    · rename_i hx; cases ho
      exact ⟨by rw [if_pos ⟨jX_3 h0 hx.1 (by decide), hx.2⟩]; rfl, fun q hq => by cases hq; exact h0⟩
    · cases ho
  · split at ho
    · rename_i hx; cases ho
      exact ⟨by rw [if_pos (jX_3 h0 hx (by decide))]; rfl, fun q hq => by cases hq; exact h0⟩
    · cases ho
  · split at ho
    · split at ho
      · rename_i hx
        refine ⟨?_, (jX_call (N := N) (X := X) h0 ho).2⟩
        rw [if_pos ⟨hx.1, jX_3 h0 hx.2 (by decide)⟩]
        exact (jX_call h0 ho).1
      · cases ho
    · cases ho
  · split at ho
    · rename_i hx; cases ho
      exact ⟨by rw [if_pos (jX_3 h0 hx (by decide))]; rfl, fun q hq => by cases hq; exact h0⟩
    · cases ho
  · split at ho
    · split at ho
      · rename_i hx
        cases ho
        have hp := jX_T (N := N) (X := X) h0 hx.1.1 (by decide)
        have hq := jX_T (N := N) (X := X) h0 hx.1.2 (by decide)
        refine ⟨?_, fun q hq => by cases hq; exact h0⟩
        rw [hp.2, hq.2, jX_N hp.1, jX_N hq.1, if_pos ⟨⟨rfl, rfl⟩, hx.2⟩, jX_cp hp.1 hq.1]; rfl
      · cases ho
    · cases ho
  · split at ho
    · split at ho
      · rename_i hx; cases ho
        exact ⟨by rw [if_pos ⟨hx.1, jX_3 h0 hx.2 (by decide)⟩]; rfl, fun q hq => by cases hq; exact h0⟩
      · cases ho
    · cases ho
  · split at ho
    · split at ho
      · rename_i hx; cases ho
        exact ⟨by rw [if_pos ⟨hx.1, jX_3 h0 hx.2 (by decide)⟩]; rfl, fun q hq => by cases hq; exact h0⟩
      · cases ho
    · cases ho
  · split at ho
    · rename_i hx; cases ho
      exact ⟨by rw [if_pos (jX_3 h0 hx (by decide))]; rfl, fun q hq => by cases hq; exact h0⟩
    · cases ho
  · split at ho
    · cases ho; exact ⟨rfl, fun q hq => by cases hq; exact h0⟩
    · cases ho
  · split at ho
    · split at ho
      · rename_i hx; cases ho
        exact ⟨by rw [if_pos hx]; rfl, fun q hq => by cases hq⟩
      · cases ho
    · cases ho
  · split at ho
    · split at ho
      · rename_i hx; cases ho
        exact ⟨by rw [if_pos ⟨⟨hx.1.1, jX_3 h0 hx.1.2 (by decide)⟩, hx.2⟩]; rfl, fun q hq => by cases hq; exact h0⟩
      · cases ho
    · cases ho
  · split at ho
    · split at ho
      · rename_i hx; cases ho
        exact ⟨by rw [if_pos ⟨hx.1, jX_3 h0 hx.2 (by decide)⟩]; rfl, fun q hq => by cases hq; exact h0⟩
      · cases ho
    · cases ho
theorem jX_cmd {d : Nat} {x : jE} {L : jL} {st : List Value} {o : jO} (h0 : jOK τ) (ho : jcmd d x L st τ = some o) : jcmd d x L st (jX0 N X τ) = some (jmo N X o) ∧ ∀ q, o = .inl q → jOK q.2.2.2 := by
  unfold jcmd at ho ⊢
  split at ho
  · rename_i h25
    rw [if_pos h25]; exact jX_c1 h25 h0 ho
  · rename_i h25
    rw [if_neg h25]
    split at ho
    · rename_i h38
      rw [if_pos h38]; exact jX_c2 h25 h38 h0 ho
    · rename_i h38
      rw [if_neg h38]
      split at ho
      · rename_i h52
        rw [if_pos h52]; exact jX_c3 h38 h0 ho
      · rename_i h52
        rw [if_neg h52]; exact jX_c4 h52 h0 ho
theorem jX_run (f : Nat) : ∀ (d M pc : Nat) (L : jL) (st : List Value) (τ : jS) (r : Option Value × jS), jOK τ → jrn f d M pc L st τ = some r → jrn f d M pc L st (jX0 N X τ) = some (r.1, jX0 N X r.2) ∧ jOK r.2 := by
  induction f with
  | zero => intro d M pc L st τ r h0 h; cases h
  | succ f ih =>
    intro d M pc L st τ r h0 h
    rw [jrn_s] at h ⊢
    rcases hc : jcmd d (jcode M pc) L st τ with _ | q | v | q
    · rw [hc] at h; cases h
    · rw [hc] at h
      obtain ⟨h1, h2⟩ := jX_cmd (N := N) (X := X) h0 hc
      rw [h1]
      exact ih _ _ _ _ _ _ _ (h2 q rfl) h
    · rw [hc] at h
      obtain ⟨h1, h2⟩ := jX_cmd (N := N) (X := X) h0 hc
      rw [h1]
      cases h
      exact ⟨rfl, h0⟩
    · rw [hc] at h
      obtain ⟨h1, h2⟩ := jX_cmd (N := N) (X := X) h0 hc
      rw [h1]
      cases d with
      | zero => cases h
      | succ d =>
        obtain ⟨z, g1, g2⟩ := Option.bind_eq_some_iff.mp h
        obtain ⟨k1, k2⟩ := ih _ _ _ _ _ _ _ h0 g1
        obtain ⟨k3, k4⟩ := ih _ _ _ _ _ _ _ k2 g2
        exact ⟨Option.bind_eq_some_iff.mpr ⟨_, k1, k3⟩, k4⟩
end JEX
end
section
theorem tq1 : ((((jget 131).2.2.2.2.2.2.2.take 120)).filter (fun q => decide (38 ≤ q.2.1))).all (fun q => jchk 131 q.1 q.2) = true := by decide +kernel
end
