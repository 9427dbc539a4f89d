-- ===== PART A: goes FIRST, ahead of the names: the tables' words, and 'selects' of the private methods out of them =====
/-- a private method of a class that the tables say can be made, by its rows of tables_1 -/
def lw_okq (q : MethodName × Nat) : Prop := (q.1.cls ≠ "java/lang/invoke/MethodHandle" ∧ q.1.cls ≠ "java/lang/invoke/VarHandle") ∧ Cond.instantiable q.1.cls q.2 ∈ tables_1 ∧ Cond.privateMethod q.1 ∈ tables_1 ∧ Cond.instanceMethod q.1 ∈ tables_1
theorem lw_p0 : lw_okq (⟨"TablePacker", "refresh", "()V"⟩, 8) := ⟨⟨by decide +kernel, by decide +kernel⟩, List.mem_of_getElem? (i := 16) (by decide +kernel), List.mem_of_getElem? (i := 289) (by decide +kernel), List.mem_of_getElem? (i := 290) (by decide +kernel)⟩
theorem lw_p1 : lw_okq (⟨"TablePacker$Openings", "widenKinds", "()Z"⟩, 3) := ⟨⟨by decide +kernel, by decide +kernel⟩, List.mem_of_getElem? (i := 47) (by decide +kernel), List.mem_of_getElem? (i := 300) (by decide +kernel), List.mem_of_getElem? (i := 301) (by decide +kernel)⟩
theorem lw_p2 : lw_okq (⟨"TablePacker$Openings", "ofRow", "(II)I"⟩, 3) := ⟨⟨by decide +kernel, by decide +kernel⟩, List.mem_of_getElem? (i := 47) (by decide +kernel), List.mem_of_getElem? (i := 312) (by decide +kernel), List.mem_of_getElem? (i := 313) (by decide +kernel)⟩
theorem lw_p3 : lw_okq (⟨"TablePacker$Openings", "findRests", "(I)V"⟩, 3) := ⟨⟨by decide +kernel, by decide +kernel⟩, List.mem_of_getElem? (i := 47) (by decide +kernel), List.mem_of_getElem? (i := 324) (by decide +kernel), List.mem_of_getElem? (i := 325) (by decide +kernel)⟩
theorem lw_p4 : lw_okq (⟨"TablePacker$States", "markItems", "()V"⟩, 8) := ⟨⟨by decide +kernel, by decide +kernel⟩, List.mem_of_getElem? (i := 79) (by decide +kernel), List.mem_of_getElem? (i := 332) (by decide +kernel), List.mem_of_getElem? (i := 333) (by decide +kernel)⟩
theorem lw_p5 : lw_okq (⟨"TablePacker$States", "bringRules", "()V"⟩, 8) := ⟨⟨by decide +kernel, by decide +kernel⟩, List.mem_of_getElem? (i := 79) (by decide +kernel), List.mem_of_getElem? (i := 346) (by decide +kernel), List.mem_of_getElem? (i := 347) (by decide +kernel)⟩
theorem lw_p6 : lw_okq (⟨"TablePacker$States", "bringAlong", "(II)V"⟩, 8) := ⟨⟨by decide +kernel, by decide +kernel⟩, List.mem_of_getElem? (i := 79) (by decide +kernel), List.mem_of_getElem? (i := 350) (by decide +kernel), List.mem_of_getElem? (i := 351) (by decide +kernel)⟩
theorem lw_p7 : lw_okq (⟨"TablePacker$States", "complete", "()V"⟩, 8) := ⟨⟨by decide +kernel, by decide +kernel⟩, List.mem_of_getElem? (i := 79) (by decide +kernel), List.mem_of_getElem? (i := 359) (by decide +kernel), List.mem_of_getElem? (i := 360) (by decide +kernel)⟩
theorem lw_p8 : lw_okq (⟨"TablePacker$States", "candidateStandsBefore", "(I)Z"⟩, 8) := ⟨⟨by decide +kernel, by decide +kernel⟩, List.mem_of_getElem? (i := 79) (by decide +kernel), List.mem_of_getElem? (i := 363) (by decide +kernel), List.mem_of_getElem? (i := 364) (by decide +kernel)⟩
theorem lw_p9 : lw_okq (⟨"TablePacker$States", "numberOfCandidate", "()I"⟩, 8) := ⟨⟨by decide +kernel, by decide +kernel⟩, List.mem_of_getElem? (i := 79) (by decide +kernel), List.mem_of_getElem? (i := 367) (by decide +kernel), List.mem_of_getElem? (i := 368) (by decide +kernel)⟩
theorem lw_p10 : lw_okq (⟨"TablePacker$States", "isCandidate", "(I)Z"⟩, 8) := ⟨⟨by decide +kernel, by decide +kernel⟩, List.mem_of_getElem? (i := 79) (by decide +kernel), List.mem_of_getElem? (i := 371) (by decide +kernel), List.mem_of_getElem? (i := 372) (by decide +kernel)⟩
theorem lw_p11 : lw_okq (⟨"TablePacker$States", "leadOn", "(I)V"⟩, 8) := ⟨⟨by decide +kernel, by decide +kernel⟩, List.mem_of_getElem? (i := 79) (by decide +kernel), List.mem_of_getElem? (i := 378) (by decide +kernel), List.mem_of_getElem? (i := 379) (by decide +kernel)⟩
theorem lw_p12 : lw_okq (⟨"TablePacker$States", "step", "(II)Z"⟩, 8) := ⟨⟨by decide +kernel, by decide +kernel⟩, List.mem_of_getElem? (i := 79) (by decide +kernel), List.mem_of_getElem? (i := 382) (by decide +kernel), List.mem_of_getElem? (i := 383) (by decide +kernel)⟩
theorem lw_p13 : lw_okq (⟨"TablePacker$Lookahead", "join", "(III)V"⟩, 6) := ⟨⟨by decide +kernel, by decide +kernel⟩, List.mem_of_getElem? (i := 111) (by decide +kernel), List.mem_of_getElem? (i := 403) (by decide +kernel), List.mem_of_getElem? (i := 404) (by decide +kernel)⟩
theorem lw_p14 : lw_okq (⟨"TablePacker$Lookahead", "spreadState", "(I)V"⟩, 6) := ⟨⟨by decide +kernel, by decide +kernel⟩, List.mem_of_getElem? (i := 111) (by decide +kernel), List.mem_of_getElem? (i := 408) (by decide +kernel), List.mem_of_getElem? (i := 409) (by decide +kernel)⟩
theorem lw_p15 : lw_okq (⟨"TablePacker$Lookahead", "spreadItem", "(II)V"⟩, 6) := ⟨⟨by decide +kernel, by decide +kernel⟩, List.mem_of_getElem? (i := 111) (by decide +kernel), List.mem_of_getElem? (i := 417) (by decide +kernel), List.mem_of_getElem? (i := 418) (by decide +kernel)⟩
def lw_privs_1 : List (MethodName × Nat) := [(⟨"TablePacker", "refresh", "()V"⟩, 8), (⟨"TablePacker$Openings", "widenKinds", "()Z"⟩, 3), (⟨"TablePacker$Openings", "ofRow", "(II)I"⟩, 3), (⟨"TablePacker$Openings", "findRests", "(I)V"⟩, 3), (⟨"TablePacker$States", "markItems", "()V"⟩, 8), (⟨"TablePacker$States", "bringRules", "()V"⟩, 8), (⟨"TablePacker$States", "bringAlong", "(II)V"⟩, 8), (⟨"TablePacker$States", "complete", "()V"⟩, 8), (⟨"TablePacker$States", "candidateStandsBefore", "(I)Z"⟩, 8), (⟨"TablePacker$States", "numberOfCandidate", "()I"⟩, 8), (⟨"TablePacker$States", "isCandidate", "(I)Z"⟩, 8), (⟨"TablePacker$States", "leadOn", "(I)V"⟩, 8), (⟨"TablePacker$States", "step", "(II)Z"⟩, 8), (⟨"TablePacker$Lookahead", "join", "(III)V"⟩, 6), (⟨"TablePacker$Lookahead", "spreadState", "(I)V"⟩, 6), (⟨"TablePacker$Lookahead", "spreadItem", "(II)V"⟩, 6)]
theorem lw_r1 : ∀ q ∈ lw_privs_1, lw_okq q := List.forall_mem_cons.mpr ⟨lw_p0, List.forall_mem_cons.mpr ⟨lw_p1, List.forall_mem_cons.mpr ⟨lw_p2, List.forall_mem_cons.mpr ⟨lw_p3, List.forall_mem_cons.mpr ⟨lw_p4, List.forall_mem_cons.mpr ⟨lw_p5, List.forall_mem_cons.mpr ⟨lw_p6, List.forall_mem_cons.mpr ⟨lw_p7, List.forall_mem_cons.mpr ⟨lw_p8, List.forall_mem_cons.mpr ⟨lw_p9, List.forall_mem_cons.mpr ⟨lw_p10, List.forall_mem_cons.mpr ⟨lw_p11, List.forall_mem_cons.mpr ⟨lw_p12, List.forall_mem_cons.mpr ⟨lw_p13, List.forall_mem_cons.mpr ⟨lw_p14, List.forall_mem_cons.mpr ⟨lw_p15, fun _ h => absurd h List.not_mem_nil⟩⟩⟩⟩⟩⟩⟩⟩⟩⟩⟩⟩⟩⟩⟩⟩
theorem lw_p16 : lw_okq (⟨"TablePacker$Lookahead", "joinRulesOf", "(III)V"⟩, 6) := ⟨⟨by decide +kernel, by decide +kernel⟩, List.mem_of_getElem? (i := 111) (by decide +kernel), List.mem_of_getElem? (i := 434) (by decide +kernel), List.mem_of_getElem? (i := 435) (by decide +kernel)⟩
theorem lw_p17 : lw_okq (⟨"TablePacker$PlainTable", "addReduction", "(III)V"⟩, 2) := ⟨⟨by decide +kernel, by decide +kernel⟩, List.mem_of_getElem? (i := 63) (by decide +kernel), List.mem_of_getElem? (i := 449) (by decide +kernel), List.mem_of_getElem? (i := 450) (by decide +kernel)⟩
theorem lw_p18 : lw_okq (⟨"TablePacker$PackedTable", "mostCommon", "(I)I"⟩, 9) := ⟨⟨by decide +kernel, by decide +kernel⟩, List.mem_of_getElem? (i := 137) (by decide +kernel), List.mem_of_getElem? (i := 459) (by decide +kernel), List.mem_of_getElem? (i := 460) (by decide +kernel)⟩
theorem lw_p19 : lw_okq (⟨"TablePacker$PackedTable", "widthOf", "(I)I"⟩, 9) := ⟨⟨by decide +kernel, by decide +kernel⟩, List.mem_of_getElem? (i := 137) (by decide +kernel), List.mem_of_getElem? (i := 463) (by decide +kernel), List.mem_of_getElem? (i := 464) (by decide +kernel)⟩
theorem lw_p20 : lw_okq (⟨"TablePacker$PackedTable", "choiceAt", "(II)I"⟩, 9) := ⟨⟨by decide +kernel, by decide +kernel⟩, List.mem_of_getElem? (i := 137) (by decide +kernel), List.mem_of_getElem? (i := 470) (by decide +kernel), List.mem_of_getElem? (i := 471) (by decide +kernel)⟩
theorem lw_p21 : lw_okq (⟨"TablePacker$PackedTable", "findSpots", "(I)I"⟩, 9) := ⟨⟨by decide +kernel, by decide +kernel⟩, List.mem_of_getElem? (i := 137) (by decide +kernel), List.mem_of_getElem? (i := 479) (by decide +kernel), List.mem_of_getElem? (i := 480) (by decide +kernel)⟩
theorem lw_p22 : lw_okq (⟨"TablePacker$PackedTable", "entryOf", "(II)I"⟩, 9) := ⟨⟨by decide +kernel, by decide +kernel⟩, List.mem_of_getElem? (i := 137) (by decide +kernel), List.mem_of_getElem? (i := 483) (by decide +kernel), List.mem_of_getElem? (i := 484) (by decide +kernel)⟩
theorem lw_p23 : lw_okq (⟨"TablePacker$PackedTable", "moveByDefault", "(I)I"⟩, 9) := ⟨⟨by decide +kernel, by decide +kernel⟩, List.mem_of_getElem? (i := 137) (by decide +kernel), List.mem_of_getElem? (i := 487) (by decide +kernel), List.mem_of_getElem? (i := 488) (by decide +kernel)⟩
theorem lw_p24 : lw_okq (⟨"TablePacker$PackedTable", "seatRowsWith", "(I)V"⟩, 9) := ⟨⟨by decide +kernel, by decide +kernel⟩, List.mem_of_getElem? (i := 137) (by decide +kernel), List.mem_of_getElem? (i := 494) (by decide +kernel), List.mem_of_getElem? (i := 495) (by decide +kernel)⟩
theorem lw_p25 : lw_okq (⟨"TablePacker$PackedTable", "leastBase", "(I)I"⟩, 9) := ⟨⟨by decide +kernel, by decide +kernel⟩, List.mem_of_getElem? (i := 137) (by decide +kernel), List.mem_of_getElem? (i := 498) (by decide +kernel), List.mem_of_getElem? (i := 499) (by decide +kernel)⟩
theorem lw_p26 : lw_okq (⟨"TablePacker$PackedTable", "allFree", "(II)Z"⟩, 9) := ⟨⟨by decide +kernel, by decide +kernel⟩, List.mem_of_getElem? (i := 137) (by decide +kernel), List.mem_of_getElem? (i := 502) (by decide +kernel), List.mem_of_getElem? (i := 503) (by decide +kernel)⟩
theorem lw_p27 : lw_okq (⟨"TablePacker$PackedTable", "seat", "(II)V"⟩, 9) := ⟨⟨by decide +kernel, by decide +kernel⟩, List.mem_of_getElem? (i := 137) (by decide +kernel), List.mem_of_getElem? (i := 506) (by decide +kernel), List.mem_of_getElem? (i := 507) (by decide +kernel)⟩
theorem lw_p28 : lw_okq (⟨"TablePacker", "countOfTables", "(I)I"⟩, 8) := ⟨⟨by decide +kernel, by decide +kernel⟩, List.mem_of_getElem? (i := 16) (by decide +kernel), List.mem_of_getElem? (i := 519) (by decide +kernel), List.mem_of_getElem? (i := 520) (by decide +kernel)⟩
theorem lw_p29 : lw_okq (⟨"TablePacker$PackedTable", "isOwned", "(I)Z"⟩, 9) := ⟨⟨by decide +kernel, by decide +kernel⟩, List.mem_of_getElem? (i := 137) (by decide +kernel), List.mem_of_getElem? (i := 604) (by decide +kernel), List.mem_of_getElem? (i := 605) (by decide +kernel)⟩
theorem lw_p30 : lw_okq (⟨"TablePacker$Parser", "nextToken", "()I"⟩, 8) := ⟨⟨by decide +kernel, by decide +kernel⟩, List.mem_of_getElem? (i := 171) (by decide +kernel), List.mem_of_getElem? (i := 624) (by decide +kernel), List.mem_of_getElem? (i := 625) (by decide +kernel)⟩
theorem lw_p31 : lw_okq (⟨"TablePacker$PackedTable", "lookUp", "(II)I"⟩, 9) := ⟨⟨by decide +kernel, by decide +kernel⟩, List.mem_of_getElem? (i := 137) (by decide +kernel), List.mem_of_getElem? (i := 634) (by decide +kernel), List.mem_of_getElem? (i := 635) (by decide +kernel)⟩
def lw_privs_2 : List (MethodName × Nat) := [(⟨"TablePacker$Lookahead", "joinRulesOf", "(III)V"⟩, 6), (⟨"TablePacker$PlainTable", "addReduction", "(III)V"⟩, 2), (⟨"TablePacker$PackedTable", "mostCommon", "(I)I"⟩, 9), (⟨"TablePacker$PackedTable", "widthOf", "(I)I"⟩, 9), (⟨"TablePacker$PackedTable", "choiceAt", "(II)I"⟩, 9), (⟨"TablePacker$PackedTable", "findSpots", "(I)I"⟩, 9), (⟨"TablePacker$PackedTable", "entryOf", "(II)I"⟩, 9), (⟨"TablePacker$PackedTable", "moveByDefault", "(I)I"⟩, 9), (⟨"TablePacker$PackedTable", "seatRowsWith", "(I)V"⟩, 9), (⟨"TablePacker$PackedTable", "leastBase", "(I)I"⟩, 9), (⟨"TablePacker$PackedTable", "allFree", "(II)Z"⟩, 9), (⟨"TablePacker$PackedTable", "seat", "(II)V"⟩, 9), (⟨"TablePacker", "countOfTables", "(I)I"⟩, 8), (⟨"TablePacker$PackedTable", "isOwned", "(I)Z"⟩, 9), (⟨"TablePacker$Parser", "nextToken", "()I"⟩, 8), (⟨"TablePacker$PackedTable", "lookUp", "(II)I"⟩, 9)]
theorem lw_r2 : ∀ q ∈ lw_privs_2, lw_okq q := List.forall_mem_cons.mpr ⟨lw_p16, List.forall_mem_cons.mpr ⟨lw_p17, List.forall_mem_cons.mpr ⟨lw_p18, List.forall_mem_cons.mpr ⟨lw_p19, List.forall_mem_cons.mpr ⟨lw_p20, List.forall_mem_cons.mpr ⟨lw_p21, List.forall_mem_cons.mpr ⟨lw_p22, List.forall_mem_cons.mpr ⟨lw_p23, List.forall_mem_cons.mpr ⟨lw_p24, List.forall_mem_cons.mpr ⟨lw_p25, List.forall_mem_cons.mpr ⟨lw_p26, List.forall_mem_cons.mpr ⟨lw_p27, List.forall_mem_cons.mpr ⟨lw_p28, List.forall_mem_cons.mpr ⟨lw_p29, List.forall_mem_cons.mpr ⟨lw_p30, List.forall_mem_cons.mpr ⟨lw_p31, fun _ h => absurd h List.not_mem_nil⟩⟩⟩⟩⟩⟩⟩⟩⟩⟩⟩⟩⟩⟩⟩⟩
theorem lw_p32 : lw_okq (⟨"TablePacker$Parser", "go", "(ILTablePacker$Tables;)Z"⟩, 8) := ⟨⟨by decide +kernel, by decide +kernel⟩, List.mem_of_getElem? (i := 171) (by decide +kernel), List.mem_of_getElem? (i := 639) (by decide +kernel), List.mem_of_getElem? (i := 640) (by decide +kernel)⟩
theorem lw_p33 : lw_okq (⟨"TablePacker$Parser", "reduce", "(ILTablePacker$Tables;)Z"⟩, 8) := ⟨⟨by decide +kernel, by decide +kernel⟩, List.mem_of_getElem? (i := 171) (by decide +kernel), List.mem_of_getElem? (i := 643) (by decide +kernel), List.mem_of_getElem? (i := 644) (by decide +kernel)⟩
theorem lw_p34 : lw_okq (⟨"TablePacker$Parser", "putOn", "(I)V"⟩, 8) := ⟨⟨by decide +kernel, by decide +kernel⟩, List.mem_of_getElem? (i := 171) (by decide +kernel), List.mem_of_getElem? (i := 659) (by decide +kernel), List.mem_of_getElem? (i := 660) (by decide +kernel)⟩
theorem lw_p35 : lw_okq (⟨"TablePackerModel", "know", "()Z"⟩, 32) := ⟨⟨by decide +kernel, by decide +kernel⟩, List.mem_of_getElem? (i := 695) (by decide +kernel), List.mem_of_getElem? (i := 826) (by decide +kernel), List.mem_of_getElem? (i := 827) (by decide +kernel)⟩
theorem lw_p36 : lw_okq (⟨"TablePackerModel", "findFirsts", "()V"⟩, 32) := ⟨⟨by decide +kernel, by decide +kernel⟩, List.mem_of_getElem? (i := 695) (by decide +kernel), List.mem_of_getElem? (i := 830) (by decide +kernel), List.mem_of_getElem? (i := 831) (by decide +kernel)⟩
theorem lw_p37 : lw_okq (⟨"TablePackerModel", "closed", "()I"⟩, 32) := ⟨⟨by decide +kernel, by decide +kernel⟩, List.mem_of_getElem? (i := 695) (by decide +kernel), List.mem_of_getElem? (i := 834) (by decide +kernel), List.mem_of_getElem? (i := 835) (by decide +kernel)⟩
theorem lw_p38 : lw_okq (⟨"TablePackerModel", "isEmptyFrom", "(II)Z"⟩, 32) := ⟨⟨by decide +kernel, by decide +kernel⟩, List.mem_of_getElem? (i := 695) (by decide +kernel), List.mem_of_getElem? (i := 838) (by decide +kernel), List.mem_of_getElem? (i := 839) (by decide +kernel)⟩
theorem lw_p39 : lw_okq (⟨"TablePackerModel", "firstFrom", "(II)I"⟩, 32) := ⟨⟨by decide +kernel, by decide +kernel⟩, List.mem_of_getElem? (i := 695) (by decide +kernel), List.mem_of_getElem? (i := 845) (by decide +kernel), List.mem_of_getElem? (i := 846) (by decide +kernel)⟩
theorem lw_p40 : lw_okq (⟨"TablePackerModel", "makeStates", "()V"⟩, 32) := ⟨⟨by decide +kernel, by decide +kernel⟩, List.mem_of_getElem? (i := 695) (by decide +kernel), List.mem_of_getElem? (i := 849) (by decide +kernel), List.mem_of_getElem? (i := 850) (by decide +kernel)⟩
theorem lw_p41 : lw_okq (⟨"TablePackerModel", "stateOfNext", "()I"⟩, 32) := ⟨⟨by decide +kernel, by decide +kernel⟩, List.mem_of_getElem? (i := 695) (by decide +kernel), List.mem_of_getElem? (i := 853) (by decide +kernel), List.mem_of_getElem? (i := 854) (by decide +kernel)⟩
theorem lw_p42 : lw_okq (⟨"TablePackerModel", "complete", "(I)V"⟩, 32) := ⟨⟨by decide +kernel, by decide +kernel⟩, List.mem_of_getElem? (i := 695) (by decide +kernel), List.mem_of_getElem? (i := 857) (by decide +kernel), List.mem_of_getElem? (i := 858) (by decide +kernel)⟩
theorem lw_p43 : lw_okq (⟨"TablePackerModel", "symbolAt", "(II)I"⟩, 32) := ⟨⟨by decide +kernel, by decide +kernel⟩, List.mem_of_getElem? (i := 695) (by decide +kernel), List.mem_of_getElem? (i := 861) (by decide +kernel), List.mem_of_getElem? (i := 862) (by decide +kernel)⟩
theorem lw_p44 : lw_okq (⟨"TablePackerModel", "lead", "(II)V"⟩, 32) := ⟨⟨by decide +kernel, by decide +kernel⟩, List.mem_of_getElem? (i := 695) (by decide +kernel), List.mem_of_getElem? (i := 865) (by decide +kernel), List.mem_of_getElem? (i := 866) (by decide +kernel)⟩
theorem lw_p45 : lw_okq (⟨"TablePackerModel", "findAhead", "()V"⟩, 32) := ⟨⟨by decide +kernel, by decide +kernel⟩, List.mem_of_getElem? (i := 695) (by decide +kernel), List.mem_of_getElem? (i := 869) (by decide +kernel), List.mem_of_getElem? (i := 870) (by decide +kernel)⟩
theorem lw_p46 : lw_okq (⟨"TablePackerModel", "spread", "(II)V"⟩, 32) := ⟨⟨by decide +kernel, by decide +kernel⟩, List.mem_of_getElem? (i := 695) (by decide +kernel), List.mem_of_getElem? (i := 873) (by decide +kernel), List.mem_of_getElem? (i := 874) (by decide +kernel)⟩
theorem lw_p47 : lw_okq (⟨"TablePackerModel", "addAhead", "(III)V"⟩, 32) := ⟨⟨by decide +kernel, by decide +kernel⟩, List.mem_of_getElem? (i := 695) (by decide +kernel), List.mem_of_getElem? (i := 877) (by decide +kernel), List.mem_of_getElem? (i := 878) (by decide +kernel)⟩
def lw_privs_3 : List (MethodName × Nat) := [(⟨"TablePacker$Parser", "go", "(ILTablePacker$Tables;)Z"⟩, 8), (⟨"TablePacker$Parser", "reduce", "(ILTablePacker$Tables;)Z"⟩, 8), (⟨"TablePacker$Parser", "putOn", "(I)V"⟩, 8), (⟨"TablePackerModel", "know", "()Z"⟩, 32), (⟨"TablePackerModel", "findFirsts", "()V"⟩, 32), (⟨"TablePackerModel", "closed", "()I"⟩, 32), (⟨"TablePackerModel", "isEmptyFrom", "(II)Z"⟩, 32), (⟨"TablePackerModel", "firstFrom", "(II)I"⟩, 32), (⟨"TablePackerModel", "makeStates", "()V"⟩, 32), (⟨"TablePackerModel", "stateOfNext", "()I"⟩, 32), (⟨"TablePackerModel", "complete", "(I)V"⟩, 32), (⟨"TablePackerModel", "symbolAt", "(II)I"⟩, 32), (⟨"TablePackerModel", "lead", "(II)V"⟩, 32), (⟨"TablePackerModel", "findAhead", "()V"⟩, 32), (⟨"TablePackerModel", "spread", "(II)V"⟩, 32), (⟨"TablePackerModel", "addAhead", "(III)V"⟩, 32)]
theorem lw_r3 : ∀ q ∈ lw_privs_3, lw_okq q := List.forall_mem_cons.mpr ⟨lw_p32, List.forall_mem_cons.mpr ⟨lw_p33, List.forall_mem_cons.mpr ⟨lw_p34, List.forall_mem_cons.mpr ⟨lw_p35, List.forall_mem_cons.mpr ⟨lw_p36, List.forall_mem_cons.mpr ⟨lw_p37, List.forall_mem_cons.mpr ⟨lw_p38, List.forall_mem_cons.mpr ⟨lw_p39, List.forall_mem_cons.mpr ⟨lw_p40, List.forall_mem_cons.mpr ⟨lw_p41, List.forall_mem_cons.mpr ⟨lw_p42, List.forall_mem_cons.mpr ⟨lw_p43, List.forall_mem_cons.mpr ⟨lw_p44, List.forall_mem_cons.mpr ⟨lw_p45, List.forall_mem_cons.mpr ⟨lw_p46, List.forall_mem_cons.mpr ⟨lw_p47, fun _ h => absurd h List.not_mem_nil⟩⟩⟩⟩⟩⟩⟩⟩⟩⟩⟩⟩⟩⟩⟩⟩
theorem lw_p48 : lw_okq (⟨"TablePackerModel", "findActions", "()V"⟩, 32) := ⟨⟨by decide +kernel, by decide +kernel⟩, List.mem_of_getElem? (i := 695) (by decide +kernel), List.mem_of_getElem? (i := 881) (by decide +kernel), List.mem_of_getElem? (i := 882) (by decide +kernel)⟩
theorem lw_p49 : lw_okq (⟨"TablePackerModel", "pack", "()V"⟩, 32) := ⟨⟨by decide +kernel, by decide +kernel⟩, List.mem_of_getElem? (i := 695) (by decide +kernel), List.mem_of_getElem? (i := 885) (by decide +kernel), List.mem_of_getElem? (i := 886) (by decide +kernel)⟩
theorem lw_p50 : lw_okq (⟨"TablePackerModel", "isRow", "(I)Z"⟩, 32) := ⟨⟨by decide +kernel, by decide +kernel⟩, List.mem_of_getElem? (i := 695) (by decide +kernel), List.mem_of_getElem? (i := 889) (by decide +kernel), List.mem_of_getElem? (i := 890) (by decide +kernel)⟩
theorem lw_p51 : lw_okq (⟨"TablePackerModel", "findDefault", "(I)V"⟩, 32) := ⟨⟨by decide +kernel, by decide +kernel⟩, List.mem_of_getElem? (i := 695) (by decide +kernel), List.mem_of_getElem? (i := 893) (by decide +kernel), List.mem_of_getElem? (i := 894) (by decide +kernel)⟩
theorem lw_p52 : lw_okq (⟨"TablePackerModel", "widthOf", "(I)I"⟩, 32) := ⟨⟨by decide +kernel, by decide +kernel⟩, List.mem_of_getElem? (i := 695) (by decide +kernel), List.mem_of_getElem? (i := 897) (by decide +kernel), List.mem_of_getElem? (i := 898) (by decide +kernel)⟩
theorem lw_p53 : lw_okq (⟨"TablePackerModel", "whole", "(II)I"⟩, 32) := ⟨⟨by decide +kernel, by decide +kernel⟩, List.mem_of_getElem? (i := 695) (by decide +kernel), List.mem_of_getElem? (i := 901) (by decide +kernel), List.mem_of_getElem? (i := 902) (by decide +kernel)⟩
theorem lw_p54 : lw_okq (⟨"TablePackerModel", "entry", "(II)I"⟩, 32) := ⟨⟨by decide +kernel, by decide +kernel⟩, List.mem_of_getElem? (i := 695) (by decide +kernel), List.mem_of_getElem? (i := 905) (by decide +kernel), List.mem_of_getElem? (i := 906) (by decide +kernel)⟩
theorem lw_p55 : lw_okq (⟨"TablePackerModel", "defaultValue", "(I)I"⟩, 32) := ⟨⟨by decide +kernel, by decide +kernel⟩, List.mem_of_getElem? (i := 695) (by decide +kernel), List.mem_of_getElem? (i := 909) (by decide +kernel), List.mem_of_getElem? (i := 910) (by decide +kernel)⟩
theorem lw_p56 : lw_okq (⟨"TablePackerModel", "lay", "(I)V"⟩, 32) := ⟨⟨by decide +kernel, by decide +kernel⟩, List.mem_of_getElem? (i := 695) (by decide +kernel), List.mem_of_getElem? (i := 913) (by decide +kernel), List.mem_of_getElem? (i := 914) (by decide +kernel)⟩
theorem lw_p57 : lw_okq (⟨"TablePackerModel", "entries", "()I"⟩, 32) := ⟨⟨by decide +kernel, by decide +kernel⟩, List.mem_of_getElem? (i := 695) (by decide +kernel), List.mem_of_getElem? (i := 917) (by decide +kernel), List.mem_of_getElem? (i := 918) (by decide +kernel)⟩
theorem lw_p58 : lw_okq (⟨"TablePackerModel", "isState", "(I)Z"⟩, 32) := ⟨⟨by decide +kernel, by decide +kernel⟩, List.mem_of_getElem? (i := 695) (by decide +kernel), List.mem_of_getElem? (i := 929) (by decide +kernel), List.mem_of_getElem? (i := 930) (by decide +kernel)⟩
theorem lw_p59 : lw_okq (⟨"TablePackerModel", "find", "(II)I"⟩, 32) := ⟨⟨by decide +kernel, by decide +kernel⟩, List.mem_of_getElem? (i := 695) (by decide +kernel), List.mem_of_getElem? (i := 953) (by decide +kernel), List.mem_of_getElem? (i := 954) (by decide +kernel)⟩
theorem lw_p60 : lw_okq (⟨"TablePackerModel", "reduce", "(II)V"⟩, 32) := ⟨⟨by decide +kernel, by decide +kernel⟩, List.mem_of_getElem? (i := 695) (by decide +kernel), List.mem_of_getElem? (i := 957) (by decide +kernel), List.mem_of_getElem? (i := 958) (by decide +kernel)⟩
def lw_privs_4 : List (MethodName × Nat) := [(⟨"TablePackerModel", "findActions", "()V"⟩, 32), (⟨"TablePackerModel", "pack", "()V"⟩, 32), (⟨"TablePackerModel", "isRow", "(I)Z"⟩, 32), (⟨"TablePackerModel", "findDefault", "(I)V"⟩, 32), (⟨"TablePackerModel", "widthOf", "(I)I"⟩, 32), (⟨"TablePackerModel", "whole", "(II)I"⟩, 32), (⟨"TablePackerModel", "entry", "(II)I"⟩, 32), (⟨"TablePackerModel", "defaultValue", "(I)I"⟩, 32), (⟨"TablePackerModel", "lay", "(I)V"⟩, 32), (⟨"TablePackerModel", "entries", "()I"⟩, 32), (⟨"TablePackerModel", "isState", "(I)Z"⟩, 32), (⟨"TablePackerModel", "find", "(II)I"⟩, 32), (⟨"TablePackerModel", "reduce", "(II)V"⟩, 32)]
theorem lw_r4 : ∀ q ∈ lw_privs_4, lw_okq q := List.forall_mem_cons.mpr ⟨lw_p48, List.forall_mem_cons.mpr ⟨lw_p49, List.forall_mem_cons.mpr ⟨lw_p50, List.forall_mem_cons.mpr ⟨lw_p51, List.forall_mem_cons.mpr ⟨lw_p52, List.forall_mem_cons.mpr ⟨lw_p53, List.forall_mem_cons.mpr ⟨lw_p54, List.forall_mem_cons.mpr ⟨lw_p55, List.forall_mem_cons.mpr ⟨lw_p56, List.forall_mem_cons.mpr ⟨lw_p57, List.forall_mem_cons.mpr ⟨lw_p58, List.forall_mem_cons.mpr ⟨lw_p59, List.forall_mem_cons.mpr ⟨lw_p60, fun _ h => absurd h List.not_mem_nil⟩⟩⟩⟩⟩⟩⟩⟩⟩⟩⟩⟩⟩
def lw_privs : List (MethodName × Nat) := lw_privs_1 ++ (lw_privs_2 ++ (lw_privs_3 ++ (lw_privs_4)))
def lw_tbl : List Cond := k2_sels lw_privs ++ tables_1
theorem lw_privs_ok : ∀ q ∈ lw_privs, lw_okq q := by
  show ∀ q ∈ lw_privs_1 ++ (lw_privs_2 ++ (lw_privs_3 ++ (lw_privs_4))), lw_okq q
  exact List.forall_mem_append.mpr ⟨lw_r1, List.forall_mem_append.mpr ⟨lw_r2, List.forall_mem_append.mpr ⟨lw_r3, lw_r4⟩⟩⟩
-- ===== names
def R_Gr : String := "TablePacker$Grammar"
def R_La : String := "TablePacker$Lookahead"
def R_Op : String := "TablePacker$Openings"
def R_Pk : String := "TablePacker$PackedTable"
def R_Ps : String := "TablePacker$Parser"
def R_Pl : String := "TablePacker$PlainTable"
def R_St : String := "TablePacker$States"
def R_Tp : String := "TablePacker"
def R_Mo : String := "TablePackerModel"
def R_JL : String := "java/lang/Long"
def R_JM : String := "java/lang/Math"
def R_JA : String := "java/util/Arrays"
def R_Ta : String := "TablePacker$Tables"
def F_Gr : u_T := fun k => match k with
  | 0 => ("TablePacker$Grammar", "kinds", "[I", true)
  | 1 => ("TablePacker$Grammar", "lengths", "[I", true)
  | 2 => ("TablePacker$Grammar", "columns", "[I", true)
  | 3 => ("TablePacker$Grammar", "closed", "I", false)
  | _ => ("TablePacker$Grammar", "open", "Z", false)
def F_La : u_T := fun k => match k with
  | 0 => ("TablePacker$Lookahead", "grammar", "LTablePacker$Grammar;", true)
  | 1 => ("TablePacker$Lookahead", "openings", "LTablePacker$Openings;", true)
  | 2 => ("TablePacker$Lookahead", "states", "LTablePacker$States;", true)
  | 3 => ("TablePacker$Lookahead", "plain", "LTablePacker$PlainTable;", true)
  | 4 => ("TablePacker$Lookahead", "sets", "[J", true)
  | _ => ("TablePacker$Lookahead", "due", "[Z", true)
def F_Op : u_T := fun k => match k with
  | 0 => ("TablePacker$Openings", "grammar", "LTablePacker$Grammar;", true)
  | 1 => ("TablePacker$Openings", "ofKinds", "[I", true)
  | _ => ("TablePacker$Openings", "ofRests", "[I", true)
def F_Pk : u_T := fun k => match k with
  | 0 => ("TablePacker$PackedTable", "plain", "LTablePacker$PlainTable;", true)
  | 1 => ("TablePacker$PackedTable", "defaults", "[I", true)
  | 2 => ("TablePacker$PackedTable", "counts", "[I", true)
  | 3 => ("TablePacker$PackedTable", "bases", "[I", true)
  | 4 => ("TablePacker$PackedTable", "places", "[I", true)
  | 5 => ("TablePacker$PackedTable", "scratch", "[I", true)
  | 6 => ("TablePacker$PackedTable", "size", "I", false)
  | 7 => ("TablePacker$PackedTable", "entries", "I", false)
  | _ => ("TablePacker$PackedTable", "length", "I", false)
def F_Ps : u_T := fun k => match k with
  | 0 => ("TablePacker$Parser", "grammar", "LTablePacker$Grammar;", true)
  | 1 => ("TablePacker$Parser", "tokens", "[I", true)
  | 2 => ("TablePacker$Parser", "pile", "[I", true)
  | 3 => ("TablePacker$Parser", "reducedBy", "[I", true)
  | 4 => ("TablePacker$Parser", "tokenCount", "I", false)
  | 5 => ("TablePacker$Parser", "at", "I", false)
  | 6 => ("TablePacker$Parser", "height", "I", false)
  | _ => ("TablePacker$Parser", "reductions", "I", false)
def F_Pl : u_T := fun k => match k with
  | 0 => ("TablePacker$PlainTable", "moves", "[I", true)
  | _ => ("TablePacker$PlainTable", "clashes", "I", false)
def F_St : u_T := fun k => match k with
  | 0 => ("TablePacker$States", "grammar", "LTablePacker$Grammar;", true)
  | 1 => ("TablePacker$States", "plain", "LTablePacker$PlainTable;", true)
  | 2 => ("TablePacker$States", "sets", "[J", true)
  | 3 => ("TablePacker$States", "standingBefore", "[J", true)
  | 4 => ("TablePacker$States", "broughtByKind", "[J", true)
  | 5 => ("TablePacker$States", "candidate", "[J", true)
  | 6 => ("TablePacker$States", "size", "I", false)
  | _ => ("TablePacker$States", "tooLarge", "Z", false)
def F_Tp : u_T := fun k => match k with
  | 0 => ("TablePacker", "grammar", "LTablePacker$Grammar;", true)
  | 1 => ("TablePacker", "openings", "LTablePacker$Openings;", true)
  | 2 => ("TablePacker", "plain", "LTablePacker$PlainTable;", true)
  | 3 => ("TablePacker", "states", "LTablePacker$States;", true)
  | 4 => ("TablePacker", "lookahead", "LTablePacker$Lookahead;", true)
  | 5 => ("TablePacker", "packed", "LTablePacker$PackedTable;", true)
  | 6 => ("TablePacker", "parser", "LTablePacker$Parser;", true)
  | _ => ("TablePacker", "stale", "Z", false)
def F_Mo : u_T := fun k => match k with
  | 0 => ("TablePackerModel", "thrown", "I", false)
  | 1 => ("TablePackerModel", "kinds", "[I", true)
  | 2 => ("TablePackerModel", "rows", "[I", true)
  | 3 => ("TablePackerModel", "sizes", "[I", true)
  | 4 => ("TablePackerModel", "rules", "I", false)
  | 5 => ("TablePackerModel", "open", "Z", false)
  | 6 => ("TablePackerModel", "text", "[I", true)
  | 7 => ("TablePackerModel", "length", "I", false)
  | 8 => ("TablePackerModel", "known", "Z", false)
  | 9 => ("TablePackerModel", "tooLarge", "Z", false)
  | 10 => ("TablePackerModel", "empties", "[Z", true)
  | 11 => ("TablePackerModel", "firsts", "[I", true)
  | 12 => ("TablePackerModel", "has", "[Z", true)
  | 13 => ("TablePackerModel", "kernel", "[Z", true)
  | 14 => ("TablePackerModel", "ahead", "[I", true)
  | 15 => ("TablePackerModel", "leads", "[I", true)
  | 16 => ("TablePackerModel", "states", "I", false)
  | 17 => ("TablePackerModel", "next", "[Z", true)
  | 18 => ("TablePackerModel", "actions", "[I", true)
  | 19 => ("TablePackerModel", "clashes", "I", false)
  | 20 => ("TablePackerModel", "defaults", "[I", true)
  | 21 => ("TablePackerModel", "entryCounts", "[I", true)
  | 22 => ("TablePackerModel", "bases", "[I", true)
  | 23 => ("TablePackerModel", "owners", "[I", true)
  | 24 => ("TablePackerModel", "values", "[I", true)
  | 25 => ("TablePackerModel", "tableSize", "I", false)
  | 26 => ("TablePackerModel", "reduced", "[I", true)
  | 27 => ("TablePackerModel", "reductions", "I", false)
  | 28 => ("TablePackerModel", "endedAt", "I", false)
  | 29 => ("TablePackerModel", "pile", "[I", true)
  | 30 => ("TablePackerModel", "high", "I", false)
  | _ => ("TablePackerModel", "more", "Z", false)
abbrev tp_cl : List vw_C := [(R_Gr, F_Gr, 5), (R_La, F_La, 6), (R_Op, F_Op, 3), (R_Pk, F_Pk, 9), (R_Ps, F_Ps, 8), (R_Pl, F_Pl, 2), (R_St, F_St, 8), (R_Tp, F_Tp, 8), (R_Mo, F_Mo, 32)]
def y_Tp_begin : MethodName := ⟨R_Tp, "begin", "(I)I"⟩
def y_Gr_openRule : MethodName := ⟨R_Gr, "openRule", "(I)I"⟩
def y_Tp_isKind : MethodName := ⟨R_Tp, "isKind", "(I)Z"⟩
def y_Tp_put : MethodName := ⟨R_Tp, "put", "(I)I"⟩
def y_Tp_columnOf : MethodName := ⟨R_Tp, "columnOf", "(I)I"⟩
def y_Tp_isToken : MethodName := ⟨R_Tp, "isToken", "(I)Z"⟩
def y_Gr_extendRule : MethodName := ⟨R_Gr, "extendRule", "(I)I"⟩
def y_Tp_close : MethodName := ⟨R_Tp, "close", "()I"⟩
def y_Gr_closeRule : MethodName := ⟨R_Gr, "closeRule", "()Z"⟩
def y_Tp_clear : MethodName := ⟨R_Tp, "clear", "()I"⟩
def y_Gr_forgetRules : MethodName := ⟨R_Gr, "forgetRules", "()I"⟩
def y_Tp_token : MethodName := ⟨R_Tp, "token", "(I)I"⟩
def y_Ps_addToken : MethodName := ⟨R_Ps, "addToken", "(I)I"⟩
def y_Tp_drop : MethodName := ⟨R_Tp, "drop", "()I"⟩
def y_Ps_forgetTokens : MethodName := ⟨R_Ps, "forgetTokens", "()I"⟩
def y_Tp_count : MethodName := ⟨R_Tp, "count", "(I)I"⟩
def y_Tp_refresh : MethodName := ⟨R_Tp, "refresh", "()V"⟩
def y_Op_find : MethodName := ⟨R_Op, "find", "()V"⟩
def y_JA_fillI : MethodName := ⟨R_JA, "fill", "([II)V"⟩
def y_Op_widenKinds : MethodName := ⟨R_Op, "widenKinds", "()Z"⟩
def y_Gr_rules : MethodName := ⟨R_Gr, "rules", "()I"⟩
def y_Gr_kindOf : MethodName := ⟨R_Gr, "kindOf", "(I)I"⟩
def y_Op_ofRow : MethodName := ⟨R_Op, "ofRow", "(II)I"⟩
def y_Gr_lengthOf : MethodName := ⟨R_Gr, "lengthOf", "(I)I"⟩
def y_Gr_columnAt : MethodName := ⟨R_Gr, "columnAt", "(I)I"⟩
def y_Op_findRests : MethodName := ⟨R_Op, "findRests", "(I)V"⟩
def y_St_find : MethodName := ⟨R_St, "find", "()V"⟩
def y_St_markItems : MethodName := ⟨R_St, "markItems", "()V"⟩
def y_JA_fillL : MethodName := ⟨R_JA, "fill", "([JJ)V"⟩
def y_St_mark : MethodName := ⟨R_St, "mark", "([JII)V"⟩
def y_St_bringRules : MethodName := ⟨R_St, "bringRules", "()V"⟩
def y_St_bringAlong : MethodName := ⟨R_St, "bringAlong", "(II)V"⟩
def y_Pl_forgetMoves : MethodName := ⟨R_Pl, "forgetMoves", "()V"⟩
def y_St_complete : MethodName := ⟨R_St, "complete", "()V"⟩
def y_St_candidateStandsBefore : MethodName := ⟨R_St, "candidateStandsBefore", "(I)Z"⟩
def y_St_numberOfCandidate : MethodName := ⟨R_St, "numberOfCandidate", "()I"⟩
def y_St_isCandidate : MethodName := ⟨R_St, "isCandidate", "(I)Z"⟩
def y_St_leadOn : MethodName := ⟨R_St, "leadOn", "(I)V"⟩
def y_St_step : MethodName := ⟨R_St, "step", "(II)Z"⟩
def y_Pl_addLead : MethodName := ⟨R_Pl, "addLead", "(III)V"⟩
def y_St_tooLarge : MethodName := ⟨R_St, "tooLarge", "()Z"⟩
def y_La_find : MethodName := ⟨R_La, "find", "()V"⟩
def y_St_size : MethodName := ⟨R_St, "size", "()I"⟩
def y_La_join : MethodName := ⟨R_La, "join", "(III)V"⟩
def y_La_spreadState : MethodName := ⟨R_La, "spreadState", "(I)V"⟩
def y_St_holds : MethodName := ⟨R_St, "holds", "(II)Z"⟩
def y_La_spreadItem : MethodName := ⟨R_La, "spreadItem", "(II)V"⟩
def y_La_setOf : MethodName := ⟨R_La, "setOf", "(II)I"⟩
def y_Pl_leadAt : MethodName := ⟨R_Pl, "leadAt", "(II)I"⟩
def y_Op_ofRest : MethodName := ⟨R_Op, "ofRest", "(I)I"⟩
def y_La_joinRulesOf : MethodName := ⟨R_La, "joinRulesOf", "(III)V"⟩
def y_Pl_addReductions : MethodName := ⟨R_Pl, "addReductions", "(LTablePacker$Grammar;LTablePacker$States;LTablePacker$Lookahead;)V"⟩
def y_Pl_addReduction : MethodName := ⟨R_Pl, "addReduction", "(III)V"⟩
def y_Pk_pack : MethodName := ⟨R_Pk, "pack", "(I)V"⟩
def y_Pk_mostCommon : MethodName := ⟨R_Pk, "mostCommon", "(I)I"⟩
def y_Pk_widthOf : MethodName := ⟨R_Pk, "widthOf", "(I)I"⟩
def y_Pk_isStateRow : MethodName := ⟨R_Pk, "isStateRow", "(I)Z"⟩
def y_Pk_choiceAt : MethodName := ⟨R_Pk, "choiceAt", "(II)I"⟩
def y_Pl_moveOn : MethodName := ⟨R_Pl, "moveOn", "(II)I"⟩
def y_Pk_findSpots : MethodName := ⟨R_Pk, "findSpots", "(I)I"⟩
def y_Pk_entryOf : MethodName := ⟨R_Pk, "entryOf", "(II)I"⟩
def y_Pk_moveByDefault : MethodName := ⟨R_Pk, "moveByDefault", "(I)I"⟩
def y_Pk_seatRowsWith : MethodName := ⟨R_Pk, "seatRowsWith", "(I)V"⟩
def y_Pk_leastBase : MethodName := ⟨R_Pk, "leastBase", "(I)I"⟩
def y_Pk_allFree : MethodName := ⟨R_Pk, "allFree", "(II)Z"⟩
def y_Pk_seat : MethodName := ⟨R_Pk, "seat", "(II)V"⟩
def y_Ps_tokens : MethodName := ⟨R_Ps, "tokens", "()I"⟩
def y_Op_emptyKinds : MethodName := ⟨R_Op, "emptyKinds", "()I"⟩
def y_Tp_countOfTables : MethodName := ⟨R_Tp, "countOfTables", "(I)I"⟩
def y_Pl_clashes : MethodName := ⟨R_Pl, "clashes", "()I"⟩
def y_Pk_entries : MethodName := ⟨R_Pk, "entries", "()I"⟩
def y_Pk_length : MethodName := ⟨R_Pk, "length", "()I"⟩
def y_Tp_first : MethodName := ⟨R_Tp, "first", "(I)I"⟩
def y_Op_ofKind : MethodName := ⟨R_Op, "ofKind", "(I)I"⟩
def y_Tp_state : MethodName := ⟨R_Tp, "state", "(II)I"⟩
def y_St_isState : MethodName := ⟨R_St, "isState", "(I)Z"⟩
def y_St_itemsOf : MethodName := ⟨R_St, "itemsOf", "(I)I"⟩
def y_JL_bitCount : MethodName := ⟨R_JL, "bitCount", "(J)I"⟩
def y_Tp_ahead : MethodName := ⟨R_Tp, "ahead", "(III)I"⟩
def y_Tp_itemOf : MethodName := ⟨R_Tp, "itemOf", "(II)I"⟩
def y_Tp_comes : MethodName := ⟨R_Tp, "comes", "(II)I"⟩
def y_Tp_row : MethodName := ⟨R_Tp, "row", "(II)I"⟩
def y_Tp_isKindRow : MethodName := ⟨R_Tp, "isKindRow", "(I)Z"⟩
def y_Pk_defaultOf : MethodName := ⟨R_Pk, "defaultOf", "(I)I"⟩
def y_Pk_entriesOf : MethodName := ⟨R_Pk, "entriesOf", "(I)I"⟩
def y_Pk_baseOf : MethodName := ⟨R_Pk, "baseOf", "(I)I"⟩
def y_Tp_place : MethodName := ⟨R_Tp, "place", "(II)I"⟩
def y_Pk_ownerAt : MethodName := ⟨R_Pk, "ownerAt", "(I)I"⟩
def y_Pk_isOwned : MethodName := ⟨R_Pk, "isOwned", "(I)Z"⟩
def y_Pk_entryAt : MethodName := ⟨R_Pk, "entryAt", "(I)I"⟩
def y_Tp_parse : MethodName := ⟨R_Tp, "parse", "(I)I"⟩
def y_Gr_hasRuleOf : MethodName := ⟨R_Gr, "hasRuleOf", "(I)Z"⟩
def y_Ps_run : MethodName := ⟨R_Ps, "run", "(LTablePacker$Tables;)I"⟩
def y_Ps_nextToken : MethodName := ⟨R_Ps, "nextToken", "()I"⟩
def y_Pk_moveOn : MethodName := ⟨R_Pk, "moveOn", "(II)I"⟩
def y_Pk_lookUp : MethodName := ⟨R_Pk, "lookUp", "(II)I"⟩
def y_Ps_go : MethodName := ⟨R_Ps, "go", "(ILTablePacker$Tables;)Z"⟩
def y_Ps_reduce : MethodName := ⟨R_Ps, "reduce", "(ILTablePacker$Tables;)Z"⟩
def y_Pk_leadOf : MethodName := ⟨R_Pk, "leadOf", "(II)I"⟩
def y_Pl_leadOf : MethodName := ⟨R_Pl, "leadOf", "(II)I"⟩
def y_Ps_putOn : MethodName := ⟨R_Ps, "putOn", "(I)V"⟩
def y_Tp_parsed : MethodName := ⟨R_Tp, "parsed", "(I)I"⟩
def y_Ps_reductions : MethodName := ⟨R_Ps, "reductions", "()I"⟩
def y_Ps_endedAt : MethodName := ⟨R_Ps, "endedAt", "()I"⟩
def y_Ps_pileHeight : MethodName := ⟨R_Ps, "pileHeight", "()I"⟩
def y_Tp_reduction : MethodName := ⟨R_Tp, "reduction", "(I)I"⟩
def y_Ps_reducedBy : MethodName := ⟨R_Ps, "reducedBy", "(I)I"⟩
def y_Tp_check : MethodName := ⟨R_Tp, "check", "()I"⟩
def y_Pk_isSound : MethodName := ⟨R_Pk, "isSound", "()Z"⟩
def y_Mo_begin : MethodName := ⟨R_Mo, "begin", "(I)I"⟩
def y_Mo_put : MethodName := ⟨R_Mo, "put", "(I)I"⟩
def y_Mo_close : MethodName := ⟨R_Mo, "close", "()I"⟩
def y_Mo_clear : MethodName := ⟨R_Mo, "clear", "()I"⟩
def y_Mo_token : MethodName := ⟨R_Mo, "token", "(I)I"⟩
def y_Mo_drop : MethodName := ⟨R_Mo, "drop", "()I"⟩
def y_Mo_count : MethodName := ⟨R_Mo, "count", "(I)I"⟩
def y_Mo_know : MethodName := ⟨R_Mo, "know", "()Z"⟩
def y_Mo_findFirsts : MethodName := ⟨R_Mo, "findFirsts", "()V"⟩
def y_Mo_closed : MethodName := ⟨R_Mo, "closed", "()I"⟩
def y_Mo_isEmptyFrom : MethodName := ⟨R_Mo, "isEmptyFrom", "(II)Z"⟩
def y_Mo_isKind : MethodName := ⟨R_Mo, "isKind", "(I)Z"⟩
def y_Mo_firstFrom : MethodName := ⟨R_Mo, "firstFrom", "(II)I"⟩
def y_Mo_makeStates : MethodName := ⟨R_Mo, "makeStates", "()V"⟩
def y_Mo_stateOfNext : MethodName := ⟨R_Mo, "stateOfNext", "()I"⟩
def y_Mo_complete : MethodName := ⟨R_Mo, "complete", "(I)V"⟩
def y_Mo_symbolAt : MethodName := ⟨R_Mo, "symbolAt", "(II)I"⟩
def y_Mo_lead : MethodName := ⟨R_Mo, "lead", "(II)V"⟩
def y_Mo_findAhead : MethodName := ⟨R_Mo, "findAhead", "()V"⟩
def y_Mo_spread : MethodName := ⟨R_Mo, "spread", "(II)V"⟩
def y_Mo_addAhead : MethodName := ⟨R_Mo, "addAhead", "(III)V"⟩
def y_Mo_findActions : MethodName := ⟨R_Mo, "findActions", "()V"⟩
def y_Mo_pack : MethodName := ⟨R_Mo, "pack", "()V"⟩
def y_Mo_isRow : MethodName := ⟨R_Mo, "isRow", "(I)Z"⟩
def y_Mo_findDefault : MethodName := ⟨R_Mo, "findDefault", "(I)V"⟩
def y_Mo_widthOf : MethodName := ⟨R_Mo, "widthOf", "(I)I"⟩
def y_Mo_whole : MethodName := ⟨R_Mo, "whole", "(II)I"⟩
def y_Mo_entry : MethodName := ⟨R_Mo, "entry", "(II)I"⟩
def y_Mo_defaultValue : MethodName := ⟨R_Mo, "defaultValue", "(I)I"⟩
def y_Mo_lay : MethodName := ⟨R_Mo, "lay", "(I)V"⟩
def y_Mo_entries : MethodName := ⟨R_Mo, "entries", "()I"⟩
def y_Mo_first : MethodName := ⟨R_Mo, "first", "(I)I"⟩
def y_Mo_state : MethodName := ⟨R_Mo, "state", "(II)I"⟩
def y_Mo_isState : MethodName := ⟨R_Mo, "isState", "(I)Z"⟩
def y_Mo_ahead : MethodName := ⟨R_Mo, "ahead", "(III)I"⟩
def y_Mo_comes : MethodName := ⟨R_Mo, "comes", "(II)I"⟩
def y_Mo_row : MethodName := ⟨R_Mo, "row", "(II)I"⟩
def y_Mo_place : MethodName := ⟨R_Mo, "place", "(II)I"⟩
def y_Mo_parse : MethodName := ⟨R_Mo, "parse", "(I)I"⟩
def y_Mo_find : MethodName := ⟨R_Mo, "find", "(II)I"⟩
def y_Mo_reduce : MethodName := ⟨R_Mo, "reduce", "(II)V"⟩
def y_Mo_parsed : MethodName := ⟨R_Mo, "parsed", "(I)I"⟩
def y_Mo_reduction : MethodName := ⟨R_Mo, "reduction", "(I)I"⟩
def y_Mo_check : MethodName := ⟨R_Mo, "check", "()I"⟩
def tp_Ts : List Cond := lw_tbl.filter goodWord
def tp_Nw : List Cond := [.methodLinkNest R_Gr 25 y_Tp_isKind R_Tp, .methodLinkNest R_Ps 25 y_Tp_isToken R_Tp, .declares ⟨R_Ta, "moveOn", "(II)I"⟩, .declares ⟨R_Ta, "leadOf", "(II)I"⟩]
theorem tp_Ts_good : ∀ w ∈ tp_Ts, goodWord w = true := fun _ h => (List.mem_filter.mp h).2
theorem tp_Ts_mem {w : Cond} (h : w ∈ lw_tbl) (g : goodWord w = true) : w ∈ tp_Ts := List.mem_filter.mpr ⟨h, g⟩
theorem tp_Ts_sub : ∀ w ∈ tp_Ts, w ∈ lw_tbl := fun _ h => (List.mem_filter.mp h).1
