-- ===== PART A: goes FIRST, ahead of the names: the tables' words, and 'selects' of the private methods out of them =====
/-- a private method of a class that the tables say can be made, by its rows of tables_1 -/
def lw_okq (q : MethodName × Nat) : Prop := (q.1.cls ≠ "java/lang/invoke/MethodHandle" ∧ q.1.cls ≠ "java/lang/invoke/VarHandle") ∧ Cond.instantiable q.1.cls q.2 ∈ tables_1 ∧ Cond.privateMethod q.1 ∈ tables_1 ∧ Cond.instanceMethod q.1 ∈ tables_1
theorem lw_p0 : lw_okq (⟨"PlayerMoves", "leagueAt", "(I)LPlayerMoves$League;"⟩, 20) := ⟨⟨by decide +kernel, by decide +kernel⟩, List.mem_of_getElem? (i := 24) (by decide +kernel), List.mem_of_getElem? (i := 318) (by decide +kernel), List.mem_of_getElem? (i := 319) (by decide +kernel)⟩
theorem lw_p1 : lw_okq (⟨"PlayerMoves", "addBody", "(I)LPlayerMoves$Body;"⟩, 20) := ⟨⟨by decide +kernel, by decide +kernel⟩, List.mem_of_getElem? (i := 24) (by decide +kernel), List.mem_of_getElem? (i := 346) (by decide +kernel), List.mem_of_getElem? (i := 347) (by decide +kernel)⟩
theorem lw_p2 : lw_okq (⟨"PlayerMoves", "bodyAt", "(I)LPlayerMoves$Body;"⟩, 20) := ⟨⟨by decide +kernel, by decide +kernel⟩, List.mem_of_getElem? (i := 24) (by decide +kernel), List.mem_of_getElem? (i := 415) (by decide +kernel), List.mem_of_getElem? (i := 416) (by decide +kernel)⟩
theorem lw_p3 : lw_okq (⟨"PlayerMoves", "clubAt", "(I)LPlayerMoves$Body;"⟩, 20) := ⟨⟨by decide +kernel, by decide +kernel⟩, List.mem_of_getElem? (i := 24) (by decide +kernel), List.mem_of_getElem? (i := 424) (by decide +kernel), List.mem_of_getElem? (i := 425) (by decide +kernel)⟩
theorem lw_p4 : lw_okq (⟨"PlayerMoves", "ofPlayer", "(LPlayerMoves$Body;I)I"⟩, 20) := ⟨⟨by decide +kernel, by decide +kernel⟩, List.mem_of_getElem? (i := 24) (by decide +kernel), List.mem_of_getElem? (i := 441) (by decide +kernel), List.mem_of_getElem? (i := 442) (by decide +kernel)⟩
theorem lw_p5 : lw_okq (⟨"PlayerMoves", "playerAt", "(I)LPlayerMoves$Body;"⟩, 20) := ⟨⟨by decide +kernel, by decide +kernel⟩, List.mem_of_getElem? (i := 24) (by decide +kernel), List.mem_of_getElem? (i := 461) (by decide +kernel), List.mem_of_getElem? (i := 462) (by decide +kernel)⟩
theorem lw_p6 : lw_okq (⟨"PlayerMoves", "addSpan", "(LPlayerMoves$Body;LPlayerMoves$Body;III)LPlayerMoves$Span;"⟩, 20) := ⟨⟨by decide +kernel, by decide +kernel⟩, List.mem_of_getElem? (i := 24) (by decide +kernel), List.mem_of_getElem? (i := 468) (by decide +kernel), List.mem_of_getElem? (i := 469) (by decide +kernel)⟩
theorem lw_p7 : lw_okq (⟨"PlayerMoves", "shelfAt", "(I)LPlayerMoves$Shelf;"⟩, 20) := ⟨⟨by decide +kernel, by decide +kernel⟩, List.mem_of_getElem? (i := 24) (by decide +kernel), List.mem_of_getElem? (i := 527) (by decide +kernel), List.mem_of_getElem? (i := 528) (by decide +kernel)⟩
theorem lw_p8 : lw_okq (⟨"PlayerMoves", "addSpanFrom", "(LPlayerMoves$Body;LPlayerMoves$Shelf;II)Z"⟩, 20) := ⟨⟨by decide +kernel, by decide +kernel⟩, List.mem_of_getElem? (i := 24) (by decide +kernel), List.mem_of_getElem? (i := 535) (by decide +kernel), List.mem_of_getElem? (i := 536) (by decide +kernel)⟩
theorem lw_p9 : lw_okq (⟨"PlayerMoves", "countTeaching", "(LPlayerMoves$Body;)V"⟩, 20) := ⟨⟨by decide +kernel, by decide +kernel⟩, List.mem_of_getElem? (i := 24) (by decide +kernel), List.mem_of_getElem? (i := 555) (by decide +kernel), List.mem_of_getElem? (i := 556) (by decide +kernel)⟩
theorem lw_p10 : lw_okq (⟨"PlayerMoves", "whyNot", "(LPlayerMoves$Body;LPlayerMoves$Body;II)I"⟩, 20) := ⟨⟨by decide +kernel, by decide +kernel⟩, List.mem_of_getElem? (i := 24) (by decide +kernel), List.mem_of_getElem? (i := 582) (by decide +kernel), List.mem_of_getElem? (i := 583) (by decide +kernel)⟩
theorem lw_p11 : lw_okq (⟨"PlayerMoves", "isLentElsewhere", "(LPlayerMoves$Body;LPlayerMoves$Body;I)Z"⟩, 20) := ⟨⟨by decide +kernel, by decide +kernel⟩, List.mem_of_getElem? (i := 24) (by decide +kernel), List.mem_of_getElem? (i := 586) (by decide +kernel), List.mem_of_getElem? (i := 587) (by decide +kernel)⟩
theorem lw_p12 : lw_okq (⟨"PlayerMoves", "ruleToday", "(ILPlayerMoves$Body;)LPlayerMoves$Rule;"⟩, 20) := ⟨⟨by decide +kernel, by decide +kernel⟩, List.mem_of_getElem? (i := 24) (by decide +kernel), List.mem_of_getElem? (i := 590) (by decide +kernel), List.mem_of_getElem? (i := 591) (by decide +kernel)⟩
theorem lw_p13 : lw_okq (⟨"PlayerMoves", "ruleInForce", "(III)I"⟩, 20) := ⟨⟨by decide +kernel, by decide +kernel⟩, List.mem_of_getElem? (i := 24) (by decide +kernel), List.mem_of_getElem? (i := 594) (by decide +kernel), List.mem_of_getElem? (i := 595) (by decide +kernel)⟩
theorem lw_p14 : lw_okq (⟨"PlayerMoves", "brokenLine", "(LPlayerMoves$Rule;LPlayerMoves$Body;LPlayerMoves$Body;LPlayerMoves$Body;)I"⟩, 20) := ⟨⟨by decide +kernel, by decide +kernel⟩, List.mem_of_getElem? (i := 24) (by decide +kernel), List.mem_of_getElem? (i := 598) (by decide +kernel), List.mem_of_getElem? (i := 599) (by decide +kernel)⟩
theorem lw_p15 : lw_okq (⟨"PlayerMoves", "figure", "(ILPlayerMoves$Body;LPlayerMoves$Body;LPlayerMoves$Body;)I"⟩, 20) := ⟨⟨by decide +kernel, by decide +kernel⟩, List.mem_of_getElem? (i := 24) (by decide +kernel), List.mem_of_getElem? (i := 613) (by decide +kernel), List.mem_of_getElem? (i := 614) (by decide +kernel)⟩
def lw_privs_1 : List (MethodName × Nat) := [(⟨"PlayerMoves", "leagueAt", "(I)LPlayerMoves$League;"⟩, 20), (⟨"PlayerMoves", "addBody", "(I)LPlayerMoves$Body;"⟩, 20), (⟨"PlayerMoves", "bodyAt", "(I)LPlayerMoves$Body;"⟩, 20), (⟨"PlayerMoves", "clubAt", "(I)LPlayerMoves$Body;"⟩, 20), (⟨"PlayerMoves", "ofPlayer", "(LPlayerMoves$Body;I)I"⟩, 20), (⟨"PlayerMoves", "playerAt", "(I)LPlayerMoves$Body;"⟩, 20), (⟨"PlayerMoves", "addSpan", "(LPlayerMoves$Body;LPlayerMoves$Body;III)LPlayerMoves$Span;"⟩, 20), (⟨"PlayerMoves", "shelfAt", "(I)LPlayerMoves$Shelf;"⟩, 20), (⟨"PlayerMoves", "addSpanFrom", "(LPlayerMoves$Body;LPlayerMoves$Shelf;II)Z"⟩, 20), (⟨"PlayerMoves", "countTeaching", "(LPlayerMoves$Body;)V"⟩, 20), (⟨"PlayerMoves", "whyNot", "(LPlayerMoves$Body;LPlayerMoves$Body;II)I"⟩, 20), (⟨"PlayerMoves", "isLentElsewhere", "(LPlayerMoves$Body;LPlayerMoves$Body;I)Z"⟩, 20), (⟨"PlayerMoves", "ruleToday", "(ILPlayerMoves$Body;)LPlayerMoves$Rule;"⟩, 20), (⟨"PlayerMoves", "ruleInForce", "(III)I"⟩, 20), (⟨"PlayerMoves", "brokenLine", "(LPlayerMoves$Rule;LPlayerMoves$Body;LPlayerMoves$Body;LPlayerMoves$Body;)I"⟩, 20), (⟨"PlayerMoves", "figure", "(ILPlayerMoves$Body;LPlayerMoves$Body;LPlayerMoves$Body;)I"⟩, 20)]
theorem lw_r1 : ∀ q ∈ lw_privs_1, lw_okq q := List.forall_mem_cons.mpr ⟨lw_p0, List.forall_mem_cons.mpr ⟨lw_p1, List.forall_mem_cons.mpr ⟨lw_p2, List.forall_mem_cons.mpr ⟨lw_p3, List.forall_mem_cons.mpr ⟨lw_p4, List.forall_mem_cons.mpr ⟨lw_p5, List.forall_mem_cons.mpr ⟨lw_p6, List.forall_mem_cons.mpr ⟨lw_p7, List.forall_mem_cons.mpr ⟨lw_p8, List.forall_mem_cons.mpr ⟨lw_p9, List.forall_mem_cons.mpr ⟨lw_p10, List.forall_mem_cons.mpr ⟨lw_p11, List.forall_mem_cons.mpr ⟨lw_p12, List.forall_mem_cons.mpr ⟨lw_p13, List.forall_mem_cons.mpr ⟨lw_p14, List.forall_mem_cons.mpr ⟨lw_p15, fun _ h => absurd h List.not_mem_nil⟩⟩⟩⟩⟩⟩⟩⟩⟩⟩⟩⟩⟩⟩⟩⟩
theorem lw_p16 : lw_okq (⟨"PlayerMoves", "countHeld", "(LPlayerMoves$Body;LPlayerMoves$Body;I)I"⟩, 20) := ⟨⟨by decide +kernel, by decide +kernel⟩, List.mem_of_getElem? (i := 24) (by decide +kernel), List.mem_of_getElem? (i := 617) (by decide +kernel), List.mem_of_getElem? (i := 618) (by decide +kernel)⟩
theorem lw_p17 : lw_okq (⟨"PlayerMoves", "wages", "(LPlayerMoves$Body;)I"⟩, 20) := ⟨⟨by decide +kernel, by decide +kernel⟩, List.mem_of_getElem? (i := 24) (by decide +kernel), List.mem_of_getElem? (i := 621) (by decide +kernel), List.mem_of_getElem? (i := 622) (by decide +kernel)⟩
theorem lw_p18 : lw_okq (⟨"PlayerMoves", "year", "()I"⟩, 20) := ⟨⟨by decide +kernel, by decide +kernel⟩, List.mem_of_getElem? (i := 24) (by decide +kernel), List.mem_of_getElem? (i := 625) (by decide +kernel), List.mem_of_getElem? (i := 626) (by decide +kernel)⟩
theorem lw_p19 : lw_okq (⟨"PlayerMoves", "spreadTo", "(LPlayerMoves$Body;I)I"⟩, 20) := ⟨⟨by decide +kernel, by decide +kernel⟩, List.mem_of_getElem? (i := 24) (by decide +kernel), List.mem_of_getElem? (i := 629) (by decide +kernel), List.mem_of_getElem? (i := 630) (by decide +kernel)⟩
theorem lw_p20 : lw_okq (⟨"PlayerMoves", "threeYearsCaps", "(LPlayerMoves$Body;)I"⟩, 20) := ⟨⟨by decide +kernel, by decide +kernel⟩, List.mem_of_getElem? (i := 24) (by decide +kernel), List.mem_of_getElem? (i := 637) (by decide +kernel), List.mem_of_getElem? (i := 638) (by decide +kernel)⟩
theorem lw_p21 : lw_okq (⟨"PlayerMoves", "threeYearsIncome", "(LPlayerMoves$Body;)I"⟩, 20) := ⟨⟨by decide +kernel, by decide +kernel⟩, List.mem_of_getElem? (i := 24) (by decide +kernel), List.mem_of_getElem? (i := 641) (by decide +kernel), List.mem_of_getElem? (i := 642) (by decide +kernel)⟩
theorem lw_p22 : lw_okq (⟨"PlayerMoves$Reader", "begin", "([BI)V"⟩, 8) := ⟨⟨by decide +kernel, by decide +kernel⟩, List.mem_of_getElem? (i := 40) (by decide +kernel), List.mem_of_getElem? (i := 649) (by decide +kernel), List.mem_of_getElem? (i := 650) (by decide +kernel)⟩
theorem lw_p23 : lw_okq (⟨"PlayerMoves$Reader", "anyOf", "(I)Z"⟩, 8) := ⟨⟨by decide +kernel, by decide +kernel⟩, List.mem_of_getElem? (i := 40) (by decide +kernel), List.mem_of_getElem? (i := 654) (by decide +kernel), List.mem_of_getElem? (i := 655) (by decide +kernel)⟩
theorem lw_p24 : lw_okq (⟨"PlayerMoves$Reader", "allOf", "(I)Z"⟩, 8) := ⟨⟨by decide +kernel, by decide +kernel⟩, List.mem_of_getElem? (i := 40) (by decide +kernel), List.mem_of_getElem? (i := 658) (by decide +kernel), List.mem_of_getElem? (i := 659) (by decide +kernel)⟩
theorem lw_p25 : lw_okq (⟨"PlayerMoves$Reader", "base", "(I)Z"⟩, 8) := ⟨⟨by decide +kernel, by decide +kernel⟩, List.mem_of_getElem? (i := 40) (by decide +kernel), List.mem_of_getElem? (i := 662) (by decide +kernel), List.mem_of_getElem? (i := 663) (by decide +kernel)⟩
theorem lw_p26 : lw_okq (⟨"PlayerMoves$Reader", "peek", "()I"⟩, 8) := ⟨⟨by decide +kernel, by decide +kernel⟩, List.mem_of_getElem? (i := 40) (by decide +kernel), List.mem_of_getElem? (i := 666) (by decide +kernel), List.mem_of_getElem? (i := 667) (by decide +kernel)⟩
theorem lw_p27 : lw_okq (⟨"PlayerMoves$Reader", "fail", "()I"⟩, 8) := ⟨⟨by decide +kernel, by decide +kernel⟩, List.mem_of_getElem? (i := 40) (by decide +kernel), List.mem_of_getElem? (i := 670) (by decide +kernel), List.mem_of_getElem? (i := 671) (by decide +kernel)⟩
theorem lw_p28 : lw_okq (⟨"PlayerMoves$Reader", "pass", "(I)V"⟩, 8) := ⟨⟨by decide +kernel, by decide +kernel⟩, List.mem_of_getElem? (i := 40) (by decide +kernel), List.mem_of_getElem? (i := 674) (by decide +kernel), List.mem_of_getElem? (i := 675) (by decide +kernel)⟩
theorem lw_p29 : lw_okq (⟨"PlayerMoves$Reader", "sum", "(I)I"⟩, 8) := ⟨⟨by decide +kernel, by decide +kernel⟩, List.mem_of_getElem? (i := 40) (by decide +kernel), List.mem_of_getElem? (i := 678) (by decide +kernel), List.mem_of_getElem? (i := 679) (by decide +kernel)⟩
theorem lw_p30 : lw_okq (⟨"PlayerMoves$Reader", "product", "(I)I"⟩, 8) := ⟨⟨by decide +kernel, by decide +kernel⟩, List.mem_of_getElem? (i := 40) (by decide +kernel), List.mem_of_getElem? (i := 682) (by decide +kernel), List.mem_of_getElem? (i := 683) (by decide +kernel)⟩
theorem lw_p31 : lw_okq (⟨"PlayerMoves$Reader", "operand", "(I)I"⟩, 8) := ⟨⟨by decide +kernel, by decide +kernel⟩, List.mem_of_getElem? (i := 40) (by decide +kernel), List.mem_of_getElem? (i := 686) (by decide +kernel), List.mem_of_getElem? (i := 687) (by decide +kernel)⟩
def lw_privs_2 : List (MethodName × Nat) := [(⟨"PlayerMoves", "countHeld", "(LPlayerMoves$Body;LPlayerMoves$Body;I)I"⟩, 20), (⟨"PlayerMoves", "wages", "(LPlayerMoves$Body;)I"⟩, 20), (⟨"PlayerMoves", "year", "()I"⟩, 20), (⟨"PlayerMoves", "spreadTo", "(LPlayerMoves$Body;I)I"⟩, 20), (⟨"PlayerMoves", "threeYearsCaps", "(LPlayerMoves$Body;)I"⟩, 20), (⟨"PlayerMoves", "threeYearsIncome", "(LPlayerMoves$Body;)I"⟩, 20), (⟨"PlayerMoves$Reader", "begin", "([BI)V"⟩, 8), (⟨"PlayerMoves$Reader", "anyOf", "(I)Z"⟩, 8), (⟨"PlayerMoves$Reader", "allOf", "(I)Z"⟩, 8), (⟨"PlayerMoves$Reader", "base", "(I)Z"⟩, 8), (⟨"PlayerMoves$Reader", "peek", "()I"⟩, 8), (⟨"PlayerMoves$Reader", "fail", "()I"⟩, 8), (⟨"PlayerMoves$Reader", "pass", "(I)V"⟩, 8), (⟨"PlayerMoves$Reader", "sum", "(I)I"⟩, 8), (⟨"PlayerMoves$Reader", "product", "(I)I"⟩, 8), (⟨"PlayerMoves$Reader", "operand", "(I)I"⟩, 8)]
theorem lw_r2 : ∀ q ∈ lw_privs_2, lw_okq q := List.forall_mem_cons.mpr ⟨lw_p16, List.forall_mem_cons.mpr ⟨lw_p17, List.forall_mem_cons.mpr ⟨lw_p18, List.forall_mem_cons.mpr ⟨lw_p19, List.forall_mem_cons.mpr ⟨lw_p20, List.forall_mem_cons.mpr ⟨lw_p21, List.forall_mem_cons.mpr ⟨lw_p22, List.forall_mem_cons.mpr ⟨lw_p23, List.forall_mem_cons.mpr ⟨lw_p24, List.forall_mem_cons.mpr ⟨lw_p25, List.forall_mem_cons.mpr ⟨lw_p26, List.forall_mem_cons.mpr ⟨lw_p27, List.forall_mem_cons.mpr ⟨lw_p28, List.forall_mem_cons.mpr ⟨lw_p29, List.forall_mem_cons.mpr ⟨lw_p30, List.forall_mem_cons.mpr ⟨lw_p31, fun _ h => absurd h List.not_mem_nil⟩⟩⟩⟩⟩⟩⟩⟩⟩⟩⟩⟩⟩⟩⟩⟩
theorem lw_p32 : lw_okq (⟨"PlayerMoves$Reader", "number", "()I"⟩, 8) := ⟨⟨by decide +kernel, by decide +kernel⟩, List.mem_of_getElem? (i := 40) (by decide +kernel), List.mem_of_getElem? (i := 691) (by decide +kernel), List.mem_of_getElem? (i := 692) (by decide +kernel)⟩
theorem lw_p33 : lw_okq (⟨"PlayerMoves", "movesOrSpansAreFull", "()Z"⟩, 20) := ⟨⟨by decide +kernel, by decide +kernel⟩, List.mem_of_getElem? (i := 24) (by decide +kernel), List.mem_of_getElem? (i := 776) (by decide +kernel), List.mem_of_getElem? (i := 777) (by decide +kernel)⟩
theorem lw_p34 : lw_okq (⟨"PlayerMoves", "makeSale", "(LPlayerMoves$Body;LPlayerMoves$Body;II)I"⟩, 20) := ⟨⟨by decide +kernel, by decide +kernel⟩, List.mem_of_getElem? (i := 24) (by decide +kernel), List.mem_of_getElem? (i := 780) (by decide +kernel), List.mem_of_getElem? (i := 781) (by decide +kernel)⟩
theorem lw_p35 : lw_okq (⟨"PlayerMoves", "payShares", "(LPlayerMoves$Move;)V"⟩, 20) := ⟨⟨by decide +kernel, by decide +kernel⟩, List.mem_of_getElem? (i := 24) (by decide +kernel), List.mem_of_getElem? (i := 869) (by decide +kernel), List.mem_of_getElem? (i := 870) (by decide +kernel)⟩
theorem lw_p36 : lw_okq (⟨"PlayerMoves", "enter", "(LPlayerMoves$Move;)I"⟩, 20) := ⟨⟨by decide +kernel, by decide +kernel⟩, List.mem_of_getElem? (i := 24) (by decide +kernel), List.mem_of_getElem? (i := 877) (by decide +kernel), List.mem_of_getElem? (i := 878) (by decide +kernel)⟩
theorem lw_p37 : lw_okq (⟨"PlayerMoves", "makeLoan", "(LPlayerMoves$Body;LPlayerMoves$Body;)I"⟩, 20) := ⟨⟨by decide +kernel, by decide +kernel⟩, List.mem_of_getElem? (i := 24) (by decide +kernel), List.mem_of_getElem? (i := 885) (by decide +kernel), List.mem_of_getElem? (i := 886) (by decide +kernel)⟩
theorem lw_p38 : lw_okq (⟨"PlayerMoves", "moveAt", "(I)LPlayerMoves$Move;"⟩, 20) := ⟨⟨by decide +kernel, by decide +kernel⟩, List.mem_of_getElem? (i := 24) (by decide +kernel), List.mem_of_getElem? (i := 893) (by decide +kernel), List.mem_of_getElem? (i := 894) (by decide +kernel)⟩
theorem lw_p39 : lw_okq (⟨"PlayerMoves", "payBack", "(LPlayerMoves$Move;)V"⟩, 20) := ⟨⟨by decide +kernel, by decide +kernel⟩, List.mem_of_getElem? (i := 24) (by decide +kernel), List.mem_of_getElem? (i := 922) (by decide +kernel), List.mem_of_getElem? (i := 923) (by decide +kernel)⟩
theorem lw_p40 : lw_okq (⟨"PlayerMoves$Deals", "feesOf", "(I)I"⟩, 6) := ⟨⟨by decide +kernel, by decide +kernel⟩, List.mem_of_getElem? (i := 76) (by decide +kernel), List.mem_of_getElem? (i := 1024) (by decide +kernel), List.mem_of_getElem? (i := 1025) (by decide +kernel)⟩
theorem lw_p41 : lw_okq (⟨"PlayerMoves$Deals", "canHappen", "(I)Z"⟩, 6) := ⟨⟨by decide +kernel, by decide +kernel⟩, List.mem_of_getElem? (i := 76) (by decide +kernel), List.mem_of_getElem? (i := 1028) (by decide +kernel), List.mem_of_getElem? (i := 1029) (by decide +kernel)⟩
theorem lw_p42 : lw_okq (⟨"PlayerMoves$Deals", "fits", "(II)Z"⟩, 6) := ⟨⟨by decide +kernel, by decide +kernel⟩, List.mem_of_getElem? (i := 76) (by decide +kernel), List.mem_of_getElem? (i := 1032) (by decide +kernel), List.mem_of_getElem? (i := 1033) (by decide +kernel)⟩
theorem lw_p43 : lw_okq (⟨"PlayerMoves$Rings", "mostWith", "(III)I"⟩, 5) := ⟨⟨by decide +kernel, by decide +kernel⟩, List.mem_of_getElem? (i := 103) (by decide +kernel), List.mem_of_getElem? (i := 1053) (by decide +kernel), List.mem_of_getElem? (i := 1054) (by decide +kernel)⟩
theorem lw_p44 : lw_okq (⟨"PlayerMoves$Rings", "firstOf", "(II)I"⟩, 5) := ⟨⟨by decide +kernel, by decide +kernel⟩, List.mem_of_getElem? (i := 103) (by decide +kernel), List.mem_of_getElem? (i := 1058) (by decide +kernel), List.mem_of_getElem? (i := 1059) (by decide +kernel)⟩
theorem lw_p45 : lw_okq (⟨"PlayerMoves$Buys", "sumOf", "(I[I)I"⟩, 5) := ⟨⟨by decide +kernel, by decide +kernel⟩, List.mem_of_getElem? (i := 128) (by decide +kernel), List.mem_of_getElem? (i := 1083) (by decide +kernel), List.mem_of_getElem? (i := 1084) (by decide +kernel)⟩
theorem lw_p46 : lw_okq (⟨"PlayerMoves$Buys", "fillsPlaces", "(II)Z"⟩, 5) := ⟨⟨by decide +kernel, by decide +kernel⟩, List.mem_of_getElem? (i := 128) (by decide +kernel), List.mem_of_getElem? (i := 1088) (by decide +kernel), List.mem_of_getElem? (i := 1089) (by decide +kernel)⟩
theorem lw_p47 : lw_okq (⟨"PlayerMoves$Acts", "perform", "(LPlayerMoves$Body;IIII)I"⟩, 2) := ⟨⟨by decide +kernel, by decide +kernel⟩, List.mem_of_getElem? (i := 179) (by decide +kernel), List.mem_of_getElem? (i := 1118) (by decide +kernel), List.mem_of_getElem? (i := 1119) (by decide +kernel)⟩
def lw_privs_3 : List (MethodName × Nat) := [(⟨"PlayerMoves$Reader", "number", "()I"⟩, 8), (⟨"PlayerMoves", "movesOrSpansAreFull", "()Z"⟩, 20), (⟨"PlayerMoves", "makeSale", "(LPlayerMoves$Body;LPlayerMoves$Body;II)I"⟩, 20), (⟨"PlayerMoves", "payShares", "(LPlayerMoves$Move;)V"⟩, 20), (⟨"PlayerMoves", "enter", "(LPlayerMoves$Move;)I"⟩, 20), (⟨"PlayerMoves", "makeLoan", "(LPlayerMoves$Body;LPlayerMoves$Body;)I"⟩, 20), (⟨"PlayerMoves", "moveAt", "(I)LPlayerMoves$Move;"⟩, 20), (⟨"PlayerMoves", "payBack", "(LPlayerMoves$Move;)V"⟩, 20), (⟨"PlayerMoves$Deals", "feesOf", "(I)I"⟩, 6), (⟨"PlayerMoves$Deals", "canHappen", "(I)Z"⟩, 6), (⟨"PlayerMoves$Deals", "fits", "(II)Z"⟩, 6), (⟨"PlayerMoves$Rings", "mostWith", "(III)I"⟩, 5), (⟨"PlayerMoves$Rings", "firstOf", "(II)I"⟩, 5), (⟨"PlayerMoves$Buys", "sumOf", "(I[I)I"⟩, 5), (⟨"PlayerMoves$Buys", "fillsPlaces", "(II)Z"⟩, 5), (⟨"PlayerMoves$Acts", "perform", "(LPlayerMoves$Body;IIII)I"⟩, 2)]
theorem lw_r3 : ∀ q ∈ lw_privs_3, lw_okq q := List.forall_mem_cons.mpr ⟨lw_p32, List.forall_mem_cons.mpr ⟨lw_p33, List.forall_mem_cons.mpr ⟨lw_p34, List.forall_mem_cons.mpr ⟨lw_p35, List.forall_mem_cons.mpr ⟨lw_p36, List.forall_mem_cons.mpr ⟨lw_p37, List.forall_mem_cons.mpr ⟨lw_p38, List.forall_mem_cons.mpr ⟨lw_p39, List.forall_mem_cons.mpr ⟨lw_p40, List.forall_mem_cons.mpr ⟨lw_p41, List.forall_mem_cons.mpr ⟨lw_p42, List.forall_mem_cons.mpr ⟨lw_p43, List.forall_mem_cons.mpr ⟨lw_p44, List.forall_mem_cons.mpr ⟨lw_p45, List.forall_mem_cons.mpr ⟨lw_p46, List.forall_mem_cons.mpr ⟨lw_p47, fun _ h => absurd h List.not_mem_nil⟩⟩⟩⟩⟩⟩⟩⟩⟩⟩⟩⟩⟩⟩⟩⟩
theorem lw_p48 : lw_okq (⟨"PlayerMoves$Acts", "run", "(LPlayerMoves$Body;IIII)I"⟩, 2) := ⟨⟨by decide +kernel, by decide +kernel⟩, List.mem_of_getElem? (i := 179) (by decide +kernel), List.mem_of_getElem? (i := 1126) (by decide +kernel), List.mem_of_getElem? (i := 1127) (by decide +kernel)⟩
theorem lw_p49 : lw_okq (⟨"PlayerMoves", "elementRefusal", "(II)I"⟩, 20) := ⟨⟨by decide +kernel, by decide +kernel⟩, List.mem_of_getElem? (i := 24) (by decide +kernel), List.mem_of_getElem? (i := 1155) (by decide +kernel), List.mem_of_getElem? (i := 1156) (by decide +kernel)⟩
theorem lw_p50 : lw_okq (⟨"PlayerMoves", "countClubs", "()I"⟩, 20) := ⟨⟨by decide +kernel, by decide +kernel⟩, List.mem_of_getElem? (i := 24) (by decide +kernel), List.mem_of_getElem? (i := 1186) (by decide +kernel), List.mem_of_getElem? (i := 1187) (by decide +kernel)⟩
theorem lw_p51 : lw_okq (⟨"PlayerMoves", "countPlayers", "(Z)I"⟩, 20) := ⟨⟨by decide +kernel, by decide +kernel⟩, List.mem_of_getElem? (i := 24) (by decide +kernel), List.mem_of_getElem? (i := 1190) (by decide +kernel), List.mem_of_getElem? (i := 1191) (by decide +kernel)⟩
theorem lw_p52 : lw_okq (⟨"PlayerMoves", "countStandingMoves", "()I"⟩, 20) := ⟨⟨by decide +kernel, by decide +kernel⟩, List.mem_of_getElem? (i := 24) (by decide +kernel), List.mem_of_getElem? (i := 1194) (by decide +kernel), List.mem_of_getElem? (i := 1195) (by decide +kernel)⟩
theorem lw_p53 : lw_okq (⟨"PlayerMovesModel", "isOpen", "(II)Z"⟩, 97) := ⟨⟨by decide +kernel, by decide +kernel⟩, List.mem_of_getElem? (i := 1198) (by decide +kernel), List.mem_of_getElem? (i := 1521) (by decide +kernel), List.mem_of_getElem? (i := 1522) (by decide +kernel)⟩
theorem lw_p54 : lw_okq (⟨"PlayerMovesModel", "add", "(I)I"⟩, 97) := ⟨⟨by decide +kernel, by decide +kernel⟩, List.mem_of_getElem? (i := 1198) (by decide +kernel), List.mem_of_getElem? (i := 1533) (by decide +kernel), List.mem_of_getElem? (i := 1534) (by decide +kernel)⟩
theorem lw_p55 : lw_okq (⟨"PlayerMovesModel", "isBody", "(I)Z"⟩, 97) := ⟨⟨by decide +kernel, by decide +kernel⟩, List.mem_of_getElem? (i := 1198) (by decide +kernel), List.mem_of_getElem? (i := 1547) (by decide +kernel), List.mem_of_getElem? (i := 1548) (by decide +kernel)⟩
theorem lw_p56 : lw_okq (⟨"PlayerMovesModel", "isClub", "(I)Z"⟩, 97) := ⟨⟨by decide +kernel, by decide +kernel⟩, List.mem_of_getElem? (i := 1198) (by decide +kernel), List.mem_of_getElem? (i := 1555) (by decide +kernel), List.mem_of_getElem? (i := 1556) (by decide +kernel)⟩
theorem lw_p57 : lw_okq (⟨"PlayerMovesModel", "isPlayer", "(I)Z"⟩, 97) := ⟨⟨by decide +kernel, by decide +kernel⟩, List.mem_of_getElem? (i := 1198) (by decide +kernel), List.mem_of_getElem? (i := 1567) (by decide +kernel), List.mem_of_getElem? (i := 1568) (by decide +kernel)⟩
theorem lw_p58 : lw_okq (⟨"PlayerMovesModel", "ownSpan", "(II)I"⟩, 97) := ⟨⟨by decide +kernel, by decide +kernel⟩, List.mem_of_getElem? (i := 1198) (by decide +kernel), List.mem_of_getElem? (i := 1571) (by decide +kernel), List.mem_of_getElem? (i := 1572) (by decide +kernel)⟩
theorem lw_p59 : lw_okq (⟨"PlayerMovesModel", "isSome", "(II)Z"⟩, 97) := ⟨⟨by decide +kernel, by decide +kernel⟩, List.mem_of_getElem? (i := 1198) (by decide +kernel), List.mem_of_getElem? (i := 1575) (by decide +kernel), List.mem_of_getElem? (i := 1576) (by decide +kernel)⟩
theorem lw_p60 : lw_okq (⟨"PlayerMovesModel", "ageOn", "(II)I"⟩, 97) := ⟨⟨by decide +kernel, by decide +kernel⟩, List.mem_of_getElem? (i := 1198) (by decide +kernel), List.mem_of_getElem? (i := 1579) (by decide +kernel), List.mem_of_getElem? (i := 1580) (by decide +kernel)⟩
theorem lw_p61 : lw_okq (⟨"PlayerMovesModel", "holderOn", "(II)I"⟩, 97) := ⟨⟨by decide +kernel, by decide +kernel⟩, List.mem_of_getElem? (i := 1198) (by decide +kernel), List.mem_of_getElem? (i := 1583) (by decide +kernel), List.mem_of_getElem? (i := 1584) (by decide +kernel)⟩
theorem lw_p62 : lw_okq (⟨"PlayerMovesModel", "spanOn", "(II)I"⟩, 97) := ⟨⟨by decide +kernel, by decide +kernel⟩, List.mem_of_getElem? (i := 1198) (by decide +kernel), List.mem_of_getElem? (i := 1587) (by decide +kernel), List.mem_of_getElem? (i := 1588) (by decide +kernel)⟩
theorem lw_p63 : lw_okq (⟨"PlayerMovesModel", "spansOf", "(I)I"⟩, 97) := ⟨⟨by decide +kernel, by decide +kernel⟩, List.mem_of_getElem? (i := 1198) (by decide +kernel), List.mem_of_getElem? (i := 1591) (by decide +kernel), List.mem_of_getElem? (i := 1592) (by decide +kernel)⟩
def lw_privs_4 : List (MethodName × Nat) := [(⟨"PlayerMoves$Acts", "run", "(LPlayerMoves$Body;IIII)I"⟩, 2), (⟨"PlayerMoves", "elementRefusal", "(II)I"⟩, 20), (⟨"PlayerMoves", "countClubs", "()I"⟩, 20), (⟨"PlayerMoves", "countPlayers", "(Z)I"⟩, 20), (⟨"PlayerMoves", "countStandingMoves", "()I"⟩, 20), (⟨"PlayerMovesModel", "isOpen", "(II)Z"⟩, 97), (⟨"PlayerMovesModel", "add", "(I)I"⟩, 97), (⟨"PlayerMovesModel", "isBody", "(I)Z"⟩, 97), (⟨"PlayerMovesModel", "isClub", "(I)Z"⟩, 97), (⟨"PlayerMovesModel", "isPlayer", "(I)Z"⟩, 97), (⟨"PlayerMovesModel", "ownSpan", "(II)I"⟩, 97), (⟨"PlayerMovesModel", "isSome", "(II)Z"⟩, 97), (⟨"PlayerMovesModel", "ageOn", "(II)I"⟩, 97), (⟨"PlayerMovesModel", "holderOn", "(II)I"⟩, 97), (⟨"PlayerMovesModel", "spanOn", "(II)I"⟩, 97), (⟨"PlayerMovesModel", "spansOf", "(I)I"⟩, 97)]
theorem lw_r4 : ∀ q ∈ lw_privs_4, lw_okq q := List.forall_mem_cons.mpr ⟨lw_p48, List.forall_mem_cons.mpr ⟨lw_p49, List.forall_mem_cons.mpr ⟨lw_p50, List.forall_mem_cons.mpr ⟨lw_p51, List.forall_mem_cons.mpr ⟨lw_p52, List.forall_mem_cons.mpr ⟨lw_p53, List.forall_mem_cons.mpr ⟨lw_p54, List.forall_mem_cons.mpr ⟨lw_p55, List.forall_mem_cons.mpr ⟨lw_p56, List.forall_mem_cons.mpr ⟨lw_p57, List.forall_mem_cons.mpr ⟨lw_p58, List.forall_mem_cons.mpr ⟨lw_p59, List.forall_mem_cons.mpr ⟨lw_p60, List.forall_mem_cons.mpr ⟨lw_p61, List.forall_mem_cons.mpr ⟨lw_p62, List.forall_mem_cons.mpr ⟨lw_p63, fun _ h => absurd h List.not_mem_nil⟩⟩⟩⟩⟩⟩⟩⟩⟩⟩⟩⟩⟩⟩⟩⟩
theorem lw_p64 : lw_okq (⟨"PlayerMovesModel", "ownerOn", "(II)I"⟩, 97) := ⟨⟨by decide +kernel, by decide +kernel⟩, List.mem_of_getElem? (i := 1198) (by decide +kernel), List.mem_of_getElem? (i := 1599) (by decide +kernel), List.mem_of_getElem? (i := 1600) (by decide +kernel)⟩
theorem lw_p65 : lw_okq (⟨"PlayerMovesModel", "addSpan", "(IIIII)I"⟩, 97) := ⟨⟨by decide +kernel, by decide +kernel⟩, List.mem_of_getElem? (i := 1198) (by decide +kernel), List.mem_of_getElem? (i := 1607) (by decide +kernel), List.mem_of_getElem? (i := 1608) (by decide +kernel)⟩
theorem lw_p66 : lw_okq (⟨"PlayerMovesModel", "findTaught", "(I)V"⟩, 97) := ⟨⟨by decide +kernel, by decide +kernel⟩, List.mem_of_getElem? (i := 1198) (by decide +kernel), List.mem_of_getElem? (i := 1628) (by decide +kernel), List.mem_of_getElem? (i := 1629) (by decide +kernel)⟩
theorem lw_p67 : lw_okq (⟨"PlayerMovesModel", "whyNot", "(IIZIII)I"⟩, 97) := ⟨⟨by decide +kernel, by decide +kernel⟩, List.mem_of_getElem? (i := 1198) (by decide +kernel), List.mem_of_getElem? (i := 1644) (by decide +kernel), List.mem_of_getElem? (i := 1645) (by decide +kernel)⟩
theorem lw_p68 : lw_okq (⟨"PlayerMovesModel", "forceOf", "(III)I"⟩, 97) := ⟨⟨by decide +kernel, by decide +kernel⟩, List.mem_of_getElem? (i := 1198) (by decide +kernel), List.mem_of_getElem? (i := 1648) (by decide +kernel), List.mem_of_getElem? (i := 1649) (by decide +kernel)⟩
theorem lw_p69 : lw_okq (⟨"PlayerMovesModel", "firstBroken", "(IIIZ)I"⟩, 97) := ⟨⟨by decide +kernel, by decide +kernel⟩, List.mem_of_getElem? (i := 1198) (by decide +kernel), List.mem_of_getElem? (i := 1652) (by decide +kernel), List.mem_of_getElem? (i := 1653) (by decide +kernel)⟩
theorem lw_p70 : lw_okq (⟨"PlayerMovesModel", "findSquad", "(II)V"⟩, 97) := ⟨⟨by decide +kernel, by decide +kernel⟩, List.mem_of_getElem? (i := 1198) (by decide +kernel), List.mem_of_getElem? (i := 1656) (by decide +kernel), List.mem_of_getElem? (i := 1657) (by decide +kernel)⟩
theorem lw_p71 : lw_okq (⟨"PlayerMovesModel", "isHomeGrown", "(II)Z"⟩, 97) := ⟨⟨by decide +kernel, by decide +kernel⟩, List.mem_of_getElem? (i := 1198) (by decide +kernel), List.mem_of_getElem? (i := 1660) (by decide +kernel), List.mem_of_getElem? (i := 1661) (by decide +kernel)⟩
theorem lw_p72 : lw_okq (⟨"PlayerMovesModel", "wagesOf", "(I)I"⟩, 97) := ⟨⟨by decide +kernel, by decide +kernel⟩, List.mem_of_getElem? (i := 1198) (by decide +kernel), List.mem_of_getElem? (i := 1664) (by decide +kernel), List.mem_of_getElem? (i := 1665) (by decide +kernel)⟩
theorem lw_p73 : lw_okq (⟨"PlayerMovesModel", "capOf", "(II)I"⟩, 97) := ⟨⟨by decide +kernel, by decide +kernel⟩, List.mem_of_getElem? (i := 1198) (by decide +kernel), List.mem_of_getElem? (i := 1668) (by decide +kernel), List.mem_of_getElem? (i := 1669) (by decide +kernel)⟩
theorem lw_p74 : lw_okq (⟨"PlayerMovesModel", "threeYears", "(IZ)I"⟩, 97) := ⟨⟨by decide +kernel, by decide +kernel⟩, List.mem_of_getElem? (i := 1198) (by decide +kernel), List.mem_of_getElem? (i := 1672) (by decide +kernel), List.mem_of_getElem? (i := 1673) (by decide +kernel)⟩
theorem lw_p75 : lw_okq (⟨"PlayerMovesModel", "worked", "(III)I"⟩, 97) := ⟨⟨by decide +kernel, by decide +kernel⟩, List.mem_of_getElem? (i := 1198) (by decide +kernel), List.mem_of_getElem? (i := 1676) (by decide +kernel), List.mem_of_getElem? (i := 1677) (by decide +kernel)⟩
theorem lw_p76 : lw_okq (⟨"PlayerMovesModel", "sale", "(IIIIII)I"⟩, 97) := ⟨⟨by decide +kernel, by decide +kernel⟩, List.mem_of_getElem? (i := 1198) (by decide +kernel), List.mem_of_getElem? (i := 1687) (by decide +kernel), List.mem_of_getElem? (i := 1688) (by decide +kernel)⟩
theorem lw_p77 : lw_okq (⟨"PlayerMovesModel", "addMove", "(IIIZ)I"⟩, 97) := ⟨⟨by decide +kernel, by decide +kernel⟩, List.mem_of_getElem? (i := 1198) (by decide +kernel), List.mem_of_getElem? (i := 1691) (by decide +kernel), List.mem_of_getElem? (i := 1692) (by decide +kernel)⟩
theorem lw_p78 : lw_okq (⟨"PlayerMovesModel", "payShares", "(I)V"⟩, 97) := ⟨⟨by decide +kernel, by decide +kernel⟩, List.mem_of_getElem? (i := 1198) (by decide +kernel), List.mem_of_getElem? (i := 1698) (by decide +kernel), List.mem_of_getElem? (i := 1699) (by decide +kernel)⟩
theorem lw_p79 : lw_okq (⟨"PlayerMovesModel", "addMoveSpan", "(III)V"⟩, 97) := ⟨⟨by decide +kernel, by decide +kernel⟩, List.mem_of_getElem? (i := 1198) (by decide +kernel), List.mem_of_getElem? (i := 1705) (by decide +kernel), List.mem_of_getElem? (i := 1706) (by decide +kernel)⟩
def lw_privs_5 : List (MethodName × Nat) := [(⟨"PlayerMovesModel", "ownerOn", "(II)I"⟩, 97), (⟨"PlayerMovesModel", "addSpan", "(IIIII)I"⟩, 97), (⟨"PlayerMovesModel", "findTaught", "(I)V"⟩, 97), (⟨"PlayerMovesModel", "whyNot", "(IIZIII)I"⟩, 97), (⟨"PlayerMovesModel", "forceOf", "(III)I"⟩, 97), (⟨"PlayerMovesModel", "firstBroken", "(IIIZ)I"⟩, 97), (⟨"PlayerMovesModel", "findSquad", "(II)V"⟩, 97), (⟨"PlayerMovesModel", "isHomeGrown", "(II)Z"⟩, 97), (⟨"PlayerMovesModel", "wagesOf", "(I)I"⟩, 97), (⟨"PlayerMovesModel", "capOf", "(II)I"⟩, 97), (⟨"PlayerMovesModel", "threeYears", "(IZ)I"⟩, 97), (⟨"PlayerMovesModel", "worked", "(III)I"⟩, 97), (⟨"PlayerMovesModel", "sale", "(IIIIII)I"⟩, 97), (⟨"PlayerMovesModel", "addMove", "(IIIZ)I"⟩, 97), (⟨"PlayerMovesModel", "payShares", "(I)V"⟩, 97), (⟨"PlayerMovesModel", "addMoveSpan", "(III)V"⟩, 97)]
theorem lw_r5 : ∀ q ∈ lw_privs_5, lw_okq q := List.forall_mem_cons.mpr ⟨lw_p64, List.forall_mem_cons.mpr ⟨lw_p65, List.forall_mem_cons.mpr ⟨lw_p66, List.forall_mem_cons.mpr ⟨lw_p67, List.forall_mem_cons.mpr ⟨lw_p68, List.forall_mem_cons.mpr ⟨lw_p69, List.forall_mem_cons.mpr ⟨lw_p70, List.forall_mem_cons.mpr ⟨lw_p71, List.forall_mem_cons.mpr ⟨lw_p72, List.forall_mem_cons.mpr ⟨lw_p73, List.forall_mem_cons.mpr ⟨lw_p74, List.forall_mem_cons.mpr ⟨lw_p75, List.forall_mem_cons.mpr ⟨lw_p76, List.forall_mem_cons.mpr ⟨lw_p77, List.forall_mem_cons.mpr ⟨lw_p78, List.forall_mem_cons.mpr ⟨lw_p79, fun _ h => absurd h List.not_mem_nil⟩⟩⟩⟩⟩⟩⟩⟩⟩⟩⟩⟩⟩⟩⟩⟩
theorem lw_p80 : lw_okq (⟨"PlayerMovesModel", "isMove", "(I)Z"⟩, 97) := ⟨⟨by decide +kernel, by decide +kernel⟩, List.mem_of_getElem? (i := 1198) (by decide +kernel), List.mem_of_getElem? (i := 1721) (by decide +kernel), List.mem_of_getElem? (i := 1722) (by decide +kernel)⟩
theorem lw_p81 : lw_okq (⟨"PlayerMovesModel", "readLine", "()V"⟩, 97) := ⟨⟨by decide +kernel, by decide +kernel⟩, List.mem_of_getElem? (i := 1198) (by decide +kernel), List.mem_of_getElem? (i := 1749) (by decide +kernel), List.mem_of_getElem? (i := 1750) (by decide +kernel)⟩
theorem lw_p82 : lw_okq (⟨"PlayerMovesModel", "either", "()V"⟩, 97) := ⟨⟨by decide +kernel, by decide +kernel⟩, List.mem_of_getElem? (i := 1198) (by decide +kernel), List.mem_of_getElem? (i := 1753) (by decide +kernel), List.mem_of_getElem? (i := 1754) (by decide +kernel)⟩
theorem lw_p83 : lw_okq (⟨"PlayerMovesModel", "all", "()V"⟩, 97) := ⟨⟨by decide +kernel, by decide +kernel⟩, List.mem_of_getElem? (i := 1198) (by decide +kernel), List.mem_of_getElem? (i := 1757) (by decide +kernel), List.mem_of_getElem? (i := 1758) (by decide +kernel)⟩
theorem lw_p84 : lw_okq (⟨"PlayerMovesModel", "base", "()V"⟩, 97) := ⟨⟨by decide +kernel, by decide +kernel⟩, List.mem_of_getElem? (i := 1198) (by decide +kernel), List.mem_of_getElem? (i := 1761) (by decide +kernel), List.mem_of_getElem? (i := 1762) (by decide +kernel)⟩
theorem lw_p85 : lw_okq (⟨"PlayerMovesModel", "look", "()I"⟩, 97) := ⟨⟨by decide +kernel, by decide +kernel⟩, List.mem_of_getElem? (i := 1198) (by decide +kernel), List.mem_of_getElem? (i := 1765) (by decide +kernel), List.mem_of_getElem? (i := 1766) (by decide +kernel)⟩
theorem lw_p86 : lw_okq (⟨"PlayerMovesModel", "opens", "()Z"⟩, 97) := ⟨⟨by decide +kernel, by decide +kernel⟩, List.mem_of_getElem? (i := 1198) (by decide +kernel), List.mem_of_getElem? (i := 1769) (by decide +kernel), List.mem_of_getElem? (i := 1770) (by decide +kernel)⟩
theorem lw_p87 : lw_okq (⟨"PlayerMovesModel", "wrong", "()V"⟩, 97) := ⟨⟨by decide +kernel, by decide +kernel⟩, List.mem_of_getElem? (i := 1198) (by decide +kernel), List.mem_of_getElem? (i := 1773) (by decide +kernel), List.mem_of_getElem? (i := 1774) (by decide +kernel)⟩
theorem lw_p88 : lw_okq (⟨"PlayerMovesModel", "lay", "(II)V"⟩, 97) := ⟨⟨by decide +kernel, by decide +kernel⟩, List.mem_of_getElem? (i := 1198) (by decide +kernel), List.mem_of_getElem? (i := 1777) (by decide +kernel), List.mem_of_getElem? (i := 1778) (by decide +kernel)⟩
theorem lw_p89 : lw_okq (⟨"PlayerMovesModel", "closes", "(I)V"⟩, 97) := ⟨⟨by decide +kernel, by decide +kernel⟩, List.mem_of_getElem? (i := 1198) (by decide +kernel), List.mem_of_getElem? (i := 1781) (by decide +kernel), List.mem_of_getElem? (i := 1782) (by decide +kernel)⟩
theorem lw_p90 : lw_okq (⟨"PlayerMovesModel", "sum", "()V"⟩, 97) := ⟨⟨by decide +kernel, by decide +kernel⟩, List.mem_of_getElem? (i := 1198) (by decide +kernel), List.mem_of_getElem? (i := 1785) (by decide +kernel), List.mem_of_getElem? (i := 1786) (by decide +kernel)⟩
theorem lw_p91 : lw_okq (⟨"PlayerMovesModel", "product", "()V"⟩, 97) := ⟨⟨by decide +kernel, by decide +kernel⟩, List.mem_of_getElem? (i := 1198) (by decide +kernel), List.mem_of_getElem? (i := 1789) (by decide +kernel), List.mem_of_getElem? (i := 1790) (by decide +kernel)⟩
theorem lw_p92 : lw_okq (⟨"PlayerMovesModel", "operand", "()V"⟩, 97) := ⟨⟨by decide +kernel, by decide +kernel⟩, List.mem_of_getElem? (i := 1198) (by decide +kernel), List.mem_of_getElem? (i := 1793) (by decide +kernel), List.mem_of_getElem? (i := 1794) (by decide +kernel)⟩
theorem lw_p93 : lw_okq (⟨"PlayerMovesModel", "canAll", "(I)Z"⟩, 97) := ⟨⟨by decide +kernel, by decide +kernel⟩, List.mem_of_getElem? (i := 1198) (by decide +kernel), List.mem_of_getElem? (i := 1823) (by decide +kernel), List.mem_of_getElem? (i := 1824) (by decide +kernel)⟩
theorem lw_p94 : lw_okq (⟨"PlayerMovesModel", "ring", "(IIII)V"⟩, 97) := ⟨⟨by decide +kernel, by decide +kernel⟩, List.mem_of_getElem? (i := 1198) (by decide +kernel), List.mem_of_getElem? (i := 1835) (by decide +kernel), List.mem_of_getElem? (i := 1836) (by decide +kernel)⟩
theorem lw_p95 : lw_okq (⟨"PlayerMovesModel", "fits", "(IIII)Z"⟩, 97) := ⟨⟨by decide +kernel, by decide +kernel⟩, List.mem_of_getElem? (i := 1198) (by decide +kernel), List.mem_of_getElem? (i := 1852) (by decide +kernel), List.mem_of_getElem? (i := 1853) (by decide +kernel)⟩
def lw_privs_6 : List (MethodName × Nat) := [(⟨"PlayerMovesModel", "isMove", "(I)Z"⟩, 97), (⟨"PlayerMovesModel", "readLine", "()V"⟩, 97), (⟨"PlayerMovesModel", "either", "()V"⟩, 97), (⟨"PlayerMovesModel", "all", "()V"⟩, 97), (⟨"PlayerMovesModel", "base", "()V"⟩, 97), (⟨"PlayerMovesModel", "look", "()I"⟩, 97), (⟨"PlayerMovesModel", "opens", "()Z"⟩, 97), (⟨"PlayerMovesModel", "wrong", "()V"⟩, 97), (⟨"PlayerMovesModel", "lay", "(II)V"⟩, 97), (⟨"PlayerMovesModel", "closes", "(I)V"⟩, 97), (⟨"PlayerMovesModel", "sum", "()V"⟩, 97), (⟨"PlayerMovesModel", "product", "()V"⟩, 97), (⟨"PlayerMovesModel", "operand", "()V"⟩, 97), (⟨"PlayerMovesModel", "canAll", "(I)Z"⟩, 97), (⟨"PlayerMovesModel", "ring", "(IIII)V"⟩, 97), (⟨"PlayerMovesModel", "fits", "(IIII)Z"⟩, 97)]
theorem lw_r6 : ∀ q ∈ lw_privs_6, lw_okq q := List.forall_mem_cons.mpr ⟨lw_p80, List.forall_mem_cons.mpr ⟨lw_p81, List.forall_mem_cons.mpr ⟨lw_p82, List.forall_mem_cons.mpr ⟨lw_p83, List.forall_mem_cons.mpr ⟨lw_p84, List.forall_mem_cons.mpr ⟨lw_p85, List.forall_mem_cons.mpr ⟨lw_p86, List.forall_mem_cons.mpr ⟨lw_p87, List.forall_mem_cons.mpr ⟨lw_p88, List.forall_mem_cons.mpr ⟨lw_p89, List.forall_mem_cons.mpr ⟨lw_p90, List.forall_mem_cons.mpr ⟨lw_p91, List.forall_mem_cons.mpr ⟨lw_p92, List.forall_mem_cons.mpr ⟨lw_p93, List.forall_mem_cons.mpr ⟨lw_p94, List.forall_mem_cons.mpr ⟨lw_p95, fun _ h => absurd h List.not_mem_nil⟩⟩⟩⟩⟩⟩⟩⟩⟩⟩⟩⟩⟩⟩⟩⟩
theorem lw_p96 : lw_okq (⟨"PlayerMovesModel", "plays", "(II)I"⟩, 97) := ⟨⟨by decide +kernel, by decide +kernel⟩, List.mem_of_getElem? (i := 1198) (by decide +kernel), List.mem_of_getElem? (i := 1875) (by decide +kernel), List.mem_of_getElem? (i := 1876) (by decide +kernel)⟩
theorem lw_p97 : lw_okq (⟨"PlayerMovesModel", "ran", "(I)V"⟩, 97) := ⟨⟨by decide +kernel, by decide +kernel⟩, List.mem_of_getElem? (i := 1198) (by decide +kernel), List.mem_of_getElem? (i := 1879) (by decide +kernel), List.mem_of_getElem? (i := 1880) (by decide +kernel)⟩
theorem lw_p98 : lw_okq (⟨"PlayerMovesModel", "personPlays", "(II)I"⟩, 97) := ⟨⟨by decide +kernel, by decide +kernel⟩, List.mem_of_getElem? (i := 1198) (by decide +kernel), List.mem_of_getElem? (i := 1883) (by decide +kernel), List.mem_of_getElem? (i := 1884) (by decide +kernel)⟩
theorem lw_p99 : lw_okq (⟨"PlayerMovesModel", "plainPlays", "(II)I"⟩, 97) := ⟨⟨by decide +kernel, by decide +kernel⟩, List.mem_of_getElem? (i := 1198) (by decide +kernel), List.mem_of_getElem? (i := 1887) (by decide +kernel), List.mem_of_getElem? (i := 1888) (by decide +kernel)⟩
theorem lw_p100 : lw_okq (⟨"PlayerMovesModel", "pays", "(II)I"⟩, 97) := ⟨⟨by decide +kernel, by decide +kernel⟩, List.mem_of_getElem? (i := 1198) (by decide +kernel), List.mem_of_getElem? (i := 1891) (by decide +kernel), List.mem_of_getElem? (i := 1892) (by decide +kernel)⟩
theorem lw_p101 : lw_okq (⟨"PlayerMovesModel", "playerPays", "(II)I"⟩, 97) := ⟨⟨by decide +kernel, by decide +kernel⟩, List.mem_of_getElem? (i := 1198) (by decide +kernel), List.mem_of_getElem? (i := 1895) (by decide +kernel), List.mem_of_getElem? (i := 1896) (by decide +kernel)⟩
theorem lw_p102 : lw_okq (⟨"PlayerMovesModel", "plainPays", "(II)I"⟩, 97) := ⟨⟨by decide +kernel, by decide +kernel⟩, List.mem_of_getElem? (i := 1198) (by decide +kernel), List.mem_of_getElem? (i := 1899) (by decide +kernel), List.mem_of_getElem? (i := 1900) (by decide +kernel)⟩
theorem lw_p103 : lw_okq (⟨"PlayerMovesModel", "clubPays", "(II)I"⟩, 97) := ⟨⟨by decide +kernel, by decide +kernel⟩, List.mem_of_getElem? (i := 1198) (by decide +kernel), List.mem_of_getElem? (i := 1903) (by decide +kernel), List.mem_of_getElem? (i := 1904) (by decide +kernel)⟩
theorem lw_p104 : lw_okq (⟨"PlayerMovesModel", "clubSigns", "(II)I"⟩, 97) := ⟨⟨by decide +kernel, by decide +kernel⟩, List.mem_of_getElem? (i := 1198) (by decide +kernel), List.mem_of_getElem? (i := 1907) (by decide +kernel), List.mem_of_getElem? (i := 1908) (by decide +kernel)⟩
theorem lw_p105 : lw_okq (⟨"PlayerMovesModel", "plainSigns", "(II)I"⟩, 97) := ⟨⟨by decide +kernel, by decide +kernel⟩, List.mem_of_getElem? (i := 1198) (by decide +kernel), List.mem_of_getElem? (i := 1911) (by decide +kernel), List.mem_of_getElem? (i := 1912) (by decide +kernel)⟩
theorem lw_p106 : lw_okq (⟨"PlayerMovesModel", "signs", "(II)I"⟩, 97) := ⟨⟨by decide +kernel, by decide +kernel⟩, List.mem_of_getElem? (i := 1198) (by decide +kernel), List.mem_of_getElem? (i := 1915) (by decide +kernel), List.mem_of_getElem? (i := 1916) (by decide +kernel)⟩
theorem lw_p107 : lw_okq (⟨"PlayerMovesModel", "tells", "(II)I"⟩, 97) := ⟨⟨by decide +kernel, by decide +kernel⟩, List.mem_of_getElem? (i := 1198) (by decide +kernel), List.mem_of_getElem? (i := 1919) (by decide +kernel), List.mem_of_getElem? (i := 1920) (by decide +kernel)⟩
theorem lw_p108 : lw_okq (⟨"PlayerMovesModel", "plainTells", "(II)I"⟩, 97) := ⟨⟨by decide +kernel, by decide +kernel⟩, List.mem_of_getElem? (i := 1198) (by decide +kernel), List.mem_of_getElem? (i := 1923) (by decide +kernel), List.mem_of_getElem? (i := 1924) (by decide +kernel)⟩
theorem lw_p109 : lw_okq (⟨"PlayerMovesModel", "whyNoPlace", "(II)I"⟩, 97) := ⟨⟨by decide +kernel, by decide +kernel⟩, List.mem_of_getElem? (i := 1198) (by decide +kernel), List.mem_of_getElem? (i := 1943) (by decide +kernel), List.mem_of_getElem? (i := 1944) (by decide +kernel)⟩
def lw_privs_7 : List (MethodName × Nat) := [(⟨"PlayerMovesModel", "plays", "(II)I"⟩, 97), (⟨"PlayerMovesModel", "ran", "(I)V"⟩, 97), (⟨"PlayerMovesModel", "personPlays", "(II)I"⟩, 97), (⟨"PlayerMovesModel", "plainPlays", "(II)I"⟩, 97), (⟨"PlayerMovesModel", "pays", "(II)I"⟩, 97), (⟨"PlayerMovesModel", "playerPays", "(II)I"⟩, 97), (⟨"PlayerMovesModel", "plainPays", "(II)I"⟩, 97), (⟨"PlayerMovesModel", "clubPays", "(II)I"⟩, 97), (⟨"PlayerMovesModel", "clubSigns", "(II)I"⟩, 97), (⟨"PlayerMovesModel", "plainSigns", "(II)I"⟩, 97), (⟨"PlayerMovesModel", "signs", "(II)I"⟩, 97), (⟨"PlayerMovesModel", "tells", "(II)I"⟩, 97), (⟨"PlayerMovesModel", "plainTells", "(II)I"⟩, 97), (⟨"PlayerMovesModel", "whyNoPlace", "(II)I"⟩, 97)]
theorem lw_r7 : ∀ q ∈ lw_privs_7, lw_okq q := List.forall_mem_cons.mpr ⟨lw_p96, List.forall_mem_cons.mpr ⟨lw_p97, List.forall_mem_cons.mpr ⟨lw_p98, List.forall_mem_cons.mpr ⟨lw_p99, List.forall_mem_cons.mpr ⟨lw_p100, List.forall_mem_cons.mpr ⟨lw_p101, List.forall_mem_cons.mpr ⟨lw_p102, List.forall_mem_cons.mpr ⟨lw_p103, List.forall_mem_cons.mpr ⟨lw_p104, List.forall_mem_cons.mpr ⟨lw_p105, List.forall_mem_cons.mpr ⟨lw_p106, List.forall_mem_cons.mpr ⟨lw_p107, List.forall_mem_cons.mpr ⟨lw_p108, List.forall_mem_cons.mpr ⟨lw_p109, fun _ h => absurd h List.not_mem_nil⟩⟩⟩⟩⟩⟩⟩⟩⟩⟩⟩⟩⟩⟩
def lw_privs : List (MethodName × Nat) := lw_privs_1 ++ (lw_privs_2 ++ (lw_privs_3 ++ (lw_privs_4 ++ (lw_privs_5 ++ (lw_privs_6 ++ (lw_privs_7))))))
def lw_tbl : List Cond := k2_sels lw_privs ++ tables_1
theorem lw_privs_ok : ∀ q ∈ lw_privs, lw_okq q := by
  show ∀ q ∈ lw_privs_1 ++ (lw_privs_2 ++ (lw_privs_3 ++ (lw_privs_4 ++ (lw_privs_5 ++ (lw_privs_6 ++ (lw_privs_7)))))), lw_okq q
  exact List.forall_mem_append.mpr ⟨lw_r1, List.forall_mem_append.mpr ⟨lw_r2, List.forall_mem_append.mpr ⟨lw_r3, List.forall_mem_append.mpr ⟨lw_r4, List.forall_mem_append.mpr ⟨lw_r5, List.forall_mem_append.mpr ⟨lw_r6, lw_r7⟩⟩⟩⟩⟩⟩
-- ===== end of PART A; then your names; then what follows =====
def RX0 : String := "PlayerMoves$Acts"
def TX0 : u_T := fun k => match k with
  | 0 => ("PlayerMoves$Acts", "begun", "[I", true)
  | _ => ("PlayerMoves$Acts", "ran", "I", false)
def tyX0 : Nat → FieldType := fun k => match k with
  | 0 => .array .int
  | _ => .int
theorem nmX0 : ∀ a, a < 2 → ∀ b, b < 2 → a ≠ b → (TX0 a).2.1 ≠ (TX0 b).2.1 := by decide +kernel
theorem tyX0_ok : ∀ k, k < 2 → parseFieldDescriptor (TX0 k).2.2.1 = some (tyX0 k) := by decide +kernel
abbrev cX0_init : ByteArray := prog_2_method_1_code
def yX0_init : MethodName := ⟨RX0, "<init>", "()V"⟩
abbrev cX0_perform : ByteArray := prog_2_method_2_code
def yX0_perform : MethodName := ⟨RX0, "perform", "(LPlayerMoves$Body;IIII)I"⟩
abbrev cX0_run : ByteArray := prog_2_method_3_code
def yX0_run : MethodName := ⟨RX0, "run", "(LPlayerMoves$Body;IIII)I"⟩
def RX1 : String := "PlayerMoves$Body"
def TX1 : u_T := fun k => match k with
  | 0 => ("PlayerMoves$Body", "number", "I", true)
  | 1 => ("PlayerMoves$Body", "kind", "I", true)
  | 2 => ("PlayerMoves$Body", "league", "I", false)
  | 3 => ("PlayerMoves$Body", "coins", "I", false)
  | 4 => ("PlayerMoves$Body", "incomes", "[I", true)
  | 5 => ("PlayerMoves$Body", "born", "I", false)
  | 6 => ("PlayerMoves$Body", "worth", "I", false)
  | 7 => ("PlayerMoves$Body", "agent", "LPlayerMoves$Body;", false)
  | 8 => ("PlayerMoves$Body", "lacksPapers", "Z", false)
  | 9 => ("PlayerMoves$Body", "firstSpan", "LPlayerMoves$Span;", false)
  | 10 => ("PlayerMoves$Body", "lastSpan", "LPlayerMoves$Span;", false)
  | 11 => ("PlayerMoves$Body", "spanCount", "I", false)
  | _ => ("PlayerMoves$Body", "matches", "[I", false)
def tyX1 : Nat → FieldType := fun k => match k with
  | 0 => .int
  | 1 => .int
  | 2 => .int
  | 3 => .int
  | 4 => .array .int
  | 5 => .int
  | 6 => .int
  | 7 => .object "PlayerMoves$Body"
  | 8 => .boolean
  | 9 => .object "PlayerMoves$Span"
  | 10 => .object "PlayerMoves$Span"
  | 11 => .int
  | _ => .array .int
theorem nmX1 : ∀ a, a < 13 → ∀ b, b < 13 → a ≠ b → (TX1 a).2.1 ≠ (TX1 b).2.1 := by decide +kernel
theorem tyX1_ok : ∀ k, k < 13 → parseFieldDescriptor (TX1 k).2.2.1 = some (tyX1 k) := by decide +kernel
abbrev cX1_init : ByteArray := prog_3_method_1_code
def yX1_init : MethodName := ⟨RX1, "<init>", "(II)V"⟩
abbrev cX1_isClub : ByteArray := prog_3_method_2_code
def yX1_isClub : MethodName := ⟨RX1, "isClub", "()Z"⟩
abbrev cX1_isPlayer : ByteArray := prog_3_method_3_code
def yX1_isPlayer : MethodName := ⟨RX1, "isPlayer", "()Z"⟩
abbrev cX1_isUnder : ByteArray := prog_3_method_4_code
def yX1_isUnder : MethodName := ⟨RX1, "isUnder", "(I)Z"⟩
abbrev cX1_ageOn : ByteArray := prog_3_method_5_code
def yX1_ageOn : MethodName := ⟨RX1, "ageOn", "(I)I"⟩
abbrev cX1_append : ByteArray := prog_3_method_6_code
def yX1_append : MethodName := ⟨RX1, "append", "(LPlayerMoves$Span;)V"⟩
abbrev cX1_owning : ByteArray := prog_3_method_7_code
def yX1_owning : MethodName := ⟨RX1, "owning", "(I)LPlayerMoves$Span;"⟩
abbrev cX1_holding : ByteArray := prog_3_method_8_code
def yX1_holding : MethodName := ⟨RX1, "holding", "(I)LPlayerMoves$Span;"⟩
abbrev cX1_nextChange : ByteArray := prog_3_method_9_code
def yX1_nextChange : MethodName := ⟨RX1, "nextChange", "(I)I"⟩
def RX2 : String := "PlayerMoves$Buys"
def TX2 : u_T := fun k => match k with
  | 0 => ("PlayerMoves$Buys", "prices", "[I", true)
  | 1 => ("PlayerMoves$Buys", "worths", "[I", true)
  | 2 => ("PlayerMoves$Buys", "grown", "[I", true)
  | 3 => ("PlayerMoves$Buys", "places", "[I", true)
  | _ => ("PlayerMoves$Buys", "count", "I", false)
def tyX2 : Nat → FieldType := fun k => match k with
  | 0 => .array .int
  | 1 => .array .int
  | 2 => .array .int
  | 3 => .array .int
  | _ => .int
theorem nmX2 : ∀ a, a < 5 → ∀ b, b < 5 → a ≠ b → (TX2 a).2.1 ≠ (TX2 b).2.1 := by decide +kernel
theorem tyX2_ok : ∀ k, k < 5 → parseFieldDescriptor (TX2 k).2.2.1 = some (tyX2 k) := by decide +kernel
abbrev cX2_init : ByteArray := prog_4_method_1_code
def yX2_init : MethodName := ⟨RX2, "<init>", "()V"⟩
abbrev cX2_add : ByteArray := prog_4_method_2_code
def yX2_add : MethodName := ⟨RX2, "add", "(II)Z"⟩
abbrev cX2_takeBest : ByteArray := prog_4_method_3_code
def yX2_takeBest : MethodName := ⟨RX2, "takeBest", "(III)I"⟩
abbrev cX2_sumOf : ByteArray := prog_4_method_4_code
def yX2_sumOf : MethodName := ⟨RX2, "sumOf", "(I[I)I"⟩
abbrev cX2_fillsPlaces : ByteArray := prog_4_method_5_code
def yX2_fillsPlaces : MethodName := ⟨RX2, "fillsPlaces", "(II)Z"⟩
def RX3 : String := "PlayerMoves$Claims"
def TX3 : u_T := fun k => match k with
  | 0 => ("PlayerMoves$Claims", "ranks", "[I", true)
  | 1 => ("PlayerMoves$Claims", "coins", "[I", true)
  | 2 => ("PlayerMoves$Claims", "count", "I", false)
  | 3 => ("PlayerMoves$Claims", "paid", "[I", true)
  | 4 => ("PlayerMoves$Claims", "paidCount", "I", false)
  | _ => ("PlayerMoves$Claims", "weights", "[I", true)
def tyX3 : Nat → FieldType := fun k => match k with
  | 0 => .array .int
  | 1 => .array .int
  | 2 => .int
  | 3 => .array .int
  | 4 => .int
  | _ => .array .int
theorem nmX3 : ∀ a, a < 6 → ∀ b, b < 6 → a ≠ b → (TX3 a).2.1 ≠ (TX3 b).2.1 := by decide +kernel
theorem tyX3_ok : ∀ k, k < 6 → parseFieldDescriptor (TX3 k).2.2.1 = some (tyX3 k) := by decide +kernel
abbrev cX3_init : ByteArray := prog_5_method_1_code
def yX3_init : MethodName := ⟨RX3, "<init>", "()V"⟩
abbrev cX3_add : ByteArray := prog_5_method_2_code
def yX3_add : MethodName := ⟨RX3, "add", "(II)Z"⟩
abbrev cX3_pay : ByteArray := prog_5_method_3_code
def yX3_pay : MethodName := ⟨RX3, "pay", "(I)I"⟩
def RX4 : String := "PlayerMoves$Deals"
def TX4 : u_T := fun k => match k with
  | 0 => ("PlayerMoves$Deals", "players", "[LPlayerMoves$Body;", true)
  | 1 => ("PlayerMoves$Deals", "sellers", "[LPlayerMoves$Body;", true)
  | 2 => ("PlayerMoves$Deals", "buyers", "[LPlayerMoves$Body;", true)
  | 3 => ("PlayerMoves$Deals", "fees", "[I", true)
  | 4 => ("PlayerMoves$Deals", "others", "[I", true)
  | _ => ("PlayerMoves$Deals", "count", "I", false)
def tyX4 : Nat → FieldType := fun k => match k with
  | 0 => .array (.object "PlayerMoves$Body")
  | 1 => .array (.object "PlayerMoves$Body")
  | 2 => .array (.object "PlayerMoves$Body")
  | 3 => .array .int
  | 4 => .array .int
  | _ => .int
theorem nmX4 : ∀ a, a < 6 → ∀ b, b < 6 → a ≠ b → (TX4 a).2.1 ≠ (TX4 b).2.1 := by decide +kernel
theorem tyX4_ok : ∀ k, k < 6 → parseFieldDescriptor (TX4 k).2.2.1 = some (tyX4 k) := by decide +kernel
abbrev cX4_init : ByteArray := prog_6_method_1_code
def yX4_init : MethodName := ⟨RX4, "<init>", "()V"⟩
abbrev cX4_add : ByteArray := prog_6_method_2_code
def yX4_add : MethodName := ⟨RX4, "add", "(LPlayerMoves$Body;LPlayerMoves$Body;II)Z"⟩
abbrev cX4_takeGreatest : ByteArray := prog_6_method_3_code
def yX4_takeGreatest : MethodName := ⟨RX4, "takeGreatest", "(I)I"⟩
abbrev cX4_feesOf : ByteArray := prog_6_method_4_code
def yX4_feesOf : MethodName := ⟨RX4, "feesOf", "(I)I"⟩
abbrev cX4_canHappen : ByteArray := prog_6_method_5_code
def yX4_canHappen : MethodName := ⟨RX4, "canHappen", "(I)Z"⟩
abbrev cX4_fits : ByteArray := prog_6_method_6_code
def yX4_fits : MethodName := ⟨RX4, "fits", "(II)Z"⟩
def RX5 : String := "PlayerMoves$League"
def TX5 : u_T := fun k => match k with
  | 0 => ("PlayerMoves$League", "from", "[I", true)
  | 1 => ("PlayerMoves$League", "to", "[I", true)
  | 2 => ("PlayerMoves$League", "windows", "I", false)
  | _ => ("PlayerMoves$League", "papersBy", "I", false)
def tyX5 : Nat → FieldType := fun k => match k with
  | 0 => .array .int
  | 1 => .array .int
  | 2 => .int
  | _ => .int
theorem nmX5 : ∀ a, a < 4 → ∀ b, b < 4 → a ≠ b → (TX5 a).2.1 ≠ (TX5 b).2.1 := by decide +kernel
theorem tyX5_ok : ∀ k, k < 4 → parseFieldDescriptor (TX5 k).2.2.1 = some (tyX5 k) := by decide +kernel
abbrev cX5_init : ByteArray := prog_7_method_1_code
def yX5_init : MethodName := ⟨RX5, "<init>", "()V"⟩
abbrev cX5_addWindow : ByteArray := prog_7_method_2_code
def yX5_addWindow : MethodName := ⟨RX5, "addWindow", "(II)Z"⟩
abbrev cX5_isOpen : ByteArray := prog_7_method_3_code
def yX5_isOpen : MethodName := ⟨RX5, "isOpen", "(I)Z"⟩
def RX6 : String := "PlayerMoves$Move"
def TX6 : u_T := fun k => match k with
  | 0 => ("PlayerMoves$Move", "number", "I", true)
  | 1 => ("PlayerMoves$Move", "player", "LPlayerMoves$Body;", true)
  | 2 => ("PlayerMoves$Move", "seller", "LPlayerMoves$Body;", true)
  | 3 => ("PlayerMoves$Move", "buyer", "LPlayerMoves$Body;", true)
  | 4 => ("PlayerMoves$Move", "fee", "I", true)
  | 5 => ("PlayerMoves$Move", "isLoan", "Z", false)
  | 6 => ("PlayerMoves$Move", "option", "I", false)
  | 7 => ("PlayerMoves$Move", "span", "LPlayerMoves$Span;", false)
  | 8 => ("PlayerMoves$Move", "undone", "Z", false)
  | 9 => ("PlayerMoves$Move", "spread", "I", false)
  | 10 => ("PlayerMoves$Move", "keptHundredths", "I", false)
  | 11 => ("PlayerMoves$Move", "keptPaid", "I", false)
  | 12 => ("PlayerMoves$Move", "keptTo", "LPlayerMoves$Body;", false)
  | 13 => ("PlayerMoves$Move", "sharesPaid", "I", false)
  | 14 => ("PlayerMoves$Move", "shares", "[I", false)
  | 15 => ("PlayerMoves$Move", "agentPaid", "I", false)
  | 16 => ("PlayerMoves$Move", "bonus", "I", false)
  | 17 => ("PlayerMoves$Move", "matchesNeeded", "I", false)
  | 18 => ("PlayerMoves$Move", "matchesTold", "I", false)
  | _ => ("PlayerMoves$Move", "bonusPaid", "I", false)
def tyX6 : Nat → FieldType := fun k => match k with
  | 0 => .int
  | 1 => .object "PlayerMoves$Body"
  | 2 => .object "PlayerMoves$Body"
  | 3 => .object "PlayerMoves$Body"
  | 4 => .int
  | 5 => .boolean
  | 6 => .int
  | 7 => .object "PlayerMoves$Span"
  | 8 => .boolean
  | 9 => .int
  | 10 => .int
  | 11 => .int
  | 12 => .object "PlayerMoves$Body"
  | 13 => .int
  | 14 => .array .int
  | 15 => .int
  | 16 => .int
  | 17 => .int
  | 18 => .int
  | _ => .int
theorem nmX6 : ∀ a, a < 20 → ∀ b, b < 20 → a ≠ b → (TX6 a).2.1 ≠ (TX6 b).2.1 := by decide +kernel
theorem tyX6_ok : ∀ k, k < 20 → parseFieldDescriptor (TX6 k).2.2.1 = some (tyX6 k) := by decide +kernel
abbrev cX6_init : ByteArray := prog_8_method_1_code
def yX6_init : MethodName := ⟨RX6, "<init>", "(ILPlayerMoves$Body;LPlayerMoves$Body;LPlayerMoves$Body;I)V"⟩
abbrev cX6_shareOf : ByteArray := prog_8_method_2_code
def yX6_shareOf : MethodName := ⟨RX6, "shareOf", "(I)I"⟩
abbrev cX6_countMatches : ByteArray := prog_8_method_3_code
def yX6_countMatches : MethodName := ⟨RX6, "countMatches", "(I)V"⟩
abbrev cX6_spreadTo : ByteArray := prog_8_method_4_code
def yX6_spreadTo : MethodName := ⟨RX6, "spreadTo", "(I)I"⟩
def RX7 : String := "PlayerMoves$Reader"
def TX7 : u_T := fun k => match k with
  | 0 => ("PlayerMoves$Reader", "tape", "[B", true)
  | 1 => ("PlayerMoves$Reader", "tapeLength", "I", false)
  | 2 => ("PlayerMoves$Reader", "values", "[I", true)
  | 3 => ("PlayerMoves$Reader", "names", "I", false)
  | 4 => ("PlayerMoves$Reader", "text", "[B", false)
  | 5 => ("PlayerMoves$Reader", "length", "I", false)
  | 6 => ("PlayerMoves$Reader", "at", "I", false)
  | _ => ("PlayerMoves$Reader", "fault", "I", false)
def tyX7 : Nat → FieldType := fun k => match k with
  | 0 => .array .byte
  | 1 => .int
  | 2 => .array .int
  | 3 => .int
  | 4 => .array .byte
  | 5 => .int
  | 6 => .int
  | _ => .int
theorem nmX7 : ∀ a, a < 8 → ∀ b, b < 8 → a ≠ b → (TX7 a).2.1 ≠ (TX7 b).2.1 := by decide +kernel
theorem tyX7_ok : ∀ k, k < 8 → parseFieldDescriptor (TX7 k).2.2.1 = some (tyX7 k) := by decide +kernel
abbrev cX7_init : ByteArray := prog_9_method_1_code
def yX7_init : MethodName := ⟨RX7, "<init>", "()V"⟩
abbrev cX7_take : ByteArray := prog_9_method_2_code
def yX7_take : MethodName := ⟨RX7, "take", "(II)Z"⟩
abbrev cX7_tapeText : ByteArray := prog_9_method_3_code
def yX7_tapeText : MethodName := ⟨RX7, "tapeText", "()[B"⟩
abbrev cX7_faultOfTape : ByteArray := prog_9_method_4_code
def yX7_faultOfTape : MethodName := ⟨RX7, "faultOfTape", "()I"⟩
abbrev cX7_brokenLineOf : ByteArray := prog_9_method_5_code
def yX7_brokenLineOf : MethodName := ⟨RX7, "brokenLineOf", "([B)I"⟩
abbrev cX7_begin : ByteArray := prog_9_method_6_code
def yX7_begin : MethodName := ⟨RX7, "begin", "([BI)V"⟩
abbrev cX7_peek : ByteArray := prog_9_method_7_code
def yX7_peek : MethodName := ⟨RX7, "peek", "()I"⟩
abbrev cX7_fail : ByteArray := prog_9_method_8_code
def yX7_fail : MethodName := ⟨RX7, "fail", "()I"⟩
abbrev cX7_pass : ByteArray := prog_9_method_9_code
def yX7_pass : MethodName := ⟨RX7, "pass", "(I)V"⟩
abbrev cX7_anyOf : ByteArray := prog_9_method_10_code
def yX7_anyOf : MethodName := ⟨RX7, "anyOf", "(I)Z"⟩
abbrev cX7_allOf : ByteArray := prog_9_method_11_code
def yX7_allOf : MethodName := ⟨RX7, "allOf", "(I)Z"⟩
abbrev cX7_base : ByteArray := prog_9_method_12_code
def yX7_base : MethodName := ⟨RX7, "base", "(I)Z"⟩
abbrev cX7_sum : ByteArray := prog_9_method_13_code
def yX7_sum : MethodName := ⟨RX7, "sum", "(I)I"⟩
abbrev cX7_product : ByteArray := prog_9_method_14_code
def yX7_product : MethodName := ⟨RX7, "product", "(I)I"⟩
abbrev cX7_operand : ByteArray := prog_9_method_15_code
def yX7_operand : MethodName := ⟨RX7, "operand", "(I)I"⟩
abbrev cX7_number : ByteArray := prog_9_method_16_code
def yX7_number : MethodName := ⟨RX7, "number", "()I"⟩
def RX8 : String := "PlayerMoves$Rings"
def TX8 : u_T := fun k => match k with
  | 0 => ("PlayerMoves$Rings", "wants", "[I", true)
  | 1 => ("PlayerMoves$Rings", "count", "I", false)
  | 2 => ("PlayerMoves$Rings", "gotten", "[I", true)
  | 3 => ("PlayerMoves$Rings", "swapped", "I", false)
  | _ => ("PlayerMoves$Rings", "most", "[I", true)
def tyX8 : Nat → FieldType := fun k => match k with
  | 0 => .array .int
  | 1 => .int
  | 2 => .array .int
  | 3 => .int
  | _ => .array .int
theorem nmX8 : ∀ a, a < 5 → ∀ b, b < 5 → a ≠ b → (TX8 a).2.1 ≠ (TX8 b).2.1 := by decide +kernel
theorem tyX8_ok : ∀ k, k < 5 → parseFieldDescriptor (TX8 k).2.2.1 = some (tyX8 k) := by decide +kernel
abbrev cX8_init : ByteArray := prog_10_method_1_code
def yX8_init : MethodName := ⟨RX8, "<init>", "()V"⟩
abbrev cX8_add : ByteArray := prog_10_method_2_code
def yX8_add : MethodName := ⟨RX8, "add", "(I)Z"⟩
abbrev cX8_takeMost : ByteArray := prog_10_method_3_code
def yX8_takeMost : MethodName := ⟨RX8, "takeMost", "()I"⟩
abbrev cX8_mostWith : ByteArray := prog_10_method_4_code
def yX8_mostWith : MethodName := ⟨RX8, "mostWith", "(III)I"⟩
abbrev cX8_firstOf : ByteArray := prog_10_method_5_code
def yX8_firstOf : MethodName := ⟨RX8, "firstOf", "(II)I"⟩
def RX9 : String := "PlayerMoves$Rule"
def TX9 : u_T := fun k => match k with
  | 0 => ("PlayerMoves$Rule", "what", "I", true)
  | 1 => ("PlayerMoves$Rule", "made", "I", true)
  | 2 => ("PlayerMoves$Rule", "from", "I", true)
  | 3 => ("PlayerMoves$Rule", "text", "[B", true)
  | _ => ("PlayerMoves$Rule", "names", "I", true)
def tyX9 : Nat → FieldType := fun k => match k with
  | 0 => .int
  | 1 => .int
  | 2 => .int
  | 3 => .array .byte
  | _ => .int
theorem nmX9 : ∀ a, a < 5 → ∀ b, b < 5 → a ≠ b → (TX9 a).2.1 ≠ (TX9 b).2.1 := by decide +kernel
theorem tyX9_ok : ∀ k, k < 5 → parseFieldDescriptor (TX9 k).2.2.1 = some (tyX9 k) := by decide +kernel
abbrev cX9_init : ByteArray := prog_11_method_1_code
def yX9_init : MethodName := ⟨RX9, "<init>", "(III[BI)V"⟩
abbrev cX9_use : ByteArray := prog_11_method_2_code
def yX9_use : MethodName := ⟨RX9, "use", "()I"⟩
def RX10 : String := "PlayerMoves$Shelf"
def TX10 : u_T := fun k => match k with
  | 0 => ("PlayerMoves$Shelf", "state", "I", false)
  | 1 => ("PlayerMoves$Shelf", "held", "LPlayerMoves$Body;", false)
  | 2 => ("PlayerMoves$Shelf", "sort", "I", false)
  | 3 => ("PlayerMoves$Shelf", "length", "I", false)
  | _ => ("PlayerMoves$Shelf", "elements", "[J", true)
def tyX10 : Nat → FieldType := fun k => match k with
  | 0 => .int
  | 1 => .object "PlayerMoves$Body"
  | 2 => .int
  | 3 => .int
  | _ => .array .long
theorem nmX10 : ∀ a, a < 5 → ∀ b, b < 5 → a ≠ b → (TX10 a).2.1 ≠ (TX10 b).2.1 := by decide +kernel
theorem tyX10_ok : ∀ k, k < 5 → parseFieldDescriptor (TX10 k).2.2.1 = some (tyX10 k) := by decide +kernel
abbrev cX10_init : ByteArray := prog_12_method_1_code
def yX10_init : MethodName := ⟨RX10, "<init>", "()V"⟩
abbrev cX10_hold : ByteArray := prog_12_method_2_code
def yX10_hold : MethodName := ⟨RX10, "hold", "(LPlayerMoves$Body;)V"⟩
abbrev cX10_holdRow : ByteArray := prog_12_method_3_code
def yX10_holdRow : MethodName := ⟨RX10, "holdRow", "(II)V"⟩
abbrev cX10_isRowOf : ByteArray := prog_12_method_4_code
def yX10_isRowOf : MethodName := ⟨RX10, "isRowOf", "(I)Z"⟩
abbrev cX10_has : ByteArray := prog_12_method_5_code
def yX10_has : MethodName := ⟨RX10, "has", "(II)Z"⟩
abbrev cX10_fitted : ByteArray := prog_12_method_6_code
def yX10_fitted : MethodName := ⟨RX10, "fitted", "(J)J"⟩
def RX11 : String := "PlayerMoves$Span"
def TX11 : u_T := fun k => match k with
  | 0 => ("PlayerMoves$Span", "number", "I", true)
  | 1 => ("PlayerMoves$Span", "club", "LPlayerMoves$Body;", true)
  | 2 => ("PlayerMoves$Span", "sort", "I", true)
  | 3 => ("PlayerMoves$Span", "from", "I", true)
  | 4 => ("PlayerMoves$Span", "to", "I", true)
  | 5 => ("PlayerMoves$Span", "wage", "I", false)
  | 6 => ("PlayerMoves$Span", "undoneOn", "I", false)
  | 7 => ("PlayerMoves$Span", "move", "LPlayerMoves$Move;", false)
  | _ => ("PlayerMoves$Span", "next", "LPlayerMoves$Span;", false)
def tyX11 : Nat → FieldType := fun k => match k with
  | 0 => .int
  | 1 => .object "PlayerMoves$Body"
  | 2 => .int
  | 3 => .int
  | 4 => .int
  | 5 => .int
  | 6 => .int
  | 7 => .object "PlayerMoves$Move"
  | _ => .object "PlayerMoves$Span"
theorem nmX11 : ∀ a, a < 9 → ∀ b, b < 9 → a ≠ b → (TX11 a).2.1 ≠ (TX11 b).2.1 := by decide +kernel
theorem tyX11_ok : ∀ k, k < 9 → parseFieldDescriptor (TX11 k).2.2.1 = some (tyX11 k) := by decide +kernel
abbrev cX11_init : ByteArray := prog_13_method_1_code
def yX11_init : MethodName := ⟨RX11, "<init>", "(ILPlayerMoves$Body;III)V"⟩
def RX12 : String := "PlayerMoves"
def TX12 : u_T := fun k => match k with
  | 0 => ("PlayerMoves", "today", "I", false)
  | 1 => ("PlayerMoves", "minuteNow", "I", false)
  | 2 => ("PlayerMoves", "leagues", "[LPlayerMoves$League;", true)
  | 3 => ("PlayerMoves", "bodies", "[LPlayerMoves$Body;", true)
  | 4 => ("PlayerMoves", "bodyCount", "I", false)
  | 5 => ("PlayerMoves", "spanCount", "I", false)
  | 6 => ("PlayerMoves", "moves", "[LPlayerMoves$Move;", true)
  | 7 => ("PlayerMoves", "moveCount", "I", false)
  | 8 => ("PlayerMoves", "terms", "[I", true)
  | 9 => ("PlayerMoves", "taughtBy", "[I", true)
  | 10 => ("PlayerMoves", "taughtIn", "[I", true)
  | 11 => ("PlayerMoves", "rules", "[LPlayerMoves$Rule;", true)
  | 12 => ("PlayerMoves", "ruleCount", "I", false)
  | 13 => ("PlayerMoves", "reader", "LPlayerMoves$Reader;", true)
  | 14 => ("PlayerMoves", "dealing", "LPlayerMoves$Deals;", true)
  | 15 => ("PlayerMoves", "swapping", "LPlayerMoves$Rings;", true)
  | 16 => ("PlayerMoves", "buying", "LPlayerMoves$Buys;", true)
  | 17 => ("PlayerMoves", "failing", "LPlayerMoves$Claims;", true)
  | 18 => ("PlayerMoves", "acting", "LPlayerMoves$Acts;", true)
  | _ => ("PlayerMoves", "shelves", "[LPlayerMoves$Shelf;", true)
def tyX12 : Nat → FieldType := fun k => match k with
  | 0 => .int
  | 1 => .int
  | 2 => .array (.object "PlayerMoves$League")
  | 3 => .array (.object "PlayerMoves$Body")
  | 4 => .int
  | 5 => .int
  | 6 => .array (.object "PlayerMoves$Move")
  | 7 => .int
  | 8 => .array .int
  | 9 => .array .int
  | 10 => .array .int
  | 11 => .array (.object "PlayerMoves$Rule")
  | 12 => .int
  | 13 => .object "PlayerMoves$Reader"
  | 14 => .object "PlayerMoves$Deals"
  | 15 => .object "PlayerMoves$Rings"
  | 16 => .object "PlayerMoves$Buys"
  | 17 => .object "PlayerMoves$Claims"
  | 18 => .object "PlayerMoves$Acts"
  | _ => .array (.object "PlayerMoves$Shelf")
theorem nmX12 : ∀ a, a < 20 → ∀ b, b < 20 → a ≠ b → (TX12 a).2.1 ≠ (TX12 b).2.1 := by decide +kernel
theorem tyX12_ok : ∀ k, k < 20 → parseFieldDescriptor (TX12 k).2.2.1 = some (tyX12 k) := by decide +kernel
abbrev cX12_init : ByteArray := prog_1_method_1_code
def yX12_init : MethodName := ⟨RX12, "<init>", "()V"⟩
abbrev cX12_days : ByteArray := prog_1_method_2_code
def yX12_days : MethodName := ⟨RX12, "days", "(I)I"⟩
abbrev cX12_minute : ByteArray := prog_1_method_3_code
def yX12_minute : MethodName := ⟨RX12, "minute", "(I)I"⟩
abbrev cX12_window : ByteArray := prog_1_method_4_code
def yX12_window : MethodName := ⟨RX12, "window", "(III)I"⟩
abbrev cX12_open : ByteArray := prog_1_method_5_code
def yX12_open : MethodName := ⟨RX12, "open", "(II)I"⟩
abbrev cX12_papers : ByteArray := prog_1_method_6_code
def yX12_papers : MethodName := ⟨RX12, "papers", "(II)I"⟩
abbrev cX12_body : ByteArray := prog_1_method_7_code
def yX12_body : MethodName := ⟨RX12, "body", "(I)I"⟩
abbrev cX12_club : ByteArray := prog_1_method_8_code
def yX12_club : MethodName := ⟨RX12, "club", "(III)I"⟩
abbrev cX12_player : ByteArray := prog_1_method_9_code
def yX12_player : MethodName := ⟨RX12, "player", "(IIII)I"⟩
abbrev cX12_income : ByteArray := prog_1_method_10_code
def yX12_income : MethodName := ⟨RX12, "income", "(III)I"⟩
abbrev cX12_ofBody : ByteArray := prog_1_method_11_code
def yX12_ofBody : MethodName := ⟨RX12, "ofBody", "(II)I"⟩
abbrev cX12_past : ByteArray := prog_1_method_12_code
def yX12_past : MethodName := ⟨RX12, "past", "(IIII)I"⟩
abbrev cX12_spans : ByteArray := prog_1_method_13_code
def yX12_spans : MethodName := ⟨RX12, "spans", "(IIII)I"⟩
abbrev cX12_sign : ByteArray := prog_1_method_14_code
def yX12_sign : MethodName := ⟨RX12, "sign", "(IIII)I"⟩
abbrev cX12_at : ByteArray := prog_1_method_15_code
def yX12_at : MethodName := ⟨RX12, "at", "(III)I"⟩
abbrev cX12_taught : ByteArray := prog_1_method_16_code
def yX12_taught : MethodName := ⟨RX12, "taught", "(II)I"⟩
abbrev cX12_term : ByteArray := prog_1_method_17_code
def yX12_term : MethodName := ⟨RX12, "term", "(II)I"⟩
abbrev cX12_why : ByteArray := prog_1_method_18_code
def yX12_why : MethodName := ⟨RX12, "why", "(III)I"⟩
abbrev cX12_sell : ByteArray := prog_1_method_19_code
def yX12_sell : MethodName := ⟨RX12, "sell", "(II)I"⟩
abbrev cX12_lend : ByteArray := prog_1_method_20_code
def yX12_lend : MethodName := ⟨RX12, "lend", "(II)I"⟩
abbrev cX12_option : ByteArray := prog_1_method_21_code
def yX12_option : MethodName := ⟨RX12, "option", "(I)I"⟩
abbrev cX12_ofMove : ByteArray := prog_1_method_22_code
def yX12_ofMove : MethodName := ⟨RX12, "ofMove", "(II)I"⟩
abbrev cX12_share : ByteArray := prog_1_method_23_code
def yX12_share : MethodName := ⟨RX12, "share", "(II)I"⟩
abbrev cX12_play : ByteArray := prog_1_method_24_code
def yX12_play : MethodName := ⟨RX12, "play", "(II)I"⟩
abbrev cX12_undo : ByteArray := prog_1_method_25_code
def yX12_undo : MethodName := ⟨RX12, "undo", "(I)I"⟩
abbrev cX12_squad : ByteArray := prog_1_method_26_code
def yX12_squad : MethodName := ⟨RX12, "squad", "(II)I"⟩
abbrev cX12_feed : ByteArray := prog_1_method_27_code
def yX12_feed : MethodName := ⟨RX12, "feed", "(II)I"⟩
abbrev cX12_rule : ByteArray := prog_1_method_28_code
def yX12_rule : MethodName := ⟨RX12, "rule", "(II)I"⟩
abbrev cX12_inForce : ByteArray := prog_1_method_29_code
def yX12_inForce : MethodName := ⟨RX12, "inForce", "(III)I"⟩
abbrev cX12_holds : ByteArray := prog_1_method_30_code
def yX12_holds : MethodName := ⟨RX12, "holds", "(III)I"⟩
abbrev cX12_tryCap : ByteArray := prog_1_method_31_code
def yX12_tryCap : MethodName := ⟨RX12, "tryCap", "(II)I"⟩
abbrev cX12_deal : ByteArray := prog_1_method_32_code
def yX12_deal : MethodName := ⟨RX12, "deal", "(IIII)I"⟩
abbrev cX12_chain : ByteArray := prog_1_method_33_code
def yX12_chain : MethodName := ⟨RX12, "chain", "()I"⟩
abbrev cX12_wish : ByteArray := prog_1_method_34_code
def yX12_wish : MethodName := ⟨RX12, "wish", "(I)I"⟩
abbrev cX12_rings : ByteArray := prog_1_method_35_code
def yX12_rings : MethodName := ⟨RX12, "rings", "()I"⟩
abbrev cX12_gets : ByteArray := prog_1_method_36_code
def yX12_gets : MethodName := ⟨RX12, "gets", "(I)I"⟩
abbrev cX12_candidate : ByteArray := prog_1_method_37_code
def yX12_candidate : MethodName := ⟨RX12, "candidate", "(II)I"⟩
abbrev cX12_buys : ByteArray := prog_1_method_38_code
def yX12_buys : MethodName := ⟨RX12, "buys", "(III)I"⟩
abbrev cX12_claim : ByteArray := prog_1_method_39_code
def yX12_claim : MethodName := ⟨RX12, "claim", "(II)I"⟩
abbrev cX12_part : ByteArray := prog_1_method_40_code
def yX12_part : MethodName := ⟨RX12, "part", "(I)I"⟩
abbrev cX12_got : ByteArray := prog_1_method_41_code
def yX12_got : MethodName := ⟨RX12, "got", "(I)I"⟩
abbrev cX12_act : ByteArray := prog_1_method_42_code
def yX12_act : MethodName := ⟨RX12, "act", "(III)I"⟩
abbrev cX12_trace : ByteArray := prog_1_method_43_code
def yX12_trace : MethodName := ⟨RX12, "trace", "(I)I"⟩
abbrev cX12_keep : ByteArray := prog_1_method_44_code
def yX12_keep : MethodName := ⟨RX12, "keep", "(II)I"⟩
abbrev cX12_row : ByteArray := prog_1_method_45_code
def yX12_row : MethodName := ⟨RX12, "row", "(III)I"⟩
abbrev cX12_put : ByteArray := prog_1_method_46_code
def yX12_put : MethodName := ⟨RX12, "put", "(IIJ)I"⟩
abbrev cX12_element : ByteArray := prog_1_method_47_code
def yX12_element : MethodName := ⟨RX12, "element", "(II)J"⟩
abbrev cX12_shift : ByteArray := prog_1_method_48_code
def yX12_shift : MethodName := ⟨RX12, "shift", "(IIIII)I"⟩
abbrev cX12_taken : ByteArray := prog_1_method_49_code
def yX12_taken : MethodName := ⟨RX12, "taken", "(II)I"⟩
abbrev cX12_count : ByteArray := prog_1_method_50_code
def yX12_count : MethodName := ⟨RX12, "count", "(I)I"⟩
abbrev cX12_within : ByteArray := prog_1_method_51_code
def yX12_within : MethodName := ⟨RX12, "within", "(III)Z"⟩
abbrev cX12_bit : ByteArray := prog_1_method_52_code
def yX12_bit : MethodName := ⟨RX12, "bit", "(Z)I"⟩
abbrev cX12_leagueAt : ByteArray := prog_1_method_53_code
def yX12_leagueAt : MethodName := ⟨RX12, "leagueAt", "(I)LPlayerMoves$League;"⟩
abbrev cX12_bodyAt : ByteArray := prog_1_method_54_code
def yX12_bodyAt : MethodName := ⟨RX12, "bodyAt", "(I)LPlayerMoves$Body;"⟩
abbrev cX12_clubAt : ByteArray := prog_1_method_55_code
def yX12_clubAt : MethodName := ⟨RX12, "clubAt", "(I)LPlayerMoves$Body;"⟩
abbrev cX12_playerAt : ByteArray := prog_1_method_56_code
def yX12_playerAt : MethodName := ⟨RX12, "playerAt", "(I)LPlayerMoves$Body;"⟩
abbrev cX12_moveAt : ByteArray := prog_1_method_57_code
def yX12_moveAt : MethodName := ⟨RX12, "moveAt", "(I)LPlayerMoves$Move;"⟩
abbrev cX12_shelfAt : ByteArray := prog_1_method_58_code
def yX12_shelfAt : MethodName := ⟨RX12, "shelfAt", "(I)LPlayerMoves$Shelf;"⟩
abbrev cX12_elementRefusal : ByteArray := prog_1_method_59_code
def yX12_elementRefusal : MethodName := ⟨RX12, "elementRefusal", "(II)I"⟩
abbrev cX12_ofPlayer : ByteArray := prog_1_method_60_code
def yX12_ofPlayer : MethodName := ⟨RX12, "ofPlayer", "(LPlayerMoves$Body;I)I"⟩
abbrev cX12_countClubs : ByteArray := prog_1_method_61_code
def yX12_countClubs : MethodName := ⟨RX12, "countClubs", "()I"⟩
abbrev cX12_countPlayers : ByteArray := prog_1_method_62_code
def yX12_countPlayers : MethodName := ⟨RX12, "countPlayers", "(Z)I"⟩
abbrev cX12_countStandingMoves : ByteArray := prog_1_method_63_code
def yX12_countStandingMoves : MethodName := ⟨RX12, "countStandingMoves", "()I"⟩
abbrev cX12_addBody : ByteArray := prog_1_method_64_code
def yX12_addBody : MethodName := ⟨RX12, "addBody", "(I)LPlayerMoves$Body;"⟩
abbrev cX12_addSpan : ByteArray := prog_1_method_65_code
def yX12_addSpan : MethodName := ⟨RX12, "addSpan", "(LPlayerMoves$Body;LPlayerMoves$Body;III)LPlayerMoves$Span;"⟩
abbrev cX12_arePastDays : ByteArray := prog_1_method_66_code
def yX12_arePastDays : MethodName := ⟨RX12, "arePastDays", "(II)Z"⟩
abbrev cX12_addSpanFrom : ByteArray := prog_1_method_67_code
def yX12_addSpanFrom : MethodName := ⟨RX12, "addSpanFrom", "(LPlayerMoves$Body;LPlayerMoves$Shelf;II)Z"⟩
abbrev cX12_countTeaching : ByteArray := prog_1_method_68_code
def yX12_countTeaching : MethodName := ⟨RX12, "countTeaching", "(LPlayerMoves$Body;)V"⟩
abbrev cX12_refusal : ByteArray := prog_1_method_69_code
def yX12_refusal : MethodName := ⟨RX12, "refusal", "(I)I"⟩
abbrev cX12_movesOrSpansAreFull : ByteArray := prog_1_method_70_code
def yX12_movesOrSpansAreFull : MethodName := ⟨RX12, "movesOrSpansAreFull", "()Z"⟩
abbrev cX12_whyNot : ByteArray := prog_1_method_71_code
def yX12_whyNot : MethodName := ⟨RX12, "whyNot", "(LPlayerMoves$Body;LPlayerMoves$Body;II)I"⟩
abbrev cX12_isLentElsewhere : ByteArray := prog_1_method_72_code
def yX12_isLentElsewhere : MethodName := ⟨RX12, "isLentElsewhere", "(LPlayerMoves$Body;LPlayerMoves$Body;I)Z"⟩
abbrev cX12_makeSale : ByteArray := prog_1_method_73_code
def yX12_makeSale : MethodName := ⟨RX12, "makeSale", "(LPlayerMoves$Body;LPlayerMoves$Body;II)I"⟩
abbrev cX12_makeLoan : ByteArray := prog_1_method_74_code
def yX12_makeLoan : MethodName := ⟨RX12, "makeLoan", "(LPlayerMoves$Body;LPlayerMoves$Body;)I"⟩
abbrev cX12_enter : ByteArray := prog_1_method_75_code
def yX12_enter : MethodName := ⟨RX12, "enter", "(LPlayerMoves$Move;)I"⟩
abbrev cX12_hundredths : ByteArray := prog_1_method_76_code
def yX12_hundredths : MethodName := ⟨RX12, "hundredths", "(II)I"⟩
abbrev cX12_payKept : ByteArray := prog_1_method_77_code
def yX12_payKept : MethodName := ⟨RX12, "payKept", "(LPlayerMoves$Move;LPlayerMoves$Move;)V"⟩
abbrev cX12_payShares : ByteArray := prog_1_method_78_code
def yX12_payShares : MethodName := ⟨RX12, "payShares", "(LPlayerMoves$Move;)V"⟩
abbrev cX12_addParts : ByteArray := prog_1_method_79_code
def yX12_addParts : MethodName := ⟨RX12, "addParts", "(I[II[I)V"⟩
abbrev cX12_payBack : ByteArray := prog_1_method_80_code
def yX12_payBack : MethodName := ⟨RX12, "payBack", "(LPlayerMoves$Move;)V"⟩
abbrev cX12_isLeagueAndUse : ByteArray := prog_1_method_81_code
def yX12_isLeagueAndUse : MethodName := ⟨RX12, "isLeagueAndUse", "(I)Z"⟩
abbrev cX12_ruleInForce : ByteArray := prog_1_method_82_code
def yX12_ruleInForce : MethodName := ⟨RX12, "ruleInForce", "(III)I"⟩
abbrev cX12_ruleToday : ByteArray := prog_1_method_83_code
def yX12_ruleToday : MethodName := ⟨RX12, "ruleToday", "(ILPlayerMoves$Body;)LPlayerMoves$Rule;"⟩
abbrev cX12_brokenLine : ByteArray := prog_1_method_84_code
def yX12_brokenLine : MethodName := ⟨RX12, "brokenLine", "(LPlayerMoves$Rule;LPlayerMoves$Body;LPlayerMoves$Body;LPlayerMoves$Body;)I"⟩
abbrev cX12_figure : ByteArray := prog_1_method_85_code
def yX12_figure : MethodName := ⟨RX12, "figure", "(ILPlayerMoves$Body;LPlayerMoves$Body;LPlayerMoves$Body;)I"⟩
abbrev cX12_year : ByteArray := prog_1_method_86_code
def yX12_year : MethodName := ⟨RX12, "year", "()I"⟩
abbrev cX12_countHeld : ByteArray := prog_1_method_87_code
def yX12_countHeld : MethodName := ⟨RX12, "countHeld", "(LPlayerMoves$Body;LPlayerMoves$Body;I)I"⟩
abbrev cX12_wages : ByteArray := prog_1_method_88_code
def yX12_wages : MethodName := ⟨RX12, "wages", "(LPlayerMoves$Body;)I"⟩
abbrev cX12_spreadTo : ByteArray := prog_1_method_89_code
def yX12_spreadTo : MethodName := ⟨RX12, "spreadTo", "(LPlayerMoves$Body;I)I"⟩
abbrev cX12_threeYearsCaps : ByteArray := prog_1_method_90_code
def yX12_threeYearsCaps : MethodName := ⟨RX12, "threeYearsCaps", "(LPlayerMoves$Body;)I"⟩
abbrev cX12_threeYearsIncome : ByteArray := prog_1_method_91_code
def yX12_threeYearsIncome : MethodName := ⟨RX12, "threeYearsIncome", "(LPlayerMoves$Body;)I"⟩
def RX13 : String := "PlayerMovesModel"
def TX13 : u_T := fun k => match k with
  | 0 => ("PlayerMovesModel", "code", "I", false)
  | 1 => ("PlayerMovesModel", "today", "I", false)
  | 2 => ("PlayerMovesModel", "minuteNow", "I", false)
  | 3 => ("PlayerMovesModel", "windows", "[I", true)
  | 4 => ("PlayerMovesModel", "windowFrom", "[I", true)
  | 5 => ("PlayerMovesModel", "windowTo", "[I", true)
  | 6 => ("PlayerMovesModel", "paperMinute", "[I", true)
  | 7 => ("PlayerMovesModel", "bodies", "I", false)
  | 8 => ("PlayerMovesModel", "kind", "[I", true)
  | 9 => ("PlayerMovesModel", "leagueOf", "[I", true)
  | 10 => ("PlayerMovesModel", "coins", "[I", true)
  | 11 => ("PlayerMovesModel", "incomes", "[I", true)
  | 12 => ("PlayerMovesModel", "born", "[I", true)
  | 13 => ("PlayerMovesModel", "worth", "[I", true)
  | 14 => ("PlayerMovesModel", "agentOf", "[I", true)
  | 15 => ("PlayerMovesModel", "lacks", "[Z", true)
  | 16 => ("PlayerMovesModel", "spans", "I", false)
  | 17 => ("PlayerMovesModel", "spanPlayer", "[I", true)
  | 18 => ("PlayerMovesModel", "spanClub", "[I", true)
  | 19 => ("PlayerMovesModel", "spanFrom", "[I", true)
  | 20 => ("PlayerMovesModel", "till", "[I", true)
  | 21 => ("PlayerMovesModel", "spanSort", "[I", true)
  | 22 => ("PlayerMovesModel", "noneFrom", "[I", true)
  | 23 => ("PlayerMovesModel", "wage", "[I", true)
  | 24 => ("PlayerMovesModel", "moveOf", "[I", true)
  | 25 => ("PlayerMovesModel", "taughtDays", "[I", true)
  | 26 => ("PlayerMovesModel", "ownSpans", "[I", true)
  | 27 => ("PlayerMovesModel", "moves", "I", false)
  | 28 => ("PlayerMovesModel", "movePlayer", "[I", true)
  | 29 => ("PlayerMovesModel", "seller", "[I", true)
  | 30 => ("PlayerMovesModel", "buyer", "[I", true)
  | 31 => ("PlayerMovesModel", "feeOf", "[I", true)
  | 32 => ("PlayerMovesModel", "moveDay", "[I", true)
  | 33 => ("PlayerMovesModel", "isLoan", "[Z", true)
  | 34 => ("PlayerMovesModel", "isUndone", "[Z", true)
  | 35 => ("PlayerMovesModel", "spread", "[I", true)
  | 36 => ("PlayerMovesModel", "kept", "[I", true)
  | 37 => ("PlayerMovesModel", "bonus", "[I", true)
  | 38 => ("PlayerMovesModel", "needed", "[I", true)
  | 39 => ("PlayerMovesModel", "optionOf", "[I", true)
  | 40 => ("PlayerMovesModel", "spanOf", "[I", true)
  | 41 => ("PlayerMovesModel", "keptPaid", "[I", true)
  | 42 => ("PlayerMovesModel", "keptTo", "[I", true)
  | 43 => ("PlayerMovesModel", "sharesPaid", "[I", true)
  | 44 => ("PlayerMovesModel", "agentPaid", "[I", true)
  | 45 => ("PlayerMovesModel", "bonusPaid", "[I", true)
  | 46 => ("PlayerMovesModel", "played", "[I", true)
  | 47 => ("PlayerMovesModel", "shareOf", "[I", true)
  | 48 => ("PlayerMovesModel", "matches", "[I", true)
  | 49 => ("PlayerMovesModel", "terms", "[I", true)
  | 50 => ("PlayerMovesModel", "squadMany", "I", false)
  | 51 => ("PlayerMovesModel", "squadGrown", "I", false)
  | 52 => ("PlayerMovesModel", "squadYouths", "I", false)
  | 53 => ("PlayerMovesModel", "tape", "[B", true)
  | 54 => ("PlayerMovesModel", "taped", "I", false)
  | 55 => ("PlayerMovesModel", "rules", "I", false)
  | 56 => ("PlayerMovesModel", "ruleWhat", "[I", true)
  | 57 => ("PlayerMovesModel", "made", "[I", true)
  | 58 => ("PlayerMovesModel", "ruleFrom", "[I", true)
  | 59 => ("PlayerMovesModel", "lineMany", "[I", true)
  | 60 => ("PlayerMovesModel", "lineEnd", "[I", true)
  | 61 => ("PlayerMovesModel", "act", "[I", true)
  | 62 => ("PlayerMovesModel", "with", "[I", true)
  | 63 => ("PlayerMovesModel", "here", "I", false)
  | 64 => ("PlayerMovesModel", "fault", "I", false)
  | 65 => ("PlayerMovesModel", "open", "I", false)
  | 66 => ("PlayerMovesModel", "row", "I", false)
  | 67 => ("PlayerMovesModel", "laid", "I", false)
  | 68 => ("PlayerMovesModel", "facts", "[I", true)
  | 69 => ("PlayerMovesModel", "pile", "[I", true)
  | 70 => ("PlayerMovesModel", "deals", "I", false)
  | 71 => ("PlayerMovesModel", "dealPlayer", "[I", true)
  | 72 => ("PlayerMovesModel", "dealClub", "[I", true)
  | 73 => ("PlayerMovesModel", "dealFee", "[I", true)
  | 74 => ("PlayerMovesModel", "dealOther", "[I", true)
  | 75 => ("PlayerMovesModel", "wishes", "I", false)
  | 76 => ("PlayerMovesModel", "wants", "[I", true)
  | 77 => ("PlayerMovesModel", "getTrial", "[I", true)
  | 78 => ("PlayerMovesModel", "getBest", "[I", true)
  | 79 => ("PlayerMovesModel", "getMany", "I", false)
  | 80 => ("PlayerMovesModel", "mostRing", "I", false)
  | 81 => ("PlayerMovesModel", "candidates", "I", false)
  | 82 => ("PlayerMovesModel", "price", "[I", true)
  | 83 => ("PlayerMovesModel", "isGrown", "[I", true)
  | 84 => ("PlayerMovesModel", "place", "[I", true)
  | 85 => ("PlayerMovesModel", "candidateWorth", "[I", true)
  | 86 => ("PlayerMovesModel", "claims", "I", false)
  | 87 => ("PlayerMovesModel", "claimRank", "[I", true)
  | 88 => ("PlayerMovesModel", "claimCoins", "[I", true)
  | 89 => ("PlayerMovesModel", "claimGot", "[I", true)
  | 90 => ("PlayerMovesModel", "gotMany", "I", false)
  | 91 => ("PlayerMovesModel", "traces", "I", false)
  | 92 => ("PlayerMovesModel", "traced", "[I", true)
  | 93 => ("PlayerMovesModel", "holds", "[I", true)
  | 94 => ("PlayerMovesModel", "size", "[I", true)
  | 95 => ("PlayerMovesModel", "elements", "[J", true)
  | _ => ("PlayerMovesModel", "shifted", "[J", true)
def tyX13 : Nat → FieldType := fun k => match k with
  | 0 => .int
  | 1 => .int
  | 2 => .int
  | 3 => .array .int
  | 4 => .array .int
  | 5 => .array .int
  | 6 => .array .int
  | 7 => .int
  | 8 => .array .int
  | 9 => .array .int
  | 10 => .array .int
  | 11 => .array .int
  | 12 => .array .int
  | 13 => .array .int
  | 14 => .array .int
  | 15 => .array .boolean
  | 16 => .int
  | 17 => .array .int
  | 18 => .array .int
  | 19 => .array .int
  | 20 => .array .int
  | 21 => .array .int
  | 22 => .array .int
  | 23 => .array .int
  | 24 => .array .int
  | 25 => .array .int
  | 26 => .array .int
  | 27 => .int
  | 28 => .array .int
  | 29 => .array .int
  | 30 => .array .int
  | 31 => .array .int
  | 32 => .array .int
  | 33 => .array .boolean
  | 34 => .array .boolean
  | 35 => .array .int
  | 36 => .array .int
  | 37 => .array .int
  | 38 => .array .int
  | 39 => .array .int
  | 40 => .array .int
  | 41 => .array .int
  | 42 => .array .int
  | 43 => .array .int
  | 44 => .array .int
  | 45 => .array .int
  | 46 => .array .int
  | 47 => .array .int
  | 48 => .array .int
  | 49 => .array .int
  | 50 => .int
  | 51 => .int
  | 52 => .int
  | 53 => .array .byte
  | 54 => .int
  | 55 => .int
  | 56 => .array .int
  | 57 => .array .int
  | 58 => .array .int
  | 59 => .array .int
  | 60 => .array .int
  | 61 => .array .int
  | 62 => .array .int
  | 63 => .int
  | 64 => .int
  | 65 => .int
  | 66 => .int
  | 67 => .int
  | 68 => .array .int
  | 69 => .array .int
  | 70 => .int
  | 71 => .array .int
  | 72 => .array .int
  | 73 => .array .int
  | 74 => .array .int
  | 75 => .int
  | 76 => .array .int
  | 77 => .array .int
  | 78 => .array .int
  | 79 => .int
  | 80 => .int
  | 81 => .int
  | 82 => .array .int
  | 83 => .array .int
  | 84 => .array .int
  | 85 => .array .int
  | 86 => .int
  | 87 => .array .int
  | 88 => .array .int
  | 89 => .array .int
  | 90 => .int
  | 91 => .int
  | 92 => .array .int
  | 93 => .array .int
  | 94 => .array .int
  | 95 => .array .long
  | _ => .array .long
theorem nmX13 : ∀ a, a < 97 → ∀ b, b < 97 → a ≠ b → (TX13 a).2.1 ≠ (TX13 b).2.1 := by decide +kernel
theorem tyX13_ok : ∀ k, k < 97 → parseFieldDescriptor (TX13 k).2.2.1 = some (tyX13 k) := by decide +kernel
abbrev cX13_init : ByteArray := prog_15_method_1_code
def yX13_init : MethodName := ⟨RX13, "<init>", "()V"⟩
abbrev cX13_in : ByteArray := prog_15_method_3_code
def yX13_in : MethodName := ⟨RX13, "in", "(III)Z"⟩
abbrev cX13_isDay : ByteArray := prog_15_method_4_code
def yX13_isDay : MethodName := ⟨RX13, "isDay", "(I)Z"⟩
abbrev cX13_days : ByteArray := prog_15_method_5_code
def yX13_days : MethodName := ⟨RX13, "days", "(I)I"⟩
abbrev cX13_minute : ByteArray := prog_15_method_6_code
def yX13_minute : MethodName := ⟨RX13, "minute", "(I)I"⟩
abbrev cX13_isLeague : ByteArray := prog_15_method_7_code
def yX13_isLeague : MethodName := ⟨RX13, "isLeague", "(I)Z"⟩
abbrev cX13_window : ByteArray := prog_15_method_8_code
def yX13_window : MethodName := ⟨RX13, "window", "(III)I"⟩
abbrev cX13_isOpen : ByteArray := prog_15_method_9_code
def yX13_isOpen : MethodName := ⟨RX13, "isOpen", "(II)Z"⟩
abbrev cX13_open : ByteArray := prog_15_method_10_code
def yX13_open : MethodName := ⟨RX13, "open", "(II)I"⟩
abbrev cX13_papers : ByteArray := prog_15_method_11_code
def yX13_papers : MethodName := ⟨RX13, "papers", "(II)I"⟩
abbrev cX13_isBody : ByteArray := prog_15_method_12_code
def yX13_isBody : MethodName := ⟨RX13, "isBody", "(I)Z"⟩
abbrev cX13_isUnder : ByteArray := prog_15_method_13_code
def yX13_isUnder : MethodName := ⟨RX13, "isUnder", "(II)Z"⟩
abbrev cX13_isClub : ByteArray := prog_15_method_14_code
def yX13_isClub : MethodName := ⟨RX13, "isClub", "(I)Z"⟩
abbrev cX13_isPlayer : ByteArray := prog_15_method_15_code
def yX13_isPlayer : MethodName := ⟨RX13, "isPlayer", "(I)Z"⟩
abbrev cX13_add : ByteArray := prog_15_method_16_code
def yX13_add : MethodName := ⟨RX13, "add", "(I)I"⟩
abbrev cX13_body : ByteArray := prog_15_method_17_code
def yX13_body : MethodName := ⟨RX13, "body", "(I)I"⟩
abbrev cX13_club : ByteArray := prog_15_method_18_code
def yX13_club : MethodName := ⟨RX13, "club", "(III)I"⟩
abbrev cX13_player : ByteArray := prog_15_method_19_code
def yX13_player : MethodName := ⟨RX13, "player", "(IIII)I"⟩
abbrev cX13_income : ByteArray := prog_15_method_20_code
def yX13_income : MethodName := ⟨RX13, "income", "(III)I"⟩
abbrev cX13_ageOn : ByteArray := prog_15_method_21_code
def yX13_ageOn : MethodName := ⟨RX13, "ageOn", "(II)I"⟩
abbrev cX13_ofBody : ByteArray := prog_15_method_22_code
def yX13_ofBody : MethodName := ⟨RX13, "ofBody", "(II)I"⟩
abbrev cX13_addSpan : ByteArray := prog_15_method_23_code
def yX13_addSpan : MethodName := ⟨RX13, "addSpan", "(IIIII)I"⟩
abbrev cX13_spansOf : ByteArray := prog_15_method_24_code
def yX13_spansOf : MethodName := ⟨RX13, "spansOf", "(I)I"⟩
abbrev cX13_isSome : ByteArray := prog_15_method_25_code
def yX13_isSome : MethodName := ⟨RX13, "isSome", "(II)Z"⟩
abbrev cX13_ownSpan : ByteArray := prog_15_method_26_code
def yX13_ownSpan : MethodName := ⟨RX13, "ownSpan", "(II)I"⟩
abbrev cX13_spanOn : ByteArray := prog_15_method_27_code
def yX13_spanOn : MethodName := ⟨RX13, "spanOn", "(II)I"⟩
abbrev cX13_holderOn : ByteArray := prog_15_method_28_code
def yX13_holderOn : MethodName := ⟨RX13, "holderOn", "(II)I"⟩
abbrev cX13_ownerOn : ByteArray := prog_15_method_29_code
def yX13_ownerOn : MethodName := ⟨RX13, "ownerOn", "(II)I"⟩
abbrev cX13_at : ByteArray := prog_15_method_30_code
def yX13_at : MethodName := ⟨RX13, "at", "(III)I"⟩
abbrev cX13_past : ByteArray := prog_15_method_31_code
def yX13_past : MethodName := ⟨RX13, "past", "(IIII)I"⟩
abbrev cX13_spans : ByteArray := prog_15_method_32_code
def yX13_spans : MethodName := ⟨RX13, "spans", "(IIII)I"⟩
abbrev cX13_sign : ByteArray := prog_15_method_33_code
def yX13_sign : MethodName := ⟨RX13, "sign", "(IIII)I"⟩
abbrev cX13_findTaught : ByteArray := prog_15_method_34_code
def yX13_findTaught : MethodName := ⟨RX13, "findTaught", "(I)V"⟩
abbrev cX13_taught : ByteArray := prog_15_method_35_code
def yX13_taught : MethodName := ⟨RX13, "taught", "(II)I"⟩
abbrev cX13_isHomeGrown : ByteArray := prog_15_method_36_code
def yX13_isHomeGrown : MethodName := ⟨RX13, "isHomeGrown", "(II)Z"⟩
abbrev cX13_mostTerm : ByteArray := prog_15_method_37_code
def yX13_mostTerm : MethodName := ⟨RX13, "mostTerm", "(I)I"⟩
abbrev cX13_term : ByteArray := prog_15_method_38_code
def yX13_term : MethodName := ⟨RX13, "term", "(II)I"⟩
abbrev cX13_whyNot : ByteArray := prog_15_method_39_code
def yX13_whyNot : MethodName := ⟨RX13, "whyNot", "(IIZIII)I"⟩
abbrev cX13_why : ByteArray := prog_15_method_40_code
def yX13_why : MethodName := ⟨RX13, "why", "(III)I"⟩
abbrev cX13_up : ByteArray := prog_15_method_41_code
def yX13_up : MethodName := ⟨RX13, "up", "(II)I"⟩
abbrev cX13_addMove : ByteArray := prog_15_method_42_code
def yX13_addMove : MethodName := ⟨RX13, "addMove", "(IIIZ)I"⟩
abbrev cX13_addMoveSpan : ByteArray := prog_15_method_43_code
def yX13_addMoveSpan : MethodName := ⟨RX13, "addMoveSpan", "(III)V"⟩
abbrev cX13_rest : ByteArray := prog_15_method_44_code
def yX13_rest : MethodName := ⟨RX13, "rest", "(JJJ)J"⟩
abbrev cX13_payShares : ByteArray := prog_15_method_45_code
def yX13_payShares : MethodName := ⟨RX13, "payShares", "(I)V"⟩
abbrev cX13_sale : ByteArray := prog_15_method_46_code
def yX13_sale : MethodName := ⟨RX13, "sale", "(IIIIII)I"⟩
abbrev cX13_sell : ByteArray := prog_15_method_47_code
def yX13_sell : MethodName := ⟨RX13, "sell", "(II)I"⟩
abbrev cX13_lend : ByteArray := prog_15_method_48_code
def yX13_lend : MethodName := ⟨RX13, "lend", "(II)I"⟩
abbrev cX13_option : ByteArray := prog_15_method_49_code
def yX13_option : MethodName := ⟨RX13, "option", "(I)I"⟩
abbrev cX13_isMove : ByteArray := prog_15_method_50_code
def yX13_isMove : MethodName := ⟨RX13, "isMove", "(I)Z"⟩
abbrev cX13_ofMove : ByteArray := prog_15_method_51_code
def yX13_ofMove : MethodName := ⟨RX13, "ofMove", "(II)I"⟩
abbrev cX13_share : ByteArray := prog_15_method_52_code
def yX13_share : MethodName := ⟨RX13, "share", "(II)I"⟩
abbrev cX13_play : ByteArray := prog_15_method_53_code
def yX13_play : MethodName := ⟨RX13, "play", "(II)I"⟩
abbrev cX13_undo : ByteArray := prog_15_method_54_code
def yX13_undo : MethodName := ⟨RX13, "undo", "(I)I"⟩
abbrev cX13_findSquad : ByteArray := prog_15_method_55_code
def yX13_findSquad : MethodName := ⟨RX13, "findSquad", "(II)V"⟩
abbrev cX13_wagesOf : ByteArray := prog_15_method_56_code
def yX13_wagesOf : MethodName := ⟨RX13, "wagesOf", "(I)I"⟩
abbrev cX13_capOf : ByteArray := prog_15_method_57_code
def yX13_capOf : MethodName := ⟨RX13, "capOf", "(II)I"⟩
abbrev cX13_threeYears : ByteArray := prog_15_method_58_code
def yX13_threeYears : MethodName := ⟨RX13, "threeYears", "(IZ)I"⟩
abbrev cX13_squad : ByteArray := prog_15_method_59_code
def yX13_squad : MethodName := ⟨RX13, "squad", "(II)I"⟩
abbrev cX13_feed : ByteArray := prog_15_method_60_code
def yX13_feed : MethodName := ⟨RX13, "feed", "(II)I"⟩
abbrev cX13_look : ByteArray := prog_15_method_61_code
def yX13_look : MethodName := ⟨RX13, "look", "()I"⟩
abbrev cX13_wrong : ByteArray := prog_15_method_62_code
def yX13_wrong : MethodName := ⟨RX13, "wrong", "()V"⟩
abbrev cX13_lay : ByteArray := prog_15_method_63_code
def yX13_lay : MethodName := ⟨RX13, "lay", "(II)V"⟩
abbrev cX13_opens : ByteArray := prog_15_method_64_code
def yX13_opens : MethodName := ⟨RX13, "opens", "()Z"⟩
abbrev cX13_closes : ByteArray := prog_15_method_65_code
def yX13_closes : MethodName := ⟨RX13, "closes", "(I)V"⟩
abbrev cX13_nameOf : ByteArray := prog_15_method_66_code
def yX13_nameOf : MethodName := ⟨RX13, "nameOf", "(I)I"⟩
abbrev cX13_operand : ByteArray := prog_15_method_67_code
def yX13_operand : MethodName := ⟨RX13, "operand", "()V"⟩
abbrev cX13_product : ByteArray := prog_15_method_68_code
def yX13_product : MethodName := ⟨RX13, "product", "()V"⟩
abbrev cX13_sum : ByteArray := prog_15_method_69_code
def yX13_sum : MethodName := ⟨RX13, "sum", "()V"⟩
abbrev cX13_base : ByteArray := prog_15_method_70_code
def yX13_base : MethodName := ⟨RX13, "base", "()V"⟩
abbrev cX13_all : ByteArray := prog_15_method_71_code
def yX13_all : MethodName := ⟨RX13, "all", "()V"⟩
abbrev cX13_either : ByteArray := prog_15_method_72_code
def yX13_either : MethodName := ⟨RX13, "either", "()V"⟩
abbrev cX13_readLine : ByteArray := prog_15_method_73_code
def yX13_readLine : MethodName := ⟨RX13, "readLine", "()V"⟩
abbrev cX13_rule : ByteArray := prog_15_method_74_code
def yX13_rule : MethodName := ⟨RX13, "rule", "(II)I"⟩
abbrev cX13_forceOf : ByteArray := prog_15_method_75_code
def yX13_forceOf : MethodName := ⟨RX13, "forceOf", "(III)I"⟩
abbrev cX13_inForce : ByteArray := prog_15_method_76_code
def yX13_inForce : MethodName := ⟨RX13, "inForce", "(III)I"⟩
abbrev cX13_both : ByteArray := prog_15_method_77_code
def yX13_both : MethodName := ⟨RX13, "both", "(III)I"⟩
abbrev cX13_worked : ByteArray := prog_15_method_78_code
def yX13_worked : MethodName := ⟨RX13, "worked", "(III)I"⟩
abbrev cX13_firstBroken : ByteArray := prog_15_method_79_code
def yX13_firstBroken : MethodName := ⟨RX13, "firstBroken", "(IIIZ)I"⟩
abbrev cX13_holds : ByteArray := prog_15_method_80_code
def yX13_holds : MethodName := ⟨RX13, "holds", "(III)I"⟩
abbrev cX13_tryCap : ByteArray := prog_15_method_81_code
def yX13_tryCap : MethodName := ⟨RX13, "tryCap", "(II)I"⟩
abbrev cX13_deal : ByteArray := prog_15_method_82_code
def yX13_deal : MethodName := ⟨RX13, "deal", "(IIII)I"⟩
abbrev cX13_canAll : ByteArray := prog_15_method_83_code
def yX13_canAll : MethodName := ⟨RX13, "canAll", "(I)Z"⟩
abbrev cX13_bitsOf : ByteArray := prog_15_method_84_code
def yX13_bitsOf : MethodName := ⟨RX13, "bitsOf", "(I)I"⟩
abbrev cX13_chain : ByteArray := prog_15_method_85_code
def yX13_chain : MethodName := ⟨RX13, "chain", "()I"⟩
abbrev cX13_wish : ByteArray := prog_15_method_86_code
def yX13_wish : MethodName := ⟨RX13, "wish", "(I)I"⟩
abbrev cX13_ring : ByteArray := prog_15_method_87_code
def yX13_ring : MethodName := ⟨RX13, "ring", "(IIII)V"⟩
abbrev cX13_rings : ByteArray := prog_15_method_88_code
def yX13_rings : MethodName := ⟨RX13, "rings", "()I"⟩
abbrev cX13_gets : ByteArray := prog_15_method_89_code
def yX13_gets : MethodName := ⟨RX13, "gets", "(I)I"⟩
abbrev cX13_candidate : ByteArray := prog_15_method_90_code
def yX13_candidate : MethodName := ⟨RX13, "candidate", "(II)I"⟩
abbrev cX13_digitOf : ByteArray := prog_15_method_91_code
def yX13_digitOf : MethodName := ⟨RX13, "digitOf", "(II)I"⟩
abbrev cX13_fits : ByteArray := prog_15_method_92_code
def yX13_fits : MethodName := ⟨RX13, "fits", "(IIII)Z"⟩
abbrev cX13_buys : ByteArray := prog_15_method_93_code
def yX13_buys : MethodName := ⟨RX13, "buys", "(III)I"⟩
abbrev cX13_claim : ByteArray := prog_15_method_94_code
def yX13_claim : MethodName := ⟨RX13, "claim", "(II)I"⟩
abbrev cX13_part : ByteArray := prog_15_method_95_code
def yX13_part : MethodName := ⟨RX13, "part", "(I)I"⟩
abbrev cX13_got : ByteArray := prog_15_method_96_code
def yX13_got : MethodName := ⟨RX13, "got", "(I)I"⟩
abbrev cX13_ran : ByteArray := prog_15_method_97_code
def yX13_ran : MethodName := ⟨RX13, "ran", "(I)V"⟩
abbrev cX13_plainPlays : ByteArray := prog_15_method_98_code
def yX13_plainPlays : MethodName := ⟨RX13, "plainPlays", "(II)I"⟩
abbrev cX13_personPlays : ByteArray := prog_15_method_99_code
def yX13_personPlays : MethodName := ⟨RX13, "personPlays", "(II)I"⟩
abbrev cX13_plays : ByteArray := prog_15_method_100_code
def yX13_plays : MethodName := ⟨RX13, "plays", "(II)I"⟩
abbrev cX13_plainPays : ByteArray := prog_15_method_101_code
def yX13_plainPays : MethodName := ⟨RX13, "plainPays", "(II)I"⟩
abbrev cX13_playerPays : ByteArray := prog_15_method_102_code
def yX13_playerPays : MethodName := ⟨RX13, "playerPays", "(II)I"⟩
abbrev cX13_clubPays : ByteArray := prog_15_method_103_code
def yX13_clubPays : MethodName := ⟨RX13, "clubPays", "(II)I"⟩
abbrev cX13_pays : ByteArray := prog_15_method_104_code
def yX13_pays : MethodName := ⟨RX13, "pays", "(II)I"⟩
abbrev cX13_plainSigns : ByteArray := prog_15_method_105_code
def yX13_plainSigns : MethodName := ⟨RX13, "plainSigns", "(II)I"⟩
abbrev cX13_clubSigns : ByteArray := prog_15_method_106_code
def yX13_clubSigns : MethodName := ⟨RX13, "clubSigns", "(II)I"⟩
abbrev cX13_signs : ByteArray := prog_15_method_107_code
def yX13_signs : MethodName := ⟨RX13, "signs", "(II)I"⟩
abbrev cX13_plainTells : ByteArray := prog_15_method_108_code
def yX13_plainTells : MethodName := ⟨RX13, "plainTells", "(II)I"⟩
abbrev cX13_tells : ByteArray := prog_15_method_109_code
def yX13_tells : MethodName := ⟨RX13, "tells", "(II)I"⟩
abbrev cX13_act : ByteArray := prog_15_method_110_code
def yX13_act : MethodName := ⟨RX13, "act", "(III)I"⟩
abbrev cX13_trace : ByteArray := prog_15_method_111_code
def yX13_trace : MethodName := ⟨RX13, "trace", "(I)I"⟩
abbrev cX13_isShelf : ByteArray := prog_15_method_112_code
def yX13_isShelf : MethodName := ⟨RX13, "isShelf", "(I)Z"⟩
abbrev cX13_keep : ByteArray := prog_15_method_113_code
def yX13_keep : MethodName := ⟨RX13, "keep", "(II)I"⟩
abbrev cX13_row : ByteArray := prog_15_method_114_code
def yX13_row : MethodName := ⟨RX13, "row", "(III)I"⟩
abbrev cX13_whyNoPlace : ByteArray := prog_15_method_115_code
def yX13_whyNoPlace : MethodName := ⟨RX13, "whyNoPlace", "(II)I"⟩
abbrev cX13_put : ByteArray := prog_15_method_116_code
def yX13_put : MethodName := ⟨RX13, "put", "(IIJ)I"⟩
abbrev cX13_element : ByteArray := prog_15_method_117_code
def yX13_element : MethodName := ⟨RX13, "element", "(II)J"⟩
abbrev cX13_shift : ByteArray := prog_15_method_118_code
def yX13_shift : MethodName := ⟨RX13, "shift", "(IIIII)I"⟩
abbrev cX13_taken : ByteArray := prog_15_method_119_code
def yX13_taken : MethodName := ⟨RX13, "taken", "(II)I"⟩
abbrev cX13_count : ByteArray := prog_15_method_120_code
def yX13_count : MethodName := ⟨RX13, "count", "(I)I"⟩
def RJ11 : String := "java/lang/Character"
def TJ11 : u_T := fun k => match k with
  | _ => ("", "", "", false)
def tyJ11 : Nat → FieldType := fun k => match k with
  | _ => .int
theorem nmJ11 : ∀ a, a < 0 → ∀ b, b < 0 → a ≠ b → (TJ11 a).2.1 ≠ (TJ11 b).2.1 := by decide +kernel
theorem tyJ11_ok : ∀ k, k < 0 → parseFieldDescriptor (TJ11 k).2.2.1 = some (tyJ11 k) := by decide +kernel
abbrev cJ11_isValidCodePoint_9a6ad : ByteArray := prog_16_method_11_code
def yJ11_isValidCodePoint_9a6ad : MethodName := ⟨RJ11, "isValidCodePoint", "(I)Z"⟩
abbrev cJ11_highSurrogate_5068e : ByteArray := prog_16_method_28_code
def yJ11_highSurrogate_5068e : MethodName := ⟨RJ11, "highSurrogate", "(I)C"⟩
abbrev cJ11_lowSurrogate_5068e : ByteArray := prog_16_method_29_code
def yJ11_lowSurrogate_5068e : MethodName := ⟨RJ11, "lowSurrogate", "(I)C"⟩
def RJ6 : String := "java/lang/Integer"
def TJ6 : u_T := fun k => match k with
  | _ => ("", "", "", false)
def tyJ6 : Nat → FieldType := fun k => match k with
  | _ => .int
theorem nmJ6 : ∀ a, a < 0 → ∀ b, b < 0 → a ≠ b → (TJ6 a).2.1 ≠ (TJ6 b).2.1 := by decide +kernel
theorem tyJ6_ok : ∀ k, k < 0 → parseFieldDescriptor (TJ6 k).2.2.1 = some (tyJ6 k) := by decide +kernel
abbrev cJ6_bitCount_0f7a4 : ByteArray := prog_17_method_49_code
def yJ6_bitCount_0f7a4 : MethodName := ⟨RJ6, "bitCount", "(I)I"⟩
def RJ9 : String := "java/lang/Math"
def TJ9 : u_T := fun k => match k with
  | _ => ("", "", "", false)
def tyJ9 : Nat → FieldType := fun k => match k with
  | _ => .int
theorem nmJ9 : ∀ a, a < 0 → ∀ b, b < 0 → a ≠ b → (TJ9 a).2.1 ≠ (TJ9 b).2.1 := by decide +kernel
theorem tyJ9_ok : ∀ k, k < 0 → parseFieldDescriptor (TJ9 k).2.2.1 = some (tyJ9 k) := by decide +kernel
abbrev cJ9_max_7cf53 : ByteArray := prog_18_method_65_code
def yJ9_max_7cf53 : MethodName := ⟨RJ9, "max", "(II)I"⟩
abbrev cJ9_min_7cf53 : ByteArray := prog_18_method_69_code
def yJ9_min_7cf53 : MethodName := ⟨RJ9, "min", "(II)I"⟩
def RJ0 : String := "java/lang/String"
def TJ0 : u_T := fun k => match k with
  | _ => ("", "", "", false)
def tyJ0 : Nat → FieldType := fun k => match k with
  | _ => .int
theorem nmJ0 : ∀ a, a < 0 → ∀ b, b < 0 → a ≠ b → (TJ0 a).2.1 ≠ (TJ0 b).2.1 := by decide +kernel
theorem tyJ0_ok : ∀ k, k < 0 → parseFieldDescriptor (TJ0 k).2.2.1 = some (tyJ0 k) := by decide +kernel
abbrev cJ0_length_8abf5 : ByteArray := prog_19_method_54_code
def yJ0_length_8abf5 : MethodName := ⟨RJ0, "length", "()I"⟩
abbrev cJ0_indexOf_0f7a4 : ByteArray := prog_19_method_79_code
def yJ0_indexOf_0f7a4 : MethodName := ⟨RJ0, "indexOf", "(I)I"⟩
abbrev cJ0_indexOf_7cf53 : ByteArray := prog_19_method_80_code
def yJ0_indexOf_7cf53 : MethodName := ⟨RJ0, "indexOf", "(II)I"⟩
abbrev cJ0_coder_7d493 : ByteArray := prog_19_method_152_code
def yJ0_coder_7d493 : MethodName := ⟨RJ0, "coder", "()B"⟩
abbrev cJ0_isLatin1_aae02 : ByteArray := prog_19_method_154_code
def yJ0_isLatin1_aae02 : MethodName := ⟨RJ0, "isLatin1", "()Z"⟩
abbrev cJ0_checkBoundsBeginEnd_23922 : ByteArray := prog_19_method_158_code
def yJ0_checkBoundsBeginEnd_23922 : MethodName := ⟨RJ0, "checkBoundsBeginEnd", "(III)V"⟩
def RJ1 : String := "java/lang/StringLatin1"
def TJ1 : u_T := fun k => match k with
  | _ => ("", "", "", false)
def tyJ1 : Nat → FieldType := fun k => match k with
  | _ => .int
theorem nmJ1 : ∀ a, a < 0 → ∀ b, b < 0 → a ≠ b → (TJ1 a).2.1 ≠ (TJ1 b).2.1 := by decide +kernel
theorem tyJ1_ok : ∀ k, k < 0 → parseFieldDescriptor (TJ1 k).2.2.1 = some (tyJ1 k) := by decide +kernel
abbrev cJ1_canEncode_9a6ad : ByteArray := prog_20_method_4_code
def yJ1_canEncode_9a6ad : MethodName := ⟨RJ1, "canEncode", "(I)Z"⟩
abbrev cJ1_indexOf_4cfef : ByteArray := prog_20_method_22_code
def yJ1_indexOf_4cfef : MethodName := ⟨RJ1, "indexOf", "([BIII)I"⟩
abbrev cJ1_indexOfChar_4cfef : ByteArray := prog_20_method_23_code
def yJ1_indexOfChar_4cfef : MethodName := ⟨RJ1, "indexOfChar", "([BIII)I"⟩
def RJ2 : String := "java/lang/StringUTF16"
def TJ2 : u_T := fun k => match k with
  | _ => ("", "", "", false)
def tyJ2 : Nat → FieldType := fun k => match k with
  | _ => .int
theorem nmJ2 : ∀ a, a < 0 → ∀ b, b < 0 → a ≠ b → (TJ2 a).2.1 ≠ (TJ2 b).2.1 := by decide +kernel
theorem tyJ2_ok : ∀ k, k < 0 → parseFieldDescriptor (TJ2 k).2.2.1 = some (tyJ2 k) := by decide +kernel
abbrev cJ2_getChar_3b067 : ByteArray := prog_21_method_5_code
def yJ2_getChar_3b067 : MethodName := ⟨RJ2, "getChar", "([BI)C"⟩
abbrev cJ2_length_9d52b : ByteArray := prog_21_method_6_code
def yJ2_length_9d52b : MethodName := ⟨RJ2, "length", "([B)I"⟩
abbrev cJ2_indexOf_4cfef : ByteArray := prog_21_method_40_code
def yJ2_indexOf_4cfef : MethodName := ⟨RJ2, "indexOf", "([BIII)I"⟩
abbrev cJ2_indexOfChar_4cfef : ByteArray := prog_21_method_47_code
def yJ2_indexOfChar_4cfef : MethodName := ⟨RJ2, "indexOfChar", "([BIII)I"⟩
abbrev cJ2_indexOfCharUnsafe_4cfef : ByteArray := prog_21_method_48_code
def yJ2_indexOfCharUnsafe_4cfef : MethodName := ⟨RJ2, "indexOfCharUnsafe", "([BIII)I"⟩
abbrev cJ2_indexOfSupplementary_4cfef : ByteArray := prog_21_method_49_code
def yJ2_indexOfSupplementary_4cfef : MethodName := ⟨RJ2, "indexOfSupplementary", "([BIII)I"⟩
abbrev cJ2_checkBoundsBeginEnd_d044e : ByteArray := prog_21_method_93_code
def yJ2_checkBoundsBeginEnd_d044e : MethodName := ⟨RJ2, "checkBoundsBeginEnd", "(II[B)V"⟩
def RJ10 : String := "java/lang/System"
def TJ10 : u_T := fun k => match k with
  | _ => ("", "", "", false)
def tyJ10 : Nat → FieldType := fun k => match k with
  | _ => .int
theorem nmJ10 : ∀ a, a < 0 → ∀ b, b < 0 → a ≠ b → (TJ10 a).2.1 ≠ (TJ10 b).2.1 := by decide +kernel
theorem tyJ10_ok : ∀ k, k < 0 → parseFieldDescriptor (TJ10 k).2.2.1 = some (tyJ10 k) := by decide +kernel
def RJ3 : String := "jdk/internal/util/Preconditions"
def TJ3 : u_T := fun k => match k with
  | _ => ("", "", "", false)
def tyJ3 : Nat → FieldType := fun k => match k with
  | _ => .int
theorem nmJ3 : ∀ a, a < 0 → ∀ b, b < 0 → a ≠ b → (TJ3 a).2.1 ≠ (TJ3 b).2.1 := by decide +kernel
theorem tyJ3_ok : ∀ k, k < 0 → parseFieldDescriptor (TJ3 k).2.2.1 = some (tyJ3 k) := by decide +kernel
abbrev cJ3_checkFromToIndex_8c36e : ByteArray := prog_23_method_12_code
def yJ3_checkFromToIndex_8c36e : MethodName := ⟨RJ3, "checkFromToIndex", "(IIILjava/util/function/BiFunction;)I"⟩
def RL : String := "PlayerMovesLaw"
abbrev cL_law : ByteArray := code
def yL_law : MethodName := ⟨RL, "law", "([I)Z"⟩
abbrev vwCl : List vw_C := [(RX0, TX0, 2), (RX1, TX1, 13), (RX2, TX2, 5), (RX3, TX3, 6), (RX4, TX4, 6), (RX5, TX5, 4), (RX6, TX6, 20), (RX7, TX7, 8), (RX8, TX8, 5), (RX9, TX9, 5), (RX10, TX10, 5), (RX11, TX11, 9), (RX12, TX12, 20), (RX13, TX13, 97)]
/-- the words of the tables that stay good while the machine runs -/
def mm_T : List Cond := lw_tbl.filter goodWord
theorem mm_mem {j : Nat} {w : Cond} (h : lw_tbl[j]? = some w) (g : goodWord w = true) : w ∈ mm_T := List.mem_filter.mpr ⟨List.mem_of_getElem? h, g⟩
theorem mm_T_sub : ∀ w ∈ mm_T, w ∈ lw_tbl := fun _ h => (List.mem_filter.mp h).1
theorem mm_T_good : ∀ w ∈ mm_T, w ∈ mm_T ∧ ((w.onTables && w.keeps) = true ∨ ∃ ty, w = .arrayClass ty) := fun _ h => ⟨h, good_of_word (List.mem_filter.mp h).2⟩
