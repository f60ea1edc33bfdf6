section
-- ===== PART A: goes FIRST, ahead of the names: the tables' words, and 'selects' of the private methods out of them =====
/-- a private method of a class that the tables say can be made, by its rows of tables_1 -/
def lw_okq (q : MethodName × Nat) : Prop := (q.1.cls ≠ "java/lang/invoke/MethodHandle" ∧ q.1.cls ≠ "java/lang/invoke/VarHandle") ∧ Cond.instantiable q.1.cls q.2 ∈ tables_1 ∧ Cond.privateMethod q.1 ∈ tables_1 ∧ Cond.instanceMethod q.1 ∈ tables_1
theorem lw_p0 : lw_okq (⟨"SpeciesRounds$Reader", "begin", "()V"⟩, 9) := ⟨⟨by decide +kernel, by decide +kernel⟩, List.mem_of_getElem? (i := 46) (by decide +kernel), List.mem_of_getElem? (i := 316) (by decide +kernel), List.mem_of_getElem? (i := 317) (by decide +kernel)⟩
theorem lw_p1 : lw_okq (⟨"SpeciesRounds$Reader", "stand", "(I)V"⟩, 9) := ⟨⟨by decide +kernel, by decide +kernel⟩, List.mem_of_getElem? (i := 46) (by decide +kernel), List.mem_of_getElem? (i := 324) (by decide +kernel), List.mem_of_getElem? (i := 325) (by decide +kernel)⟩
theorem lw_p2 : lw_okq (⟨"SpeciesRounds$Reader", "take", "(C)Z"⟩, 9) := ⟨⟨by decide +kernel, by decide +kernel⟩, List.mem_of_getElem? (i := 46) (by decide +kernel), List.mem_of_getElem? (i := 328) (by decide +kernel), List.mem_of_getElem? (i := 329) (by decide +kernel)⟩
theorem lw_p3 : lw_okq (⟨"SpeciesRounds$Reader", "takeLetter", "(I)Z"⟩, 9) := ⟨⟨by decide +kernel, by decide +kernel⟩, List.mem_of_getElem? (i := 46) (by decide +kernel), List.mem_of_getElem? (i := 415) (by decide +kernel), List.mem_of_getElem? (i := 416) (by decide +kernel)⟩
theorem lw_p4 : lw_okq (⟨"SpeciesRounds$Reader", "join", "(III)V"⟩, 9) := ⟨⟨by decide +kernel, by decide +kernel⟩, List.mem_of_getElem? (i := 46) (by decide +kernel), List.mem_of_getElem? (i := 427) (by decide +kernel), List.mem_of_getElem? (i := 428) (by decide +kernel)⟩
theorem lw_p5 : lw_okq (⟨"SpeciesRounds$Reader", "takeLink", "(I)Z"⟩, 9) := ⟨⟨by decide +kernel, by decide +kernel⟩, List.mem_of_getElem? (i := 46) (by decide +kernel), List.mem_of_getElem? (i := 433) (by decide +kernel), List.mem_of_getElem? (i := 434) (by decide +kernel)⟩
theorem lw_p6 : lw_okq (⟨"SpeciesRounds$Reader", "takeMark", "(I)Z"⟩, 9) := ⟨⟨by decide +kernel, by decide +kernel⟩, List.mem_of_getElem? (i := 46) (by decide +kernel), List.mem_of_getElem? (i := 438) (by decide +kernel), List.mem_of_getElem? (i := 439) (by decide +kernel)⟩
theorem lw_p7 : lw_okq (⟨"SpeciesRounds$Reader", "openBranch", "()Z"⟩, 9) := ⟨⟨by decide +kernel, by decide +kernel⟩, List.mem_of_getElem? (i := 46) (by decide +kernel), List.mem_of_getElem? (i := 442) (by decide +kernel), List.mem_of_getElem? (i := 443) (by decide +kernel)⟩
theorem lw_p8 : lw_okq (⟨"SpeciesRounds$Reader", "closeBranch", "()Z"⟩, 9) := ⟨⟨by decide +kernel, by decide +kernel⟩, List.mem_of_getElem? (i := 46) (by decide +kernel), List.mem_of_getElem? (i := 446) (by decide +kernel), List.mem_of_getElem? (i := 447) (by decide +kernel)⟩
theorem lw_p9 : lw_okq (⟨"SpeciesRounds", "putDrawn", "(LSpeciesRounds$Graph;)I"⟩, 13) := ⟨⟨by decide +kernel, by decide +kernel⟩, List.mem_of_getElem? (i := 22) (by decide +kernel), List.mem_of_getElem? (i := 458) (by decide +kernel), List.mem_of_getElem? (i := 459) (by decide +kernel)⟩
theorem lw_p10 : lw_okq (⟨"SpeciesRounds$KeySearch", "sortByCode", "(LSpeciesRounds$Graph;[II)V"⟩, 3) := ⟨⟨by decide +kernel, by decide +kernel⟩, List.mem_of_getElem? (i := 115) (by decide +kernel), List.mem_of_getElem? (i := 470) (by decide +kernel), List.mem_of_getElem? (i := 471) (by decide +kernel)⟩
theorem lw_p11 : lw_okq (⟨"SpeciesRounds$KeySearch", "placeAtom", "(LSpeciesRounds$Graph;IIII)V"⟩, 3) := ⟨⟨by decide +kernel, by decide +kernel⟩, List.mem_of_getElem? (i := 115) (by decide +kernel), List.mem_of_getElem? (i := 475) (by decide +kernel), List.mem_of_getElem? (i := 476) (by decide +kernel)⟩
theorem lw_p12 : lw_okq (⟨"SpeciesRounds$KeySearch", "withOrdersOf", "(LSpeciesRounds$Graph;III)I"⟩, 3) := ⟨⟨by decide +kernel, by decide +kernel⟩, List.mem_of_getElem? (i := 115) (by decide +kernel), List.mem_of_getElem? (i := 479) (by decide +kernel), List.mem_of_getElem? (i := 480) (by decide +kernel)⟩
theorem lw_p13 : lw_okq (⟨"SpeciesRounds", "hasSpecies", "(I)Z"⟩, 13) := ⟨⟨by decide +kernel, by decide +kernel⟩, List.mem_of_getElem? (i := 22) (by decide +kernel), List.mem_of_getElem? (i := 499) (by decide +kernel), List.mem_of_getElem? (i := 500) (by decide +kernel)⟩
theorem lw_p14 : lw_okq (⟨"SpeciesRounds", "hasAtom", "(II)Z"⟩, 13) := ⟨⟨by decide +kernel, by decide +kernel⟩, List.mem_of_getElem? (i := 22) (by decide +kernel), List.mem_of_getElem? (i := 510) (by decide +kernel), List.mem_of_getElem? (i := 511) (by decide +kernel)⟩
theorem lw_p15 : lw_okq (⟨"SpeciesRounds", "hasRule", "(I)Z"⟩, 13) := ⟨⟨by decide +kernel, by decide +kernel⟩, List.mem_of_getElem? (i := 22) (by decide +kernel), List.mem_of_getElem? (i := 545) (by decide +kernel), List.mem_of_getElem? (i := 546) (by decide +kernel)⟩
def lw_privs_1 : List (MethodName × Nat) := [(⟨"SpeciesRounds$Reader", "begin", "()V"⟩, 9), (⟨"SpeciesRounds$Reader", "stand", "(I)V"⟩, 9), (⟨"SpeciesRounds$Reader", "take", "(C)Z"⟩, 9), (⟨"SpeciesRounds$Reader", "takeLetter", "(I)Z"⟩, 9), (⟨"SpeciesRounds$Reader", "join", "(III)V"⟩, 9), (⟨"SpeciesRounds$Reader", "takeLink", "(I)Z"⟩, 9), (⟨"SpeciesRounds$Reader", "takeMark", "(I)Z"⟩, 9), (⟨"SpeciesRounds$Reader", "openBranch", "()Z"⟩, 9), (⟨"SpeciesRounds$Reader", "closeBranch", "()Z"⟩, 9), (⟨"SpeciesRounds", "putDrawn", "(LSpeciesRounds$Graph;)I"⟩, 13), (⟨"SpeciesRounds$KeySearch", "sortByCode", "(LSpeciesRounds$Graph;[II)V"⟩, 3), (⟨"SpeciesRounds$KeySearch", "placeAtom", "(LSpeciesRounds$Graph;IIII)V"⟩, 3), (⟨"SpeciesRounds$KeySearch", "withOrdersOf", "(LSpeciesRounds$Graph;III)I"⟩, 3), (⟨"SpeciesRounds", "hasSpecies", "(I)Z"⟩, 13), (⟨"SpeciesRounds", "hasAtom", "(II)Z"⟩, 13), (⟨"SpeciesRounds", "hasRule", "(I)Z"⟩, 13)]
theorem lw_r1 : ∀ q ∈ lw_privs_1, lw_okq q := List.forall_mem_cons.mpr ⟨lw_p0, List.forall_mem_cons.mpr ⟨lw_p1, List.forall_mem_cons.mpr ⟨lw_p2, List.forall_mem_cons.mpr ⟨lw_p3, List.forall_mem_cons.mpr ⟨lw_p4, List.forall_mem_cons.mpr ⟨lw_p5, List.forall_mem_cons.mpr ⟨lw_p6, List.forall_mem_cons.mpr ⟨lw_p7, List.forall_mem_cons.mpr ⟨lw_p8, List.forall_mem_cons.mpr ⟨lw_p9, List.forall_mem_cons.mpr ⟨lw_p10, List.forall_mem_cons.mpr ⟨lw_p11, List.forall_mem_cons.mpr ⟨lw_p12, List.forall_mem_cons.mpr ⟨lw_p13, List.forall_mem_cons.mpr ⟨lw_p14, List.forall_mem_cons.mpr ⟨lw_p15, fun _ h => absurd h List.not_mem_nil⟩⟩⟩⟩⟩⟩⟩⟩⟩⟩⟩⟩⟩⟩⟩⟩
theorem lw_p16 : lw_okq (⟨"SpeciesRounds", "pourMixture", "(II)V"⟩, 13) := ⟨⟨by decide +kernel, by decide +kernel⟩, List.mem_of_getElem? (i := 22) (by decide +kernel), List.mem_of_getElem? (i := 563) (by decide +kernel), List.mem_of_getElem? (i := 564) (by decide +kernel)⟩
theorem lw_p17 : lw_okq (⟨"SpeciesRounds$Finder", "choose", "(LSpeciesRounds$Rule;LSpeciesRounds$Mixture;I)V"⟩, 3) := ⟨⟨by decide +kernel, by decide +kernel⟩, List.mem_of_getElem? (i := 170) (by decide +kernel), List.mem_of_getElem? (i := 585) (by decide +kernel), List.mem_of_getElem? (i := 586) (by decide +kernel)⟩
theorem lw_p18 : lw_okq (⟨"SpeciesRounds$Finder", "fits", "(LSpeciesRounds$Rule;LSpeciesRounds$Graph;II)Z"⟩, 3) := ⟨⟨by decide +kernel, by decide +kernel⟩, List.mem_of_getElem? (i := 170) (by decide +kernel), List.mem_of_getElem? (i := 589) (by decide +kernel), List.mem_of_getElem? (i := 590) (by decide +kernel)⟩
theorem lw_p19 : lw_okq (⟨"SpeciesRounds$Finder", "keep", "()V"⟩, 3) := ⟨⟨by decide +kernel, by decide +kernel⟩, List.mem_of_getElem? (i := 170) (by decide +kernel), List.mem_of_getElem? (i := 598) (by decide +kernel), List.mem_of_getElem? (i := 599) (by decide +kernel)⟩
theorem lw_p20 : lw_okq (⟨"SpeciesRounds", "takeMixture", "(II)Z"⟩, 13) := ⟨⟨by decide +kernel, by decide +kernel⟩, List.mem_of_getElem? (i := 22) (by decide +kernel), List.mem_of_getElem? (i := 614) (by decide +kernel), List.mem_of_getElem? (i := 615) (by decide +kernel)⟩
theorem lw_p21 : lw_okq (⟨"SpeciesRounds", "takeMatch", "(LSpeciesRounds$Rule;III)Z"⟩, 13) := ⟨⟨by decide +kernel, by decide +kernel⟩, List.mem_of_getElem? (i := 22) (by decide +kernel), List.mem_of_getElem? (i := 622) (by decide +kernel), List.mem_of_getElem? (i := 623) (by decide +kernel)⟩
theorem lw_p22 : lw_okq (⟨"SpeciesRounds$Products", "gatherJoined", "(LSpeciesRounds$Graph;I)I"⟩, 4) := ⟨⟨by decide +kernel, by decide +kernel⟩, List.mem_of_getElem? (i := 187) (by decide +kernel), List.mem_of_getElem? (i := 640) (by decide +kernel), List.mem_of_getElem? (i := 641) (by decide +kernel)⟩
theorem lw_p23 : lw_okq (⟨"SpeciesRounds", "putReaction", "(II)Z"⟩, 13) := ⟨⟨by decide +kernel, by decide +kernel⟩, List.mem_of_getElem? (i := 22) (by decide +kernel), List.mem_of_getElem? (i := 645) (by decide +kernel), List.mem_of_getElem? (i := 646) (by decide +kernel)⟩
theorem lw_p24 : lw_okq (⟨"SpeciesRounds$ReactionList", "holds", "(I)Z"⟩, 2) := ⟨⟨by decide +kernel, by decide +kernel⟩, List.mem_of_getElem? (i := 208) (by decide +kernel), List.mem_of_getElem? (i := 659) (by decide +kernel), List.mem_of_getElem? (i := 660) (by decide +kernel)⟩
theorem lw_p25 : lw_okq (⟨"SpeciesRounds$Table", "countLess", "(IJ)I"⟩, 3) := ⟨⟨by decide +kernel, by decide +kernel⟩, List.mem_of_getElem? (i := 131) (by decide +kernel), List.mem_of_getElem? (i := 671) (by decide +kernel), List.mem_of_getElem? (i := 672) (by decide +kernel)⟩
theorem lw_p26 : lw_okq (⟨"SpeciesRounds", "listDraft", "()V"⟩, 13) := ⟨⟨by decide +kernel, by decide +kernel⟩, List.mem_of_getElem? (i := 22) (by decide +kernel), List.mem_of_getElem? (i := 675) (by decide +kernel), List.mem_of_getElem? (i := 676) (by decide +kernel)⟩
theorem lw_p27 : lw_okq (⟨"SpeciesRoundsModel", "fault", "()I"⟩, 36) := ⟨⟨by decide +kernel, by decide +kernel⟩, List.mem_of_getElem? (i := 694) (by decide +kernel), List.mem_of_getElem? (i := 821) (by decide +kernel), List.mem_of_getElem? (i := 822) (by decide +kernel)⟩
theorem lw_p28 : lw_okq (⟨"SpeciesRoundsModel", "read", "()Z"⟩, 36) := ⟨⟨by decide +kernel, by decide +kernel⟩, List.mem_of_getElem? (i := 694) (by decide +kernel), List.mem_of_getElem? (i := 834) (by decide +kernel), List.mem_of_getElem? (i := 835) (by decide +kernel)⟩
theorem lw_p29 : lw_okq (⟨"SpeciesRoundsModel", "tie", "(III)V"⟩, 36) := ⟨⟨by decide +kernel, by decide +kernel⟩, List.mem_of_getElem? (i := 694) (by decide +kernel), List.mem_of_getElem? (i := 838) (by decide +kernel), List.mem_of_getElem? (i := 839) (by decide +kernel)⟩
theorem lw_p30 : lw_okq (⟨"SpeciesRoundsModel", "load", "(I)I"⟩, 36) := ⟨⟨by decide +kernel, by decide +kernel⟩, List.mem_of_getElem? (i := 694) (by decide +kernel), List.mem_of_getElem? (i := 842) (by decide +kernel), List.mem_of_getElem? (i := 843) (by decide +kernel)⟩
theorem lw_p31 : lw_okq (⟨"SpeciesRoundsModel", "least", "()J"⟩, 36) := ⟨⟨by decide +kernel, by decide +kernel⟩, List.mem_of_getElem? (i := 694) (by decide +kernel), List.mem_of_getElem? (i := 846) (by decide +kernel), List.mem_of_getElem? (i := 847) (by decide +kernel)⟩
def lw_privs_2 : List (MethodName × Nat) := [(⟨"SpeciesRounds", "pourMixture", "(II)V"⟩, 13), (⟨"SpeciesRounds$Finder", "choose", "(LSpeciesRounds$Rule;LSpeciesRounds$Mixture;I)V"⟩, 3), (⟨"SpeciesRounds$Finder", "fits", "(LSpeciesRounds$Rule;LSpeciesRounds$Graph;II)Z"⟩, 3), (⟨"SpeciesRounds$Finder", "keep", "()V"⟩, 3), (⟨"SpeciesRounds", "takeMixture", "(II)Z"⟩, 13), (⟨"SpeciesRounds", "takeMatch", "(LSpeciesRounds$Rule;III)Z"⟩, 13), (⟨"SpeciesRounds$Products", "gatherJoined", "(LSpeciesRounds$Graph;I)I"⟩, 4), (⟨"SpeciesRounds", "putReaction", "(II)Z"⟩, 13), (⟨"SpeciesRounds$ReactionList", "holds", "(I)Z"⟩, 2), (⟨"SpeciesRounds$Table", "countLess", "(IJ)I"⟩, 3), (⟨"SpeciesRounds", "listDraft", "()V"⟩, 13), (⟨"SpeciesRoundsModel", "fault", "()I"⟩, 36), (⟨"SpeciesRoundsModel", "read", "()Z"⟩, 36), (⟨"SpeciesRoundsModel", "tie", "(III)V"⟩, 36), (⟨"SpeciesRoundsModel", "load", "(I)I"⟩, 36), (⟨"SpeciesRoundsModel", "least", "()J"⟩, 36)]
theorem lw_r2 : ∀ q ∈ lw_privs_2, lw_okq q := List.forall_mem_cons.mpr ⟨lw_p16, List.forall_mem_cons.mpr ⟨lw_p17, List.forall_mem_cons.mpr ⟨lw_p18, List.forall_mem_cons.mpr ⟨lw_p19, List.forall_mem_cons.mpr ⟨lw_p20, List.forall_mem_cons.mpr ⟨lw_p21, List.forall_mem_cons.mpr ⟨lw_p22, List.forall_mem_cons.mpr ⟨lw_p23, List.forall_mem_cons.mpr ⟨lw_p24, List.forall_mem_cons.mpr ⟨lw_p25, List.forall_mem_cons.mpr ⟨lw_p26, List.forall_mem_cons.mpr ⟨lw_p27, List.forall_mem_cons.mpr ⟨lw_p28, List.forall_mem_cons.mpr ⟨lw_p29, List.forall_mem_cons.mpr ⟨lw_p30, List.forall_mem_cons.mpr ⟨lw_p31, fun _ h => absurd h List.not_mem_nil⟩⟩⟩⟩⟩⟩⟩⟩⟩⟩⟩⟩⟩⟩⟩⟩
theorem lw_p32 : lw_okq (⟨"SpeciesRoundsModel", "word", "()J"⟩, 36) := ⟨⟨by decide +kernel, by decide +kernel⟩, List.mem_of_getElem? (i := 694) (by decide +kernel), List.mem_of_getElem? (i := 850) (by decide +kernel), List.mem_of_getElem? (i := 851) (by decide +kernel)⟩
theorem lw_p33 : lw_okq (⟨"SpeciesRoundsModel", "advance", "()Z"⟩, 36) := ⟨⟨by decide +kernel, by decide +kernel⟩, List.mem_of_getElem? (i := 694) (by decide +kernel), List.mem_of_getElem? (i := 855) (by decide +kernel), List.mem_of_getElem? (i := 856) (by decide +kernel)⟩
theorem lw_p34 : lw_okq (⟨"SpeciesRoundsModel", "numberOf", "(J)I"⟩, 36) := ⟨⟨by decide +kernel, by decide +kernel⟩, List.mem_of_getElem? (i := 694) (by decide +kernel), List.mem_of_getElem? (i := 859) (by decide +kernel), List.mem_of_getElem? (i := 860) (by decide +kernel)⟩
theorem lw_p35 : lw_okq (⟨"SpeciesRoundsModel", "isSpecies", "(I)Z"⟩, 36) := ⟨⟨by decide +kernel, by decide +kernel⟩, List.mem_of_getElem? (i := 694) (by decide +kernel), List.mem_of_getElem? (i := 871) (by decide +kernel), List.mem_of_getElem? (i := 872) (by decide +kernel)⟩
theorem lw_p36 : lw_okq (⟨"SpeciesRoundsModel", "isAtom", "(II)Z"⟩, 36) := ⟨⟨by decide +kernel, by decide +kernel⟩, List.mem_of_getElem? (i := 694) (by decide +kernel), List.mem_of_getElem? (i := 882) (by decide +kernel), List.mem_of_getElem? (i := 883) (by decide +kernel)⟩
theorem lw_p37 : lw_okq (⟨"SpeciesRoundsModel", "mix", "(II)V"⟩, 36) := ⟨⟨by decide +kernel, by decide +kernel⟩, List.mem_of_getElem? (i := 694) (by decide +kernel), List.mem_of_getElem? (i := 905) (by decide +kernel), List.mem_of_getElem? (i := 906) (by decide +kernel)⟩
theorem lw_p38 : lw_okq (⟨"SpeciesRoundsModel", "put", "(II)V"⟩, 36) := ⟨⟨by decide +kernel, by decide +kernel⟩, List.mem_of_getElem? (i := 694) (by decide +kernel), List.mem_of_getElem? (i := 909) (by decide +kernel), List.mem_of_getElem? (i := 910) (by decide +kernel)⟩
theorem lw_p39 : lw_okq (⟨"SpeciesRoundsModel", "choices", "(I)I"⟩, 36) := ⟨⟨by decide +kernel, by decide +kernel⟩, List.mem_of_getElem? (i := 694) (by decide +kernel), List.mem_of_getElem? (i := 913) (by decide +kernel), List.mem_of_getElem? (i := 914) (by decide +kernel)⟩
theorem lw_p40 : lw_okq (⟨"SpeciesRoundsModel", "choose", "(I)V"⟩, 36) := ⟨⟨by decide +kernel, by decide +kernel⟩, List.mem_of_getElem? (i := 694) (by decide +kernel), List.mem_of_getElem? (i := 917) (by decide +kernel), List.mem_of_getElem? (i := 918) (by decide +kernel)⟩
theorem lw_p41 : lw_okq (⟨"SpeciesRoundsModel", "isMatch", "(II)Z"⟩, 36) := ⟨⟨by decide +kernel, by decide +kernel⟩, List.mem_of_getElem? (i := 694) (by decide +kernel), List.mem_of_getElem? (i := 921) (by decide +kernel), List.mem_of_getElem? (i := 922) (by decide +kernel)⟩
theorem lw_p42 : lw_okq (⟨"SpeciesRoundsModel", "react", "(III)V"⟩, 36) := ⟨⟨by decide +kernel, by decide +kernel⟩, List.mem_of_getElem? (i := 694) (by decide +kernel), List.mem_of_getElem? (i := 929) (by decide +kernel), List.mem_of_getElem? (i := 930) (by decide +kernel)⟩
theorem lw_p43 : lw_okq (⟨"SpeciesRoundsModel", "becomes", "(I)Z"⟩, 36) := ⟨⟨by decide +kernel, by decide +kernel⟩, List.mem_of_getElem? (i := 694) (by decide +kernel), List.mem_of_getElem? (i := 933) (by decide +kernel), List.mem_of_getElem? (i := 934) (by decide +kernel)⟩
theorem lw_p44 : lw_okq (⟨"SpeciesRoundsModel", "yields", "()Z"⟩, 36) := ⟨⟨by decide +kernel, by decide +kernel⟩, List.mem_of_getElem? (i := 694) (by decide +kernel), List.mem_of_getElem? (i := 937) (by decide +kernel), List.mem_of_getElem? (i := 938) (by decide +kernel)⟩
theorem lw_p45 : lw_okq (⟨"SpeciesRoundsModel", "parts", "()V"⟩, 36) := ⟨⟨by decide +kernel, by decide +kernel⟩, List.mem_of_getElem? (i := 694) (by decide +kernel), List.mem_of_getElem? (i := 941) (by decide +kernel), List.mem_of_getElem? (i := 942) (by decide +kernel)⟩
theorem lw_p46 : lw_okq (⟨"SpeciesRoundsModel", "known", "(J)I"⟩, 36) := ⟨⟨by decide +kernel, by decide +kernel⟩, List.mem_of_getElem? (i := 694) (by decide +kernel), List.mem_of_getElem? (i := 945) (by decide +kernel), List.mem_of_getElem? (i := 946) (by decide +kernel)⟩
theorem lw_p47 : lw_okq (⟨"SpeciesRoundsModel", "note", "(II)V"⟩, 36) := ⟨⟨by decide +kernel, by decide +kernel⟩, List.mem_of_getElem? (i := 694) (by decide +kernel), List.mem_of_getElem? (i := 949) (by decide +kernel), List.mem_of_getElem? (i := 950) (by decide +kernel)⟩
def lw_privs_3 : List (MethodName × Nat) := [(⟨"SpeciesRoundsModel", "word", "()J"⟩, 36), (⟨"SpeciesRoundsModel", "advance", "()Z"⟩, 36), (⟨"SpeciesRoundsModel", "numberOf", "(J)I"⟩, 36), (⟨"SpeciesRoundsModel", "isSpecies", "(I)Z"⟩, 36), (⟨"SpeciesRoundsModel", "isAtom", "(II)Z"⟩, 36), (⟨"SpeciesRoundsModel", "mix", "(II)V"⟩, 36), (⟨"SpeciesRoundsModel", "put", "(II)V"⟩, 36), (⟨"SpeciesRoundsModel", "choices", "(I)I"⟩, 36), (⟨"SpeciesRoundsModel", "choose", "(I)V"⟩, 36), (⟨"SpeciesRoundsModel", "isMatch", "(II)Z"⟩, 36), (⟨"SpeciesRoundsModel", "react", "(III)V"⟩, 36), (⟨"SpeciesRoundsModel", "becomes", "(I)Z"⟩, 36), (⟨"SpeciesRoundsModel", "yields", "()Z"⟩, 36), (⟨"SpeciesRoundsModel", "parts", "()V"⟩, 36), (⟨"SpeciesRoundsModel", "known", "(J)I"⟩, 36), (⟨"SpeciesRoundsModel", "note", "(II)V"⟩, 36)]
theorem lw_r3 : ∀ q ∈ lw_privs_3, lw_okq q := List.forall_mem_cons.mpr ⟨lw_p32, List.forall_mem_cons.mpr ⟨lw_p33, List.forall_mem_cons.mpr ⟨lw_p34, List.forall_mem_cons.mpr ⟨lw_p35, List.forall_mem_cons.mpr ⟨lw_p36, List.forall_mem_cons.mpr ⟨lw_p37, List.forall_mem_cons.mpr ⟨lw_p38, List.forall_mem_cons.mpr ⟨lw_p39, List.forall_mem_cons.mpr ⟨lw_p40, List.forall_mem_cons.mpr ⟨lw_p41, List.forall_mem_cons.mpr ⟨lw_p42, List.forall_mem_cons.mpr ⟨lw_p43, List.forall_mem_cons.mpr ⟨lw_p44, List.forall_mem_cons.mpr ⟨lw_p45, List.forall_mem_cons.mpr ⟨lw_p46, List.forall_mem_cons.mpr ⟨lw_p47, fun _ h => absurd h List.not_mem_nil⟩⟩⟩⟩⟩⟩⟩⟩⟩⟩⟩⟩⟩⟩⟩⟩
theorem lw_p48 : lw_okq (⟨"SpeciesRoundsModel", "arrange", "(II)V"⟩, 36) := ⟨⟨by decide +kernel, by decide +kernel⟩, List.mem_of_getElem? (i := 694) (by decide +kernel), List.mem_of_getElem? (i := 953) (by decide +kernel), List.mem_of_getElem? (i := 954) (by decide +kernel)⟩
theorem lw_p49 : lw_okq (⟨"SpeciesRoundsModel", "settle", "()V"⟩, 36) := ⟨⟨by decide +kernel, by decide +kernel⟩, List.mem_of_getElem? (i := 694) (by decide +kernel), List.mem_of_getElem? (i := 957) (by decide +kernel), List.mem_of_getElem? (i := 958) (by decide +kernel)⟩
theorem lw_p50 : lw_okq (⟨"SpeciesRoundsModel", "sortRows", "()V"⟩, 36) := ⟨⟨by decide +kernel, by decide +kernel⟩, List.mem_of_getElem? (i := 694) (by decide +kernel), List.mem_of_getElem? (i := 961) (by decide +kernel), List.mem_of_getElem? (i := 962) (by decide +kernel)⟩
theorem lw_p51 : lw_okq (⟨"SpeciesRoundsModel", "isLess", "(II)Z"⟩, 36) := ⟨⟨by decide +kernel, by decide +kernel⟩, List.mem_of_getElem? (i := 694) (by decide +kernel), List.mem_of_getElem? (i := 965) (by decide +kernel), List.mem_of_getElem? (i := 966) (by decide +kernel)⟩
def lw_privs_4 : List (MethodName × Nat) := [(⟨"SpeciesRoundsModel", "arrange", "(II)V"⟩, 36), (⟨"SpeciesRoundsModel", "settle", "()V"⟩, 36), (⟨"SpeciesRoundsModel", "sortRows", "()V"⟩, 36), (⟨"SpeciesRoundsModel", "isLess", "(II)Z"⟩, 36)]
theorem lw_r4 : ∀ q ∈ lw_privs_4, lw_okq q := List.forall_mem_cons.mpr ⟨lw_p48, List.forall_mem_cons.mpr ⟨lw_p49, List.forall_mem_cons.mpr ⟨lw_p50, List.forall_mem_cons.mpr ⟨lw_p51, fun _ h => absurd h List.not_mem_nil⟩⟩⟩⟩
def lw_privs : List (MethodName × Nat) := lw_privs_1 ++ (lw_privs_2 ++ (lw_privs_3 ++ (lw_privs_4)))
def lw_tbl : List Cond := k2_sels lw_privs ++ tables_1
theorem lw_privs_ok : ∀ q ∈ lw_privs, lw_okq q := by
  show ∀ q ∈ lw_privs_1 ++ (lw_privs_2 ++ (lw_privs_3 ++ (lw_privs_4))), lw_okq q
  exact List.forall_mem_append.mpr ⟨lw_r1, List.forall_mem_append.mpr ⟨lw_r2, List.forall_mem_append.mpr ⟨lw_r3, lw_r4⟩⟩⟩
-- ===== end of PART A; then your names; then what follows =====
end
section
/-! The abstract machine: cells by number from a base on, predicate transformers per instruction, the least fixpoint of a method's code. -/
abbrev am_C : Type := (FieldType × vp_A) ⊕ (Nat × List Value)
abbrev am_H : Type := List am_C
abbrev am_L : Type := List (Option Value)
abbrev am_X : Type := Nat → am_L → List Value → am_H → Nat → Nat → Prop
abbrev am_Q : Type := Option Value → am_H → Prop
abbrev am_K : Type := Nat → List Value → am_H → am_Q → Prop
abbrev am_T : Type := am_K → am_Q → am_X → am_X
/-- the least fixpoint -/
def am_Go (K : am_K) (code : Nat → am_T) (Q : am_Q) : am_X := fun pc ls st h c z =>
  ∀ X : am_X, (∀ pc ls st h c z, code pc K Q X pc ls st h c z → X pc ls st h c z) → X pc ls st h c z
/-- calls keep what follows -/
def am_KM (K : am_K) : Prop := ∀ (y : Nat) (As : List Value) (h : am_H) (Q Q' : am_Q), (∀ v h', Q v h' → Q' v h') → K y As h Q → K y As h Q'
def am_TM (T : am_T) : Prop := ∀ (K : am_K), am_KM K → ∀ (Q Q' : am_Q), (∀ v h', Q v h' → Q' v h') → ∀ (X X' : am_X), (∀ pc ls st h c z, X pc ls st h c z → X' pc ls st h c z) → ∀ pc ls st h c z, T K Q X pc ls st h c z → T K Q' X' pc ls st h c z
theorem am_Go_into {K : am_K} {code : Nat → am_T} {Q : am_Q} (hK : am_KM K) (hM : ∀ pc, am_TM (code pc)) {pc : Nat} {ls : am_L} {st : List Value} {h : am_H} {c z : Nat} (hF : code pc K Q (am_Go K code Q) pc ls st h c z) : am_Go K code Q pc ls st h c z := by
  intro X hX
  refine hX _ _ _ _ _ _ (hM pc K hK Q Q (fun _ _ q => q) _ X (fun pc ls st h c z g => g X hX) _ _ _ _ _ _ hF)
theorem am_Go_iff {K : am_K} {code : Nat → am_T} {Q : am_Q} (hK : am_KM K) (hM : ∀ pc, am_TM (code pc)) (pc : Nat) (ls : am_L) (st : List Value) (h : am_H) (c z : Nat) : am_Go K code Q pc ls st h c z ↔ code pc K Q (am_Go K code Q) pc ls st h c z := by
  refine ⟨fun g => ?_, am_Go_into hK hM⟩
  refine g (fun pc ls st h c z => code pc K Q (am_Go K code Q) pc ls st h c z) (fun pc ls st h c z q => ?_)
  exact hM pc K hK Q Q (fun _ _ q => q) _ _ (fun _ _ _ _ _ _ q => am_Go_into hK hM q) _ _ _ _ _ _ q
theorem am_Go_mono {K : am_K} {code : Nat → am_T} {Q Q' : am_Q} (hK : am_KM K) (hM : ∀ pc, am_TM (code pc)) (hQ : ∀ v h', Q v h' → Q' v h') {pc : Nat} {ls : am_L} {st : List Value} {h : am_H} {c z : Nat} (g : am_Go K code Q pc ls st h c z) : am_Go K code Q' pc ls st h c z := by
  refine g (am_Go K code Q') (fun pc ls st h c z q => am_Go_into hK hM ?_)
  exact hM pc K hK Q Q' hQ _ _ (fun _ _ _ _ _ _ q => q) _ _ _ _ _ _ q
/-- locals -/
def am_kl (d : Option Value) : Option Value := match d with
  | some (.long _) => none
  | some (.double _) => none
  | x => x
def am_al (ls : am_L) (i : Nat) : Option Value := ls.getD i none
def am_s1 (ls : am_L) (i : Nat) (v : Value) : am_L := (ls.set (i - 1) (am_kl (ls.getD (i - 1) none))).set i (some v)
def am_s2 (ls : am_L) (i : Nat) (v : Value) : am_L := ((ls.set (i - 1) (am_kl (ls.getD (i - 1) none))).set i (some v)).set (i + 1) none
/-- the entry: the arguments, a long takes two places -/
def am_ent : List Value → am_L
  | [] => []
  | v :: vs => if v.category = 2 then some v :: none :: am_ent vs else some v :: am_ent vs
def am_ini (n : Nat) (As : List Value) : am_L := am_ent As ++ List.replicate (n - (am_ent As).length) none
/-- the instructions, as transformers; P pc: what comes next -/
def am_ic (v : Int32) (len : Nat) : am_T := fun _ _ X pc ls st h c z => X (pc + len) ls (.int v :: st) h c z
def am_lc (v : Int64) (len : Nat) : am_T := fun _ _ X pc ls st h c z => X (pc + len) ls (.long v :: st) h c z
def am_il (i len : Nat) : am_T := fun _ _ X pc ls st h c z => match am_al ls i with
  | some (.int x) => X (pc + len) ls (.int x :: st) h c z
  | _ => False
def am_ll (i len : Nat) : am_T := fun _ _ X pc ls st h c z => match am_al ls i with
  | some (.long x) => X (pc + len) ls (.long x :: st) h c z
  | _ => False
def am_ra (i len : Nat) : am_T := fun _ _ X pc ls st h c z => match am_al ls i with
  | some (.ref x) => X (pc + len) ls (.ref x :: st) h c z
  | some (.float x) => X (pc + len) ls (.float x :: st) h c z
  | _ => False
def am_is (i len : Nat) : am_T := fun _ _ X pc ls st h c z => match st with
  | .int x :: r => i < ls.length ∧ X (pc + len) (am_s1 ls i (.int x)) r h c z
  | _ => False
def am_ls (i len : Nat) : am_T := fun _ _ X pc ls st h c z => match st with
  | .long x :: r => i + 1 < ls.length ∧ X (pc + len) (am_s2 ls i (.long x)) r h c z
  | _ => False
def am_rs (i len : Nat) : am_T := fun _ _ X pc ls st h c z => match st with
  | .ref x :: r => i < ls.length ∧ X (pc + len) (am_s1 ls i (.ref x)) r h c z
  | _ => False
def am_inc (i : Nat) (n : Int32) : am_T := fun _ _ X pc ls st h c z => match am_al ls i with
  | some (.int x) => i < ls.length ∧ X (pc + 3) (am_s1 ls i (.int (x + n))) st h c z
  | _ => False
def am_ib (f : Int32 → Int32 → Int32) : am_T := fun _ _ X pc ls st h c z => match st with
  | .int y :: .int x :: r => X (pc + 1) ls (.int (f x y) :: r) h c z
  | _ => False
def am_idiv : am_T := fun _ _ X pc ls st h c z => match st with
  | .int y :: .int x :: r => ¬ y = 0 ∧ X (pc + 1) ls (.int (x / y) :: r) h c z
  | _ => False
def am_irem : am_T := fun _ _ X pc ls st h c z => match st with
  | .int y :: .int x :: r => ¬ y = 0 ∧ X (pc + 1) ls (.int (x - x / y * y) :: r) h c z
  | _ => False
def am_lb (f : Int64 → Int64 → Int64) : am_T := fun _ _ X pc ls st h c z => match st with
  | .long y :: .long x :: r => X (pc + 1) ls (.long (f x y) :: r) h c z
  | _ => False
def am_lsh (f : Int64 → Int32 → Int64) : am_T := fun _ _ X pc ls st h c z => match st with
  | .int y :: .long x :: r => X (pc + 1) ls (.long (f x y) :: r) h c z
  | _ => False
def am_lcmp : am_T := fun _ _ X pc ls st h c z => match st with
  | .long y :: .long x :: r => X (pc + 1) ls (.int (lg_cmp x y) :: r) h c z
  | _ => False
def am_i2l : am_T := fun _ _ X pc ls st h c z => match st with
  | .int x :: r => X (pc + 1) ls (.long x.toInt64 :: r) h c z
  | _ => False
def am_l2i : am_T := fun _ _ X pc ls st h c z => match st with
  | .long x :: r => X (pc + 1) ls (.int x.toInt32 :: r) h c z
  | _ => False
def am_i2c : am_T := fun _ _ X pc ls st h c z => match st with
  | .int x :: r => X (pc + 1) ls (.int (x.toUInt32 % 65536).toInt32 :: r) h c z
  | _ => False
def am_dup : am_T := fun _ _ X pc ls st h c z => match st with
  | v :: r => v.category = 1 ∧ X (pc + 1) ls (v :: v :: r) h c z
  | _ => False
def am_pop : am_T := fun _ _ X pc ls st h c z => match st with
  | v :: r => v.category = 1 ∧ X (pc + 1) ls r h c z
  | _ => False
def am_if1 (P : Int32 → Prop) (tgt : Nat) : am_T := fun _ _ X pc ls st h c z => match st with
  | .int x :: r => (P x → X tgt ls r h c z) ∧ (¬ P x → X (pc + 3) ls r h c z)
  | _ => False
def am_if2 (P : Int32 → Int32 → Prop) (tgt : Nat) : am_T := fun _ _ X pc ls st h c z => match st with
  | .int y :: .int x :: r => (P x y → X tgt ls r h c z) ∧ (¬ P x y → X (pc + 3) ls r h c z)
  | _ => False
def am_goto (tgt : Nat) : am_T := fun _ _ X _ ls st h c z => X tgt ls st h c z
def am_iret (ty : FieldType) : am_T := fun _ Q _ _ _ st h _ _ => match st with
  | [.int x] => narrow ty (.int x) = .int x ∧ Q (some (.int x)) h
  | _ => False
def am_lret : am_T := fun _ Q _ _ _ st h _ _ => match st with
  | [.long x] => Q (some (.long x)) h
  | _ => False
def am_vret : am_T := fun _ Q _ _ _ st h _ _ => match st with
  | [] => Q none h
  | _ => False
/-- fields and arrays -/
def am_get (ci k : Nat) : am_T := fun _ _ X pc ls st h c z => match st with
  | .ref a :: r => match h[a]? with
    | some (.inr (d, fs)) => d = ci ∧ match fs[k]? with
      | some v => X (pc + 3) ls (v :: r) h c z
      | none => False
    | _ => False
  | _ => False
def am_put (ci k : Nat) (ty : FieldType) : am_T := fun _ _ X pc ls st h c z => match st with
  | v :: .ref a :: r => match h[a]? with
    | some (.inr (d, fs)) => d = ci ∧ k < fs.length ∧ (match v with | .float _ => False | _ => True) ∧ narrow ty v = v ∧ fits ty v = true ∧ X (pc + 3) ls r (h.set a (.inr (d, fs.set k v))) c z
    | _ => False
  | _ => False
def am_iald : am_T := fun _ _ X pc ls st h c z => match st with
  | .int i :: .ref a :: r => match h[a]? with
    | some (.inl (ty, n, .inl f)) => ty = .int ∧ vp_in i n ∧ X (pc + 1) ls (.int (f i.toNatClampNeg) :: r) h c z
    | _ => False
  | _ => False
def am_cald : am_T := fun _ _ X pc ls st h c z => match st with
  | .int i :: .ref a :: r => match h[a]? with
    | some (.inl (ty, n, .inl f)) => ty = .char ∧ vp_in i n ∧ X (pc + 1) ls (.int (f i.toNatClampNeg) :: r) h c z
    | _ => False
  | _ => False
def am_lald : am_T := fun _ _ X pc ls st h c z => match st with
  | .int i :: .ref a :: r => match h[a]? with
    | some (.inl (ty, n, .inr (.inl f))) => ty = .long ∧ vp_in i n ∧ X (pc + 1) ls (.long (f i.toNatClampNeg) :: r) h c z
    | _ => False
  | _ => False
def am_iast : am_T := fun _ _ X pc ls st h c z => match st with
  | .int x :: .int i :: .ref a :: r => match h[a]? with
    | some (.inl (ty, n, .inl f)) => ty = .int ∧ vp_in i n ∧ X (pc + 1) ls r (h.set a (.inl (ty, n, .inl (upd f i.toNatClampNeg x)))) c z
    | _ => False
  | _ => False
def am_cast : am_T := fun _ _ X pc ls st h c z => match st with
  | .int x :: .int i :: .ref a :: r => match h[a]? with
    | some (.inl (ty, n, .inl f)) => ty = .char ∧ vp_in i n ∧ X (pc + 1) ls r (h.set a (.inl (ty, n, .inl (upd f i.toNatClampNeg (vp_nar .char x))))) c z
    | _ => False
  | _ => False
def am_last : am_T := fun _ _ X pc ls st h c z => match st with
  | .long x :: .int i :: .ref a :: r => match h[a]? with
    | some (.inl (ty, n, .inr (.inl f))) => ty = .long ∧ vp_in i n ∧ X (pc + 1) ls r (h.set a (.inl (ty, n, .inr (.inl (vp_updL f i.toNatClampNeg x))))) c z
    | _ => False
  | _ => False
def am_rald : am_T := fun _ _ X pc ls st h c z => match st with
  | .int i :: .ref a :: r => match h[a]? with
    | some (.inl (ty, n, .inr (.inr (.inr (.inr f))))) => refKind ty = true ∧ vp_in i n ∧ X (pc + 1) ls (va_rf (f i.toNatClampNeg) :: r) h c z
    | _ => False
  | _ => False
def am_rast (ci : Nat) (E : String) : am_T := fun _ _ X pc ls st h c z => match st with
  | .ref v :: .int i :: .ref a :: r => match h[a]? with
    | some (.inl (ty, n, .inr (.inr (.inr (.inr f))))) => ty = .object E ∧ vp_in i n ∧ (match h[v]? with | some (.inr (d, _)) => d = ci | _ => False) ∧ X (pc + 1) ls r (h.set a (.inl (ty, n, .inr (.inr (.inr (.inr (va_up f i.toNatClampNeg (some v)))))))) c z
    | _ => False
  | _ => False
def am_len : am_T := fun _ _ X pc ls st h c z => match st with
  | .ref a :: r => match h[a]? with
    | some (.inl (_, n, _)) => X (pc + 1) ls (.int (Int32.ofNat n) :: r) h c z
    | _ => False
  | _ => False
/-- making cells; mc, ms: what the method may make -/
def am_new (ci N : Nat) (fs : List Value) (mc ms : Nat) : am_T := fun _ _ X pc ls st h c z => c + 1 ≤ mc ∧ z + N ≤ ms ∧ X (pc + 3) ls (.ref h.length :: st) (h ++ [.inr (ci, fs)]) (c + 1) (z + N)
def am_newi (ty : FieldType) (mc ms : Nat) : am_T := fun _ _ X pc ls st h c z => match st with
  | .int n :: r => ¬ n < 0 ∧ n.toNatClampNeg ≤ 65536 ∧ c + 1 ≤ mc ∧ z + n.toNatClampNeg ≤ ms ∧ X (pc + 2) ls (.ref h.length :: r) (h ++ [.inl (ty, n.toNatClampNeg, .inl (fun _ => 0))]) (c + 1) (z + n.toNatClampNeg)
  | _ => False
def am_newl (mc ms : Nat) : am_T := fun _ _ X pc ls st h c z => match st with
  | .int n :: r => ¬ n < 0 ∧ n.toNatClampNeg ≤ 65536 ∧ c + 1 ≤ mc ∧ z + n.toNatClampNeg ≤ ms ∧ X (pc + 2) ls (.ref h.length :: r) (h ++ [.inl (.long, n.toNatClampNeg, .inr (.inl (fun _ => 0)))]) (c + 1) (z + n.toNatClampNeg)
  | _ => False
def am_newr (E : String) (mc ms : Nat) : am_T := fun _ _ X pc ls st h c z => match st with
  | .int n :: r => ¬ n < 0 ∧ n.toNatClampNeg ≤ 65536 ∧ c + 1 ≤ mc ∧ z + n.toNatClampNeg ≤ ms ∧ X (pc + 3) ls (.ref h.length :: r) (h ++ [.inl (.object E, n.toNatClampNeg, .inr (.inr (.inr (.inr (fun _ => none)))))]) (c + 1) (z + n.toNatClampNeg)
  | _ => False
/-- int[n][k]: the outer array, then its rows -/
def am_newm (mc ms : Nat) : am_T := fun _ _ X pc ls st h c z => match st with
  | .int k :: .int n :: r => ¬ n < 0 ∧ ¬ k < 0 ∧ n.toNatClampNeg ≤ 4096 ∧ k.toNatClampNeg ≤ 4096 ∧ c + (1 + n.toNatClampNeg) ≤ mc ∧ z + (n.toNatClampNeg + n.toNatClampNeg * k.toNatClampNeg) ≤ ms ∧
      X (pc + 4) ls (.ref h.length :: r) (h ++ (.inl (.array .int, n.toNatClampNeg, .inr (.inr (.inr (.inr (fun i => if i < n.toNatClampNeg then some (h.length + 1 + i) else none))))) :: List.replicate n.toNatClampNeg (.inl (.int, k.toNatClampNeg, .inl (fun _ => 0))))) (c + 1 + n.toNatClampNeg) (z + n.toNatClampNeg + n.toNatClampNeg * k.toNatClampNeg)
  | _ => False
/-- calls: the method's number, how many values it takes (the receiver among them), the receiver's kind, the room that it takes -/
def am_rest (st : List Value) : Prop := (st.map fun v => v.category).sum ≤ 8
def am_inv (y n ci ymc yms mc ms : Nat) : am_T := fun K _ X pc ls st h c z =>
  n < st.length ∧ am_rest (st.drop (n + 1)) ∧ c + ymc ≤ mc ∧ z + yms ≤ ms ∧ (match st[n]? with
    | some (.ref a) => (match h[a]? with | some (.inr (d, _)) => d = ci | _ => False)
    | _ => False) ∧ K y ((st.take (n + 1)).reverse) h (fun v h' => X (pc + 3) ls (v.toList ++ st.drop (n + 1)) h' (c + ymc) (z + yms))
def am_inm (y n ymc yms mc ms : Nat) : am_T := fun K _ X pc ls st h c z =>
  n < st.length ∧ am_rest (st.drop (n + 1)) ∧ c + ymc ≤ mc ∧ z + yms ≤ ms ∧ (match st[n]? with | some (.ref _) => True | _ => False) ∧
  K y ((st.take (n + 1)).reverse) h (fun v h' => X (pc + 3) ls (v.toList ++ st.drop (n + 1)) h' (c + ymc) (z + yms))
def am_ins (y n ymc yms mc ms : Nat) : am_T := fun K _ X pc ls st h c z =>
  n ≤ st.length ∧ am_rest (st.drop n) ∧ c + ymc ≤ mc ∧ z + yms ≤ ms ∧
  K y ((st.take n).reverse) h (fun v h' => X (pc + 3) ls (v.toList ++ st.drop n) h' (c + ymc) (z + yms))
def am_obj : am_T := fun _ _ X pc ls st h c z => match st with
  | .ref _ :: r => am_rest r ∧ X (pc + 3) ls r h c z
  | _ => False
def am_max : am_T := fun _ _ X pc ls st h c z => match st with
  | .int y :: .int x :: r => am_rest r ∧ X (pc + 3) ls (.int (if x < y then y else x) :: r) h c z
  | _ => False
def am_min : am_T := fun _ _ X pc ls st h c z => match st with
  | .int y :: .int x :: r => am_rest r ∧ X (pc + 3) ls (.int (if y < x then y else x) :: r) h c z
  | _ => False
def am_copy : am_T := fun _ _ X pc ls st h c z => match st with
  | .int n :: .int dp :: .ref a :: .int sp :: .ref b :: r => match h[a]?, h[b]? with
    | some (.inl (ty, n1, .inl g)), some (.inl (ty0, n0, .inl f)) => ty = .int ∧ ty0 = .int ∧ am_rest r ∧ ¬ sp < 0 ∧ ¬ dp < 0 ∧ ¬ n < 0 ∧ sp.toNatClampNeg + n.toNatClampNeg ≤ n0 ∧ dp.toNatClampNeg + n.toNatClampNeg ≤ n1 ∧
        X (pc + 3) ls r (h.set a (.inl (ty, n1, .inl (va_cpy f g sp.toNatClampNeg dp.toNatClampNeg n.toNatClampNeg)))) c z
    | _, _ => False
  | _ => False
def am_no : am_T := fun _ _ _ _ _ _ _ _ _ => False
end
