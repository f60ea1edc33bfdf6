section
-- ===== PART A: goes FIRST, ahead of the names: the tables' words, and 'selects' of the private methods out of them =====
/-- a private method of a class that the tables say can be made, by its rows of tables_1 -/
def lw_okq (q : MethodName × Nat) : Prop := (q.1.cls ≠ "java/lang/invoke/MethodHandle" ∧ q.1.cls ≠ "java/lang/invoke/VarHandle") ∧ Cond.instantiable q.1.cls q.2 ∈ tables_1 ∧ Cond.privateMethod q.1 ∈ tables_1 ∧ Cond.instanceMethod q.1 ∈ tables_1
theorem lw_p0 : lw_okq (⟨"SpeciesRounds$Reader", "begin", "()V"⟩, 9) := ⟨⟨by decide +kernel, by decide +kernel⟩, List.mem_of_getElem? (i := 46) (by decide +kernel), List.mem_of_getElem? (i := 316) (by decide +kernel), List.mem_of_getElem? (i := 317) (by decide +kernel)⟩
theorem lw_p1 : lw_okq (⟨"SpeciesRounds$Reader", "stand", "(I)V"⟩, 9) := ⟨⟨by decide +kernel, by decide +kernel⟩, List.mem_of_getElem? (i := 46) (by decide +kernel), List.mem_of_getElem? (i := 324) (by decide +kernel), List.mem_of_getElem? (i := 325) (by decide +kernel)⟩
theorem lw_p2 : lw_okq (⟨"SpeciesRounds$Reader", "take", "(C)Z"⟩, 9) := ⟨⟨by decide +kernel, by decide +kernel⟩, List.mem_of_getElem? (i := 46) (by decide +kernel), List.mem_of_getElem? (i := 328) (by decide +kernel), List.mem_of_getElem? (i := 329) (by decide +kernel)⟩
theorem lw_p3 : lw_okq (⟨"SpeciesRounds$Reader", "takeLetter", "(I)Z"⟩, 9) := ⟨⟨by decide +kernel, by decide +kernel⟩, List.mem_of_getElem? (i := 46) (by decide +kernel), List.mem_of_getElem? (i := 415) (by decide +kernel), List.mem_of_getElem? (i := 416) (by decide +kernel)⟩
theorem lw_p4 : lw_okq (⟨"SpeciesRounds$Reader", "join", "(III)V"⟩, 9) := ⟨⟨by decide +kernel, by decide +kernel⟩, List.mem_of_getElem? (i := 46) (by decide +kernel), List.mem_of_getElem? (i := 427) (by decide +kernel), List.mem_of_getElem? (i := 428) (by decide +kernel)⟩
theorem lw_p5 : lw_okq (⟨"SpeciesRounds$Reader", "takeLink", "(I)Z"⟩, 9) := ⟨⟨by decide +kernel, by decide +kernel⟩, List.mem_of_getElem? (i := 46) (by decide +kernel), List.mem_of_getElem? (i := 433) (by decide +kernel), List.mem_of_getElem? (i := 434) (by decide +kernel)⟩
theorem lw_p6 : lw_okq (⟨"SpeciesRounds$Reader", "takeMark", "(I)Z"⟩, 9) := ⟨⟨by decide +kernel, by decide +kernel⟩, List.mem_of_getElem? (i := 46) (by decide +kernel), List.mem_of_getElem? (i := 438) (by decide +kernel), List.mem_of_getElem? (i := 439) (by decide +kernel)⟩
theorem lw_p7 : lw_okq (⟨"SpeciesRounds$Reader", "openBranch", "()Z"⟩, 9) := ⟨⟨by decide +kernel, by decide +kernel⟩, List.mem_of_getElem? (i := 46) (by decide +kernel), List.mem_of_getElem? (i := 442) (by decide +kernel), List.mem_of_getElem? (i := 443) (by decide +kernel)⟩
theorem lw_p8 : lw_okq (⟨"SpeciesRounds$Reader", "closeBranch", "()Z"⟩, 9) := ⟨⟨by decide +kernel, by decide +kernel⟩, List.mem_of_getElem? (i := 46) (by decide +kernel), List.mem_of_getElem? (i := 446) (by decide +kernel), List.mem_of_getElem? (i := 447) (by decide +kernel)⟩
theorem lw_p9 : lw_okq (⟨"SpeciesRounds", "putDrawn", "(LSpeciesRounds$Graph;)I"⟩, 13) := ⟨⟨by decide +kernel, by decide +kernel⟩, List.mem_of_getElem? (i := 22) (by decide +kernel), List.mem_of_getElem? (i := 458) (by decide +kernel), List.mem_of_getElem? (i := 459) (by decide +kernel)⟩
theorem lw_p10 : lw_okq (⟨"SpeciesRounds$KeySearch", "sortByCode", "(LSpeciesRounds$Graph;[II)V"⟩, 3) := ⟨⟨by decide +kernel, by decide +kernel⟩, List.mem_of_getElem? (i := 115) (by decide +kernel), List.mem_of_getElem? (i := 470) (by decide +kernel), List.mem_of_getElem? (i := 471) (by decide +kernel)⟩
theorem lw_p11 : lw_okq (⟨"SpeciesRounds$KeySearch", "placeAtom", "(LSpeciesRounds$Graph;IIII)V"⟩, 3) := ⟨⟨by decide +kernel, by decide +kernel⟩, List.mem_of_getElem? (i := 115) (by decide +kernel), List.mem_of_getElem? (i := 475) (by decide +kernel), List.mem_of_getElem? (i := 476) (by decide +kernel)⟩
theorem lw_p12 : lw_okq (⟨"SpeciesRounds$KeySearch", "withOrdersOf", "(LSpeciesRounds$Graph;III)I"⟩, 3) := ⟨⟨by decide +kernel, by decide +kernel⟩, List.mem_of_getElem? (i := 115) (by decide +kernel), List.mem_of_getElem? (i := 479) (by decide +kernel), List.mem_of_getElem? (i := 480) (by decide +kernel)⟩
theorem lw_p13 : lw_okq (⟨"SpeciesRounds", "hasSpecies", "(I)Z"⟩, 13) := ⟨⟨by decide +kernel, by decide +kernel⟩, List.mem_of_getElem? (i := 22) (by decide +kernel), List.mem_of_getElem? (i := 499) (by decide +kernel), List.mem_of_getElem? (i := 500) (by decide +kernel)⟩
theorem lw_p14 : lw_okq (⟨"SpeciesRounds", "hasAtom", "(II)Z"⟩, 13) := ⟨⟨by decide +kernel, by decide +kernel⟩, List.mem_of_getElem? (i := 22) (by decide +kernel), List.mem_of_getElem? (i := 510) (by decide +kernel), List.mem_of_getElem? (i := 511) (by decide +kernel)⟩
theorem lw_p15 : lw_okq (⟨"SpeciesRounds", "hasRule", "(I)Z"⟩, 13) := ⟨⟨by decide +kernel, by decide +kernel⟩, List.mem_of_getElem? (i := 22) (by decide +kernel), List.mem_of_getElem? (i := 545) (by decide +kernel), List.mem_of_getElem? (i := 546) (by decide +kernel)⟩
def lw_privs_1 : List (MethodName × Nat) := [(⟨"SpeciesRounds$Reader", "begin", "()V"⟩, 9), (⟨"SpeciesRounds$Reader", "stand", "(I)V"⟩, 9), (⟨"SpeciesRounds$Reader", "take", "(C)Z"⟩, 9), (⟨"SpeciesRounds$Reader", "takeLetter", "(I)Z"⟩, 9), (⟨"SpeciesRounds$Reader", "join", "(III)V"⟩, 9), (⟨"SpeciesRounds$Reader", "takeLink", "(I)Z"⟩, 9), (⟨"SpeciesRounds$Reader", "takeMark", "(I)Z"⟩, 9), (⟨"SpeciesRounds$Reader", "openBranch", "()Z"⟩, 9), (⟨"SpeciesRounds$Reader", "closeBranch", "()Z"⟩, 9), (⟨"SpeciesRounds", "putDrawn", "(LSpeciesRounds$Graph;)I"⟩, 13), (⟨"SpeciesRounds$KeySearch", "sortByCode", "(LSpeciesRounds$Graph;[II)V"⟩, 3), (⟨"SpeciesRounds$KeySearch", "placeAtom", "(LSpeciesRounds$Graph;IIII)V"⟩, 3), (⟨"SpeciesRounds$KeySearch", "withOrdersOf", "(LSpeciesRounds$Graph;III)I"⟩, 3), (⟨"SpeciesRounds", "hasSpecies", "(I)Z"⟩, 13), (⟨"SpeciesRounds", "hasAtom", "(II)Z"⟩, 13), (⟨"SpeciesRounds", "hasRule", "(I)Z"⟩, 13)]
theorem lw_r1 : ∀ q ∈ lw_privs_1, lw_okq q := List.forall_mem_cons.mpr ⟨lw_p0, List.forall_mem_cons.mpr ⟨lw_p1, List.forall_mem_cons.mpr ⟨lw_p2, List.forall_mem_cons.mpr ⟨lw_p3, List.forall_mem_cons.mpr ⟨lw_p4, List.forall_mem_cons.mpr ⟨lw_p5, List.forall_mem_cons.mpr ⟨lw_p6, List.forall_mem_cons.mpr ⟨lw_p7, List.forall_mem_cons.mpr ⟨lw_p8, List.forall_mem_cons.mpr ⟨lw_p9, List.forall_mem_cons.mpr ⟨lw_p10, List.forall_mem_cons.mpr ⟨lw_p11, List.forall_mem_cons.mpr ⟨lw_p12, List.forall_mem_cons.mpr ⟨lw_p13, List.forall_mem_cons.mpr ⟨lw_p14, List.forall_mem_cons.mpr ⟨lw_p15, fun _ h => absurd h List.not_mem_nil⟩⟩⟩⟩⟩⟩⟩⟩⟩⟩⟩⟩⟩⟩⟩⟩
theorem lw_p16 : lw_okq (⟨"SpeciesRounds", "pourMixture", "(II)V"⟩, 13) := ⟨⟨by decide +kernel, by decide +kernel⟩, List.mem_of_getElem? (i := 22) (by decide +kernel), List.mem_of_getElem? (i := 563) (by decide +kernel), List.mem_of_getElem? (i := 564) (by decide +kernel)⟩
theorem lw_p17 : lw_okq (⟨"SpeciesRounds$Finder", "choose", "(LSpeciesRounds$Rule;LSpeciesRounds$Mixture;I)V"⟩, 3) := ⟨⟨by decide +kernel, by decide +kernel⟩, List.mem_of_getElem? (i := 170) (by decide +kernel), List.mem_of_getElem? (i := 585) (by decide +kernel), List.mem_of_getElem? (i := 586) (by decide +kernel)⟩
theorem lw_p18 : lw_okq (⟨"SpeciesRounds$Finder", "fits", "(LSpeciesRounds$Rule;LSpeciesRounds$Graph;II)Z"⟩, 3) := ⟨⟨by decide +kernel, by decide +kernel⟩, List.mem_of_getElem? (i := 170) (by decide +kernel), List.mem_of_getElem? (i := 589) (by decide +kernel), List.mem_of_getElem? (i := 590) (by decide +kernel)⟩
theorem lw_p19 : lw_okq (⟨"SpeciesRounds$Finder", "keep", "()V"⟩, 3) := ⟨⟨by decide +kernel, by decide +kernel⟩, List.mem_of_getElem? (i := 170) (by decide +kernel), List.mem_of_getElem? (i := 598) (by decide +kernel), List.mem_of_getElem? (i := 599) (by decide +kernel)⟩
theorem lw_p20 : lw_okq (⟨"SpeciesRounds", "takeMixture", "(II)Z"⟩, 13) := ⟨⟨by decide +kernel, by decide +kernel⟩, List.mem_of_getElem? (i := 22) (by decide +kernel), List.mem_of_getElem? (i := 614) (by decide +kernel), List.mem_of_getElem? (i := 615) (by decide +kernel)⟩
theorem lw_p21 : lw_okq (⟨"SpeciesRounds", "takeMatch", "(LSpeciesRounds$Rule;III)Z"⟩, 13) := ⟨⟨by decide +kernel, by decide +kernel⟩, List.mem_of_getElem? (i := 22) (by decide +kernel), List.mem_of_getElem? (i := 622) (by decide +kernel), List.mem_of_getElem? (i := 623) (by decide +kernel)⟩
theorem lw_p22 : lw_okq (⟨"SpeciesRounds$Products", "gatherJoined", "(LSpeciesRounds$Graph;I)I"⟩, 4) := ⟨⟨by decide +kernel, by decide +kernel⟩, List.mem_of_getElem? (i := 187) (by decide +kernel), List.mem_of_getElem? (i := 640) (by decide +kernel), List.mem_of_getElem? (i := 641) (by decide +kernel)⟩
theorem lw_p23 : lw_okq (⟨"SpeciesRounds", "putReaction", "(II)Z"⟩, 13) := ⟨⟨by decide +kernel, by decide +kernel⟩, List.mem_of_getElem? (i := 22) (by decide +kernel), List.mem_of_getElem? (i := 645) (by decide +kernel), List.mem_of_getElem? (i := 646) (by decide +kernel)⟩
theorem lw_p24 : lw_okq (⟨"SpeciesRounds$ReactionList", "holds", "(I)Z"⟩, 2) := ⟨⟨by decide +kernel, by decide +kernel⟩, List.mem_of_getElem? (i := 208) (by decide +kernel), List.mem_of_getElem? (i := 659) (by decide +kernel), List.mem_of_getElem? (i := 660) (by decide +kernel)⟩
theorem lw_p25 : lw_okq (⟨"SpeciesRounds$Table", "countLess", "(IJ)I"⟩, 3) := ⟨⟨by decide +kernel, by decide +kernel⟩, List.mem_of_getElem? (i := 131) (by decide +kernel), List.mem_of_getElem? (i := 671) (by decide +kernel), List.mem_of_getElem? (i := 672) (by decide +kernel)⟩
theorem lw_p26 : lw_okq (⟨"SpeciesRounds", "listDraft", "()V"⟩, 13) := ⟨⟨by decide +kernel, by decide +kernel⟩, List.mem_of_getElem? (i := 22) (by decide +kernel), List.mem_of_getElem? (i := 675) (by decide +kernel), List.mem_of_getElem? (i := 676) (by decide +kernel)⟩
theorem lw_p27 : lw_okq (⟨"SpeciesRoundsModel", "fault", "()I"⟩, 36) := ⟨⟨by decide +kernel, by decide +kernel⟩, List.mem_of_getElem? (i := 694) (by decide +kernel), List.mem_of_getElem? (i := 821) (by decide +kernel), List.mem_of_getElem? (i := 822) (by decide +kernel)⟩
theorem lw_p28 : lw_okq (⟨"SpeciesRoundsModel", "read", "()Z"⟩, 36) := ⟨⟨by decide +kernel, by decide +kernel⟩, List.mem_of_getElem? (i := 694) (by decide +kernel), List.mem_of_getElem? (i := 834) (by decide +kernel), List.mem_of_getElem? (i := 835) (by decide +kernel)⟩
theorem lw_p29 : lw_okq (⟨"SpeciesRoundsModel", "tie", "(III)V"⟩, 36) := ⟨⟨by decide +kernel, by decide +kernel⟩, List.mem_of_getElem? (i := 694) (by decide +kernel), List.mem_of_getElem? (i := 838) (by decide +kernel), List.mem_of_getElem? (i := 839) (by decide +kernel)⟩
theorem lw_p30 : lw_okq (⟨"SpeciesRoundsModel", "load", "(I)I"⟩, 36) := ⟨⟨by decide +kernel, by decide +kernel⟩, List.mem_of_getElem? (i := 694) (by decide +kernel), List.mem_of_getElem? (i := 842) (by decide +kernel), List.mem_of_getElem? (i := 843) (by decide +kernel)⟩
theorem lw_p31 : lw_okq (⟨"SpeciesRoundsModel", "least", "()J"⟩, 36) := ⟨⟨by decide +kernel, by decide +kernel⟩, List.mem_of_getElem? (i := 694) (by decide +kernel), List.mem_of_getElem? (i := 846) (by decide +kernel), List.mem_of_getElem? (i := 847) (by decide +kernel)⟩
def lw_privs_2 : List (MethodName × Nat) := [(⟨"SpeciesRounds", "pourMixture", "(II)V"⟩, 13), (⟨"SpeciesRounds$Finder", "choose", "(LSpeciesRounds$Rule;LSpeciesRounds$Mixture;I)V"⟩, 3), (⟨"SpeciesRounds$Finder", "fits", "(LSpeciesRounds$Rule;LSpeciesRounds$Graph;II)Z"⟩, 3), (⟨"SpeciesRounds$Finder", "keep", "()V"⟩, 3), (⟨"SpeciesRounds", "takeMixture", "(II)Z"⟩, 13), (⟨"SpeciesRounds", "takeMatch", "(LSpeciesRounds$Rule;III)Z"⟩, 13), (⟨"SpeciesRounds$Products", "gatherJoined", "(LSpeciesRounds$Graph;I)I"⟩, 4), (⟨"SpeciesRounds", "putReaction", "(II)Z"⟩, 13), (⟨"SpeciesRounds$ReactionList", "holds", "(I)Z"⟩, 2), (⟨"SpeciesRounds$Table", "countLess", "(IJ)I"⟩, 3), (⟨"SpeciesRounds", "listDraft", "()V"⟩, 13), (⟨"SpeciesRoundsModel", "fault", "()I"⟩, 36), (⟨"SpeciesRoundsModel", "read", "()Z"⟩, 36), (⟨"SpeciesRoundsModel", "tie", "(III)V"⟩, 36), (⟨"SpeciesRoundsModel", "load", "(I)I"⟩, 36), (⟨"SpeciesRoundsModel", "least", "()J"⟩, 36)]
theorem lw_r2 : ∀ q ∈ lw_privs_2, lw_okq q := List.forall_mem_cons.mpr ⟨lw_p16, List.forall_mem_cons.mpr ⟨lw_p17, List.forall_mem_cons.mpr ⟨lw_p18, List.forall_mem_cons.mpr ⟨lw_p19, List.forall_mem_cons.mpr ⟨lw_p20, List.forall_mem_cons.mpr ⟨lw_p21, List.forall_mem_cons.mpr ⟨lw_p22, List.forall_mem_cons.mpr ⟨lw_p23, List.forall_mem_cons.mpr ⟨lw_p24, List.forall_mem_cons.mpr ⟨lw_p25, List.forall_mem_cons.mpr ⟨lw_p26, List.forall_mem_cons.mpr ⟨lw_p27, List.forall_mem_cons.mpr ⟨lw_p28, List.forall_mem_cons.mpr ⟨lw_p29, List.forall_mem_cons.mpr ⟨lw_p30, List.forall_mem_cons.mpr ⟨lw_p31, fun _ h => absurd h List.not_mem_nil⟩⟩⟩⟩⟩⟩⟩⟩⟩⟩⟩⟩⟩⟩⟩⟩
theorem lw_p32 : lw_okq (⟨"SpeciesRoundsModel", "word", "()J"⟩, 36) := ⟨⟨by decide +kernel, by decide +kernel⟩, List.mem_of_getElem? (i := 694) (by decide +kernel), List.mem_of_getElem? (i := 850) (by decide +kernel), List.mem_of_getElem? (i := 851) (by decide +kernel)⟩
theorem lw_p33 : lw_okq (⟨"SpeciesRoundsModel", "advance", "()Z"⟩, 36) := ⟨⟨by decide +kernel, by decide +kernel⟩, List.mem_of_getElem? (i := 694) (by decide +kernel), List.mem_of_getElem? (i := 855) (by decide +kernel), List.mem_of_getElem? (i := 856) (by decide +kernel)⟩
theorem lw_p34 : lw_okq (⟨"SpeciesRoundsModel", "numberOf", "(J)I"⟩, 36) := ⟨⟨by decide +kernel, by decide +kernel⟩, List.mem_of_getElem? (i := 694) (by decide +kernel), List.mem_of_getElem? (i := 859) (by decide +kernel), List.mem_of_getElem? (i := 860) (by decide +kernel)⟩
theorem lw_p35 : lw_okq (⟨"SpeciesRoundsModel", "isSpecies", "(I)Z"⟩, 36) := ⟨⟨by decide +kernel, by decide +kernel⟩, List.mem_of_getElem? (i := 694) (by decide +kernel), List.mem_of_getElem? (i := 871) (by decide +kernel), List.mem_of_getElem? (i := 872) (by decide +kernel)⟩
theorem lw_p36 : lw_okq (⟨"SpeciesRoundsModel", "isAtom", "(II)Z"⟩, 36) := ⟨⟨by decide +kernel, by decide +kernel⟩, List.mem_of_getElem? (i := 694) (by decide +kernel), List.mem_of_getElem? (i := 882) (by decide +kernel), List.mem_of_getElem? (i := 883) (by decide +kernel)⟩
theorem lw_p37 : lw_okq (⟨"SpeciesRoundsModel", "mix", "(II)V"⟩, 36) := ⟨⟨by decide +kernel, by decide +kernel⟩, List.mem_of_getElem? (i := 694) (by decide +kernel), List.mem_of_getElem? (i := 905) (by decide +kernel), List.mem_of_getElem? (i := 906) (by decide +kernel)⟩
theorem lw_p38 : lw_okq (⟨"SpeciesRoundsModel", "put", "(II)V"⟩, 36) := ⟨⟨by decide +kernel, by decide +kernel⟩, List.mem_of_getElem? (i := 694) (by decide +kernel), List.mem_of_getElem? (i := 909) (by decide +kernel), List.mem_of_getElem? (i := 910) (by decide +kernel)⟩
theorem lw_p39 : lw_okq (⟨"SpeciesRoundsModel", "choices", "(I)I"⟩, 36) := ⟨⟨by decide +kernel, by decide +kernel⟩, List.mem_of_getElem? (i := 694) (by decide +kernel), List.mem_of_getElem? (i := 913) (by decide +kernel), List.mem_of_getElem? (i := 914) (by decide +kernel)⟩
theorem lw_p40 : lw_okq (⟨"SpeciesRoundsModel", "choose", "(I)V"⟩, 36) := ⟨⟨by decide +kernel, by decide +kernel⟩, List.mem_of_getElem? (i := 694) (by decide +kernel), List.mem_of_getElem? (i := 917) (by decide +kernel), List.mem_of_getElem? (i := 918) (by decide +kernel)⟩
theorem lw_p41 : lw_okq (⟨"SpeciesRoundsModel", "isMatch", "(II)Z"⟩, 36) := ⟨⟨by decide +kernel, by decide +kernel⟩, List.mem_of_getElem? (i := 694) (by decide +kernel), List.mem_of_getElem? (i := 921) (by decide +kernel), List.mem_of_getElem? (i := 922) (by decide +kernel)⟩
theorem lw_p42 : lw_okq (⟨"SpeciesRoundsModel", "react", "(III)V"⟩, 36) := ⟨⟨by decide +kernel, by decide +kernel⟩, List.mem_of_getElem? (i := 694) (by decide +kernel), List.mem_of_getElem? (i := 929) (by decide +kernel), List.mem_of_getElem? (i := 930) (by decide +kernel)⟩
theorem lw_p43 : lw_okq (⟨"SpeciesRoundsModel", "becomes", "(I)Z"⟩, 36) := ⟨⟨by decide +kernel, by decide +kernel⟩, List.mem_of_getElem? (i := 694) (by decide +kernel), List.mem_of_getElem? (i := 933) (by decide +kernel), List.mem_of_getElem? (i := 934) (by decide +kernel)⟩
theorem lw_p44 : lw_okq (⟨"SpeciesRoundsModel", "yields", "()Z"⟩, 36) := ⟨⟨by decide +kernel, by decide +kernel⟩, List.mem_of_getElem? (i := 694) (by decide +kernel), List.mem_of_getElem? (i := 937) (by decide +kernel), List.mem_of_getElem? (i := 938) (by decide +kernel)⟩
theorem lw_p45 : lw_okq (⟨"SpeciesRoundsModel", "parts", "()V"⟩, 36) := ⟨⟨by decide +kernel, by decide +kernel⟩, List.mem_of_getElem? (i := 694) (by decide +kernel), List.mem_of_getElem? (i := 941) (by decide +kernel), List.mem_of_getElem? (i := 942) (by decide +kernel)⟩
theorem lw_p46 : lw_okq (⟨"SpeciesRoundsModel", "known", "(J)I"⟩, 36) := ⟨⟨by decide +kernel, by decide +kernel⟩, List.mem_of_getElem? (i := 694) (by decide +kernel), List.mem_of_getElem? (i := 945) (by decide +kernel), List.mem_of_getElem? (i := 946) (by decide +kernel)⟩
theorem lw_p47 : lw_okq (⟨"SpeciesRoundsModel", "note", "(II)V"⟩, 36) := ⟨⟨by decide +kernel, by decide +kernel⟩, List.mem_of_getElem? (i := 694) (by decide +kernel), List.mem_of_getElem? (i := 949) (by decide +kernel), List.mem_of_getElem? (i := 950) (by decide +kernel)⟩
def lw_privs_3 : List (MethodName × Nat) := [(⟨"SpeciesRoundsModel", "word", "()J"⟩, 36), (⟨"SpeciesRoundsModel", "advance", "()Z"⟩, 36), (⟨"SpeciesRoundsModel", "numberOf", "(J)I"⟩, 36), (⟨"SpeciesRoundsModel", "isSpecies", "(I)Z"⟩, 36), (⟨"SpeciesRoundsModel", "isAtom", "(II)Z"⟩, 36), (⟨"SpeciesRoundsModel", "mix", "(II)V"⟩, 36), (⟨"SpeciesRoundsModel", "put", "(II)V"⟩, 36), (⟨"SpeciesRoundsModel", "choices", "(I)I"⟩, 36), (⟨"SpeciesRoundsModel", "choose", "(I)V"⟩, 36), (⟨"SpeciesRoundsModel", "isMatch", "(II)Z"⟩, 36), (⟨"SpeciesRoundsModel", "react", "(III)V"⟩, 36), (⟨"SpeciesRoundsModel", "becomes", "(I)Z"⟩, 36), (⟨"SpeciesRoundsModel", "yields", "()Z"⟩, 36), (⟨"SpeciesRoundsModel", "parts", "()V"⟩, 36), (⟨"SpeciesRoundsModel", "known", "(J)I"⟩, 36), (⟨"SpeciesRoundsModel", "note", "(II)V"⟩, 36)]
theorem lw_r3 : ∀ q ∈ lw_privs_3, lw_okq q := List.forall_mem_cons.mpr ⟨lw_p32, List.forall_mem_cons.mpr ⟨lw_p33, List.forall_mem_cons.mpr ⟨lw_p34, List.forall_mem_cons.mpr ⟨lw_p35, List.forall_mem_cons.mpr ⟨lw_p36, List.forall_mem_cons.mpr ⟨lw_p37, List.forall_mem_cons.mpr ⟨lw_p38, List.forall_mem_cons.mpr ⟨lw_p39, List.forall_mem_cons.mpr ⟨lw_p40, List.forall_mem_cons.mpr ⟨lw_p41, List.forall_mem_cons.mpr ⟨lw_p42, List.forall_mem_cons.mpr ⟨lw_p43, List.forall_mem_cons.mpr ⟨lw_p44, List.forall_mem_cons.mpr ⟨lw_p45, List.forall_mem_cons.mpr ⟨lw_p46, List.forall_mem_cons.mpr ⟨lw_p47, fun _ h => absurd h List.not_mem_nil⟩⟩⟩⟩⟩⟩⟩⟩⟩⟩⟩⟩⟩⟩⟩⟩
theorem lw_p48 : lw_okq (⟨"SpeciesRoundsModel", "arrange", "(II)V"⟩, 36) := ⟨⟨by decide +kernel, by decide +kernel⟩, List.mem_of_getElem? (i := 694) (by decide +kernel), List.mem_of_getElem? (i := 953) (by decide +kernel), List.mem_of_getElem? (i := 954) (by decide +kernel)⟩
theorem lw_p49 : lw_okq (⟨"SpeciesRoundsModel", "settle", "()V"⟩, 36) := ⟨⟨by decide +kernel, by decide +kernel⟩, List.mem_of_getElem? (i := 694) (by decide +kernel), List.mem_of_getElem? (i := 957) (by decide +kernel), List.mem_of_getElem? (i := 958) (by decide +kernel)⟩
theorem lw_p50 : lw_okq (⟨"SpeciesRoundsModel", "sortRows", "()V"⟩, 36) := ⟨⟨by decide +kernel, by decide +kernel⟩, List.mem_of_getElem? (i := 694) (by decide +kernel), List.mem_of_getElem? (i := 961) (by decide +kernel), List.mem_of_getElem? (i := 962) (by decide +kernel)⟩
theorem lw_p51 : lw_okq (⟨"SpeciesRoundsModel", "isLess", "(II)Z"⟩, 36) := ⟨⟨by decide +kernel, by decide +kernel⟩, List.mem_of_getElem? (i := 694) (by decide +kernel), List.mem_of_getElem? (i := 965) (by decide +kernel), List.mem_of_getElem? (i := 966) (by decide +kernel)⟩
def lw_privs_4 : List (MethodName × Nat) := [(⟨"SpeciesRoundsModel", "arrange", "(II)V"⟩, 36), (⟨"SpeciesRoundsModel", "settle", "()V"⟩, 36), (⟨"SpeciesRoundsModel", "sortRows", "()V"⟩, 36), (⟨"SpeciesRoundsModel", "isLess", "(II)Z"⟩, 36)]
theorem lw_r4 : ∀ q ∈ lw_privs_4, lw_okq q := List.forall_mem_cons.mpr ⟨lw_p48, List.forall_mem_cons.mpr ⟨lw_p49, List.forall_mem_cons.mpr ⟨lw_p50, List.forall_mem_cons.mpr ⟨lw_p51, fun _ h => absurd h List.not_mem_nil⟩⟩⟩⟩
def lw_privs : List (MethodName × Nat) := lw_privs_1 ++ (lw_privs_2 ++ (lw_privs_3 ++ (lw_privs_4)))
def lw_tbl : List Cond := k2_sels lw_privs ++ tables_1
theorem lw_privs_ok : ∀ q ∈ lw_privs, lw_okq q := by
  show ∀ q ∈ lw_privs_1 ++ (lw_privs_2 ++ (lw_privs_3 ++ (lw_privs_4))), lw_okq q
  exact List.forall_mem_append.mpr ⟨lw_r1, List.forall_mem_append.mpr ⟨lw_r2, List.forall_mem_append.mpr ⟨lw_r3, lw_r4⟩⟩⟩
-- ===== end of PART A; then your names; then what follows =====
end
section
/-! The abstract machine: cells by number from a base on, predicate transformers per instruction, the least fixpoint of a method's code. -/
abbrev am_C : Type := (FieldType × vp_A) ⊕ (Nat × List Value)
abbrev am_H : Type := List am_C
abbrev am_L : Type := List (Option Value)
abbrev am_X : Type := Nat → am_L → List Value → am_H → Nat → Nat → Prop
abbrev am_Q : Type := Option Value → am_H → Prop
abbrev am_K : Type := Nat → List Value → am_H → am_Q → Prop
abbrev am_T : Type := am_K → am_Q → am_X → am_X
/-- the least fixpoint -/
def am_Go (K : am_K) (code : Nat → am_T) (Q : am_Q) : am_X := fun pc ls st h c z =>
  ∀ X : am_X, (∀ pc ls st h c z, code pc K Q X pc ls st h c z → X pc ls st h c z) → X pc ls st h c z
/-- calls keep what follows -/
def am_KM (K : am_K) : Prop := ∀ (y : Nat) (As : List Value) (h : am_H) (Q Q' : am_Q), (∀ v h', Q v h' → Q' v h') → K y As h Q → K y As h Q'
def am_TM (T : am_T) : Prop := ∀ (K : am_K), am_KM K → ∀ (Q Q' : am_Q), (∀ v h', Q v h' → Q' v h') → ∀ (X X' : am_X), (∀ pc ls st h c z, X pc ls st h c z → X' pc ls st h c z) → ∀ pc ls st h c z, T K Q X pc ls st h c z → T K Q' X' pc ls st h c z
theorem am_Go_into {K : am_K} {code : Nat → am_T} {Q : am_Q} (hK : am_KM K) (hM : ∀ pc, am_TM (code pc)) {pc : Nat} {ls : am_L} {st : List Value} {h : am_H} {c z : Nat} (hF : code pc K Q (am_Go K code Q) pc ls st h c z) : am_Go K code Q pc ls st h c z := by
  intro X hX
  refine hX _ _ _ _ _ _ (hM pc K hK Q Q (fun _ _ q => q) _ X (fun pc ls st h c z g => g X hX) _ _ _ _ _ _ hF)
theorem am_Go_iff {K : am_K} {code : Nat → am_T} {Q : am_Q} (hK : am_KM K) (hM : ∀ pc, am_TM (code pc)) (pc : Nat) (ls : am_L) (st : List Value) (h : am_H) (c z : Nat) : am_Go K code Q pc ls st h c z ↔ code pc K Q (am_Go K code Q) pc ls st h c z := by
  refine ⟨fun g => ?_, am_Go_into hK hM⟩
  refine g (fun pc ls st h c z => code pc K Q (am_Go K code Q) pc ls st h c z) (fun pc ls st h c z q => ?_)
  exact hM pc K hK Q Q (fun _ _ q => q) _ _ (fun _ _ _ _ _ _ q => am_Go_into hK hM q) _ _ _ _ _ _ q
theorem am_Go_mono {K : am_K} {code : Nat → am_T} {Q Q' : am_Q} (hK : am_KM K) (hM : ∀ pc, am_TM (code pc)) (hQ : ∀ v h', Q v h' → Q' v h') {pc : Nat} {ls : am_L} {st : List Value} {h : am_H} {c z : Nat} (g : am_Go K code Q pc ls st h c z) : am_Go K code Q' pc ls st h c z := by
  refine g (am_Go K code Q') (fun pc ls st h c z q => am_Go_into hK hM ?_)
  exact hM pc K hK Q Q' hQ _ _ (fun _ _ _ _ _ _ q => q) _ _ _ _ _ _ q
/-- locals -/
def am_kl (d : Option Value) : Option Value := match d with
  | some (.long _) => none
  | some (.double _) => none
  | x => x
def am_al (ls : am_L) (i : Nat) : Option Value := ls.getD i none
def am_s1 (ls : am_L) (i : Nat) (v : Value) : am_L := (ls.set (i - 1) (am_kl (ls.getD (i - 1) none))).set i (some v)
def am_s2 (ls : am_L) (i : Nat) (v : Value) : am_L := ((ls.set (i - 1) (am_kl (ls.getD (i - 1) none))).set i (some v)).set (i + 1) none
/-- the entry: the arguments, a long takes two places -/
def am_ent : List Value → am_L
  | [] => []
  | v :: vs => if v.category = 2 then some v :: none :: am_ent vs else some v :: am_ent vs
def am_ini (n : Nat) (As : List Value) : am_L := am_ent As ++ List.replicate (n - (am_ent As).length) none
/-- the instructions, as transformers; P pc: what comes next -/
def am_ic (v : Int32) (len : Nat) : am_T := fun _ _ X pc ls st h c z => X (pc + len) ls (.int v :: st) h c z
def am_lc (v : Int64) (len : Nat) : am_T := fun _ _ X pc ls st h c z => X (pc + len) ls (.long v :: st) h c z
def am_il (i len : Nat) : am_T := fun _ _ X pc ls st h c z => match am_al ls i with
  | some (.int x) => X (pc + len) ls (.int x :: st) h c z
  | _ => False
def am_ll (i len : Nat) : am_T := fun _ _ X pc ls st h c z => match am_al ls i with
  | some (.long x) => X (pc + len) ls (.long x :: st) h c z
  | _ => False
def am_ra (i len : Nat) : am_T := fun _ _ X pc ls st h c z => match am_al ls i with
  | some (.ref x) => X (pc + len) ls (.ref x :: st) h c z
  | some (.float x) => X (pc + len) ls (.float x :: st) h c z
  | _ => False
def am_is (i len : Nat) : am_T := fun _ _ X pc ls st h c z => match st with
  | .int x :: r => i < ls.length ∧ X (pc + len) (am_s1 ls i (.int x)) r h c z
  | _ => False
def am_ls (i len : Nat) : am_T := fun _ _ X pc ls st h c z => match st with
  | .long x :: r => i + 1 < ls.length ∧ X (pc + len) (am_s2 ls i (.long x)) r h c z
  | _ => False
def am_rs (i len : Nat) : am_T := fun _ _ X pc ls st h c z => match st with
  | .ref x :: r => i < ls.length ∧ X (pc + len) (am_s1 ls i (.ref x)) r h c z
  | _ => False
def am_inc (i : Nat) (n : Int32) : am_T := fun _ _ X pc ls st h c z => match am_al ls i with
  | some (.int x) => i < ls.length ∧ X (pc + 3) (am_s1 ls i (.int (x + n))) st h c z
  | _ => False
def am_ib (f : Int32 → Int32 → Int32) : am_T := fun _ _ X pc ls st h c z => match st with
  | .int y :: .int x :: r => X (pc + 1) ls (.int (f x y) :: r) h c z
  | _ => False
def am_idiv : am_T := fun _ _ X pc ls st h c z => match st with
  | .int y :: .int x :: r => ¬ y = 0 ∧ X (pc + 1) ls (.int (x / y) :: r) h c z
  | _ => False
def am_irem : am_T := fun _ _ X pc ls st h c z => match st with
  | .int y :: .int x :: r => ¬ y = 0 ∧ X (pc + 1) ls (.int (x - x / y * y) :: r) h c z
  | _ => False
def am_lb (f : Int64 → Int64 → Int64) : am_T := fun _ _ X pc ls st h c z => match st with
  | .long y :: .long x :: r => X (pc + 1) ls (.long (f x y) :: r) h c z
  | _ => False
def am_lsh (f : Int64 → Int32 → Int64) : am_T := fun _ _ X pc ls st h c z => match st with
  | .int y :: .long x :: r => X (pc + 1) ls (.long (f x y) :: r) h c z
  | _ => False
def am_lcmp : am_T := fun _ _ X pc ls st h c z => match st with
  | .long y :: .long x :: r => X (pc + 1) ls (.int (lg_cmp x y) :: r) h c z
  | _ => False
def am_i2l : am_T := fun _ _ X pc ls st h c z => match st with
  | .int x :: r => X (pc + 1) ls (.long x.toInt64 :: r) h c z
  | _ => False
def am_l2i : am_T := fun _ _ X pc ls st h c z => match st with
  | .long x :: r => X (pc + 1) ls (.int x.toInt32 :: r) h c z
  | _ => False
def am_i2c : am_T := fun _ _ X pc ls st h c z => match st with
  | .int x :: r => X (pc + 1) ls (.int (x.toUInt32 % 65536).toInt32 :: r) h c z
  | _ => False
def am_dup : am_T := fun _ _ X pc ls st h c z => match st with
  | v :: r => v.category = 1 ∧ X (pc + 1) ls (v :: v :: r) h c z
  | _ => False
def am_pop : am_T := fun _ _ X pc ls st h c z => match st with
  | v :: r => v.category = 1 ∧ X (pc + 1) ls r h c z
  | _ => False
def am_if1 (P : Int32 → Prop) (tgt : Nat) : am_T := fun _ _ X pc ls st h c z => match st with
  | .int x :: r => (P x → X tgt ls r h c z) ∧ (¬ P x → X (pc + 3) ls r h c z)
  | _ => False
def am_if2 (P : Int32 → Int32 → Prop) (tgt : Nat) : am_T := fun _ _ X pc ls st h c z => match st with
  | .int y :: .int x :: r => (P x y → X tgt ls r h c z) ∧ (¬ P x y → X (pc + 3) ls r h c z)
  | _ => False
def am_goto (tgt : Nat) : am_T := fun _ _ X _ ls st h c z => X tgt ls st h c z
def am_iret (ty : FieldType) : am_T := fun _ Q _ _ _ st h _ _ => match st with
  | [.int x] => narrow ty (.int x) = .int x ∧ Q (some (.int x)) h
  | _ => False
def am_lret : am_T := fun _ Q _ _ _ st h _ _ => match st with
  | [.long x] => Q (some (.long x)) h
  | _ => False
def am_vret : am_T := fun _ Q _ _ _ st h _ _ => match st with
  | [] => Q none h
  | _ => False
/-- fields and arrays -/
def am_get (ci k : Nat) : am_T := fun _ _ X pc ls st h c z => match st with
  | .ref a :: r => match h[a]? with
    | some (.inr (d, fs)) => d = ci ∧ match fs[k]? with
      | some v => X (pc + 3) ls (v :: r) h c z
      | none => False
    | _ => False
  | _ => False
def am_put (ci k : Nat) (ty : FieldType) : am_T := fun _ _ X pc ls st h c z => match st with
  | v :: .ref a :: r => match h[a]? with
    | some (.inr (d, fs)) => d = ci ∧ k < fs.length ∧ (match v with | .float _ => False | _ => True) ∧ narrow ty v = v ∧ fits ty v = true ∧ X (pc + 3) ls r (h.set a (.inr (d, fs.set k v))) c z
    | _ => False
  | _ => False
def am_iald : am_T := fun _ _ X pc ls st h c z => match st with
  | .int i :: .ref a :: r => match h[a]? with
    | some (.inl (ty, n, .inl f)) => ty = .int ∧ vp_in i n ∧ X (pc + 1) ls (.int (f i.toNatClampNeg) :: r) h c z
    | _ => False
  | _ => False
def am_cald : am_T := fun _ _ X pc ls st h c z => match st with
  | .int i :: .ref a :: r => match h[a]? with
    | some (.inl (ty, n, .inl f)) => ty = .char ∧ vp_in i n ∧ X (pc + 1) ls (.int (f i.toNatClampNeg) :: r) h c z
    | _ => False
  | _ => False
def am_lald : am_T := fun _ _ X pc ls st h c z => match st with
  | .int i :: .ref a :: r => match h[a]? with
    | some (.inl (ty, n, .inr (.inl f))) => ty = .long ∧ vp_in i n ∧ X (pc + 1) ls (.long (f i.toNatClampNeg) :: r) h c z
    | _ => False
  | _ => False
def am_iast : am_T := fun _ _ X pc ls st h c z => match st with
  | .int x :: .int i :: .ref a :: r => match h[a]? with
    | some (.inl (ty, n, .inl f)) => ty = .int ∧ vp_in i n ∧ X (pc + 1) ls r (h.set a (.inl (ty, n, .inl (upd f i.toNatClampNeg x)))) c z
    | _ => False
  | _ => False
def am_cast : am_T := fun _ _ X pc ls st h c z => match st with
  | .int x :: .int i :: .ref a :: r => match h[a]? with
    | some (.inl (ty, n, .inl f)) => ty = .char ∧ vp_in i n ∧ X (pc + 1) ls r (h.set a (.inl (ty, n, .inl (upd f i.toNatClampNeg (vp_nar .char x))))) c z
    | _ => False
  | _ => False
def am_last : am_T := fun _ _ X pc ls st h c z => match st with
  | .long x :: .int i :: .ref a :: r => match h[a]? with
    | some (.inl (ty, n, .inr (.inl f))) => ty = .long ∧ vp_in i n ∧ X (pc + 1) ls r (h.set a (.inl (ty, n, .inr (.inl (vp_updL f i.toNatClampNeg x))))) c z
    | _ => False
  | _ => False
def am_rald (ty0 : FieldType) : am_T := fun _ _ X pc ls st h c z => match st with
  | .int i :: .ref a :: r => match h[a]? with
    | some (.inl (ty, n, .inr (.inr (.inr (.inr f))))) => ty = ty0 ∧ vp_in i n ∧ X (pc + 1) ls (va_rf (f i.toNatClampNeg) :: r) h c z
    | _ => False
  | _ => False
def am_rast (ci : Nat) (E : String) : am_T := fun _ _ X pc ls st h c z => match st with
  | .ref v :: .int i :: .ref a :: r => match h[a]? with
    | some (.inl (ty, n, .inr (.inr (.inr (.inr f))))) => ty = .object E ∧ vp_in i n ∧ (match h[v]? with | some (.inr (d, _)) => d = ci | _ => False) ∧ X (pc + 1) ls r (h.set a (.inl (ty, n, .inr (.inr (.inr (.inr (va_up f i.toNatClampNeg (some v)))))))) c z
    | _ => False
  | _ => False
def am_len : am_T := fun _ _ X pc ls st h c z => match st with
  | .ref a :: r => match h[a]? with
    | some (.inl (ty, n, _)) => ty = .int ∧ X (pc + 1) ls (.int (Int32.ofNat n) :: r) h c z
    | _ => False
  | _ => False
/-- making cells; mc, ms: what the method may make -/
def am_new (ci N : Nat) (fs : List Value) (mc ms : Nat) : am_T := fun _ _ X pc ls st h c z => c + 1 ≤ mc ∧ z + N ≤ ms ∧ X (pc + 3) ls (.ref h.length :: st) (h ++ [.inr (ci, fs)]) (c + 1) (z + N)
def am_newi (ty : FieldType) (mc ms : Nat) : am_T := fun _ _ X pc ls st h c z => match st with
  | .int n :: r => ¬ n < 0 ∧ n.toNatClampNeg ≤ 65536 ∧ c + 1 ≤ mc ∧ z + n.toNatClampNeg ≤ ms ∧ X (pc + 2) ls (.ref h.length :: r) (h ++ [.inl (ty, n.toNatClampNeg, .inl (fun _ => 0))]) (c + 1) (z + n.toNatClampNeg)
  | _ => False
def am_newl (mc ms : Nat) : am_T := fun _ _ X pc ls st h c z => match st with
  | .int n :: r => ¬ n < 0 ∧ n.toNatClampNeg ≤ 65536 ∧ c + 1 ≤ mc ∧ z + n.toNatClampNeg ≤ ms ∧ X (pc + 2) ls (.ref h.length :: r) (h ++ [.inl (.long, n.toNatClampNeg, .inr (.inl (fun _ => 0)))]) (c + 1) (z + n.toNatClampNeg)
  | _ => False
def am_newr (E : String) (mc ms : Nat) : am_T := fun _ _ X pc ls st h c z => match st with
  | .int n :: r => ¬ n < 0 ∧ n.toNatClampNeg ≤ 65536 ∧ c + 1 ≤ mc ∧ z + n.toNatClampNeg ≤ ms ∧ X (pc + 3) ls (.ref h.length :: r) (h ++ [.inl (.object E, n.toNatClampNeg, .inr (.inr (.inr (.inr (fun _ => none)))))]) (c + 1) (z + n.toNatClampNeg)
  | _ => False
/-- int[n][k]: the outer array, then its rows -/
def am_newm (mc ms : Nat) : am_T := fun _ _ X pc ls st h c z => match st with
  | .int k :: .int n :: r => ¬ n < 0 ∧ ¬ k < 0 ∧ n.toNatClampNeg ≤ 4096 ∧ k.toNatClampNeg ≤ 4096 ∧ c + (1 + n.toNatClampNeg) ≤ mc ∧ z + (n.toNatClampNeg + n.toNatClampNeg * k.toNatClampNeg) ≤ ms ∧
      X (pc + 4) ls (.ref h.length :: r) (h ++ (.inl (.array .int, n.toNatClampNeg, .inr (.inr (.inr (.inr (fun i => if i < n.toNatClampNeg then some (h.length + 1 + i) else none))))) :: List.replicate n.toNatClampNeg (.inl (.int, k.toNatClampNeg, .inl (fun _ => 0))))) (c + 1 + n.toNatClampNeg) (z + n.toNatClampNeg + n.toNatClampNeg * k.toNatClampNeg)
  | _ => False
/-- calls: the method's number, how many values it takes (the receiver among them), the receiver's kind, the room that it takes -/
def am_rest (st : List Value) : Prop := (st.map fun v => v.category).sum ≤ 8
def am_inv (y n ci ymc yms mc ms : Nat) : am_T := fun K _ X pc ls st h c z =>
  n < st.length ∧ am_rest (st.drop (n + 1)) ∧ c + ymc ≤ mc ∧ z + yms ≤ ms ∧ (match st[n]? with
    | some (.ref a) => (match h[a]? with | some (.inr (d, _)) => d = ci | _ => False)
    | _ => False) ∧ K y ((st.take (n + 1)).reverse) h (fun v h' => X (pc + 3) ls (v.toList ++ st.drop (n + 1)) h' (c + ymc) (z + yms))
def am_inm (y n ymc yms mc ms : Nat) : am_T := fun K _ X pc ls st h c z =>
  n < st.length ∧ am_rest (st.drop (n + 1)) ∧ c + ymc ≤ mc ∧ z + yms ≤ ms ∧ (match st[n]? with | some (.ref _) => True | _ => False) ∧
  K y ((st.take (n + 1)).reverse) h (fun v h' => X (pc + 3) ls (v.toList ++ st.drop (n + 1)) h' (c + ymc) (z + yms))
def am_ins (y n ymc yms mc ms : Nat) : am_T := fun K _ X pc ls st h c z =>
  n ≤ st.length ∧ am_rest (st.drop n) ∧ c + ymc ≤ mc ∧ z + yms ≤ ms ∧
  K y ((st.take n).reverse) h (fun v h' => X (pc + 3) ls (v.toList ++ st.drop n) h' (c + ymc) (z + yms))
def am_obj : am_T := fun _ _ X pc ls st h c z => match st with
  | .ref _ :: r => am_rest r ∧ X (pc + 3) ls r h c z
  | _ => False
def am_max : am_T := fun _ _ X pc ls st h c z => match st with
  | .int y :: .int x :: r => am_rest r ∧ X (pc + 3) ls (.int (if x < y then y else x) :: r) h c z
  | _ => False
def am_min : am_T := fun _ _ X pc ls st h c z => match st with
  | .int y :: .int x :: r => am_rest r ∧ X (pc + 3) ls (.int (if y < x then y else x) :: r) h c z
  | _ => False
def am_copy : am_T := fun _ _ X pc ls st h c z => match st with
  | .int n :: .int dp :: .ref a :: .int sp :: .ref b :: r => match h[a]?, h[b]? with
    | some (.inl (ty, n1, .inl g)), some (.inl (ty0, n0, .inl f)) => ty = .int ∧ ty0 = .int ∧ am_rest r ∧ ¬ sp < 0 ∧ ¬ dp < 0 ∧ ¬ n < 0 ∧ sp.toNatClampNeg + n.toNatClampNeg ≤ n0 ∧ dp.toNatClampNeg + n.toNatClampNeg ≤ n1 ∧
        X (pc + 3) ls r (h.set a (.inl (ty, n1, .inl (va_cpy f g sp.toNatClampNeg dp.toNatClampNeg n.toNatClampNeg)))) c z
    | _, _ => False
  | _ => False
def am_no : am_T := fun _ _ _ _ _ _ _ _ _ => False
end
section
theorem am_and {A B C : Prop} (h : B → C) : A ∧ B → A ∧ C := fun q => ⟨q.1, h q.2⟩
theorem am_bra {P A B A' B' : Prop} (h : A → A') (g : B → B') : (P → A) ∧ (¬ P → B) → (P → A') ∧ (¬ P → B') := fun q => ⟨fun a => h (q.1 a), fun a => g (q.2 a)⟩
theorem am_ic_m (v : Int32) (len : Nat) : am_TM (am_ic v len) := by
  intro K hK Q Q' hQ X X' hX pc ls st h c z
  unfold am_ic
  repeat' split
  all_goals repeat' (first | exact fun q => hX _ _ _ _ _ _ q | exact fun q => hQ _ _ q | exact fun q => q | refine am_bra ?_ ?_ | refine am_and ?_ | exact fun q => hK _ _ _ _ _ (fun v h' q => hX _ _ _ _ _ _ q) q | split)
theorem am_lc_m (v : Int64) (len : Nat) : am_TM (am_lc v len) := by
  intro K hK Q Q' hQ X X' hX pc ls st h c z
  unfold am_lc
  repeat' split
  all_goals repeat' (first | exact fun q => hX _ _ _ _ _ _ q | exact fun q => hQ _ _ q | exact fun q => q | refine am_bra ?_ ?_ | refine am_and ?_ | exact fun q => hK _ _ _ _ _ (fun v h' q => hX _ _ _ _ _ _ q) q | split)
theorem am_il_m (i len : Nat) : am_TM (am_il i len) := by
  intro K hK Q Q' hQ X X' hX pc ls st h c z
  unfold am_il
  repeat' split
  all_goals repeat' (first | exact fun q => hX _ _ _ _ _ _ q | exact fun q => hQ _ _ q | exact fun q => q | refine am_bra ?_ ?_ | refine am_and ?_ | exact fun q => hK _ _ _ _ _ (fun v h' q => hX _ _ _ _ _ _ q) q | split)
theorem am_ll_m (i len : Nat) : am_TM (am_ll i len) := by
  intro K hK Q Q' hQ X X' hX pc ls st h c z
  unfold am_ll
  repeat' split
  all_goals repeat' (first | exact fun q => hX _ _ _ _ _ _ q | exact fun q => hQ _ _ q | exact fun q => q | refine am_bra ?_ ?_ | refine am_and ?_ | exact fun q => hK _ _ _ _ _ (fun v h' q => hX _ _ _ _ _ _ q) q | split)
theorem am_ra_m (i len : Nat) : am_TM (am_ra i len) := by
  intro K hK Q Q' hQ X X' hX pc ls st h c z
  unfold am_ra
  repeat' split
  all_goals repeat' (first | exact fun q => hX _ _ _ _ _ _ q | exact fun q => hQ _ _ q | exact fun q => q | refine am_bra ?_ ?_ | refine am_and ?_ | exact fun q => hK _ _ _ _ _ (fun v h' q => hX _ _ _ _ _ _ q) q | split)
theorem am_is_m (i len : Nat) : am_TM (am_is i len) := by
  intro K hK Q Q' hQ X X' hX pc ls st h c z
  unfold am_is
  repeat' split
  all_goals repeat' (first | exact fun q => hX _ _ _ _ _ _ q | exact fun q => hQ _ _ q | exact fun q => q | refine am_bra ?_ ?_ | refine am_and ?_ | exact fun q => hK _ _ _ _ _ (fun v h' q => hX _ _ _ _ _ _ q) q | split)
theorem am_ls_m (i len : Nat) : am_TM (am_ls i len) := by
  intro K hK Q Q' hQ X X' hX pc ls st h c z
  unfold am_ls
  repeat' split
  all_goals repeat' (first | exact fun q => hX _ _ _ _ _ _ q | exact fun q => hQ _ _ q | exact fun q => q | refine am_bra ?_ ?_ | refine am_and ?_ | exact fun q => hK _ _ _ _ _ (fun v h' q => hX _ _ _ _ _ _ q) q | split)
theorem am_rs_m (i len : Nat) : am_TM (am_rs i len) := by
  intro K hK Q Q' hQ X X' hX pc ls st h c z
  unfold am_rs
  repeat' split
  all_goals repeat' (first | exact fun q => hX _ _ _ _ _ _ q | exact fun q => hQ _ _ q | exact fun q => q | refine am_bra ?_ ?_ | refine am_and ?_ | exact fun q => hK _ _ _ _ _ (fun v h' q => hX _ _ _ _ _ _ q) q | split)
theorem am_inc_m (i : Nat) (n : Int32) : am_TM (am_inc i n) := by
  intro K hK Q Q' hQ X X' hX pc ls st h c z
  unfold am_inc
  repeat' split
  all_goals repeat' (first | exact fun q => hX _ _ _ _ _ _ q | exact fun q => hQ _ _ q | exact fun q => q | refine am_bra ?_ ?_ | refine am_and ?_ | exact fun q => hK _ _ _ _ _ (fun v h' q => hX _ _ _ _ _ _ q) q | split)
theorem am_ib_m (f : Int32 → Int32 → Int32) : am_TM (am_ib f) := by
  intro K hK Q Q' hQ X X' hX pc ls st h c z
  unfold am_ib
  repeat' split
  all_goals repeat' (first | exact fun q => hX _ _ _ _ _ _ q | exact fun q => hQ _ _ q | exact fun q => q | refine am_bra ?_ ?_ | refine am_and ?_ | exact fun q => hK _ _ _ _ _ (fun v h' q => hX _ _ _ _ _ _ q) q | split)
theorem am_idiv_m : am_TM (am_idiv) := by
  intro K hK Q Q' hQ X X' hX pc ls st h c z
  unfold am_idiv
  repeat' split
  all_goals repeat' (first | exact fun q => hX _ _ _ _ _ _ q | exact fun q => hQ _ _ q | exact fun q => q | refine am_bra ?_ ?_ | refine am_and ?_ | exact fun q => hK _ _ _ _ _ (fun v h' q => hX _ _ _ _ _ _ q) q | split)
theorem am_irem_m : am_TM (am_irem) := by
  intro K hK Q Q' hQ X X' hX pc ls st h c z
  unfold am_irem
  repeat' split
  all_goals repeat' (first | exact fun q => hX _ _ _ _ _ _ q | exact fun q => hQ _ _ q | exact fun q => q | refine am_bra ?_ ?_ | refine am_and ?_ | exact fun q => hK _ _ _ _ _ (fun v h' q => hX _ _ _ _ _ _ q) q | split)
theorem am_lb_m (f : Int64 → Int64 → Int64) : am_TM (am_lb f) := by
  intro K hK Q Q' hQ X X' hX pc ls st h c z
  unfold am_lb
  repeat' split
  all_goals repeat' (first | exact fun q => hX _ _ _ _ _ _ q | exact fun q => hQ _ _ q | exact fun q => q | refine am_bra ?_ ?_ | refine am_and ?_ | exact fun q => hK _ _ _ _ _ (fun v h' q => hX _ _ _ _ _ _ q) q | split)
theorem am_lsh_m (f : Int64 → Int32 → Int64) : am_TM (am_lsh f) := by
  intro K hK Q Q' hQ X X' hX pc ls st h c z
  unfold am_lsh
  repeat' split
  all_goals repeat' (first | exact fun q => hX _ _ _ _ _ _ q | exact fun q => hQ _ _ q | exact fun q => q | refine am_bra ?_ ?_ | refine am_and ?_ | exact fun q => hK _ _ _ _ _ (fun v h' q => hX _ _ _ _ _ _ q) q | split)
theorem am_lcmp_m : am_TM (am_lcmp) := by
  intro K hK Q Q' hQ X X' hX pc ls st h c z
  unfold am_lcmp
  repeat' split
  all_goals repeat' (first | exact fun q => hX _ _ _ _ _ _ q | exact fun q => hQ _ _ q | exact fun q => q | refine am_bra ?_ ?_ | refine am_and ?_ | exact fun q => hK _ _ _ _ _ (fun v h' q => hX _ _ _ _ _ _ q) q | split)
theorem am_i2l_m : am_TM (am_i2l) := by
  intro K hK Q Q' hQ X X' hX pc ls st h c z
  unfold am_i2l
  repeat' split
  all_goals repeat' (first | exact fun q => hX _ _ _ _ _ _ q | exact fun q => hQ _ _ q | exact fun q => q | refine am_bra ?_ ?_ | refine am_and ?_ | exact fun q => hK _ _ _ _ _ (fun v h' q => hX _ _ _ _ _ _ q) q | split)
theorem am_l2i_m : am_TM (am_l2i) := by
  intro K hK Q Q' hQ X X' hX pc ls st h c z
  unfold am_l2i
  repeat' split
  all_goals repeat' (first | exact fun q => hX _ _ _ _ _ _ q | exact fun q => hQ _ _ q | exact fun q => q | refine am_bra ?_ ?_ | refine am_and ?_ | exact fun q => hK _ _ _ _ _ (fun v h' q => hX _ _ _ _ _ _ q) q | split)
theorem am_i2c_m : am_TM (am_i2c) := by
  intro K hK Q Q' hQ X X' hX pc ls st h c z
  unfold am_i2c
  repeat' split
  all_goals repeat' (first | exact fun q => hX _ _ _ _ _ _ q | exact fun q => hQ _ _ q | exact fun q => q | refine am_bra ?_ ?_ | refine am_and ?_ | exact fun q => hK _ _ _ _ _ (fun v h' q => hX _ _ _ _ _ _ q) q | split)
theorem am_dup_m : am_TM (am_dup) := by
  intro K hK Q Q' hQ X X' hX pc ls st h c z
  unfold am_dup
  repeat' split
  all_goals repeat' (first | exact fun q => hX _ _ _ _ _ _ q | exact fun q => hQ _ _ q | exact fun q => q | refine am_bra ?_ ?_ | refine am_and ?_ | exact fun q => hK _ _ _ _ _ (fun v h' q => hX _ _ _ _ _ _ q) q | split)
theorem am_pop_m : am_TM (am_pop) := by
  intro K hK Q Q' hQ X X' hX pc ls st h c z
  unfold am_pop
  repeat' split
  all_goals repeat' (first | exact fun q => hX _ _ _ _ _ _ q | exact fun q => hQ _ _ q | exact fun q => q | refine am_bra ?_ ?_ | refine am_and ?_ | exact fun q => hK _ _ _ _ _ (fun v h' q => hX _ _ _ _ _ _ q) q | split)
theorem am_if1_m (P : Int32 → Prop) (tgt : Nat) : am_TM (am_if1 P tgt) := by
  intro K hK Q Q' hQ X X' hX pc ls st h c z
  unfold am_if1
  repeat' split
  all_goals repeat' (first | exact fun q => hX _ _ _ _ _ _ q | exact fun q => hQ _ _ q | exact fun q => q | refine am_bra ?_ ?_ | refine am_and ?_ | exact fun q => hK _ _ _ _ _ (fun v h' q => hX _ _ _ _ _ _ q) q | split)
theorem am_if2_m (P : Int32 → Int32 → Prop) (tgt : Nat) : am_TM (am_if2 P tgt) := by
  intro K hK Q Q' hQ X X' hX pc ls st h c z
  unfold am_if2
  repeat' split
  all_goals repeat' (first | exact fun q => hX _ _ _ _ _ _ q | exact fun q => hQ _ _ q | exact fun q => q | refine am_bra ?_ ?_ | refine am_and ?_ | exact fun q => hK _ _ _ _ _ (fun v h' q => hX _ _ _ _ _ _ q) q | split)
theorem am_goto_m (tgt : Nat) : am_TM (am_goto tgt) := by
  intro K hK Q Q' hQ X X' hX pc ls st h c z
  unfold am_goto
  repeat' split
  all_goals repeat' (first | exact fun q => hX _ _ _ _ _ _ q | exact fun q => hQ _ _ q | exact fun q => q | refine am_bra ?_ ?_ | refine am_and ?_ | exact fun q => hK _ _ _ _ _ (fun v h' q => hX _ _ _ _ _ _ q) q | split)
theorem am_iret_m (ty : FieldType) : am_TM (am_iret ty) := by
  intro K hK Q Q' hQ X X' hX pc ls st h c z
  unfold am_iret
  repeat' split
  all_goals repeat' (first | exact fun q => hX _ _ _ _ _ _ q | exact fun q => hQ _ _ q | exact fun q => q | refine am_bra ?_ ?_ | refine am_and ?_ | exact fun q => hK _ _ _ _ _ (fun v h' q => hX _ _ _ _ _ _ q) q | split)
theorem am_lret_m : am_TM (am_lret) := by
  intro K hK Q Q' hQ X X' hX pc ls st h c z
  unfold am_lret
  repeat' split
  all_goals repeat' (first | exact fun q => hX _ _ _ _ _ _ q | exact fun q => hQ _ _ q | exact fun q => q | refine am_bra ?_ ?_ | refine am_and ?_ | exact fun q => hK _ _ _ _ _ (fun v h' q => hX _ _ _ _ _ _ q) q | split)
theorem am_vret_m : am_TM (am_vret) := by
  intro K hK Q Q' hQ X X' hX pc ls st h c z
  unfold am_vret
  repeat' split
  all_goals repeat' (first | exact fun q => hX _ _ _ _ _ _ q | exact fun q => hQ _ _ q | exact fun q => q | refine am_bra ?_ ?_ | refine am_and ?_ | exact fun q => hK _ _ _ _ _ (fun v h' q => hX _ _ _ _ _ _ q) q | split)
theorem am_get_m (ci k : Nat) : am_TM (am_get ci k) := by
  intro K hK Q Q' hQ X X' hX pc ls st h c z
  unfold am_get
  repeat' split
  all_goals repeat' (first | exact fun q => hX _ _ _ _ _ _ q | exact fun q => hQ _ _ q | exact fun q => q | refine am_bra ?_ ?_ | refine am_and ?_ | exact fun q => hK _ _ _ _ _ (fun v h' q => hX _ _ _ _ _ _ q) q | split)
theorem am_put_m (ci k : Nat) (ty : FieldType) : am_TM (am_put ci k ty) := by
  intro K hK Q Q' hQ X X' hX pc ls st h c z
  unfold am_put
  repeat' split
  all_goals repeat' (first | exact fun q => hX _ _ _ _ _ _ q | exact fun q => hQ _ _ q | exact fun q => q | refine am_bra ?_ ?_ | refine am_and ?_ | exact fun q => hK _ _ _ _ _ (fun v h' q => hX _ _ _ _ _ _ q) q | split)
theorem am_iald_m : am_TM (am_iald) := by
  intro K hK Q Q' hQ X X' hX pc ls st h c z
  unfold am_iald
  repeat' split
  all_goals repeat' (first | exact fun q => hX _ _ _ _ _ _ q | exact fun q => hQ _ _ q | exact fun q => q | refine am_bra ?_ ?_ | refine am_and ?_ | exact fun q => hK _ _ _ _ _ (fun v h' q => hX _ _ _ _ _ _ q) q | split)
theorem am_cald_m : am_TM (am_cald) := by
  intro K hK Q Q' hQ X X' hX pc ls st h c z
  unfold am_cald
  repeat' split
  all_goals repeat' (first | exact fun q => hX _ _ _ _ _ _ q | exact fun q => hQ _ _ q | exact fun q => q | refine am_bra ?_ ?_ | refine am_and ?_ | exact fun q => hK _ _ _ _ _ (fun v h' q => hX _ _ _ _ _ _ q) q | split)
theorem am_lald_m : am_TM (am_lald) := by
  intro K hK Q Q' hQ X X' hX pc ls st h c z
  unfold am_lald
  repeat' split
  all_goals repeat' (first | exact fun q => hX _ _ _ _ _ _ q | exact fun q => hQ _ _ q | exact fun q => q | refine am_bra ?_ ?_ | refine am_and ?_ | exact fun q => hK _ _ _ _ _ (fun v h' q => hX _ _ _ _ _ _ q) q | split)
theorem am_iast_m : am_TM (am_iast) := by
  intro K hK Q Q' hQ X X' hX pc ls st h c z
  unfold am_iast
  repeat' split
  all_goals repeat' (first | exact fun q => hX _ _ _ _ _ _ q | exact fun q => hQ _ _ q | exact fun q => q | refine am_bra ?_ ?_ | refine am_and ?_ | exact fun q => hK _ _ _ _ _ (fun v h' q => hX _ _ _ _ _ _ q) q | split)
theorem am_cast_m : am_TM (am_cast) := by
  intro K hK Q Q' hQ X X' hX pc ls st h c z
  unfold am_cast
  repeat' split
  all_goals repeat' (first | exact fun q => hX _ _ _ _ _ _ q | exact fun q => hQ _ _ q | exact fun q => q | refine am_bra ?_ ?_ | refine am_and ?_ | exact fun q => hK _ _ _ _ _ (fun v h' q => hX _ _ _ _ _ _ q) q | split)
theorem am_last_m : am_TM (am_last) := by
  intro K hK Q Q' hQ X X' hX pc ls st h c z
  unfold am_last
  repeat' split
  all_goals repeat' (first | exact fun q => hX _ _ _ _ _ _ q | exact fun q => hQ _ _ q | exact fun q => q | refine am_bra ?_ ?_ | refine am_and ?_ | exact fun q => hK _ _ _ _ _ (fun v h' q => hX _ _ _ _ _ _ q) q | split)
theorem am_rald_m (ty0 : FieldType) : am_TM (am_rald ty0) := by
  intro K hK Q Q' hQ X X' hX pc ls st h c z
  unfold am_rald
  repeat' split
  all_goals repeat' (first | exact fun q => hX _ _ _ _ _ _ q | exact fun q => hQ _ _ q | exact fun q => q | refine am_bra ?_ ?_ | refine am_and ?_ | exact fun q => hK _ _ _ _ _ (fun v h' q => hX _ _ _ _ _ _ q) q | split)
theorem am_rast_m (ci : Nat) (E : String) : am_TM (am_rast ci E) := by
  intro K hK Q Q' hQ X X' hX pc ls st h c z
  unfold am_rast
  repeat' split
  all_goals repeat' (first | exact fun q => hX _ _ _ _ _ _ q | exact fun q => hQ _ _ q | exact fun q => q | refine am_bra ?_ ?_ | refine am_and ?_ | exact fun q => hK _ _ _ _ _ (fun v h' q => hX _ _ _ _ _ _ q) q | split)
theorem am_len_m : am_TM (am_len) := by
  intro K hK Q Q' hQ X X' hX pc ls st h c z
  unfold am_len
  repeat' split
  all_goals repeat' (first | exact fun q => hX _ _ _ _ _ _ q | exact fun q => hQ _ _ q | exact fun q => q | refine am_bra ?_ ?_ | refine am_and ?_ | exact fun q => hK _ _ _ _ _ (fun v h' q => hX _ _ _ _ _ _ q) q | split)
theorem am_new_m (ci N : Nat) (fs : List Value) (mc ms : Nat) : am_TM (am_new ci N fs mc ms) := by
  intro K hK Q Q' hQ X X' hX pc ls st h c z
  unfold am_new
  repeat' split
  all_goals repeat' (first | exact fun q => hX _ _ _ _ _ _ q | exact fun q => hQ _ _ q | exact fun q => q | refine am_bra ?_ ?_ | refine am_and ?_ | exact fun q => hK _ _ _ _ _ (fun v h' q => hX _ _ _ _ _ _ q) q | split)
theorem am_newi_m (ty : FieldType) (mc ms : Nat) : am_TM (am_newi ty mc ms) := by
  intro K hK Q Q' hQ X X' hX pc ls st h c z
  unfold am_newi
  repeat' split
  all_goals repeat' (first | exact fun q => hX _ _ _ _ _ _ q | exact fun q => hQ _ _ q | exact fun q => q | refine am_bra ?_ ?_ | refine am_and ?_ | exact fun q => hK _ _ _ _ _ (fun v h' q => hX _ _ _ _ _ _ q) q | split)
theorem am_newl_m (mc ms : Nat) : am_TM (am_newl mc ms) := by
  intro K hK Q Q' hQ X X' hX pc ls st h c z
  unfold am_newl
  repeat' split
  all_goals repeat' (first | exact fun q => hX _ _ _ _ _ _ q | exact fun q => hQ _ _ q | exact fun q => q | refine am_bra ?_ ?_ | refine am_and ?_ | exact fun q => hK _ _ _ _ _ (fun v h' q => hX _ _ _ _ _ _ q) q | split)
theorem am_newr_m (E : String) (mc ms : Nat) : am_TM (am_newr E mc ms) := by
  intro K hK Q Q' hQ X X' hX pc ls st h c z
  unfold am_newr
  repeat' split
  all_goals repeat' (first | exact fun q => hX _ _ _ _ _ _ q | exact fun q => hQ _ _ q | exact fun q => q | refine am_bra ?_ ?_ | refine am_and ?_ | exact fun q => hK _ _ _ _ _ (fun v h' q => hX _ _ _ _ _ _ q) q | split)
theorem am_newm_m (mc ms : Nat) : am_TM (am_newm mc ms) := by
  intro K hK Q Q' hQ X X' hX pc ls st h c z
  unfold am_newm
  repeat' split
  all_goals repeat' (first | exact fun q => hX _ _ _ _ _ _ q | exact fun q => hQ _ _ q | exact fun q => q | refine am_bra ?_ ?_ | refine am_and ?_ | exact fun q => hK _ _ _ _ _ (fun v h' q => hX _ _ _ _ _ _ q) q | split)
theorem am_inv_m (y n ci ymc yms mc ms : Nat) : am_TM (am_inv y n ci ymc yms mc ms) := by
  intro K hK Q Q' hQ X X' hX pc ls st h c z
  unfold am_inv
  repeat' split
  all_goals repeat' (first | exact fun q => hX _ _ _ _ _ _ q | exact fun q => hQ _ _ q | exact fun q => q | refine am_bra ?_ ?_ | refine am_and ?_ | exact fun q => hK _ _ _ _ _ (fun v h' q => hX _ _ _ _ _ _ q) q | split)
theorem am_inm_m (y n ymc yms mc ms : Nat) : am_TM (am_inm y n ymc yms mc ms) := by
  intro K hK Q Q' hQ X X' hX pc ls st h c z
  unfold am_inm
  repeat' split
  all_goals repeat' (first | exact fun q => hX _ _ _ _ _ _ q | exact fun q => hQ _ _ q | exact fun q => q | refine am_bra ?_ ?_ | refine am_and ?_ | exact fun q => hK _ _ _ _ _ (fun v h' q => hX _ _ _ _ _ _ q) q | split)
theorem am_ins_m (y n ymc yms mc ms : Nat) : am_TM (am_ins y n ymc yms mc ms) := by
  intro K hK Q Q' hQ X X' hX pc ls st h c z
  unfold am_ins
  repeat' split
  all_goals repeat' (first | exact fun q => hX _ _ _ _ _ _ q | exact fun q => hQ _ _ q | exact fun q => q | refine am_bra ?_ ?_ | refine am_and ?_ | exact fun q => hK _ _ _ _ _ (fun v h' q => hX _ _ _ _ _ _ q) q | split)
theorem am_obj_m : am_TM (am_obj) := by
  intro K hK Q Q' hQ X X' hX pc ls st h c z
  unfold am_obj
  repeat' split
  all_goals repeat' (first | exact fun q => hX _ _ _ _ _ _ q | exact fun q => hQ _ _ q | exact fun q => q | refine am_bra ?_ ?_ | refine am_and ?_ | exact fun q => hK _ _ _ _ _ (fun v h' q => hX _ _ _ _ _ _ q) q | split)
theorem am_max_m : am_TM (am_max) := by
  intro K hK Q Q' hQ X X' hX pc ls st h c z
  unfold am_max
  repeat' split
  all_goals repeat' (first | exact fun q => hX _ _ _ _ _ _ q | exact fun q => hQ _ _ q | exact fun q => q | refine am_bra ?_ ?_ | refine am_and ?_ | exact fun q => hK _ _ _ _ _ (fun v h' q => hX _ _ _ _ _ _ q) q | split)
theorem am_min_m : am_TM (am_min) := by
  intro K hK Q Q' hQ X X' hX pc ls st h c z
  unfold am_min
  repeat' split
  all_goals repeat' (first | exact fun q => hX _ _ _ _ _ _ q | exact fun q => hQ _ _ q | exact fun q => q | refine am_bra ?_ ?_ | refine am_and ?_ | exact fun q => hK _ _ _ _ _ (fun v h' q => hX _ _ _ _ _ _ q) q | split)
theorem am_copy_m : am_TM (am_copy) := by
  intro K hK Q Q' hQ X X' hX pc ls st h c z
  unfold am_copy
  repeat' split
  all_goals repeat' (first | exact fun q => hX _ _ _ _ _ _ q | exact fun q => hQ _ _ q | exact fun q => q | refine am_bra ?_ ?_ | refine am_and ?_ | exact fun q => hK _ _ _ _ _ (fun v h' q => hX _ _ _ _ _ _ q) q | split)
theorem am_no_m : am_TM (am_no) := by
  intro K hK Q Q' hQ X X' hX pc ls st h c z
  unfold am_no
  repeat' split
  all_goals repeat' (first | exact fun q => hX _ _ _ _ _ _ q | exact fun q => hQ _ _ q | exact fun q => q | refine am_bra ?_ ?_ | refine am_and ?_ | exact fun q => hK _ _ _ _ _ (fun v h' q => hX _ _ _ _ _ _ q) q | split)
end
section
/-! What an abstract state is of a machine's. -/
def am_cv (S : Nat → Nat) (B : Nat) (v : Value) : Value := match v with
  | .ref k => .ref (B + k)
  | .float u => .ref (S u.toNat)
  | x => x
theorem am_cv_cat (S : Nat → Nat) (B : Nat) (v : Value) : (am_cv S B v).category = v.category := by cases v <;> rfl
def am_ca (B : Nat) (a : vp_A) : vp_A := match a with
  | (n, .inr (.inr (.inr (.inr f)))) => (n, .inr (.inr (.inr (.inr (fun j => (f j).map (fun k => B + k))))))
  | x => x
def am_cc (cA : FieldType → ClassId) (S : Nat → Nat) (B : Nat) (e : am_C) : va_E := match e with
  | .inl (ty, a) => .inl (cA ty, am_ca B a)
  | .inr (ci, fs) => .inr (ci, fs.map (am_cv S B))
def am_conc (cA : FieldType → ClassId) (S : Nat → Nat) (B : Nat) (h : am_H) : va_W := h.zipIdx.map (fun q => (B + q.2, am_cc cA S B q.1))
theorem am_conc_at (cA : FieldType → ClassId) (S : Nat → Nat) (B : Nat) (h : am_H) (k : Nat) : (am_conc cA S B h)[k]? = h[k]?.map (fun e => (B + k, am_cc cA S B e)) := by
  unfold am_conc
  rw [List.getElem?_map, List.getElem?_zipIdx]
  cases h[k]? <;> simp
theorem am_conc_some {cA : FieldType → ClassId} {S : Nat → Nat} {B : Nat} {h : am_H} {k : Nat} {e : am_C} (hk : h[k]? = some e) : (am_conc cA S B h)[k]? = some (B + k, am_cc cA S B e) := by
  rw [am_conc_at, hk]; rfl
theorem am_conc_set (cA : FieldType → ClassId) (S : Nat → Nat) (B : Nat) (h : am_H) (k : Nat) (e : am_C) : (am_conc cA S B h).set k (B + k, am_cc cA S B e) = am_conc cA S B (h.set k e) := by
  apply List.ext_getElem?
  intro j
  rw [am_conc_at, List.getElem?_set, List.getElem?_set]
  have hlen : (am_conc cA S B h).length = h.length := by simp [am_conc]
  rw [hlen]
  by_cases hj : k = j
  · subst hj
    by_cases hl : k < h.length <;> simp [hl]
  · simp [hj, am_conc_at]
theorem am_conc_app (cA : FieldType → ClassId) (S : Nat → Nat) (B : Nat) (h h2 : am_H) : am_conc cA S B (h ++ h2) = am_conc cA S B h ++ (h2.zipIdx h.length).map (fun q => (B + q.2, am_cc cA S B q.1)) := by
  unfold am_conc
  rw [List.zipIdx_append, List.map_append]
  simp
theorem am_conc_D (cA : FieldType → ClassId) (S : Nat → Nat) (B : Nat) (h : am_H) : va_D (fun q => B ≤ q) (am_conc cA S B h) := by
  refine ⟨fun i j p q hi hj hpq => ?_, fun k q hk => ?_⟩
  · rw [am_conc_at] at hi hj
    cases h1 : h[i]? with
    | none => rw [h1] at hi; cases hi
    | some x =>
      cases h2 : h[j]? with
      | none => rw [h2] at hj; cases hj
      | some y =>
        rw [h1] at hi; rw [h2] at hj
        cases hi; cases hj
        have : B + i = B + j := hpq
        omega
  · rw [am_conc_at] at hk
    cases h1 : h[k]? with
    | none => rw [h1] at hk; cases hk
    | some x =>
      rw [h1] at hk
      cases hk
      exact Nat.le_add_right B k
def am_R (D : va_G) (cl : List vw_C) (cA : FieldType → ClassId) (S : Nat → Nat) (H0 : Heap) (h : am_H) (H : Heap) : Prop := H.size = H0.size + h.length ∧ (∀ q : Nat, q < H0.size → H[q]? = H0[q]?) ∧ va_P D cl (am_conc cA S H0.size h) H
/-- locals -/
def am_lv (S : Nat → Nat) (B : Nat) (lsA : Array Slot) (nL : Nat) (ls : am_L) : Prop := lsA.size = nL ∧ ls.length = nL ∧ lv_wf lsA ∧ ∀ (i : Nat) (v : Value), ls[i]? = some (some v) → lsA[i]? = some (.val (am_cv S B v))
def am_lst (S : Nat → Nat) (B : Nat) (ls : am_L) : List (Nat × Value) := ls.zipIdx.filterMap (fun q => q.1.map (fun v => (q.2, am_cv S B v)))
theorem am_lst_mem {S : Nat → Nat} {B : Nat} {ls : am_L} {i : Nat} {w : Value} : (i, w) ∈ am_lst S B ls ↔ ∃ v, ls[i]? = some (some v) ∧ w = am_cv S B v := by
  unfold am_lst
  rw [List.mem_filterMap]
  constructor
  · rintro ⟨⟨o, j⟩, hm, hv⟩
    cases o with
    | none => cases hv
    | some v =>
      have hv : (j, am_cv S B v) = (i, w) := by simpa using hv
      obtain ⟨rfl, rfl⟩ := Prod.mk.inj hv
      exact ⟨v, by simpa using List.mem_zipIdx_iff_getElem?.mp hm, rfl⟩
  · rintro ⟨v, hv, rfl⟩
    exact ⟨(some v, i), List.mem_zipIdx_iff_getElem?.mpr (by simpa using hv), by simp⟩
theorem am_lv.has {S : Nat → Nat} {B : Nat} {lsA : Array Slot} {nL : Nat} {ls : am_L} (h : am_lv S B lsA nL ls) : lv_has lsA nL (am_lst S B ls) := by
  refine ⟨h.1, h.2.2.1, fun q hq => ?_⟩
  obtain ⟨v, hv, e⟩ := am_lst_mem.mp (show (q.1, q.2) ∈ _ from hq)
  rw [e]
  exact h.2.2.2 _ _ hv
theorem am_al_some {ls : am_L} {i : Nat} {v : Value} (h : am_al ls i = some v) : ls[i]? = some (some v) := by
  unfold am_al at h
  rw [List.getD_eq_getElem?_getD] at h
  cases h1 : ls[i]? with
  | none => rw [h1] at h; cases h
  | some o => rw [h1] at h; exact congrArg some h
theorem am_lv.at {S : Nat → Nat} {B : Nat} {lsA : Array Slot} {nL : Nat} {ls : am_L} (h : am_lv S B lsA nL ls) {i : Nat} {v : Value} (hv : am_al ls i = some v) : lsA[i]? = some (.val (am_cv S B v)) := h.2.2.2 _ _ (am_al_some hv)
theorem am_kl_some {d : Option Value} {v : Value} (h : am_kl d = some v) : d = some v ∧ ¬ v.category = 2 := by
  unfold am_kl at h
  split at h
  · cases h
  · cases h
  · next h1 h2 =>
    subst h
    refine ⟨rfl, ?_⟩
    cases v <;> simp_all [Value.category]
theorem am_lv.s1 {S : Nat → Nat} {B : Nat} {lsA ls' : Array Slot} {nL : Nat} {ls : am_L} {i : Nat} {v : Value} (hn : i < nL) (h : am_lv S B lsA nL ls) (g : lv_has ls' nL ((i, am_cv S B v) :: (am_lst S B ls).filter (fun q => !(q.1 == i) && !(q.1 + 1 == i && q.2.category == 2)))) : am_lv S B ls' nL (am_s1 ls i v) := by
  refine ⟨g.1, by simp [am_s1, h.2.1], g.2.1, fun j w hj => ?_⟩
  by_cases e : j = i
  · subst e
    unfold am_s1 at hj
    rw [List.getElem?_set_self (by simp [h.2.1, hn])] at hj
    cases hj
    exact g.2.2 _ List.mem_cons_self
  · unfold am_s1 at hj
    rw [List.getElem?_set_ne (fun q => e q.symm)] at hj
    refine g.2.2 (j, am_cv S B w) (List.mem_cons_of_mem _ (List.mem_filter.mpr ?_))
    by_cases e2 : j + 1 = i
    · have e3 : i - 1 = j := by omega
      have hjl : j < ls.length := by rw [h.2.1]; omega
      rw [e3, List.getElem?_set_self hjl] at hj
      obtain ⟨k1, k2⟩ := am_kl_some (Option.some.inj hj)
      refine ⟨am_lst_mem.mpr ⟨w, am_al_some k1, rfl⟩, ?_⟩
      simp [e, am_cv_cat, k2]
    · by_cases e4 : i - 1 = j
      · exact absurd (show j = i by omega) e
      · rw [List.getElem?_set_ne e4] at hj
        refine ⟨am_lst_mem.mpr ⟨w, hj, rfl⟩, ?_⟩
        simp [e, e2]
theorem am_lv.s2 {S : Nat → Nat} {B : Nat} {lsA ls' : Array Slot} {nL : Nat} {ls : am_L} {i : Nat} {v : Value} (hn : i + 1 < nL) (h : am_lv S B lsA nL ls) (g : lv_has ls' nL ((i, am_cv S B v) :: (am_lst S B ls).filter (fun q => !(q.1 == i) && (!(q.1 == i + 1) && !(q.1 + 1 == i && q.2.category == 2))))) : am_lv S B ls' nL (am_s2 ls i v) := by
  refine ⟨g.1, by simp [am_s2, h.2.1], g.2.1, fun j w hj => ?_⟩
  unfold am_s2 at hj
  by_cases e0 : j = i + 1
  · subst e0
    rw [List.getElem?_set_self (by simp [h.2.1, hn])] at hj
    cases hj
  · rw [List.getElem?_set_ne (fun q => e0 q.symm)] at hj
    by_cases e : j = i
    · subst e
      rw [List.getElem?_set_self (by simp [h.2.1]; omega)] at hj
      cases hj
      exact g.2.2 _ List.mem_cons_self
    · rw [List.getElem?_set_ne (fun q => e q.symm)] at hj
      refine g.2.2 (j, am_cv S B w) (List.mem_cons_of_mem _ (List.mem_filter.mpr ?_))
      by_cases e2 : j + 1 = i
      · have e3 : i - 1 = j := by omega
        have hjl : j < ls.length := by rw [h.2.1]; omega
        rw [e3, List.getElem?_set_self hjl] at hj
        obtain ⟨k1, k2⟩ := am_kl_some (Option.some.inj hj)
        refine ⟨am_lst_mem.mpr ⟨w, am_al_some k1, rfl⟩, ?_⟩
        simp [e, e0, am_cv_cat, k2]
      · by_cases e4 : i - 1 = j
        · exact absurd (show j = i by omega) e
        · rw [List.getElem?_set_ne e4] at hj
          refine ⟨am_lst_mem.mpr ⟨w, hj, rfl⟩, ?_⟩
          simp [e, e0, e2]
/-- the entry -/
theorem am_ent_args (S : Nat → Nat) (B : Nat) : ∀ (As : List Value) (n i : Nat) (v : Value), (am_ent As)[i]? = some (some v) → (n + i, am_cv S B v) ∈ lv_args n (As.map (am_cv S B))
  | [], n, i, v, h => by simp [am_ent] at h
  | a :: As, n, i, v, h => by
    unfold am_ent at h
    show _ ∈ (n, am_cv S B a) :: lv_args (if (am_cv S B a).category = 2 then n + 2 else n + 1) (As.map (am_cv S B))
    rw [am_cv_cat]
    by_cases hc : a.category = 2
    · rw [if_pos hc] at h
      rw [if_pos hc]
      match i, h with
      | 0, h => cases h; exact List.mem_cons_self
      | 1, h => cases h
      | i + 2, h =>
        refine List.mem_cons_of_mem _ ?_
        have := am_ent_args S B As (n + 2) i v h
        rw [show n + (i + 2) = n + 2 + i by omega]
        exact this
    · rw [if_neg hc] at h
      rw [if_neg hc]
      match i, h with
      | 0, h => cases h; exact List.mem_cons_self
      | i + 1, h =>
        refine List.mem_cons_of_mem _ ?_
        have := am_ent_args S B As (n + 1) i v h
        rw [show n + (i + 1) = n + 1 + i by omega]
        exact this
theorem am_ent_len (S : Nat → Nat) (B : Nat) : ∀ (As : List Value), (lg_sl (As.map (am_cv S B))).length = (am_ent As).length
  | [] => rfl
  | a :: As => by
    have ih := am_ent_len S B As
    unfold lg_sl at ih ⊢
    rw [List.map_cons, List.flatMap_cons, List.length_append, ih, show am_ent (a :: As) = (if a.category = 2 then some a :: none :: am_ent As else some a :: am_ent As) from rfl]
    rw [am_cv_cat]
    by_cases hc : a.category = 2
    · simp [hc]; omega
    · simp [hc]; omega
end
section
def am_G : List Cond := lw_tbl.filter goodWord
theorem am_G_of {w : Cond} (h : w ∈ tables_1) (hg : goodWord w = true) : w ∈ am_G := List.mem_filter.mpr ⟨List.mem_append_right _ h, hg⟩
theorem am_tb {w : Cond} (i : Nat) (h : tables_1[i]? = some w) : w ∈ tables_1 := List.mem_of_getElem? h
def am_R0 : String := "SpeciesRounds"
def am_T0 : u_T := fun k => match k with
  | 0 => ("SpeciesRounds", "cap", "I", true)
  | 1 => ("SpeciesRounds", "line", "LSpeciesRounds$Line;", true)
  | 2 => ("SpeciesRounds", "reader", "LSpeciesRounds$Reader;", true)
  | 3 => ("SpeciesRounds", "keySearch", "LSpeciesRounds$KeySearch;", true)
  | 4 => ("SpeciesRounds", "table", "LSpeciesRounds$Table;", true)
  | 5 => ("SpeciesRounds", "rules", "[LSpeciesRounds$Rule;", true)
  | 6 => ("SpeciesRounds", "ruleCount", "I", false)
  | 7 => ("SpeciesRounds", "mixture", "LSpeciesRounds$Mixture;", true)
  | 8 => ("SpeciesRounds", "finder", "LSpeciesRounds$Finder;", true)
  | 9 => ("SpeciesRounds", "products", "LSpeciesRounds$Products;", true)
  | 10 => ("SpeciesRounds", "list", "LSpeciesRounds$ReactionList;", true)
  | 11 => ("SpeciesRounds", "draft", "LSpeciesRounds$ReactionList;", true)
  | _ => ("SpeciesRounds", "written", "[I", true)
def am_ty0 : Nat → FieldType := fun k => match k with
  | 0 => .int
  | 1 => .object "SpeciesRounds$Line"
  | 2 => .object "SpeciesRounds$Reader"
  | 3 => .object "SpeciesRounds$KeySearch"
  | 4 => .object "SpeciesRounds$Table"
  | 5 => .array (.object "SpeciesRounds$Rule")
  | 6 => .int
  | 7 => .object "SpeciesRounds$Mixture"
  | 8 => .object "SpeciesRounds$Finder"
  | 9 => .object "SpeciesRounds$Products"
  | 10 => .object "SpeciesRounds$ReactionList"
  | 11 => .object "SpeciesRounds$ReactionList"
  | _ => .array .int
theorem am_nm0 : ∀ a, a < 13 → ∀ b, b < 13 → a ≠ b → (am_T0 a).2.1 ≠ (am_T0 b).2.1 := by decide +kernel
theorem am_tyok0 : ∀ k, k < 13 → parseFieldDescriptor (am_T0 k).2.2.1 = some (am_ty0 k) := by decide +kernel
theorem am_in0 : ∀ w ∈ u_ws am_R0 am_T0 13, w ∈ am_G := List.forall_mem_cons.mpr ⟨am_G_of (am_tb 264 (by decide +kernel)) (by decide +kernel), List.forall_mem_cons.mpr ⟨am_G_of (am_tb 266 (by decide +kernel)) (by decide +kernel), List.forall_mem_cons.mpr ⟨am_G_of (am_tb 268 (by decide +kernel)) (by decide +kernel), List.forall_mem_cons.mpr ⟨am_G_of (am_tb 270 (by decide +kernel)) (by decide +kernel), List.forall_mem_cons.mpr ⟨am_G_of (am_tb 272 (by decide +kernel)) (by decide +kernel), List.forall_mem_cons.mpr ⟨am_G_of (am_tb 274 (by decide +kernel)) (by decide +kernel), List.forall_mem_cons.mpr ⟨am_G_of (am_tb 276 (by decide +kernel)) (by decide +kernel), List.forall_mem_cons.mpr ⟨am_G_of (am_tb 278 (by decide +kernel)) (by decide +kernel), List.forall_mem_cons.mpr ⟨am_G_of (am_tb 280 (by decide +kernel)) (by decide +kernel), List.forall_mem_cons.mpr ⟨am_G_of (am_tb 282 (by decide +kernel)) (by decide +kernel), List.forall_mem_cons.mpr ⟨am_G_of (am_tb 284 (by decide +kernel)) (by decide +kernel), List.forall_mem_cons.mpr ⟨am_G_of (am_tb 286 (by decide +kernel)) (by decide +kernel), List.forall_mem_cons.mpr ⟨am_G_of (am_tb 288 (by decide +kernel)) (by decide +kernel), fun _ h => absurd h List.not_mem_nil⟩⟩⟩⟩⟩⟩⟩⟩⟩⟩⟩⟩⟩
theorem am_inst0 : Cond.instantiable am_R0 13 ∈ am_G := am_G_of (am_tb 22 (by decide +kernel)) (by decide +kernel)
theorem am_ini0 : Cond.initialized am_R0 ∈ am_G := am_G_of (am_tb 1 (by decide +kernel)) (by decide +kernel)
def am_R1 : String := "SpeciesRounds$Finder"
def am_T1 : u_T := fun k => match k with
  | 0 => ("SpeciesRounds$Finder", "chosen", "[I", true)
  | 1 => ("SpeciesRounds$Finder", "found", "[I", true)
  | _ => ("SpeciesRounds$Finder", "count", "I", false)
def am_ty1 : Nat → FieldType := fun k => match k with
  | 0 => .array .int
  | 1 => .array .int
  | _ => .int
theorem am_nm1 : ∀ a, a < 3 → ∀ b, b < 3 → a ≠ b → (am_T1 a).2.1 ≠ (am_T1 b).2.1 := by decide +kernel
theorem am_tyok1 : ∀ k, k < 3 → parseFieldDescriptor (am_T1 k).2.2.1 = some (am_ty1 k) := by decide +kernel
theorem am_in1 : ∀ w ∈ u_ws am_R1 am_T1 3, w ∈ am_G := List.forall_mem_cons.mpr ⟨am_G_of (am_tb 179 (by decide +kernel)) (by decide +kernel), List.forall_mem_cons.mpr ⟨am_G_of (am_tb 181 (by decide +kernel)) (by decide +kernel), List.forall_mem_cons.mpr ⟨am_G_of (am_tb 183 (by decide +kernel)) (by decide +kernel), fun _ h => absurd h List.not_mem_nil⟩⟩⟩
theorem am_inst1 : Cond.instantiable am_R1 3 ∈ am_G := am_G_of (am_tb 170 (by decide +kernel)) (by decide +kernel)
theorem am_ini1 : Cond.initialized am_R1 ∈ am_G := am_G_of (am_tb 8 (by decide +kernel)) (by decide +kernel)
def am_R2 : String := "SpeciesRounds$Graph"
def am_T2 : u_T := fun k => match k with
  | 0 => ("SpeciesRounds$Graph", "codes", "[I", true)
  | 1 => ("SpeciesRounds$Graph", "orders", "[[I", true)
  | 2 => ("SpeciesRounds$Graph", "everyAtom", "[I", true)
  | _ => ("SpeciesRounds$Graph", "atoms", "I", false)
def am_ty2 : Nat → FieldType := fun k => match k with
  | 0 => .array .int
  | 1 => .array (.array .int)
  | 2 => .array .int
  | _ => .int
theorem am_nm2 : ∀ a, a < 4 → ∀ b, b < 4 → a ≠ b → (am_T2 a).2.1 ≠ (am_T2 b).2.1 := by decide +kernel
theorem am_tyok2 : ∀ k, k < 4 → parseFieldDescriptor (am_T2 k).2.2.1 = some (am_ty2 k) := by decide +kernel
theorem am_in2 : ∀ w ∈ u_ws am_R2 am_T2 4, w ∈ am_G := List.forall_mem_cons.mpr ⟨am_G_of (am_tb 74 (by decide +kernel)) (by decide +kernel), List.forall_mem_cons.mpr ⟨am_G_of (am_tb 76 (by decide +kernel)) (by decide +kernel), List.forall_mem_cons.mpr ⟨am_G_of (am_tb 78 (by decide +kernel)) (by decide +kernel), List.forall_mem_cons.mpr ⟨am_G_of (am_tb 80 (by decide +kernel)) (by decide +kernel), fun _ h => absurd h List.not_mem_nil⟩⟩⟩⟩
theorem am_inst2 : Cond.instantiable am_R2 4 ∈ am_G := am_G_of (am_tb 52 (by decide +kernel)) (by decide +kernel)
theorem am_ini2 : Cond.initialized am_R2 ∈ am_G := am_G_of (am_tb 4 (by decide +kernel)) (by decide +kernel)
def am_R3 : String := "SpeciesRounds$KeySearch"
def am_T3 : u_T := fun k => match k with
  | 0 => ("SpeciesRounds$KeySearch", "sorted", "[I", true)
  | 1 => ("SpeciesRounds$KeySearch", "ordering", "[I", true)
  | _ => ("SpeciesRounds$KeySearch", "least", "[I", true)
def am_ty3 : Nat → FieldType := fun k => match k with
  | 0 => .array .int
  | 1 => .array .int
  | _ => .array .int
theorem am_nm3 : ∀ a, a < 3 → ∀ b, b < 3 → a ≠ b → (am_T3 a).2.1 ≠ (am_T3 b).2.1 := by decide +kernel
theorem am_tyok3 : ∀ k, k < 3 → parseFieldDescriptor (am_T3 k).2.2.1 = some (am_ty3 k) := by decide +kernel
theorem am_in3 : ∀ w ∈ u_ws am_R3 am_T3 3, w ∈ am_G := List.forall_mem_cons.mpr ⟨am_G_of (am_tb 123 (by decide +kernel)) (by decide +kernel), List.forall_mem_cons.mpr ⟨am_G_of (am_tb 125 (by decide +kernel)) (by decide +kernel), List.forall_mem_cons.mpr ⟨am_G_of (am_tb 127 (by decide +kernel)) (by decide +kernel), fun _ h => absurd h List.not_mem_nil⟩⟩⟩
theorem am_inst3 : Cond.instantiable am_R3 3 ∈ am_G := am_G_of (am_tb 115 (by decide +kernel)) (by decide +kernel)
theorem am_ini3 : Cond.initialized am_R3 ∈ am_G := am_G_of (am_tb 5 (by decide +kernel)) (by decide +kernel)
def am_R4 : String := "SpeciesRounds$Line"
def am_T4 : u_T := fun k => match k with
  | 0 => ("SpeciesRounds$Line", "typed", "[C", true)
  | _ => ("SpeciesRounds$Line", "length", "I", false)
def am_ty4 : Nat → FieldType := fun k => match k with
  | 0 => .array .char
  | _ => .int
theorem am_nm4 : ∀ a, a < 2 → ∀ b, b < 2 → a ≠ b → (am_T4 a).2.1 ≠ (am_T4 b).2.1 := by decide +kernel
theorem am_tyok4 : ∀ k, k < 2 → parseFieldDescriptor (am_T4 k).2.2.1 = some (am_ty4 k) := by decide +kernel
theorem am_in4 : ∀ w ∈ u_ws am_R4 am_T4 2, w ∈ am_G := List.forall_mem_cons.mpr ⟨am_G_of (am_tb 39 (by decide +kernel)) (by decide +kernel), List.forall_mem_cons.mpr ⟨am_G_of (am_tb 41 (by decide +kernel)) (by decide +kernel), fun _ h => absurd h List.not_mem_nil⟩⟩
theorem am_inst4 : Cond.instantiable am_R4 2 ∈ am_G := am_G_of (am_tb 30 (by decide +kernel)) (by decide +kernel)
theorem am_ini4 : Cond.initialized am_R4 ∈ am_G := am_G_of (am_tb 2 (by decide +kernel)) (by decide +kernel)
def am_R5 : String := "SpeciesRounds$Mixture"
def am_T5 : u_T := fun k => match k with
  | 0 => ("SpeciesRounds$Mixture", "graph", "LSpeciesRounds$Graph;", true)
  | _ => ("SpeciesRounds$Mixture", "lastBegin", "I", false)
def am_ty5 : Nat → FieldType := fun k => match k with
  | 0 => .object "SpeciesRounds$Graph"
  | _ => .int
theorem am_nm5 : ∀ a, a < 2 → ∀ b, b < 2 → a ≠ b → (am_T5 a).2.1 ≠ (am_T5 b).2.1 := by decide +kernel
theorem am_tyok5 : ∀ k, k < 2 → parseFieldDescriptor (am_T5 k).2.2.1 = some (am_ty5 k) := by decide +kernel
theorem am_in5 : ∀ w ∈ u_ws am_R5 am_T5 2, w ∈ am_G := List.forall_mem_cons.mpr ⟨am_G_of (am_tb 164 (by decide +kernel)) (by decide +kernel), List.forall_mem_cons.mpr ⟨am_G_of (am_tb 166 (by decide +kernel)) (by decide +kernel), fun _ h => absurd h List.not_mem_nil⟩⟩
theorem am_inst5 : Cond.instantiable am_R5 2 ∈ am_G := am_G_of (am_tb 153 (by decide +kernel)) (by decide +kernel)
theorem am_ini5 : Cond.initialized am_R5 ∈ am_G := am_G_of (am_tb 7 (by decide +kernel)) (by decide +kernel)
def am_R6 : String := "SpeciesRounds$Products"
def am_T6 : u_T := fun k => match k with
  | 0 => ("SpeciesRounds$Products", "words", "[J", true)
  | 1 => ("SpeciesRounds$Products", "joined", "[I", true)
  | 2 => ("SpeciesRounds$Products", "joinedCount", "I", false)
  | _ => ("SpeciesRounds$Products", "count", "I", false)
def am_ty6 : Nat → FieldType := fun k => match k with
  | 0 => .array .long
  | 1 => .array .int
  | 2 => .int
  | _ => .int
theorem am_nm6 : ∀ a, a < 4 → ∀ b, b < 4 → a ≠ b → (am_T6 a).2.1 ≠ (am_T6 b).2.1 := by decide +kernel
theorem am_tyok6 : ∀ k, k < 4 → parseFieldDescriptor (am_T6 k).2.2.1 = some (am_ty6 k) := by decide +kernel
theorem am_in6 : ∀ w ∈ u_ws am_R6 am_T6 4, w ∈ am_G := List.forall_mem_cons.mpr ⟨am_G_of (am_tb 198 (by decide +kernel)) (by decide +kernel), List.forall_mem_cons.mpr ⟨am_G_of (am_tb 200 (by decide +kernel)) (by decide +kernel), List.forall_mem_cons.mpr ⟨am_G_of (am_tb 202 (by decide +kernel)) (by decide +kernel), List.forall_mem_cons.mpr ⟨am_G_of (am_tb 204 (by decide +kernel)) (by decide +kernel), fun _ h => absurd h List.not_mem_nil⟩⟩⟩⟩
theorem am_inst6 : Cond.instantiable am_R6 4 ∈ am_G := am_G_of (am_tb 187 (by decide +kernel)) (by decide +kernel)
theorem am_ini6 : Cond.initialized am_R6 ∈ am_G := am_G_of (am_tb 9 (by decide +kernel)) (by decide +kernel)
def am_R7 : String := "SpeciesRounds$ReactionList"
def am_T7 : u_T := fun k => match k with
  | 0 => ("SpeciesRounds$ReactionList", "rows", "[I", true)
  | _ => ("SpeciesRounds$ReactionList", "count", "I", false)
def am_ty7 : Nat → FieldType := fun k => match k with
  | 0 => .array .int
  | _ => .int
theorem am_nm7 : ∀ a, a < 2 → ∀ b, b < 2 → a ≠ b → (am_T7 a).2.1 ≠ (am_T7 b).2.1 := by decide +kernel
theorem am_tyok7 : ∀ k, k < 2 → parseFieldDescriptor (am_T7 k).2.2.1 = some (am_ty7 k) := by decide +kernel
theorem am_in7 : ∀ w ∈ u_ws am_R7 am_T7 2, w ∈ am_G := List.forall_mem_cons.mpr ⟨am_G_of (am_tb 216 (by decide +kernel)) (by decide +kernel), List.forall_mem_cons.mpr ⟨am_G_of (am_tb 218 (by decide +kernel)) (by decide +kernel), fun _ h => absurd h List.not_mem_nil⟩⟩
theorem am_inst7 : Cond.instantiable am_R7 2 ∈ am_G := am_G_of (am_tb 208 (by decide +kernel)) (by decide +kernel)
theorem am_ini7 : Cond.initialized am_R7 ∈ am_G := am_G_of (am_tb 10 (by decide +kernel)) (by decide +kernel)
def am_R8 : String := "SpeciesRounds$Reader"
def am_T8 : u_T := fun k => match k with
  | 0 => ("SpeciesRounds$Reader", "drawn", "LSpeciesRounds$Graph;", true)
  | 1 => ("SpeciesRounds$Reader", "branchAtoms", "[I", true)
  | 2 => ("SpeciesRounds$Reader", "markAtoms", "[I", true)
  | 3 => ("SpeciesRounds$Reader", "markOrders", "[I", true)
  | 4 => ("SpeciesRounds$Reader", "branches", "I", false)
  | 5 => ("SpeciesRounds$Reader", "standing", "I", false)
  | 6 => ("SpeciesRounds$Reader", "current", "I", false)
  | 7 => ("SpeciesRounds$Reader", "linkOrder", "I", false)
  | _ => ("SpeciesRounds$Reader", "clash", "Z", false)
def am_ty8 : Nat → FieldType := fun k => match k with
  | 0 => .object "SpeciesRounds$Graph"
  | 1 => .array .int
  | 2 => .array .int
  | 3 => .array .int
  | 4 => .int
  | 5 => .int
  | 6 => .int
  | 7 => .int
  | _ => .boolean
theorem am_nm8 : ∀ a, a < 9 → ∀ b, b < 9 → a ≠ b → (am_T8 a).2.1 ≠ (am_T8 b).2.1 := by decide +kernel
theorem am_tyok8 : ∀ k, k < 9 → parseFieldDescriptor (am_T8 k).2.2.1 = some (am_ty8 k) := by decide +kernel
theorem am_in8 : ∀ w ∈ u_ws am_R8 am_T8 9, w ∈ am_G := List.forall_mem_cons.mpr ⟨am_G_of (am_tb 95 (by decide +kernel)) (by decide +kernel), List.forall_mem_cons.mpr ⟨am_G_of (am_tb 97 (by decide +kernel)) (by decide +kernel), List.forall_mem_cons.mpr ⟨am_G_of (am_tb 99 (by decide +kernel)) (by decide +kernel), List.forall_mem_cons.mpr ⟨am_G_of (am_tb 101 (by decide +kernel)) (by decide +kernel), List.forall_mem_cons.mpr ⟨am_G_of (am_tb 103 (by decide +kernel)) (by decide +kernel), List.forall_mem_cons.mpr ⟨am_G_of (am_tb 105 (by decide +kernel)) (by decide +kernel), List.forall_mem_cons.mpr ⟨am_G_of (am_tb 107 (by decide +kernel)) (by decide +kernel), List.forall_mem_cons.mpr ⟨am_G_of (am_tb 109 (by decide +kernel)) (by decide +kernel), List.forall_mem_cons.mpr ⟨am_G_of (am_tb 111 (by decide +kernel)) (by decide +kernel), fun _ h => absurd h List.not_mem_nil⟩⟩⟩⟩⟩⟩⟩⟩⟩
theorem am_inst8 : Cond.instantiable am_R8 9 ∈ am_G := am_G_of (am_tb 46 (by decide +kernel)) (by decide +kernel)
theorem am_ini8 : Cond.initialized am_R8 ∈ am_G := am_G_of (am_tb 3 (by decide +kernel)) (by decide +kernel)
def am_R9 : String := "SpeciesRounds$Rule"
def am_T9 : u_T := fun k => match k with
  | 0 => ("SpeciesRounds$Rule", "codes", "[I", true)
  | 1 => ("SpeciesRounds$Rule", "before", "[I", true)
  | 2 => ("SpeciesRounds$Rule", "after", "[I", true)
  | _ => ("SpeciesRounds$Rule", "places", "I", false)
def am_ty9 : Nat → FieldType := fun k => match k with
  | 0 => .array .int
  | 1 => .array .int
  | 2 => .array .int
  | _ => .int
theorem am_nm9 : ∀ a, a < 4 → ∀ b, b < 4 → a ≠ b → (am_T9 a).2.1 ≠ (am_T9 b).2.1 := by decide +kernel
theorem am_tyok9 : ∀ k, k < 4 → parseFieldDescriptor (am_T9 k).2.2.1 = some (am_ty9 k) := by decide +kernel
theorem am_in9 : ∀ w ∈ u_ws am_R9 am_T9 4, w ∈ am_G := List.forall_mem_cons.mpr ⟨am_G_of (am_tb 242 (by decide +kernel)) (by decide +kernel), List.forall_mem_cons.mpr ⟨am_G_of (am_tb 244 (by decide +kernel)) (by decide +kernel), List.forall_mem_cons.mpr ⟨am_G_of (am_tb 246 (by decide +kernel)) (by decide +kernel), List.forall_mem_cons.mpr ⟨am_G_of (am_tb 248 (by decide +kernel)) (by decide +kernel), fun _ h => absurd h List.not_mem_nil⟩⟩⟩⟩
theorem am_inst9 : Cond.instantiable am_R9 4 ∈ am_G := am_G_of (am_tb 227 (by decide +kernel)) (by decide +kernel)
theorem am_ini9 : Cond.initialized am_R9 ∈ am_G := am_G_of (am_tb 12 (by decide +kernel)) (by decide +kernel)
def am_R10 : String := "SpeciesRounds$Table"
def am_T10 : u_T := fun k => match k with
  | 0 => ("SpeciesRounds$Table", "words", "[J", true)
  | 1 => ("SpeciesRounds$Table", "renumbered", "[I", true)
  | _ => ("SpeciesRounds$Table", "count", "I", false)
def am_ty10 : Nat → FieldType := fun k => match k with
  | 0 => .array .long
  | 1 => .array .int
  | _ => .int
theorem am_nm10 : ∀ a, a < 3 → ∀ b, b < 3 → a ≠ b → (am_T10 a).2.1 ≠ (am_T10 b).2.1 := by decide +kernel
theorem am_tyok10 : ∀ k, k < 3 → parseFieldDescriptor (am_T10 k).2.2.1 = some (am_ty10 k) := by decide +kernel
theorem am_in10 : ∀ w ∈ u_ws am_R10 am_T10 3, w ∈ am_G := List.forall_mem_cons.mpr ⟨am_G_of (am_tb 142 (by decide +kernel)) (by decide +kernel), List.forall_mem_cons.mpr ⟨am_G_of (am_tb 144 (by decide +kernel)) (by decide +kernel), List.forall_mem_cons.mpr ⟨am_G_of (am_tb 146 (by decide +kernel)) (by decide +kernel), fun _ h => absurd h List.not_mem_nil⟩⟩⟩
theorem am_inst10 : Cond.instantiable am_R10 3 ∈ am_G := am_G_of (am_tb 131 (by decide +kernel)) (by decide +kernel)
theorem am_ini10 : Cond.initialized am_R10 ∈ am_G := am_G_of (am_tb 6 (by decide +kernel)) (by decide +kernel)
def am_R11 : String := "SpeciesRoundsModel"
def am_T11 : u_T := fun k => match k with
  | 0 => ("SpeciesRoundsModel", "cap", "I", true)
  | 1 => ("SpeciesRoundsModel", "line", "[I", true)
  | 2 => ("SpeciesRoundsModel", "typed", "I", false)
  | 3 => ("SpeciesRoundsModel", "count", "I", false)
  | 4 => ("SpeciesRoundsModel", "keys", "[J", true)
  | 5 => ("SpeciesRoundsModel", "rules", "I", false)
  | 6 => ("SpeciesRoundsModel", "places", "[I", true)
  | 7 => ("SpeciesRoundsModel", "letters", "[I", true)
  | 8 => ("SpeciesRoundsModel", "before", "[I", true)
  | 9 => ("SpeciesRoundsModel", "after", "[I", true)
  | 10 => ("SpeciesRoundsModel", "listed", "I", false)
  | 11 => ("SpeciesRoundsModel", "list", "[I", true)
  | 12 => ("SpeciesRoundsModel", "rows", "I", false)
  | 13 => ("SpeciesRoundsModel", "row", "[I", true)
  | 14 => ("SpeciesRoundsModel", "one", "[I", true)
  | 15 => ("SpeciesRoundsModel", "found", "I", false)
  | 16 => ("SpeciesRoundsModel", "fresh", "[J", true)
  | 17 => ("SpeciesRoundsModel", "place", "[I", true)
  | 18 => ("SpeciesRoundsModel", "over", "Z", false)
  | 19 => ("SpeciesRoundsModel", "atoms", "I", false)
  | 20 => ("SpeciesRoundsModel", "letter", "[I", true)
  | 21 => ("SpeciesRoundsModel", "order", "[I", true)
  | 22 => ("SpeciesRoundsModel", "stack", "[I", true)
  | 23 => ("SpeciesRoundsModel", "wrong", "Z", false)
  | 24 => ("SpeciesRoundsModel", "many", "I", false)
  | 25 => ("SpeciesRoundsModel", "code", "[I", true)
  | 26 => ("SpeciesRoundsModel", "molecule", "[I", true)
  | 27 => ("SpeciesRoundsModel", "bonds", "[I", true)
  | 28 => ("SpeciesRoundsModel", "then", "[I", true)
  | 29 => ("SpeciesRoundsModel", "part", "[I", true)
  | 30 => ("SpeciesRoundsModel", "chosen", "[I", true)
  | 31 => ("SpeciesRoundsModel", "size", "I", false)
  | 32 => ("SpeciesRoundsModel", "member", "[I", true)
  | 33 => ("SpeciesRoundsModel", "turn", "[I", true)
  | 34 => ("SpeciesRoundsModel", "made", "I", false)
  | _ => ("SpeciesRoundsModel", "product", "[I", true)
def am_ty11 : Nat → FieldType := fun k => match k with
  | 0 => .int
  | 1 => .array .int
  | 2 => .int
  | 3 => .int
  | 4 => .array .long
  | 5 => .int
  | 6 => .array .int
  | 7 => .array .int
  | 8 => .array .int
  | 9 => .array .int
  | 10 => .int
  | 11 => .array .int
  | 12 => .int
  | 13 => .array .int
  | 14 => .array .int
  | 15 => .int
  | 16 => .array .long
  | 17 => .array .int
  | 18 => .boolean
  | 19 => .int
  | 20 => .array .int
  | 21 => .array .int
  | 22 => .array .int
  | 23 => .boolean
  | 24 => .int
  | 25 => .array .int
  | 26 => .array .int
  | 27 => .array .int
  | 28 => .array .int
  | 29 => .array .int
  | 30 => .array .int
  | 31 => .int
  | 32 => .array .int
  | 33 => .array .int
  | 34 => .int
  | _ => .array .int
theorem am_nm11 : ∀ a, a < 36 → ∀ b, b < 36 → a ≠ b → (am_T11 a).2.1 ≠ (am_T11 b).2.1 := by decide +kernel
theorem am_tyok11 : ∀ k, k < 36 → parseFieldDescriptor (am_T11 k).2.2.1 = some (am_ty11 k) := by decide +kernel
theorem am_in11 : ∀ w ∈ u_ws am_R11 am_T11 36, w ∈ am_G := List.forall_mem_cons.mpr ⟨am_G_of (am_tb 735 (by decide +kernel)) (by decide +kernel), List.forall_mem_cons.mpr ⟨am_G_of (am_tb 737 (by decide +kernel)) (by decide +kernel), List.forall_mem_cons.mpr ⟨am_G_of (am_tb 739 (by decide +kernel)) (by decide +kernel), List.forall_mem_cons.mpr ⟨am_G_of (am_tb 741 (by decide +kernel)) (by decide +kernel), List.forall_mem_cons.mpr ⟨am_G_of (am_tb 743 (by decide +kernel)) (by decide +kernel), List.forall_mem_cons.mpr ⟨am_G_of (am_tb 745 (by decide +kernel)) (by decide +kernel), List.forall_mem_cons.mpr ⟨am_G_of (am_tb 747 (by decide +kernel)) (by decide +kernel), List.forall_mem_cons.mpr ⟨am_G_of (am_tb 749 (by decide +kernel)) (by decide +kernel), List.forall_mem_cons.mpr ⟨am_G_of (am_tb 751 (by decide +kernel)) (by decide +kernel), List.forall_mem_cons.mpr ⟨am_G_of (am_tb 753 (by decide +kernel)) (by decide +kernel), List.forall_mem_cons.mpr ⟨am_G_of (am_tb 755 (by decide +kernel)) (by decide +kernel), List.forall_mem_cons.mpr ⟨am_G_of (am_tb 757 (by decide +kernel)) (by decide +kernel), List.forall_mem_cons.mpr ⟨am_G_of (am_tb 759 (by decide +kernel)) (by decide +kernel), List.forall_mem_cons.mpr ⟨am_G_of (am_tb 761 (by decide +kernel)) (by decide +kernel), List.forall_mem_cons.mpr ⟨am_G_of (am_tb 763 (by decide +kernel)) (by decide +kernel), List.forall_mem_cons.mpr ⟨am_G_of (am_tb 765 (by decide +kernel)) (by decide +kernel), List.forall_mem_cons.mpr ⟨am_G_of (am_tb 767 (by decide +kernel)) (by decide +kernel), List.forall_mem_cons.mpr ⟨am_G_of (am_tb 769 (by decide +kernel)) (by decide +kernel), List.forall_mem_cons.mpr ⟨am_G_of (am_tb 771 (by decide +kernel)) (by decide +kernel), List.forall_mem_cons.mpr ⟨am_G_of (am_tb 773 (by decide +kernel)) (by decide +kernel), List.forall_mem_cons.mpr ⟨am_G_of (am_tb 775 (by decide +kernel)) (by decide +kernel), List.forall_mem_cons.mpr ⟨am_G_of (am_tb 777 (by decide +kernel)) (by decide +kernel), List.forall_mem_cons.mpr ⟨am_G_of (am_tb 779 (by decide +kernel)) (by decide +kernel), List.forall_mem_cons.mpr ⟨am_G_of (am_tb 781 (by decide +kernel)) (by decide +kernel), List.forall_mem_cons.mpr ⟨am_G_of (am_tb 783 (by decide +kernel)) (by decide +kernel), List.forall_mem_cons.mpr ⟨am_G_of (am_tb 785 (by decide +kernel)) (by decide +kernel), List.forall_mem_cons.mpr ⟨am_G_of (am_tb 787 (by decide +kernel)) (by decide +kernel), List.forall_mem_cons.mpr ⟨am_G_of (am_tb 789 (by decide +kernel)) (by decide +kernel), List.forall_mem_cons.mpr ⟨am_G_of (am_tb 791 (by decide +kernel)) (by decide +kernel), List.forall_mem_cons.mpr ⟨am_G_of (am_tb 793 (by decide +kernel)) (by decide +kernel), List.forall_mem_cons.mpr ⟨am_G_of (am_tb 795 (by decide +kernel)) (by decide +kernel), List.forall_mem_cons.mpr ⟨am_G_of (am_tb 797 (by decide +kernel)) (by decide +kernel), List.forall_mem_cons.mpr ⟨am_G_of (am_tb 799 (by decide +kernel)) (by decide +kernel), List.forall_mem_cons.mpr ⟨am_G_of (am_tb 801 (by decide +kernel)) (by decide +kernel), List.forall_mem_cons.mpr ⟨am_G_of (am_tb 803 (by decide +kernel)) (by decide +kernel), List.forall_mem_cons.mpr ⟨am_G_of (am_tb 805 (by decide +kernel)) (by decide +kernel), fun _ h => absurd h List.not_mem_nil⟩⟩⟩⟩⟩⟩⟩⟩⟩⟩⟩⟩⟩⟩⟩⟩⟩⟩⟩⟩⟩⟩⟩⟩⟩⟩⟩⟩⟩⟩⟩⟩⟩⟩⟩⟩
theorem am_inst11 : Cond.instantiable am_R11 36 ∈ am_G := am_G_of (am_tb 694 (by decide +kernel)) (by decide +kernel)
theorem am_ini11 : Cond.initialized am_R11 ∈ am_G := am_G_of (am_tb 13 (by decide +kernel)) (by decide +kernel)
abbrev am_cl : List vw_C := [(am_R0, am_T0, 13), (am_R1, am_T1, 3), (am_R2, am_T2, 4), (am_R3, am_T3, 3), (am_R4, am_T4, 2), (am_R5, am_T5, 2), (am_R6, am_T6, 4), (am_R7, am_T7, 2), (am_R8, am_T8, 9), (am_R9, am_T9, 4), (am_R10, am_T10, 3), (am_R11, am_T11, 36)]
end
