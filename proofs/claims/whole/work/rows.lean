section
-- ===== PART A: goes FIRST, ahead of the names: the tables' words, and 'selects' of the private methods out of them =====
/-- a private method of a class that the tables say can be made, by its rows of tables_1 -/
def lw_okq (q : MethodName × Nat) : Prop := (q.1.cls ≠ "java/lang/invoke/MethodHandle" ∧ q.1.cls ≠ "java/lang/invoke/VarHandle") ∧ Cond.instantiable q.1.cls q.2 ∈ tables_1 ∧ Cond.privateMethod q.1 ∈ tables_1 ∧ Cond.instanceMethod q.1 ∈ tables_1
theorem lw_p0 : lw_okq (⟨"SpeciesRounds$Reader", "begin", "()V"⟩, 9) := ⟨⟨by decide +kernel, by decide +kernel⟩, List.mem_of_getElem? (i := 46) (by decide +kernel), List.mem_of_getElem? (i := 316) (by decide +kernel), List.mem_of_getElem? (i := 317) (by decide +kernel)⟩
theorem lw_p1 : lw_okq (⟨"SpeciesRounds$Reader", "stand", "(I)V"⟩, 9) := ⟨⟨by decide +kernel, by decide +kernel⟩, List.mem_of_getElem? (i := 46) (by decide +kernel), List.mem_of_getElem? (i := 324) (by decide +kernel), List.mem_of_getElem? (i := 325) (by decide +kernel)⟩
theorem lw_p2 : lw_okq (⟨"SpeciesRounds$Reader", "take", "(C)Z"⟩, 9) := ⟨⟨by decide +kernel, by decide +kernel⟩, List.mem_of_getElem? (i := 46) (by decide +kernel), List.mem_of_getElem? (i := 328) (by decide +kernel), List.mem_of_getElem? (i := 329) (by decide +kernel)⟩
theorem lw_p3 : lw_okq (⟨"SpeciesRounds$Reader", "takeLetter", "(I)Z"⟩, 9) := ⟨⟨by decide +kernel, by decide +kernel⟩, List.mem_of_getElem? (i := 46) (by decide +kernel), List.mem_of_getElem? (i := 415) (by decide +kernel), List.mem_of_getElem? (i := 416) (by decide +kernel)⟩
theorem lw_p4 : lw_okq (⟨"SpeciesRounds$Reader", "join", "(III)V"⟩, 9) := ⟨⟨by decide +kernel, by decide +kernel⟩, List.mem_of_getElem? (i := 46) (by decide +kernel), List.mem_of_getElem? (i := 427) (by decide +kernel), List.mem_of_getElem? (i := 428) (by decide +kernel)⟩
theorem lw_p5 : lw_okq (⟨"SpeciesRounds$Reader", "takeLink", "(I)Z"⟩, 9) := ⟨⟨by decide +kernel, by decide +kernel⟩, List.mem_of_getElem? (i := 46) (by decide +kernel), List.mem_of_getElem? (i := 433) (by decide +kernel), List.mem_of_getElem? (i := 434) (by decide +kernel)⟩
theorem lw_p6 : lw_okq (⟨"SpeciesRounds$Reader", "takeMark", "(I)Z"⟩, 9) := ⟨⟨by decide +kernel, by decide +kernel⟩, List.mem_of_getElem? (i := 46) (by decide +kernel), List.mem_of_getElem? (i := 438) (by decide +kernel), List.mem_of_getElem? (i := 439) (by decide +kernel)⟩
theorem lw_p7 : lw_okq (⟨"SpeciesRounds$Reader", "openBranch", "()Z"⟩, 9) := ⟨⟨by decide +kernel, by decide +kernel⟩, List.mem_of_getElem? (i := 46) (by decide +kernel), List.mem_of_getElem? (i := 442) (by decide +kernel), List.mem_of_getElem? (i := 443) (by decide +kernel)⟩
theorem lw_p8 : lw_okq (⟨"SpeciesRounds$Reader", "closeBranch", "()Z"⟩, 9) := ⟨⟨by decide +kernel, by decide +kernel⟩, List.mem_of_getElem? (i := 46) (by decide +kernel), List.mem_of_getElem? (i := 446) (by decide +kernel), List.mem_of_getElem? (i := 447) (by decide +kernel)⟩
theorem lw_p9 : lw_okq (⟨"SpeciesRounds", "putDrawn", "(LSpeciesRounds$Graph;)I"⟩, 13) := ⟨⟨by decide +kernel, by decide +kernel⟩, List.mem_of_getElem? (i := 22) (by decide +kernel), List.mem_of_getElem? (i := 458) (by decide +kernel), List.mem_of_getElem? (i := 459) (by decide +kernel)⟩
theorem lw_p10 : lw_okq (⟨"SpeciesRounds$KeySearch", "sortByCode", "(LSpeciesRounds$Graph;[II)V"⟩, 3) := ⟨⟨by decide +kernel, by decide +kernel⟩, List.mem_of_getElem? (i := 115) (by decide +kernel), List.mem_of_getElem? (i := 470) (by decide +kernel), List.mem_of_getElem? (i := 471) (by decide +kernel)⟩
theorem lw_p11 : lw_okq (⟨"SpeciesRounds$KeySearch", "placeAtom", "(LSpeciesRounds$Graph;IIII)V"⟩, 3) := ⟨⟨by decide +kernel, by decide +kernel⟩, List.mem_of_getElem? (i := 115) (by decide +kernel), List.mem_of_getElem? (i := 475) (by decide +kernel), List.mem_of_getElem? (i := 476) (by decide +kernel)⟩
theorem lw_p12 : lw_okq (⟨"SpeciesRounds$KeySearch", "withOrdersOf", "(LSpeciesRounds$Graph;III)I"⟩, 3) := ⟨⟨by decide +kernel, by decide +kernel⟩, List.mem_of_getElem? (i := 115) (by decide +kernel), List.mem_of_getElem? (i := 479) (by decide +kernel), List.mem_of_getElem? (i := 480) (by decide +kernel)⟩
theorem lw_p13 : lw_okq (⟨"SpeciesRounds", "hasSpecies", "(I)Z"⟩, 13) := ⟨⟨by decide +kernel, by decide +kernel⟩, List.mem_of_getElem? (i := 22) (by decide +kernel), List.mem_of_getElem? (i := 499) (by decide +kernel), List.mem_of_getElem? (i := 500) (by decide +kernel)⟩
theorem lw_p14 : lw_okq (⟨"SpeciesRounds", "hasAtom", "(II)Z"⟩, 13) := ⟨⟨by decide +kernel, by decide +kernel⟩, List.mem_of_getElem? (i := 22) (by decide +kernel), List.mem_of_getElem? (i := 510) (by decide +kernel), List.mem_of_getElem? (i := 511) (by decide +kernel)⟩
theorem lw_p15 : lw_okq (⟨"SpeciesRounds", "hasRule", "(I)Z"⟩, 13) := ⟨⟨by decide +kernel, by decide +kernel⟩, List.mem_of_getElem? (i := 22) (by decide +kernel), List.mem_of_getElem? (i := 545) (by decide +kernel), List.mem_of_getElem? (i := 546) (by decide +kernel)⟩
def lw_privs_1 : List (MethodName × Nat) := [(⟨"SpeciesRounds$Reader", "begin", "()V"⟩, 9), (⟨"SpeciesRounds$Reader", "stand", "(I)V"⟩, 9), (⟨"SpeciesRounds$Reader", "take", "(C)Z"⟩, 9), (⟨"SpeciesRounds$Reader", "takeLetter", "(I)Z"⟩, 9), (⟨"SpeciesRounds$Reader", "join", "(III)V"⟩, 9), (⟨"SpeciesRounds$Reader", "takeLink", "(I)Z"⟩, 9), (⟨"SpeciesRounds$Reader", "takeMark", "(I)Z"⟩, 9), (⟨"SpeciesRounds$Reader", "openBranch", "()Z"⟩, 9), (⟨"SpeciesRounds$Reader", "closeBranch", "()Z"⟩, 9), (⟨"SpeciesRounds", "putDrawn", "(LSpeciesRounds$Graph;)I"⟩, 13), (⟨"SpeciesRounds$KeySearch", "sortByCode", "(LSpeciesRounds$Graph;[II)V"⟩, 3), (⟨"SpeciesRounds$KeySearch", "placeAtom", "(LSpeciesRounds$Graph;IIII)V"⟩, 3), (⟨"SpeciesRounds$KeySearch", "withOrdersOf", "(LSpeciesRounds$Graph;III)I"⟩, 3), (⟨"SpeciesRounds", "hasSpecies", "(I)Z"⟩, 13), (⟨"SpeciesRounds", "hasAtom", "(II)Z"⟩, 13), (⟨"SpeciesRounds", "hasRule", "(I)Z"⟩, 13)]
theorem lw_r1 : ∀ q ∈ lw_privs_1, lw_okq q := List.forall_mem_cons.mpr ⟨lw_p0, List.forall_mem_cons.mpr ⟨lw_p1, List.forall_mem_cons.mpr ⟨lw_p2, List.forall_mem_cons.mpr ⟨lw_p3, List.forall_mem_cons.mpr ⟨lw_p4, List.forall_mem_cons.mpr ⟨lw_p5, List.forall_mem_cons.mpr ⟨lw_p6, List.forall_mem_cons.mpr ⟨lw_p7, List.forall_mem_cons.mpr ⟨lw_p8, List.forall_mem_cons.mpr ⟨lw_p9, List.forall_mem_cons.mpr ⟨lw_p10, List.forall_mem_cons.mpr ⟨lw_p11, List.forall_mem_cons.mpr ⟨lw_p12, List.forall_mem_cons.mpr ⟨lw_p13, List.forall_mem_cons.mpr ⟨lw_p14, List.forall_mem_cons.mpr ⟨lw_p15, fun _ h => absurd h List.not_mem_nil⟩⟩⟩⟩⟩⟩⟩⟩⟩⟩⟩⟩⟩⟩⟩⟩
theorem lw_p16 : lw_okq (⟨"SpeciesRounds", "pourMixture", "(II)V"⟩, 13) := ⟨⟨by decide +kernel, by decide +kernel⟩, List.mem_of_getElem? (i := 22) (by decide +kernel), List.mem_of_getElem? (i := 563) (by decide +kernel), List.mem_of_getElem? (i := 564) (by decide +kernel)⟩
theorem lw_p17 : lw_okq (⟨"SpeciesRounds$Finder", "choose", "(LSpeciesRounds$Rule;LSpeciesRounds$Mixture;I)V"⟩, 3) := ⟨⟨by decide +kernel, by decide +kernel⟩, List.mem_of_getElem? (i := 170) (by decide +kernel), List.mem_of_getElem? (i := 585) (by decide +kernel), List.mem_of_getElem? (i := 586) (by decide +kernel)⟩
theorem lw_p18 : lw_okq (⟨"SpeciesRounds$Finder", "fits", "(LSpeciesRounds$Rule;LSpeciesRounds$Graph;II)Z"⟩, 3) := ⟨⟨by decide +kernel, by decide +kernel⟩, List.mem_of_getElem? (i := 170) (by decide +kernel), List.mem_of_getElem? (i := 589) (by decide +kernel), List.mem_of_getElem? (i := 590) (by decide +kernel)⟩
theorem lw_p19 : lw_okq (⟨"SpeciesRounds$Finder", "keep", "()V"⟩, 3) := ⟨⟨by decide +kernel, by decide +kernel⟩, List.mem_of_getElem? (i := 170) (by decide +kernel), List.mem_of_getElem? (i := 598) (by decide +kernel), List.mem_of_getElem? (i := 599) (by decide +kernel)⟩
theorem lw_p20 : lw_okq (⟨"SpeciesRounds", "takeMixture", "(II)Z"⟩, 13) := ⟨⟨by decide +kernel, by decide +kernel⟩, List.mem_of_getElem? (i := 22) (by decide +kernel), List.mem_of_getElem? (i := 614) (by decide +kernel), List.mem_of_getElem? (i := 615) (by decide +kernel)⟩
theorem lw_p21 : lw_okq (⟨"SpeciesRounds", "takeMatch", "(LSpeciesRounds$Rule;III)Z"⟩, 13) := ⟨⟨by decide +kernel, by decide +kernel⟩, List.mem_of_getElem? (i := 22) (by decide +kernel), List.mem_of_getElem? (i := 622) (by decide +kernel), List.mem_of_getElem? (i := 623) (by decide +kernel)⟩
theorem lw_p22 : lw_okq (⟨"SpeciesRounds$Products", "gatherJoined", "(LSpeciesRounds$Graph;I)I"⟩, 4) := ⟨⟨by decide +kernel, by decide +kernel⟩, List.mem_of_getElem? (i := 187) (by decide +kernel), List.mem_of_getElem? (i := 640) (by decide +kernel), List.mem_of_getElem? (i := 641) (by decide +kernel)⟩
theorem lw_p23 : lw_okq (⟨"SpeciesRounds", "putReaction", "(II)Z"⟩, 13) := ⟨⟨by decide +kernel, by decide +kernel⟩, List.mem_of_getElem? (i := 22) (by decide +kernel), List.mem_of_getElem? (i := 645) (by decide +kernel), List.mem_of_getElem? (i := 646) (by decide +kernel)⟩
theorem lw_p24 : lw_okq (⟨"SpeciesRounds$ReactionList", "holds", "(I)Z"⟩, 2) := ⟨⟨by decide +kernel, by decide +kernel⟩, List.mem_of_getElem? (i := 208) (by decide +kernel), List.mem_of_getElem? (i := 659) (by decide +kernel), List.mem_of_getElem? (i := 660) (by decide +kernel)⟩
theorem lw_p25 : lw_okq (⟨"SpeciesRounds$Table", "countLess", "(IJ)I"⟩, 3) := ⟨⟨by decide +kernel, by decide +kernel⟩, List.mem_of_getElem? (i := 131) (by decide +kernel), List.mem_of_getElem? (i := 671) (by decide +kernel), List.mem_of_getElem? (i := 672) (by decide +kernel)⟩
theorem lw_p26 : lw_okq (⟨"SpeciesRounds", "listDraft", "()V"⟩, 13) := ⟨⟨by decide +kernel, by decide +kernel⟩, List.mem_of_getElem? (i := 22) (by decide +kernel), List.mem_of_getElem? (i := 675) (by decide +kernel), List.mem_of_getElem? (i := 676) (by decide +kernel)⟩
theorem lw_p27 : lw_okq (⟨"SpeciesRoundsModel", "fault", "()I"⟩, 36) := ⟨⟨by decide +kernel, by decide +kernel⟩, List.mem_of_getElem? (i := 694) (by decide +kernel), List.mem_of_getElem? (i := 821) (by decide +kernel), List.mem_of_getElem? (i := 822) (by decide +kernel)⟩
theorem lw_p28 : lw_okq (⟨"SpeciesRoundsModel", "read", "()Z"⟩, 36) := ⟨⟨by decide +kernel, by decide +kernel⟩, List.mem_of_getElem? (i := 694) (by decide +kernel), List.mem_of_getElem? (i := 834) (by decide +kernel), List.mem_of_getElem? (i := 835) (by decide +kernel)⟩
theorem lw_p29 : lw_okq (⟨"SpeciesRoundsModel", "tie", "(III)V"⟩, 36) := ⟨⟨by decide +kernel, by decide +kernel⟩, List.mem_of_getElem? (i := 694) (by decide +kernel), List.mem_of_getElem? (i := 838) (by decide +kernel), List.mem_of_getElem? (i := 839) (by decide +kernel)⟩
theorem lw_p30 : lw_okq (⟨"SpeciesRoundsModel", "load", "(I)I"⟩, 36) := ⟨⟨by decide +kernel, by decide +kernel⟩, List.mem_of_getElem? (i := 694) (by decide +kernel), List.mem_of_getElem? (i := 842) (by decide +kernel), List.mem_of_getElem? (i := 843) (by decide +kernel)⟩
theorem lw_p31 : lw_okq (⟨"SpeciesRoundsModel", "least", "()J"⟩, 36) := ⟨⟨by decide +kernel, by decide +kernel⟩, List.mem_of_getElem? (i := 694) (by decide +kernel), List.mem_of_getElem? (i := 846) (by decide +kernel), List.mem_of_getElem? (i := 847) (by decide +kernel)⟩
def lw_privs_2 : List (MethodName × Nat) := [(⟨"SpeciesRounds", "pourMixture", "(II)V"⟩, 13), (⟨"SpeciesRounds$Finder", "choose", "(LSpeciesRounds$Rule;LSpeciesRounds$Mixture;I)V"⟩, 3), (⟨"SpeciesRounds$Finder", "fits", "(LSpeciesRounds$Rule;LSpeciesRounds$Graph;II)Z"⟩, 3), (⟨"SpeciesRounds$Finder", "keep", "()V"⟩, 3), (⟨"SpeciesRounds", "takeMixture", "(II)Z"⟩, 13), (⟨"SpeciesRounds", "takeMatch", "(LSpeciesRounds$Rule;III)Z"⟩, 13), (⟨"SpeciesRounds$Products", "gatherJoined", "(LSpeciesRounds$Graph;I)I"⟩, 4), (⟨"SpeciesRounds", "putReaction", "(II)Z"⟩, 13), (⟨"SpeciesRounds$ReactionList", "holds", "(I)Z"⟩, 2), (⟨"SpeciesRounds$Table", "countLess", "(IJ)I"⟩, 3), (⟨"SpeciesRounds", "listDraft", "()V"⟩, 13), (⟨"SpeciesRoundsModel", "fault", "()I"⟩, 36), (⟨"SpeciesRoundsModel", "read", "()Z"⟩, 36), (⟨"SpeciesRoundsModel", "tie", "(III)V"⟩, 36), (⟨"SpeciesRoundsModel", "load", "(I)I"⟩, 36), (⟨"SpeciesRoundsModel", "least", "()J"⟩, 36)]
theorem lw_r2 : ∀ q ∈ lw_privs_2, lw_okq q := List.forall_mem_cons.mpr ⟨lw_p16, List.forall_mem_cons.mpr ⟨lw_p17, List.forall_mem_cons.mpr ⟨lw_p18, List.forall_mem_cons.mpr ⟨lw_p19, List.forall_mem_cons.mpr ⟨lw_p20, List.forall_mem_cons.mpr ⟨lw_p21, List.forall_mem_cons.mpr ⟨lw_p22, List.forall_mem_cons.mpr ⟨lw_p23, List.forall_mem_cons.mpr ⟨lw_p24, List.forall_mem_cons.mpr ⟨lw_p25, List.forall_mem_cons.mpr ⟨lw_p26, List.forall_mem_cons.mpr ⟨lw_p27, List.forall_mem_cons.mpr ⟨lw_p28, List.forall_mem_cons.mpr ⟨lw_p29, List.forall_mem_cons.mpr ⟨lw_p30, List.forall_mem_cons.mpr ⟨lw_p31, fun _ h => absurd h List.not_mem_nil⟩⟩⟩⟩⟩⟩⟩⟩⟩⟩⟩⟩⟩⟩⟩⟩
theorem lw_p32 : lw_okq (⟨"SpeciesRoundsModel", "word", "()J"⟩, 36) := ⟨⟨by decide +kernel, by decide +kernel⟩, List.mem_of_getElem? (i := 694) (by decide +kernel), List.mem_of_getElem? (i := 850) (by decide +kernel), List.mem_of_getElem? (i := 851) (by decide +kernel)⟩
theorem lw_p33 : lw_okq (⟨"SpeciesRoundsModel", "advance", "()Z"⟩, 36) := ⟨⟨by decide +kernel, by decide +kernel⟩, List.mem_of_getElem? (i := 694) (by decide +kernel), List.mem_of_getElem? (i := 855) (by decide +kernel), List.mem_of_getElem? (i := 856) (by decide +kernel)⟩
theorem lw_p34 : lw_okq (⟨"SpeciesRoundsModel", "numberOf", "(J)I"⟩, 36) := ⟨⟨by decide +kernel, by decide +kernel⟩, List.mem_of_getElem? (i := 694) (by decide +kernel), List.mem_of_getElem? (i := 859) (by decide +kernel), List.mem_of_getElem? (i := 860) (by decide +kernel)⟩
theorem lw_p35 : lw_okq (⟨"SpeciesRoundsModel", "isSpecies", "(I)Z"⟩, 36) := ⟨⟨by decide +kernel, by decide +kernel⟩, List.mem_of_getElem? (i := 694) (by decide +kernel), List.mem_of_getElem? (i := 871) (by decide +kernel), List.mem_of_getElem? (i := 872) (by decide +kernel)⟩
theorem lw_p36 : lw_okq (⟨"SpeciesRoundsModel", "isAtom", "(II)Z"⟩, 36) := ⟨⟨by decide +kernel, by decide +kernel⟩, List.mem_of_getElem? (i := 694) (by decide +kernel), List.mem_of_getElem? (i := 882) (by decide +kernel), List.mem_of_getElem? (i := 883) (by decide +kernel)⟩
theorem lw_p37 : lw_okq (⟨"SpeciesRoundsModel", "mix", "(II)V"⟩, 36) := ⟨⟨by decide +kernel, by decide +kernel⟩, List.mem_of_getElem? (i := 694) (by decide +kernel), List.mem_of_getElem? (i := 905) (by decide +kernel), List.mem_of_getElem? (i := 906) (by decide +kernel)⟩
theorem lw_p38 : lw_okq (⟨"SpeciesRoundsModel", "put", "(II)V"⟩, 36) := ⟨⟨by decide +kernel, by decide +kernel⟩, List.mem_of_getElem? (i := 694) (by decide +kernel), List.mem_of_getElem? (i := 909) (by decide +kernel), List.mem_of_getElem? (i := 910) (by decide +kernel)⟩
theorem lw_p39 : lw_okq (⟨"SpeciesRoundsModel", "choices", "(I)I"⟩, 36) := ⟨⟨by decide +kernel, by decide +kernel⟩, List.mem_of_getElem? (i := 694) (by decide +kernel), List.mem_of_getElem? (i := 913) (by decide +kernel), List.mem_of_getElem? (i := 914) (by decide +kernel)⟩
theorem lw_p40 : lw_okq (⟨"SpeciesRoundsModel", "choose", "(I)V"⟩, 36) := ⟨⟨by decide +kernel, by decide +kernel⟩, List.mem_of_getElem? (i := 694) (by decide +kernel), List.mem_of_getElem? (i := 917) (by decide +kernel), List.mem_of_getElem? (i := 918) (by decide +kernel)⟩
theorem lw_p41 : lw_okq (⟨"SpeciesRoundsModel", "isMatch", "(II)Z"⟩, 36) := ⟨⟨by decide +kernel, by decide +kernel⟩, List.mem_of_getElem? (i := 694) (by decide +kernel), List.mem_of_getElem? (i := 921) (by decide +kernel), List.mem_of_getElem? (i := 922) (by decide +kernel)⟩
theorem lw_p42 : lw_okq (⟨"SpeciesRoundsModel", "react", "(III)V"⟩, 36) := ⟨⟨by decide +kernel, by decide +kernel⟩, List.mem_of_getElem? (i := 694) (by decide +kernel), List.mem_of_getElem? (i := 929) (by decide +kernel), List.mem_of_getElem? (i := 930) (by decide +kernel)⟩
theorem lw_p43 : lw_okq (⟨"SpeciesRoundsModel", "becomes", "(I)Z"⟩, 36) := ⟨⟨by decide +kernel, by decide +kernel⟩, List.mem_of_getElem? (i := 694) (by decide +kernel), List.mem_of_getElem? (i := 933) (by decide +kernel), List.mem_of_getElem? (i := 934) (by decide +kernel)⟩
theorem lw_p44 : lw_okq (⟨"SpeciesRoundsModel", "yields", "()Z"⟩, 36) := ⟨⟨by decide +kernel, by decide +kernel⟩, List.mem_of_getElem? (i := 694) (by decide +kernel), List.mem_of_getElem? (i := 937) (by decide +kernel), List.mem_of_getElem? (i := 938) (by decide +kernel)⟩
theorem lw_p45 : lw_okq (⟨"SpeciesRoundsModel", "parts", "()V"⟩, 36) := ⟨⟨by decide +kernel, by decide +kernel⟩, List.mem_of_getElem? (i := 694) (by decide +kernel), List.mem_of_getElem? (i := 941) (by decide +kernel), List.mem_of_getElem? (i := 942) (by decide +kernel)⟩
theorem lw_p46 : lw_okq (⟨"SpeciesRoundsModel", "known", "(J)I"⟩, 36) := ⟨⟨by decide +kernel, by decide +kernel⟩, List.mem_of_getElem? (i := 694) (by decide +kernel), List.mem_of_getElem? (i := 945) (by decide +kernel), List.mem_of_getElem? (i := 946) (by decide +kernel)⟩
theorem lw_p47 : lw_okq (⟨"SpeciesRoundsModel", "note", "(II)V"⟩, 36) := ⟨⟨by decide +kernel, by decide +kernel⟩, List.mem_of_getElem? (i := 694) (by decide +kernel), List.mem_of_getElem? (i := 949) (by decide +kernel), List.mem_of_getElem? (i := 950) (by decide +kernel)⟩
def lw_privs_3 : List (MethodName × Nat) := [(⟨"SpeciesRoundsModel", "word", "()J"⟩, 36), (⟨"SpeciesRoundsModel", "advance", "()Z"⟩, 36), (⟨"SpeciesRoundsModel", "numberOf", "(J)I"⟩, 36), (⟨"SpeciesRoundsModel", "isSpecies", "(I)Z"⟩, 36), (⟨"SpeciesRoundsModel", "isAtom", "(II)Z"⟩, 36), (⟨"SpeciesRoundsModel", "mix", "(II)V"⟩, 36), (⟨"SpeciesRoundsModel", "put", "(II)V"⟩, 36), (⟨"SpeciesRoundsModel", "choices", "(I)I"⟩, 36), (⟨"SpeciesRoundsModel", "choose", "(I)V"⟩, 36), (⟨"SpeciesRoundsModel", "isMatch", "(II)Z"⟩, 36), (⟨"SpeciesRoundsModel", "react", "(III)V"⟩, 36), (⟨"SpeciesRoundsModel", "becomes", "(I)Z"⟩, 36), (⟨"SpeciesRoundsModel", "yields", "()Z"⟩, 36), (⟨"SpeciesRoundsModel", "parts", "()V"⟩, 36), (⟨"SpeciesRoundsModel", "known", "(J)I"⟩, 36), (⟨"SpeciesRoundsModel", "note", "(II)V"⟩, 36)]
theorem lw_r3 : ∀ q ∈ lw_privs_3, lw_okq q := List.forall_mem_cons.mpr ⟨lw_p32, List.forall_mem_cons.mpr ⟨lw_p33, List.forall_mem_cons.mpr ⟨lw_p34, List.forall_mem_cons.mpr ⟨lw_p35, List.forall_mem_cons.mpr ⟨lw_p36, List.forall_mem_cons.mpr ⟨lw_p37, List.forall_mem_cons.mpr ⟨lw_p38, List.forall_mem_cons.mpr ⟨lw_p39, List.forall_mem_cons.mpr ⟨lw_p40, List.forall_mem_cons.mpr ⟨lw_p41, List.forall_mem_cons.mpr ⟨lw_p42, List.forall_mem_cons.mpr ⟨lw_p43, List.forall_mem_cons.mpr ⟨lw_p44, List.forall_mem_cons.mpr ⟨lw_p45, List.forall_mem_cons.mpr ⟨lw_p46, List.forall_mem_cons.mpr ⟨lw_p47, fun _ h => absurd h List.not_mem_nil⟩⟩⟩⟩⟩⟩⟩⟩⟩⟩⟩⟩⟩⟩⟩⟩
theorem lw_p48 : lw_okq (⟨"SpeciesRoundsModel", "arrange", "(II)V"⟩, 36) := ⟨⟨by decide +kernel, by decide +kernel⟩, List.mem_of_getElem? (i := 694) (by decide +kernel), List.mem_of_getElem? (i := 953) (by decide +kernel), List.mem_of_getElem? (i := 954) (by decide +kernel)⟩
theorem lw_p49 : lw_okq (⟨"SpeciesRoundsModel", "settle", "()V"⟩, 36) := ⟨⟨by decide +kernel, by decide +kernel⟩, List.mem_of_getElem? (i := 694) (by decide +kernel), List.mem_of_getElem? (i := 957) (by decide +kernel), List.mem_of_getElem? (i := 958) (by decide +kernel)⟩
theorem lw_p50 : lw_okq (⟨"SpeciesRoundsModel", "sortRows", "()V"⟩, 36) := ⟨⟨by decide +kernel, by decide +kernel⟩, List.mem_of_getElem? (i := 694) (by decide +kernel), List.mem_of_getElem? (i := 961) (by decide +kernel), List.mem_of_getElem? (i := 962) (by decide +kernel)⟩
theorem lw_p51 : lw_okq (⟨"SpeciesRoundsModel", "isLess", "(II)Z"⟩, 36) := ⟨⟨by decide +kernel, by decide +kernel⟩, List.mem_of_getElem? (i := 694) (by decide +kernel), List.mem_of_getElem? (i := 965) (by decide +kernel), List.mem_of_getElem? (i := 966) (by decide +kernel)⟩
def lw_privs_4 : List (MethodName × Nat) := [(⟨"SpeciesRoundsModel", "arrange", "(II)V"⟩, 36), (⟨"SpeciesRoundsModel", "settle", "()V"⟩, 36), (⟨"SpeciesRoundsModel", "sortRows", "()V"⟩, 36), (⟨"SpeciesRoundsModel", "isLess", "(II)Z"⟩, 36)]
theorem lw_r4 : ∀ q ∈ lw_privs_4, lw_okq q := List.forall_mem_cons.mpr ⟨lw_p48, List.forall_mem_cons.mpr ⟨lw_p49, List.forall_mem_cons.mpr ⟨lw_p50, List.forall_mem_cons.mpr ⟨lw_p51, fun _ h => absurd h List.not_mem_nil⟩⟩⟩⟩
def lw_privs : List (MethodName × Nat) := lw_privs_1 ++ (lw_privs_2 ++ (lw_privs_3 ++ (lw_privs_4)))
def lw_tbl : List Cond := k2_sels lw_privs ++ tables_1
theorem lw_privs_ok : ∀ q ∈ lw_privs, lw_okq q := by
  show ∀ q ∈ lw_privs_1 ++ (lw_privs_2 ++ (lw_privs_3 ++ (lw_privs_4))), lw_okq q
  exact List.forall_mem_append.mpr ⟨lw_r1, List.forall_mem_append.mpr ⟨lw_r2, List.forall_mem_append.mpr ⟨lw_r3, lw_r4⟩⟩⟩
-- ===== end of PART A; then your names; then what follows =====
end
section
/-! The abstract machine: cells by number from a base on, predicate transformers per instruction, the least fixpoint of a method's code. -/
abbrev am_C : Type := (FieldType × vp_A) ⊕ (Nat × List Value)
abbrev am_H : Type := List am_C
abbrev am_L : Type := List (Option Value)
abbrev am_X : Type := Nat → am_L → List Value → am_H → Nat → Nat → Prop
abbrev am_Q : Type := Option Value → am_H → Prop
abbrev am_K : Type := Nat → List Value → am_H → am_Q → Prop
abbrev am_T : Type := am_K → am_Q → am_X → am_X
/-- the least fixpoint -/
def am_Go (K : am_K) (code : Nat → am_T) (Q : am_Q) : am_X := fun pc ls st h c z =>
  ∀ X : am_X, (∀ pc ls st h c z, code pc K Q X pc ls st h c z → X pc ls st h c z) → X pc ls st h c z
/-- calls keep what follows -/
def am_KM (K : am_K) : Prop := ∀ (y : Nat) (As : List Value) (h : am_H) (Q Q' : am_Q), (∀ v h', Q v h' → Q' v h') → K y As h Q → K y As h Q'
def am_TM (T : am_T) : Prop := ∀ (K : am_K), am_KM K → ∀ (Q Q' : am_Q), (∀ v h', Q v h' → Q' v h') → ∀ (X X' : am_X), (∀ pc ls st h c z, X pc ls st h c z → X' pc ls st h c z) → ∀ pc ls st h c z, T K Q X pc ls st h c z → T K Q' X' pc ls st h c z
theorem am_Go_into {K : am_K} {code : Nat → am_T} {Q : am_Q} (hK : am_KM K) (hM : ∀ pc, am_TM (code pc)) {pc : Nat} {ls : am_L} {st : List Value} {h : am_H} {c z : Nat} (hF : code pc K Q (am_Go K code Q) pc ls st h c z) : am_Go K code Q pc ls st h c z := by
  intro X hX
  refine hX _ _ _ _ _ _ (hM pc K hK Q Q (fun _ _ q => q) _ X (fun pc ls st h c z g => g X hX) _ _ _ _ _ _ hF)
theorem am_Go_iff {K : am_K} {code : Nat → am_T} {Q : am_Q} (hK : am_KM K) (hM : ∀ pc, am_TM (code pc)) (pc : Nat) (ls : am_L) (st : List Value) (h : am_H) (c z : Nat) : am_Go K code Q pc ls st h c z ↔ code pc K Q (am_Go K code Q) pc ls st h c z := by
  refine ⟨fun g => ?_, am_Go_into hK hM⟩
  refine g (fun pc ls st h c z => code pc K Q (am_Go K code Q) pc ls st h c z) (fun pc ls st h c z q => ?_)
  exact hM pc K hK Q Q (fun _ _ q => q) _ _ (fun _ _ _ _ _ _ q => am_Go_into hK hM q) _ _ _ _ _ _ q
theorem am_Go_mono {K : am_K} {code : Nat → am_T} {Q Q' : am_Q} (hK : am_KM K) (hM : ∀ pc, am_TM (code pc)) (hQ : ∀ v h', Q v h' → Q' v h') {pc : Nat} {ls : am_L} {st : List Value} {h : am_H} {c z : Nat} (g : am_Go K code Q pc ls st h c z) : am_Go K code Q' pc ls st h c z := by
  refine g (am_Go K code Q') (fun pc ls st h c z q => am_Go_into hK hM ?_)
  exact hM pc K hK Q Q' hQ _ _ (fun _ _ _ _ _ _ q => q) _ _ _ _ _ _ q
/-- locals -/
def am_kl (d : Option Value) : Option Value := match d with
  | some (.long _) => none
  | some (.double _) => none
  | x => x
def am_al (ls : am_L) (i : Nat) : Option Value := ls.getD i none
def am_s1 (ls : am_L) (i : Nat) (v : Value) : am_L := (ls.set (i - 1) (am_kl (ls.getD (i - 1) none))).set i (some v)
def am_s2 (ls : am_L) (i : Nat) (v : Value) : am_L := ((ls.set (i - 1) (am_kl (ls.getD (i - 1) none))).set i (some v)).set (i + 1) none
/-- the entry: the arguments, a long takes two places -/
def am_ent : List Value → am_L
  | [] => []
  | v :: vs => if v.category = 2 then some v :: none :: am_ent vs else some v :: am_ent vs
def am_ini (n : Nat) (As : List Value) : am_L := am_ent As ++ List.replicate (n - (am_ent As).length) none
/-- the instructions, as transformers; P pc: what comes next -/
def am_ic (v : Int32) (len : Nat) : am_T := fun _ _ X pc ls st h c z => X (pc + len) ls (.int v :: st) h c z
def am_lc (v : Int64) (len : Nat) : am_T := fun _ _ X pc ls st h c z => X (pc + len) ls (.long v :: st) h c z
def am_il (i len : Nat) : am_T := fun _ _ X pc ls st h c z => match am_al ls i with
  | some (.int x) => X (pc + len) ls (.int x :: st) h c z
  | _ => False
def am_ll (i len : Nat) : am_T := fun _ _ X pc ls st h c z => match am_al ls i with
  | some (.long x) => X (pc + len) ls (.long x :: st) h c z
  | _ => False
def am_ra (i len : Nat) : am_T := fun _ _ X pc ls st h c z => match am_al ls i with
  | some (.ref x) => X (pc + len) ls (.ref x :: st) h c z
  | some (.float x) => X (pc + len) ls (.float x :: st) h c z
  | _ => False
def am_is (i len : Nat) : am_T := fun _ _ X pc ls st h c z => match st with
  | .int x :: r => i < ls.length ∧ X (pc + len) (am_s1 ls i (.int x)) r h c z
  | _ => False
def am_ls (i len : Nat) : am_T := fun _ _ X pc ls st h c z => match st with
  | .long x :: r => i + 1 < ls.length ∧ X (pc + len) (am_s2 ls i (.long x)) r h c z
  | _ => False
def am_rs (i len : Nat) : am_T := fun _ _ X pc ls st h c z => match st with
  | .ref x :: r => i < ls.length ∧ X (pc + len) (am_s1 ls i (.ref x)) r h c z
  | _ => False
def am_inc (i : Nat) (n : Int32) : am_T := fun _ _ X pc ls st h c z => match am_al ls i with
  | some (.int x) => i < ls.length ∧ X (pc + 3) (am_s1 ls i (.int (x + n))) st h c z
  | _ => False
def am_ib (f : Int32 → Int32 → Int32) : am_T := fun _ _ X pc ls st h c z => match st with
  | .int y :: .int x :: r => X (pc + 1) ls (.int (f x y) :: r) h c z
  | _ => False
def am_idiv : am_T := fun _ _ X pc ls st h c z => match st with
  | .int y :: .int x :: r => ¬ y = 0 ∧ X (pc + 1) ls (.int (x / y) :: r) h c z
  | _ => False
def am_irem : am_T := fun _ _ X pc ls st h c z => match st with
  | .int y :: .int x :: r => ¬ y = 0 ∧ X (pc + 1) ls (.int (x - x / y * y) :: r) h c z
  | _ => False
def am_lb (f : Int64 → Int64 → Int64) : am_T := fun _ _ X pc ls st h c z => match st with
  | .long y :: .long x :: r => X (pc + 1) ls (.long (f x y) :: r) h c z
  | _ => False
def am_lsh (f : Int64 → Int32 → Int64) : am_T := fun _ _ X pc ls st h c z => match st with
  | .int y :: .long x :: r => X (pc + 1) ls (.long (f x y) :: r) h c z
  | _ => False
def am_lcmp : am_T := fun _ _ X pc ls st h c z => match st with
  | .long y :: .long x :: r => X (pc + 1) ls (.int (lg_cmp x y) :: r) h c z
  | _ => False
def am_i2l : am_T := fun _ _ X pc ls st h c z => match st with
  | .int x :: r => X (pc + 1) ls (.long x.toInt64 :: r) h c z
  | _ => False
def am_l2i : am_T := fun _ _ X pc ls st h c z => match st with
  | .long x :: r => X (pc + 1) ls (.int x.toInt32 :: r) h c z
  | _ => False
def am_i2c : am_T := fun _ _ X pc ls st h c z => match st with
  | .int x :: r => X (pc + 1) ls (.int (x.toUInt32 % 65536).toInt32 :: r) h c z
  | _ => False
def am_dup : am_T := fun _ _ X pc ls st h c z => match st with
  | v :: r => v.category = 1 ∧ X (pc + 1) ls (v :: v :: r) h c z
  | _ => False
def am_pop : am_T := fun _ _ X pc ls st h c z => match st with
  | v :: r => v.category = 1 ∧ X (pc + 1) ls r h c z
  | _ => False
def am_if1 (P : Int32 → Prop) (tgt : Nat) : am_T := fun _ _ X pc ls st h c z => match st with
  | .int x :: r => (P x → X tgt ls r h c z) ∧ (¬ P x → X (pc + 3) ls r h c z)
  | _ => False
def am_if2 (P : Int32 → Int32 → Prop) (tgt : Nat) : am_T := fun _ _ X pc ls st h c z => match st with
  | .int y :: .int x :: r => (P x y → X tgt ls r h c z) ∧ (¬ P x y → X (pc + 3) ls r h c z)
  | _ => False
def am_goto (tgt : Nat) : am_T := fun _ _ X _ ls st h c z => X tgt ls st h c z
def am_iret (ty : FieldType) : am_T := fun _ Q _ _ _ st h _ _ => match st with
  | [.int x] => narrow ty (.int x) = .int x ∧ Q (some (.int x)) h
  | _ => False
def am_lret : am_T := fun _ Q _ _ _ st h _ _ => match st with
  | [.long x] => Q (some (.long x)) h
  | _ => False
def am_vret : am_T := fun _ Q _ _ _ st h _ _ => match st with
  | [] => Q none h
  | _ => False
/-- fields and arrays -/
def am_get (ci k : Nat) : am_T := fun _ _ X pc ls st h c z => match st with
  | .ref a :: r => match h[a]? with
    | some (.inr (d, fs)) => d = ci ∧ match fs[k]? with
      | some v => X (pc + 3) ls (v :: r) h c z
      | none => False
    | _ => False
  | _ => False
def am_put (ci k : Nat) (ty : FieldType) : am_T := fun _ _ X pc ls st h c z => match st with
  | v :: .ref a :: r => match h[a]? with
    | some (.inr (d, fs)) => d = ci ∧ k < fs.length ∧ (match v with | .float _ => False | _ => True) ∧ narrow ty v = v ∧ fits ty v = true ∧ X (pc + 3) ls r (h.set a (.inr (d, fs.set k v))) c z
    | _ => False
  | _ => False
def am_iald : am_T := fun _ _ X pc ls st h c z => match st with
  | .int i :: .ref a :: r => match h[a]? with
    | some (.inl (ty, n, .inl f)) => ty = .int ∧ vp_in i n ∧ X (pc + 1) ls (.int (f i.toNatClampNeg) :: r) h c z
    | _ => False
  | _ => False
def am_cald : am_T := fun _ _ X pc ls st h c z => match st with
  | .int i :: .ref a :: r => match h[a]? with
    | some (.inl (ty, n, .inl f)) => ty = .char ∧ vp_in i n ∧ X (pc + 1) ls (.int (f i.toNatClampNeg) :: r) h c z
    | _ => False
  | _ => False
def am_lald : am_T := fun _ _ X pc ls st h c z => match st with
  | .int i :: .ref a :: r => match h[a]? with
    | some (.inl (ty, n, .inr (.inl f))) => ty = .long ∧ vp_in i n ∧ X (pc + 1) ls (.long (f i.toNatClampNeg) :: r) h c z
    | _ => False
  | _ => False
def am_iast : am_T := fun _ _ X pc ls st h c z => match st with
  | .int x :: .int i :: .ref a :: r => match h[a]? with
    | some (.inl (ty, n, .inl f)) => ty = .int ∧ vp_in i n ∧ X (pc + 1) ls r (h.set a (.inl (ty, n, .inl (upd f i.toNatClampNeg x)))) c z
    | _ => False
  | _ => False
def am_cast : am_T := fun _ _ X pc ls st h c z => match st with
  | .int x :: .int i :: .ref a :: r => match h[a]? with
    | some (.inl (ty, n, .inl f)) => ty = .char ∧ vp_in i n ∧ X (pc + 1) ls r (h.set a (.inl (ty, n, .inl (upd f i.toNatClampNeg (vp_nar .char x))))) c z
    | _ => False
  | _ => False
def am_last : am_T := fun _ _ X pc ls st h c z => match st with
  | .long x :: .int i :: .ref a :: r => match h[a]? with
    | some (.inl (ty, n, .inr (.inl f))) => ty = .long ∧ vp_in i n ∧ X (pc + 1) ls r (h.set a (.inl (ty, n, .inr (.inl (vp_updL f i.toNatClampNeg x))))) c z
    | _ => False
  | _ => False
def am_rald (ty0 : FieldType) : am_T := fun _ _ X pc ls st h c z => match st with
  | .int i :: .ref a :: r => match h[a]? with
    | some (.inl (ty, n, .inr (.inr (.inr (.inr f))))) => ty = ty0 ∧ vp_in i n ∧ X (pc + 1) ls (va_rf (f i.toNatClampNeg) :: r) h c z
    | _ => False
  | _ => False
def am_rast (ci : Nat) (E : String) : am_T := fun _ _ X pc ls st h c z => match st with
  | .ref v :: .int i :: .ref a :: r => match h[a]? with
    | some (.inl (ty, n, .inr (.inr (.inr (.inr f))))) => ty = .object E ∧ vp_in i n ∧ (match h[v]? with | some (.inr (d, _)) => d = ci | _ => False) ∧ X (pc + 1) ls r (h.set a (.inl (ty, n, .inr (.inr (.inr (.inr (va_up f i.toNatClampNeg (some v)))))))) c z
    | _ => False
  | _ => False
def am_len : am_T := fun _ _ X pc ls st h c z => match st with
  | .ref a :: r => match h[a]? with
    | some (.inl (ty, n, _)) => ty = .int ∧ X (pc + 1) ls (.int (Int32.ofNat n) :: r) h c z
    | _ => False
  | _ => False
/-- making cells; mc, ms: what the method may make -/
def am_new (ci N : Nat) (fs : List Value) (mc ms : Nat) : am_T := fun _ _ X pc ls st h c z => c + 1 ≤ mc ∧ z + N ≤ ms ∧ X (pc + 3) ls (.ref h.length :: st) (h ++ [.inr (ci, fs)]) (c + 1) (z + N)
def am_newi (ty : FieldType) (mc ms : Nat) : am_T := fun _ _ X pc ls st h c z => match st with
  | .int n :: r => ¬ n < 0 ∧ n.toNatClampNeg ≤ 65536 ∧ c + 1 ≤ mc ∧ z + n.toNatClampNeg ≤ ms ∧ X (pc + 2) ls (.ref h.length :: r) (h ++ [.inl (ty, n.toNatClampNeg, .inl (fun _ => 0))]) (c + 1) (z + n.toNatClampNeg)
  | _ => False
def am_newl (mc ms : Nat) : am_T := fun _ _ X pc ls st h c z => match st with
  | .int n :: r => ¬ n < 0 ∧ n.toNatClampNeg ≤ 65536 ∧ c + 1 ≤ mc ∧ z + n.toNatClampNeg ≤ ms ∧ X (pc + 2) ls (.ref h.length :: r) (h ++ [.inl (.long, n.toNatClampNeg, .inr (.inl (fun _ => 0)))]) (c + 1) (z + n.toNatClampNeg)
  | _ => False
def am_newr (E : String) (mc ms : Nat) : am_T := fun _ _ X pc ls st h c z => match st with
  | .int n :: r => ¬ n < 0 ∧ n.toNatClampNeg ≤ 65536 ∧ c + 1 ≤ mc ∧ z + n.toNatClampNeg ≤ ms ∧ X (pc + 3) ls (.ref h.length :: r) (h ++ [.inl (.object E, n.toNatClampNeg, .inr (.inr (.inr (.inr (fun _ => none)))))]) (c + 1) (z + n.toNatClampNeg)
  | _ => False
/-- int[n][k]: the outer array, then its rows -/
def am_newm (mc ms : Nat) : am_T := fun _ _ X pc ls st h c z => match st with
  | .int k :: .int n :: r => ¬ n < 0 ∧ ¬ k < 0 ∧ n.toNatClampNeg ≤ 4096 ∧ k.toNatClampNeg ≤ 4096 ∧ c + (1 + n.toNatClampNeg) ≤ mc ∧ z + (n.toNatClampNeg + n.toNatClampNeg * k.toNatClampNeg) ≤ ms ∧
      X (pc + 4) ls (.ref h.length :: r) (h ++ (.inl (.array .int, n.toNatClampNeg, .inr (.inr (.inr (.inr (fun i => if i < n.toNatClampNeg then some (h.length + 1 + i) else none))))) :: List.replicate n.toNatClampNeg (.inl (.int, k.toNatClampNeg, .inl (fun _ => 0))))) (c + 1 + n.toNatClampNeg) (z + n.toNatClampNeg + n.toNatClampNeg * k.toNatClampNeg)
  | _ => False
/-- calls: the method's number, how many values it takes (the receiver among them), the receiver's kind, the room that it takes -/
def am_rest (st : List Value) : Prop := (st.map fun v => v.category).sum ≤ 8
def am_inv (y n ci ymc yms mc ms : Nat) : am_T := fun K _ X pc ls st h c z =>
  n < st.length ∧ am_rest (st.drop (n + 1)) ∧ c + ymc ≤ mc ∧ z + yms ≤ ms ∧ (match st[n]? with
    | some (.ref a) => (match h[a]? with | some (.inr (d, _)) => d = ci | _ => False)
    | _ => False) ∧ K y ((st.take (n + 1)).reverse) h (fun v h' => X (pc + 3) ls (v.toList ++ st.drop (n + 1)) h' (c + ymc) (z + yms))
def am_inm (y n ymc yms mc ms : Nat) : am_T := fun K _ X pc ls st h c z =>
  n < st.length ∧ am_rest (st.drop (n + 1)) ∧ c + ymc ≤ mc ∧ z + yms ≤ ms ∧ (match st[n]? with | some (.ref _) => True | _ => False) ∧
  K y ((st.take (n + 1)).reverse) h (fun v h' => X (pc + 3) ls (v.toList ++ st.drop (n + 1)) h' (c + ymc) (z + yms))
def am_ins (y n ymc yms mc ms : Nat) : am_T := fun K _ X pc ls st h c z =>
  n ≤ st.length ∧ am_rest (st.drop n) ∧ c + ymc ≤ mc ∧ z + yms ≤ ms ∧
  K y ((st.take n).reverse) h (fun v h' => X (pc + 3) ls (v.toList ++ st.drop n) h' (c + ymc) (z + yms))
def am_obj : am_T := fun _ _ X pc ls st h c z => match st with
  | .ref _ :: r => am_rest r ∧ X (pc + 3) ls r h c z
  | _ => False
def am_max : am_T := fun _ _ X pc ls st h c z => match st with
  | .int y :: .int x :: r => am_rest r ∧ X (pc + 3) ls (.int (if x < y then y else x) :: r) h c z
  | _ => False
def am_min : am_T := fun _ _ X pc ls st h c z => match st with
  | .int y :: .int x :: r => am_rest r ∧ X (pc + 3) ls (.int (if y < x then y else x) :: r) h c z
  | _ => False
def am_copy : am_T := fun _ _ X pc ls st h c z => match st with
  | .int n :: .int dp :: .ref a :: .int sp :: .ref b :: r => match h[a]?, h[b]? with
    | some (.inl (ty, n1, .inl g)), some (.inl (ty0, n0, .inl f)) => ty = .int ∧ ty0 = .int ∧ am_rest r ∧ ¬ sp < 0 ∧ ¬ dp < 0 ∧ ¬ n < 0 ∧ sp.toNatClampNeg + n.toNatClampNeg ≤ n0 ∧ dp.toNatClampNeg + n.toNatClampNeg ≤ n1 ∧
        X (pc + 3) ls r (h.set a (.inl (ty, n1, .inl (va_cpy f g sp.toNatClampNeg dp.toNatClampNeg n.toNatClampNeg)))) c z
    | _, _ => False
  | _ => False
def am_no : am_T := fun _ _ _ _ _ _ _ _ _ => False
/-- constants of text, by number; the first place of a number in a text -/
def am_ldcs (i : UInt32) : am_T := fun _ _ X pc ls st h c z => X (pc + 2) ls (.float i :: st) h c z
def am_ixf (x : Int32) : List Int32 → Nat → Int32
  | [], _ => -1
  | y :: r, k => if y = x then nI k else am_ixf x r (k + 1)
def am_txt (i : Nat) : List Int32 := match i with
  | 1 => [72, 79, 78, 67]
  | 2 => [45, 61, 35]
  | 3 => [49, 50]
  | _ => []
def am_ixof : am_T := fun _ _ X pc ls st h c z => match st with
  | .int x :: .float i :: r => (i = 1 ∨ i = 2 ∨ i = 3) ∧ (0 ≤ x ∧ x < 65536) ∧ am_rest r ∧ X (pc + 3) ls (.int (am_ixf x (am_txt i.toNat) 0) :: r) h c z
  | _ => False
/-- the script -/
def am_slen (L : Nat) : am_T := fun _ _ X pc ls st h c z => match st with
  | .float i :: r => i = 0 ∧ X (pc + 1) ls (.int (Int32.ofNat L) :: r) h c z
  | _ => False
def am_sld (L : Nat) (xs : Nat → Int32) : am_T := fun _ _ X pc ls st h c z => match st with
  | .int i :: .float u :: r => u = 0 ∧ vp_in i L ∧ X (pc + 1) ls (.int (xs i.toNatClampNeg) :: r) h c z
  | _ => False
def am_tsw (d lo hi : Nat) (tg : List Nat) : am_T := fun _ _ X _ ls st h c z => match st with
  | .int x :: r => ((x.toInt < (lo : Int) ∨ (hi : Int) < x.toInt) → X d ls r h c z) ∧ (∀ k : Nat, k < tg.length → x.toInt = (lo : Int) + k → X (tg.getD k 0) ls r h c z)
  | _ => False
def am_fetch : List (Nat × am_T) → Nat → am_T
  | [], _ => am_no
  | q :: r, pc => if q.1 = pc then q.2 else am_fetch r pc
end
section
theorem am_and {A B C : Prop} (h : B → C) : A ∧ B → A ∧ C := fun q => ⟨q.1, h q.2⟩
theorem am_bra {P A B A' B' : Prop} (h : A → A') (g : B → B') : (P → A) ∧ (¬ P → B) → (P → A') ∧ (¬ P → B') := fun q => ⟨fun a => h (q.1 a), fun a => g (q.2 a)⟩
theorem am_ic_m (v : Int32) (len : Nat) : am_TM (am_ic v len) := by
  intro K hK Q Q' hQ X X' hX pc ls st h c z
  unfold am_ic
  repeat' split
  all_goals repeat' (first | exact fun q => hX _ _ _ _ _ _ q | exact fun q => hQ _ _ q | exact fun q => q | refine am_bra ?_ ?_ | refine am_and ?_ | exact fun q => hK _ _ _ _ _ (fun v h' q => hX _ _ _ _ _ _ q) q | split)
theorem am_lc_m (v : Int64) (len : Nat) : am_TM (am_lc v len) := by
  intro K hK Q Q' hQ X X' hX pc ls st h c z
  unfold am_lc
  repeat' split
  all_goals repeat' (first | exact fun q => hX _ _ _ _ _ _ q | exact fun q => hQ _ _ q | exact fun q => q | refine am_bra ?_ ?_ | refine am_and ?_ | exact fun q => hK _ _ _ _ _ (fun v h' q => hX _ _ _ _ _ _ q) q | split)
theorem am_il_m (i len : Nat) : am_TM (am_il i len) := by
  intro K hK Q Q' hQ X X' hX pc ls st h c z
  unfold am_il
  repeat' split
  all_goals repeat' (first | exact fun q => hX _ _ _ _ _ _ q | exact fun q => hQ _ _ q | exact fun q => q | refine am_bra ?_ ?_ | refine am_and ?_ | exact fun q => hK _ _ _ _ _ (fun v h' q => hX _ _ _ _ _ _ q) q | split)
theorem am_ll_m (i len : Nat) : am_TM (am_ll i len) := by
  intro K hK Q Q' hQ X X' hX pc ls st h c z
  unfold am_ll
  repeat' split
  all_goals repeat' (first | exact fun q => hX _ _ _ _ _ _ q | exact fun q => hQ _ _ q | exact fun q => q | refine am_bra ?_ ?_ | refine am_and ?_ | exact fun q => hK _ _ _ _ _ (fun v h' q => hX _ _ _ _ _ _ q) q | split)
theorem am_ra_m (i len : Nat) : am_TM (am_ra i len) := by
  intro K hK Q Q' hQ X X' hX pc ls st h c z
  unfold am_ra
  repeat' split
  all_goals repeat' (first | exact fun q => hX _ _ _ _ _ _ q | exact fun q => hQ _ _ q | exact fun q => q | refine am_bra ?_ ?_ | refine am_and ?_ | exact fun q => hK _ _ _ _ _ (fun v h' q => hX _ _ _ _ _ _ q) q | split)
theorem am_is_m (i len : Nat) : am_TM (am_is i len) := by
  intro K hK Q Q' hQ X X' hX pc ls st h c z
  unfold am_is
  repeat' split
  all_goals repeat' (first | exact fun q => hX _ _ _ _ _ _ q | exact fun q => hQ _ _ q | exact fun q => q | refine am_bra ?_ ?_ | refine am_and ?_ | exact fun q => hK _ _ _ _ _ (fun v h' q => hX _ _ _ _ _ _ q) q | split)
theorem am_ls_m (i len : Nat) : am_TM (am_ls i len) := by
  intro K hK Q Q' hQ X X' hX pc ls st h c z
  unfold am_ls
  repeat' split
  all_goals repeat' (first | exact fun q => hX _ _ _ _ _ _ q | exact fun q => hQ _ _ q | exact fun q => q | refine am_bra ?_ ?_ | refine am_and ?_ | exact fun q => hK _ _ _ _ _ (fun v h' q => hX _ _ _ _ _ _ q) q | split)
theorem am_rs_m (i len : Nat) : am_TM (am_rs i len) := by
  intro K hK Q Q' hQ X X' hX pc ls st h c z
  unfold am_rs
  repeat' split
  all_goals repeat' (first | exact fun q => hX _ _ _ _ _ _ q | exact fun q => hQ _ _ q | exact fun q => q | refine am_bra ?_ ?_ | refine am_and ?_ | exact fun q => hK _ _ _ _ _ (fun v h' q => hX _ _ _ _ _ _ q) q | split)
theorem am_inc_m (i : Nat) (n : Int32) : am_TM (am_inc i n) := by
  intro K hK Q Q' hQ X X' hX pc ls st h c z
  unfold am_inc
  repeat' split
  all_goals repeat' (first | exact fun q => hX _ _ _ _ _ _ q | exact fun q => hQ _ _ q | exact fun q => q | refine am_bra ?_ ?_ | refine am_and ?_ | exact fun q => hK _ _ _ _ _ (fun v h' q => hX _ _ _ _ _ _ q) q | split)
theorem am_ib_m (f : Int32 → Int32 → Int32) : am_TM (am_ib f) := by
  intro K hK Q Q' hQ X X' hX pc ls st h c z
  unfold am_ib
  repeat' split
  all_goals repeat' (first | exact fun q => hX _ _ _ _ _ _ q | exact fun q => hQ _ _ q | exact fun q => q | refine am_bra ?_ ?_ | refine am_and ?_ | exact fun q => hK _ _ _ _ _ (fun v h' q => hX _ _ _ _ _ _ q) q | split)
theorem am_idiv_m : am_TM (am_idiv) := by
  intro K hK Q Q' hQ X X' hX pc ls st h c z
  unfold am_idiv
  repeat' split
  all_goals repeat' (first | exact fun q => hX _ _ _ _ _ _ q | exact fun q => hQ _ _ q | exact fun q => q | refine am_bra ?_ ?_ | refine am_and ?_ | exact fun q => hK _ _ _ _ _ (fun v h' q => hX _ _ _ _ _ _ q) q | split)
theorem am_irem_m : am_TM (am_irem) := by
  intro K hK Q Q' hQ X X' hX pc ls st h c z
  unfold am_irem
  repeat' split
  all_goals repeat' (first | exact fun q => hX _ _ _ _ _ _ q | exact fun q => hQ _ _ q | exact fun q => q | refine am_bra ?_ ?_ | refine am_and ?_ | exact fun q => hK _ _ _ _ _ (fun v h' q => hX _ _ _ _ _ _ q) q | split)
theorem am_lb_m (f : Int64 → Int64 → Int64) : am_TM (am_lb f) := by
  intro K hK Q Q' hQ X X' hX pc ls st h c z
  unfold am_lb
  repeat' split
  all_goals repeat' (first | exact fun q => hX _ _ _ _ _ _ q | exact fun q => hQ _ _ q | exact fun q => q | refine am_bra ?_ ?_ | refine am_and ?_ | exact fun q => hK _ _ _ _ _ (fun v h' q => hX _ _ _ _ _ _ q) q | split)
theorem am_lsh_m (f : Int64 → Int32 → Int64) : am_TM (am_lsh f) := by
  intro K hK Q Q' hQ X X' hX pc ls st h c z
  unfold am_lsh
  repeat' split
  all_goals repeat' (first | exact fun q => hX _ _ _ _ _ _ q | exact fun q => hQ _ _ q | exact fun q => q | refine am_bra ?_ ?_ | refine am_and ?_ | exact fun q => hK _ _ _ _ _ (fun v h' q => hX _ _ _ _ _ _ q) q | split)
theorem am_lcmp_m : am_TM (am_lcmp) := by
  intro K hK Q Q' hQ X X' hX pc ls st h c z
  unfold am_lcmp
  repeat' split
  all_goals repeat' (first | exact fun q => hX _ _ _ _ _ _ q | exact fun q => hQ _ _ q | exact fun q => q | refine am_bra ?_ ?_ | refine am_and ?_ | exact fun q => hK _ _ _ _ _ (fun v h' q => hX _ _ _ _ _ _ q) q | split)
theorem am_i2l_m : am_TM (am_i2l) := by
  intro K hK Q Q' hQ X X' hX pc ls st h c z
  unfold am_i2l
  repeat' split
  all_goals repeat' (first | exact fun q => hX _ _ _ _ _ _ q | exact fun q => hQ _ _ q | exact fun q => q | refine am_bra ?_ ?_ | refine am_and ?_ | exact fun q => hK _ _ _ _ _ (fun v h' q => hX _ _ _ _ _ _ q) q | split)
theorem am_l2i_m : am_TM (am_l2i) := by
  intro K hK Q Q' hQ X X' hX pc ls st h c z
  unfold am_l2i
  repeat' split
  all_goals repeat' (first | exact fun q => hX _ _ _ _ _ _ q | exact fun q => hQ _ _ q | exact fun q => q | refine am_bra ?_ ?_ | refine am_and ?_ | exact fun q => hK _ _ _ _ _ (fun v h' q => hX _ _ _ _ _ _ q) q | split)
theorem am_i2c_m : am_TM (am_i2c) := by
  intro K hK Q Q' hQ X X' hX pc ls st h c z
  unfold am_i2c
  repeat' split
  all_goals repeat' (first | exact fun q => hX _ _ _ _ _ _ q | exact fun q => hQ _ _ q | exact fun q => q | refine am_bra ?_ ?_ | refine am_and ?_ | exact fun q => hK _ _ _ _ _ (fun v h' q => hX _ _ _ _ _ _ q) q | split)
theorem am_dup_m : am_TM (am_dup) := by
  intro K hK Q Q' hQ X X' hX pc ls st h c z
  unfold am_dup
  repeat' split
  all_goals repeat' (first | exact fun q => hX _ _ _ _ _ _ q | exact fun q => hQ _ _ q | exact fun q => q | refine am_bra ?_ ?_ | refine am_and ?_ | exact fun q => hK _ _ _ _ _ (fun v h' q => hX _ _ _ _ _ _ q) q | split)
theorem am_pop_m : am_TM (am_pop) := by
  intro K hK Q Q' hQ X X' hX pc ls st h c z
  unfold am_pop
  repeat' split
  all_goals repeat' (first | exact fun q => hX _ _ _ _ _ _ q | exact fun q => hQ _ _ q | exact fun q => q | refine am_bra ?_ ?_ | refine am_and ?_ | exact fun q => hK _ _ _ _ _ (fun v h' q => hX _ _ _ _ _ _ q) q | split)
theorem am_if1_m (P : Int32 → Prop) (tgt : Nat) : am_TM (am_if1 P tgt) := by
  intro K hK Q Q' hQ X X' hX pc ls st h c z
  unfold am_if1
  repeat' split
  all_goals repeat' (first | exact fun q => hX _ _ _ _ _ _ q | exact fun q => hQ _ _ q | exact fun q => q | refine am_bra ?_ ?_ | refine am_and ?_ | exact fun q => hK _ _ _ _ _ (fun v h' q => hX _ _ _ _ _ _ q) q | split)
theorem am_if2_m (P : Int32 → Int32 → Prop) (tgt : Nat) : am_TM (am_if2 P tgt) := by
  intro K hK Q Q' hQ X X' hX pc ls st h c z
  unfold am_if2
  repeat' split
  all_goals repeat' (first | exact fun q => hX _ _ _ _ _ _ q | exact fun q => hQ _ _ q | exact fun q => q | refine am_bra ?_ ?_ | refine am_and ?_ | exact fun q => hK _ _ _ _ _ (fun v h' q => hX _ _ _ _ _ _ q) q | split)
theorem am_goto_m (tgt : Nat) : am_TM (am_goto tgt) := by
  intro K hK Q Q' hQ X X' hX pc ls st h c z
  unfold am_goto
  repeat' split
  all_goals repeat' (first | exact fun q => hX _ _ _ _ _ _ q | exact fun q => hQ _ _ q | exact fun q => q | refine am_bra ?_ ?_ | refine am_and ?_ | exact fun q => hK _ _ _ _ _ (fun v h' q => hX _ _ _ _ _ _ q) q | split)
theorem am_iret_m (ty : FieldType) : am_TM (am_iret ty) := by
  intro K hK Q Q' hQ X X' hX pc ls st h c z
  unfold am_iret
  repeat' split
  all_goals repeat' (first | exact fun q => hX _ _ _ _ _ _ q | exact fun q => hQ _ _ q | exact fun q => q | refine am_bra ?_ ?_ | refine am_and ?_ | exact fun q => hK _ _ _ _ _ (fun v h' q => hX _ _ _ _ _ _ q) q | split)
theorem am_lret_m : am_TM (am_lret) := by
  intro K hK Q Q' hQ X X' hX pc ls st h c z
  unfold am_lret
  repeat' split
  all_goals repeat' (first | exact fun q => hX _ _ _ _ _ _ q | exact fun q => hQ _ _ q | exact fun q => q | refine am_bra ?_ ?_ | refine am_and ?_ | exact fun q => hK _ _ _ _ _ (fun v h' q => hX _ _ _ _ _ _ q) q | split)
theorem am_vret_m : am_TM (am_vret) := by
  intro K hK Q Q' hQ X X' hX pc ls st h c z
  unfold am_vret
  repeat' split
  all_goals repeat' (first | exact fun q => hX _ _ _ _ _ _ q | exact fun q => hQ _ _ q | exact fun q => q | refine am_bra ?_ ?_ | refine am_and ?_ | exact fun q => hK _ _ _ _ _ (fun v h' q => hX _ _ _ _ _ _ q) q | split)
theorem am_get_m (ci k : Nat) : am_TM (am_get ci k) := by
  intro K hK Q Q' hQ X X' hX pc ls st h c z
  unfold am_get
  repeat' split
  all_goals repeat' (first | exact fun q => hX _ _ _ _ _ _ q | exact fun q => hQ _ _ q | exact fun q => q | refine am_bra ?_ ?_ | refine am_and ?_ | exact fun q => hK _ _ _ _ _ (fun v h' q => hX _ _ _ _ _ _ q) q | split)
theorem am_put_m (ci k : Nat) (ty : FieldType) : am_TM (am_put ci k ty) := by
  intro K hK Q Q' hQ X X' hX pc ls st h c z
  unfold am_put
  repeat' split
  all_goals repeat' (first | exact fun q => hX _ _ _ _ _ _ q | exact fun q => hQ _ _ q | exact fun q => q | refine am_bra ?_ ?_ | refine am_and ?_ | exact fun q => hK _ _ _ _ _ (fun v h' q => hX _ _ _ _ _ _ q) q | split)
theorem am_iald_m : am_TM (am_iald) := by
  intro K hK Q Q' hQ X X' hX pc ls st h c z
  unfold am_iald
  repeat' split
  all_goals repeat' (first | exact fun q => hX _ _ _ _ _ _ q | exact fun q => hQ _ _ q | exact fun q => q | refine am_bra ?_ ?_ | refine am_and ?_ | exact fun q => hK _ _ _ _ _ (fun v h' q => hX _ _ _ _ _ _ q) q | split)
theorem am_cald_m : am_TM (am_cald) := by
  intro K hK Q Q' hQ X X' hX pc ls st h c z
  unfold am_cald
  repeat' split
  all_goals repeat' (first | exact fun q => hX _ _ _ _ _ _ q | exact fun q => hQ _ _ q | exact fun q => q | refine am_bra ?_ ?_ | refine am_and ?_ | exact fun q => hK _ _ _ _ _ (fun v h' q => hX _ _ _ _ _ _ q) q | split)
theorem am_lald_m : am_TM (am_lald) := by
  intro K hK Q Q' hQ X X' hX pc ls st h c z
  unfold am_lald
  repeat' split
  all_goals repeat' (first | exact fun q => hX _ _ _ _ _ _ q | exact fun q => hQ _ _ q | exact fun q => q | refine am_bra ?_ ?_ | refine am_and ?_ | exact fun q => hK _ _ _ _ _ (fun v h' q => hX _ _ _ _ _ _ q) q | split)
theorem am_iast_m : am_TM (am_iast) := by
  intro K hK Q Q' hQ X X' hX pc ls st h c z
  unfold am_iast
  repeat' split
  all_goals repeat' (first | exact fun q => hX _ _ _ _ _ _ q | exact fun q => hQ _ _ q | exact fun q => q | refine am_bra ?_ ?_ | refine am_and ?_ | exact fun q => hK _ _ _ _ _ (fun v h' q => hX _ _ _ _ _ _ q) q | split)
theorem am_cast_m : am_TM (am_cast) := by
  intro K hK Q Q' hQ X X' hX pc ls st h c z
  unfold am_cast
  repeat' split
  all_goals repeat' (first | exact fun q => hX _ _ _ _ _ _ q | exact fun q => hQ _ _ q | exact fun q => q | refine am_bra ?_ ?_ | refine am_and ?_ | exact fun q => hK _ _ _ _ _ (fun v h' q => hX _ _ _ _ _ _ q) q | split)
theorem am_last_m : am_TM (am_last) := by
  intro K hK Q Q' hQ X X' hX pc ls st h c z
  unfold am_last
  repeat' split
  all_goals repeat' (first | exact fun q => hX _ _ _ _ _ _ q | exact fun q => hQ _ _ q | exact fun q => q | refine am_bra ?_ ?_ | refine am_and ?_ | exact fun q => hK _ _ _ _ _ (fun v h' q => hX _ _ _ _ _ _ q) q | split)
theorem am_rald_m (ty0 : FieldType) : am_TM (am_rald ty0) := by
  intro K hK Q Q' hQ X X' hX pc ls st h c z
  unfold am_rald
  repeat' split
  all_goals repeat' (first | exact fun q => hX _ _ _ _ _ _ q | exact fun q => hQ _ _ q | exact fun q => q | refine am_bra ?_ ?_ | refine am_and ?_ | exact fun q => hK _ _ _ _ _ (fun v h' q => hX _ _ _ _ _ _ q) q | split)
theorem am_rast_m (ci : Nat) (E : String) : am_TM (am_rast ci E) := by
  intro K hK Q Q' hQ X X' hX pc ls st h c z
  unfold am_rast
  repeat' split
  all_goals repeat' (first | exact fun q => hX _ _ _ _ _ _ q | exact fun q => hQ _ _ q | exact fun q => q | refine am_bra ?_ ?_ | refine am_and ?_ | exact fun q => hK _ _ _ _ _ (fun v h' q => hX _ _ _ _ _ _ q) q | split)
theorem am_len_m : am_TM (am_len) := by
  intro K hK Q Q' hQ X X' hX pc ls st h c z
  unfold am_len
  repeat' split
  all_goals repeat' (first | exact fun q => hX _ _ _ _ _ _ q | exact fun q => hQ _ _ q | exact fun q => q | refine am_bra ?_ ?_ | refine am_and ?_ | exact fun q => hK _ _ _ _ _ (fun v h' q => hX _ _ _ _ _ _ q) q | split)
theorem am_new_m (ci N : Nat) (fs : List Value) (mc ms : Nat) : am_TM (am_new ci N fs mc ms) := by
  intro K hK Q Q' hQ X X' hX pc ls st h c z
  unfold am_new
  repeat' split
  all_goals repeat' (first | exact fun q => hX _ _ _ _ _ _ q | exact fun q => hQ _ _ q | exact fun q => q | refine am_bra ?_ ?_ | refine am_and ?_ | exact fun q => hK _ _ _ _ _ (fun v h' q => hX _ _ _ _ _ _ q) q | split)
theorem am_newi_m (ty : FieldType) (mc ms : Nat) : am_TM (am_newi ty mc ms) := by
  intro K hK Q Q' hQ X X' hX pc ls st h c z
  unfold am_newi
  repeat' split
  all_goals repeat' (first | exact fun q => hX _ _ _ _ _ _ q | exact fun q => hQ _ _ q | exact fun q => q | refine am_bra ?_ ?_ | refine am_and ?_ | exact fun q => hK _ _ _ _ _ (fun v h' q => hX _ _ _ _ _ _ q) q | split)
theorem am_newl_m (mc ms : Nat) : am_TM (am_newl mc ms) := by
  intro K hK Q Q' hQ X X' hX pc ls st h c z
  unfold am_newl
  repeat' split
  all_goals repeat' (first | exact fun q => hX _ _ _ _ _ _ q | exact fun q => hQ _ _ q | exact fun q => q | refine am_bra ?_ ?_ | refine am_and ?_ | exact fun q => hK _ _ _ _ _ (fun v h' q => hX _ _ _ _ _ _ q) q | split)
theorem am_newr_m (E : String) (mc ms : Nat) : am_TM (am_newr E mc ms) := by
  intro K hK Q Q' hQ X X' hX pc ls st h c z
  unfold am_newr
  repeat' split
  all_goals repeat' (first | exact fun q => hX _ _ _ _ _ _ q | exact fun q => hQ _ _ q | exact fun q => q | refine am_bra ?_ ?_ | refine am_and ?_ | exact fun q => hK _ _ _ _ _ (fun v h' q => hX _ _ _ _ _ _ q) q | split)
theorem am_newm_m (mc ms : Nat) : am_TM (am_newm mc ms) := by
  intro K hK Q Q' hQ X X' hX pc ls st h c z
  unfold am_newm
  repeat' split
  all_goals repeat' (first | exact fun q => hX _ _ _ _ _ _ q | exact fun q => hQ _ _ q | exact fun q => q | refine am_bra ?_ ?_ | refine am_and ?_ | exact fun q => hK _ _ _ _ _ (fun v h' q => hX _ _ _ _ _ _ q) q | split)
theorem am_inv_m (y n ci ymc yms mc ms : Nat) : am_TM (am_inv y n ci ymc yms mc ms) := by
  intro K hK Q Q' hQ X X' hX pc ls st h c z
  unfold am_inv
  repeat' split
  all_goals repeat' (first | exact fun q => hX _ _ _ _ _ _ q | exact fun q => hQ _ _ q | exact fun q => q | refine am_bra ?_ ?_ | refine am_and ?_ | exact fun q => hK _ _ _ _ _ (fun v h' q => hX _ _ _ _ _ _ q) q | split)
theorem am_inm_m (y n ymc yms mc ms : Nat) : am_TM (am_inm y n ymc yms mc ms) := by
  intro K hK Q Q' hQ X X' hX pc ls st h c z
  unfold am_inm
  repeat' split
  all_goals repeat' (first | exact fun q => hX _ _ _ _ _ _ q | exact fun q => hQ _ _ q | exact fun q => q | refine am_bra ?_ ?_ | refine am_and ?_ | exact fun q => hK _ _ _ _ _ (fun v h' q => hX _ _ _ _ _ _ q) q | split)
theorem am_ins_m (y n ymc yms mc ms : Nat) : am_TM (am_ins y n ymc yms mc ms) := by
  intro K hK Q Q' hQ X X' hX pc ls st h c z
  unfold am_ins
  repeat' split
  all_goals repeat' (first | exact fun q => hX _ _ _ _ _ _ q | exact fun q => hQ _ _ q | exact fun q => q | refine am_bra ?_ ?_ | refine am_and ?_ | exact fun q => hK _ _ _ _ _ (fun v h' q => hX _ _ _ _ _ _ q) q | split)
theorem am_obj_m : am_TM (am_obj) := by
  intro K hK Q Q' hQ X X' hX pc ls st h c z
  unfold am_obj
  repeat' split
  all_goals repeat' (first | exact fun q => hX _ _ _ _ _ _ q | exact fun q => hQ _ _ q | exact fun q => q | refine am_bra ?_ ?_ | refine am_and ?_ | exact fun q => hK _ _ _ _ _ (fun v h' q => hX _ _ _ _ _ _ q) q | split)
theorem am_max_m : am_TM (am_max) := by
  intro K hK Q Q' hQ X X' hX pc ls st h c z
  unfold am_max
  repeat' split
  all_goals repeat' (first | exact fun q => hX _ _ _ _ _ _ q | exact fun q => hQ _ _ q | exact fun q => q | refine am_bra ?_ ?_ | refine am_and ?_ | exact fun q => hK _ _ _ _ _ (fun v h' q => hX _ _ _ _ _ _ q) q | split)
theorem am_min_m : am_TM (am_min) := by
  intro K hK Q Q' hQ X X' hX pc ls st h c z
  unfold am_min
  repeat' split
  all_goals repeat' (first | exact fun q => hX _ _ _ _ _ _ q | exact fun q => hQ _ _ q | exact fun q => q | refine am_bra ?_ ?_ | refine am_and ?_ | exact fun q => hK _ _ _ _ _ (fun v h' q => hX _ _ _ _ _ _ q) q | split)
theorem am_copy_m : am_TM (am_copy) := by
  intro K hK Q Q' hQ X X' hX pc ls st h c z
  unfold am_copy
  repeat' split
  all_goals repeat' (first | exact fun q => hX _ _ _ _ _ _ q | exact fun q => hQ _ _ q | exact fun q => q | refine am_bra ?_ ?_ | refine am_and ?_ | exact fun q => hK _ _ _ _ _ (fun v h' q => hX _ _ _ _ _ _ q) q | split)
theorem am_no_m : am_TM (am_no) := by
  intro K hK Q Q' hQ X X' hX pc ls st h c z
  unfold am_no
  repeat' split
  all_goals repeat' (first | exact fun q => hX _ _ _ _ _ _ q | exact fun q => hQ _ _ q | exact fun q => q | refine am_bra ?_ ?_ | refine am_and ?_ | exact fun q => hK _ _ _ _ _ (fun v h' q => hX _ _ _ _ _ _ q) q | split)
theorem am_ldcs_m (i : UInt32) : am_TM (am_ldcs i) := by
  intro K hK Q Q' hQ X X' hX pc ls st h c z
  unfold am_ldcs
  repeat' split
  all_goals repeat' (first | exact fun q => hX _ _ _ _ _ _ q | exact fun q => hQ _ _ q | exact fun q => q | refine am_bra ?_ ?_ | refine am_and ?_ | exact fun q => hK _ _ _ _ _ (fun v h' q => hX _ _ _ _ _ _ q) q | split)
theorem am_ixof_m : am_TM (am_ixof) := by
  intro K hK Q Q' hQ X X' hX pc ls st h c z
  unfold am_ixof
  repeat' split
  all_goals repeat' (first | exact fun q => hX _ _ _ _ _ _ q | exact fun q => hQ _ _ q | exact fun q => q | refine am_bra ?_ ?_ | refine am_and ?_ | exact fun q => hK _ _ _ _ _ (fun v h' q => hX _ _ _ _ _ _ q) q | split)
theorem am_slen_m (L : Nat) : am_TM (am_slen L) := by
  intro K hK Q Q' hQ X X' hX pc ls st h c z
  unfold am_slen
  repeat' split
  all_goals repeat' (first | exact fun q => hX _ _ _ _ _ _ q | exact fun q => hQ _ _ q | exact fun q => q | refine am_bra ?_ ?_ | refine am_and ?_ | exact fun q => hK _ _ _ _ _ (fun v h' q => hX _ _ _ _ _ _ q) q | split)
theorem am_sld_m (L : Nat) (xs : Nat → Int32) : am_TM (am_sld L xs) := by
  intro K hK Q Q' hQ X X' hX pc ls st h c z
  unfold am_sld
  repeat' split
  all_goals repeat' (first | exact fun q => hX _ _ _ _ _ _ q | exact fun q => hQ _ _ q | exact fun q => q | refine am_bra ?_ ?_ | refine am_and ?_ | exact fun q => hK _ _ _ _ _ (fun v h' q => hX _ _ _ _ _ _ q) q | split)
theorem am_tsw_m (d lo hi : Nat) (tg : List Nat) : am_TM (am_tsw d lo hi tg) := by
  intro K hK Q Q' hQ X X' hX pc ls st h c z
  unfold am_tsw
  split
  · exact fun q => ⟨fun a => hX _ _ _ _ _ _ (q.1 a), fun k a b => hX _ _ _ _ _ _ (q.2 k a b)⟩
  · exact fun q => q
theorem am_fetch_m {l : List (Nat × am_T)} (h : ∀ q ∈ l, am_TM q.2) (pc : Nat) : am_TM (am_fetch l pc) := by
  induction l with
  | nil => exact am_no_m
  | cons q r ih =>
    unfold am_fetch
    split
    · exact h q List.mem_cons_self
    · exact ih (fun x hx => h x (List.mem_cons_of_mem _ hx))
end
section
/-! What an abstract state is of a machine's. -/
def am_cv (S : Nat → Nat) (B : Nat) (v : Value) : Value := match v with
  | .ref k => .ref (B + k)
  | .float u => .ref (S u.toNat)
  | x => x
theorem am_cv_cat (S : Nat → Nat) (B : Nat) (v : Value) : (am_cv S B v).category = v.category := by cases v <;> rfl
def am_ca (B : Nat) (a : vp_A) : vp_A := match a with
  | (n, .inr (.inr (.inr (.inr f)))) => (n, .inr (.inr (.inr (.inr (fun j => (f j).map (fun k => B + k))))))
  | x => x
def am_cc (cA : FieldType → ClassId) (S : Nat → Nat) (B : Nat) (e : am_C) : va_E := match e with
  | .inl (ty, a) => .inl (cA ty, am_ca B a)
  | .inr (ci, fs) => .inr (ci, fs.map (am_cv S B))
def am_conc (cA : FieldType → ClassId) (S : Nat → Nat) (B : Nat) (h : am_H) : va_W := h.zipIdx.map (fun q => (B + q.2, am_cc cA S B q.1))
theorem am_conc_at (cA : FieldType → ClassId) (S : Nat → Nat) (B : Nat) (h : am_H) (k : Nat) : (am_conc cA S B h)[k]? = h[k]?.map (fun e => (B + k, am_cc cA S B e)) := by
  unfold am_conc
  rw [List.getElem?_map, List.getElem?_zipIdx]
  cases h[k]? <;> simp
theorem am_conc_some {cA : FieldType → ClassId} {S : Nat → Nat} {B : Nat} {h : am_H} {k : Nat} {e : am_C} (hk : h[k]? = some e) : (am_conc cA S B h)[k]? = some (B + k, am_cc cA S B e) := by
  rw [am_conc_at, hk]; rfl
theorem am_conc_set (cA : FieldType → ClassId) (S : Nat → Nat) (B : Nat) (h : am_H) (k : Nat) (e : am_C) : (am_conc cA S B h).set k (B + k, am_cc cA S B e) = am_conc cA S B (h.set k e) := by
  apply List.ext_getElem?
  intro j
  rw [am_conc_at, List.getElem?_set, List.getElem?_set]
  have hlen : (am_conc cA S B h).length = h.length := by simp [am_conc]
  rw [hlen]
  by_cases hj : k = j
  · subst hj
    by_cases hl : k < h.length <;> simp [hl]
  · simp [hj, am_conc_at]
theorem am_conc_app (cA : FieldType → ClassId) (S : Nat → Nat) (B : Nat) (h h2 : am_H) : am_conc cA S B (h ++ h2) = am_conc cA S B h ++ (h2.zipIdx h.length).map (fun q => (B + q.2, am_cc cA S B q.1)) := by
  unfold am_conc
  rw [List.zipIdx_append, List.map_append]
  simp
theorem am_conc_D (cA : FieldType → ClassId) (S : Nat → Nat) (B : Nat) (h : am_H) : va_D (fun q => B ≤ q) (am_conc cA S B h) := by
  refine ⟨fun i j p q hi hj hpq => ?_, fun k q hk => ?_⟩
  · rw [am_conc_at] at hi hj
    cases h1 : h[i]? with
    | none => rw [h1] at hi; cases hi
    | some x =>
      cases h2 : h[j]? with
      | none => rw [h2] at hj; cases hj
      | some y =>
        rw [h1] at hi; rw [h2] at hj
        cases hi; cases hj
        have : B + i = B + j := hpq
        omega
  · rw [am_conc_at] at hk
    cases h1 : h[k]? with
    | none => rw [h1] at hk; cases hk
    | some x =>
      rw [h1] at hk
      cases hk
      exact Nat.le_add_right B k
def am_R (D : va_G) (cl : List vw_C) (cA : FieldType → ClassId) (S : Nat → Nat) (H0 : Heap) (h : am_H) (H : Heap) : Prop := H.size = H0.size + h.length ∧ (∀ q : Nat, q < H0.size → H[q]? = H0[q]?) ∧ va_P D cl (am_conc cA S H0.size h) H
/-- locals -/
def am_lv (S : Nat → Nat) (B : Nat) (lsA : Array Slot) (nL : Nat) (ls : am_L) : Prop := lsA.size = nL ∧ ls.length = nL ∧ lv_wf lsA ∧ ∀ (i : Nat) (v : Value), ls[i]? = some (some v) → lsA[i]? = some (.val (am_cv S B v))
def am_lst (S : Nat → Nat) (B : Nat) (ls : am_L) : List (Nat × Value) := ls.zipIdx.filterMap (fun q => q.1.map (fun v => (q.2, am_cv S B v)))
theorem am_lst_mem {S : Nat → Nat} {B : Nat} {ls : am_L} {i : Nat} {w : Value} : (i, w) ∈ am_lst S B ls ↔ ∃ v, ls[i]? = some (some v) ∧ w = am_cv S B v := by
  unfold am_lst
  rw [List.mem_filterMap]
  constructor
  · rintro ⟨⟨o, j⟩, hm, hv⟩
    cases o with
    | none => cases hv
    | some v =>
      have hv : (j, am_cv S B v) = (i, w) := by simpa using hv
      obtain ⟨rfl, rfl⟩ := Prod.mk.inj hv
      exact ⟨v, by simpa using List.mem_zipIdx_iff_getElem?.mp hm, rfl⟩
  · rintro ⟨v, hv, rfl⟩
    exact ⟨(some v, i), List.mem_zipIdx_iff_getElem?.mpr (by simpa using hv), by simp⟩
theorem am_lv.has {S : Nat → Nat} {B : Nat} {lsA : Array Slot} {nL : Nat} {ls : am_L} (h : am_lv S B lsA nL ls) : lv_has lsA nL (am_lst S B ls) := by
  refine ⟨h.1, h.2.2.1, fun q hq => ?_⟩
  obtain ⟨v, hv, e⟩ := am_lst_mem.mp (show (q.1, q.2) ∈ _ from hq)
  rw [e]
  exact h.2.2.2 _ _ hv
theorem am_al_some {ls : am_L} {i : Nat} {v : Value} (h : am_al ls i = some v) : ls[i]? = some (some v) := by
  unfold am_al at h
  rw [List.getD_eq_getElem?_getD] at h
  cases h1 : ls[i]? with
  | none => rw [h1] at h; cases h
  | some o => rw [h1] at h; exact congrArg some h
theorem am_lv.at {S : Nat → Nat} {B : Nat} {lsA : Array Slot} {nL : Nat} {ls : am_L} (h : am_lv S B lsA nL ls) {i : Nat} {v : Value} (hv : am_al ls i = some v) : lsA[i]? = some (.val (am_cv S B v)) := h.2.2.2 _ _ (am_al_some hv)
theorem am_kl_some {d : Option Value} {v : Value} (h : am_kl d = some v) : d = some v ∧ ¬ v.category = 2 := by
  unfold am_kl at h
  split at h
  · cases h
  · cases h
  · next h1 h2 =>
    subst h
    refine ⟨rfl, ?_⟩
    cases v <;> simp_all [Value.category]
theorem am_lv.s1 {S : Nat → Nat} {B : Nat} {lsA ls' : Array Slot} {nL : Nat} {ls : am_L} {i : Nat} {v : Value} (hn : i < nL) (h : am_lv S B lsA nL ls) (g : lv_has ls' nL ((i, am_cv S B v) :: (am_lst S B ls).filter (fun q => !(q.1 == i) && !(q.1 + 1 == i && q.2.category == 2)))) : am_lv S B ls' nL (am_s1 ls i v) := by
  refine ⟨g.1, by simp [am_s1, h.2.1], g.2.1, fun j w hj => ?_⟩
  by_cases e : j = i
  · subst e
    unfold am_s1 at hj
    rw [List.getElem?_set_self (by simp [h.2.1, hn])] at hj
    cases hj
    exact g.2.2 _ List.mem_cons_self
  · unfold am_s1 at hj
    rw [List.getElem?_set_ne (fun q => e q.symm)] at hj
    refine g.2.2 (j, am_cv S B w) (List.mem_cons_of_mem _ (List.mem_filter.mpr ?_))
    by_cases e2 : j + 1 = i
    · have e3 : i - 1 = j := by omega
      have hjl : j < ls.length := by rw [h.2.1]; omega
      rw [e3, List.getElem?_set_self hjl] at hj
      obtain ⟨k1, k2⟩ := am_kl_some (Option.some.inj hj)
      refine ⟨am_lst_mem.mpr ⟨w, am_al_some k1, rfl⟩, ?_⟩
      simp [e, am_cv_cat, k2]
    · by_cases e4 : i - 1 = j
      · exact absurd (show j = i by omega) e
      · rw [List.getElem?_set_ne e4] at hj
        refine ⟨am_lst_mem.mpr ⟨w, hj, rfl⟩, ?_⟩
        simp [e, e2]
theorem am_lv.s2 {S : Nat → Nat} {B : Nat} {lsA ls' : Array Slot} {nL : Nat} {ls : am_L} {i : Nat} {v : Value} (hn : i + 1 < nL) (h : am_lv S B lsA nL ls) (g : lv_has ls' nL ((i, am_cv S B v) :: (am_lst S B ls).filter (fun q => !(q.1 == i) && (!(q.1 == i + 1) && !(q.1 + 1 == i && q.2.category == 2))))) : am_lv S B ls' nL (am_s2 ls i v) := by
  refine ⟨g.1, by simp [am_s2, h.2.1], g.2.1, fun j w hj => ?_⟩
  unfold am_s2 at hj
  by_cases e0 : j = i + 1
  · subst e0
    rw [List.getElem?_set_self (by simp [h.2.1, hn])] at hj
    cases hj
  · rw [List.getElem?_set_ne (fun q => e0 q.symm)] at hj
    by_cases e : j = i
    · subst e
      rw [List.getElem?_set_self (by simp [h.2.1]; omega)] at hj
      cases hj
      exact g.2.2 _ List.mem_cons_self
    · rw [List.getElem?_set_ne (fun q => e q.symm)] at hj
      refine g.2.2 (j, am_cv S B w) (List.mem_cons_of_mem _ (List.mem_filter.mpr ?_))
      by_cases e2 : j + 1 = i
      · have e3 : i - 1 = j := by omega
        have hjl : j < ls.length := by rw [h.2.1]; omega
        rw [e3, List.getElem?_set_self hjl] at hj
        obtain ⟨k1, k2⟩ := am_kl_some (Option.some.inj hj)
        refine ⟨am_lst_mem.mpr ⟨w, am_al_some k1, rfl⟩, ?_⟩
        simp [e, e0, am_cv_cat, k2]
      · by_cases e4 : i - 1 = j
        · exact absurd (show j = i by omega) e
        · rw [List.getElem?_set_ne e4] at hj
          refine ⟨am_lst_mem.mpr ⟨w, hj, rfl⟩, ?_⟩
          simp [e, e0, e2]
/-- the entry -/
theorem am_ent_args (S : Nat → Nat) (B : Nat) : ∀ (As : List Value) (n i : Nat) (v : Value), (am_ent As)[i]? = some (some v) → (n + i, am_cv S B v) ∈ lv_args n (As.map (am_cv S B))
  | [], n, i, v, h => by simp [am_ent] at h
  | a :: As, n, i, v, h => by
    unfold am_ent at h
    show _ ∈ (n, am_cv S B a) :: lv_args (if (am_cv S B a).category = 2 then n + 2 else n + 1) (As.map (am_cv S B))
    rw [am_cv_cat]
    by_cases hc : a.category = 2
    · rw [if_pos hc] at h
      rw [if_pos hc]
      match i, h with
      | 0, h => cases h; exact List.mem_cons_self
      | 1, h => cases h
      | i + 2, h =>
        refine List.mem_cons_of_mem _ ?_
        have := am_ent_args S B As (n + 2) i v h
        rw [show n + (i + 2) = n + 2 + i by omega]
        exact this
    · rw [if_neg hc] at h
      rw [if_neg hc]
      match i, h with
      | 0, h => cases h; exact List.mem_cons_self
      | i + 1, h =>
        refine List.mem_cons_of_mem _ ?_
        have := am_ent_args S B As (n + 1) i v h
        rw [show n + (i + 1) = n + 1 + i by omega]
        exact this
theorem am_ent_len (S : Nat → Nat) (B : Nat) : ∀ (As : List Value), (lg_sl (As.map (am_cv S B))).length = (am_ent As).length
  | [] => rfl
  | a :: As => by
    have ih := am_ent_len S B As
    unfold lg_sl at ih ⊢
    rw [List.map_cons, List.flatMap_cons, List.length_append, ih, show am_ent (a :: As) = (if a.category = 2 then some a :: none :: am_ent As else some a :: am_ent As) from rfl]
    rw [am_cv_cat]
    by_cases hc : a.category = 2
    · simp [hc]; omega
    · simp [hc]; omega
end
section
def am_G : List Cond := lw_tbl.filter goodWord
theorem am_G_of {w : Cond} (h : w ∈ tables_1) (hg : goodWord w = true) : w ∈ am_G := List.mem_filter.mpr ⟨List.mem_append_right _ h, hg⟩
theorem am_tb {w : Cond} (i : Nat) (h : tables_1[i]? = some w) : w ∈ tables_1 := List.mem_of_getElem? h
def am_R0 : String := "SpeciesRounds"
def am_T0 : u_T := fun k => match k with
  | 0 => ("SpeciesRounds", "cap", "I", true)
  | 1 => ("SpeciesRounds", "line", "LSpeciesRounds$Line;", true)
  | 2 => ("SpeciesRounds", "reader", "LSpeciesRounds$Reader;", true)
  | 3 => ("SpeciesRounds", "keySearch", "LSpeciesRounds$KeySearch;", true)
  | 4 => ("SpeciesRounds", "table", "LSpeciesRounds$Table;", true)
  | 5 => ("SpeciesRounds", "rules", "[LSpeciesRounds$Rule;", true)
  | 6 => ("SpeciesRounds", "ruleCount", "I", false)
  | 7 => ("SpeciesRounds", "mixture", "LSpeciesRounds$Mixture;", true)
  | 8 => ("SpeciesRounds", "finder", "LSpeciesRounds$Finder;", true)
  | 9 => ("SpeciesRounds", "products", "LSpeciesRounds$Products;", true)
  | 10 => ("SpeciesRounds", "list", "LSpeciesRounds$ReactionList;", true)
  | 11 => ("SpeciesRounds", "draft", "LSpeciesRounds$ReactionList;", true)
  | _ => ("SpeciesRounds", "written", "[I", true)
def am_ty0 : Nat → FieldType := fun k => match k with
  | 0 => .int
  | 1 => .object "SpeciesRounds$Line"
  | 2 => .object "SpeciesRounds$Reader"
  | 3 => .object "SpeciesRounds$KeySearch"
  | 4 => .object "SpeciesRounds$Table"
  | 5 => .array (.object "SpeciesRounds$Rule")
  | 6 => .int
  | 7 => .object "SpeciesRounds$Mixture"
  | 8 => .object "SpeciesRounds$Finder"
  | 9 => .object "SpeciesRounds$Products"
  | 10 => .object "SpeciesRounds$ReactionList"
  | 11 => .object "SpeciesRounds$ReactionList"
  | _ => .array .int
theorem am_nm0 : ∀ a, a < 13 → ∀ b, b < 13 → a ≠ b → (am_T0 a).2.1 ≠ (am_T0 b).2.1 := by decide +kernel
theorem am_tyok0 : ∀ k, k < 13 → parseFieldDescriptor (am_T0 k).2.2.1 = some (am_ty0 k) := by decide +kernel
theorem am_in0 : ∀ w ∈ u_ws am_R0 am_T0 13, w ∈ am_G := List.forall_mem_cons.mpr ⟨am_G_of (am_tb 264 (by decide +kernel)) (by decide +kernel), List.forall_mem_cons.mpr ⟨am_G_of (am_tb 266 (by decide +kernel)) (by decide +kernel), List.forall_mem_cons.mpr ⟨am_G_of (am_tb 268 (by decide +kernel)) (by decide +kernel), List.forall_mem_cons.mpr ⟨am_G_of (am_tb 270 (by decide +kernel)) (by decide +kernel), List.forall_mem_cons.mpr ⟨am_G_of (am_tb 272 (by decide +kernel)) (by decide +kernel), List.forall_mem_cons.mpr ⟨am_G_of (am_tb 274 (by decide +kernel)) (by decide +kernel), List.forall_mem_cons.mpr ⟨am_G_of (am_tb 276 (by decide +kernel)) (by decide +kernel), List.forall_mem_cons.mpr ⟨am_G_of (am_tb 278 (by decide +kernel)) (by decide +kernel), List.forall_mem_cons.mpr ⟨am_G_of (am_tb 280 (by decide +kernel)) (by decide +kernel), List.forall_mem_cons.mpr ⟨am_G_of (am_tb 282 (by decide +kernel)) (by decide +kernel), List.forall_mem_cons.mpr ⟨am_G_of (am_tb 284 (by decide +kernel)) (by decide +kernel), List.forall_mem_cons.mpr ⟨am_G_of (am_tb 286 (by decide +kernel)) (by decide +kernel), List.forall_mem_cons.mpr ⟨am_G_of (am_tb 288 (by decide +kernel)) (by decide +kernel), fun _ h => absurd h List.not_mem_nil⟩⟩⟩⟩⟩⟩⟩⟩⟩⟩⟩⟩⟩
theorem am_inst0 : Cond.instantiable am_R0 13 ∈ am_G := am_G_of (am_tb 22 (by decide +kernel)) (by decide +kernel)
theorem am_ini0 : Cond.initialized am_R0 ∈ am_G := am_G_of (am_tb 1 (by decide +kernel)) (by decide +kernel)
def am_R1 : String := "SpeciesRounds$Finder"
def am_T1 : u_T := fun k => match k with
  | 0 => ("SpeciesRounds$Finder", "chosen", "[I", true)
  | 1 => ("SpeciesRounds$Finder", "found", "[I", true)
  | _ => ("SpeciesRounds$Finder", "count", "I", false)
def am_ty1 : Nat → FieldType := fun k => match k with
  | 0 => .array .int
  | 1 => .array .int
  | _ => .int
theorem am_nm1 : ∀ a, a < 3 → ∀ b, b < 3 → a ≠ b → (am_T1 a).2.1 ≠ (am_T1 b).2.1 := by decide +kernel
theorem am_tyok1 : ∀ k, k < 3 → parseFieldDescriptor (am_T1 k).2.2.1 = some (am_ty1 k) := by decide +kernel
theorem am_in1 : ∀ w ∈ u_ws am_R1 am_T1 3, w ∈ am_G := List.forall_mem_cons.mpr ⟨am_G_of (am_tb 179 (by decide +kernel)) (by decide +kernel), List.forall_mem_cons.mpr ⟨am_G_of (am_tb 181 (by decide +kernel)) (by decide +kernel), List.forall_mem_cons.mpr ⟨am_G_of (am_tb 183 (by decide +kernel)) (by decide +kernel), fun _ h => absurd h List.not_mem_nil⟩⟩⟩
theorem am_inst1 : Cond.instantiable am_R1 3 ∈ am_G := am_G_of (am_tb 170 (by decide +kernel)) (by decide +kernel)
theorem am_ini1 : Cond.initialized am_R1 ∈ am_G := am_G_of (am_tb 8 (by decide +kernel)) (by decide +kernel)
def am_R2 : String := "SpeciesRounds$Graph"
def am_T2 : u_T := fun k => match k with
  | 0 => ("SpeciesRounds$Graph", "codes", "[I", true)
  | 1 => ("SpeciesRounds$Graph", "orders", "[[I", true)
  | 2 => ("SpeciesRounds$Graph", "everyAtom", "[I", true)
  | _ => ("SpeciesRounds$Graph", "atoms", "I", false)
def am_ty2 : Nat → FieldType := fun k => match k with
  | 0 => .array .int
  | 1 => .array (.array .int)
  | 2 => .array .int
  | _ => .int
theorem am_nm2 : ∀ a, a < 4 → ∀ b, b < 4 → a ≠ b → (am_T2 a).2.1 ≠ (am_T2 b).2.1 := by decide +kernel
theorem am_tyok2 : ∀ k, k < 4 → parseFieldDescriptor (am_T2 k).2.2.1 = some (am_ty2 k) := by decide +kernel
theorem am_in2 : ∀ w ∈ u_ws am_R2 am_T2 4, w ∈ am_G := List.forall_mem_cons.mpr ⟨am_G_of (am_tb 74 (by decide +kernel)) (by decide +kernel), List.forall_mem_cons.mpr ⟨am_G_of (am_tb 76 (by decide +kernel)) (by decide +kernel), List.forall_mem_cons.mpr ⟨am_G_of (am_tb 78 (by decide +kernel)) (by decide +kernel), List.forall_mem_cons.mpr ⟨am_G_of (am_tb 80 (by decide +kernel)) (by decide +kernel), fun _ h => absurd h List.not_mem_nil⟩⟩⟩⟩
theorem am_inst2 : Cond.instantiable am_R2 4 ∈ am_G := am_G_of (am_tb 52 (by decide +kernel)) (by decide +kernel)
theorem am_ini2 : Cond.initialized am_R2 ∈ am_G := am_G_of (am_tb 4 (by decide +kernel)) (by decide +kernel)
def am_R3 : String := "SpeciesRounds$KeySearch"
def am_T3 : u_T := fun k => match k with
  | 0 => ("SpeciesRounds$KeySearch", "sorted", "[I", true)
  | 1 => ("SpeciesRounds$KeySearch", "ordering", "[I", true)
  | _ => ("SpeciesRounds$KeySearch", "least", "[I", true)
def am_ty3 : Nat → FieldType := fun k => match k with
  | 0 => .array .int
  | 1 => .array .int
  | _ => .array .int
theorem am_nm3 : ∀ a, a < 3 → ∀ b, b < 3 → a ≠ b → (am_T3 a).2.1 ≠ (am_T3 b).2.1 := by decide +kernel
theorem am_tyok3 : ∀ k, k < 3 → parseFieldDescriptor (am_T3 k).2.2.1 = some (am_ty3 k) := by decide +kernel
theorem am_in3 : ∀ w ∈ u_ws am_R3 am_T3 3, w ∈ am_G := List.forall_mem_cons.mpr ⟨am_G_of (am_tb 123 (by decide +kernel)) (by decide +kernel), List.forall_mem_cons.mpr ⟨am_G_of (am_tb 125 (by decide +kernel)) (by decide +kernel), List.forall_mem_cons.mpr ⟨am_G_of (am_tb 127 (by decide +kernel)) (by decide +kernel), fun _ h => absurd h List.not_mem_nil⟩⟩⟩
theorem am_inst3 : Cond.instantiable am_R3 3 ∈ am_G := am_G_of (am_tb 115 (by decide +kernel)) (by decide +kernel)
theorem am_ini3 : Cond.initialized am_R3 ∈ am_G := am_G_of (am_tb 5 (by decide +kernel)) (by decide +kernel)
def am_R4 : String := "SpeciesRounds$Line"
def am_T4 : u_T := fun k => match k with
  | 0 => ("SpeciesRounds$Line", "typed", "[C", true)
  | _ => ("SpeciesRounds$Line", "length", "I", false)
def am_ty4 : Nat → FieldType := fun k => match k with
  | 0 => .array .char
  | _ => .int
theorem am_nm4 : ∀ a, a < 2 → ∀ b, b < 2 → a ≠ b → (am_T4 a).2.1 ≠ (am_T4 b).2.1 := by decide +kernel
theorem am_tyok4 : ∀ k, k < 2 → parseFieldDescriptor (am_T4 k).2.2.1 = some (am_ty4 k) := by decide +kernel
theorem am_in4 : ∀ w ∈ u_ws am_R4 am_T4 2, w ∈ am_G := List.forall_mem_cons.mpr ⟨am_G_of (am_tb 39 (by decide +kernel)) (by decide +kernel), List.forall_mem_cons.mpr ⟨am_G_of (am_tb 41 (by decide +kernel)) (by decide +kernel), fun _ h => absurd h List.not_mem_nil⟩⟩
theorem am_inst4 : Cond.instantiable am_R4 2 ∈ am_G := am_G_of (am_tb 30 (by decide +kernel)) (by decide +kernel)
theorem am_ini4 : Cond.initialized am_R4 ∈ am_G := am_G_of (am_tb 2 (by decide +kernel)) (by decide +kernel)
def am_R5 : String := "SpeciesRounds$Mixture"
def am_T5 : u_T := fun k => match k with
  | 0 => ("SpeciesRounds$Mixture", "graph", "LSpeciesRounds$Graph;", true)
  | _ => ("SpeciesRounds$Mixture", "lastBegin", "I", false)
def am_ty5 : Nat → FieldType := fun k => match k with
  | 0 => .object "SpeciesRounds$Graph"
  | _ => .int
theorem am_nm5 : ∀ a, a < 2 → ∀ b, b < 2 → a ≠ b → (am_T5 a).2.1 ≠ (am_T5 b).2.1 := by decide +kernel
theorem am_tyok5 : ∀ k, k < 2 → parseFieldDescriptor (am_T5 k).2.2.1 = some (am_ty5 k) := by decide +kernel
theorem am_in5 : ∀ w ∈ u_ws am_R5 am_T5 2, w ∈ am_G := List.forall_mem_cons.mpr ⟨am_G_of (am_tb 164 (by decide +kernel)) (by decide +kernel), List.forall_mem_cons.mpr ⟨am_G_of (am_tb 166 (by decide +kernel)) (by decide +kernel), fun _ h => absurd h List.not_mem_nil⟩⟩
theorem am_inst5 : Cond.instantiable am_R5 2 ∈ am_G := am_G_of (am_tb 153 (by decide +kernel)) (by decide +kernel)
theorem am_ini5 : Cond.initialized am_R5 ∈ am_G := am_G_of (am_tb 7 (by decide +kernel)) (by decide +kernel)
def am_R6 : String := "SpeciesRounds$Products"
def am_T6 : u_T := fun k => match k with
  | 0 => ("SpeciesRounds$Products", "words", "[J", true)
  | 1 => ("SpeciesRounds$Products", "joined", "[I", true)
  | 2 => ("SpeciesRounds$Products", "joinedCount", "I", false)
  | _ => ("SpeciesRounds$Products", "count", "I", false)
def am_ty6 : Nat → FieldType := fun k => match k with
  | 0 => .array .long
  | 1 => .array .int
  | 2 => .int
  | _ => .int
theorem am_nm6 : ∀ a, a < 4 → ∀ b, b < 4 → a ≠ b → (am_T6 a).2.1 ≠ (am_T6 b).2.1 := by decide +kernel
theorem am_tyok6 : ∀ k, k < 4 → parseFieldDescriptor (am_T6 k).2.2.1 = some (am_ty6 k) := by decide +kernel
theorem am_in6 : ∀ w ∈ u_ws am_R6 am_T6 4, w ∈ am_G := List.forall_mem_cons.mpr ⟨am_G_of (am_tb 198 (by decide +kernel)) (by decide +kernel), List.forall_mem_cons.mpr ⟨am_G_of (am_tb 200 (by decide +kernel)) (by decide +kernel), List.forall_mem_cons.mpr ⟨am_G_of (am_tb 202 (by decide +kernel)) (by decide +kernel), List.forall_mem_cons.mpr ⟨am_G_of (am_tb 204 (by decide +kernel)) (by decide +kernel), fun _ h => absurd h List.not_mem_nil⟩⟩⟩⟩
theorem am_inst6 : Cond.instantiable am_R6 4 ∈ am_G := am_G_of (am_tb 187 (by decide +kernel)) (by decide +kernel)
theorem am_ini6 : Cond.initialized am_R6 ∈ am_G := am_G_of (am_tb 9 (by decide +kernel)) (by decide +kernel)
def am_R7 : String := "SpeciesRounds$ReactionList"
def am_T7 : u_T := fun k => match k with
  | 0 => ("SpeciesRounds$ReactionList", "rows", "[I", true)
  | _ => ("SpeciesRounds$ReactionList", "count", "I", false)
def am_ty7 : Nat → FieldType := fun k => match k with
  | 0 => .array .int
  | _ => .int
theorem am_nm7 : ∀ a, a < 2 → ∀ b, b < 2 → a ≠ b → (am_T7 a).2.1 ≠ (am_T7 b).2.1 := by decide +kernel
theorem am_tyok7 : ∀ k, k < 2 → parseFieldDescriptor (am_T7 k).2.2.1 = some (am_ty7 k) := by decide +kernel
theorem am_in7 : ∀ w ∈ u_ws am_R7 am_T7 2, w ∈ am_G := List.forall_mem_cons.mpr ⟨am_G_of (am_tb 216 (by decide +kernel)) (by decide +kernel), List.forall_mem_cons.mpr ⟨am_G_of (am_tb 218 (by decide +kernel)) (by decide +kernel), fun _ h => absurd h List.not_mem_nil⟩⟩
theorem am_inst7 : Cond.instantiable am_R7 2 ∈ am_G := am_G_of (am_tb 208 (by decide +kernel)) (by decide +kernel)
theorem am_ini7 : Cond.initialized am_R7 ∈ am_G := am_G_of (am_tb 10 (by decide +kernel)) (by decide +kernel)
def am_R8 : String := "SpeciesRounds$Reader"
def am_T8 : u_T := fun k => match k with
  | 0 => ("SpeciesRounds$Reader", "drawn", "LSpeciesRounds$Graph;", true)
  | 1 => ("SpeciesRounds$Reader", "branchAtoms", "[I", true)
  | 2 => ("SpeciesRounds$Reader", "markAtoms", "[I", true)
  | 3 => ("SpeciesRounds$Reader", "markOrders", "[I", true)
  | 4 => ("SpeciesRounds$Reader", "branches", "I", false)
  | 5 => ("SpeciesRounds$Reader", "standing", "I", false)
  | 6 => ("SpeciesRounds$Reader", "current", "I", false)
  | 7 => ("SpeciesRounds$Reader", "linkOrder", "I", false)
  | _ => ("SpeciesRounds$Reader", "clash", "Z", false)
def am_ty8 : Nat → FieldType := fun k => match k with
  | 0 => .object "SpeciesRounds$Graph"
  | 1 => .array .int
  | 2 => .array .int
  | 3 => .array .int
  | 4 => .int
  | 5 => .int
  | 6 => .int
  | 7 => .int
  | _ => .boolean
theorem am_nm8 : ∀ a, a < 9 → ∀ b, b < 9 → a ≠ b → (am_T8 a).2.1 ≠ (am_T8 b).2.1 := by decide +kernel
theorem am_tyok8 : ∀ k, k < 9 → parseFieldDescriptor (am_T8 k).2.2.1 = some (am_ty8 k) := by decide +kernel
theorem am_in8 : ∀ w ∈ u_ws am_R8 am_T8 9, w ∈ am_G := List.forall_mem_cons.mpr ⟨am_G_of (am_tb 95 (by decide +kernel)) (by decide +kernel), List.forall_mem_cons.mpr ⟨am_G_of (am_tb 97 (by decide +kernel)) (by decide +kernel), List.forall_mem_cons.mpr ⟨am_G_of (am_tb 99 (by decide +kernel)) (by decide +kernel), List.forall_mem_cons.mpr ⟨am_G_of (am_tb 101 (by decide +kernel)) (by decide +kernel), List.forall_mem_cons.mpr ⟨am_G_of (am_tb 103 (by decide +kernel)) (by decide +kernel), List.forall_mem_cons.mpr ⟨am_G_of (am_tb 105 (by decide +kernel)) (by decide +kernel), List.forall_mem_cons.mpr ⟨am_G_of (am_tb 107 (by decide +kernel)) (by decide +kernel), List.forall_mem_cons.mpr ⟨am_G_of (am_tb 109 (by decide +kernel)) (by decide +kernel), List.forall_mem_cons.mpr ⟨am_G_of (am_tb 111 (by decide +kernel)) (by decide +kernel), fun _ h => absurd h List.not_mem_nil⟩⟩⟩⟩⟩⟩⟩⟩⟩
theorem am_inst8 : Cond.instantiable am_R8 9 ∈ am_G := am_G_of (am_tb 46 (by decide +kernel)) (by decide +kernel)
theorem am_ini8 : Cond.initialized am_R8 ∈ am_G := am_G_of (am_tb 3 (by decide +kernel)) (by decide +kernel)
def am_R9 : String := "SpeciesRounds$Rule"
def am_T9 : u_T := fun k => match k with
  | 0 => ("SpeciesRounds$Rule", "codes", "[I", true)
  | 1 => ("SpeciesRounds$Rule", "before", "[I", true)
  | 2 => ("SpeciesRounds$Rule", "after", "[I", true)
  | _ => ("SpeciesRounds$Rule", "places", "I", false)
def am_ty9 : Nat → FieldType := fun k => match k with
  | 0 => .array .int
  | 1 => .array .int
  | 2 => .array .int
  | _ => .int
theorem am_nm9 : ∀ a, a < 4 → ∀ b, b < 4 → a ≠ b → (am_T9 a).2.1 ≠ (am_T9 b).2.1 := by decide +kernel
theorem am_tyok9 : ∀ k, k < 4 → parseFieldDescriptor (am_T9 k).2.2.1 = some (am_ty9 k) := by decide +kernel
theorem am_in9 : ∀ w ∈ u_ws am_R9 am_T9 4, w ∈ am_G := List.forall_mem_cons.mpr ⟨am_G_of (am_tb 242 (by decide +kernel)) (by decide +kernel), List.forall_mem_cons.mpr ⟨am_G_of (am_tb 244 (by decide +kernel)) (by decide +kernel), List.forall_mem_cons.mpr ⟨am_G_of (am_tb 246 (by decide +kernel)) (by decide +kernel), List.forall_mem_cons.mpr ⟨am_G_of (am_tb 248 (by decide +kernel)) (by decide +kernel), fun _ h => absurd h List.not_mem_nil⟩⟩⟩⟩
theorem am_inst9 : Cond.instantiable am_R9 4 ∈ am_G := am_G_of (am_tb 227 (by decide +kernel)) (by decide +kernel)
theorem am_ini9 : Cond.initialized am_R9 ∈ am_G := am_G_of (am_tb 12 (by decide +kernel)) (by decide +kernel)
def am_R10 : String := "SpeciesRounds$Table"
def am_T10 : u_T := fun k => match k with
  | 0 => ("SpeciesRounds$Table", "words", "[J", true)
  | 1 => ("SpeciesRounds$Table", "renumbered", "[I", true)
  | _ => ("SpeciesRounds$Table", "count", "I", false)
def am_ty10 : Nat → FieldType := fun k => match k with
  | 0 => .array .long
  | 1 => .array .int
  | _ => .int
theorem am_nm10 : ∀ a, a < 3 → ∀ b, b < 3 → a ≠ b → (am_T10 a).2.1 ≠ (am_T10 b).2.1 := by decide +kernel
theorem am_tyok10 : ∀ k, k < 3 → parseFieldDescriptor (am_T10 k).2.2.1 = some (am_ty10 k) := by decide +kernel
theorem am_in10 : ∀ w ∈ u_ws am_R10 am_T10 3, w ∈ am_G := List.forall_mem_cons.mpr ⟨am_G_of (am_tb 142 (by decide +kernel)) (by decide +kernel), List.forall_mem_cons.mpr ⟨am_G_of (am_tb 144 (by decide +kernel)) (by decide +kernel), List.forall_mem_cons.mpr ⟨am_G_of (am_tb 146 (by decide +kernel)) (by decide +kernel), fun _ h => absurd h List.not_mem_nil⟩⟩⟩
theorem am_inst10 : Cond.instantiable am_R10 3 ∈ am_G := am_G_of (am_tb 131 (by decide +kernel)) (by decide +kernel)
theorem am_ini10 : Cond.initialized am_R10 ∈ am_G := am_G_of (am_tb 6 (by decide +kernel)) (by decide +kernel)
def am_R11 : String := "SpeciesRoundsModel"
def am_T11 : u_T := fun k => match k with
  | 0 => ("SpeciesRoundsModel", "cap", "I", true)
  | 1 => ("SpeciesRoundsModel", "line", "[I", true)
  | 2 => ("SpeciesRoundsModel", "typed", "I", false)
  | 3 => ("SpeciesRoundsModel", "count", "I", false)
  | 4 => ("SpeciesRoundsModel", "keys", "[J", true)
  | 5 => ("SpeciesRoundsModel", "rules", "I", false)
  | 6 => ("SpeciesRoundsModel", "places", "[I", true)
  | 7 => ("SpeciesRoundsModel", "letters", "[I", true)
  | 8 => ("SpeciesRoundsModel", "before", "[I", true)
  | 9 => ("SpeciesRoundsModel", "after", "[I", true)
  | 10 => ("SpeciesRoundsModel", "listed", "I", false)
  | 11 => ("SpeciesRoundsModel", "list", "[I", true)
  | 12 => ("SpeciesRoundsModel", "rows", "I", false)
  | 13 => ("SpeciesRoundsModel", "row", "[I", true)
  | 14 => ("SpeciesRoundsModel", "one", "[I", true)
  | 15 => ("SpeciesRoundsModel", "found", "I", false)
  | 16 => ("SpeciesRoundsModel", "fresh", "[J", true)
  | 17 => ("SpeciesRoundsModel", "place", "[I", true)
  | 18 => ("SpeciesRoundsModel", "over", "Z", false)
  | 19 => ("SpeciesRoundsModel", "atoms", "I", false)
  | 20 => ("SpeciesRoundsModel", "letter", "[I", true)
  | 21 => ("SpeciesRoundsModel", "order", "[I", true)
  | 22 => ("SpeciesRoundsModel", "stack", "[I", true)
  | 23 => ("SpeciesRoundsModel", "wrong", "Z", false)
  | 24 => ("SpeciesRoundsModel", "many", "I", false)
  | 25 => ("SpeciesRoundsModel", "code", "[I", true)
  | 26 => ("SpeciesRoundsModel", "molecule", "[I", true)
  | 27 => ("SpeciesRoundsModel", "bonds", "[I", true)
  | 28 => ("SpeciesRoundsModel", "then", "[I", true)
  | 29 => ("SpeciesRoundsModel", "part", "[I", true)
  | 30 => ("SpeciesRoundsModel", "chosen", "[I", true)
  | 31 => ("SpeciesRoundsModel", "size", "I", false)
  | 32 => ("SpeciesRoundsModel", "member", "[I", true)
  | 33 => ("SpeciesRoundsModel", "turn", "[I", true)
  | 34 => ("SpeciesRoundsModel", "made", "I", false)
  | _ => ("SpeciesRoundsModel", "product", "[I", true)
def am_ty11 : Nat → FieldType := fun k => match k with
  | 0 => .int
  | 1 => .array .int
  | 2 => .int
  | 3 => .int
  | 4 => .array .long
  | 5 => .int
  | 6 => .array .int
  | 7 => .array .int
  | 8 => .array .int
  | 9 => .array .int
  | 10 => .int
  | 11 => .array .int
  | 12 => .int
  | 13 => .array .int
  | 14 => .array .int
  | 15 => .int
  | 16 => .array .long
  | 17 => .array .int
  | 18 => .boolean
  | 19 => .int
  | 20 => .array .int
  | 21 => .array .int
  | 22 => .array .int
  | 23 => .boolean
  | 24 => .int
  | 25 => .array .int
  | 26 => .array .int
  | 27 => .array .int
  | 28 => .array .int
  | 29 => .array .int
  | 30 => .array .int
  | 31 => .int
  | 32 => .array .int
  | 33 => .array .int
  | 34 => .int
  | _ => .array .int
theorem am_nm11 : ∀ a, a < 36 → ∀ b, b < 36 → a ≠ b → (am_T11 a).2.1 ≠ (am_T11 b).2.1 := by decide +kernel
theorem am_tyok11 : ∀ k, k < 36 → parseFieldDescriptor (am_T11 k).2.2.1 = some (am_ty11 k) := by decide +kernel
theorem am_in11 : ∀ w ∈ u_ws am_R11 am_T11 36, w ∈ am_G := List.forall_mem_cons.mpr ⟨am_G_of (am_tb 735 (by decide +kernel)) (by decide +kernel), List.forall_mem_cons.mpr ⟨am_G_of (am_tb 737 (by decide +kernel)) (by decide +kernel), List.forall_mem_cons.mpr ⟨am_G_of (am_tb 739 (by decide +kernel)) (by decide +kernel), List.forall_mem_cons.mpr ⟨am_G_of (am_tb 741 (by decide +kernel)) (by decide +kernel), List.forall_mem_cons.mpr ⟨am_G_of (am_tb 743 (by decide +kernel)) (by decide +kernel), List.forall_mem_cons.mpr ⟨am_G_of (am_tb 745 (by decide +kernel)) (by decide +kernel), List.forall_mem_cons.mpr ⟨am_G_of (am_tb 747 (by decide +kernel)) (by decide +kernel), List.forall_mem_cons.mpr ⟨am_G_of (am_tb 749 (by decide +kernel)) (by decide +kernel), List.forall_mem_cons.mpr ⟨am_G_of (am_tb 751 (by decide +kernel)) (by decide +kernel), List.forall_mem_cons.mpr ⟨am_G_of (am_tb 753 (by decide +kernel)) (by decide +kernel), List.forall_mem_cons.mpr ⟨am_G_of (am_tb 755 (by decide +kernel)) (by decide +kernel), List.forall_mem_cons.mpr ⟨am_G_of (am_tb 757 (by decide +kernel)) (by decide +kernel), List.forall_mem_cons.mpr ⟨am_G_of (am_tb 759 (by decide +kernel)) (by decide +kernel), List.forall_mem_cons.mpr ⟨am_G_of (am_tb 761 (by decide +kernel)) (by decide +kernel), List.forall_mem_cons.mpr ⟨am_G_of (am_tb 763 (by decide +kernel)) (by decide +kernel), List.forall_mem_cons.mpr ⟨am_G_of (am_tb 765 (by decide +kernel)) (by decide +kernel), List.forall_mem_cons.mpr ⟨am_G_of (am_tb 767 (by decide +kernel)) (by decide +kernel), List.forall_mem_cons.mpr ⟨am_G_of (am_tb 769 (by decide +kernel)) (by decide +kernel), List.forall_mem_cons.mpr ⟨am_G_of (am_tb 771 (by decide +kernel)) (by decide +kernel), List.forall_mem_cons.mpr ⟨am_G_of (am_tb 773 (by decide +kernel)) (by decide +kernel), List.forall_mem_cons.mpr ⟨am_G_of (am_tb 775 (by decide +kernel)) (by decide +kernel), List.forall_mem_cons.mpr ⟨am_G_of (am_tb 777 (by decide +kernel)) (by decide +kernel), List.forall_mem_cons.mpr ⟨am_G_of (am_tb 779 (by decide +kernel)) (by decide +kernel), List.forall_mem_cons.mpr ⟨am_G_of (am_tb 781 (by decide +kernel)) (by decide +kernel), List.forall_mem_cons.mpr ⟨am_G_of (am_tb 783 (by decide +kernel)) (by decide +kernel), List.forall_mem_cons.mpr ⟨am_G_of (am_tb 785 (by decide +kernel)) (by decide +kernel), List.forall_mem_cons.mpr ⟨am_G_of (am_tb 787 (by decide +kernel)) (by decide +kernel), List.forall_mem_cons.mpr ⟨am_G_of (am_tb 789 (by decide +kernel)) (by decide +kernel), List.forall_mem_cons.mpr ⟨am_G_of (am_tb 791 (by decide +kernel)) (by decide +kernel), List.forall_mem_cons.mpr ⟨am_G_of (am_tb 793 (by decide +kernel)) (by decide +kernel), List.forall_mem_cons.mpr ⟨am_G_of (am_tb 795 (by decide +kernel)) (by decide +kernel), List.forall_mem_cons.mpr ⟨am_G_of (am_tb 797 (by decide +kernel)) (by decide +kernel), List.forall_mem_cons.mpr ⟨am_G_of (am_tb 799 (by decide +kernel)) (by decide +kernel), List.forall_mem_cons.mpr ⟨am_G_of (am_tb 801 (by decide +kernel)) (by decide +kernel), List.forall_mem_cons.mpr ⟨am_G_of (am_tb 803 (by decide +kernel)) (by decide +kernel), List.forall_mem_cons.mpr ⟨am_G_of (am_tb 805 (by decide +kernel)) (by decide +kernel), fun _ h => absurd h List.not_mem_nil⟩⟩⟩⟩⟩⟩⟩⟩⟩⟩⟩⟩⟩⟩⟩⟩⟩⟩⟩⟩⟩⟩⟩⟩⟩⟩⟩⟩⟩⟩⟩⟩⟩⟩⟩⟩
theorem am_inst11 : Cond.instantiable am_R11 36 ∈ am_G := am_G_of (am_tb 694 (by decide +kernel)) (by decide +kernel)
theorem am_ini11 : Cond.initialized am_R11 ∈ am_G := am_G_of (am_tb 13 (by decide +kernel)) (by decide +kernel)
abbrev am_cl : List vw_C := [(am_R0, am_T0, 13), (am_R1, am_T1, 3), (am_R2, am_T2, 4), (am_R3, am_T3, 3), (am_R4, am_T4, 2), (am_R5, am_T5, 2), (am_R6, am_T6, 4), (am_R7, am_T7, 2), (am_R8, am_T8, 9), (am_R9, am_T9, 4), (am_R10, am_T10, 3), (am_R11, am_T11, 36)]
end
section
def va_AOA (ty : FieldType) (U : State) : Prop := (Cond.arrayOver (.array ty)).before #[] U = true
theorem va_AOA.use {ty : FieldType} {A : Array Value} {U : State} (h : va_AOA ty U) : (Cond.arrayOver (.array ty)).before A U = true := h
theorem va_AOA.moved {ty : FieldType} {u U : State} (hvm : u.vm.Alike U.vm) (h : va_AOA ty u) : va_AOA ty U := by
  obtain ⟨comp, c, k, h1, h2, h3, h4, h5⟩ := arrayOverA_spec h
  obtain ⟨k', hk', he⟩ := hvm.2.2 _ _ h3
  have hi : (U.vm.classes.findIdx? fun (x : Class) => match x.kind with | .array component _ => component == comp | _ => false) = some c := by
    have e1 := va_idx_bare U.vm comp
    have e2 := va_idx_bare u.vm comp
    first | rw [hvm.bare_eq] at e1 | rw [← hvm.bare_eq] at e1
    exact (e1.symm.trans e2).trans h2
  have hkind : k'.kind = .array comp (.array ty) := by rw [he]; exact h4
  have f1 : U.vm.findClass (FieldType.array ty).toString = some comp := by rw [hvm.findClass]; exact h1
  have f2 : U.vm.findClass ("[" ++ (FieldType.array ty).toString) = some c := by rw [hvm.findClass]; exact h5
  unfold va_AOA Cond.before Cond.holds
  simp only [Cond.value]
  rw [f1, Option.bind_some]
  refine (congrArg (fun o : Option Nat => (o.bind (fun c => (U.vm.classes[c]?).map fun (k : Class) => match k.kind with | .array _ ty' => decide (ty' = FieldType.array ty) && decide (U.vm.findClass ("[" ++ (FieldType.array ty).toString) = some c) | _ => false) == some true)) hi).trans ?_
  simp [hk', hkind, f2]
def am_isN (w : Cond) : Bool := match w with
  | .fieldLinkNest .. => true
  | .methodLinkNest .. => true
  | _ => false
abbrev am_tyl : List FieldType := [.int, .long, .char, .array .int, .object "SpeciesRounds$Rule"]
abbrev am_tys (cA : FieldType → ClassId) : List (ClassId × FieldType) := am_tyl.map (fun t => (cA t, t))
/-- what is known of the old cells: filled where it is needed -/
def am_Z (_ : Nat → Nat) (_ : Heap) (_ : State) : Prop := True
def am_E (D : va_G) (cA : FieldType → ClassId) (S : Nat → Nat) (H0 : Heap) (U : State) : Prop := va_K D am_cl (am_tys cA) U ∧ (∀ w ∈ tables_1, am_isN w = true → va_Nw w U) ∧ va_AO "SpeciesRounds$Rule" U ∧ va_AOA .int U ∧ am_Z S H0 U
theorem am_N_warm {w : Cond} {s U : State} (hn : am_isN w = true) (hW : s.WarmedH U.vm) (h : va_Nw w s) : va_Nw w U := by
  unfold am_isN at hn
  split at hn
  · exact va_Nw.warmF hW h
  · exact va_Nw.warmM hW h
  · cases hn
theorem am_N_same {w : Cond} {s U : State} (hn : am_isN w = true) (hW : s.vm = U.vm) (h : va_Nw w s) : va_Nw w U := by
  unfold am_isN at hn
  split at hn
  · exact va_Nw.same rfl hW h
  · exact va_Nw.same rfl hW h
  · cases hn
theorem am_E.warm {D : va_G} {cA : FieldType → ClassId} {S : Nat → Nat} {H0 : Heap} {s U : State} (hW : s.WarmedH U.vm) (h : am_E D cA S H0 s) : am_E D cA S H0 U :=
  ⟨va_K.moved hW.alike h.1, fun w hw hn => am_N_warm hn hW (h.2.1 w hw hn), h.2.2.1.moved hW.alike, h.2.2.2.1.moved hW.alike, h.2.2.2.2⟩
theorem am_E.same {D : va_G} {cA : FieldType → ClassId} {S : Nat → Nat} {H0 : Heap} {s U : State} (hW : s.vm = U.vm) (h : am_E D cA S H0 s) : am_E D cA S H0 U :=
  ⟨va_K.moved (hW ▸ Vm.Alike.refl s.vm) h.1, fun w hw hn => am_N_same hn hW (h.2.1 w hw hn), h.2.2.1.moved (hW ▸ Vm.Alike.refl s.vm), h.2.2.2.1.moved (hW ▸ Vm.Alike.refl s.vm), h.2.2.2.2⟩
def am_Pc (D : va_G) (cA : FieldType → ClassId) (S : Nat → Nat) (H0 : Heap) (As : List Value) (h : am_H) : Array Value → State → Prop := va_Pc (As.map (am_cv S H0.size)) (fun U => am_R D am_cl cA S H0 h U.heap ∧ am_E D cA S H0 U)
def am_Qc (D : va_G) (cA : FieldType → ClassId) (S : Nat → Nat) (H0 : Heap) (Q : am_Q) : Array Value → State → Outcome → State → Prop := fun _ st oc t => (∃ (v : Option Value) (h' : am_H), oc = .returned (v.map (am_cv S H0.size)) ∧ Q v h' ∧ am_R D am_cl cA S H0 h' t.heap ∧ am_E D cA S H0 t) ∧ va_F (fun q => H0.size ≤ q) st t
/-- a method: its name, code, locals, answer, the cells and slots that it may make -/
abbrev am_Mt : Type := MethodName × ByteArray × Nat × Option FieldType × Nat × Nat
abbrev am_ws (y : am_Mt) : List Cond := .code y.1 y.2.1 y.2.2.1 y.2.2.2.1 :: am_G
def am_Ks (mt : Nat → am_Mt) (l : Launch) (R : Room) (D : va_G) (cA : FieldType → ClassId) (S : Nat → Nat) (H0 : Heap) (K : am_K) : Prop := ∀ (y : Nat) (As : List Value) (h : am_H) (Q : am_Q), K y As h Q → ∃ rm : Room, Met l (mt y).1 (am_ws (mt y)) rm (am_Pc D cA S H0 As h) (am_Qc D cA S H0 Q) (mt y).2.2.2.2.1 (mt y).2.2.2.2.2 (fun q => H0.size ≤ q) ∧ rm.cells = (mt y).2.2.2.2.1 ∧ rm.slots = (mt y).2.2.2.2.2 ∧ rm.frames + 1 ≤ R.frames ∧ 8 + ((mt y).2.2.1 + 11) + rm.locals ≤ R.locals
def am_Cx (p : Program) (R : Room) (s : State) (m : MethodId) (args : Array Value) (meth : Method) (c : Code) (own nm : String) (cc : ByteArray) (nL mc ms : Nat) (D : va_G) (cA : FieldType → ClassId) (S : Nat → Nat) (H0 : Heap) : Prop :=
  p.tables.exec = Jvm.exec ∧ c.code = cc ∧ c.maxLocals = nL ∧ s.vm.findClass own = some m.cls ∧ (∀ w ∈ am_G, w.before args s = true) ∧ am_E D cA S H0 s ∧ meth.name = nm ∧ (H0.size ≤ s.heap.size ∧ ∀ q : Nat, q < H0.size → s.heap[q]? = H0[q]?) ∧ 1 ≤ R.frames ∧ 60 ≤ R.locals ∧ R.cells = mc ∧ R.slots = ms
def am_W (p : Program) (l : Launch) (e : Env) (R : Room) (s : State) (m : MethodId) (args : Array Value) (below : List Frame) (meth : Method) (c : Code) (nL : Nat) (D : va_G) (cA : FieldType → ClassId) (S : Nat → Nat) (H0 : Heap) (Qw : State → Prop) : am_X := fun pc ls st h cc z =>
  ∀ (H : Heap) (locs : List Loc) (lsA : Array Slot), am_R D am_cl cA S H0 h H → va_S (fun q => H0.size ≤ q) s.heap H locs → am_lv S H0.size lsA nL ls → cc ≤ R.cells → z ≤ R.slots → W p l e R s m args below meth c H locs cc z Qw (F0 m pc lsA (st.map (am_cv S H0.size)))
def am_Rs (p : Program) (l : Launch) (e : Env) (R : Room) (s : State) (m : MethodId) (args : Array Value) (below : List Frame) (meth : Method) (c : Code) (cc : ByteArray) (ret : Option FieldType) (D : va_G) (cA : FieldType → ClassId) (S : Nat → Nat) (H0 : Heap) (Q : am_Q) (Qw : State → Prop) : Prop :=
  ∀ (pc : Nat) (lsA : Array Slot) (h : am_H) (H : Heap) (locs : List Loc) (k z : Nat), am_R D am_cl cA S H0 h H → va_S (fun q => H0.size ≤ q) s.heap H locs → k ≤ R.cells → z ≤ R.slots →
    (∀ (ty : FieldType) (x : Int32), ret = some ty → narrow ty (.int x) = .int x → Q (some (.int x)) h → decode cc pc = .ok (.ireturn, 1) → W p l e R s m args below meth c H locs k z Qw (F0 m pc lsA [.int x])) ∧
    (∀ x : Int64, ret = some .long → Q (some (.long x)) h → decode cc pc = .ok (.lreturn, 1) → W p l e R s m args below meth c H locs k z Qw (F0 m pc lsA [.long x])) ∧
    (ret = none → Q none h → decode cc pc = .ok (.return_, 1) → W p l e R s m args below meth c H locs k z Qw (F0 m pc lsA []))
/-- an instruction's transformer is right at a place of a method's code -/
def am_Sd (mt : Nat → am_Mt) (own nm : String) (cc : ByteArray) (nL mc ms : Nat) (ret : Option FieldType) (pc : Nat) (T : am_T) : Prop :=
  ∀ (p : Program) (l : Launch) (e : Env) (R : Room) (s : State) (m : MethodId) (args : Array Value) (below : List Frame) (meth : Method) (c : Code) (D : va_G) (cA : FieldType → ClassId) (S : Nat → Nat) (H0 : Heap) (Qw : State → Prop) (K : am_K) (Q : am_Q) (X : am_X),
    am_Cx p R s m args meth c own nm cc nL mc ms D cA S H0 → am_Ks mt l R D cA S H0 K → am_Rs p l e R s m args below meth c cc ret D cA S H0 Q Qw →
    (∀ pc ls st h k z, X pc ls st h k z → am_W p l e R s m args below meth c nL D cA S H0 Qw pc ls st h k z) →
    ∀ ls st h k z, T K Q X pc ls st h k z → am_W p l e R s m args below meth c nL D cA S H0 Qw pc ls st h k z
end
section
section
variable {mt : Nat → am_Mt} {own nm : String} {cc : ByteArray} {nL mc ms pc : Nat} {ret : Option FieldType}
theorem am_sd_iconst {n : Int} {v : Int32} (hdg : decode cc pc = .ok (.iconst n, 1)) (hv : Int32.ofInt n = v) : am_Sd mt own nm cc nL mc ms ret pc (am_ic v 1) := by
  intro p l e R s m args below meth c D cA S H0 Qw K Q X Cx Ks Rs hX ls st h k z hT H locs lsA hR hS hl hk hz
  obtain ⟨hx, hb, hml, hown, hG, hE, hnm, hH0, hfr, hlo, hRc, hRs⟩ := Cx
  exact lv_iconst hx hb hdg hv (hX _ _ _ _ _ _ hT H locs lsA hR hS hl hk hz)
theorem am_sd_bipush {n : Int} {v : Int32} (hdg : decode cc pc = .ok (.bipush n, 2)) (hv : (Int8.ofInt n).toInt32 = v) : am_Sd mt own nm cc nL mc ms ret pc (am_ic v 2) := by
  intro p l e R s m args below meth c D cA S H0 Qw K Q X Cx Ks Rs hX ls st h k z hT H locs lsA hR hS hl hk hz
  obtain ⟨hx, hb, hml, hown, hG, hE, hnm, hH0, hfr, hlo, hRc, hRs⟩ := Cx
  exact lv_bipush hx hb hdg hv (hX _ _ _ _ _ _ hT H locs lsA hR hS hl hk hz)
theorem am_sd_sipush {n : Int} {v : Int32} (hdg : decode cc pc = .ok (.sipush n, 3)) (hv : (Int16.ofInt n).toInt32 = v) : am_Sd mt own nm cc nL mc ms ret pc (am_ic v 3) := by
  intro p l e R s m args below meth c D cA S H0 Qw K Q X Cx Ks Rs hX ls st h k z hT H locs lsA hR hS hl hk hz
  obtain ⟨hx, hb, hml, hown, hG, hE, hnm, hH0, hfr, hlo, hRc, hRs⟩ := Cx
  exact lv_sipush hx hb hdg hv (hX _ _ _ _ _ _ hT H locs lsA hR hS hl hk hz)
theorem am_sd_ldc {index : Nat} {v : Int32} (hw : Cond.constant own index v ∈ am_G) (hdg : decode cc pc = .ok (.ldc index, 2)) : am_Sd mt own nm cc nL mc ms ret pc (am_ic v 2) := by
  intro p l e R s m args below meth c D cA S H0 Qw K Q X Cx Ks Rs hX ls st h k z hT H locs lsA hR hS hl hk hz
  obtain ⟨hx, hb, hml, hown, hG, hE, hnm, hH0, hfr, hlo, hRc, hRs⟩ := Cx
  exact lv_ldc hx hb hown (hG _ hw) hdg (hX _ _ _ _ _ _ hT H locs lsA hR hS hl hk hz)
theorem am_sd_ldc2 {index : Nat} {v : Int64} (hw : Cond.constantLong own index v ∈ am_G) (hdg : decode cc pc = .ok (.ldc2_w index, 3)) : am_Sd mt own nm cc nL mc ms ret pc (am_lc v 3) := by
  intro p l e R s m args below meth c D cA S H0 Qw K Q X Cx Ks Rs hX ls st h k z hT H locs lsA hR hS hl hk hz
  obtain ⟨hx, hb, hml, hown, hG, hE, hnm, hH0, hfr, hlo, hRc, hRs⟩ := Cx
  exact lv_ldc2 hx hb hown (hG _ hw) hdg (hX _ _ _ _ _ _ hT H locs lsA hR hS hl hk hz)
theorem am_sd_iload_n {j : Fin 4} {i : Nat} (hdg : decode cc pc = .ok (.iload_n j, 1)) (hi : (j : Nat) = i) : am_Sd mt own nm cc nL mc ms ret pc (am_il i 1) := by
  intro p l e R s m args below meth c D cA S H0 Qw K Q X Cx Ks Rs hX ls st h k z hT H locs lsA hR hS hl hk hz
  obtain ⟨hx, hb, hml, hown, hG, hE, hnm, hH0, hfr, hlo, hRc, hRs⟩ := Cx
  unfold am_il at hT
  split at hT
  · next x heq => exact lv_iload_n hx hb hdg hi (hl.at heq) (hX _ _ _ _ _ _ hT H locs lsA hR hS hl hk hz)
  · exact hT.elim
theorem am_sd_iload {i : Nat} (hdg : decode cc pc = .ok (.iload i, 2)) : am_Sd mt own nm cc nL mc ms ret pc (am_il i 2) := by
  intro p l e R s m args below meth c D cA S H0 Qw K Q X Cx Ks Rs hX ls st h k z hT H locs lsA hR hS hl hk hz
  obtain ⟨hx, hb, hml, hown, hG, hE, hnm, hH0, hfr, hlo, hRc, hRs⟩ := Cx
  unfold am_il at hT
  split at hT
  · next x heq => exact lv_iload hx hb hdg (hl.at heq) (hX _ _ _ _ _ _ hT H locs lsA hR hS hl hk hz)
  · exact hT.elim
theorem am_sd_lload_n {j : Fin 4} {i : Nat} (hdg : decode cc pc = .ok (.lload_n j, 1)) (hi : (j : Nat) = i) : am_Sd mt own nm cc nL mc ms ret pc (am_ll i 1) := by
  intro p l e R s m args below meth c D cA S H0 Qw K Q X Cx Ks Rs hX ls st h k z hT H locs lsA hR hS hl hk hz
  obtain ⟨hx, hb, hml, hown, hG, hE, hnm, hH0, hfr, hlo, hRc, hRs⟩ := Cx
  unfold am_ll at hT
  split at hT
  · next x heq => exact lv_lload_n hx hb hdg hi (hl.at heq) (hX _ _ _ _ _ _ hT H locs lsA hR hS hl hk hz)
  · exact hT.elim
theorem am_sd_lload {i : Nat} (hdg : decode cc pc = .ok (.lload i, 2)) : am_Sd mt own nm cc nL mc ms ret pc (am_ll i 2) := by
  intro p l e R s m args below meth c D cA S H0 Qw K Q X Cx Ks Rs hX ls st h k z hT H locs lsA hR hS hl hk hz
  obtain ⟨hx, hb, hml, hown, hG, hE, hnm, hH0, hfr, hlo, hRc, hRs⟩ := Cx
  unfold am_ll at hT
  split at hT
  · next x heq => exact lv_lload hx hb hdg (hl.at heq) (hX _ _ _ _ _ _ hT H locs lsA hR hS hl hk hz)
  · exact hT.elim
theorem am_sd_aload_n {j : Fin 4} {i : Nat} (hdg : decode cc pc = .ok (.aload_n j, 1)) (hi : (j : Nat) = i) : am_Sd mt own nm cc nL mc ms ret pc (am_ra i 1) := by
  intro p l e R s m args below meth c D cA S H0 Qw K Q X Cx Ks Rs hX ls st h k z hT H locs lsA hR hS hl hk hz
  obtain ⟨hx, hb, hml, hown, hG, hE, hnm, hH0, hfr, hlo, hRc, hRs⟩ := Cx
  unfold am_ra at hT
  split at hT
  · next x heq => exact lv_aload_n hx hb hdg hi (hl.at heq) (hX _ _ _ _ _ _ hT H locs lsA hR hS hl hk hz)
  · next x heq => exact lv_aload_n hx hb hdg hi (hl.at heq) (hX _ _ _ _ _ _ hT H locs lsA hR hS hl hk hz)
  · exact hT.elim
theorem am_sd_aload {i : Nat} (hdg : decode cc pc = .ok (.aload i, 2)) : am_Sd mt own nm cc nL mc ms ret pc (am_ra i 2) := by
  intro p l e R s m args below meth c D cA S H0 Qw K Q X Cx Ks Rs hX ls st h k z hT H locs lsA hR hS hl hk hz
  obtain ⟨hx, hb, hml, hown, hG, hE, hnm, hH0, hfr, hlo, hRc, hRs⟩ := Cx
  unfold am_ra at hT
  split at hT
  · next x heq => exact lv_aload hx hb hdg (hl.at heq) (hX _ _ _ _ _ _ hT H locs lsA hR hS hl hk hz)
  · next x heq => exact lv_aload hx hb hdg (hl.at heq) (hX _ _ _ _ _ _ hT H locs lsA hR hS hl hk hz)
  · exact hT.elim
theorem am_sd_istore_n {j : Fin 4} {i : Nat} (hdg : decode cc pc = .ok (.istore_n j, 1)) (hi : (j : Nat) = i) : am_Sd mt own nm cc nL mc ms ret pc (am_is i 1) := by
  intro p l e R s m args below meth c D cA S H0 Qw K Q X Cx Ks Rs hX ls st h k z hT H locs lsA hR hS hl hk hz
  obtain ⟨hx, hb, hml, hown, hG, hE, hnm, hH0, hfr, hlo, hRc, hRs⟩ := Cx
  unfold am_is at hT
  split at hT
  · next x r => exact lv_istore_n hx hb hdg hi hl.has (by have := hT.1; have := hl.2.1; omega) rfl (fun ls' hl' => hX _ _ _ _ _ _ hT.2 H locs ls' hR hS (am_lv.s1 (by have := hT.1; have := hl.2.1; omega) hl hl') hk hz)
  · exact hT.elim
theorem am_sd_istore {i : Nat} (hdg : decode cc pc = .ok (.istore i, 2)) : am_Sd mt own nm cc nL mc ms ret pc (am_is i 2) := by
  intro p l e R s m args below meth c D cA S H0 Qw K Q X Cx Ks Rs hX ls st h k z hT H locs lsA hR hS hl hk hz
  obtain ⟨hx, hb, hml, hown, hG, hE, hnm, hH0, hfr, hlo, hRc, hRs⟩ := Cx
  unfold am_is at hT
  split at hT
  · next x r => exact lv_istore hx hb hdg hl.has (by have := hT.1; have := hl.2.1; omega) rfl (fun ls' hl' => hX _ _ _ _ _ _ hT.2 H locs ls' hR hS (am_lv.s1 (by have := hT.1; have := hl.2.1; omega) hl hl') hk hz)
  · exact hT.elim
theorem am_sd_astore_n {j : Fin 4} {i : Nat} (hdg : decode cc pc = .ok (.astore_n j, 1)) (hi : (j : Nat) = i) : am_Sd mt own nm cc nL mc ms ret pc (am_rs i 1) := by
  intro p l e R s m args below meth c D cA S H0 Qw K Q X Cx Ks Rs hX ls st h k z hT H locs lsA hR hS hl hk hz
  obtain ⟨hx, hb, hml, hown, hG, hE, hnm, hH0, hfr, hlo, hRc, hRs⟩ := Cx
  unfold am_rs at hT
  split at hT
  · next x r => exact lv_astore_n hx hb hdg hi hl.has (by have := hT.1; have := hl.2.1; omega) rfl (fun ls' hl' => hX _ _ _ _ _ _ hT.2 H locs ls' hR hS (am_lv.s1 (by have := hT.1; have := hl.2.1; omega) hl hl') hk hz)
  · exact hT.elim
theorem am_sd_astore {i : Nat} (hdg : decode cc pc = .ok (.astore i, 2)) : am_Sd mt own nm cc nL mc ms ret pc (am_rs i 2) := by
  intro p l e R s m args below meth c D cA S H0 Qw K Q X Cx Ks Rs hX ls st h k z hT H locs lsA hR hS hl hk hz
  obtain ⟨hx, hb, hml, hown, hG, hE, hnm, hH0, hfr, hlo, hRc, hRs⟩ := Cx
  unfold am_rs at hT
  split at hT
  · next x r => exact lv_astore hx hb hdg hl.has (by have := hT.1; have := hl.2.1; omega) rfl (fun ls' hl' => hX _ _ _ _ _ _ hT.2 H locs ls' hR hS (am_lv.s1 (by have := hT.1; have := hl.2.1; omega) hl hl') hk hz)
  · exact hT.elim
theorem am_sd_lstore_n {j : Fin 4} {i : Nat} (hdg : decode cc pc = .ok (.lstore_n j, 1)) (hi : (j : Nat) = i) : am_Sd mt own nm cc nL mc ms ret pc (am_ls i 1) := by
  intro p l e R s m args below meth c D cA S H0 Qw K Q X Cx Ks Rs hX ls st h k z hT H locs lsA hR hS hl hk hz
  obtain ⟨hx, hb, hml, hown, hG, hE, hnm, hH0, hfr, hlo, hRc, hRs⟩ := Cx
  unfold am_ls at hT
  split at hT
  · next x r => exact lv_lstore_n hx hb hdg hi hl.has (by have := hT.1; have := hl.2.1; omega) rfl (fun ls' hl' => hX _ _ _ _ _ _ hT.2 H locs ls' hR hS (am_lv.s2 (by have := hT.1; have := hl.2.1; omega) hl hl') hk hz)
  · exact hT.elim
theorem am_sd_lstore {i : Nat} (hdg : decode cc pc = .ok (.lstore i, 2)) : am_Sd mt own nm cc nL mc ms ret pc (am_ls i 2) := by
  intro p l e R s m args below meth c D cA S H0 Qw K Q X Cx Ks Rs hX ls st h k z hT H locs lsA hR hS hl hk hz
  obtain ⟨hx, hb, hml, hown, hG, hE, hnm, hH0, hfr, hlo, hRc, hRs⟩ := Cx
  unfold am_ls at hT
  split at hT
  · next x r => exact lv_lstore hx hb hdg hl.has (by have := hT.1; have := hl.2.1; omega) rfl (fun ls' hl' => hX _ _ _ _ _ _ hT.2 H locs ls' hR hS (am_lv.s2 (by have := hT.1; have := hl.2.1; omega) hl hl') hk hz)
  · exact hT.elim
theorem am_sd_iinc {i : Nat} {n : Int} {v : Int32} (hdg : decode cc pc = .ok (.iinc i n, 3)) (hv : Int32.ofInt n = v) : am_Sd mt own nm cc nL mc ms ret pc (am_inc i v) := by
  intro p l e R s m args below meth c D cA S H0 Qw K Q X Cx Ks Rs hX ls st h k z hT H locs lsA hR hS hl hk hz
  obtain ⟨hx, hb, hml, hown, hG, hE, hnm, hH0, hfr, hlo, hRc, hRs⟩ := Cx
  subst hv
  unfold am_inc at hT
  split at hT
  · next x heq =>
    obtain ⟨q, hq⟩ := List.getElem?_of_mem (am_lst_mem.mpr ⟨.int x, am_al_some heq, rfl⟩ : (i, Value.int x) ∈ am_lst S H0.size ls)
    exact lv_iinc hx hb hdg hl.has hq rfl (by have := hT.1; have := hl.2.1; omega) rfl (fun ls' hl' => hX _ _ _ _ _ _ hT.2 H locs ls' hR hS (am_lv.s1 (by have := hT.1; have := hl.2.1; omega) hl hl') hk hz)
  · exact hT.elim
theorem am_sd_iadd (hdg : decode cc pc = .ok (.iadd, 1)) : am_Sd mt own nm cc nL mc ms ret pc (am_ib (fun x y => x + y)) := by
  intro p l e R s m args below meth c D cA S H0 Qw K Q X Cx Ks Rs hX ls st h k z hT H locs lsA hR hS hl hk hz
  obtain ⟨hx, hb, hml, hown, hG, hE, hnm, hH0, hfr, hlo, hRc, hRs⟩ := Cx
  unfold am_ib at hT
  split at hT
  · next y x r => exact lv_iadd hx hb hdg (hX _ _ _ _ _ _ hT H locs lsA hR hS hl hk hz)
  · exact hT.elim
theorem am_sd_isub (hdg : decode cc pc = .ok (.isub, 1)) : am_Sd mt own nm cc nL mc ms ret pc (am_ib (fun x y => x - y)) := by
  intro p l e R s m args below meth c D cA S H0 Qw K Q X Cx Ks Rs hX ls st h k z hT H locs lsA hR hS hl hk hz
  obtain ⟨hx, hb, hml, hown, hG, hE, hnm, hH0, hfr, hlo, hRc, hRs⟩ := Cx
  unfold am_ib at hT
  split at hT
  · next y x r => exact lv_isub hx hb hdg (hX _ _ _ _ _ _ hT H locs lsA hR hS hl hk hz)
  · exact hT.elim
theorem am_sd_imul (hdg : decode cc pc = .ok (.imul, 1)) : am_Sd mt own nm cc nL mc ms ret pc (am_ib (fun x y => x * y)) := by
  intro p l e R s m args below meth c D cA S H0 Qw K Q X Cx Ks Rs hX ls st h k z hT H locs lsA hR hS hl hk hz
  obtain ⟨hx, hb, hml, hown, hG, hE, hnm, hH0, hfr, hlo, hRc, hRs⟩ := Cx
  unfold am_ib at hT
  split at hT
  · next y x r => exact lv_imul hx hb hdg (hX _ _ _ _ _ _ hT H locs lsA hR hS hl hk hz)
  · exact hT.elim
theorem am_sd_iand (hdg : decode cc pc = .ok (.iand, 1)) : am_Sd mt own nm cc nL mc ms ret pc (am_ib (fun x y => x &&& y)) := by
  intro p l e R s m args below meth c D cA S H0 Qw K Q X Cx Ks Rs hX ls st h k z hT H locs lsA hR hS hl hk hz
  obtain ⟨hx, hb, hml, hown, hG, hE, hnm, hH0, hfr, hlo, hRc, hRs⟩ := Cx
  unfold am_ib at hT
  split at hT
  · next y x r => exact lv_iand hx hb hdg (hX _ _ _ _ _ _ hT H locs lsA hR hS hl hk hz)
  · exact hT.elim
theorem am_sd_ior (hdg : decode cc pc = .ok (.ior, 1)) : am_Sd mt own nm cc nL mc ms ret pc (am_ib (fun x y => x ||| y)) := by
  intro p l e R s m args below meth c D cA S H0 Qw K Q X Cx Ks Rs hX ls st h k z hT H locs lsA hR hS hl hk hz
  obtain ⟨hx, hb, hml, hown, hG, hE, hnm, hH0, hfr, hlo, hRc, hRs⟩ := Cx
  unfold am_ib at hT
  split at hT
  · next y x r => exact lv_ior hx hb hdg (hX _ _ _ _ _ _ hT H locs lsA hR hS hl hk hz)
  · exact hT.elim
theorem am_sd_ishl (hdg : decode cc pc = .ok (.ishl, 1)) : am_Sd mt own nm cc nL mc ms ret pc (am_ib (fun x y => x <<< (y &&& 31))) := by
  intro p l e R s m args below meth c D cA S H0 Qw K Q X Cx Ks Rs hX ls st h k z hT H locs lsA hR hS hl hk hz
  obtain ⟨hx, hb, hml, hown, hG, hE, hnm, hH0, hfr, hlo, hRc, hRs⟩ := Cx
  unfold am_ib at hT
  split at hT
  · next y x r => exact lv_ishl hx hb hdg (hX _ _ _ _ _ _ hT H locs lsA hR hS hl hk hz)
  · exact hT.elim
theorem am_sd_ishr (hdg : decode cc pc = .ok (.ishr, 1)) : am_Sd mt own nm cc nL mc ms ret pc (am_ib (fun x y => x >>> (y &&& 31))) := by
  intro p l e R s m args below meth c D cA S H0 Qw K Q X Cx Ks Rs hX ls st h k z hT H locs lsA hR hS hl hk hz
  obtain ⟨hx, hb, hml, hown, hG, hE, hnm, hH0, hfr, hlo, hRc, hRs⟩ := Cx
  unfold am_ib at hT
  split at hT
  · next y x r => exact lv_ishr hx hb hdg (hX _ _ _ _ _ _ hT H locs lsA hR hS hl hk hz)
  · exact hT.elim
theorem am_sd_idiv (hdg : decode cc pc = .ok (.idiv, 1)) : am_Sd mt own nm cc nL mc ms ret pc (am_idiv) := by
  intro p l e R s m args below meth c D cA S H0 Qw K Q X Cx Ks Rs hX ls st h k z hT H locs lsA hR hS hl hk hz
  obtain ⟨hx, hb, hml, hown, hG, hE, hnm, hH0, hfr, hlo, hRc, hRs⟩ := Cx
  unfold am_idiv at hT
  split at hT
  · next y x r => exact lv_idiv hx hb hdg hT.1 (hX _ _ _ _ _ _ hT.2 H locs lsA hR hS hl hk hz)
  · exact hT.elim
theorem am_sd_irem (hdg : decode cc pc = .ok (.irem, 1)) : am_Sd mt own nm cc nL mc ms ret pc (am_irem) := by
  intro p l e R s m args below meth c D cA S H0 Qw K Q X Cx Ks Rs hX ls st h k z hT H locs lsA hR hS hl hk hz
  obtain ⟨hx, hb, hml, hown, hG, hE, hnm, hH0, hfr, hlo, hRc, hRs⟩ := Cx
  unfold am_irem at hT
  split at hT
  · next y x r => exact lv_irem hx hb hdg hT.1 (hX _ _ _ _ _ _ hT.2 H locs lsA hR hS hl hk hz)
  · exact hT.elim
theorem am_sd_ladd (hdg : decode cc pc = .ok (.ladd, 1)) : am_Sd mt own nm cc nL mc ms ret pc (am_lb (fun x y => x + y)) := by
  intro p l e R s m args below meth c D cA S H0 Qw K Q X Cx Ks Rs hX ls st h k z hT H locs lsA hR hS hl hk hz
  obtain ⟨hx, hb, hml, hown, hG, hE, hnm, hH0, hfr, hlo, hRc, hRs⟩ := Cx
  unfold am_lb at hT
  split at hT
  · next y x r => exact lv_ladd hx hb hdg (hX _ _ _ _ _ _ hT H locs lsA hR hS hl hk hz)
  · exact hT.elim
theorem am_sd_lmul (hdg : decode cc pc = .ok (.lmul, 1)) : am_Sd mt own nm cc nL mc ms ret pc (am_lb (fun x y => x * y)) := by
  intro p l e R s m args below meth c D cA S H0 Qw K Q X Cx Ks Rs hX ls st h k z hT H locs lsA hR hS hl hk hz
  obtain ⟨hx, hb, hml, hown, hG, hE, hnm, hH0, hfr, hlo, hRc, hRs⟩ := Cx
  unfold am_lb at hT
  split at hT
  · next y x r => exact lv_lmul hx hb hdg (hX _ _ _ _ _ _ hT H locs lsA hR hS hl hk hz)
  · exact hT.elim
theorem am_sd_lor (hdg : decode cc pc = .ok (.lor, 1)) : am_Sd mt own nm cc nL mc ms ret pc (am_lb (fun x y => x ||| y)) := by
  intro p l e R s m args below meth c D cA S H0 Qw K Q X Cx Ks Rs hX ls st h k z hT H locs lsA hR hS hl hk hz
  obtain ⟨hx, hb, hml, hown, hG, hE, hnm, hH0, hfr, hlo, hRc, hRs⟩ := Cx
  unfold am_lb at hT
  split at hT
  · next y x r => exact lv_lor hx hb hdg (hX _ _ _ _ _ _ hT H locs lsA hR hS hl hk hz)
  · exact hT.elim
theorem am_sd_lshl (hdg : decode cc pc = .ok (.lshl, 1)) : am_Sd mt own nm cc nL mc ms ret pc (am_lsh (fun x y => x <<< (y.toInt64 &&& 63))) := by
  intro p l e R s m args below meth c D cA S H0 Qw K Q X Cx Ks Rs hX ls st h k z hT H locs lsA hR hS hl hk hz
  obtain ⟨hx, hb, hml, hown, hG, hE, hnm, hH0, hfr, hlo, hRc, hRs⟩ := Cx
  unfold am_lsh at hT
  split at hT
  · next y x r => exact lv_lshl hx hb hdg rfl (hX _ _ _ _ _ _ hT H locs lsA hR hS hl hk hz)
  · exact hT.elim
theorem am_sd_lshr (hdg : decode cc pc = .ok (.lshr, 1)) : am_Sd mt own nm cc nL mc ms ret pc (am_lsh (fun x y => x >>> (y.toInt64 &&& 63))) := by
  intro p l e R s m args below meth c D cA S H0 Qw K Q X Cx Ks Rs hX ls st h k z hT H locs lsA hR hS hl hk hz
  obtain ⟨hx, hb, hml, hown, hG, hE, hnm, hH0, hfr, hlo, hRc, hRs⟩ := Cx
  unfold am_lsh at hT
  split at hT
  · next y x r => exact lv_lshr hx hb hdg rfl (hX _ _ _ _ _ _ hT H locs lsA hR hS hl hk hz)
  · exact hT.elim
theorem am_sd_lcmp (hdg : decode cc pc = .ok (.lcmp, 1)) : am_Sd mt own nm cc nL mc ms ret pc (am_lcmp) := by
  intro p l e R s m args below meth c D cA S H0 Qw K Q X Cx Ks Rs hX ls st h k z hT H locs lsA hR hS hl hk hz
  obtain ⟨hx, hb, hml, hown, hG, hE, hnm, hH0, hfr, hlo, hRc, hRs⟩ := Cx
  unfold am_lcmp at hT
  split at hT
  · next y x r => exact W.lcmp hx hb hdg (hX _ _ _ _ _ _ hT H locs lsA hR hS hl hk hz)
  · exact hT.elim
theorem am_sd_i2l (hdg : decode cc pc = .ok (.i2l, 1)) : am_Sd mt own nm cc nL mc ms ret pc (am_i2l) := by
  intro p l e R s m args below meth c D cA S H0 Qw K Q X Cx Ks Rs hX ls st h k z hT H locs lsA hR hS hl hk hz
  obtain ⟨hx, hb, hml, hown, hG, hE, hnm, hH0, hfr, hlo, hRc, hRs⟩ := Cx
  unfold am_i2l at hT
  split at hT
  · next x r => exact lv_i2l hx hb hdg rfl (hX _ _ _ _ _ _ hT H locs lsA hR hS hl hk hz)
  · exact hT.elim
theorem am_sd_l2i (hdg : decode cc pc = .ok (.l2i, 1)) : am_Sd mt own nm cc nL mc ms ret pc (am_l2i) := by
  intro p l e R s m args below meth c D cA S H0 Qw K Q X Cx Ks Rs hX ls st h k z hT H locs lsA hR hS hl hk hz
  obtain ⟨hx, hb, hml, hown, hG, hE, hnm, hH0, hfr, hlo, hRc, hRs⟩ := Cx
  unfold am_l2i at hT
  split at hT
  · next x r => exact lv_l2i hx hb hdg rfl (hX _ _ _ _ _ _ hT H locs lsA hR hS hl hk hz)
  · exact hT.elim
theorem am_sd_i2c (hdg : decode cc pc = .ok (.i2c, 1)) : am_Sd mt own nm cc nL mc ms ret pc (am_i2c) := by
  intro p l e R s m args below meth c D cA S H0 Qw K Q X Cx Ks Rs hX ls st h k z hT H locs lsA hR hS hl hk hz
  obtain ⟨hx, hb, hml, hown, hG, hE, hnm, hH0, hfr, hlo, hRc, hRs⟩ := Cx
  unfold am_i2c at hT
  split at hT
  · next x r => exact lv_i2c hx hb hdg rfl (hX _ _ _ _ _ _ hT H locs lsA hR hS hl hk hz)
  · exact hT.elim
theorem am_sd_dup (hdg : decode cc pc = .ok (.dup, 1)) : am_Sd mt own nm cc nL mc ms ret pc (am_dup) := by
  intro p l e R s m args below meth c D cA S H0 Qw K Q X Cx Ks Rs hX ls st h k z hT H locs lsA hR hS hl hk hz
  obtain ⟨hx, hb, hml, hown, hG, hE, hnm, hH0, hfr, hlo, hRc, hRs⟩ := Cx
  unfold am_dup at hT
  split at hT
  · next v r => exact lv_dup hx hb hdg (by rw [am_cv_cat]; exact hT.1) (hX _ _ _ _ _ _ hT.2 H locs lsA hR hS hl hk hz)
  · exact hT.elim
theorem am_sd_pop (hdg : decode cc pc = .ok (.pop, 1)) : am_Sd mt own nm cc nL mc ms ret pc (am_pop) := by
  intro p l e R s m args below meth c D cA S H0 Qw K Q X Cx Ks Rs hX ls st h k z hT H locs lsA hR hS hl hk hz
  obtain ⟨hx, hb, hml, hown, hG, hE, hnm, hH0, hfr, hlo, hRc, hRs⟩ := Cx
  unfold am_pop at hT
  split at hT
  · next v r => exact lv_pop hx hb hdg (by rw [am_cv_cat]; exact hT.1) (hX _ _ _ _ _ _ hT.2 H locs lsA hR hS hl hk hz)
  · exact hT.elim
theorem am_sd_if_eq {off : Int} {tgt : Nat} (hdg : decode cc pc = .ok (.ifCond .eq off, 3)) (ht : (pc : Int) + off = (tgt : Int)) : am_Sd mt own nm cc nL mc ms ret pc (am_if1 (fun x => x = 0) tgt) := by
  intro p l e R s m args below meth c D cA S H0 Qw K Q X Cx Ks Rs hX ls st h k z hT H locs lsA hR hS hl hk hz
  obtain ⟨hx, hb, hml, hown, hG, hE, hnm, hH0, hfr, hlo, hRc, hRs⟩ := Cx
  unfold am_if1 at hT
  split at hT
  · next x r => exact lv_if_eq hx hb hdg ht (fun q => hX _ _ _ _ _ _ (hT.1 q) H locs lsA hR hS hl hk hz) (fun q => hX _ _ _ _ _ _ (hT.2 q) H locs lsA hR hS hl hk hz)
  · exact hT.elim
theorem am_sd_icmp_eq {off : Int} {tgt : Nat} (hdg : decode cc pc = .ok (.if_icmp .eq off, 3)) (ht : (pc : Int) + off = (tgt : Int)) : am_Sd mt own nm cc nL mc ms ret pc (am_if2 (fun x y => x = y) tgt) := by
  intro p l e R s m args below meth c D cA S H0 Qw K Q X Cx Ks Rs hX ls st h k z hT H locs lsA hR hS hl hk hz
  obtain ⟨hx, hb, hml, hown, hG, hE, hnm, hH0, hfr, hlo, hRc, hRs⟩ := Cx
  unfold am_if2 at hT
  split at hT
  · next y x r => exact lv_icmp_eq hx hb hdg ht (fun q => hX _ _ _ _ _ _ (hT.1 q) H locs lsA hR hS hl hk hz) (fun q => hX _ _ _ _ _ _ (hT.2 q) H locs lsA hR hS hl hk hz)
  · exact hT.elim
theorem am_sd_if_ne {off : Int} {tgt : Nat} (hdg : decode cc pc = .ok (.ifCond .ne off, 3)) (ht : (pc : Int) + off = (tgt : Int)) : am_Sd mt own nm cc nL mc ms ret pc (am_if1 (fun x => ¬ x = 0) tgt) := by
  intro p l e R s m args below meth c D cA S H0 Qw K Q X Cx Ks Rs hX ls st h k z hT H locs lsA hR hS hl hk hz
  obtain ⟨hx, hb, hml, hown, hG, hE, hnm, hH0, hfr, hlo, hRc, hRs⟩ := Cx
  unfold am_if1 at hT
  split at hT
  · next x r => exact lv_if_ne hx hb hdg ht (fun q => hX _ _ _ _ _ _ (hT.1 q) H locs lsA hR hS hl hk hz) (fun q => hX _ _ _ _ _ _ (hT.2 (fun h9 => h9 q)) H locs lsA hR hS hl hk hz)
  · exact hT.elim
theorem am_sd_icmp_ne {off : Int} {tgt : Nat} (hdg : decode cc pc = .ok (.if_icmp .ne off, 3)) (ht : (pc : Int) + off = (tgt : Int)) : am_Sd mt own nm cc nL mc ms ret pc (am_if2 (fun x y => ¬ x = y) tgt) := by
  intro p l e R s m args below meth c D cA S H0 Qw K Q X Cx Ks Rs hX ls st h k z hT H locs lsA hR hS hl hk hz
  obtain ⟨hx, hb, hml, hown, hG, hE, hnm, hH0, hfr, hlo, hRc, hRs⟩ := Cx
  unfold am_if2 at hT
  split at hT
  · next y x r => exact lv_icmp_ne hx hb hdg ht (fun q => hX _ _ _ _ _ _ (hT.1 q) H locs lsA hR hS hl hk hz) (fun q => hX _ _ _ _ _ _ (hT.2 (fun h9 => h9 q)) H locs lsA hR hS hl hk hz)
  · exact hT.elim
theorem am_sd_if_lt {off : Int} {tgt : Nat} (hdg : decode cc pc = .ok (.ifCond .lt off, 3)) (ht : (pc : Int) + off = (tgt : Int)) : am_Sd mt own nm cc nL mc ms ret pc (am_if1 (fun x => x < 0) tgt) := by
  intro p l e R s m args below meth c D cA S H0 Qw K Q X Cx Ks Rs hX ls st h k z hT H locs lsA hR hS hl hk hz
  obtain ⟨hx, hb, hml, hown, hG, hE, hnm, hH0, hfr, hlo, hRc, hRs⟩ := Cx
  unfold am_if1 at hT
  split at hT
  · next x r => exact lv_if_lt hx hb hdg ht (fun q => hX _ _ _ _ _ _ (hT.1 q) H locs lsA hR hS hl hk hz) (fun q => hX _ _ _ _ _ _ (hT.2 q) H locs lsA hR hS hl hk hz)
  · exact hT.elim
theorem am_sd_icmp_lt {off : Int} {tgt : Nat} (hdg : decode cc pc = .ok (.if_icmp .lt off, 3)) (ht : (pc : Int) + off = (tgt : Int)) : am_Sd mt own nm cc nL mc ms ret pc (am_if2 (fun x y => x < y) tgt) := by
  intro p l e R s m args below meth c D cA S H0 Qw K Q X Cx Ks Rs hX ls st h k z hT H locs lsA hR hS hl hk hz
  obtain ⟨hx, hb, hml, hown, hG, hE, hnm, hH0, hfr, hlo, hRc, hRs⟩ := Cx
  unfold am_if2 at hT
  split at hT
  · next y x r => exact lv_icmp_lt hx hb hdg ht (fun q => hX _ _ _ _ _ _ (hT.1 q) H locs lsA hR hS hl hk hz) (fun q => hX _ _ _ _ _ _ (hT.2 q) H locs lsA hR hS hl hk hz)
  · exact hT.elim
theorem am_sd_if_ge {off : Int} {tgt : Nat} (hdg : decode cc pc = .ok (.ifCond .ge off, 3)) (ht : (pc : Int) + off = (tgt : Int)) : am_Sd mt own nm cc nL mc ms ret pc (am_if1 (fun x => 0 ≤ x) tgt) := by
  intro p l e R s m args below meth c D cA S H0 Qw K Q X Cx Ks Rs hX ls st h k z hT H locs lsA hR hS hl hk hz
  obtain ⟨hx, hb, hml, hown, hG, hE, hnm, hH0, hfr, hlo, hRc, hRs⟩ := Cx
  unfold am_if1 at hT
  split at hT
  · next x r => exact lv_if_ge hx hb hdg ht (fun q => hX _ _ _ _ _ _ (hT.1 q) H locs lsA hR hS hl hk hz) (fun q => hX _ _ _ _ _ _ (hT.2 q) H locs lsA hR hS hl hk hz)
  · exact hT.elim
theorem am_sd_icmp_ge {off : Int} {tgt : Nat} (hdg : decode cc pc = .ok (.if_icmp .ge off, 3)) (ht : (pc : Int) + off = (tgt : Int)) : am_Sd mt own nm cc nL mc ms ret pc (am_if2 (fun x y => y ≤ x) tgt) := by
  intro p l e R s m args below meth c D cA S H0 Qw K Q X Cx Ks Rs hX ls st h k z hT H locs lsA hR hS hl hk hz
  obtain ⟨hx, hb, hml, hown, hG, hE, hnm, hH0, hfr, hlo, hRc, hRs⟩ := Cx
  unfold am_if2 at hT
  split at hT
  · next y x r => exact lv_icmp_ge hx hb hdg ht (fun q => hX _ _ _ _ _ _ (hT.1 q) H locs lsA hR hS hl hk hz) (fun q => hX _ _ _ _ _ _ (hT.2 q) H locs lsA hR hS hl hk hz)
  · exact hT.elim
theorem am_sd_if_gt {off : Int} {tgt : Nat} (hdg : decode cc pc = .ok (.ifCond .gt off, 3)) (ht : (pc : Int) + off = (tgt : Int)) : am_Sd mt own nm cc nL mc ms ret pc (am_if1 (fun x => 0 < x) tgt) := by
  intro p l e R s m args below meth c D cA S H0 Qw K Q X Cx Ks Rs hX ls st h k z hT H locs lsA hR hS hl hk hz
  obtain ⟨hx, hb, hml, hown, hG, hE, hnm, hH0, hfr, hlo, hRc, hRs⟩ := Cx
  unfold am_if1 at hT
  split at hT
  · next x r => exact lv_if_gt hx hb hdg ht (fun q => hX _ _ _ _ _ _ (hT.1 q) H locs lsA hR hS hl hk hz) (fun q => hX _ _ _ _ _ _ (hT.2 q) H locs lsA hR hS hl hk hz)
  · exact hT.elim
theorem am_sd_icmp_gt {off : Int} {tgt : Nat} (hdg : decode cc pc = .ok (.if_icmp .gt off, 3)) (ht : (pc : Int) + off = (tgt : Int)) : am_Sd mt own nm cc nL mc ms ret pc (am_if2 (fun x y => y < x) tgt) := by
  intro p l e R s m args below meth c D cA S H0 Qw K Q X Cx Ks Rs hX ls st h k z hT H locs lsA hR hS hl hk hz
  obtain ⟨hx, hb, hml, hown, hG, hE, hnm, hH0, hfr, hlo, hRc, hRs⟩ := Cx
  unfold am_if2 at hT
  split at hT
  · next y x r => exact lv_icmp_gt hx hb hdg ht (fun q => hX _ _ _ _ _ _ (hT.1 q) H locs lsA hR hS hl hk hz) (fun q => hX _ _ _ _ _ _ (hT.2 q) H locs lsA hR hS hl hk hz)
  · exact hT.elim
theorem am_sd_if_le {off : Int} {tgt : Nat} (hdg : decode cc pc = .ok (.ifCond .le off, 3)) (ht : (pc : Int) + off = (tgt : Int)) : am_Sd mt own nm cc nL mc ms ret pc (am_if1 (fun x => x ≤ 0) tgt) := by
  intro p l e R s m args below meth c D cA S H0 Qw K Q X Cx Ks Rs hX ls st h k z hT H locs lsA hR hS hl hk hz
  obtain ⟨hx, hb, hml, hown, hG, hE, hnm, hH0, hfr, hlo, hRc, hRs⟩ := Cx
  unfold am_if1 at hT
  split at hT
  · next x r => exact lv_if_le hx hb hdg ht (fun q => hX _ _ _ _ _ _ (hT.1 q) H locs lsA hR hS hl hk hz) (fun q => hX _ _ _ _ _ _ (hT.2 q) H locs lsA hR hS hl hk hz)
  · exact hT.elim
theorem am_sd_icmp_le {off : Int} {tgt : Nat} (hdg : decode cc pc = .ok (.if_icmp .le off, 3)) (ht : (pc : Int) + off = (tgt : Int)) : am_Sd mt own nm cc nL mc ms ret pc (am_if2 (fun x y => x ≤ y) tgt) := by
  intro p l e R s m args below meth c D cA S H0 Qw K Q X Cx Ks Rs hX ls st h k z hT H locs lsA hR hS hl hk hz
  obtain ⟨hx, hb, hml, hown, hG, hE, hnm, hH0, hfr, hlo, hRc, hRs⟩ := Cx
  unfold am_if2 at hT
  split at hT
  · next y x r => exact lv_icmp_le hx hb hdg ht (fun q => hX _ _ _ _ _ _ (hT.1 q) H locs lsA hR hS hl hk hz) (fun q => hX _ _ _ _ _ _ (hT.2 q) H locs lsA hR hS hl hk hz)
  · exact hT.elim
theorem am_sd_goto {off : Int} {tgt : Nat} (hdg : decode cc pc = .ok (.goto off, 3)) (ht : (pc : Int) + off = (tgt : Int)) : am_Sd mt own nm cc nL mc ms ret pc (am_goto tgt) := by
  intro p l e R s m args below meth c D cA S H0 Qw K Q X Cx Ks Rs hX ls st h k z hT H locs lsA hR hS hl hk hz
  obtain ⟨hx, hb, hml, hown, hG, hE, hnm, hH0, hfr, hlo, hRc, hRs⟩ := Cx
  exact lv_goto hx hb hdg ht (hX _ _ _ _ _ _ hT H locs lsA hR hS hl hk hz)
theorem am_sd_ireturn {ty : FieldType} (hret : ret = some ty) (hdg : decode cc pc = .ok (.ireturn, 1)) : am_Sd mt own nm cc nL mc ms ret pc (am_iret ty) := by
  intro p l e R s m args below meth c D cA S H0 Qw K Q X Cx Ks Rs hX ls st h k z hT H locs lsA hR hS hl hk hz
  obtain ⟨hx, hb, hml, hown, hG, hE, hnm, hH0, hfr, hlo, hRc, hRs⟩ := Cx
  unfold am_iret at hT
  split at hT
  · next x => exact (Rs pc lsA h H locs k z hR hS hk hz).1 ty x hret hT.1 hT.2 hdg
  · exact hT.elim
theorem am_sd_lreturn (hret : ret = some .long) (hdg : decode cc pc = .ok (.lreturn, 1)) : am_Sd mt own nm cc nL mc ms ret pc (am_lret) := by
  intro p l e R s m args below meth c D cA S H0 Qw K Q X Cx Ks Rs hX ls st h k z hT H locs lsA hR hS hl hk hz
  obtain ⟨hx, hb, hml, hown, hG, hE, hnm, hH0, hfr, hlo, hRc, hRs⟩ := Cx
  unfold am_lret at hT
  split at hT
  · next x => exact (Rs pc lsA h H locs k z hR hS hk hz).2.1 x hret hT hdg
  · exact hT.elim
theorem am_sd_return (hret : ret = none) (hdg : decode cc pc = .ok (.return_, 1)) : am_Sd mt own nm cc nL mc ms ret pc (am_vret) := by
  intro p l e R s m args below meth c D cA S H0 Qw K Q X Cx Ks Rs hX ls st h k z hT H locs lsA hR hS hl hk hz
  obtain ⟨hx, hb, hml, hown, hG, hE, hnm, hH0, hfr, hlo, hRc, hRs⟩ := Cx
  unfold am_vret at hT
  split at hT
  · exact (Rs pc lsA h H locs k z hR hS hk hz).2.2 hret hT hdg
  · exact hT.elim
end
end
section
theorem am_R.set {D : va_G} {cA : FieldType → ClassId} {S : Nat → Nat} {H0 H H' : Heap} {h : am_H} {a : Nat} {e0 e' : am_C} (hR : am_R D am_cl cA S H0 h H) (ha : h[a]? = some e0) (hat : va_at D am_cl (H0.size + a, am_cc cA S H0.size e') H') (z : H'.size = H.size) (oq : ∀ q, q ≠ H0.size + a → H'[q]? = H[q]?) : am_R D am_cl cA S H0 (h.set a e') H' := by
  refine ⟨by rw [z, hR.1, List.length_set], fun q hq => ?_, ?_⟩
  · rw [oq q (by omega)]
    exact hR.2.1 q hq
  · rw [← am_conc_set]
    exact hR.2.2.set (am_conc_D cA S H0.size h) (am_conc_some ha) hat oq
theorem am_R.push {D : va_G} {cA : FieldType → ClassId} {S : Nat → Nat} {H0 H H' : Heap} {h : am_H} {e' : am_C} (hR : am_R D am_cl cA S H0 h H) (hat : va_at D am_cl (H0.size + h.length, am_cc cA S H0.size e') H') (z : H'.size = H.size + 1) (oq : ∀ q, q < H.size → H'[q]? = H[q]?) : am_R D am_cl cA S H0 (h ++ [e']) H' := by
  refine ⟨by rw [z, hR.1, List.length_append]; simp; omega, fun q hq => ?_, ?_⟩
  · rw [oq q (by have := hR.1; omega)]
    exact hR.2.1 q hq
  · rw [am_conc_app]
    refine va_P.app (hR.2.2.kept (fun k q hk => oq q.1 ((hR.2.2 k q hk).lt))) (fun k q hk => ?_)
    have hk0 : k < 1 := by have := (List.getElem?_eq_some_iff.mp hk).1; simpa using this
    rw [show k = 0 by omega] at hk
    simp at hk
    subst hk
    exact hat
theorem am_S_put {H0 Hs H H' : Heap} {locs : List Loc} {a i : Nat} (hS : va_S (fun q => H0.size ≤ q) Hs H locs) (z : H'.size = H.size) (oq : ∀ q, q ≠ H0.size + a → H'[q]? = H[q]?) : va_S (fun q => H0.size ≤ q) Hs H' (locs ++ [⟨H0.size + a, i⟩]) := hS.put z oq (Nat.le_add_right _ _)
theorem am_S_push {H0 Hs H H' : Heap} {locs : List Loc} {n : Nat} (hS : va_S (fun q => H0.size ≤ q) Hs H locs) (z : H'.size = H.size + n) (oq : ∀ q, q < H.size → H'[q]? = H[q]?) : va_S (fun q => H0.size ≤ q) Hs H' locs := ⟨Nat.le_trans hS.1 (by omega), fun q h1 h2 => (oq q (Nat.lt_of_lt_of_le h1 hS.1)).trans (hS.2.1 q h1 h2), hS.2.2⟩
theorem am_narrow {S : Nat → Nat} {B : Nat} {ty : FieldType} {v : Value} (hf : match v with | .float _ => False | _ => True) (h : narrow ty v = v) : narrow ty (am_cv S B v) = am_cv S B v := by
  cases v with
  | ref k => cases ty <;> rfl
  | float u => exact hf.elim
  | _ => exact h
theorem am_fits {S : Nat → Nat} {B : Nat} {ty : FieldType} {v : Value} (hf : match v with | .float _ => False | _ => True) (h : fits ty v = true) : fits ty (am_cv S B v) = true := by
  cases v with
  | ref k => cases ty <;> first | rfl | cases h
  | float u => exact hf.elim
  | _ => exact h
theorem am_tys_at {cA : FieldType → ClassId} {ty : FieldType} (h : ty ∈ am_tyl) : ∃ i : Nat, (am_tys cA)[i]? = some (cA ty, ty) := by
  obtain ⟨i, hi⟩ := List.getElem?_of_mem h
  exact ⟨i, by rw [List.getElem?_map, hi]; rfl⟩
section
variable {mt : Nat → am_Mt} {own nm : String} {cc : ByteArray} {nL mc ms pc : Nat} {ret : Option FieldType}
theorem am_sd_get {C : String} {T : u_T} {N ci f index : Nat} (hc : am_cl[ci]? = some (C, T, N)) (hin : ∀ w ∈ u_ws C T N, w ∈ am_G) (hf : f < N) (hw : Cond.fieldLink own index (T f).1 (T f).2.1 (T f).2.2.1 ∈ am_G) (hdg : decode cc pc = .ok (.getfield index, 3)) : am_Sd mt own nm cc nL mc ms ret pc (am_get ci f) := by
  intro p l e R s m args below meth c D cA S H0 Qw K Q X Cx Ks Rs hX ls st h k z hT H locs lsA hR hS hl hk hz
  obtain ⟨hx, hb, hml, hown, hG, hE, hnm, hH0, hfr, hlo, hRc, hRs⟩ := Cx
  unfold am_get at hT
  split at hT
  · next a r =>
    split at hT
    · next d fs heq =>
      obtain ⟨rfl, hT⟩ := hT
      split at hT
      · next v hv => exact va_get (D := D) (cl := am_cl) (v := am_cv S H0.size v) hx hb hG hin hown hE.1 hR.2.2 a (am_conc_some heq) hc f hf (hG _ hw) (fun _ q => q) (by rw [List.getElem?_map, hv]; rfl) hdg (hX _ _ _ _ _ _ hT H locs lsA hR hS hl hk hz)
      · exact hT.elim
    · exact hT.elim
  · exact hT.elim
theorem am_sd_getN {C host : String} {T : u_T} {N ci f index : Nat} (hc : am_cl[ci]? = some (C, T, N)) (hin : ∀ w ∈ u_ws C T N, w ∈ am_G) (hf : f < N) (hw : Cond.fieldLinkNest own index (T f).1 (T f).2.1 (T f).2.2.1 host ∈ tables_1) (hdg : decode cc pc = .ok (.getfield index, 3)) : am_Sd mt own nm cc nL mc ms ret pc (am_get ci f) := by
  intro p l e R s m args below meth c D cA S H0 Qw K Q X Cx Ks Rs hX ls st h k z hT H locs lsA hR hS hl hk hz
  obtain ⟨hx, hb, hml, hown, hG, hE, hnm, hH0, hfr, hlo, hRc, hRs⟩ := Cx
  unfold am_get at hT
  split at hT
  · next a r =>
    split at hT
    · next d fs heq =>
      obtain ⟨rfl, hT⟩ := hT
      split at hT
      · next v hv => exact va_getN (D := D) (cl := am_cl) (v := am_cv S H0.size v) hx hb hG hin hown hE.1 hR.2.2 a (am_conc_some heq) hc f hf (va_Nw.use rfl (hE.2.1 _ hw rfl)) (fun _ q => q) (by rw [List.getElem?_map, hv]; rfl) hdg (hX _ _ _ _ _ _ hT H locs lsA hR hS hl hk hz)
      · exact hT.elim
    · exact hT.elim
  · exact hT.elim
/-- what a written field is -/
theorem am_putAt {D : va_G} {cA : FieldType → ClassId} {S : Nat → Nat} {H0 H' : Heap} {C : String} {T : u_T} {N ci f a : Nat} {cell : Cell} {fs : List Value} {v : Value} (hc : am_cl[ci]? = some (C, T, N)) (hap : ∀ x y, x < N → y < N → x ≠ y → (D.2 ci) x ≠ (D.2 ci) y) (hf : f < N) (hl : f < fs.length) (q2 : cell.cls = D.1 ci) (q3 : cell.vm = .none) (q4 : ∀ k, k < N → cell.slots[D.2 ci k]? = some (vp_V (fs.map (am_cv S H0.size)) k)) (e1 : H'[H0.size + a]? = some (cell.setSlot (D.2 ci f) (am_cv S H0.size v))) : va_at D am_cl (H0.size + a, am_cc cA S H0.size (.inr (ci, fs.set f v))) H' := by
  refine ⟨_, hc, t_OB.to (V := updV (vp_V (fs.map (am_cv S H0.size))) f (am_cv S H0.size v)) ⟨_, e1, q2, q3, t_set q4 hap hf _⟩ (fun j _ => ?_)⟩
  rw [vp_updV_set (by simpa using hl), List.map_set]
theorem am_sd_put {C : String} {T : u_T} {ty0 : Nat → FieldType} {N ci f index : Nat} {ty : FieldType} (hc : am_cl[ci]? = some (C, T, N)) (hin : ∀ w ∈ u_ws C T N, w ∈ am_G) (hty : ∀ k, k < N → parseFieldDescriptor (T k).2.2.1 = some (ty0 k)) (hnm0 : ∀ a, a < N → ∀ b, b < N → a ≠ b → (T a).2.1 ≠ (T b).2.1) (hf : f < N) (hw : Cond.fieldLink own index (T f).1 (T f).2.1 (T f).2.2.1 ∈ am_G) (hfin : (T f).2.2.2 = false) (hd : ty0 f = ty) (hdg : decode cc pc = .ok (.putfield index, 3)) : am_Sd mt own nm cc nL mc ms ret pc (am_put ci f ty) := by
  intro p l e R s m args below meth c D cA S H0 Qw K Q X Cx Ks Rs hX ls st h k z hT H locs lsA hR hS hl hk hz
  obtain ⟨hx, hb, hml, hown, hG, hE, hnm, hH0, hfr, hlo, hRc, hRs⟩ := Cx
  unfold am_put at hT
  split at hT
  · next v a r =>
    split at hT
    · next d fs heq =>
      obtain ⟨rfl, hlen, hnf, hn, hfit, hT⟩ := hT
      subst hd
      have hap := va_apart (own := own) hG hin ty0 hty hnm0 hE.1 hc
      obtain ⟨rr, h1, cell, q1, q2, q3, q4⟩ := hR.2.2 a _ (am_conc_some heq)
      have hr : rr = (C, T, N) := Option.some.inj (h1.symm.trans hc)
      subst hr
      obtain ⟨hSl, hfc, kC, hkC, hkind⟩ := hE.1.1 d _ hc
      obtain ⟨cf, kf, fi, fd, hi, hsl⟩ := hSl f hf
      have hlay := hG _ (hin _ (u_in_lay hf))
      unfold u_lay at hlay
      rw [if_neg (by rw [hfin]; decide)] at hlay
      have hst := (u_facts hfc hkC (u_lays hG hin hf) hi).1
      have h6 := u_store hfc hkC hkind hlay hi (hty f hf) (am_narrow (S := S) (B := H0.size) hnf hn) (am_fits (S := S) (B := H0.size) hnf hfit)
      refine W.putK hx hb (f := fd) ⟨hown, hG _ hw, ⟨_, _, _, hi⟩, hst⟩ (by rw [q2]; exact h6) q1 q3 (by rw [hsl]; exact k2_hasslot (q4 f hf)) rfl rfl hdg fun H' e1 e2 e3 => ?_
      rw [hsl] at e1 ⊢
      exact hX _ _ _ _ _ _ hT H' _ lsA (hR.set heq (am_putAt hc hap hf hlen q2 q3 q4 e1) e2 e3) (am_S_put hS e2 e3) hl hk hz
    · exact hT.elim
  · exact hT.elim
theorem am_sd_putF {C : String} {T : u_T} {ty0 : Nat → FieldType} {N ci f index : Nat} {ty : FieldType} (hc : am_cl[ci]? = some (C, T, N)) (hin : ∀ w ∈ u_ws C T N, w ∈ am_G) (hty : ∀ k, k < N → parseFieldDescriptor (T k).2.2.1 = some (ty0 k)) (hnm0 : ∀ a, a < N → ∀ b, b < N → a ≠ b → (T a).2.1 ≠ (T b).2.1) (hf : f < N) (hw : Cond.fieldLink own index (T f).1 (T f).2.1 (T f).2.2.1 ∈ am_G) (hfin : (T f).2.2.2 = true) (hin2 : nm = "<init>") (hdecl : (T f).1 = own) (hd : ty0 f = ty) (hdg : decode cc pc = .ok (.putfield index, 3)) : am_Sd mt own nm cc nL mc ms ret pc (am_put ci f ty) := by
  intro p l e R s m args below meth c D cA S H0 Qw K Q X Cx Ks Rs hX ls st h k z hT H locs lsA hR hS hl hk hz
  obtain ⟨hx, hb, hml, hown, hG, hE, hnm, hH0, hfr, hlo, hRc, hRs⟩ := Cx
  unfold am_put at hT
  split at hT
  · next v a r =>
    split at hT
    · next d fs heq =>
      obtain ⟨rfl, hlen, hnf, hn, hfit, hT⟩ := hT
      subst hd
      have hap := va_apart (own := own) hG hin ty0 hty hnm0 hE.1 hc
      obtain ⟨rr, h1, cell, q1, q2, q3, q4⟩ := hR.2.2 a _ (am_conc_some heq)
      have hr : rr = (C, T, N) := Option.some.inj (h1.symm.trans hc)
      subst hr
      obtain ⟨hSl, hfc, kC, hkC, hkind⟩ := hE.1.1 d _ hc
      obtain ⟨cf, kf, fi, fd, hi, hsl⟩ := hSl f hf
      have hlay := hG _ (hin _ (u_in_lay hf))
      unfold u_lay at hlay
      rw [if_pos hfin] at hlay
      have hst := (u_facts hfc hkC (u_lays hG hin hf) hi).1
      have hcf : m.cls = cf := by
        obtain ⟨_, _, c', _, _, _, -, -, hf', -, -, -, hown2, -⟩ := Cond.laysFinal_spec hlay
        have e1 : c' = cf := by have := hi.symm.trans hf'; simp at this; exact this.1.symm
        rw [hdecl] at hown2
        rw [← e1]; exact Option.some.inj (hown.symm.trans hown2)
      have h6 := u_fits hfc hkC hkind (Or.inr hlay) hi (hty f hf) (am_narrow (S := S) (B := H0.size) hnf hn) (am_fits (S := S) (B := H0.size) hnf hfit)
      refine W.putFinK hx hb hown (hG _ hw) hi hst hcf (hnm.trans hin2) (by rw [q2]; exact h6) q1 q3 (by rw [hsl]; exact k2_hasslot (q4 f hf)) rfl rfl hdg fun H' e1 e2 e3 => ?_
      rw [hsl] at e1 ⊢
      exact hX _ _ _ _ _ _ hT H' _ lsA (hR.set heq (am_putAt hc hap hf hlen q2 q3 q4 e1) e2 e3) (am_S_put hS e2 e3) hl hk hz
    · exact hT.elim
  · exact hT.elim
end
end
section
section
variable {mt : Nat → am_Mt} {own nm : String} {cc : ByteArray} {nL mc ms pc : Nat} {ret : Option FieldType}
theorem am_sd_iaload (hdg : decode cc pc = .ok (.iaload, 1)) : am_Sd mt own nm cc nL mc ms ret pc am_iald := by
  intro p l e R s m args below meth c D cA S H0 Qw K Q X Cx Ks Rs hX ls st h k z hT H locs lsA hR hS hl hk hz
  obtain ⟨hx, hb, hml, hown, hG, hE, hnm, hH0, hfr, hlo, hRc, hRs⟩ := Cx
  unfold am_iald at hT
  split at hT
  · next i a r =>
    split at hT
    · next ty n f heq =>
      obtain ⟨rfl, hi, hT⟩ := hT
      exact va_iald (D := D) (cl := am_cl) (tys := am_tys cA) hx hb hE.1 hR.2.2 a 0 (am_conc_some heq) rfl hi hdg (hX _ _ _ _ _ _ hT H locs lsA hR hS hl hk hz)
    · exact hT.elim
  · exact hT.elim
theorem am_sd_caload (hdg : decode cc pc = .ok (.caload, 1)) : am_Sd mt own nm cc nL mc ms ret pc am_cald := by
  intro p l e R s m args below meth c D cA S H0 Qw K Q X Cx Ks Rs hX ls st h k z hT H locs lsA hR hS hl hk hz
  obtain ⟨hx, hb, hml, hown, hG, hE, hnm, hH0, hfr, hlo, hRc, hRs⟩ := Cx
  unfold am_cald at hT
  split at hT
  · next i a r =>
    split at hT
    · next ty n f heq =>
      obtain ⟨rfl, hi, hT⟩ := hT
      exact va_cald (D := D) (cl := am_cl) (tys := am_tys cA) hx hb hE.1 hR.2.2 a 2 (am_conc_some heq) rfl hi hdg (hX _ _ _ _ _ _ hT H locs lsA hR hS hl hk hz)
    · exact hT.elim
  · exact hT.elim
theorem am_sd_laload (hdg : decode cc pc = .ok (.laload, 1)) : am_Sd mt own nm cc nL mc ms ret pc am_lald := by
  intro p l e R s m args below meth c D cA S H0 Qw K Q X Cx Ks Rs hX ls st h k z hT H locs lsA hR hS hl hk hz
  obtain ⟨hx, hb, hml, hown, hG, hE, hnm, hH0, hfr, hlo, hRc, hRs⟩ := Cx
  unfold am_lald at hT
  split at hT
  · next i a r =>
    split at hT
    · next ty n f heq =>
      obtain ⟨rfl, hi, hT⟩ := hT
      exact va_lald (D := D) (cl := am_cl) (tys := am_tys cA) hx hb hE.1 hR.2.2 a 1 (am_conc_some heq) rfl hi hdg (hX _ _ _ _ _ _ hT H locs lsA hR hS hl hk hz)
    · exact hT.elim
  · exact hT.elim
theorem am_sd_len (hdg : decode cc pc = .ok (.arraylength, 1)) : am_Sd mt own nm cc nL mc ms ret pc am_len := by
  intro p l e R s m args below meth c D cA S H0 Qw K Q X Cx Ks Rs hX ls st h k z hT H locs lsA hR hS hl hk hz
  obtain ⟨hx, hb, hml, hown, hG, hE, hnm, hH0, hfr, hlo, hRc, hRs⟩ := Cx
  unfold am_len at hT
  split at hT
  · next a r =>
    split at hT
    · next ty n f heq =>
      obtain ⟨rfl, hT⟩ := hT
      exact va_alen (D := D) (cl := am_cl) (tys := am_tys cA) hx hb hE.1 hR.2.2 a 0 (am_conc_some heq) (ty := .int) rfl (by rcases f with f | f | f | f | f <;> rfl) hdg (hX _ _ _ _ _ _ hT H locs lsA hR hS hl hk hz)
    · exact hT.elim
  · exact hT.elim
theorem am_cv_rf (S : Nat → Nat) (B : Nat) (o : Option Nat) : am_cv S B (va_rf o) = va_rf (o.map (fun k => B + k)) := by cases o <;> rfl
theorem am_sd_aaload {ty0 : FieldType} (ht : ty0 ∈ am_tyl) (hr : refKind ty0 = true) (hdg : decode cc pc = .ok (.aaload, 1)) : am_Sd mt own nm cc nL mc ms ret pc (am_rald ty0) := by
  intro p l e R s m args below meth c D cA S H0 Qw K Q X Cx Ks Rs hX ls st h k z hT H locs lsA hR hS hl hk hz
  obtain ⟨hx, hb, hml, hown, hG, hE, hnm, hH0, hfr, hlo, hRc, hRs⟩ := Cx
  unfold am_rald at hT
  split at hT
  · next i a r =>
    split at hT
    · next ty n f heq =>
      obtain ⟨rfl, hi, hT⟩ := hT
      obtain ⟨t0, ht0⟩ := am_tys_at (cA := cA) ht
      have hlt : i.toNatClampNeg < n := Nat.not_le.mp fun q => hi (Or.inr q)
      have hcell : H[H0.size + a]? = some (arrV (cA ty) n (fun j => va_rf ((f j).map (fun k => H0.size + k)))) := hR.2.2 a _ (am_conc_some heq)
      have hgo := hX _ _ _ _ _ _ hT H locs lsA hR hS hl hk hz
      rw [List.map_cons, am_cv_rf] at hgo
      refine W.aald (v := va_rf ((f i.toNatClampNeg).map (fun k => H0.size + k))) (ty := ty) hx hb hcell ((hE.1.2 t0 _ ht0).1 n (fun j => va_rf ((f j).map (fun k => H0.size + k)))) ?_ (fun q => by cases q) (by show ¬ (i < 0 ∨ (arrV _ _ _).slots.size ≤ _); rw [arrV_size]; exact hi) (by show (arrV _ _ _).slots[_]? = _; rw [arrV_read _ _ hlt]) rfl rfl hdg hgo
      exact hr
    · exact hT.elim
  · exact hT.elim
theorem am_sd_iastore (hdg : decode cc pc = .ok (.iastore, 1)) : am_Sd mt own nm cc nL mc ms ret pc am_iast := by
  intro p l e R s m args below meth c D cA S H0 Qw K Q X Cx Ks Rs hX ls st h k z hT H locs lsA hR hS hl hk hz
  obtain ⟨hx, hb, hml, hown, hG, hE, hnm, hH0, hfr, hlo, hRc, hRs⟩ := Cx
  unfold am_iast at hT
  split at hT
  · next x i a r =>
    split at hT
    · next ty n f heq =>
      obtain ⟨rfl, hi, hT⟩ := hT
      have hcell := hR.2.2 a _ (am_conc_some heq)
      refine W.iast hx hb hcell ((hE.1.2 0 (cA .int, .int) rfl).1 n (fun j => .int (f j))) (fun q => by cases q) (by show ¬ (i < 0 ∨ (arrV _ _ _).slots.size ≤ _); rw [arrV_size]; exact hi) rfl rfl hdg fun H' e1 e2 e3 => ?_
      refine hX _ _ _ _ _ _ hT H' _ lsA (hR.set heq ?_ e2 e3) (am_S_put hS e2 e3) hl hk hz
      show H'[H0.size + a]? = some (vp_cell _ _)
      rw [e1]
      show some ((vp_cell (cA .int) (n, .inl f)).setSlot _ _) = some (vp_cell (cA .int) (n, .inl _))
      rw [vp_cell_i, vp_cell_i, arrV_store]
      congr 2
      funext q
      by_cases hq : q = i.toNatClampNeg
      · subst hq
        simp [updV, upd]
      · simp [updV, upd, hq]
    · exact hT.elim
  · exact hT.elim
theorem am_sd_castore (hdg : decode cc pc = .ok (.castore, 1)) : am_Sd mt own nm cc nL mc ms ret pc am_cast := by
  intro p l e R s m args below meth c D cA S H0 Qw K Q X Cx Ks Rs hX ls st h k z hT H locs lsA hR hS hl hk hz
  obtain ⟨hx, hb, hml, hown, hG, hE, hnm, hH0, hfr, hlo, hRc, hRs⟩ := Cx
  unfold am_cast at hT
  split at hT
  · next x i a r =>
    split at hT
    · next ty n f heq =>
      obtain ⟨rfl, hi, hT⟩ := hT
      have hcell := hR.2.2 a _ (am_conc_some heq)
      refine W.cast hx hb hcell ((hE.1.2 2 (cA .char, .char) rfl).1 n (fun j => .int (f j))) (fun q => by cases q) (by show ¬ (i < 0 ∨ (arrV _ _ _).slots.size ≤ _); rw [arrV_size]; exact hi) rfl rfl hdg fun H' e1 e2 e3 => ?_
      refine hX _ _ _ _ _ _ hT H' _ lsA (hR.set heq ?_ e2 e3) (am_S_put hS e2 e3) hl hk hz
      show H'[H0.size + a]? = some (vp_cell _ _)
      rw [e1]
      show some ((vp_cell (cA .char) (n, .inl f)).setSlot _ _) = some (vp_cell (cA .char) (n, .inl _))
      rw [vp_cell_i, vp_cell_i, arrV_store]
      congr 2
      funext q
      by_cases hq : q = i.toNatClampNeg
      · subst hq
        simp [updV, upd, vp_nar]
        try rfl
      · simp [updV, upd, hq]
    · exact hT.elim
  · exact hT.elim
theorem am_sd_lastore (hdg : decode cc pc = .ok (.lastore, 1)) : am_Sd mt own nm cc nL mc ms ret pc am_last := by
  intro p l e R s m args below meth c D cA S H0 Qw K Q X Cx Ks Rs hX ls st h k z hT H locs lsA hR hS hl hk hz
  obtain ⟨hx, hb, hml, hown, hG, hE, hnm, hH0, hfr, hlo, hRc, hRs⟩ := Cx
  unfold am_last at hT
  split at hT
  · next x i a r =>
    split at hT
    · next ty n f heq =>
      obtain ⟨rfl, hi, hT⟩ := hT
      have hcell := hR.2.2 a _ (am_conc_some heq)
      refine W.last hx hb hcell ((hE.1.2 1 (cA .long, .long) rfl).1 n (fun j => .long (f j))) (fun q => by cases q) (by show ¬ (i < 0 ∨ (arrV _ _ _).slots.size ≤ _); rw [arrV_size]; exact hi) rfl rfl hdg fun H' e1 e2 e3 => ?_
      refine hX _ _ _ _ _ _ hT H' _ lsA (hR.set heq ?_ e2 e3) (am_S_put hS e2 e3) hl hk hz
      show H'[H0.size + a]? = some (vp_cell _ _)
      rw [e1]
      show some ((vp_cell (cA .long) (n, .inr (.inl f))).setSlot _ _) = some (vp_cell (cA .long) (n, .inr (.inl _)))
      rw [vp_cell_l, vp_cell_l, arrV_store]
      congr 2
      funext q
      by_cases hq : q = i.toNatClampNeg
      · subst hq
        simp [updV, vp_updL]
      · simp [updV, vp_updL, hq]
    · exact hT.elim
  · exact hT.elim
theorem am_sd_aastore {C : String} {T : u_T} {N ci : Nat} (hc : am_cl[ci]? = some (C, T, N)) (ht : FieldType.object C ∈ am_tyl) (hdg : decode cc pc = .ok (.aastore, 1)) : am_Sd mt own nm cc nL mc ms ret pc (am_rast ci C) := by
  intro p l e R s m args below meth c D cA S H0 Qw K Q X Cx Ks Rs hX ls st h k z hT H locs lsA hR hS hl hk hz
  obtain ⟨hx, hb, hml, hown, hG, hE, hnm, hH0, hfr, hlo, hRc, hRs⟩ := Cx
  unfold am_rast at hT
  split at hT
  · next v i a r =>
    split at hT
    · next ty n f heq =>
      obtain ⟨rfl, hi, hv, hT⟩ := hT
      split at hv
      · next d fs hev =>
        subst hv
        obtain ⟨t0, ht0⟩ := am_tys_at (cA := cA) ht
        have hcell : H[H0.size + a]? = some (arrV (cA (.object C)) n (fun j => va_rf ((f j).map (fun k => H0.size + k)))) := hR.2.2 a _ (am_conc_some heq)
        obtain ⟨rr, h1, cell, q1, q2, q3, q4⟩ := hR.2.2 v _ (am_conc_some hev)
        obtain ⟨kA, comp, g1, g2, g3, g4⟩ := (hE.1.2 t0 _ ht0).2
        obtain ⟨hSl, hfc, kC, hkC, hkind⟩ := hE.1.1 d _ hc
        have hcomp : comp = D.1 d := Option.some.inj (g3.symm.trans hfc)
        subst hcomp
        have hlt : i.toNatClampNeg < n := Nat.not_le.mp fun q => hi (Or.inr q)
        refine W.aast (k := kA) (kv := kC) (kcomp := kC) (comp := D.1 d) (t := .object C) hx hb hcell (fun q h9 => by cases h9) (fun h9 => by cases h9) g1 g2 rfl hkC ⟨fun q => hi (Or.inl q), by show _ < (arrV _ _ _).slots.size; rw [arrV_size]; exact hlt⟩ q1 (fun q h9 => by rw [q3] at h9; cases h9) (by rw [q2]; exact hkC) (by rw [q2]; exact va_assign ⟨hfc, kC, hkC, hkind⟩) rfl rfl hdg fun H' e1 e2 e3 => ?_
        refine hX _ _ _ _ _ _ hT H' _ lsA (hR.set heq ?_ e2 e3) (am_S_put hS e2 e3) hl hk hz
        show H'[H0.size + a]? = some (vp_cell _ _)
        rw [e1]
        show some ((arrV _ _ _).setSlot _ _) = some (vp_cell (cA (.object C)) (n, .inr (.inr (.inr (.inr _)))))
        rw [vp_cell_q, arrV_store]
        congr 2
        funext q
        by_cases hq : q = i.toNatClampNeg
        · subst hq
          simp [updV, va_up, va_rf]
        · simp [updV, va_up, hq]
      · exact hv.elim
    · exact hT.elim
  · exact hT.elim
end
end
section
theorem am_good {y : am_Mt} (hc : Cond.code y.1 y.2.1 y.2.2.1 y.2.2.2.1 ∈ am_G) : GoodIn am_G (am_ws y) := by
  intro w hw
  have h : w ∈ am_G := by
    rcases List.mem_cons.mp hw with rfl | h
    · exact hc
    · exact h
  exact ⟨h, good_of_word (List.mem_filter.mp h).2⟩
theorem am_blind {D : va_G} {cA : FieldType → ClassId} {S : Nat → Nat} {H0 : Heap} {As : List Value} {h : am_H} : FrameBlind (am_Pc D cA S H0 As h) := fun a U g mk q => ⟨q.1, q.2.1, am_E.same (s := U) (U := U.calling g mk a) rfl q.2.2⟩
theorem am_take_rev {st : List Value} {n : Nat} {v : Value} (h : st[n]? = some v) : (st.take (n + 1)).reverse = v :: (st.take n).reverse := by
  rw [List.take_add_one, h]
  simp
theorem am_stk {st : List Value} {n : Nat} {v : Value} (f : Value → Value) (h : st[n]? = some v) : st.map f = (((st.take n).reverse).map f).reverse ++ f v :: (st.drop (n + 1)).map f := by
  have e : st = st.take n ++ v :: st.drop (n + 1) := by
    obtain ⟨hl, hv⟩ := List.getElem?_eq_some_iff.mp h
    rw [← hv, List.getElem_cons_drop, List.take_append_drop]
  rw [List.map_reverse, List.reverse_reverse, ← List.map_cons, ← List.map_append, ← e]
theorem am_stkS {st : List Value} (n : Nat) (f : Value → Value) : st.map f = (((st.take n).reverse).map f).reverse ++ (st.drop n).map f := by
  rw [List.map_reverse, List.reverse_reverse, ← List.map_append, List.take_append_drop]
theorem am_rest_cv {S : Nat → Nat} {B : Nat} {st : List Value} (h : am_rest st) : ((st.map (am_cv S B)).map fun v => v.category).sum ≤ 8 := by
  unfold am_rest at h
  rw [List.map_map]
  refine Nat.le_trans (Nat.le_of_eq ?_) h
  congr 1
  apply List.map_congr_left
  intro v _
  exact am_cv_cat S B v
section
variable {p : Program} {l : Launch} {e : Env} {R : Room} {s : State} {m : MethodId} {args : Array Value} {below : List Frame} {meth : Method} {c : Code} {H : Heap} {locs : List Loc} {k z : Nat} {Qw : State → Prop}
theorem am_after {D : va_G} {cA : FieldType → ClassId} {S : Nat → Nat} {H0 : Heap} {Q : am_Q} {pc ymc yms : Nat} {lsA : Array Slot} {st0 rest : List Value} {as : Array Value} (hr : va_Run p l e R s m args below meth c H locs k z ymc yms (F0 m pc lsA st0) rest (am_Qc D cA S H0 Q as) (fun q => H0.size ≤ q)) (hS : va_S (fun q => H0.size ≤ q) s.heap H locs)
    (kk : ∀ (v : Option Value) (h' : am_H) (H1 : Heap) (locs1 : List Loc), Q v h' → am_R D am_cl cA S H0 h' H1 → va_S (fun q => H0.size ≤ q) s.heap H1 locs1 → W p l e R s m args below meth c H1 locs1 (k + ymc) (z + yms) Qw (F0 m (pc + 3) lsA ((v.map (am_cv S H0.size)).toList ++ rest))) : W p l e R s m args below meth c H locs k z Qw (F0 m pc lsA st0) := by
  intro T hT X
  obtain ⟨v, st₀, t, T', L, h0, X', hL, e1, e2, ⟨⟨v', h', hv, hq, hR', hE'⟩, hz, hk⟩, st⟩ := hr T hT X
  cases hv
  rw [h0] at hz hk
  obtain ⟨t2, a1, b1⟩ := kk v' h' T'.heap (locs ++ L) hq (by rw [e1]; exact hR') ⟨Nat.le_trans hS.1 (by rw [e1]; exact hz), fun q h1 h2 => by rw [e1, hk q (Nat.lt_of_lt_of_le h1 hS.1) h2]; exact hS.2.1 q h1 h2, fun q hq => by
      rcases List.mem_append.mp hq with h | h
      · exact hS.2.2 q h
      · exact hL q h⟩ T' rfl X'
  exact ⟨t2, st t2 a1, b1⟩
end
/-- a callee in the table: what its row must say -/
def am_Cy (y : am_Mt) (n : Nat) : Prop := Cond.code y.1 y.2.1 y.2.2.1 y.2.2.2.1 ∈ am_G ∧ Cond.initialized y.1.cls ∈ am_G ∧ (y.1.cls ≠ "java/lang/invoke/MethodHandle" ∧ y.1.cls ≠ "java/lang/invoke/VarHandle") ∧ (parseMethodDescriptor y.1.desc).map (fun d => d.parameters.length) = some n
theorem am_Cy.len {y : am_Mt} {n : Nat} (h : am_Cy y n) : ∀ sig, parseMethodDescriptor y.1.desc = some sig → n = sig.parameters.length := fun sig hs => by
  have h2 := h.2.2.2
  rw [hs] at h2
  exact (Option.some.inj h2).symm
section
variable {mt : Nat → am_Mt} {own nm : String} {cc : ByteArray} {nL mc ms pc : Nat} {ret : Option FieldType}
theorem am_sd_inv {C : String} {T : u_T} {N ci index y n ymc yms : Nat} (hc : am_cl[ci]? = some (C, T, N)) (hy : am_Cy (mt y) n) (hmc : (mt y).2.2.2.2.1 = ymc) (hms : (mt y).2.2.2.2.2 = yms) (hlk : Cond.methodLink own index (mt y).1 ∈ am_G) (hi : Cond.instanceMethod (mt y).1 ∈ am_G) (hse : Cond.selects C (mt y).1 (mt y).1 ∈ am_G) (hdg : decode cc pc = .ok (.invokevirtual index, 3)) : am_Sd mt own nm cc nL mc ms ret pc (am_inv y n ci ymc yms mc ms) := by
  intro p l e R s m args below meth c D cA S H0 Qw K Q X Cx Ks Rs hX ls st h k z hT H locs lsA hR hS hl hk hz
  obtain ⟨hx, hb, hml, hown, hG, hE, hnm, hH0, hfr, hlo, hRc, hRs⟩ := Cx
  obtain ⟨hn, hre, h1, h2, hrc, hT⟩ := hT
  subst hmc; subst hms
  obtain ⟨rm, hM, r1, r2, r3, r4⟩ := Ks _ _ _ _ hT
  split at hrc
  · next a hst =>
    split at hrc
    · next d fs heq =>
      subst hrc
      rw [am_stk (am_cv S H0.size) hst]
      rw [am_take_rev hst] at hM
      refine am_after (va_runV (C := C) (As := ((st.take n).reverse).map (am_cv S H0.size)) (rest := (st.drop (n + 1)).map (am_cv S H0.size)) (n := n) (b := H0.size + a) ⟨hx, hb, hml, hown, hG⟩ hM ⟨⟨r1, r2, r3, r4, pay_in hG (am_good hy.1), List.mem_cons_self, hG _ hy.1, hG _ hy.2.1, hy.2.2.1, hy.len, hG _ hlk⟩, hG _ hi, hG _ hse⟩ ⟨am_blind, va_recv hE.1 hR.2.2 hc (am_conc_some heq), fun U hU hW => ⟨rfl, by rw [hU]; exact hR, hE.warm hW⟩⟩ rfl (by simp; omega) hl.1 rfl (lv_room (am_rest_cv hre)) hdg ⟨by rw [hRc]; exact h1, by rw [hRs]; exact h2⟩) hS (fun v h' H1 locs1 hq hR1 hS1 => ?_)
      have g := hX _ _ _ _ _ _ hq H1 locs1 lsA hR1 hS1 hl (by rw [hRc]; exact h1) (by rw [hRs]; exact h2)
      rw [List.map_append] at g
      cases v <;> exact g
    · exact hrc.elim
  · exact hrc.elim
theorem am_sd_inN {C host : String} {T : u_T} {N ci index y n ymc yms : Nat} (hc : am_cl[ci]? = some (C, T, N)) (hy : am_Cy (mt y) n) (hmc : (mt y).2.2.2.2.1 = ymc) (hms : (mt y).2.2.2.2.2 = yms) (hlk : Cond.methodLinkNest own index (mt y).1 host ∈ tables_1) (hi : Cond.instanceMethod (mt y).1 ∈ am_G) (hse : Cond.selects C (mt y).1 (mt y).1 ∈ am_G) (hdg : decode cc pc = .ok (.invokevirtual index, 3)) : am_Sd mt own nm cc nL mc ms ret pc (am_inv y n ci ymc yms mc ms) := by
  intro p l e R s m args below meth c D cA S H0 Qw K Q X Cx Ks Rs hX ls st h k z hT H locs lsA hR hS hl hk hz
  obtain ⟨hx, hb, hml, hown, hG, hE, hnm, hH0, hfr, hlo, hRc, hRs⟩ := Cx
  obtain ⟨hn, hre, h1, h2, hrc, hT⟩ := hT
  subst hmc; subst hms
  obtain ⟨rm, hM, r1, r2, r3, r4⟩ := Ks _ _ _ _ hT
  split at hrc
  · next a hst =>
    split at hrc
    · next d fs heq =>
      subst hrc
      rw [am_stk (am_cv S H0.size) hst]
      rw [am_take_rev hst] at hM
      refine am_after (va_runVN (C := C) (As := ((st.take n).reverse).map (am_cv S H0.size)) (rest := (st.drop (n + 1)).map (am_cv S H0.size)) (n := n) (b := H0.size + a) ⟨hx, hb, hml, hown, hG⟩ hM ⟨⟨⟨r1, r2, r3, r4, pay_in hG (am_good hy.1), List.mem_cons_self⟩, hG _ hy.1, hG _ hy.2.1, hy.2.2.1, hy.len, va_Nw.use rfl (hE.2.1 _ hlk rfl)⟩, hG _ hi, hG _ hse⟩ ⟨am_blind, va_recv hE.1 hR.2.2 hc (am_conc_some heq), fun U hU hW => ⟨rfl, by rw [hU]; exact hR, hE.warm hW⟩⟩ rfl (by simp; omega) hl.1 rfl (lv_room (am_rest_cv hre)) hdg ⟨by rw [hRc]; exact h1, by rw [hRs]; exact h2⟩) hS (fun v h' H1 locs1 hq hR1 hS1 => ?_)
      have g := hX _ _ _ _ _ _ hq H1 locs1 lsA hR1 hS1 hl (by rw [hRc]; exact h1) (by rw [hRs]; exact h2)
      rw [List.map_append] at g
      cases v <;> exact g
    · exact hrc.elim
  · exact hrc.elim
theorem am_sd_ini {index y n ymc yms : Nat} (hy : am_Cy (mt y) n) (hret : (mt y).2.2.2.1 = none) (hnm1 : (mt y).1.name = "<init>") (hmc : (mt y).2.2.2.2.1 = ymc) (hms : (mt y).2.2.2.2.2 = yms) (hlk : Cond.methodLink own index (mt y).1 ∈ am_G) (hi : Cond.instanceMethod (mt y).1 ∈ am_G) (hdg : decode cc pc = .ok (.invokespecial index, 3)) : am_Sd mt own nm cc nL mc ms ret pc (am_inm y n ymc yms mc ms) := by
  intro p l e R s m args below meth c D cA S H0 Qw K Q X Cx Ks Rs hX ls st h k z hT H locs lsA hR hS hl hk hz
  obtain ⟨hx, hb, hml, hown, hG, hE, hnm, hH0, hfr, hlo, hRc, hRs⟩ := Cx
  obtain ⟨hn, hre, h1, h2, hrc, hT⟩ := hT
  subst hmc; subst hms
  obtain ⟨rm, hM, r1, r2, r3, r4⟩ := Ks _ _ _ _ hT
  split at hrc
  · next a hst =>
    rw [am_stk (am_cv S H0.size) hst]
    rw [am_take_rev hst] at hM
    have hcode := hG _ hy.1
    have hcm : Cond.code (mt y).1 (mt y).2.1 (mt y).2.2.1 (mt y).2.2.2.1 ∈ am_ws (mt y) := List.mem_cons_self
    rw [hret] at hcode hcm
    refine am_after (va_runI (As := ((st.take n).reverse).map (am_cv S H0.size)) (rest := (st.drop (n + 1)).map (am_cv S H0.size)) (n := n) (b := H0.size + a) ⟨hx, hb, hml, hown, hG⟩ hM ⟨⟨r1, r2, r3, r4, pay_in hG (am_good hy.1), hcm, hcode, hG _ hy.2.1, hy.2.2.1, hy.len, hG _ hlk⟩, hnm1, hG _ hi⟩ ⟨am_blind, fun U hU hW => ⟨rfl, by rw [hU]; exact hR, hE.warm hW⟩⟩ rfl (by simp; omega) hl.1 rfl (lv_room (am_rest_cv hre)) hdg ⟨by rw [hRc]; exact h1, by rw [hRs]; exact h2⟩) hS (fun v h' H1 locs1 hq hR1 hS1 => ?_)
    have g := hX _ _ _ _ _ _ hq H1 locs1 lsA hR1 hS1 hl (by rw [hRc]; exact h1) (by rw [hRs]; exact h2)
    rw [List.map_append] at g
    cases v <;> exact g
  · exact hrc.elim
theorem am_sd_inI {host : String} {index y n ymc yms : Nat} (hy : am_Cy (mt y) n) (hret : (mt y).2.2.2.1 = none) (hnm1 : (mt y).1.name = "<init>") (hmc : (mt y).2.2.2.2.1 = ymc) (hms : (mt y).2.2.2.2.2 = yms) (hlk : Cond.methodLinkNest own index (mt y).1 host ∈ tables_1) (hi : Cond.instanceMethod (mt y).1 ∈ am_G) (hdg : decode cc pc = .ok (.invokespecial index, 3)) : am_Sd mt own nm cc nL mc ms ret pc (am_inm y n ymc yms mc ms) := by
  intro p l e R s m args below meth c D cA S H0 Qw K Q X Cx Ks Rs hX ls st h k z hT H locs lsA hR hS hl hk hz
  obtain ⟨hx, hb, hml, hown, hG, hE, hnm, hH0, hfr, hlo, hRc, hRs⟩ := Cx
  obtain ⟨hn, hre, h1, h2, hrc, hT⟩ := hT
  subst hmc; subst hms
  obtain ⟨rm, hM, r1, r2, r3, r4⟩ := Ks _ _ _ _ hT
  split at hrc
  · next a hst =>
    rw [am_stk (am_cv S H0.size) hst]
    rw [am_take_rev hst] at hM
    have hcode := hG _ hy.1
    have hcm : Cond.code (mt y).1 (mt y).2.1 (mt y).2.2.1 (mt y).2.2.2.1 ∈ am_ws (mt y) := List.mem_cons_self
    rw [hret] at hcode hcm
    refine am_after (va_runIN (As := ((st.take n).reverse).map (am_cv S H0.size)) (rest := (st.drop (n + 1)).map (am_cv S H0.size)) (n := n) (b := H0.size + a) ⟨hx, hb, hml, hown, hG⟩ hM ⟨⟨⟨r1, r2, r3, r4, pay_in hG (am_good hy.1), hcm⟩, hcode, hG _ hy.2.1, hy.2.2.1, hy.len, va_Nw.use rfl (hE.2.1 _ hlk rfl)⟩, hnm1, hG _ hi⟩ ⟨am_blind, fun U hU hW => ⟨rfl, by rw [hU]; exact hR, hE.warm hW⟩⟩ rfl (by simp; omega) hl.1 rfl (lv_room (am_rest_cv hre)) hdg ⟨by rw [hRc]; exact h1, by rw [hRs]; exact h2⟩) hS (fun v h' H1 locs1 hq hR1 hS1 => ?_)
    have g := hX _ _ _ _ _ _ hq H1 locs1 lsA hR1 hS1 hl (by rw [hRc]; exact h1) (by rw [hRs]; exact h2)
    rw [List.map_append] at g
    cases v <;> exact g
  · exact hrc.elim
theorem am_sd_ins {index y n ymc yms : Nat} (hy : am_Cy (mt y) n) (hmc : (mt y).2.2.2.2.1 = ymc) (hms : (mt y).2.2.2.2.2 = yms) (hlk : Cond.methodLink own index (mt y).1 ∈ am_G) (hi : Cond.static (mt y).1 ∈ am_G) (hdg : decode cc pc = .ok (.invokestatic index, 3)) : am_Sd mt own nm cc nL mc ms ret pc (am_ins y n ymc yms mc ms) := by
  intro p l e R s m args below meth c D cA S H0 Qw K Q X Cx Ks Rs hX ls st h k z hT H locs lsA hR hS hl hk hz
  obtain ⟨hx, hb, hml, hown, hG, hE, hnm, hH0, hfr, hlo, hRc, hRs⟩ := Cx
  obtain ⟨hn, hre, h1, h2, hT⟩ := hT
  subst hmc; subst hms
  obtain ⟨rm, hM, r1, r2, r3, r4⟩ := Ks _ _ _ _ hT
  rw [am_stkS n (am_cv S H0.size)]
  refine am_after (va_runS (As := ((st.take n).reverse).map (am_cv S H0.size)) (rest := (st.drop n).map (am_cv S H0.size)) (n := n) ⟨hx, hb, hml, hown, hG⟩ hM ⟨⟨r1, r2, r3, r4, pay_in hG (am_good hy.1), List.mem_cons_self, hG _ hy.1, hG _ hy.2.1, hy.2.2.1, hy.len, hG _ hlk⟩, hG _ hi⟩ ⟨am_blind, fun U hU hW => ⟨rfl, by rw [hU]; exact hR, hE.warm hW⟩⟩ rfl (by simp; omega) hl.1 rfl (lv_room (am_rest_cv hre)) hdg ⟨by rw [hRc]; exact h1, by rw [hRs]; exact h2⟩) hS (fun v h' H1 locs1 hq hR1 hS1 => ?_)
  have g := hX _ _ _ _ _ _ hq H1 locs1 lsA hR1 hS1 hl (by rw [hRc]; exact h1) (by rw [hRs]; exact h2)
  rw [List.map_append] at g
  cases v <;> exact g
theorem am_sd_inS {host : String} {index y n ymc yms : Nat} (hy : am_Cy (mt y) n) (hmc : (mt y).2.2.2.2.1 = ymc) (hms : (mt y).2.2.2.2.2 = yms) (hlk : Cond.methodLinkNest own index (mt y).1 host ∈ tables_1) (hi : Cond.static (mt y).1 ∈ am_G) (hdg : decode cc pc = .ok (.invokestatic index, 3)) : am_Sd mt own nm cc nL mc ms ret pc (am_ins y n ymc yms mc ms) := by
  intro p l e R s m args below meth c D cA S H0 Qw K Q X Cx Ks Rs hX ls st h k z hT H locs lsA hR hS hl hk hz
  obtain ⟨hx, hb, hml, hown, hG, hE, hnm, hH0, hfr, hlo, hRc, hRs⟩ := Cx
  obtain ⟨hn, hre, h1, h2, hT⟩ := hT
  subst hmc; subst hms
  obtain ⟨rm, hM, r1, r2, r3, r4⟩ := Ks _ _ _ _ hT
  rw [am_stkS n (am_cv S H0.size)]
  refine am_after (va_runSN (As := ((st.take n).reverse).map (am_cv S H0.size)) (rest := (st.drop n).map (am_cv S H0.size)) (n := n) ⟨hx, hb, hml, hown, hG⟩ hM ⟨⟨⟨r1, r2, r3, r4, pay_in hG (am_good hy.1), List.mem_cons_self⟩, hG _ hy.1, hG _ hy.2.1, hy.2.2.1, hy.len, va_Nw.use rfl (hE.2.1 _ hlk rfl)⟩, hG _ hi, trivial⟩ ⟨am_blind, fun U hU hW => ⟨rfl, by rw [hU]; exact hR, hE.warm hW⟩⟩ rfl (by simp; omega) hl.1 rfl (lv_room (am_rest_cv hre)) hdg ⟨by rw [hRc]; exact h1, by rw [hRs]; exact h2⟩) hS (fun v h' H1 locs1 hq hR1 hS1 => ?_)
  have g := hX _ _ _ _ _ _ hq H1 locs1 lsA hR1 hS1 hl (by rw [hRc]; exact h1) (by rw [hRs]; exact h2)
  rw [List.map_append] at g
  cases v <;> exact g
end
end
section
section
variable {mt : Nat → am_Mt} {own nm : String} {cc : ByteArray} {nL mc ms pc : Nat} {ret : Option FieldType}
theorem am_sd_new {C : String} {T : u_T} {ty0 : Nat → FieldType} {N ci index : Nat} {fs : List Value} (hc : am_cl[ci]? = some (C, T, N)) (hin : ∀ w ∈ u_ws C T N, w ∈ am_G) (hty : ∀ k, k < N → parseFieldDescriptor (T k).2.2.1 = some (ty0 k)) (hfs : ∀ j, j < N → defaultValue (ty0 j) = vp_V fs j) (hid : ∀ (S : Nat → Nat) (B : Nat), fs.map (am_cv S B) = fs) (hlk : Cond.classLink own index C ∈ am_G) (hins : Cond.instantiable C N ∈ am_G) (hini : Cond.initialized C ∈ am_G) (hdg : decode cc pc = .ok (.new index, 3)) : am_Sd mt own nm cc nL mc ms ret pc (am_new ci N fs mc ms) := by
  intro p l e R s m args below meth c D cA S H0 Qw K Q X Cx Ks Rs hX ls st h k z hT H locs lsA hR hS hl hk hz
  obtain ⟨hx, hb, hml, hown, hG, hE, hnm, hH0, hfr, hlo, hRc, hRs⟩ := Cx
  obtain ⟨h1, h2, hT⟩ := hT
  have hKn := hE.1.1 ci _ hc
  refine W.newcK hx hb hown (hG _ hlk) (hG _ hins) (hG _ hini) rfl hdg (by rw [hRc]; exact h1) (by rw [hRs]; exact h2) hKn.2.1 hR.1 fun H1 kC hkC e1 z1 o1 => ?_
  refine hX _ _ _ _ _ _ hT H1 locs lsA (hR.push ?_ (by rw [z1, hR.1]) (fun q hq => o1 q (by rw [← hR.1]; exact hq))) (am_S_push (n := 1) hS (by rw [z1, hR.1]) (fun q hq => o1 q (by rw [← hR.1]; exact hq))) hl (by rw [hRc]; exact h1) (by rw [hRs]; exact h2)
  refine ⟨_, hc, (u_born ty0 hG hin hKn hkC e1 hty).to (fun j hj => ?_)⟩
  rw [hfs j hj, hid]
theorem am_push_arr {D : va_G} {cA : FieldType → ClassId} {S : Nat → Nat} {H0 H1 : Heap} {h : am_H} {ty : FieldType} {N : Nat} {f : Nat → Int32} {a : ClassId} (ea : a = cA ty) (e1 : H1[H0.size + h.length]? = some (arrV a N (fun j => .int (f j)))) : va_at D am_cl (H0.size + h.length, am_cc cA S H0.size (.inl (ty, N, .inl f))) H1 := by
  subst ea
  exact e1
theorem am_sd_newI (ha : Cond.arrayClass .int ∈ am_G) (hdg : decode cc pc = .ok (.newarray .int, 2)) : am_Sd mt own nm cc nL mc ms ret pc (am_newi .int mc ms) := by
  intro p l e R s m args below meth c D cA S H0 Qw K Q X Cx Ks Rs hX ls st h k z hT H locs lsA hR hS hl hk hz
  obtain ⟨hx, hb, hml, hown, hG, hE, hnm, hH0, hfr, hlo, hRc, hRs⟩ := Cx
  unfold am_newi at hT
  split at hT
  · next n r =>
    obtain ⟨h0, h3, h1, h2, hT⟩ := hT
    refine va_newaK (atype := .int) hx hb (hG _ ha) rfl hdg rfl h0 rfl (by show _ * 4 ≤ _; omega) (by rw [hRc]; exact h1) (by rw [hRs]; exact h2) hR.1 fun H1 a e1 z1 o1 hAr hNm => ?_
    have ea : a = cA .int := Option.some.inj (hNm.symm.trans (hE.1.2 0 (cA .int, .int) rfl).2)
    exact hX _ _ _ _ _ _ hT H1 locs lsA (hR.push (am_push_arr ea e1) (by rw [z1, hR.1]) (fun q hq => o1 q (by rw [← hR.1]; exact hq))) (am_S_push (n := 1) hS (by rw [z1, hR.1]) (fun q hq => o1 q (by rw [← hR.1]; exact hq))) hl (by rw [hRc]; exact h1) (by rw [hRs]; exact h2)
  · exact hT.elim
theorem am_sd_newC (ha : Cond.arrayClass .char ∈ am_G) (hdg : decode cc pc = .ok (.newarray .char, 2)) : am_Sd mt own nm cc nL mc ms ret pc (am_newi .char mc ms) := by
  intro p l e R s m args below meth c D cA S H0 Qw K Q X Cx Ks Rs hX ls st h k z hT H locs lsA hR hS hl hk hz
  obtain ⟨hx, hb, hml, hown, hG, hE, hnm, hH0, hfr, hlo, hRc, hRs⟩ := Cx
  unfold am_newi at hT
  split at hT
  · next n r =>
    obtain ⟨h0, h3, h1, h2, hT⟩ := hT
    refine va_newaK (atype := .char) hx hb (hG _ ha) rfl hdg rfl h0 rfl (by show _ * 2 ≤ _; omega) (by rw [hRc]; exact h1) (by rw [hRs]; exact h2) hR.1 fun H1 a e1 z1 o1 hAr hNm => ?_
    have ea : a = cA .char := Option.some.inj (hNm.symm.trans (hE.1.2 2 (cA .char, .char) rfl).2)
    exact hX _ _ _ _ _ _ hT H1 locs lsA (hR.push (am_push_arr ea e1) (by rw [z1, hR.1]) (fun q hq => o1 q (by rw [← hR.1]; exact hq))) (am_S_push (n := 1) hS (by rw [z1, hR.1]) (fun q hq => o1 q (by rw [← hR.1]; exact hq))) hl (by rw [hRc]; exact h1) (by rw [hRs]; exact h2)
  · exact hT.elim
theorem am_sd_newL (ha : Cond.arrayClass .long ∈ am_G) (hdg : decode cc pc = .ok (.newarray .long, 2)) : am_Sd mt own nm cc nL mc ms ret pc (am_newl mc ms) := by
  intro p l e R s m args below meth c D cA S H0 Qw K Q X Cx Ks Rs hX ls st h k z hT H locs lsA hR hS hl hk hz
  obtain ⟨hx, hb, hml, hown, hG, hE, hnm, hH0, hfr, hlo, hRc, hRs⟩ := Cx
  unfold am_newl at hT
  split at hT
  · next n r =>
    obtain ⟨h0, h3, h1, h2, hT⟩ := hT
    refine va_newaK (atype := .long) hx hb (hG _ ha) rfl hdg rfl h0 rfl (by show _ * 8 ≤ _; omega) (by rw [hRc]; exact h1) (by rw [hRs]; exact h2) hR.1 fun H1 a e1 z1 o1 hAr hNm => ?_
    have ea : a = cA .long := Option.some.inj (hNm.symm.trans (hE.1.2 1 (cA .long, .long) rfl).2)
    subst ea
    exact hX _ _ _ _ _ _ hT H1 locs lsA (hR.push e1 (by rw [z1, hR.1]) (fun q hq => o1 q (by rw [← hR.1]; exact hq))) (am_S_push (n := 1) hS (by rw [z1, hR.1]) (fun q hq => o1 q (by rw [← hR.1]; exact hq))) hl (by rw [hRc]; exact h1) (by rw [hRs]; exact h2)
  · exact hT.elim
theorem am_sd_newR {index : Nat} (hlk : Cond.classLink own index "SpeciesRounds$Rule" ∈ am_G) (hdg : decode cc pc = .ok (.anewarray index, 3)) : am_Sd mt own nm cc nL mc ms ret pc (am_newr "SpeciesRounds$Rule" mc ms) := by
  intro p l e R s m args below meth c D cA S H0 Qw K Q X Cx Ks Rs hX ls st h k z hT H locs lsA hR hS hl hk hz
  obtain ⟨hx, hb, hml, hown, hG, hE, hnm, hH0, hfr, hlo, hRc, hRs⟩ := Cx
  unfold am_newr at hT
  split at hT
  · next n r =>
    obtain ⟨h0, h3, h1, h2, hT⟩ := hT
    refine W.anew hx hb hown (hG _ hlk) (va_AO.use hE.2.2.1) rfl hdg rfl h0 (by omega) (by rw [hRc]; exact h1) (by rw [hRs]; exact h2) fun a kA comp g1 g2 g3 g4 => ?_
    obtain ⟨kA', comp', f1, f2, f3, f4⟩ := (hE.1.2 4 (cA (.object "SpeciesRounds$Rule"), .object "SpeciesRounds$Rule") rfl).2
    have ea : a = cA (.object "SpeciesRounds$Rule") := Option.some.inj (g1.symm.trans f4)
    subst ea
    rw [hR.1]
    refine hX _ _ _ _ _ _ hT _ locs lsA (hR.push ?_ (by simp) (fun q hq => by rw [Array.getElem?_push, if_neg (Nat.ne_of_lt hq)])) (am_S_push (n := 1) hS (by simp) (fun q hq => by rw [Array.getElem?_push, if_neg (Nat.ne_of_lt hq)])) hl (by rw [hRc]; exact h1) (by rw [hRs]; exact h2)
    show _ = some (vp_cell _ _)
    rw [← hR.1]
    show _ = some (arrV (cA (.object "SpeciesRounds$Rule")) n.toNatClampNeg (fun _ => Value.null))
    rw [← arrV_new]
    simp
  · exact hT.elim
theorem am_sd_obj {index : Nat} (hlk : Cond.methodLink own index Lib.objectInit ∈ am_G) (hi : Cond.instanceMethod Lib.objectInit ∈ am_G) (hco : Cond.code Lib.objectInit ⟨#[0xb1]⟩ 1 none ∈ am_G) (hdg : decode cc pc = .ok (.invokespecial index, 3)) : am_Sd mt own nm cc nL mc ms ret pc am_obj := by
  intro p l e R s m args below meth c D cA S H0 Qw K Q X Cx Ks Rs hX ls st h k z hT H locs lsA hR hS hl hk hz
  obtain ⟨hx, hb, hml, hown, hG, hE, hnm, hH0, hfr, hlo, hRc, hRs⟩ := Cx
  unfold am_obj at hT
  split at hT
  · next a r =>
    have h8 := am_rest_cv (S := S) (B := H0.size) hT.1
    exact W.objInit hx hb hown (hG _ hlk) (hG _ hi) (hG _ hco) rfl (by rw [hml]; exact hl.1) rfl hdg hfr (by show 2 * 0 + _ + 12 ≤ _; omega) (hX _ _ _ _ _ _ hT.2 H locs lsA hR hS hl hk hz)
  · exact hT.elim
theorem am_sd_max {index : Nat} (hlk : Cond.methodLink own index Lib.Math.max.name ∈ am_G) (hst : Cond.static Lib.Math.max.name ∈ am_G) (hini : Cond.initialized "java/lang/Math" ∈ am_G) (hco : Cond.code Lib.Math.max.name Lib.Math.max.code 2 (some .int) ∈ am_G) (hdg : decode cc pc = .ok (.invokestatic index, 3)) : am_Sd mt own nm cc nL mc ms ret pc am_max := by
  intro p l e R s m args below meth c D cA S H0 Qw K Q X Cx Ks Rs hX ls st h k z hT H locs lsA hR hS hl hk hz
  obtain ⟨hx, hb, hml, hown, hG, hE, hnm, hH0, hfr, hlo, hRc, hRs⟩ := Cx
  unfold am_max at hT
  split at hT
  · next y x r =>
    have h8 := am_rest_cv (S := S) (B := H0.size) hT.1
    exact va_mmax hx hb (hml.trans hl.1.symm) hown (hG _ hlk) (hG _ hst) (hG _ hini) (hG _ hco) hfr (by omega) hk hz hdg (hX _ _ _ _ _ _ hT.2 H locs lsA hR hS hl hk hz)
  · exact hT.elim
theorem am_sd_min {index : Nat} (hlk : Cond.methodLink own index Lib.Math.min.name ∈ am_G) (hst : Cond.static Lib.Math.min.name ∈ am_G) (hini : Cond.initialized "java/lang/Math" ∈ am_G) (hco : Cond.code Lib.Math.min.name Lib.Math.min.code 2 (some .int) ∈ am_G) (hdg : decode cc pc = .ok (.invokestatic index, 3)) : am_Sd mt own nm cc nL mc ms ret pc am_min := by
  intro p l e R s m args below meth c D cA S H0 Qw K Q X Cx Ks Rs hX ls st h k z hT H locs lsA hR hS hl hk hz
  obtain ⟨hx, hb, hml, hown, hG, hE, hnm, hH0, hfr, hlo, hRc, hRs⟩ := Cx
  unfold am_min at hT
  split at hT
  · next y x r =>
    have h8 := am_rest_cv (S := S) (B := H0.size) hT.1
    exact va_mmin hx hb (hml.trans hl.1.symm) hown (hG _ hlk) (hG _ hst) (hG _ hini) (hG _ hco) hfr (by omega) hk hz hdg (hX _ _ _ _ _ _ hT.2 H locs lsA hR hS hl hk hz)
  · exact hT.elim
theorem am_sd_no : am_Sd mt own nm cc nL mc ms ret pc am_no := by
  intro p l e R s m args below meth c D cA S H0 Qw K Q X Cx Ks Rs hX ls st h k z hT
  exact hT.elim
end
section
variable {mt : Nat → am_Mt} {own nm : String} {cc : ByteArray} {nL mc ms pc : Nat} {ret : Option FieldType}
theorem am_sd_fetch {l : List (Nat × am_T)} (h : ∀ q ∈ l, am_Sd mt own nm cc nL mc ms ret q.1 q.2) (pc : Nat) : am_Sd mt own nm cc nL mc ms ret pc (am_fetch l pc) := by
  induction l with
  | nil => exact am_sd_no
  | cons q r ih =>
    unfold am_fetch
    split
    · next e => exact e ▸ h q List.mem_cons_self
    · exact ih (fun x hx => h x (List.mem_cons_of_mem _ hx))
theorem am_sd_copy {index : Nat} (hlk : Cond.methodLink own index arraycopyName ∈ am_G) (hnat : Cond.native arraycopyName ∈ am_G) (hst : Cond.static arraycopyName ∈ am_G) (hini : Cond.initialized "java/lang/System" ∈ am_G) (hdg : decode cc pc = .ok (.invokestatic index, 3)) : am_Sd mt own nm cc nL mc ms ret pc am_copy := by
  intro p l e R s m args below meth c D cA S H0 Qw K Q X Cx Ks Rs hX ls st h k z hT H locs lsA hR hS hl hk hz
  obtain ⟨hx, hb, hml, hown, hG, hE, hnm, hH0, hfr, hlo, hRc, hRs⟩ := Cx
  unfold am_copy at hT
  split at hT
  · next n dp a sp b r =>
    split at hT
    · next ty n1 g ty0 n0 f ea eb =>
      obtain ⟨rfl, rfl, hre, h1, h2, h3, h4, h5, hT⟩ := hT
      have h8 := am_rest_cv (S := S) (B := H0.size) hre
      have hc0 : H[H0.size + b]? = some (vp_cell (cA .int) (n0, .inl f)) := hR.2.2 b _ (am_conc_some eb)
      have hc1 : H[H0.size + a]? = some (vp_cell (cA .int) (n1, .inl g)) := hR.2.2 a _ (am_conc_some ea)
      have nn : ∀ z : Int32, ¬ z < 0 → z.toInt = (z.toNatClampNeg : Int) := by
        intro z hz
        have hz0 : (0 : Int) ≤ z.toInt := by
          have := Int32.not_lt.mp hz
          simpa using Int32.le_iff_toInt_le.mp this
        show z.toInt = ((z.toInt.toNat : Nat) : Int)
        omega
      intro T hTh X9
      obtain ⟨-, k0, hk0, cm0, hkk0⟩ := (hE.1.2 0 (cA .int, .int) rfl).1 n0 (fun j => .int (f j))
      have hrd : ∀ i, i < n.toNatClampNeg → (vp_cell (cA .int) (n0, .inl f)).slots.getD (sp.toNatClampNeg + i) .null = .int (f (sp.toNatClampNeg + i)) := fun i hi => by
        show (arrV (cA .int) n0 (fun j => .int (f j))).slots.getD _ _ = _
        rw [Array.getD_eq_getD_getElem?, arrV_read _ _ (by omega)]
        rfl
      obtain ⟨vm', X', step⟩ := X9.arraycopy hx hown (hG _ hlk) (hG _ hnat) (hG _ hst) (hG _ hini) (src := H0.size + b) (dst := H0.size + a) (cs := vp_cell (cA .int) (n0, .inl f)) (cd := vp_cell (cA .int) (n1, .inl g)) (srcPos := sp) (destPos := dp) (n := n) (by rw [hTh]; exact hc0) (by rw [hTh]; exact hc1)
        (fun _ h => by cases h) (fun _ h => by cases h) (fun h => by cases h) (fun h => by cases h) hk0 hk0 hkk0 hkk0 (by simp [refKind]) h1 h2 h3
        (by rw [nn sp h1, nn n h3]; show ¬ _ > ((arrV (cA .int) n0 (fun j => .int (f j))).slots.size : Int); rw [arrV_size]; omega)
        (by rw [nn dp h2, nn n h3]; show ¬ _ > ((arrV (cA .int) n1 (fun j => .int (g j))).slots.size : Int); rw [arrV_size]; omega)
        (fun vm₁ _ i hi => ⟨by rw [hrd i hi]; rfl, by rw [hrd i hi]; exact trivial⟩)
        (g := F0 m pc lsA (.int n :: .int dp :: .ref (H0.size + a) :: .int sp :: .ref (H0.size + b) :: r.map (am_cv S H0.size))) rfl (by rw [hml]; exact hl.1) (rest := r.map (am_cv S H0.size)) rfl (by rw [hb]; exact hdg) hfr (by show 2 * 0 + _ + (nativeFrameWords "java/lang/System" "arraycopy" 5 + 11) ≤ _; rw [show nativeFrameWords "java/lang/System" "arraycopy" 5 = 7 from by decide +kernel]; omega)
      have e1 : copied (vp_cell (cA .int) (n0, .inl f)) (vp_cell (cA .int) (n1, .inl g)) sp dp n = vp_cell (cA .int) (n1, .inl (va_cpy f g sp.toNatClampNeg dp.toNatClampNeg n.toNatClampNeg)) := va_copied (fun z => .int z) (cA .int) (cA .int) f g h4
      rw [e1] at X' step
      generalize va_cpy f g sp.toNatClampNeg dp.toNatClampNeg n.toNatClampNeg = f9 at X' step hT
      have hla : H0.size + a < H.size := (Array.getElem?_eq_some_iff.mp hc1).1
      have hheap : ((T.setVm vm').setCell (H0.size + a) (vp_cell (cA .int) (n1, .inl f9))).heap = H.setIfInBounds (H0.size + a) (vp_cell (cA .int) (n1, .inl f9)) := by rw [← hTh]; rfl
      have oq : ∀ q : Nat, q ≠ H0.size + a → (H.setIfInBounds (H0.size + a) (vp_cell (cA .int) (n1, .inl f9)))[q]? = H[q]? := fun q hq => by simp [Array.getElem?_setIfInBounds, Ne.symm hq]
      have hR' := hR.set (e' := .inl (.int, n1, .inl f9)) ea (show (H.setIfInBounds (H0.size + a) (vp_cell (cA .int) (n1, .inl f9)))[H0.size + a]? = some _ by simp [Array.getElem?_setIfInBounds, hla]; rfl) (by simp) oq
      obtain ⟨t, a1, b1⟩ := hX _ _ _ _ _ _ hT _ _ lsA hR' ⟨by simp; exact hS.1, fun q g1 g2 => by
          rw [oq q (fun e => g2 (by rw [e]; exact Nat.le_add_right _ _))]
          exact hS.2.1 q g1 g2, fun q hq => by
          rcases List.mem_append.mp hq with h | h
          · exact hS.2.2 q h
          · obtain ⟨z9, -, hz9⟩ := List.mem_map.mp h
            rw [← hz9]
            exact Nat.le_add_right _ _⟩ hl hk hz _ hheap X'
      exact ⟨t, step t a1, b1⟩
    · exact hT.elim
  · exact hT.elim
end
end
section
/-- calls by depth: method y of the first M, with its code -/
def am_Call (M : Nat) (mt : Nat → am_Mt) (cd : Nat → Nat → am_T) : Nat → am_K
  | 0 => fun _ _ _ _ => False
  | d + 1 => fun y As h Q => y < M ∧ (am_ent As).length ≤ (mt y).2.2.1 ∧ am_Go (am_Call M mt cd d) (cd y) Q 0 (am_ini (mt y).2.2.1 As) [] h 0 0
theorem am_Call_m {M : Nat} {mt : Nat → am_Mt} {cd : Nat → Nat → am_T} (hM : ∀ y pc, am_TM (cd y pc)) : ∀ d, am_KM (am_Call M mt cd d)
  | 0 => fun _ _ _ _ _ _ q => q.elim
  | d + 1 => fun y As h Q Q' hQ q => ⟨q.1, q.2.1, am_Go_mono (am_Call_m hM d) (hM y) hQ q.2.2⟩
def am_rm (y : am_Mt) (d : Nat) : Room := { frames := d + 1, cells := y.2.2.2.2.1, slots := y.2.2.2.2.2, locals := 60 * (d + 1) }
def am_Ok (mt : Nat → am_Mt) (cd : Nat → Nat → am_T) (y : Nat) : Prop := plainName (mt y).1.cls = true ∧ (mt y).2.2.1 ≤ 41 ∧ ∀ pc, am_Sd mt (mt y).1.cls (mt y).1.name (mt y).2.1 (mt y).2.2.1 (mt y).2.2.2.2.1 (mt y).2.2.2.2.2 (mt y).2.2.2.1 pc (cd y pc)
theorem am_lv_ini (S : Nat → Nat) (B n : Nat) (As : List Value) (h : (am_ent As).length ≤ n) : am_lv S B ((lg_sl (As.map (am_cv S B)) ++ List.replicate (n - (lg_sl (As.map (am_cv S B))).length) Slot.unset).toArray) n (am_ini n As) := by
  have he := am_ent_len S B As
  have hl := lv_entry (As.map (am_cv S B)) (n := n) (by rw [he]; exact h)
  refine ⟨hl.1, ?_, hl.2.1, fun i v hv => ?_⟩
  · unfold am_ini
    rw [List.length_append, List.length_replicate]
    omega
  · refine hl.2.2 (i, am_cv S B v) ?_
    unfold am_ini at hv
    by_cases hi : i < (am_ent As).length
    · rw [List.getElem?_append_left hi] at hv
      have := am_ent_args S B As 0 i v hv
      rwa [Nat.zero_add] at this
    · rw [List.getElem?_append_right (by omega)] at hv
      have := List.eq_of_mem_replicate (List.mem_of_getElem? hv)
      cases this
theorem am_sound {M : Nat} {mt : Nat → am_Mt} {cd : Nat → Nat → am_T} (hok : ∀ y, y < M → am_Ok mt cd y) (l : Launch) (D : va_G) (cA : FieldType → ClassId) (S : Nat → Nat) (H0 : Heap) : ∀ (d y : Nat) (As : List Value) (h : am_H) (Q : am_Q), am_Call M mt cd d y As h Q → Met l (mt y).1 (am_ws (mt y)) (am_rm (mt y) d) (am_Pc D cA S H0 As h) (am_Qc D cA S H0 Q) (mt y).2.2.2.2.1 (mt y).2.2.2.2.2 (fun q => H0.size ≤ q) := by
  intro d
  induction d with
  | zero => intro y As h Q hc; exact hc.elim
  | succ d ih =>
    intro y As h Q hc
    obtain ⟨hyM, hlen, g⟩ := hc
    obtain ⟨hpl, hL, hsd⟩ := hok y hyM
    refine Met.ofW (cc := (mt y).2.1) (maxL := (mt y).2.2.1) (ret := (mt y).2.2.2.1) hpl rfl ?_
    intro p e s m args below meth c s₁ B hml hv
    obtain ⟨rfl, hR, hE⟩ := hv
    have hx := B.exec
    have hb := B.bytes
    have hr := B.returns
    have hts := atoms_spec (ws := am_ws (mt y)) B.pre
    have hown : s.vm.findClass (mt y).1.cls = some m.cls := findClass_of_methodNamed B.named
    have hlocks := B.notSynchronized
    have hin : meth.name = (mt y).1.name := (name_of_methodNamed B.named B.method).1
    rw [lg_entry_eq]
    have hlv := am_lv_ini S H0.size (mt y).2.2.1 As hlen
    generalize (lg_sl (As.map (am_cv S H0.size)) ++ List.replicate ((mt y).2.2.1 - (lg_sl (As.map (am_cv S H0.size))).length) Slot.unset).toArray = lsA at hlv ⊢
    refine g (am_W p l e (am_rm (mt y) (d + 1)) s m _ below meth c (mt y).2.2.1 D cA S H0 (MQ below (am_Qc D cA S H0 Q) _ s (mt y).2.2.2.2.1 (mt y).2.2.2.2.2 (fun q => H0.size ≤ q))) (fun pc ls st h k z hT => ?_) s.heap [] lsA hR va_S.rf hlv (Nat.zero_le _) (Nat.zero_le _)
    refine hsd pc p l e _ s m _ below meth c D cA S H0 _ (am_Call M mt cd d) Q _ ⟨hx, hb, hml, hown, fun w hw => hts w (List.mem_cons_of_mem _ hw), hE, hin, ⟨by rw [hR.1]; exact Nat.le_add_right _ _, hR.2.1⟩, by show 1 ≤ d + 1 + 1; omega, by show 60 ≤ 60 * (d + 1 + 1); omega, rfl, rfl⟩ ?_ ?_ (fun _ _ _ _ _ _ q => q) ls st h k z hT
    · intro y' As' h' Q' hc'
      refine ⟨am_rm (mt y') d, ih y' As' h' Q' hc', rfl, rfl, Nat.le_refl _, ?_⟩
      have hy' : y' < M := by
        cases d with
        | zero => exact hc'.elim
        | succ d => exact hc'.1
      have := (hok y' hy').2.1
      show 8 + ((mt y').2.2.1 + 11) + 60 * (d + 1) ≤ 60 * (d + 1 + 1)
      omega
    · intro pc lsA h H locs k z hR hS hk hz
      refine ⟨fun ty x hret hn hq hdg => W.widen hk hz (W.zret hx hb (hr.trans hret) hn (fun t ht hW => ⟨⟨some (.int x), h, rfl, hq, by rw [ht]; exact hR, hE.warm hW⟩, hS.F ht⟩) hS.2.2 hdg hlocks), fun x hret hq hdg => W.widen hk hz (W.lret hx hb (hr.trans hret) (fun t ht hW => ⟨⟨some (.long x), h, rfl, hq, by rw [ht]; exact hR, hE.warm hW⟩, hS.F ht⟩) hS.2.2 hdg hlocks), fun hret hq hdg => W.widen hk hz (W.vret hx hb (hr.trans hret) (fun t ht hW => ⟨⟨none, h, rfl, hq, by rw [ht]; exact hR, hE.warm hW⟩, hS.F ht⟩) hS.2.2 hdg hlocks)⟩
end
