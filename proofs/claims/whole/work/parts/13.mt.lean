theorem am_sel {w : Cond} (i : Nat) (h : (k2_sels lw_privs)[i]? = some w) (hg : goodWord w = true) : w ∈ am_G := List.mem_filter.mpr ⟨List.mem_append_left _ (List.mem_of_getElem? h), hg⟩
def am_mtl : List am_Mt := [
  (⟨"SpeciesRounds", "<init>", "(I)V"⟩, prog_1_method_1_code, 3, none, 94, 3728),
  (⟨"SpeciesRounds", "key", "(C)Z"⟩, prog_1_method_2_code, 2, some .boolean, 0, 0),
  (⟨"SpeciesRounds", "back", "()Z"⟩, prog_1_method_3_code, 1, some .boolean, 0, 0),
  (⟨"SpeciesRounds", "enter", "()I"⟩, prog_1_method_4_code, 2, some .int, 0, 0),
  (⟨"SpeciesRounds", "species", "()I"⟩, prog_1_method_5_code, 1, some .int, 0, 0),
  (⟨"SpeciesRounds", "size", "(I)I"⟩, prog_1_method_6_code, 2, some .int, 0, 0),
  (⟨"SpeciesRounds", "atom", "(II)I"⟩, prog_1_method_7_code, 3, some .int, 0, 0),
  (⟨"SpeciesRounds", "bond", "(III)I"⟩, prog_1_method_8_code, 4, some .int, 0, 0),
  (⟨"SpeciesRounds", "rule", "(III)I"⟩, prog_1_method_9_code, 4, some .int, 0, 0),
  (⟨"SpeciesRounds", "change", "(IIIII)Z"⟩, prog_1_method_10_code, 6, some .boolean, 0, 0),
  (⟨"SpeciesRounds", "matches", "(III)I"⟩, prog_1_method_11_code, 4, some .int, 0, 0),
  (⟨"SpeciesRounds", "round", "()I"⟩, prog_1_method_12_code, 4, some .int, 0, 0),
  (⟨"SpeciesRounds", "reactions", "()I"⟩, prog_1_method_13_code, 1, some .int, 0, 0),
  (⟨"SpeciesRounds", "reaction", "(II)I"⟩, prog_1_method_14_code, 3, some .int, 0, 0),
  (⟨"SpeciesRounds", "hasSpecies", "(I)Z"⟩, prog_1_method_15_code, 2, some .boolean, 0, 0),
  (⟨"SpeciesRounds", "hasAtom", "(II)Z"⟩, prog_1_method_16_code, 3, some .boolean, 0, 0),
  (⟨"SpeciesRounds", "hasRule", "(I)Z"⟩, prog_1_method_17_code, 2, some .boolean, 0, 0),
  (⟨"SpeciesRounds", "isCode", "(I)Z"⟩, prog_1_method_18_code, 1, some .boolean, 0, 0),
  (⟨"SpeciesRounds", "isOrder", "(I)Z"⟩, prog_1_method_19_code, 1, some .boolean, 0, 0),
  (⟨"SpeciesRounds", "putDrawn", "(LSpeciesRounds$Graph;)I"⟩, prog_1_method_20_code, 3, some .int, 0, 0),
  (⟨"SpeciesRounds", "pourMixture", "(II)V"⟩, prog_1_method_21_code, 3, none, 0, 0),
  (⟨"SpeciesRounds", "takeMixture", "(II)Z"⟩, prog_1_method_22_code, 6, some .boolean, 0, 0),
  (⟨"SpeciesRounds", "takeMatch", "(LSpeciesRounds$Rule;III)Z"⟩, prog_1_method_23_code, 6, some .boolean, 0, 0),
  (⟨"SpeciesRounds", "putReaction", "(II)Z"⟩, prog_1_method_24_code, 5, some .boolean, 0, 0),
  (⟨"SpeciesRounds", "listDraft", "()V"⟩, prog_1_method_25_code, 4, none, 0, 0),
  (⟨"SpeciesRounds", "sortSpan", "([III)V"⟩, prog_1_method_26_code, 6, none, 0, 0),
  (⟨"SpeciesRoundsModel", "<init>", "(I)V"⟩, prog_14_method_1_code, 2, none, 23, 1423),
  (⟨"SpeciesRoundsModel", "key", "(C)Z"⟩, prog_14_method_2_code, 2, some .boolean, 0, 0),
  (⟨"SpeciesRoundsModel", "back", "()Z"⟩, prog_14_method_3_code, 1, some .boolean, 0, 0),
  (⟨"SpeciesRoundsModel", "codeOf", "(I)I"⟩, prog_14_method_4_code, 1, some .int, 0, 0),
  (⟨"SpeciesRoundsModel", "linkOf", "(I)I"⟩, prog_14_method_5_code, 1, some .int, 0, 0),
  (⟨"SpeciesRoundsModel", "next", "(III)I"⟩, prog_14_method_6_code, 3, some .int, 0, 0),
  (⟨"SpeciesRoundsModel", "fault", "()I"⟩, prog_14_method_7_code, 4, some .int, 0, 0),
  (⟨"SpeciesRoundsModel", "tie", "(III)V"⟩, prog_14_method_8_code, 4, none, 0, 0),
  (⟨"SpeciesRoundsModel", "read", "()Z"⟩, prog_14_method_9_code, 12, some .boolean, 0, 0),
  (⟨"SpeciesRoundsModel", "enter", "()I"⟩, prog_14_method_10_code, 6, some .int, 0, 0),
  (⟨"SpeciesRoundsModel", "load", "(I)I"⟩, prog_14_method_11_code, 4, some .int, 0, 0),
  (⟨"SpeciesRoundsModel", "numberOf", "(J)I"⟩, prog_14_method_12_code, 4, some .int, 0, 0),
  (⟨"SpeciesRoundsModel", "word", "()J"⟩, prog_14_method_13_code, 6, some .long, 0, 0),
  (⟨"SpeciesRoundsModel", "advance", "()Z"⟩, prog_14_method_14_code, 6, some .boolean, 0, 0),
  (⟨"SpeciesRoundsModel", "least", "()J"⟩, prog_14_method_15_code, 6, some .long, 0, 0),
  (⟨"SpeciesRoundsModel", "digit", "(JI)I"⟩, prog_14_method_16_code, 3, some .int, 0, 0),
  (⟨"SpeciesRoundsModel", "bondIn", "(JII)I"⟩, prog_14_method_17_code, 6, some .int, 0, 0),
  (⟨"SpeciesRoundsModel", "species", "()I"⟩, prog_14_method_18_code, 1, some .int, 0, 0),
  (⟨"SpeciesRoundsModel", "isSpecies", "(I)Z"⟩, prog_14_method_19_code, 2, some .boolean, 0, 0),
  (⟨"SpeciesRoundsModel", "size", "(I)I"⟩, prog_14_method_20_code, 2, some .int, 0, 0),
  (⟨"SpeciesRoundsModel", "isAtom", "(II)Z"⟩, prog_14_method_21_code, 3, some .boolean, 0, 0),
  (⟨"SpeciesRoundsModel", "atom", "(II)I"⟩, prog_14_method_22_code, 3, some .int, 0, 0),
  (⟨"SpeciesRoundsModel", "bond", "(III)I"⟩, prog_14_method_23_code, 4, some .int, 0, 0),
  (⟨"SpeciesRoundsModel", "rule", "(III)I"⟩, prog_14_method_24_code, 4, some .int, 0, 0),
  (⟨"SpeciesRoundsModel", "change", "(IIIII)Z"⟩, prog_14_method_25_code, 6, some .boolean, 0, 0),
  (⟨"SpeciesRoundsModel", "put", "(II)V"⟩, prog_14_method_26_code, 8, none, 0, 0),
  (⟨"SpeciesRoundsModel", "mix", "(II)V"⟩, prog_14_method_27_code, 4, none, 0, 0),
  (⟨"SpeciesRoundsModel", "isMatch", "(II)Z"⟩, prog_14_method_28_code, 8, some .boolean, 0, 0),
  (⟨"SpeciesRoundsModel", "choices", "(I)I"⟩, prog_14_method_29_code, 4, some .int, 0, 0),
  (⟨"SpeciesRoundsModel", "choose", "(I)V"⟩, prog_14_method_30_code, 4, none, 0, 0),
  (⟨"SpeciesRoundsModel", "matches", "(III)I"⟩, prog_14_method_31_code, 7, some .int, 0, 0),
  (⟨"SpeciesRoundsModel", "becomes", "(I)Z"⟩, prog_14_method_32_code, 5, some .boolean, 0, 0),
  (⟨"SpeciesRoundsModel", "parts", "()V"⟩, prog_14_method_33_code, 4, none, 0, 0),
  (⟨"SpeciesRoundsModel", "known", "(J)I"⟩, prog_14_method_34_code, 5, some .int, 0, 0),
  (⟨"SpeciesRoundsModel", "yields", "()Z"⟩, prog_14_method_35_code, 4, some .boolean, 0, 0),
  (⟨"SpeciesRoundsModel", "arrange", "(II)V"⟩, prog_14_method_36_code, 6, none, 0, 0),
  (⟨"SpeciesRoundsModel", "note", "(II)V"⟩, prog_14_method_37_code, 7, none, 0, 0),
  (⟨"SpeciesRoundsModel", "react", "(III)V"⟩, prog_14_method_38_code, 6, none, 0, 0),
  (⟨"SpeciesRoundsModel", "settle", "()V"⟩, prog_14_method_39_code, 3, none, 0, 0),
  (⟨"SpeciesRoundsModel", "isLess", "(II)Z"⟩, prog_14_method_40_code, 4, some .boolean, 0, 0),
  (⟨"SpeciesRoundsModel", "sortRows", "()V"⟩, prog_14_method_41_code, 4, none, 0, 0),
  (⟨"SpeciesRoundsModel", "round", "()I"⟩, prog_14_method_42_code, 4, some .int, 0, 0),
  (⟨"SpeciesRoundsModel", "reactions", "()I"⟩, prog_14_method_43_code, 1, some .int, 0, 0),
  (⟨"SpeciesRoundsModel", "reaction", "(II)I"⟩, prog_14_method_44_code, 3, some .int, 0, 0),
  (⟨"SpeciesRounds$Finder", "<init>", "()V"⟩, prog_2_method_1_code, 1, none, 2, 2163),
  (⟨"SpeciesRounds$Finder", "find", "(LSpeciesRounds$Rule;LSpeciesRounds$Mixture;)I"⟩, prog_2_method_2_code, 3, some .int, 0, 0),
  (⟨"SpeciesRounds$Finder", "recall", "(I)V"⟩, prog_2_method_3_code, 2, none, 0, 0),
  (⟨"SpeciesRounds$Finder", "choose", "(LSpeciesRounds$Rule;LSpeciesRounds$Mixture;I)V"⟩, prog_2_method_4_code, 5, none, 0, 0),
  (⟨"SpeciesRounds$Finder", "fits", "(LSpeciesRounds$Rule;LSpeciesRounds$Graph;II)Z"⟩, prog_2_method_5_code, 7, some .boolean, 0, 0),
  (⟨"SpeciesRounds$Finder", "keep", "()V"⟩, prog_2_method_6_code, 1, none, 0, 0),
  (⟨"SpeciesRounds$Graph", "<init>", "(I)V"⟩, prog_3_method_1_code, 3, none, 27, 648),
  (⟨"SpeciesRounds$Graph", "clear", "()V"⟩, prog_3_method_2_code, 1, none, 0, 0),
  (⟨"SpeciesRounds$Graph", "addAtom", "(I)I"⟩, prog_3_method_3_code, 4, some .int, 0, 0),
  (⟨"SpeciesRounds$Graph", "setOrder", "(III)V"⟩, prog_3_method_4_code, 4, none, 0, 0),
  (⟨"SpeciesRounds$Graph", "isOverloaded", "(I)Z"⟩, prog_3_method_5_code, 4, some .boolean, 0, 0),
  (⟨"SpeciesRounds$KeySearch", "<init>", "()V"⟩, prog_4_method_1_code, 1, none, 3, 15),
  (⟨"SpeciesRounds$KeySearch", "leastWord", "(LSpeciesRounds$Graph;[II)J"⟩, prog_4_method_2_code, 6, some .long, 0, 0),
  (⟨"SpeciesRounds$KeySearch", "sortByCode", "(LSpeciesRounds$Graph;[II)V"⟩, prog_4_method_3_code, 7, none, 0, 0),
  (⟨"SpeciesRounds$KeySearch", "placeAtom", "(LSpeciesRounds$Graph;IIII)V"⟩, prog_4_method_4_code, 10, none, 0, 0),
  (⟨"SpeciesRounds$KeySearch", "withOrdersOf", "(LSpeciesRounds$Graph;III)I"⟩, prog_4_method_5_code, 7, some .int, 0, 0),
  (⟨"SpeciesRounds$Line", "<init>", "()V"⟩, prog_5_method_1_code, 1, none, 1, 24),
  (⟨"SpeciesRounds$Line", "add", "(C)Z"⟩, prog_5_method_2_code, 2, some .boolean, 0, 0),
  (⟨"SpeciesRounds$Line", "dropLast", "()Z"⟩, prog_5_method_3_code, 1, some .boolean, 0, 0),
  (⟨"SpeciesRounds$Line", "clear", "()V"⟩, prog_5_method_4_code, 1, none, 0, 0),
  (⟨"SpeciesRounds$Mixture", "<init>", "()V"⟩, prog_6_method_1_code, 1, none, 28, 652),
  (⟨"SpeciesRounds$Mixture", "clear", "()V"⟩, prog_6_method_2_code, 1, none, 0, 0),
  (⟨"SpeciesRounds$Mixture", "addMolecule", "(J)V"⟩, prog_6_method_3_code, 7, none, 0, 0),
  (⟨"SpeciesRounds$Mixture", "isTouchedWhole", "([II)Z"⟩, prog_6_method_4_code, 6, some .boolean, 0, 0),
  (⟨"SpeciesRounds$Mixture", "rewrite", "([II[I)V"⟩, prog_6_method_5_code, 6, none, 0, 0),
  (⟨"SpeciesRounds$Products", "<init>", "()V"⟩, prog_7_method_1_code, 1, none, 2, 13),
  (⟨"SpeciesRounds$Products", "split", "(LSpeciesRounds$Graph;[IIILSpeciesRounds$KeySearch;)Z"⟩, prog_7_method_2_code, 8, some .boolean, 0, 0),
  (⟨"SpeciesRounds$Products", "gatherJoined", "(LSpeciesRounds$Graph;I)I"⟩, prog_7_method_3_code, 7, some .int, 0, 0),
  (⟨"SpeciesRounds$ReactionList", "<init>", "()V"⟩, prog_8_method_1_code, 1, none, 1, 40),
  (⟨"SpeciesRounds$ReactionList", "pack", "([I)I"⟩, prog_8_method_2_code, 3, some .int, 0, 0),
  (⟨"SpeciesRounds$ReactionList", "numberAt", "(II)I"⟩, prog_8_method_3_code, 3, some .int, 0, 0),
  (⟨"SpeciesRounds$ReactionList", "copyFrom", "(LSpeciesRounds$ReactionList;)V"⟩, prog_8_method_4_code, 2, none, 0, 0),
  (⟨"SpeciesRounds$ReactionList", "put", "(I)Z"⟩, prog_8_method_5_code, 3, some .boolean, 0, 0),
  (⟨"SpeciesRounds$ReactionList", "holds", "(I)Z"⟩, prog_8_method_6_code, 3, some .boolean, 0, 0),
  (⟨"SpeciesRounds$Reader", "<init>", "()V"⟩, prog_9_method_1_code, 1, none, 31, 680),
  (⟨"SpeciesRounds$Reader", "read", "(LSpeciesRounds$Line;)I"⟩, prog_9_method_2_code, 3, some .int, 0, 0),
  (⟨"SpeciesRounds$Reader", "hasOpenMark", "()Z"⟩, prog_9_method_3_code, 2, some .boolean, 0, 0),
  (⟨"SpeciesRounds$Reader", "begin", "()V"⟩, prog_9_method_4_code, 2, none, 0, 0),
  (⟨"SpeciesRounds$Reader", "stand", "(I)V"⟩, prog_9_method_5_code, 2, none, 0, 0),
  (⟨"SpeciesRounds$Reader", "take", "(C)Z"⟩, prog_9_method_6_code, 5, some .boolean, 0, 0),
  (⟨"SpeciesRounds$Reader", "takeLetter", "(I)Z"⟩, prog_9_method_7_code, 3, some .boolean, 0, 0),
  (⟨"SpeciesRounds$Reader", "takeLink", "(I)Z"⟩, prog_9_method_8_code, 2, some .boolean, 0, 0),
  (⟨"SpeciesRounds$Reader", "takeMark", "(I)Z"⟩, prog_9_method_9_code, 2, some .boolean, 0, 0),
  (⟨"SpeciesRounds$Reader", "openBranch", "()Z"⟩, prog_9_method_10_code, 1, some .boolean, 0, 0),
  (⟨"SpeciesRounds$Reader", "closeBranch", "()Z"⟩, prog_9_method_11_code, 1, some .boolean, 0, 0),
  (⟨"SpeciesRounds$Reader", "join", "(III)V"⟩, prog_9_method_12_code, 4, none, 0, 0),
  (⟨"SpeciesRounds$Rule", "<init>", "()V"⟩, prog_10_method_1_code, 1, none, 3, 9),
  (⟨"SpeciesRounds$Rule", "pairOf", "(II)I"⟩, prog_10_method_2_code, 2, some .int, 0, 0),
  (⟨"SpeciesRounds$Rule", "begin", "(III)V"⟩, prog_10_method_3_code, 4, none, 0, 0),
  (⟨"SpeciesRounds$Rule", "setOrders", "(IIII)V"⟩, prog_10_method_4_code, 5, none, 0, 0),
  (⟨"SpeciesRounds$Rule", "isIdle", "()Z"⟩, prog_10_method_5_code, 2, some .boolean, 0, 0),
  (⟨"SpeciesRounds$Table", "<init>", "()V"⟩, prog_11_method_1_code, 1, none, 2, 24),
  (⟨"SpeciesRounds$Table", "put", "(J)I"⟩, prog_11_method_2_code, 4, some .int, 0, 0),
  (⟨"SpeciesRounds$Table", "keepFirst", "(I)V"⟩, prog_11_method_3_code, 2, none, 0, 0),
  (⟨"SpeciesRounds$Table", "sortFrom", "(I)V"⟩, prog_11_method_4_code, 6, none, 0, 0),
  (⟨"SpeciesRounds$Table", "countLess", "(IJ)I"⟩, prog_11_method_5_code, 6, some .int, 0, 0),
  (⟨"SpeciesRounds$Word", "pairsUpTo", "(I)I"⟩, prog_12_method_2_code, 1, some .int, 0, 0),
  (⟨"SpeciesRounds$Word", "pack", "(III)J"⟩, prog_12_method_3_code, 3, some .long, 0, 0),
  (⟨"SpeciesRounds$Word", "atomsOf", "(J)I"⟩, prog_12_method_4_code, 2, some .int, 0, 0),
  (⟨"SpeciesRounds$Word", "codeOf", "(JI)I"⟩, prog_12_method_5_code, 4, some .int, 0, 0),
  (⟨"SpeciesRounds$Word", "orderOf", "(JII)I"⟩, prog_12_method_6_code, 6, some .int, 0, 0),
  (⟨"SpeciesRoundsLaw", "cell", "([II)I"⟩, method_2_code, 2, some .int, 0, 0)]
def am_mt (y : Nat) : am_Mt := am_mtl.getD y (⟨"", "", ""⟩, ByteArray.empty, 0, none, 0, 0)
theorem am_mapp {P : Nat × am_T → Prop} {a b : List (Nat × am_T)} (ha : ∀ q ∈ a, P q) (hb : ∀ q ∈ b, P q) : ∀ q ∈ a ++ b, P q := fun q h => (List.mem_append.mp h).elim (ha q) (hb q)
theorem am_g0 : _ ∈ am_G := am_G_of (am_tb (w := (Jvm.Cond.initialized "SpeciesRoundsLaw")) 0 (by decide +kernel)) (by decide +kernel)
theorem am_g1 : _ ∈ am_G := am_G_of (am_tb (w := (Jvm.Cond.initialized "SpeciesRounds")) 1 (by decide +kernel)) (by decide +kernel)
theorem am_g2 : _ ∈ am_G := am_G_of (am_tb (w := (Jvm.Cond.initialized "SpeciesRounds$Line")) 2 (by decide +kernel)) (by decide +kernel)
theorem am_g3 : _ ∈ am_G := am_G_of (am_tb (w := (Jvm.Cond.initialized "SpeciesRounds$Reader")) 3 (by decide +kernel)) (by decide +kernel)
theorem am_g4 : _ ∈ am_G := am_G_of (am_tb (w := (Jvm.Cond.initialized "SpeciesRounds$Graph")) 4 (by decide +kernel)) (by decide +kernel)
theorem am_g5 : _ ∈ am_G := am_G_of (am_tb (w := (Jvm.Cond.initialized "SpeciesRounds$KeySearch")) 5 (by decide +kernel)) (by decide +kernel)
theorem am_g6 : _ ∈ am_G := am_G_of (am_tb (w := (Jvm.Cond.initialized "SpeciesRounds$Table")) 6 (by decide +kernel)) (by decide +kernel)
theorem am_g7 : _ ∈ am_G := am_G_of (am_tb (w := (Jvm.Cond.initialized "SpeciesRounds$Mixture")) 7 (by decide +kernel)) (by decide +kernel)
theorem am_g8 : _ ∈ am_G := am_G_of (am_tb (w := (Jvm.Cond.initialized "SpeciesRounds$Finder")) 8 (by decide +kernel)) (by decide +kernel)
theorem am_g9 : _ ∈ am_G := am_G_of (am_tb (w := (Jvm.Cond.initialized "SpeciesRounds$Products")) 9 (by decide +kernel)) (by decide +kernel)
theorem am_g10 : _ ∈ am_G := am_G_of (am_tb (w := (Jvm.Cond.initialized "SpeciesRounds$ReactionList")) 10 (by decide +kernel)) (by decide +kernel)
theorem am_g11 : _ ∈ am_G := am_G_of (am_tb (w := (Jvm.Cond.initialized "java/lang/Math")) 11 (by decide +kernel)) (by decide +kernel)
theorem am_g12 : _ ∈ am_G := am_G_of (am_tb (w := (Jvm.Cond.initialized "SpeciesRounds$Rule")) 12 (by decide +kernel)) (by decide +kernel)
theorem am_g13 : _ ∈ am_G := am_G_of (am_tb (w := (Jvm.Cond.initialized "SpeciesRoundsModel")) 13 (by decide +kernel)) (by decide +kernel)
theorem am_g19 : _ ∈ am_G := am_G_of (am_tb (w := (Jvm.Cond.initialized "SpeciesRounds$Word")) 19 (by decide +kernel)) (by decide +kernel)
theorem am_g20 : _ ∈ am_G := am_G_of (am_tb (w := (Jvm.Cond.initialized "java/lang/System")) 20 (by decide +kernel)) (by decide +kernel)
theorem am_g25 : _ ∈ am_G := am_G_of (am_tb (w := (Jvm.Cond.code ({ cls := "SpeciesRounds", name := "<init>", desc := "(I)V" } : Jvm.MethodName) prog_1_method_1_code (3 : Nat) (Option.none : Option Jvm.ClassFile.FieldType))) 25 (by decide +kernel)) (by decide +kernel)
theorem am_g26 : _ ∈ am_G := am_G_of (am_tb (w := (Jvm.Cond.methodLink "SpeciesRounds" (1 : Nat) ({ cls := "java/lang/Object", name := "<init>", desc := "()V" } : Jvm.MethodName))) 26 (by decide +kernel)) (by decide +kernel)
theorem am_g27 : _ ∈ am_G := am_G_of (am_tb (w := (Jvm.Cond.instanceMethod ({ cls := "java/lang/Object", name := "<init>", desc := "()V" } : Jvm.MethodName))) 27 (by decide +kernel)) (by decide +kernel)
theorem am_g28 : _ ∈ am_G := am_G_of (am_tb (w := (Jvm.Cond.code ({ cls := "java/lang/Object", name := "<init>", desc := "()V" } : Jvm.MethodName) object_method_1_code (1 : Nat) (Option.none : Option Jvm.ClassFile.FieldType))) 28 (by decide +kernel)) (by decide +kernel)
theorem am_g29 : _ ∈ am_G := am_G_of (am_tb (w := (Jvm.Cond.classLink "SpeciesRounds" (7 : Nat) "SpeciesRounds$Line")) 29 (by decide +kernel)) (by decide +kernel)
theorem am_g32 : _ ∈ am_G := am_G_of (am_tb (w := (Jvm.Cond.instanceMethod ({ cls := "SpeciesRounds$Line", name := "<init>", desc := "()V" } : Jvm.MethodName))) 32 (by decide +kernel)) (by decide +kernel)
theorem am_g33 : _ ∈ am_G := am_G_of (am_tb (w := (Jvm.Cond.code ({ cls := "SpeciesRounds$Line", name := "<init>", desc := "()V" } : Jvm.MethodName) prog_5_method_1_code (1 : Nat) (Option.none : Option Jvm.ClassFile.FieldType))) 33 (by decide +kernel)) (by decide +kernel)
theorem am_g34 : _ ∈ am_G := am_G_of (am_tb (w := (Jvm.Cond.methodLink "SpeciesRounds$Line" (3 : Nat) ({ cls := "java/lang/Object", name := "<init>", desc := "()V" } : Jvm.MethodName))) 34 (by decide +kernel)) (by decide +kernel)
theorem am_g35 : _ ∈ am_G := am_G_of (am_tb (w := (Jvm.Cond.fieldLink "SpeciesRounds$Line" (9 : Nat) "SpeciesRounds$Line" "typed" "[C")) 35 (by decide +kernel)) (by decide +kernel)
theorem am_g38 : _ ∈ am_G := am_G_of (am_tb (w := (Jvm.Cond.fieldLink "SpeciesRounds$Line" (15 : Nat) "SpeciesRounds$Line" "length" "I")) 38 (by decide +kernel)) (by decide +kernel)
theorem am_g44 : _ ∈ am_G := am_G_of (am_tb (w := (Jvm.Cond.arrayClass Jvm.ClassFile.FieldType.char)) 44 (by decide +kernel)) (by decide +kernel)
theorem am_g45 : _ ∈ am_G := am_G_of (am_tb (w := (Jvm.Cond.classLink "SpeciesRounds" (16 : Nat) "SpeciesRounds$Reader")) 45 (by decide +kernel)) (by decide +kernel)
theorem am_g48 : _ ∈ am_G := am_G_of (am_tb (w := (Jvm.Cond.instanceMethod ({ cls := "SpeciesRounds$Reader", name := "<init>", desc := "()V" } : Jvm.MethodName))) 48 (by decide +kernel)) (by decide +kernel)
theorem am_g49 : _ ∈ am_G := am_G_of (am_tb (w := (Jvm.Cond.code ({ cls := "SpeciesRounds$Reader", name := "<init>", desc := "()V" } : Jvm.MethodName) prog_9_method_1_code (1 : Nat) (Option.none : Option Jvm.ClassFile.FieldType))) 49 (by decide +kernel)) (by decide +kernel)
theorem am_g50 : _ ∈ am_G := am_G_of (am_tb (w := (Jvm.Cond.methodLink "SpeciesRounds$Reader" (3 : Nat) ({ cls := "java/lang/Object", name := "<init>", desc := "()V" } : Jvm.MethodName))) 50 (by decide +kernel)) (by decide +kernel)
theorem am_g51 : _ ∈ am_G := am_G_of (am_tb (w := (Jvm.Cond.classLink "SpeciesRounds$Reader" (9 : Nat) "SpeciesRounds$Graph")) 51 (by decide +kernel)) (by decide +kernel)
theorem am_g53 : _ ∈ am_G := am_G_of (am_tb (w := (Jvm.Cond.methodLink "SpeciesRounds$Reader" (11 : Nat) ({ cls := "SpeciesRounds$Graph", name := "<init>", desc := "(I)V" } : Jvm.MethodName))) 53 (by decide +kernel)) (by decide +kernel)
theorem am_g54 : _ ∈ am_G := am_G_of (am_tb (w := (Jvm.Cond.instanceMethod ({ cls := "SpeciesRounds$Graph", name := "<init>", desc := "(I)V" } : Jvm.MethodName))) 54 (by decide +kernel)) (by decide +kernel)
theorem am_g55 : _ ∈ am_G := am_G_of (am_tb (w := (Jvm.Cond.code ({ cls := "SpeciesRounds$Graph", name := "<init>", desc := "(I)V" } : Jvm.MethodName) prog_3_method_1_code (3 : Nat) (Option.none : Option Jvm.ClassFile.FieldType))) 55 (by decide +kernel)) (by decide +kernel)
theorem am_g56 : _ ∈ am_G := am_G_of (am_tb (w := (Jvm.Cond.methodLink "SpeciesRounds$Graph" (3 : Nat) ({ cls := "java/lang/Object", name := "<init>", desc := "()V" } : Jvm.MethodName))) 56 (by decide +kernel)) (by decide +kernel)
theorem am_g57 : _ ∈ am_G := am_G_of (am_tb (w := (Jvm.Cond.classLink "SpeciesRounds$Graph" (15 : Nat) "[[I")) 57 (by decide +kernel)) (by decide +kernel)
theorem am_g59 : _ ∈ am_G := am_G_of (am_tb (w := (Jvm.Cond.fieldLink "SpeciesRounds$Graph" (9 : Nat) "SpeciesRounds$Graph" "codes" "[I")) 59 (by decide +kernel)) (by decide +kernel)
theorem am_g62 : _ ∈ am_G := am_G_of (am_tb (w := (Jvm.Cond.fieldLink "SpeciesRounds$Graph" (17 : Nat) "SpeciesRounds$Graph" "orders" "[[I")) 62 (by decide +kernel)) (by decide +kernel)
theorem am_g67 : _ ∈ am_G := am_G_of (am_tb (w := (Jvm.Cond.fieldLink "SpeciesRounds$Graph" (20 : Nat) "SpeciesRounds$Graph" "everyAtom" "[I")) 67 (by decide +kernel)) (by decide +kernel)
theorem am_g69 : _ ∈ am_G := am_G_of (am_tb (w := (Jvm.Cond.fieldLink "SpeciesRounds$Graph" (23 : Nat) "SpeciesRounds$Graph" "atoms" "I")) 69 (by decide +kernel)) (by decide +kernel)
theorem am_g83 : _ ∈ am_G := am_G_of (am_tb (w := (Jvm.Cond.arrayClass Jvm.ClassFile.FieldType.int)) 83 (by decide +kernel)) (by decide +kernel)
theorem am_g84 : _ ∈ am_G := am_G_of (am_tb (w := (Jvm.Cond.fieldLink "SpeciesRounds$Reader" (14 : Nat) "SpeciesRounds$Reader" "drawn" "LSpeciesRounds$Graph;")) 84 (by decide +kernel)) (by decide +kernel)
theorem am_g86 : _ ∈ am_G := am_G_of (am_tb (w := (Jvm.Cond.fieldLink "SpeciesRounds$Reader" (20 : Nat) "SpeciesRounds$Reader" "branchAtoms" "[I")) 86 (by decide +kernel)) (by decide +kernel)
theorem am_g87 : _ ∈ am_G := am_G_of (am_tb (w := (Jvm.Cond.fieldLink "SpeciesRounds$Reader" (24 : Nat) "SpeciesRounds$Reader" "markAtoms" "[I")) 87 (by decide +kernel)) (by decide +kernel)
theorem am_g88 : _ ∈ am_G := am_G_of (am_tb (w := (Jvm.Cond.fieldLink "SpeciesRounds$Reader" (27 : Nat) "SpeciesRounds$Reader" "markOrders" "[I")) 88 (by decide +kernel)) (by decide +kernel)
theorem am_g89 : _ ∈ am_G := am_G_of (am_tb (w := (Jvm.Cond.fieldLink "SpeciesRounds$Reader" (50 : Nat) "SpeciesRounds$Reader" "branches" "I")) 89 (by decide +kernel)) (by decide +kernel)
theorem am_g90 : _ ∈ am_G := am_G_of (am_tb (w := (Jvm.Cond.fieldLink "SpeciesRounds$Reader" (47 : Nat) "SpeciesRounds$Reader" "standing" "I")) 90 (by decide +kernel)) (by decide +kernel)
theorem am_g91 : _ ∈ am_G := am_G_of (am_tb (w := (Jvm.Cond.fieldLink "SpeciesRounds$Reader" (56 : Nat) "SpeciesRounds$Reader" "current" "I")) 91 (by decide +kernel)) (by decide +kernel)
theorem am_g92 : _ ∈ am_G := am_G_of (am_tb (w := (Jvm.Cond.fieldLink "SpeciesRounds$Reader" (66 : Nat) "SpeciesRounds$Reader" "linkOrder" "I")) 92 (by decide +kernel)) (by decide +kernel)
theorem am_g93 : _ ∈ am_G := am_G_of (am_tb (w := (Jvm.Cond.fieldLink "SpeciesRounds$Reader" (59 : Nat) "SpeciesRounds$Reader" "clash" "Z")) 93 (by decide +kernel)) (by decide +kernel)
theorem am_g114 : _ ∈ am_G := am_G_of (am_tb (w := (Jvm.Cond.classLink "SpeciesRounds" (23 : Nat) "SpeciesRounds$KeySearch")) 114 (by decide +kernel)) (by decide +kernel)
theorem am_g117 : _ ∈ am_G := am_G_of (am_tb (w := (Jvm.Cond.instanceMethod ({ cls := "SpeciesRounds$KeySearch", name := "<init>", desc := "()V" } : Jvm.MethodName))) 117 (by decide +kernel)) (by decide +kernel)
theorem am_g118 : _ ∈ am_G := am_G_of (am_tb (w := (Jvm.Cond.code ({ cls := "SpeciesRounds$KeySearch", name := "<init>", desc := "()V" } : Jvm.MethodName) prog_4_method_1_code (1 : Nat) (Option.none : Option Jvm.ClassFile.FieldType))) 118 (by decide +kernel)) (by decide +kernel)
theorem am_g119 : _ ∈ am_G := am_G_of (am_tb (w := (Jvm.Cond.methodLink "SpeciesRounds$KeySearch" (5 : Nat) ({ cls := "java/lang/Object", name := "<init>", desc := "()V" } : Jvm.MethodName))) 119 (by decide +kernel)) (by decide +kernel)
theorem am_g120 : _ ∈ am_G := am_G_of (am_tb (w := (Jvm.Cond.fieldLink "SpeciesRounds$KeySearch" (11 : Nat) "SpeciesRounds$KeySearch" "sorted" "[I")) 120 (by decide +kernel)) (by decide +kernel)
theorem am_g121 : _ ∈ am_G := am_G_of (am_tb (w := (Jvm.Cond.fieldLink "SpeciesRounds$KeySearch" (17 : Nat) "SpeciesRounds$KeySearch" "ordering" "[I")) 121 (by decide +kernel)) (by decide +kernel)
theorem am_g122 : _ ∈ am_G := am_G_of (am_tb (w := (Jvm.Cond.fieldLink "SpeciesRounds$KeySearch" (20 : Nat) "SpeciesRounds$KeySearch" "least" "[I")) 122 (by decide +kernel)) (by decide +kernel)
theorem am_g130 : _ ∈ am_G := am_G_of (am_tb (w := (Jvm.Cond.classLink "SpeciesRounds" (30 : Nat) "SpeciesRounds$Table")) 130 (by decide +kernel)) (by decide +kernel)
theorem am_g133 : _ ∈ am_G := am_G_of (am_tb (w := (Jvm.Cond.instanceMethod ({ cls := "SpeciesRounds$Table", name := "<init>", desc := "()V" } : Jvm.MethodName))) 133 (by decide +kernel)) (by decide +kernel)
theorem am_g134 : _ ∈ am_G := am_G_of (am_tb (w := (Jvm.Cond.code ({ cls := "SpeciesRounds$Table", name := "<init>", desc := "()V" } : Jvm.MethodName) prog_11_method_1_code (1 : Nat) (Option.none : Option Jvm.ClassFile.FieldType))) 134 (by decide +kernel)) (by decide +kernel)
theorem am_g135 : _ ∈ am_G := am_G_of (am_tb (w := (Jvm.Cond.methodLink "SpeciesRounds$Table" (3 : Nat) ({ cls := "java/lang/Object", name := "<init>", desc := "()V" } : Jvm.MethodName))) 135 (by decide +kernel)) (by decide +kernel)
theorem am_g136 : _ ∈ am_G := am_G_of (am_tb (w := (Jvm.Cond.fieldLink "SpeciesRounds$Table" (9 : Nat) "SpeciesRounds$Table" "words" "[J")) 136 (by decide +kernel)) (by decide +kernel)
theorem am_g138 : _ ∈ am_G := am_G_of (am_tb (w := (Jvm.Cond.fieldLink "SpeciesRounds$Table" (15 : Nat) "SpeciesRounds$Table" "renumbered" "[I")) 138 (by decide +kernel)) (by decide +kernel)
theorem am_g140 : _ ∈ am_G := am_G_of (am_tb (w := (Jvm.Cond.fieldLink "SpeciesRounds$Table" (19 : Nat) "SpeciesRounds$Table" "count" "I")) 140 (by decide +kernel)) (by decide +kernel)
theorem am_g149 : _ ∈ am_G := am_G_of (am_tb (w := (Jvm.Cond.arrayClass Jvm.ClassFile.FieldType.long)) 149 (by decide +kernel)) (by decide +kernel)
theorem am_g150 : _ ∈ am_G := am_G_of (am_tb (w := (Jvm.Cond.classLink "SpeciesRounds" (37 : Nat) "SpeciesRounds$Rule")) 150 (by decide +kernel)) (by decide +kernel)
theorem am_g152 : _ ∈ am_G := am_G_of (am_tb (w := (Jvm.Cond.classLink "SpeciesRounds" (43 : Nat) "SpeciesRounds$Mixture")) 152 (by decide +kernel)) (by decide +kernel)
theorem am_g155 : _ ∈ am_G := am_G_of (am_tb (w := (Jvm.Cond.instanceMethod ({ cls := "SpeciesRounds$Mixture", name := "<init>", desc := "()V" } : Jvm.MethodName))) 155 (by decide +kernel)) (by decide +kernel)
theorem am_g156 : _ ∈ am_G := am_G_of (am_tb (w := (Jvm.Cond.code ({ cls := "SpeciesRounds$Mixture", name := "<init>", desc := "()V" } : Jvm.MethodName) prog_6_method_1_code (1 : Nat) (Option.none : Option Jvm.ClassFile.FieldType))) 156 (by decide +kernel)) (by decide +kernel)
theorem am_g157 : _ ∈ am_G := am_G_of (am_tb (w := (Jvm.Cond.methodLink "SpeciesRounds$Mixture" (3 : Nat) ({ cls := "java/lang/Object", name := "<init>", desc := "()V" } : Jvm.MethodName))) 157 (by decide +kernel)) (by decide +kernel)
theorem am_g158 : _ ∈ am_G := am_G_of (am_tb (w := (Jvm.Cond.classLink "SpeciesRounds$Mixture" (9 : Nat) "SpeciesRounds$Graph")) 158 (by decide +kernel)) (by decide +kernel)
theorem am_g159 : _ ∈ am_G := am_G_of (am_tb (w := (Jvm.Cond.methodLink "SpeciesRounds$Mixture" (13 : Nat) ({ cls := "SpeciesRounds$Graph", name := "<init>", desc := "(I)V" } : Jvm.MethodName))) 159 (by decide +kernel)) (by decide +kernel)
theorem am_g160 : _ ∈ am_G := am_G_of (am_tb (w := (Jvm.Cond.fieldLink "SpeciesRounds$Mixture" (16 : Nat) "SpeciesRounds$Mixture" "graph" "LSpeciesRounds$Graph;")) 160 (by decide +kernel)) (by decide +kernel)
theorem am_g163 : _ ∈ am_G := am_G_of (am_tb (w := (Jvm.Cond.fieldLink "SpeciesRounds$Mixture" (27 : Nat) "SpeciesRounds$Mixture" "lastBegin" "I")) 163 (by decide +kernel)) (by decide +kernel)
theorem am_g169 : _ ∈ am_G := am_G_of (am_tb (w := (Jvm.Cond.classLink "SpeciesRounds" (50 : Nat) "SpeciesRounds$Finder")) 169 (by decide +kernel)) (by decide +kernel)
theorem am_g172 : _ ∈ am_G := am_G_of (am_tb (w := (Jvm.Cond.instanceMethod ({ cls := "SpeciesRounds$Finder", name := "<init>", desc := "()V" } : Jvm.MethodName))) 172 (by decide +kernel)) (by decide +kernel)
theorem am_g173 : _ ∈ am_G := am_G_of (am_tb (w := (Jvm.Cond.code ({ cls := "SpeciesRounds$Finder", name := "<init>", desc := "()V" } : Jvm.MethodName) prog_2_method_1_code (1 : Nat) (Option.none : Option Jvm.ClassFile.FieldType))) 173 (by decide +kernel)) (by decide +kernel)
theorem am_g174 : _ ∈ am_G := am_G_of (am_tb (w := (Jvm.Cond.methodLink "SpeciesRounds$Finder" (5 : Nat) ({ cls := "java/lang/Object", name := "<init>", desc := "()V" } : Jvm.MethodName))) 174 (by decide +kernel)) (by decide +kernel)
theorem am_g175 : _ ∈ am_G := am_G_of (am_tb (w := (Jvm.Cond.fieldLink "SpeciesRounds$Finder" (11 : Nat) "SpeciesRounds$Finder" "chosen" "[I")) 175 (by decide +kernel)) (by decide +kernel)
theorem am_g177 : _ ∈ am_G := am_G_of (am_tb (w := (Jvm.Cond.fieldLink "SpeciesRounds$Finder" (17 : Nat) "SpeciesRounds$Finder" "found" "[I")) 177 (by decide +kernel)) (by decide +kernel)
theorem am_g178 : _ ∈ am_G := am_G_of (am_tb (w := (Jvm.Cond.fieldLink "SpeciesRounds$Finder" (20 : Nat) "SpeciesRounds$Finder" "count" "I")) 178 (by decide +kernel)) (by decide +kernel)
theorem am_g186 : _ ∈ am_G := am_G_of (am_tb (w := (Jvm.Cond.classLink "SpeciesRounds" (57 : Nat) "SpeciesRounds$Products")) 186 (by decide +kernel)) (by decide +kernel)
theorem am_g189 : _ ∈ am_G := am_G_of (am_tb (w := (Jvm.Cond.instanceMethod ({ cls := "SpeciesRounds$Products", name := "<init>", desc := "()V" } : Jvm.MethodName))) 189 (by decide +kernel)) (by decide +kernel)
theorem am_g190 : _ ∈ am_G := am_G_of (am_tb (w := (Jvm.Cond.code ({ cls := "SpeciesRounds$Products", name := "<init>", desc := "()V" } : Jvm.MethodName) prog_7_method_1_code (1 : Nat) (Option.none : Option Jvm.ClassFile.FieldType))) 190 (by decide +kernel)) (by decide +kernel)
theorem am_g191 : _ ∈ am_G := am_G_of (am_tb (w := (Jvm.Cond.methodLink "SpeciesRounds$Products" (3 : Nat) ({ cls := "java/lang/Object", name := "<init>", desc := "()V" } : Jvm.MethodName))) 191 (by decide +kernel)) (by decide +kernel)
theorem am_g192 : _ ∈ am_G := am_G_of (am_tb (w := (Jvm.Cond.fieldLink "SpeciesRounds$Products" (9 : Nat) "SpeciesRounds$Products" "words" "[J")) 192 (by decide +kernel)) (by decide +kernel)
theorem am_g194 : _ ∈ am_G := am_G_of (am_tb (w := (Jvm.Cond.fieldLink "SpeciesRounds$Products" (17 : Nat) "SpeciesRounds$Products" "joined" "[I")) 194 (by decide +kernel)) (by decide +kernel)
theorem am_g195 : _ ∈ am_G := am_G_of (am_tb (w := (Jvm.Cond.fieldLink "SpeciesRounds$Products" (35 : Nat) "SpeciesRounds$Products" "joinedCount" "I")) 195 (by decide +kernel)) (by decide +kernel)
theorem am_g196 : _ ∈ am_G := am_G_of (am_tb (w := (Jvm.Cond.fieldLink "SpeciesRounds$Products" (21 : Nat) "SpeciesRounds$Products" "count" "I")) 196 (by decide +kernel)) (by decide +kernel)
theorem am_g207 : _ ∈ am_G := am_G_of (am_tb (w := (Jvm.Cond.classLink "SpeciesRounds" (64 : Nat) "SpeciesRounds$ReactionList")) 207 (by decide +kernel)) (by decide +kernel)
theorem am_g210 : _ ∈ am_G := am_G_of (am_tb (w := (Jvm.Cond.instanceMethod ({ cls := "SpeciesRounds$ReactionList", name := "<init>", desc := "()V" } : Jvm.MethodName))) 210 (by decide +kernel)) (by decide +kernel)
theorem am_g211 : _ ∈ am_G := am_G_of (am_tb (w := (Jvm.Cond.code ({ cls := "SpeciesRounds$ReactionList", name := "<init>", desc := "()V" } : Jvm.MethodName) prog_8_method_1_code (1 : Nat) (Option.none : Option Jvm.ClassFile.FieldType))) 211 (by decide +kernel)) (by decide +kernel)
theorem am_g212 : _ ∈ am_G := am_G_of (am_tb (w := (Jvm.Cond.methodLink "SpeciesRounds$ReactionList" (3 : Nat) ({ cls := "java/lang/Object", name := "<init>", desc := "()V" } : Jvm.MethodName))) 212 (by decide +kernel)) (by decide +kernel)
theorem am_g213 : _ ∈ am_G := am_G_of (am_tb (w := (Jvm.Cond.fieldLink "SpeciesRounds$ReactionList" (9 : Nat) "SpeciesRounds$ReactionList" "rows" "[I")) 213 (by decide +kernel)) (by decide +kernel)
theorem am_g214 : _ ∈ am_G := am_G_of (am_tb (w := (Jvm.Cond.fieldLink "SpeciesRounds$ReactionList" (15 : Nat) "SpeciesRounds$ReactionList" "count" "I")) 214 (by decide +kernel)) (by decide +kernel)
theorem am_g221 : _ ∈ am_G := am_G_of (am_tb (w := (Jvm.Cond.methodLink "SpeciesRounds" (78 : Nat) ({ cls := "java/lang/Math", name := "min", desc := "(II)I" } : Jvm.MethodName))) 221 (by decide +kernel)) (by decide +kernel)
theorem am_g222 : _ ∈ am_G := am_G_of (am_tb (w := (Jvm.Cond.static ({ cls := "java/lang/Math", name := "min", desc := "(II)I" } : Jvm.MethodName))) 222 (by decide +kernel)) (by decide +kernel)
theorem am_g223 : _ ∈ am_G := am_G_of (am_tb (w := (Jvm.Cond.code ({ cls := "java/lang/Math", name := "min", desc := "(II)I" } : Jvm.MethodName) prog_16_method_69_code (2 : Nat) (Option.some Jvm.ClassFile.FieldType.int))) 223 (by decide +kernel)) (by decide +kernel)
theorem am_g224 : _ ∈ am_G := am_G_of (am_tb (w := (Jvm.Cond.methodLink "SpeciesRounds" (84 : Nat) ({ cls := "java/lang/Math", name := "max", desc := "(II)I" } : Jvm.MethodName))) 224 (by decide +kernel)) (by decide +kernel)
theorem am_g225 : _ ∈ am_G := am_G_of (am_tb (w := (Jvm.Cond.static ({ cls := "java/lang/Math", name := "max", desc := "(II)I" } : Jvm.MethodName))) 225 (by decide +kernel)) (by decide +kernel)
theorem am_g226 : _ ∈ am_G := am_G_of (am_tb (w := (Jvm.Cond.code ({ cls := "java/lang/Math", name := "max", desc := "(II)I" } : Jvm.MethodName) prog_16_method_65_code (2 : Nat) (Option.some Jvm.ClassFile.FieldType.int))) 226 (by decide +kernel)) (by decide +kernel)
theorem am_g229 : _ ∈ am_G := am_G_of (am_tb (w := (Jvm.Cond.instanceMethod ({ cls := "SpeciesRounds$Rule", name := "<init>", desc := "()V" } : Jvm.MethodName))) 229 (by decide +kernel)) (by decide +kernel)
theorem am_g230 : _ ∈ am_G := am_G_of (am_tb (w := (Jvm.Cond.code ({ cls := "SpeciesRounds$Rule", name := "<init>", desc := "()V" } : Jvm.MethodName) prog_10_method_1_code (1 : Nat) (Option.none : Option Jvm.ClassFile.FieldType))) 230 (by decide +kernel)) (by decide +kernel)
theorem am_g231 : _ ∈ am_G := am_G_of (am_tb (w := (Jvm.Cond.methodLink "SpeciesRounds$Rule" (3 : Nat) ({ cls := "java/lang/Object", name := "<init>", desc := "()V" } : Jvm.MethodName))) 231 (by decide +kernel)) (by decide +kernel)
theorem am_g232 : _ ∈ am_G := am_G_of (am_tb (w := (Jvm.Cond.fieldLink "SpeciesRounds$Rule" (9 : Nat) "SpeciesRounds$Rule" "codes" "[I")) 232 (by decide +kernel)) (by decide +kernel)
theorem am_g234 : _ ∈ am_G := am_G_of (am_tb (w := (Jvm.Cond.fieldLink "SpeciesRounds$Rule" (15 : Nat) "SpeciesRounds$Rule" "before" "[I")) 234 (by decide +kernel)) (by decide +kernel)
theorem am_g237 : _ ∈ am_G := am_G_of (am_tb (w := (Jvm.Cond.fieldLink "SpeciesRounds$Rule" (18 : Nat) "SpeciesRounds$Rule" "after" "[I")) 237 (by decide +kernel)) (by decide +kernel)
theorem am_g239 : _ ∈ am_G := am_G_of (am_tb (w := (Jvm.Cond.fieldLink "SpeciesRounds$Rule" (21 : Nat) "SpeciesRounds$Rule" "places" "I")) 239 (by decide +kernel)) (by decide +kernel)
theorem am_g251 : _ ∈ am_G := am_G_of (am_tb (w := (Jvm.Cond.fieldLink "SpeciesRounds" (87 : Nat) "SpeciesRounds" "cap" "I")) 251 (by decide +kernel)) (by decide +kernel)
theorem am_g252 : _ ∈ am_G := am_G_of (am_tb (w := (Jvm.Cond.fieldLink "SpeciesRounds" (10 : Nat) "SpeciesRounds" "line" "LSpeciesRounds$Line;")) 252 (by decide +kernel)) (by decide +kernel)
theorem am_g253 : _ ∈ am_G := am_G_of (am_tb (w := (Jvm.Cond.fieldLink "SpeciesRounds" (19 : Nat) "SpeciesRounds" "reader" "LSpeciesRounds$Reader;")) 253 (by decide +kernel)) (by decide +kernel)
theorem am_g254 : _ ∈ am_G := am_G_of (am_tb (w := (Jvm.Cond.fieldLink "SpeciesRounds" (26 : Nat) "SpeciesRounds" "keySearch" "LSpeciesRounds$KeySearch;")) 254 (by decide +kernel)) (by decide +kernel)
theorem am_g255 : _ ∈ am_G := am_G_of (am_tb (w := (Jvm.Cond.fieldLink "SpeciesRounds" (33 : Nat) "SpeciesRounds" "table" "LSpeciesRounds$Table;")) 255 (by decide +kernel)) (by decide +kernel)
theorem am_g256 : _ ∈ am_G := am_G_of (am_tb (w := (Jvm.Cond.fieldLink "SpeciesRounds" (39 : Nat) "SpeciesRounds" "rules" "[LSpeciesRounds$Rule;")) 256 (by decide +kernel)) (by decide +kernel)
theorem am_g257 : _ ∈ am_G := am_G_of (am_tb (w := (Jvm.Cond.fieldLink "SpeciesRounds" (151 : Nat) "SpeciesRounds" "ruleCount" "I")) 257 (by decide +kernel)) (by decide +kernel)
theorem am_g258 : _ ∈ am_G := am_G_of (am_tb (w := (Jvm.Cond.fieldLink "SpeciesRounds" (46 : Nat) "SpeciesRounds" "mixture" "LSpeciesRounds$Mixture;")) 258 (by decide +kernel)) (by decide +kernel)
theorem am_g259 : _ ∈ am_G := am_G_of (am_tb (w := (Jvm.Cond.fieldLink "SpeciesRounds" (53 : Nat) "SpeciesRounds" "finder" "LSpeciesRounds$Finder;")) 259 (by decide +kernel)) (by decide +kernel)
theorem am_g260 : _ ∈ am_G := am_G_of (am_tb (w := (Jvm.Cond.fieldLink "SpeciesRounds" (60 : Nat) "SpeciesRounds" "products" "LSpeciesRounds$Products;")) 260 (by decide +kernel)) (by decide +kernel)
theorem am_g261 : _ ∈ am_G := am_G_of (am_tb (w := (Jvm.Cond.fieldLink "SpeciesRounds" (67 : Nat) "SpeciesRounds" "list" "LSpeciesRounds$ReactionList;")) 261 (by decide +kernel)) (by decide +kernel)
theorem am_g262 : _ ∈ am_G := am_G_of (am_tb (w := (Jvm.Cond.fieldLink "SpeciesRounds" (71 : Nat) "SpeciesRounds" "draft" "LSpeciesRounds$ReactionList;")) 262 (by decide +kernel)) (by decide +kernel)
theorem am_g263 : _ ∈ am_G := am_G_of (am_tb (w := (Jvm.Cond.fieldLink "SpeciesRounds" (74 : Nat) "SpeciesRounds" "written" "[I")) 263 (by decide +kernel)) (by decide +kernel)
theorem am_g294 : _ ∈ am_G := am_G_of (am_tb (w := (Jvm.Cond.code ({ cls := "SpeciesRounds", name := "key", desc := "(C)Z" } : Jvm.MethodName) prog_1_method_2_code (2 : Nat) (Option.some Jvm.ClassFile.FieldType.boolean))) 294 (by decide +kernel)) (by decide +kernel)
theorem am_g295 : _ ∈ am_G := am_G_of (am_tb (w := (Jvm.Cond.methodLink "SpeciesRounds" (92 : Nat) ({ cls := "SpeciesRounds$Line", name := "add", desc := "(C)Z" } : Jvm.MethodName))) 295 (by decide +kernel)) (by decide +kernel)
theorem am_g296 : _ ∈ am_G := am_G_of (am_tb (w := (Jvm.Cond.instanceMethod ({ cls := "SpeciesRounds$Line", name := "add", desc := "(C)Z" } : Jvm.MethodName))) 296 (by decide +kernel)) (by decide +kernel)
theorem am_g297 : _ ∈ am_G := am_G_of (am_tb (w := (Jvm.Cond.selects "SpeciesRounds$Line" ({ cls := "SpeciesRounds$Line", name := "add", desc := "(C)Z" } : Jvm.MethodName) ({ cls := "SpeciesRounds$Line", name := "add", desc := "(C)Z" } : Jvm.MethodName))) 297 (by decide +kernel)) (by decide +kernel)
theorem am_g298 : _ ∈ am_G := am_G_of (am_tb (w := (Jvm.Cond.code ({ cls := "SpeciesRounds$Line", name := "add", desc := "(C)Z" } : Jvm.MethodName) prog_5_method_2_code (2 : Nat) (Option.some Jvm.ClassFile.FieldType.boolean))) 298 (by decide +kernel)) (by decide +kernel)
theorem am_g302 : _ ∈ am_G := am_G_of (am_tb (w := (Jvm.Cond.code ({ cls := "SpeciesRounds", name := "back", desc := "()Z" } : Jvm.MethodName) prog_1_method_3_code (1 : Nat) (Option.some Jvm.ClassFile.FieldType.boolean))) 302 (by decide +kernel)) (by decide +kernel)
theorem am_g303 : _ ∈ am_G := am_G_of (am_tb (w := (Jvm.Cond.methodLink "SpeciesRounds" (96 : Nat) ({ cls := "SpeciesRounds$Line", name := "dropLast", desc := "()Z" } : Jvm.MethodName))) 303 (by decide +kernel)) (by decide +kernel)
theorem am_g304 : _ ∈ am_G := am_G_of (am_tb (w := (Jvm.Cond.instanceMethod ({ cls := "SpeciesRounds$Line", name := "dropLast", desc := "()Z" } : Jvm.MethodName))) 304 (by decide +kernel)) (by decide +kernel)
theorem am_g305 : _ ∈ am_G := am_G_of (am_tb (w := (Jvm.Cond.selects "SpeciesRounds$Line" ({ cls := "SpeciesRounds$Line", name := "dropLast", desc := "()Z" } : Jvm.MethodName) ({ cls := "SpeciesRounds$Line", name := "dropLast", desc := "()Z" } : Jvm.MethodName))) 305 (by decide +kernel)) (by decide +kernel)
theorem am_g306 : _ ∈ am_G := am_G_of (am_tb (w := (Jvm.Cond.code ({ cls := "SpeciesRounds$Line", name := "dropLast", desc := "()Z" } : Jvm.MethodName) prog_5_method_3_code (1 : Nat) (Option.some Jvm.ClassFile.FieldType.boolean))) 306 (by decide +kernel)) (by decide +kernel)
theorem am_g310 : _ ∈ am_G := am_G_of (am_tb (w := (Jvm.Cond.code ({ cls := "SpeciesRounds", name := "enter", desc := "()I" } : Jvm.MethodName) prog_1_method_4_code (2 : Nat) (Option.some Jvm.ClassFile.FieldType.int))) 310 (by decide +kernel)) (by decide +kernel)
theorem am_g311 : _ ∈ am_G := am_G_of (am_tb (w := (Jvm.Cond.methodLink "SpeciesRounds" (100 : Nat) ({ cls := "SpeciesRounds$Reader", name := "read", desc := "(LSpeciesRounds$Line;)I" } : Jvm.MethodName))) 311 (by decide +kernel)) (by decide +kernel)
theorem am_g312 : _ ∈ am_G := am_G_of (am_tb (w := (Jvm.Cond.instanceMethod ({ cls := "SpeciesRounds$Reader", name := "read", desc := "(LSpeciesRounds$Line;)I" } : Jvm.MethodName))) 312 (by decide +kernel)) (by decide +kernel)
theorem am_g313 : _ ∈ am_G := am_G_of (am_tb (w := (Jvm.Cond.selects "SpeciesRounds$Reader" ({ cls := "SpeciesRounds$Reader", name := "read", desc := "(LSpeciesRounds$Line;)I" } : Jvm.MethodName) ({ cls := "SpeciesRounds$Reader", name := "read", desc := "(LSpeciesRounds$Line;)I" } : Jvm.MethodName))) 313 (by decide +kernel)) (by decide +kernel)
theorem am_g314 : _ ∈ am_G := am_G_of (am_tb (w := (Jvm.Cond.code ({ cls := "SpeciesRounds$Reader", name := "read", desc := "(LSpeciesRounds$Line;)I" } : Jvm.MethodName) prog_9_method_2_code (3 : Nat) (Option.some Jvm.ClassFile.FieldType.int))) 314 (by decide +kernel)) (by decide +kernel)
theorem am_g315 : _ ∈ am_G := am_G_of (am_tb (w := (Jvm.Cond.methodLink "SpeciesRounds$Reader" (30 : Nat) ({ cls := "SpeciesRounds$Reader", name := "begin", desc := "()V" } : Jvm.MethodName))) 315 (by decide +kernel)) (by decide +kernel)
theorem am_g317 : _ ∈ am_G := am_G_of (am_tb (w := (Jvm.Cond.instanceMethod ({ cls := "SpeciesRounds$Reader", name := "begin", desc := "()V" } : Jvm.MethodName))) 317 (by decide +kernel)) (by decide +kernel)
theorem am_g318 : _ ∈ am_G := am_G_of (am_tb (w := (Jvm.Cond.code ({ cls := "SpeciesRounds$Reader", name := "begin", desc := "()V" } : Jvm.MethodName) prog_9_method_4_code (2 : Nat) (Option.none : Option Jvm.ClassFile.FieldType))) 318 (by decide +kernel)) (by decide +kernel)
theorem am_g319 : _ ∈ am_G := am_G_of (am_tb (w := (Jvm.Cond.methodLink "SpeciesRounds$Reader" (53 : Nat) ({ cls := "SpeciesRounds$Graph", name := "clear", desc := "()V" } : Jvm.MethodName))) 319 (by decide +kernel)) (by decide +kernel)
theorem am_g320 : _ ∈ am_G := am_G_of (am_tb (w := (Jvm.Cond.instanceMethod ({ cls := "SpeciesRounds$Graph", name := "clear", desc := "()V" } : Jvm.MethodName))) 320 (by decide +kernel)) (by decide +kernel)
theorem am_g321 : _ ∈ am_G := am_G_of (am_tb (w := (Jvm.Cond.selects "SpeciesRounds$Graph" ({ cls := "SpeciesRounds$Graph", name := "clear", desc := "()V" } : Jvm.MethodName) ({ cls := "SpeciesRounds$Graph", name := "clear", desc := "()V" } : Jvm.MethodName))) 321 (by decide +kernel)) (by decide +kernel)
theorem am_g322 : _ ∈ am_G := am_G_of (am_tb (w := (Jvm.Cond.code ({ cls := "SpeciesRounds$Graph", name := "clear", desc := "()V" } : Jvm.MethodName) prog_3_method_2_code (1 : Nat) (Option.none : Option Jvm.ClassFile.FieldType))) 322 (by decide +kernel)) (by decide +kernel)
theorem am_g323 : _ ∈ am_G := am_G_of (am_tb (w := (Jvm.Cond.methodLink "SpeciesRounds$Reader" (63 : Nat) ({ cls := "SpeciesRounds$Reader", name := "stand", desc := "(I)V" } : Jvm.MethodName))) 323 (by decide +kernel)) (by decide +kernel)
theorem am_g325 : _ ∈ am_G := am_G_of (am_tb (w := (Jvm.Cond.instanceMethod ({ cls := "SpeciesRounds$Reader", name := "stand", desc := "(I)V" } : Jvm.MethodName))) 325 (by decide +kernel)) (by decide +kernel)
theorem am_g326 : _ ∈ am_G := am_G_of (am_tb (w := (Jvm.Cond.code ({ cls := "SpeciesRounds$Reader", name := "stand", desc := "(I)V" } : Jvm.MethodName) prog_9_method_5_code (2 : Nat) (Option.none : Option Jvm.ClassFile.FieldType))) 326 (by decide +kernel)) (by decide +kernel)
theorem am_g327 : _ ∈ am_G := am_G_of (am_tb (w := (Jvm.Cond.methodLink "SpeciesRounds$Reader" (43 : Nat) ({ cls := "SpeciesRounds$Reader", name := "take", desc := "(C)Z" } : Jvm.MethodName))) 327 (by decide +kernel)) (by decide +kernel)
theorem am_g329 : _ ∈ am_G := am_G_of (am_tb (w := (Jvm.Cond.instanceMethod ({ cls := "SpeciesRounds$Reader", name := "take", desc := "(C)Z" } : Jvm.MethodName))) 329 (by decide +kernel)) (by decide +kernel)
theorem am_g330 : _ ∈ am_G := am_G_of (am_tb (w := (Jvm.Cond.code ({ cls := "SpeciesRounds$Reader", name := "take", desc := "(C)Z" } : Jvm.MethodName) prog_9_method_6_code (5 : Nat) (Option.some Jvm.ClassFile.FieldType.boolean))) 330 (by decide +kernel)) (by decide +kernel)
theorem am_g332 : _ ∈ am_G := am_G_of (am_tb (w := (Jvm.Cond.methodLink "SpeciesRounds$Reader" (71 : Nat) ({ cls := "java/lang/String", name := "indexOf", desc := "(I)I" } : Jvm.MethodName))) 332 (by decide +kernel)) (by decide +kernel)
theorem am_g414 : _ ∈ am_G := am_G_of (am_tb (w := (Jvm.Cond.methodLink "SpeciesRounds$Reader" (77 : Nat) ({ cls := "SpeciesRounds$Reader", name := "takeLetter", desc := "(I)Z" } : Jvm.MethodName))) 414 (by decide +kernel)) (by decide +kernel)
theorem am_g416 : _ ∈ am_G := am_G_of (am_tb (w := (Jvm.Cond.instanceMethod ({ cls := "SpeciesRounds$Reader", name := "takeLetter", desc := "(I)Z" } : Jvm.MethodName))) 416 (by decide +kernel)) (by decide +kernel)
theorem am_g417 : _ ∈ am_G := am_G_of (am_tb (w := (Jvm.Cond.code ({ cls := "SpeciesRounds$Reader", name := "takeLetter", desc := "(I)Z" } : Jvm.MethodName) prog_9_method_7_code (3 : Nat) (Option.some Jvm.ClassFile.FieldType.boolean))) 417 (by decide +kernel)) (by decide +kernel)
theorem am_g418 : _ ∈ am_G := am_G_of (am_tb (w := (Jvm.Cond.methodLink "SpeciesRounds$Reader" (98 : Nat) ({ cls := "SpeciesRounds$Graph", name := "addAtom", desc := "(I)I" } : Jvm.MethodName))) 418 (by decide +kernel)) (by decide +kernel)
theorem am_g419 : _ ∈ am_G := am_G_of (am_tb (w := (Jvm.Cond.instanceMethod ({ cls := "SpeciesRounds$Graph", name := "addAtom", desc := "(I)I" } : Jvm.MethodName))) 419 (by decide +kernel)) (by decide +kernel)
theorem am_g420 : _ ∈ am_G := am_G_of (am_tb (w := (Jvm.Cond.selects "SpeciesRounds$Graph" ({ cls := "SpeciesRounds$Graph", name := "addAtom", desc := "(I)I" } : Jvm.MethodName) ({ cls := "SpeciesRounds$Graph", name := "addAtom", desc := "(I)I" } : Jvm.MethodName))) 420 (by decide +kernel)) (by decide +kernel)
theorem am_g421 : _ ∈ am_G := am_G_of (am_tb (w := (Jvm.Cond.code ({ cls := "SpeciesRounds$Graph", name := "addAtom", desc := "(I)I" } : Jvm.MethodName) prog_3_method_3_code (4 : Nat) (Option.some Jvm.ClassFile.FieldType.int))) 421 (by decide +kernel)) (by decide +kernel)
theorem am_g422 : _ ∈ am_G := am_G_of (am_tb (w := (Jvm.Cond.methodLink "SpeciesRounds$Graph" (27 : Nat) ({ cls := "SpeciesRounds$Graph", name := "setOrder", desc := "(III)V" } : Jvm.MethodName))) 422 (by decide +kernel)) (by decide +kernel)
theorem am_g423 : _ ∈ am_G := am_G_of (am_tb (w := (Jvm.Cond.instanceMethod ({ cls := "SpeciesRounds$Graph", name := "setOrder", desc := "(III)V" } : Jvm.MethodName))) 423 (by decide +kernel)) (by decide +kernel)
theorem am_g424 : _ ∈ am_G := am_G_of (am_tb (w := (Jvm.Cond.selects "SpeciesRounds$Graph" ({ cls := "SpeciesRounds$Graph", name := "setOrder", desc := "(III)V" } : Jvm.MethodName) ({ cls := "SpeciesRounds$Graph", name := "setOrder", desc := "(III)V" } : Jvm.MethodName))) 424 (by decide +kernel)) (by decide +kernel)
theorem am_g425 : _ ∈ am_G := am_G_of (am_tb (w := (Jvm.Cond.code ({ cls := "SpeciesRounds$Graph", name := "setOrder", desc := "(III)V" } : Jvm.MethodName) prog_3_method_4_code (4 : Nat) (Option.none : Option Jvm.ClassFile.FieldType))) 425 (by decide +kernel)) (by decide +kernel)
theorem am_g426 : _ ∈ am_G := am_G_of (am_tb (w := (Jvm.Cond.methodLink "SpeciesRounds$Reader" (101 : Nat) ({ cls := "SpeciesRounds$Reader", name := "join", desc := "(III)V" } : Jvm.MethodName))) 426 (by decide +kernel)) (by decide +kernel)
theorem am_g428 : _ ∈ am_G := am_G_of (am_tb (w := (Jvm.Cond.instanceMethod ({ cls := "SpeciesRounds$Reader", name := "join", desc := "(III)V" } : Jvm.MethodName))) 428 (by decide +kernel)) (by decide +kernel)
theorem am_g429 : _ ∈ am_G := am_G_of (am_tb (w := (Jvm.Cond.code ({ cls := "SpeciesRounds$Reader", name := "join", desc := "(III)V" } : Jvm.MethodName) prog_9_method_12_code (4 : Nat) (Option.none : Option Jvm.ClassFile.FieldType))) 429 (by decide +kernel)) (by decide +kernel)
theorem am_g430 : _ ∈ am_G := am_G_of (am_tb (w := (Jvm.Cond.methodLink "SpeciesRounds$Reader" (109 : Nat) ({ cls := "SpeciesRounds$Graph", name := "setOrder", desc := "(III)V" } : Jvm.MethodName))) 430 (by decide +kernel)) (by decide +kernel)
theorem am_g432 : _ ∈ am_G := am_G_of (am_tb (w := (Jvm.Cond.methodLink "SpeciesRounds$Reader" (83 : Nat) ({ cls := "SpeciesRounds$Reader", name := "takeLink", desc := "(I)Z" } : Jvm.MethodName))) 432 (by decide +kernel)) (by decide +kernel)
theorem am_g434 : _ ∈ am_G := am_G_of (am_tb (w := (Jvm.Cond.instanceMethod ({ cls := "SpeciesRounds$Reader", name := "takeLink", desc := "(I)Z" } : Jvm.MethodName))) 434 (by decide +kernel)) (by decide +kernel)
theorem am_g435 : _ ∈ am_G := am_G_of (am_tb (w := (Jvm.Cond.code ({ cls := "SpeciesRounds$Reader", name := "takeLink", desc := "(I)Z" } : Jvm.MethodName) prog_9_method_8_code (2 : Nat) (Option.some Jvm.ClassFile.FieldType.boolean))) 435 (by decide +kernel)) (by decide +kernel)
theorem am_g437 : _ ∈ am_G := am_G_of (am_tb (w := (Jvm.Cond.methodLink "SpeciesRounds$Reader" (88 : Nat) ({ cls := "SpeciesRounds$Reader", name := "takeMark", desc := "(I)Z" } : Jvm.MethodName))) 437 (by decide +kernel)) (by decide +kernel)
theorem am_g439 : _ ∈ am_G := am_G_of (am_tb (w := (Jvm.Cond.instanceMethod ({ cls := "SpeciesRounds$Reader", name := "takeMark", desc := "(I)Z" } : Jvm.MethodName))) 439 (by decide +kernel)) (by decide +kernel)
theorem am_g440 : _ ∈ am_G := am_G_of (am_tb (w := (Jvm.Cond.code ({ cls := "SpeciesRounds$Reader", name := "takeMark", desc := "(I)Z" } : Jvm.MethodName) prog_9_method_9_code (2 : Nat) (Option.some Jvm.ClassFile.FieldType.boolean))) 440 (by decide +kernel)) (by decide +kernel)
theorem am_g441 : _ ∈ am_G := am_G_of (am_tb (w := (Jvm.Cond.methodLink "SpeciesRounds$Reader" (91 : Nat) ({ cls := "SpeciesRounds$Reader", name := "openBranch", desc := "()Z" } : Jvm.MethodName))) 441 (by decide +kernel)) (by decide +kernel)
theorem am_g443 : _ ∈ am_G := am_G_of (am_tb (w := (Jvm.Cond.instanceMethod ({ cls := "SpeciesRounds$Reader", name := "openBranch", desc := "()Z" } : Jvm.MethodName))) 443 (by decide +kernel)) (by decide +kernel)
theorem am_g444 : _ ∈ am_G := am_G_of (am_tb (w := (Jvm.Cond.code ({ cls := "SpeciesRounds$Reader", name := "openBranch", desc := "()Z" } : Jvm.MethodName) prog_9_method_10_code (1 : Nat) (Option.some Jvm.ClassFile.FieldType.boolean))) 444 (by decide +kernel)) (by decide +kernel)
theorem am_g445 : _ ∈ am_G := am_G_of (am_tb (w := (Jvm.Cond.methodLink "SpeciesRounds$Reader" (95 : Nat) ({ cls := "SpeciesRounds$Reader", name := "closeBranch", desc := "()Z" } : Jvm.MethodName))) 445 (by decide +kernel)) (by decide +kernel)
theorem am_g447 : _ ∈ am_G := am_G_of (am_tb (w := (Jvm.Cond.instanceMethod ({ cls := "SpeciesRounds$Reader", name := "closeBranch", desc := "()Z" } : Jvm.MethodName))) 447 (by decide +kernel)) (by decide +kernel)
theorem am_g448 : _ ∈ am_G := am_G_of (am_tb (w := (Jvm.Cond.code ({ cls := "SpeciesRounds$Reader", name := "closeBranch", desc := "()Z" } : Jvm.MethodName) prog_9_method_11_code (1 : Nat) (Option.some Jvm.ClassFile.FieldType.boolean))) 448 (by decide +kernel)) (by decide +kernel)
theorem am_g449 : _ ∈ am_G := am_G_of (am_tb (w := (Jvm.Cond.methodLink "SpeciesRounds" (104 : Nat) ({ cls := "SpeciesRounds$Line", name := "clear", desc := "()V" } : Jvm.MethodName))) 449 (by decide +kernel)) (by decide +kernel)
theorem am_g450 : _ ∈ am_G := am_G_of (am_tb (w := (Jvm.Cond.instanceMethod ({ cls := "SpeciesRounds$Line", name := "clear", desc := "()V" } : Jvm.MethodName))) 450 (by decide +kernel)) (by decide +kernel)
theorem am_g451 : _ ∈ am_G := am_G_of (am_tb (w := (Jvm.Cond.selects "SpeciesRounds$Line" ({ cls := "SpeciesRounds$Line", name := "clear", desc := "()V" } : Jvm.MethodName) ({ cls := "SpeciesRounds$Line", name := "clear", desc := "()V" } : Jvm.MethodName))) 451 (by decide +kernel)) (by decide +kernel)
theorem am_g452 : _ ∈ am_G := am_G_of (am_tb (w := (Jvm.Cond.code ({ cls := "SpeciesRounds$Line", name := "clear", desc := "()V" } : Jvm.MethodName) prog_5_method_4_code (1 : Nat) (Option.none : Option Jvm.ClassFile.FieldType))) 452 (by decide +kernel)) (by decide +kernel)
theorem am_g453 : _ ∈ am_G := am_G_of (am_tb (w := (Jvm.Cond.methodLink "SpeciesRounds" (107 : Nat) ({ cls := "SpeciesRounds$Reader", name := "hasOpenMark", desc := "()Z" } : Jvm.MethodName))) 453 (by decide +kernel)) (by decide +kernel)
theorem am_g454 : _ ∈ am_G := am_G_of (am_tb (w := (Jvm.Cond.instanceMethod ({ cls := "SpeciesRounds$Reader", name := "hasOpenMark", desc := "()Z" } : Jvm.MethodName))) 454 (by decide +kernel)) (by decide +kernel)
theorem am_g455 : _ ∈ am_G := am_G_of (am_tb (w := (Jvm.Cond.selects "SpeciesRounds$Reader" ({ cls := "SpeciesRounds$Reader", name := "hasOpenMark", desc := "()Z" } : Jvm.MethodName) ({ cls := "SpeciesRounds$Reader", name := "hasOpenMark", desc := "()Z" } : Jvm.MethodName))) 455 (by decide +kernel)) (by decide +kernel)
theorem am_g456 : _ ∈ am_G := am_G_of (am_tb (w := (Jvm.Cond.code ({ cls := "SpeciesRounds$Reader", name := "hasOpenMark", desc := "()Z" } : Jvm.MethodName) prog_9_method_3_code (2 : Nat) (Option.some Jvm.ClassFile.FieldType.boolean))) 456 (by decide +kernel)) (by decide +kernel)
theorem am_g457 : _ ∈ am_G := am_G_of (am_tb (w := (Jvm.Cond.methodLink "SpeciesRounds" (118 : Nat) ({ cls := "SpeciesRounds", name := "putDrawn", desc := "(LSpeciesRounds$Graph;)I" } : Jvm.MethodName))) 457 (by decide +kernel)) (by decide +kernel)
theorem am_g459 : _ ∈ am_G := am_G_of (am_tb (w := (Jvm.Cond.instanceMethod ({ cls := "SpeciesRounds", name := "putDrawn", desc := "(LSpeciesRounds$Graph;)I" } : Jvm.MethodName))) 459 (by decide +kernel)) (by decide +kernel)
theorem am_g460 : _ ∈ am_G := am_G_of (am_tb (w := (Jvm.Cond.code ({ cls := "SpeciesRounds", name := "putDrawn", desc := "(LSpeciesRounds$Graph;)I" } : Jvm.MethodName) prog_1_method_20_code (3 : Nat) (Option.some Jvm.ClassFile.FieldType.int))) 460 (by decide +kernel)) (by decide +kernel)
theorem am_g461 : _ ∈ am_G := am_G_of (am_tb (w := (Jvm.Cond.methodLink "SpeciesRounds" (208 : Nat) ({ cls := "SpeciesRounds$Graph", name := "isOverloaded", desc := "(I)Z" } : Jvm.MethodName))) 461 (by decide +kernel)) (by decide +kernel)
theorem am_g462 : _ ∈ am_G := am_G_of (am_tb (w := (Jvm.Cond.instanceMethod ({ cls := "SpeciesRounds$Graph", name := "isOverloaded", desc := "(I)Z" } : Jvm.MethodName))) 462 (by decide +kernel)) (by decide +kernel)
theorem am_g463 : _ ∈ am_G := am_G_of (am_tb (w := (Jvm.Cond.selects "SpeciesRounds$Graph" ({ cls := "SpeciesRounds$Graph", name := "isOverloaded", desc := "(I)Z" } : Jvm.MethodName) ({ cls := "SpeciesRounds$Graph", name := "isOverloaded", desc := "(I)Z" } : Jvm.MethodName))) 463 (by decide +kernel)) (by decide +kernel)
theorem am_g464 : _ ∈ am_G := am_G_of (am_tb (w := (Jvm.Cond.code ({ cls := "SpeciesRounds$Graph", name := "isOverloaded", desc := "(I)Z" } : Jvm.MethodName) prog_3_method_5_code (4 : Nat) (Option.some Jvm.ClassFile.FieldType.boolean))) 464 (by decide +kernel)) (by decide +kernel)
theorem am_g465 : _ ∈ am_G := am_G_of (am_tb (w := (Jvm.Cond.methodLink "SpeciesRounds" (214 : Nat) ({ cls := "SpeciesRounds$KeySearch", name := "leastWord", desc := "(LSpeciesRounds$Graph;[II)J" } : Jvm.MethodName))) 465 (by decide +kernel)) (by decide +kernel)
theorem am_g466 : _ ∈ am_G := am_G_of (am_tb (w := (Jvm.Cond.instanceMethod ({ cls := "SpeciesRounds$KeySearch", name := "leastWord", desc := "(LSpeciesRounds$Graph;[II)J" } : Jvm.MethodName))) 466 (by decide +kernel)) (by decide +kernel)
theorem am_g467 : _ ∈ am_G := am_G_of (am_tb (w := (Jvm.Cond.selects "SpeciesRounds$KeySearch" ({ cls := "SpeciesRounds$KeySearch", name := "leastWord", desc := "(LSpeciesRounds$Graph;[II)J" } : Jvm.MethodName) ({ cls := "SpeciesRounds$KeySearch", name := "leastWord", desc := "(LSpeciesRounds$Graph;[II)J" } : Jvm.MethodName))) 467 (by decide +kernel)) (by decide +kernel)
theorem am_g468 : _ ∈ am_G := am_G_of (am_tb (w := (Jvm.Cond.code ({ cls := "SpeciesRounds$KeySearch", name := "leastWord", desc := "(LSpeciesRounds$Graph;[II)J" } : Jvm.MethodName) prog_4_method_2_code (6 : Nat) (Option.some Jvm.ClassFile.FieldType.long))) 468 (by decide +kernel)) (by decide +kernel)
theorem am_g469 : _ ∈ am_G := am_G_of (am_tb (w := (Jvm.Cond.methodLink "SpeciesRounds$KeySearch" (23 : Nat) ({ cls := "SpeciesRounds$KeySearch", name := "sortByCode", desc := "(LSpeciesRounds$Graph;[II)V" } : Jvm.MethodName))) 469 (by decide +kernel)) (by decide +kernel)
theorem am_g471 : _ ∈ am_G := am_G_of (am_tb (w := (Jvm.Cond.instanceMethod ({ cls := "SpeciesRounds$KeySearch", name := "sortByCode", desc := "(LSpeciesRounds$Graph;[II)V" } : Jvm.MethodName))) 471 (by decide +kernel)) (by decide +kernel)
theorem am_g472 : _ ∈ am_G := am_G_of (am_tb (w := (Jvm.Cond.code ({ cls := "SpeciesRounds$KeySearch", name := "sortByCode", desc := "(LSpeciesRounds$Graph;[II)V" } : Jvm.MethodName) prog_4_method_3_code (7 : Nat) (Option.none : Option Jvm.ClassFile.FieldType))) 472 (by decide +kernel)) (by decide +kernel)
theorem am_g473 : _ ∈ am_G := am_G_of (am_tb (w := (Jvm.Cond.constant "SpeciesRounds$KeySearch" (32 : Nat) (1048576 : Int32))) 473 (by decide +kernel)) (by decide +kernel)
theorem am_g474 : _ ∈ am_G := am_G_of (am_tb (w := (Jvm.Cond.methodLink "SpeciesRounds$KeySearch" (33 : Nat) ({ cls := "SpeciesRounds$KeySearch", name := "placeAtom", desc := "(LSpeciesRounds$Graph;IIII)V" } : Jvm.MethodName))) 474 (by decide +kernel)) (by decide +kernel)
theorem am_g476 : _ ∈ am_G := am_G_of (am_tb (w := (Jvm.Cond.instanceMethod ({ cls := "SpeciesRounds$KeySearch", name := "placeAtom", desc := "(LSpeciesRounds$Graph;IIII)V" } : Jvm.MethodName))) 476 (by decide +kernel)) (by decide +kernel)
theorem am_g477 : _ ∈ am_G := am_G_of (am_tb (w := (Jvm.Cond.code ({ cls := "SpeciesRounds$KeySearch", name := "placeAtom", desc := "(LSpeciesRounds$Graph;IIII)V" } : Jvm.MethodName) prog_4_method_4_code (10 : Nat) (Option.none : Option Jvm.ClassFile.FieldType))) 477 (by decide +kernel)) (by decide +kernel)
theorem am_g478 : _ ∈ am_G := am_G_of (am_tb (w := (Jvm.Cond.methodLink "SpeciesRounds$KeySearch" (41 : Nat) ({ cls := "SpeciesRounds$KeySearch", name := "withOrdersOf", desc := "(LSpeciesRounds$Graph;III)I" } : Jvm.MethodName))) 478 (by decide +kernel)) (by decide +kernel)
theorem am_g480 : _ ∈ am_G := am_G_of (am_tb (w := (Jvm.Cond.instanceMethod ({ cls := "SpeciesRounds$KeySearch", name := "withOrdersOf", desc := "(LSpeciesRounds$Graph;III)I" } : Jvm.MethodName))) 480 (by decide +kernel)) (by decide +kernel)
theorem am_g481 : _ ∈ am_G := am_G_of (am_tb (w := (Jvm.Cond.code ({ cls := "SpeciesRounds$KeySearch", name := "withOrdersOf", desc := "(LSpeciesRounds$Graph;III)I" } : Jvm.MethodName) prog_4_method_5_code (7 : Nat) (Option.some Jvm.ClassFile.FieldType.int))) 481 (by decide +kernel)) (by decide +kernel)
theorem am_g482 : _ ∈ am_G := am_G_of (am_tb (w := (Jvm.Cond.methodLink "SpeciesRounds$KeySearch" (37 : Nat) ({ cls := "SpeciesRounds$Word", name := "pack", desc := "(III)J" } : Jvm.MethodName))) 482 (by decide +kernel)) (by decide +kernel)
theorem am_g483 : _ ∈ am_G := am_G_of (am_tb (w := (Jvm.Cond.static ({ cls := "SpeciesRounds$Word", name := "pack", desc := "(III)J" } : Jvm.MethodName))) 483 (by decide +kernel)) (by decide +kernel)
theorem am_g484 : _ ∈ am_G := am_G_of (am_tb (w := (Jvm.Cond.code ({ cls := "SpeciesRounds$Word", name := "pack", desc := "(III)J" } : Jvm.MethodName) prog_12_method_3_code (3 : Nat) (Option.some Jvm.ClassFile.FieldType.long))) 484 (by decide +kernel)) (by decide +kernel)
theorem am_g485 : _ ∈ am_G := am_G_of (am_tb (w := (Jvm.Cond.methodLink "SpeciesRounds" (218 : Nat) ({ cls := "SpeciesRounds$Table", name := "put", desc := "(J)I" } : Jvm.MethodName))) 485 (by decide +kernel)) (by decide +kernel)
theorem am_g486 : _ ∈ am_G := am_G_of (am_tb (w := (Jvm.Cond.instanceMethod ({ cls := "SpeciesRounds$Table", name := "put", desc := "(J)I" } : Jvm.MethodName))) 486 (by decide +kernel)) (by decide +kernel)
theorem am_g487 : _ ∈ am_G := am_G_of (am_tb (w := (Jvm.Cond.selects "SpeciesRounds$Table" ({ cls := "SpeciesRounds$Table", name := "put", desc := "(J)I" } : Jvm.MethodName) ({ cls := "SpeciesRounds$Table", name := "put", desc := "(J)I" } : Jvm.MethodName))) 487 (by decide +kernel)) (by decide +kernel)
theorem am_g488 : _ ∈ am_G := am_G_of (am_tb (w := (Jvm.Cond.code ({ cls := "SpeciesRounds$Table", name := "put", desc := "(J)I" } : Jvm.MethodName) prog_11_method_2_code (4 : Nat) (Option.some Jvm.ClassFile.FieldType.int))) 488 (by decide +kernel)) (by decide +kernel)
theorem am_g493 : _ ∈ am_G := am_G_of (am_tb (w := (Jvm.Cond.code ({ cls := "SpeciesRounds", name := "species", desc := "()I" } : Jvm.MethodName) prog_1_method_5_code (1 : Nat) (Option.some Jvm.ClassFile.FieldType.int))) 493 (by decide +kernel)) (by decide +kernel)
theorem am_g497 : _ ∈ am_G := am_G_of (am_tb (w := (Jvm.Cond.code ({ cls := "SpeciesRounds", name := "size", desc := "(I)I" } : Jvm.MethodName) prog_1_method_6_code (2 : Nat) (Option.some Jvm.ClassFile.FieldType.int))) 497 (by decide +kernel)) (by decide +kernel)
theorem am_g498 : _ ∈ am_G := am_G_of (am_tb (w := (Jvm.Cond.methodLink "SpeciesRounds" (125 : Nat) ({ cls := "SpeciesRounds", name := "hasSpecies", desc := "(I)Z" } : Jvm.MethodName))) 498 (by decide +kernel)) (by decide +kernel)
theorem am_g500 : _ ∈ am_G := am_G_of (am_tb (w := (Jvm.Cond.instanceMethod ({ cls := "SpeciesRounds", name := "hasSpecies", desc := "(I)Z" } : Jvm.MethodName))) 500 (by decide +kernel)) (by decide +kernel)
theorem am_g501 : _ ∈ am_G := am_G_of (am_tb (w := (Jvm.Cond.code ({ cls := "SpeciesRounds", name := "hasSpecies", desc := "(I)Z" } : Jvm.MethodName) prog_1_method_15_code (2 : Nat) (Option.some Jvm.ClassFile.FieldType.boolean))) 501 (by decide +kernel)) (by decide +kernel)
theorem am_g502 : _ ∈ am_G := am_G_of (am_tb (w := (Jvm.Cond.methodLink "SpeciesRounds" (133 : Nat) ({ cls := "SpeciesRounds$Word", name := "atomsOf", desc := "(J)I" } : Jvm.MethodName))) 502 (by decide +kernel)) (by decide +kernel)
theorem am_g503 : _ ∈ am_G := am_G_of (am_tb (w := (Jvm.Cond.static ({ cls := "SpeciesRounds$Word", name := "atomsOf", desc := "(J)I" } : Jvm.MethodName))) 503 (by decide +kernel)) (by decide +kernel)
theorem am_g504 : _ ∈ am_G := am_G_of (am_tb (w := (Jvm.Cond.code ({ cls := "SpeciesRounds$Word", name := "atomsOf", desc := "(J)I" } : Jvm.MethodName) prog_12_method_4_code (2 : Nat) (Option.some Jvm.ClassFile.FieldType.int))) 504 (by decide +kernel)) (by decide +kernel)
theorem am_g508 : _ ∈ am_G := am_G_of (am_tb (w := (Jvm.Cond.code ({ cls := "SpeciesRounds", name := "atom", desc := "(II)I" } : Jvm.MethodName) prog_1_method_7_code (3 : Nat) (Option.some Jvm.ClassFile.FieldType.int))) 508 (by decide +kernel)) (by decide +kernel)
theorem am_g509 : _ ∈ am_G := am_G_of (am_tb (w := (Jvm.Cond.methodLink "SpeciesRounds" (139 : Nat) ({ cls := "SpeciesRounds", name := "hasAtom", desc := "(II)Z" } : Jvm.MethodName))) 509 (by decide +kernel)) (by decide +kernel)
theorem am_g511 : _ ∈ am_G := am_G_of (am_tb (w := (Jvm.Cond.instanceMethod ({ cls := "SpeciesRounds", name := "hasAtom", desc := "(II)Z" } : Jvm.MethodName))) 511 (by decide +kernel)) (by decide +kernel)
theorem am_g512 : _ ∈ am_G := am_G_of (am_tb (w := (Jvm.Cond.code ({ cls := "SpeciesRounds", name := "hasAtom", desc := "(II)Z" } : Jvm.MethodName) prog_1_method_16_code (3 : Nat) (Option.some Jvm.ClassFile.FieldType.boolean))) 512 (by decide +kernel)) (by decide +kernel)
theorem am_g513 : _ ∈ am_G := am_G_of (am_tb (w := (Jvm.Cond.methodLink "SpeciesRounds" (143 : Nat) ({ cls := "SpeciesRounds$Word", name := "codeOf", desc := "(JI)I" } : Jvm.MethodName))) 513 (by decide +kernel)) (by decide +kernel)
theorem am_g514 : _ ∈ am_G := am_G_of (am_tb (w := (Jvm.Cond.static ({ cls := "SpeciesRounds$Word", name := "codeOf", desc := "(JI)I" } : Jvm.MethodName))) 514 (by decide +kernel)) (by decide +kernel)
theorem am_g515 : _ ∈ am_G := am_G_of (am_tb (w := (Jvm.Cond.code ({ cls := "SpeciesRounds$Word", name := "codeOf", desc := "(JI)I" } : Jvm.MethodName) prog_12_method_5_code (4 : Nat) (Option.some Jvm.ClassFile.FieldType.int))) 515 (by decide +kernel)) (by decide +kernel)
theorem am_g516 : _ ∈ am_G := am_G_of (am_tb (w := (Jvm.Cond.methodLink "SpeciesRounds$Word" (11 : Nat) ({ cls := "SpeciesRounds$Word", name := "atomsOf", desc := "(J)I" } : Jvm.MethodName))) 516 (by decide +kernel)) (by decide +kernel)
theorem am_g520 : _ ∈ am_G := am_G_of (am_tb (w := (Jvm.Cond.code ({ cls := "SpeciesRounds", name := "bond", desc := "(III)I" } : Jvm.MethodName) prog_1_method_8_code (4 : Nat) (Option.some Jvm.ClassFile.FieldType.int))) 520 (by decide +kernel)) (by decide +kernel)
theorem am_g521 : _ ∈ am_G := am_G_of (am_tb (w := (Jvm.Cond.methodLink "SpeciesRounds" (147 : Nat) ({ cls := "SpeciesRounds$Word", name := "orderOf", desc := "(JII)I" } : Jvm.MethodName))) 521 (by decide +kernel)) (by decide +kernel)
theorem am_g522 : _ ∈ am_G := am_G_of (am_tb (w := (Jvm.Cond.static ({ cls := "SpeciesRounds$Word", name := "orderOf", desc := "(JII)I" } : Jvm.MethodName))) 522 (by decide +kernel)) (by decide +kernel)
theorem am_g523 : _ ∈ am_G := am_G_of (am_tb (w := (Jvm.Cond.code ({ cls := "SpeciesRounds$Word", name := "orderOf", desc := "(JII)I" } : Jvm.MethodName) prog_12_method_6_code (6 : Nat) (Option.some Jvm.ClassFile.FieldType.int))) 523 (by decide +kernel)) (by decide +kernel)
theorem am_g524 : _ ∈ am_G := am_G_of (am_tb (w := (Jvm.Cond.methodLink "SpeciesRounds$Word" (15 : Nat) ({ cls := "java/lang/Math", name := "max", desc := "(II)I" } : Jvm.MethodName))) 524 (by decide +kernel)) (by decide +kernel)
theorem am_g525 : _ ∈ am_G := am_G_of (am_tb (w := (Jvm.Cond.methodLink "SpeciesRounds$Word" (21 : Nat) ({ cls := "SpeciesRounds$Word", name := "pairsUpTo", desc := "(I)I" } : Jvm.MethodName))) 525 (by decide +kernel)) (by decide +kernel)
theorem am_g526 : _ ∈ am_G := am_G_of (am_tb (w := (Jvm.Cond.static ({ cls := "SpeciesRounds$Word", name := "pairsUpTo", desc := "(I)I" } : Jvm.MethodName))) 526 (by decide +kernel)) (by decide +kernel)
theorem am_g527 : _ ∈ am_G := am_G_of (am_tb (w := (Jvm.Cond.code ({ cls := "SpeciesRounds$Word", name := "pairsUpTo", desc := "(I)I" } : Jvm.MethodName) prog_12_method_2_code (1 : Nat) (Option.some Jvm.ClassFile.FieldType.int))) 527 (by decide +kernel)) (by decide +kernel)
theorem am_g528 : _ ∈ am_G := am_G_of (am_tb (w := (Jvm.Cond.methodLink "SpeciesRounds$Word" (25 : Nat) ({ cls := "java/lang/Math", name := "min", desc := "(II)I" } : Jvm.MethodName))) 528 (by decide +kernel)) (by decide +kernel)
theorem am_g532 : _ ∈ am_G := am_G_of (am_tb (w := (Jvm.Cond.code ({ cls := "SpeciesRounds", name := "rule", desc := "(III)I" } : Jvm.MethodName) prog_1_method_9_code (4 : Nat) (Option.some Jvm.ClassFile.FieldType.int))) 532 (by decide +kernel)) (by decide +kernel)
theorem am_g533 : _ ∈ am_G := am_G_of (am_tb (w := (Jvm.Cond.methodLink "SpeciesRounds" (154 : Nat) ({ cls := "SpeciesRounds", name := "isCode", desc := "(I)Z" } : Jvm.MethodName))) 533 (by decide +kernel)) (by decide +kernel)
theorem am_g534 : _ ∈ am_G := am_G_of (am_tb (w := (Jvm.Cond.static ({ cls := "SpeciesRounds", name := "isCode", desc := "(I)Z" } : Jvm.MethodName))) 534 (by decide +kernel)) (by decide +kernel)
theorem am_g535 : _ ∈ am_G := am_G_of (am_tb (w := (Jvm.Cond.code ({ cls := "SpeciesRounds", name := "isCode", desc := "(I)Z" } : Jvm.MethodName) prog_1_method_18_code (1 : Nat) (Option.some Jvm.ClassFile.FieldType.boolean))) 535 (by decide +kernel)) (by decide +kernel)
theorem am_g536 : _ ∈ am_G := am_G_of (am_tb (w := (Jvm.Cond.methodLink "SpeciesRounds" (157 : Nat) ({ cls := "SpeciesRounds$Rule", name := "begin", desc := "(III)V" } : Jvm.MethodName))) 536 (by decide +kernel)) (by decide +kernel)
theorem am_g537 : _ ∈ am_G := am_G_of (am_tb (w := (Jvm.Cond.instanceMethod ({ cls := "SpeciesRounds$Rule", name := "begin", desc := "(III)V" } : Jvm.MethodName))) 537 (by decide +kernel)) (by decide +kernel)
theorem am_g538 : _ ∈ am_G := am_G_of (am_tb (w := (Jvm.Cond.selects "SpeciesRounds$Rule" ({ cls := "SpeciesRounds$Rule", name := "begin", desc := "(III)V" } : Jvm.MethodName) ({ cls := "SpeciesRounds$Rule", name := "begin", desc := "(III)V" } : Jvm.MethodName))) 538 (by decide +kernel)) (by decide +kernel)
theorem am_g539 : _ ∈ am_G := am_G_of (am_tb (w := (Jvm.Cond.code ({ cls := "SpeciesRounds$Rule", name := "begin", desc := "(III)V" } : Jvm.MethodName) prog_10_method_3_code (4 : Nat) (Option.none : Option Jvm.ClassFile.FieldType))) 539 (by decide +kernel)) (by decide +kernel)
theorem am_g543 : _ ∈ am_G := am_G_of (am_tb (w := (Jvm.Cond.code ({ cls := "SpeciesRounds", name := "change", desc := "(IIIII)Z" } : Jvm.MethodName) prog_1_method_10_code (6 : Nat) (Option.some Jvm.ClassFile.FieldType.boolean))) 543 (by decide +kernel)) (by decide +kernel)
theorem am_g544 : _ ∈ am_G := am_G_of (am_tb (w := (Jvm.Cond.methodLink "SpeciesRounds" (161 : Nat) ({ cls := "SpeciesRounds", name := "hasRule", desc := "(I)Z" } : Jvm.MethodName))) 544 (by decide +kernel)) (by decide +kernel)
theorem am_g546 : _ ∈ am_G := am_G_of (am_tb (w := (Jvm.Cond.instanceMethod ({ cls := "SpeciesRounds", name := "hasRule", desc := "(I)Z" } : Jvm.MethodName))) 546 (by decide +kernel)) (by decide +kernel)
theorem am_g547 : _ ∈ am_G := am_G_of (am_tb (w := (Jvm.Cond.code ({ cls := "SpeciesRounds", name := "hasRule", desc := "(I)Z" } : Jvm.MethodName) prog_1_method_17_code (2 : Nat) (Option.some Jvm.ClassFile.FieldType.boolean))) 547 (by decide +kernel)) (by decide +kernel)
theorem am_g548 : _ ∈ am_G := am_G_of (am_tb (w := (Jvm.Cond.methodLink "SpeciesRounds" (167 : Nat) ({ cls := "SpeciesRounds", name := "isOrder", desc := "(I)Z" } : Jvm.MethodName))) 548 (by decide +kernel)) (by decide +kernel)
theorem am_g549 : _ ∈ am_G := am_G_of (am_tb (w := (Jvm.Cond.static ({ cls := "SpeciesRounds", name := "isOrder", desc := "(I)Z" } : Jvm.MethodName))) 549 (by decide +kernel)) (by decide +kernel)
theorem am_g550 : _ ∈ am_G := am_G_of (am_tb (w := (Jvm.Cond.code ({ cls := "SpeciesRounds", name := "isOrder", desc := "(I)Z" } : Jvm.MethodName) prog_1_method_19_code (1 : Nat) (Option.some Jvm.ClassFile.FieldType.boolean))) 550 (by decide +kernel)) (by decide +kernel)
theorem am_g551 : _ ∈ am_G := am_G_of (am_tb (w := (Jvm.Cond.methodLink "SpeciesRounds" (170 : Nat) ({ cls := "SpeciesRounds$Rule", name := "setOrders", desc := "(IIII)V" } : Jvm.MethodName))) 551 (by decide +kernel)) (by decide +kernel)
theorem am_g552 : _ ∈ am_G := am_G_of (am_tb (w := (Jvm.Cond.instanceMethod ({ cls := "SpeciesRounds$Rule", name := "setOrders", desc := "(IIII)V" } : Jvm.MethodName))) 552 (by decide +kernel)) (by decide +kernel)
theorem am_g553 : _ ∈ am_G := am_G_of (am_tb (w := (Jvm.Cond.selects "SpeciesRounds$Rule" ({ cls := "SpeciesRounds$Rule", name := "setOrders", desc := "(IIII)V" } : Jvm.MethodName) ({ cls := "SpeciesRounds$Rule", name := "setOrders", desc := "(IIII)V" } : Jvm.MethodName))) 553 (by decide +kernel)) (by decide +kernel)
theorem am_g554 : _ ∈ am_G := am_G_of (am_tb (w := (Jvm.Cond.code ({ cls := "SpeciesRounds$Rule", name := "setOrders", desc := "(IIII)V" } : Jvm.MethodName) prog_10_method_4_code (5 : Nat) (Option.none : Option Jvm.ClassFile.FieldType))) 554 (by decide +kernel)) (by decide +kernel)
theorem am_g555 : _ ∈ am_G := am_G_of (am_tb (w := (Jvm.Cond.methodLink "SpeciesRounds$Rule" (25 : Nat) ({ cls := "SpeciesRounds$Rule", name := "pairOf", desc := "(II)I" } : Jvm.MethodName))) 555 (by decide +kernel)) (by decide +kernel)
theorem am_g556 : _ ∈ am_G := am_G_of (am_tb (w := (Jvm.Cond.static ({ cls := "SpeciesRounds$Rule", name := "pairOf", desc := "(II)I" } : Jvm.MethodName))) 556 (by decide +kernel)) (by decide +kernel)
theorem am_g557 : _ ∈ am_G := am_G_of (am_tb (w := (Jvm.Cond.code ({ cls := "SpeciesRounds$Rule", name := "pairOf", desc := "(II)I" } : Jvm.MethodName) prog_10_method_2_code (2 : Nat) (Option.some Jvm.ClassFile.FieldType.int))) 557 (by decide +kernel)) (by decide +kernel)
theorem am_g561 : _ ∈ am_G := am_G_of (am_tb (w := (Jvm.Cond.code ({ cls := "SpeciesRounds", name := "matches", desc := "(III)I" } : Jvm.MethodName) prog_1_method_11_code (4 : Nat) (Option.some Jvm.ClassFile.FieldType.int))) 561 (by decide +kernel)) (by decide +kernel)
theorem am_g562 : _ ∈ am_G := am_G_of (am_tb (w := (Jvm.Cond.methodLink "SpeciesRounds" (174 : Nat) ({ cls := "SpeciesRounds", name := "pourMixture", desc := "(II)V" } : Jvm.MethodName))) 562 (by decide +kernel)) (by decide +kernel)
theorem am_g564 : _ ∈ am_G := am_G_of (am_tb (w := (Jvm.Cond.instanceMethod ({ cls := "SpeciesRounds", name := "pourMixture", desc := "(II)V" } : Jvm.MethodName))) 564 (by decide +kernel)) (by decide +kernel)
theorem am_g565 : _ ∈ am_G := am_G_of (am_tb (w := (Jvm.Cond.code ({ cls := "SpeciesRounds", name := "pourMixture", desc := "(II)V" } : Jvm.MethodName) prog_1_method_21_code (3 : Nat) (Option.none : Option Jvm.ClassFile.FieldType))) 565 (by decide +kernel)) (by decide +kernel)
theorem am_g566 : _ ∈ am_G := am_G_of (am_tb (w := (Jvm.Cond.methodLink "SpeciesRounds" (221 : Nat) ({ cls := "SpeciesRounds$Mixture", name := "clear", desc := "()V" } : Jvm.MethodName))) 566 (by decide +kernel)) (by decide +kernel)
theorem am_g567 : _ ∈ am_G := am_G_of (am_tb (w := (Jvm.Cond.instanceMethod ({ cls := "SpeciesRounds$Mixture", name := "clear", desc := "()V" } : Jvm.MethodName))) 567 (by decide +kernel)) (by decide +kernel)
theorem am_g568 : _ ∈ am_G := am_G_of (am_tb (w := (Jvm.Cond.selects "SpeciesRounds$Mixture" ({ cls := "SpeciesRounds$Mixture", name := "clear", desc := "()V" } : Jvm.MethodName) ({ cls := "SpeciesRounds$Mixture", name := "clear", desc := "()V" } : Jvm.MethodName))) 568 (by decide +kernel)) (by decide +kernel)
theorem am_g569 : _ ∈ am_G := am_G_of (am_tb (w := (Jvm.Cond.code ({ cls := "SpeciesRounds$Mixture", name := "clear", desc := "()V" } : Jvm.MethodName) prog_6_method_2_code (1 : Nat) (Option.none : Option Jvm.ClassFile.FieldType))) 569 (by decide +kernel)) (by decide +kernel)
theorem am_g570 : _ ∈ am_G := am_G_of (am_tb (w := (Jvm.Cond.methodLink "SpeciesRounds$Mixture" (20 : Nat) ({ cls := "SpeciesRounds$Graph", name := "clear", desc := "()V" } : Jvm.MethodName))) 570 (by decide +kernel)) (by decide +kernel)
theorem am_g571 : _ ∈ am_G := am_G_of (am_tb (w := (Jvm.Cond.methodLink "SpeciesRounds" (222 : Nat) ({ cls := "SpeciesRounds$Mixture", name := "addMolecule", desc := "(J)V" } : Jvm.MethodName))) 571 (by decide +kernel)) (by decide +kernel)
theorem am_g572 : _ ∈ am_G := am_G_of (am_tb (w := (Jvm.Cond.instanceMethod ({ cls := "SpeciesRounds$Mixture", name := "addMolecule", desc := "(J)V" } : Jvm.MethodName))) 572 (by decide +kernel)) (by decide +kernel)
theorem am_g573 : _ ∈ am_G := am_G_of (am_tb (w := (Jvm.Cond.selects "SpeciesRounds$Mixture" ({ cls := "SpeciesRounds$Mixture", name := "addMolecule", desc := "(J)V" } : Jvm.MethodName) ({ cls := "SpeciesRounds$Mixture", name := "addMolecule", desc := "(J)V" } : Jvm.MethodName))) 573 (by decide +kernel)) (by decide +kernel)
theorem am_g574 : _ ∈ am_G := am_G_of (am_tb (w := (Jvm.Cond.code ({ cls := "SpeciesRounds$Mixture", name := "addMolecule", desc := "(J)V" } : Jvm.MethodName) prog_6_method_3_code (7 : Nat) (Option.none : Option Jvm.ClassFile.FieldType))) 574 (by decide +kernel)) (by decide +kernel)
theorem am_g575 : _ ∈ am_G := am_G_of (am_tb (w := (Jvm.Cond.methodLink "SpeciesRounds$Mixture" (30 : Nat) ({ cls := "SpeciesRounds$Word", name := "atomsOf", desc := "(J)I" } : Jvm.MethodName))) 575 (by decide +kernel)) (by decide +kernel)
theorem am_g576 : _ ∈ am_G := am_G_of (am_tb (w := (Jvm.Cond.methodLink "SpeciesRounds$Mixture" (36 : Nat) ({ cls := "SpeciesRounds$Word", name := "codeOf", desc := "(JI)I" } : Jvm.MethodName))) 576 (by decide +kernel)) (by decide +kernel)
theorem am_g577 : _ ∈ am_G := am_G_of (am_tb (w := (Jvm.Cond.methodLink "SpeciesRounds$Mixture" (40 : Nat) ({ cls := "SpeciesRounds$Graph", name := "addAtom", desc := "(I)I" } : Jvm.MethodName))) 577 (by decide +kernel)) (by decide +kernel)
theorem am_g578 : _ ∈ am_G := am_G_of (am_tb (w := (Jvm.Cond.methodLink "SpeciesRounds$Mixture" (44 : Nat) ({ cls := "SpeciesRounds$Word", name := "orderOf", desc := "(JII)I" } : Jvm.MethodName))) 578 (by decide +kernel)) (by decide +kernel)
theorem am_g579 : _ ∈ am_G := am_G_of (am_tb (w := (Jvm.Cond.methodLink "SpeciesRounds$Mixture" (48 : Nat) ({ cls := "SpeciesRounds$Graph", name := "setOrder", desc := "(III)V" } : Jvm.MethodName))) 579 (by decide +kernel)) (by decide +kernel)
theorem am_g580 : _ ∈ am_G := am_G_of (am_tb (w := (Jvm.Cond.methodLink "SpeciesRounds" (178 : Nat) ({ cls := "SpeciesRounds$Finder", name := "find", desc := "(LSpeciesRounds$Rule;LSpeciesRounds$Mixture;)I" } : Jvm.MethodName))) 580 (by decide +kernel)) (by decide +kernel)
theorem am_g581 : _ ∈ am_G := am_G_of (am_tb (w := (Jvm.Cond.instanceMethod ({ cls := "SpeciesRounds$Finder", name := "find", desc := "(LSpeciesRounds$Rule;LSpeciesRounds$Mixture;)I" } : Jvm.MethodName))) 581 (by decide +kernel)) (by decide +kernel)
theorem am_g582 : _ ∈ am_G := am_G_of (am_tb (w := (Jvm.Cond.selects "SpeciesRounds$Finder" ({ cls := "SpeciesRounds$Finder", name := "find", desc := "(LSpeciesRounds$Rule;LSpeciesRounds$Mixture;)I" } : Jvm.MethodName) ({ cls := "SpeciesRounds$Finder", name := "find", desc := "(LSpeciesRounds$Rule;LSpeciesRounds$Mixture;)I" } : Jvm.MethodName))) 582 (by decide +kernel)) (by decide +kernel)
theorem am_g583 : _ ∈ am_G := am_G_of (am_tb (w := (Jvm.Cond.code ({ cls := "SpeciesRounds$Finder", name := "find", desc := "(LSpeciesRounds$Rule;LSpeciesRounds$Mixture;)I" } : Jvm.MethodName) prog_2_method_2_code (3 : Nat) (Option.some Jvm.ClassFile.FieldType.int))) 583 (by decide +kernel)) (by decide +kernel)
theorem am_g584 : _ ∈ am_G := am_G_of (am_tb (w := (Jvm.Cond.methodLink "SpeciesRounds$Finder" (24 : Nat) ({ cls := "SpeciesRounds$Finder", name := "choose", desc := "(LSpeciesRounds$Rule;LSpeciesRounds$Mixture;I)V" } : Jvm.MethodName))) 584 (by decide +kernel)) (by decide +kernel)
theorem am_g586 : _ ∈ am_G := am_G_of (am_tb (w := (Jvm.Cond.instanceMethod ({ cls := "SpeciesRounds$Finder", name := "choose", desc := "(LSpeciesRounds$Rule;LSpeciesRounds$Mixture;I)V" } : Jvm.MethodName))) 586 (by decide +kernel)) (by decide +kernel)
theorem am_g587 : _ ∈ am_G := am_G_of (am_tb (w := (Jvm.Cond.code ({ cls := "SpeciesRounds$Finder", name := "choose", desc := "(LSpeciesRounds$Rule;LSpeciesRounds$Mixture;I)V" } : Jvm.MethodName) prog_2_method_4_code (5 : Nat) (Option.none : Option Jvm.ClassFile.FieldType))) 587 (by decide +kernel)) (by decide +kernel)
theorem am_g588 : _ ∈ am_G := am_G_of (am_tb (w := (Jvm.Cond.methodLink "SpeciesRounds$Finder" (43 : Nat) ({ cls := "SpeciesRounds$Finder", name := "fits", desc := "(LSpeciesRounds$Rule;LSpeciesRounds$Graph;II)Z" } : Jvm.MethodName))) 588 (by decide +kernel)) (by decide +kernel)
theorem am_g590 : _ ∈ am_G := am_G_of (am_tb (w := (Jvm.Cond.instanceMethod ({ cls := "SpeciesRounds$Finder", name := "fits", desc := "(LSpeciesRounds$Rule;LSpeciesRounds$Graph;II)Z" } : Jvm.MethodName))) 590 (by decide +kernel)) (by decide +kernel)
theorem am_g591 : _ ∈ am_G := am_G_of (am_tb (w := (Jvm.Cond.code ({ cls := "SpeciesRounds$Finder", name := "fits", desc := "(LSpeciesRounds$Rule;LSpeciesRounds$Graph;II)Z" } : Jvm.MethodName) prog_2_method_5_code (7 : Nat) (Option.some Jvm.ClassFile.FieldType.boolean))) 591 (by decide +kernel)) (by decide +kernel)
theorem am_g592 : _ ∈ am_G := am_G_of (am_tb (w := (Jvm.Cond.methodLink "SpeciesRounds$Finder" (70 : Nat) ({ cls := "SpeciesRounds$Rule", name := "pairOf", desc := "(II)I" } : Jvm.MethodName))) 592 (by decide +kernel)) (by decide +kernel)
theorem am_g593 : _ ∈ am_G := am_G_of (am_tb (w := (Jvm.Cond.methodLink "SpeciesRounds$Finder" (52 : Nat) ({ cls := "SpeciesRounds$Mixture", name := "isTouchedWhole", desc := "([II)Z" } : Jvm.MethodName))) 593 (by decide +kernel)) (by decide +kernel)
theorem am_g594 : _ ∈ am_G := am_G_of (am_tb (w := (Jvm.Cond.instanceMethod ({ cls := "SpeciesRounds$Mixture", name := "isTouchedWhole", desc := "([II)Z" } : Jvm.MethodName))) 594 (by decide +kernel)) (by decide +kernel)
theorem am_g595 : _ ∈ am_G := am_G_of (am_tb (w := (Jvm.Cond.selects "SpeciesRounds$Mixture" ({ cls := "SpeciesRounds$Mixture", name := "isTouchedWhole", desc := "([II)Z" } : Jvm.MethodName) ({ cls := "SpeciesRounds$Mixture", name := "isTouchedWhole", desc := "([II)Z" } : Jvm.MethodName))) 595 (by decide +kernel)) (by decide +kernel)
theorem am_g596 : _ ∈ am_G := am_G_of (am_tb (w := (Jvm.Cond.code ({ cls := "SpeciesRounds$Mixture", name := "isTouchedWhole", desc := "([II)Z" } : Jvm.MethodName) prog_6_method_4_code (6 : Nat) (Option.some Jvm.ClassFile.FieldType.boolean))) 596 (by decide +kernel)) (by decide +kernel)
theorem am_g597 : _ ∈ am_G := am_G_of (am_tb (w := (Jvm.Cond.methodLink "SpeciesRounds$Finder" (56 : Nat) ({ cls := "SpeciesRounds$Finder", name := "keep", desc := "()V" } : Jvm.MethodName))) 597 (by decide +kernel)) (by decide +kernel)
theorem am_g599 : _ ∈ am_G := am_G_of (am_tb (w := (Jvm.Cond.instanceMethod ({ cls := "SpeciesRounds$Finder", name := "keep", desc := "()V" } : Jvm.MethodName))) 599 (by decide +kernel)) (by decide +kernel)
theorem am_g600 : _ ∈ am_G := am_G_of (am_tb (w := (Jvm.Cond.code ({ cls := "SpeciesRounds$Finder", name := "keep", desc := "()V" } : Jvm.MethodName) prog_2_method_6_code (1 : Nat) (Option.none : Option Jvm.ClassFile.FieldType))) 600 (by decide +kernel)) (by decide +kernel)
theorem am_g601 : _ ∈ am_G := am_G_of (am_tb (w := (Jvm.Cond.methodLink "SpeciesRounds$Finder" (28 : Nat) ({ cls := "java/lang/System", name := "arraycopy", desc := "(Ljava/lang/Object;ILjava/lang/Object;II)V" } : Jvm.MethodName))) 601 (by decide +kernel)) (by decide +kernel)
theorem am_g602 : _ ∈ am_G := am_G_of (am_tb (w := (Jvm.Cond.static ({ cls := "java/lang/System", name := "arraycopy", desc := "(Ljava/lang/Object;ILjava/lang/Object;II)V" } : Jvm.MethodName))) 602 (by decide +kernel)) (by decide +kernel)
theorem am_g603 : _ ∈ am_G := am_G_of (am_tb (w := (Jvm.Cond.native ({ cls := "java/lang/System", name := "arraycopy", desc := "(Ljava/lang/Object;ILjava/lang/Object;II)V" } : Jvm.MethodName))) 603 (by decide +kernel)) (by decide +kernel)
theorem am_g607 : _ ∈ am_G := am_G_of (am_tb (w := (Jvm.Cond.code ({ cls := "SpeciesRounds", name := "round", desc := "()I" } : Jvm.MethodName) prog_1_method_12_code (4 : Nat) (Option.some Jvm.ClassFile.FieldType.int))) 607 (by decide +kernel)) (by decide +kernel)
theorem am_g608 : _ ∈ am_G := am_G_of (am_tb (w := (Jvm.Cond.methodLink "SpeciesRounds" (182 : Nat) ({ cls := "SpeciesRounds$ReactionList", name := "copyFrom", desc := "(LSpeciesRounds$ReactionList;)V" } : Jvm.MethodName))) 608 (by decide +kernel)) (by decide +kernel)
theorem am_g609 : _ ∈ am_G := am_G_of (am_tb (w := (Jvm.Cond.instanceMethod ({ cls := "SpeciesRounds$ReactionList", name := "copyFrom", desc := "(LSpeciesRounds$ReactionList;)V" } : Jvm.MethodName))) 609 (by decide +kernel)) (by decide +kernel)
theorem am_g610 : _ ∈ am_G := am_G_of (am_tb (w := (Jvm.Cond.selects "SpeciesRounds$ReactionList" ({ cls := "SpeciesRounds$ReactionList", name := "copyFrom", desc := "(LSpeciesRounds$ReactionList;)V" } : Jvm.MethodName) ({ cls := "SpeciesRounds$ReactionList", name := "copyFrom", desc := "(LSpeciesRounds$ReactionList;)V" } : Jvm.MethodName))) 610 (by decide +kernel)) (by decide +kernel)
theorem am_g611 : _ ∈ am_G := am_G_of (am_tb (w := (Jvm.Cond.code ({ cls := "SpeciesRounds$ReactionList", name := "copyFrom", desc := "(LSpeciesRounds$ReactionList;)V" } : Jvm.MethodName) prog_8_method_4_code (2 : Nat) (Option.none : Option Jvm.ClassFile.FieldType))) 611 (by decide +kernel)) (by decide +kernel)
theorem am_g612 : _ ∈ am_G := am_G_of (am_tb (w := (Jvm.Cond.methodLink "SpeciesRounds$ReactionList" (19 : Nat) ({ cls := "java/lang/System", name := "arraycopy", desc := "(Ljava/lang/Object;ILjava/lang/Object;II)V" } : Jvm.MethodName))) 612 (by decide +kernel)) (by decide +kernel)
theorem am_g613 : _ ∈ am_G := am_G_of (am_tb (w := (Jvm.Cond.methodLink "SpeciesRounds" (186 : Nat) ({ cls := "SpeciesRounds", name := "takeMixture", desc := "(II)Z" } : Jvm.MethodName))) 613 (by decide +kernel)) (by decide +kernel)
theorem am_g615 : _ ∈ am_G := am_G_of (am_tb (w := (Jvm.Cond.instanceMethod ({ cls := "SpeciesRounds", name := "takeMixture", desc := "(II)Z" } : Jvm.MethodName))) 615 (by decide +kernel)) (by decide +kernel)
theorem am_g616 : _ ∈ am_G := am_G_of (am_tb (w := (Jvm.Cond.code ({ cls := "SpeciesRounds", name := "takeMixture", desc := "(II)Z" } : Jvm.MethodName) prog_1_method_22_code (6 : Nat) (Option.some Jvm.ClassFile.FieldType.boolean))) 616 (by decide +kernel)) (by decide +kernel)
theorem am_g617 : _ ∈ am_G := am_G_of (am_tb (w := (Jvm.Cond.methodLink "SpeciesRounds" (226 : Nat) ({ cls := "SpeciesRounds$Rule", name := "isIdle", desc := "()Z" } : Jvm.MethodName))) 617 (by decide +kernel)) (by decide +kernel)
theorem am_g618 : _ ∈ am_G := am_G_of (am_tb (w := (Jvm.Cond.instanceMethod ({ cls := "SpeciesRounds$Rule", name := "isIdle", desc := "()Z" } : Jvm.MethodName))) 618 (by decide +kernel)) (by decide +kernel)
theorem am_g619 : _ ∈ am_G := am_G_of (am_tb (w := (Jvm.Cond.selects "SpeciesRounds$Rule" ({ cls := "SpeciesRounds$Rule", name := "isIdle", desc := "()Z" } : Jvm.MethodName) ({ cls := "SpeciesRounds$Rule", name := "isIdle", desc := "()Z" } : Jvm.MethodName))) 619 (by decide +kernel)) (by decide +kernel)
theorem am_g620 : _ ∈ am_G := am_G_of (am_tb (w := (Jvm.Cond.code ({ cls := "SpeciesRounds$Rule", name := "isIdle", desc := "()Z" } : Jvm.MethodName) prog_10_method_5_code (2 : Nat) (Option.some Jvm.ClassFile.FieldType.boolean))) 620 (by decide +kernel)) (by decide +kernel)
theorem am_g621 : _ ∈ am_G := am_G_of (am_tb (w := (Jvm.Cond.methodLink "SpeciesRounds" (229 : Nat) ({ cls := "SpeciesRounds", name := "takeMatch", desc := "(LSpeciesRounds$Rule;III)Z" } : Jvm.MethodName))) 621 (by decide +kernel)) (by decide +kernel)
theorem am_g623 : _ ∈ am_G := am_G_of (am_tb (w := (Jvm.Cond.instanceMethod ({ cls := "SpeciesRounds", name := "takeMatch", desc := "(LSpeciesRounds$Rule;III)Z" } : Jvm.MethodName))) 623 (by decide +kernel)) (by decide +kernel)
theorem am_g624 : _ ∈ am_G := am_G_of (am_tb (w := (Jvm.Cond.code ({ cls := "SpeciesRounds", name := "takeMatch", desc := "(LSpeciesRounds$Rule;III)Z" } : Jvm.MethodName) prog_1_method_23_code (6 : Nat) (Option.some Jvm.ClassFile.FieldType.boolean))) 624 (by decide +kernel)) (by decide +kernel)
theorem am_g625 : _ ∈ am_G := am_G_of (am_tb (w := (Jvm.Cond.methodLink "SpeciesRounds" (233 : Nat) ({ cls := "SpeciesRounds$Finder", name := "recall", desc := "(I)V" } : Jvm.MethodName))) 625 (by decide +kernel)) (by decide +kernel)
theorem am_g626 : _ ∈ am_G := am_G_of (am_tb (w := (Jvm.Cond.instanceMethod ({ cls := "SpeciesRounds$Finder", name := "recall", desc := "(I)V" } : Jvm.MethodName))) 626 (by decide +kernel)) (by decide +kernel)
theorem am_g627 : _ ∈ am_G := am_G_of (am_tb (w := (Jvm.Cond.selects "SpeciesRounds$Finder" ({ cls := "SpeciesRounds$Finder", name := "recall", desc := "(I)V" } : Jvm.MethodName) ({ cls := "SpeciesRounds$Finder", name := "recall", desc := "(I)V" } : Jvm.MethodName))) 627 (by decide +kernel)) (by decide +kernel)
theorem am_g628 : _ ∈ am_G := am_G_of (am_tb (w := (Jvm.Cond.code ({ cls := "SpeciesRounds$Finder", name := "recall", desc := "(I)V" } : Jvm.MethodName) prog_2_method_3_code (2 : Nat) (Option.none : Option Jvm.ClassFile.FieldType))) 628 (by decide +kernel)) (by decide +kernel)
theorem am_g629 : _ ∈ am_G := am_G_of (am_tb (w := (Jvm.Cond.methodLink "SpeciesRounds" (242 : Nat) ({ cls := "SpeciesRounds$Mixture", name := "rewrite", desc := "([II[I)V" } : Jvm.MethodName))) 629 (by decide +kernel)) (by decide +kernel)
theorem am_g630 : _ ∈ am_G := am_G_of (am_tb (w := (Jvm.Cond.instanceMethod ({ cls := "SpeciesRounds$Mixture", name := "rewrite", desc := "([II[I)V" } : Jvm.MethodName))) 630 (by decide +kernel)) (by decide +kernel)
theorem am_g631 : _ ∈ am_G := am_G_of (am_tb (w := (Jvm.Cond.selects "SpeciesRounds$Mixture" ({ cls := "SpeciesRounds$Mixture", name := "rewrite", desc := "([II[I)V" } : Jvm.MethodName) ({ cls := "SpeciesRounds$Mixture", name := "rewrite", desc := "([II[I)V" } : Jvm.MethodName))) 631 (by decide +kernel)) (by decide +kernel)
theorem am_g632 : _ ∈ am_G := am_G_of (am_tb (w := (Jvm.Cond.code ({ cls := "SpeciesRounds$Mixture", name := "rewrite", desc := "([II[I)V" } : Jvm.MethodName) prog_6_method_5_code (6 : Nat) (Option.none : Option Jvm.ClassFile.FieldType))) 632 (by decide +kernel)) (by decide +kernel)
theorem am_g633 : _ ∈ am_G := am_G_of (am_tb (w := (Jvm.Cond.methodLink "SpeciesRounds$Mixture" (52 : Nat) ({ cls := "SpeciesRounds$Rule", name := "pairOf", desc := "(II)I" } : Jvm.MethodName))) 633 (by decide +kernel)) (by decide +kernel)
theorem am_g634 : _ ∈ am_G := am_G_of (am_tb (w := (Jvm.Cond.methodLink "SpeciesRounds" (249 : Nat) ({ cls := "SpeciesRounds$Products", name := "split", desc := "(LSpeciesRounds$Graph;[IIILSpeciesRounds$KeySearch;)Z" } : Jvm.MethodName))) 634 (by decide +kernel)) (by decide +kernel)
theorem am_g635 : _ ∈ am_G := am_G_of (am_tb (w := (Jvm.Cond.instanceMethod ({ cls := "SpeciesRounds$Products", name := "split", desc := "(LSpeciesRounds$Graph;[IIILSpeciesRounds$KeySearch;)Z" } : Jvm.MethodName))) 635 (by decide +kernel)) (by decide +kernel)
theorem am_g636 : _ ∈ am_G := am_G_of (am_tb (w := (Jvm.Cond.selects "SpeciesRounds$Products" ({ cls := "SpeciesRounds$Products", name := "split", desc := "(LSpeciesRounds$Graph;[IIILSpeciesRounds$KeySearch;)Z" } : Jvm.MethodName) ({ cls := "SpeciesRounds$Products", name := "split", desc := "(LSpeciesRounds$Graph;[IIILSpeciesRounds$KeySearch;)Z" } : Jvm.MethodName))) 636 (by decide +kernel)) (by decide +kernel)
theorem am_g637 : _ ∈ am_G := am_G_of (am_tb (w := (Jvm.Cond.code ({ cls := "SpeciesRounds$Products", name := "split", desc := "(LSpeciesRounds$Graph;[IIILSpeciesRounds$KeySearch;)Z" } : Jvm.MethodName) prog_7_method_2_code (8 : Nat) (Option.some Jvm.ClassFile.FieldType.boolean))) 637 (by decide +kernel)) (by decide +kernel)
theorem am_g638 : _ ∈ am_G := am_G_of (am_tb (w := (Jvm.Cond.methodLink "SpeciesRounds$Products" (25 : Nat) ({ cls := "SpeciesRounds$Graph", name := "isOverloaded", desc := "(I)Z" } : Jvm.MethodName))) 638 (by decide +kernel)) (by decide +kernel)
theorem am_g639 : _ ∈ am_G := am_G_of (am_tb (w := (Jvm.Cond.methodLink "SpeciesRounds$Products" (31 : Nat) ({ cls := "SpeciesRounds$Products", name := "gatherJoined", desc := "(LSpeciesRounds$Graph;I)I" } : Jvm.MethodName))) 639 (by decide +kernel)) (by decide +kernel)
theorem am_g641 : _ ∈ am_G := am_G_of (am_tb (w := (Jvm.Cond.instanceMethod ({ cls := "SpeciesRounds$Products", name := "gatherJoined", desc := "(LSpeciesRounds$Graph;I)I" } : Jvm.MethodName))) 641 (by decide +kernel)) (by decide +kernel)
theorem am_g642 : _ ∈ am_G := am_G_of (am_tb (w := (Jvm.Cond.code ({ cls := "SpeciesRounds$Products", name := "gatherJoined", desc := "(LSpeciesRounds$Graph;I)I" } : Jvm.MethodName) prog_7_method_3_code (7 : Nat) (Option.some Jvm.ClassFile.FieldType.int))) 642 (by decide +kernel)) (by decide +kernel)
theorem am_g643 : _ ∈ am_G := am_G_of (am_tb (w := (Jvm.Cond.methodLink "SpeciesRounds$Products" (38 : Nat) ({ cls := "SpeciesRounds$KeySearch", name := "leastWord", desc := "(LSpeciesRounds$Graph;[II)J" } : Jvm.MethodName))) 643 (by decide +kernel)) (by decide +kernel)
theorem am_g644 : _ ∈ am_G := am_G_of (am_tb (w := (Jvm.Cond.methodLink "SpeciesRounds" (256 : Nat) ({ cls := "SpeciesRounds", name := "putReaction", desc := "(II)Z" } : Jvm.MethodName))) 644 (by decide +kernel)) (by decide +kernel)
theorem am_g646 : _ ∈ am_G := am_G_of (am_tb (w := (Jvm.Cond.instanceMethod ({ cls := "SpeciesRounds", name := "putReaction", desc := "(II)Z" } : Jvm.MethodName))) 646 (by decide +kernel)) (by decide +kernel)
theorem am_g647 : _ ∈ am_G := am_G_of (am_tb (w := (Jvm.Cond.code ({ cls := "SpeciesRounds", name := "putReaction", desc := "(II)Z" } : Jvm.MethodName) prog_1_method_24_code (5 : Nat) (Option.some Jvm.ClassFile.FieldType.boolean))) 647 (by decide +kernel)) (by decide +kernel)
theorem am_g648 : _ ∈ am_G := am_G_of (am_tb (w := (Jvm.Cond.methodLink "SpeciesRounds" (261 : Nat) ({ cls := "SpeciesRounds", name := "sortSpan", desc := "([III)V" } : Jvm.MethodName))) 648 (by decide +kernel)) (by decide +kernel)
theorem am_g649 : _ ∈ am_G := am_G_of (am_tb (w := (Jvm.Cond.static ({ cls := "SpeciesRounds", name := "sortSpan", desc := "([III)V" } : Jvm.MethodName))) 649 (by decide +kernel)) (by decide +kernel)
theorem am_g650 : _ ∈ am_G := am_G_of (am_tb (w := (Jvm.Cond.code ({ cls := "SpeciesRounds", name := "sortSpan", desc := "([III)V" } : Jvm.MethodName) prog_1_method_26_code (6 : Nat) (Option.none : Option Jvm.ClassFile.FieldType))) 650 (by decide +kernel)) (by decide +kernel)
theorem am_g651 : _ ∈ am_G := am_G_of (am_tb (w := (Jvm.Cond.methodLink "SpeciesRounds" (265 : Nat) ({ cls := "SpeciesRounds$ReactionList", name := "pack", desc := "([I)I" } : Jvm.MethodName))) 651 (by decide +kernel)) (by decide +kernel)
theorem am_g652 : _ ∈ am_G := am_G_of (am_tb (w := (Jvm.Cond.static ({ cls := "SpeciesRounds$ReactionList", name := "pack", desc := "([I)I" } : Jvm.MethodName))) 652 (by decide +kernel)) (by decide +kernel)
theorem am_g653 : _ ∈ am_G := am_G_of (am_tb (w := (Jvm.Cond.code ({ cls := "SpeciesRounds$ReactionList", name := "pack", desc := "([I)I" } : Jvm.MethodName) prog_8_method_2_code (3 : Nat) (Option.some Jvm.ClassFile.FieldType.int))) 653 (by decide +kernel)) (by decide +kernel)
theorem am_g654 : _ ∈ am_G := am_G_of (am_tb (w := (Jvm.Cond.methodLink "SpeciesRounds" (269 : Nat) ({ cls := "SpeciesRounds$ReactionList", name := "put", desc := "(I)Z" } : Jvm.MethodName))) 654 (by decide +kernel)) (by decide +kernel)
theorem am_g655 : _ ∈ am_G := am_G_of (am_tb (w := (Jvm.Cond.instanceMethod ({ cls := "SpeciesRounds$ReactionList", name := "put", desc := "(I)Z" } : Jvm.MethodName))) 655 (by decide +kernel)) (by decide +kernel)
theorem am_g656 : _ ∈ am_G := am_G_of (am_tb (w := (Jvm.Cond.selects "SpeciesRounds$ReactionList" ({ cls := "SpeciesRounds$ReactionList", name := "put", desc := "(I)Z" } : Jvm.MethodName) ({ cls := "SpeciesRounds$ReactionList", name := "put", desc := "(I)Z" } : Jvm.MethodName))) 656 (by decide +kernel)) (by decide +kernel)
theorem am_g657 : _ ∈ am_G := am_G_of (am_tb (w := (Jvm.Cond.code ({ cls := "SpeciesRounds$ReactionList", name := "put", desc := "(I)Z" } : Jvm.MethodName) prog_8_method_5_code (3 : Nat) (Option.some Jvm.ClassFile.FieldType.boolean))) 657 (by decide +kernel)) (by decide +kernel)
theorem am_g658 : _ ∈ am_G := am_G_of (am_tb (w := (Jvm.Cond.methodLink "SpeciesRounds$ReactionList" (25 : Nat) ({ cls := "SpeciesRounds$ReactionList", name := "holds", desc := "(I)Z" } : Jvm.MethodName))) 658 (by decide +kernel)) (by decide +kernel)
theorem am_g660 : _ ∈ am_G := am_G_of (am_tb (w := (Jvm.Cond.instanceMethod ({ cls := "SpeciesRounds$ReactionList", name := "holds", desc := "(I)Z" } : Jvm.MethodName))) 660 (by decide +kernel)) (by decide +kernel)
theorem am_g661 : _ ∈ am_G := am_G_of (am_tb (w := (Jvm.Cond.code ({ cls := "SpeciesRounds$ReactionList", name := "holds", desc := "(I)Z" } : Jvm.MethodName) prog_8_method_6_code (3 : Nat) (Option.some Jvm.ClassFile.FieldType.boolean))) 661 (by decide +kernel)) (by decide +kernel)
theorem am_g662 : _ ∈ am_G := am_G_of (am_tb (w := (Jvm.Cond.methodLink "SpeciesRounds" (189 : Nat) ({ cls := "SpeciesRounds$Table", name := "keepFirst", desc := "(I)V" } : Jvm.MethodName))) 662 (by decide +kernel)) (by decide +kernel)
theorem am_g663 : _ ∈ am_G := am_G_of (am_tb (w := (Jvm.Cond.instanceMethod ({ cls := "SpeciesRounds$Table", name := "keepFirst", desc := "(I)V" } : Jvm.MethodName))) 663 (by decide +kernel)) (by decide +kernel)
theorem am_g664 : _ ∈ am_G := am_G_of (am_tb (w := (Jvm.Cond.selects "SpeciesRounds$Table" ({ cls := "SpeciesRounds$Table", name := "keepFirst", desc := "(I)V" } : Jvm.MethodName) ({ cls := "SpeciesRounds$Table", name := "keepFirst", desc := "(I)V" } : Jvm.MethodName))) 664 (by decide +kernel)) (by decide +kernel)
theorem am_g665 : _ ∈ am_G := am_G_of (am_tb (w := (Jvm.Cond.code ({ cls := "SpeciesRounds$Table", name := "keepFirst", desc := "(I)V" } : Jvm.MethodName) prog_11_method_3_code (2 : Nat) (Option.none : Option Jvm.ClassFile.FieldType))) 665 (by decide +kernel)) (by decide +kernel)
theorem am_g666 : _ ∈ am_G := am_G_of (am_tb (w := (Jvm.Cond.methodLink "SpeciesRounds" (193 : Nat) ({ cls := "SpeciesRounds$Table", name := "sortFrom", desc := "(I)V" } : Jvm.MethodName))) 666 (by decide +kernel)) (by decide +kernel)
theorem am_g667 : _ ∈ am_G := am_G_of (am_tb (w := (Jvm.Cond.instanceMethod ({ cls := "SpeciesRounds$Table", name := "sortFrom", desc := "(I)V" } : Jvm.MethodName))) 667 (by decide +kernel)) (by decide +kernel)
theorem am_g668 : _ ∈ am_G := am_G_of (am_tb (w := (Jvm.Cond.selects "SpeciesRounds$Table" ({ cls := "SpeciesRounds$Table", name := "sortFrom", desc := "(I)V" } : Jvm.MethodName) ({ cls := "SpeciesRounds$Table", name := "sortFrom", desc := "(I)V" } : Jvm.MethodName))) 668 (by decide +kernel)) (by decide +kernel)
theorem am_g669 : _ ∈ am_G := am_G_of (am_tb (w := (Jvm.Cond.code ({ cls := "SpeciesRounds$Table", name := "sortFrom", desc := "(I)V" } : Jvm.MethodName) prog_11_method_4_code (6 : Nat) (Option.none : Option Jvm.ClassFile.FieldType))) 669 (by decide +kernel)) (by decide +kernel)
theorem am_g670 : _ ∈ am_G := am_G_of (am_tb (w := (Jvm.Cond.methodLink "SpeciesRounds$Table" (23 : Nat) ({ cls := "SpeciesRounds$Table", name := "countLess", desc := "(IJ)I" } : Jvm.MethodName))) 670 (by decide +kernel)) (by decide +kernel)
theorem am_g672 : _ ∈ am_G := am_G_of (am_tb (w := (Jvm.Cond.instanceMethod ({ cls := "SpeciesRounds$Table", name := "countLess", desc := "(IJ)I" } : Jvm.MethodName))) 672 (by decide +kernel)) (by decide +kernel)
theorem am_g673 : _ ∈ am_G := am_G_of (am_tb (w := (Jvm.Cond.code ({ cls := "SpeciesRounds$Table", name := "countLess", desc := "(IJ)I" } : Jvm.MethodName) prog_11_method_5_code (6 : Nat) (Option.some Jvm.ClassFile.FieldType.int))) 673 (by decide +kernel)) (by decide +kernel)
theorem am_g674 : _ ∈ am_G := am_G_of (am_tb (w := (Jvm.Cond.methodLink "SpeciesRounds" (196 : Nat) ({ cls := "SpeciesRounds", name := "listDraft", desc := "()V" } : Jvm.MethodName))) 674 (by decide +kernel)) (by decide +kernel)
theorem am_g676 : _ ∈ am_G := am_G_of (am_tb (w := (Jvm.Cond.instanceMethod ({ cls := "SpeciesRounds", name := "listDraft", desc := "()V" } : Jvm.MethodName))) 676 (by decide +kernel)) (by decide +kernel)
theorem am_g677 : _ ∈ am_G := am_G_of (am_tb (w := (Jvm.Cond.code ({ cls := "SpeciesRounds", name := "listDraft", desc := "()V" } : Jvm.MethodName) prog_1_method_25_code (4 : Nat) (Option.none : Option Jvm.ClassFile.FieldType))) 677 (by decide +kernel)) (by decide +kernel)
theorem am_g678 : _ ∈ am_G := am_G_of (am_tb (w := (Jvm.Cond.methodLink "SpeciesRounds" (200 : Nat) ({ cls := "SpeciesRounds$ReactionList", name := "numberAt", desc := "(II)I" } : Jvm.MethodName))) 678 (by decide +kernel)) (by decide +kernel)
theorem am_g679 : _ ∈ am_G := am_G_of (am_tb (w := (Jvm.Cond.instanceMethod ({ cls := "SpeciesRounds$ReactionList", name := "numberAt", desc := "(II)I" } : Jvm.MethodName))) 679 (by decide +kernel)) (by decide +kernel)
theorem am_g680 : _ ∈ am_G := am_G_of (am_tb (w := (Jvm.Cond.selects "SpeciesRounds$ReactionList" ({ cls := "SpeciesRounds$ReactionList", name := "numberAt", desc := "(II)I" } : Jvm.MethodName) ({ cls := "SpeciesRounds$ReactionList", name := "numberAt", desc := "(II)I" } : Jvm.MethodName))) 680 (by decide +kernel)) (by decide +kernel)
theorem am_g681 : _ ∈ am_G := am_G_of (am_tb (w := (Jvm.Cond.code ({ cls := "SpeciesRounds$ReactionList", name := "numberAt", desc := "(II)I" } : Jvm.MethodName) prog_8_method_3_code (3 : Nat) (Option.some Jvm.ClassFile.FieldType.int))) 681 (by decide +kernel)) (by decide +kernel)
theorem am_g685 : _ ∈ am_G := am_G_of (am_tb (w := (Jvm.Cond.code ({ cls := "SpeciesRounds", name := "reactions", desc := "()I" } : Jvm.MethodName) prog_1_method_13_code (1 : Nat) (Option.some Jvm.ClassFile.FieldType.int))) 685 (by decide +kernel)) (by decide +kernel)
theorem am_g689 : _ ∈ am_G := am_G_of (am_tb (w := (Jvm.Cond.code ({ cls := "SpeciesRounds", name := "reaction", desc := "(II)I" } : Jvm.MethodName) prog_1_method_14_code (3 : Nat) (Option.some Jvm.ClassFile.FieldType.int))) 689 (by decide +kernel)) (by decide +kernel)
theorem am_g692 : _ ∈ am_G := am_G_of (am_tb (w := (Jvm.Cond.code ({ cls := "SpeciesRoundsLaw", name := "cell", desc := "([II)I" } : Jvm.MethodName) method_2_code (2 : Nat) (Option.some Jvm.ClassFile.FieldType.int))) 692 (by decide +kernel)) (by decide +kernel)
theorem am_g697 : _ ∈ am_G := am_G_of (am_tb (w := (Jvm.Cond.code ({ cls := "SpeciesRoundsModel", name := "<init>", desc := "(I)V" } : Jvm.MethodName) prog_14_method_1_code (2 : Nat) (Option.none : Option Jvm.ClassFile.FieldType))) 697 (by decide +kernel)) (by decide +kernel)
theorem am_g698 : _ ∈ am_G := am_G_of (am_tb (w := (Jvm.Cond.methodLink "SpeciesRoundsModel" (1 : Nat) ({ cls := "java/lang/Object", name := "<init>", desc := "()V" } : Jvm.MethodName))) 698 (by decide +kernel)) (by decide +kernel)
theorem am_g699 : _ ∈ am_G := am_G_of (am_tb (w := (Jvm.Cond.fieldLink "SpeciesRoundsModel" (80 : Nat) "SpeciesRoundsModel" "cap" "I")) 699 (by decide +kernel)) (by decide +kernel)
theorem am_g700 : _ ∈ am_G := am_G_of (am_tb (w := (Jvm.Cond.fieldLink "SpeciesRoundsModel" (7 : Nat) "SpeciesRoundsModel" "line" "[I")) 700 (by decide +kernel)) (by decide +kernel)
theorem am_g701 : _ ∈ am_G := am_G_of (am_tb (w := (Jvm.Cond.fieldLink "SpeciesRoundsModel" (84 : Nat) "SpeciesRoundsModel" "typed" "I")) 701 (by decide +kernel)) (by decide +kernel)
theorem am_g702 : _ ∈ am_G := am_G_of (am_tb (w := (Jvm.Cond.fieldLink "SpeciesRoundsModel" (134 : Nat) "SpeciesRoundsModel" "count" "I")) 702 (by decide +kernel)) (by decide +kernel)
theorem am_g703 : _ ∈ am_G := am_G_of (am_tb (w := (Jvm.Cond.fieldLink "SpeciesRoundsModel" (13 : Nat) "SpeciesRoundsModel" "keys" "[J")) 703 (by decide +kernel)) (by decide +kernel)
theorem am_g704 : _ ∈ am_G := am_G_of (am_tb (w := (Jvm.Cond.fieldLink "SpeciesRoundsModel" (161 : Nat) "SpeciesRoundsModel" "rules" "I")) 704 (by decide +kernel)) (by decide +kernel)
theorem am_g705 : _ ∈ am_G := am_G_of (am_tb (w := (Jvm.Cond.fieldLink "SpeciesRoundsModel" (17 : Nat) "SpeciesRoundsModel" "places" "[I")) 705 (by decide +kernel)) (by decide +kernel)
theorem am_g706 : _ ∈ am_G := am_G_of (am_tb (w := (Jvm.Cond.fieldLink "SpeciesRoundsModel" (20 : Nat) "SpeciesRoundsModel" "letters" "[I")) 706 (by decide +kernel)) (by decide +kernel)
theorem am_g707 : _ ∈ am_G := am_G_of (am_tb (w := (Jvm.Cond.fieldLink "SpeciesRoundsModel" (23 : Nat) "SpeciesRoundsModel" "before" "[I")) 707 (by decide +kernel)) (by decide +kernel)
theorem am_g708 : _ ∈ am_G := am_G_of (am_tb (w := (Jvm.Cond.fieldLink "SpeciesRoundsModel" (26 : Nat) "SpeciesRoundsModel" "after" "[I")) 708 (by decide +kernel)) (by decide +kernel)
theorem am_g709 : _ ∈ am_G := am_G_of (am_tb (w := (Jvm.Cond.fieldLink "SpeciesRoundsModel" (214 : Nat) "SpeciesRoundsModel" "listed" "I")) 709 (by decide +kernel)) (by decide +kernel)
theorem am_g710 : _ ∈ am_G := am_G_of (am_tb (w := (Jvm.Cond.fieldLink "SpeciesRoundsModel" (29 : Nat) "SpeciesRoundsModel" "list" "[I")) 710 (by decide +kernel)) (by decide +kernel)
theorem am_g711 : _ ∈ am_G := am_G_of (am_tb (w := (Jvm.Cond.fieldLink "SpeciesRoundsModel" (199 : Nat) "SpeciesRoundsModel" "rows" "I")) 711 (by decide +kernel)) (by decide +kernel)
theorem am_g712 : _ ∈ am_G := am_G_of (am_tb (w := (Jvm.Cond.fieldLink "SpeciesRoundsModel" (32 : Nat) "SpeciesRoundsModel" "row" "[I")) 712 (by decide +kernel)) (by decide +kernel)
theorem am_g713 : _ ∈ am_G := am_G_of (am_tb (w := (Jvm.Cond.fieldLink "SpeciesRoundsModel" (35 : Nat) "SpeciesRoundsModel" "one" "[I")) 713 (by decide +kernel)) (by decide +kernel)
theorem am_g714 : _ ∈ am_G := am_G_of (am_tb (w := (Jvm.Cond.fieldLink "SpeciesRoundsModel" (181 : Nat) "SpeciesRoundsModel" "found" "I")) 714 (by decide +kernel)) (by decide +kernel)
theorem am_g715 : _ ∈ am_G := am_G_of (am_tb (w := (Jvm.Cond.fieldLink "SpeciesRoundsModel" (38 : Nat) "SpeciesRoundsModel" "fresh" "[J")) 715 (by decide +kernel)) (by decide +kernel)
theorem am_g716 : _ ∈ am_G := am_G_of (am_tb (w := (Jvm.Cond.fieldLink "SpeciesRoundsModel" (41 : Nat) "SpeciesRoundsModel" "place" "[I")) 716 (by decide +kernel)) (by decide +kernel)
theorem am_g717 : _ ∈ am_G := am_G_of (am_tb (w := (Jvm.Cond.fieldLink "SpeciesRoundsModel" (184 : Nat) "SpeciesRoundsModel" "over" "Z")) 717 (by decide +kernel)) (by decide +kernel)
theorem am_g718 : _ ∈ am_G := am_G_of (am_tb (w := (Jvm.Cond.fieldLink "SpeciesRoundsModel" (102 : Nat) "SpeciesRoundsModel" "atoms" "I")) 718 (by decide +kernel)) (by decide +kernel)
theorem am_g719 : _ ∈ am_G := am_G_of (am_tb (w := (Jvm.Cond.fieldLink "SpeciesRoundsModel" (44 : Nat) "SpeciesRoundsModel" "letter" "[I")) 719 (by decide +kernel)) (by decide +kernel)
theorem am_g720 : _ ∈ am_G := am_G_of (am_tb (w := (Jvm.Cond.fieldLink "SpeciesRoundsModel" (47 : Nat) "SpeciesRoundsModel" "order" "[I")) 720 (by decide +kernel)) (by decide +kernel)
theorem am_g721 : _ ∈ am_G := am_G_of (am_tb (w := (Jvm.Cond.fieldLink "SpeciesRoundsModel" (50 : Nat) "SpeciesRoundsModel" "stack" "[I")) 721 (by decide +kernel)) (by decide +kernel)
theorem am_g722 : _ ∈ am_G := am_G_of (am_tb (w := (Jvm.Cond.fieldLink "SpeciesRoundsModel" (98 : Nat) "SpeciesRoundsModel" "wrong" "Z")) 722 (by decide +kernel)) (by decide +kernel)
theorem am_g723 : _ ∈ am_G := am_G_of (am_tb (w := (Jvm.Cond.fieldLink "SpeciesRoundsModel" (117 : Nat) "SpeciesRoundsModel" "many" "I")) 723 (by decide +kernel)) (by decide +kernel)
theorem am_g724 : _ ∈ am_G := am_G_of (am_tb (w := (Jvm.Cond.fieldLink "SpeciesRoundsModel" (53 : Nat) "SpeciesRoundsModel" "code" "[I")) 724 (by decide +kernel)) (by decide +kernel)
theorem am_g725 : _ ∈ am_G := am_G_of (am_tb (w := (Jvm.Cond.fieldLink "SpeciesRoundsModel" (56 : Nat) "SpeciesRoundsModel" "molecule" "[I")) 725 (by decide +kernel)) (by decide +kernel)
theorem am_g726 : _ ∈ am_G := am_G_of (am_tb (w := (Jvm.Cond.fieldLink "SpeciesRoundsModel" (59 : Nat) "SpeciesRoundsModel" "bonds" "[I")) 726 (by decide +kernel)) (by decide +kernel)
theorem am_g727 : _ ∈ am_G := am_G_of (am_tb (w := (Jvm.Cond.fieldLink "SpeciesRoundsModel" (62 : Nat) "SpeciesRoundsModel" "then" "[I")) 727 (by decide +kernel)) (by decide +kernel)
theorem am_g728 : _ ∈ am_G := am_G_of (am_tb (w := (Jvm.Cond.fieldLink "SpeciesRoundsModel" (65 : Nat) "SpeciesRoundsModel" "part" "[I")) 728 (by decide +kernel)) (by decide +kernel)
theorem am_g729 : _ ∈ am_G := am_G_of (am_tb (w := (Jvm.Cond.fieldLink "SpeciesRoundsModel" (68 : Nat) "SpeciesRoundsModel" "chosen" "[I")) 729 (by decide +kernel)) (by decide +kernel)
theorem am_g730 : _ ∈ am_G := am_G_of (am_tb (w := (Jvm.Cond.fieldLink "SpeciesRoundsModel" (123 : Nat) "SpeciesRoundsModel" "size" "I")) 730 (by decide +kernel)) (by decide +kernel)
theorem am_g731 : _ ∈ am_G := am_G_of (am_tb (w := (Jvm.Cond.fieldLink "SpeciesRoundsModel" (71 : Nat) "SpeciesRoundsModel" "member" "[I")) 731 (by decide +kernel)) (by decide +kernel)
theorem am_g732 : _ ∈ am_G := am_G_of (am_tb (w := (Jvm.Cond.fieldLink "SpeciesRoundsModel" (74 : Nat) "SpeciesRoundsModel" "turn" "[I")) 732 (by decide +kernel)) (by decide +kernel)
theorem am_g733 : _ ∈ am_G := am_G_of (am_tb (w := (Jvm.Cond.fieldLink "SpeciesRoundsModel" (190 : Nat) "SpeciesRoundsModel" "made" "I")) 733 (by decide +kernel)) (by decide +kernel)
theorem am_g734 : _ ∈ am_G := am_G_of (am_tb (w := (Jvm.Cond.fieldLink "SpeciesRoundsModel" (77 : Nat) "SpeciesRoundsModel" "product" "[I")) 734 (by decide +kernel)) (by decide +kernel)
theorem am_g811 : _ ∈ am_G := am_G_of (am_tb (w := (Jvm.Cond.code ({ cls := "SpeciesRoundsModel", name := "key", desc := "(C)Z" } : Jvm.MethodName) prog_14_method_2_code (2 : Nat) (Option.some Jvm.ClassFile.FieldType.boolean))) 811 (by decide +kernel)) (by decide +kernel)
theorem am_g815 : _ ∈ am_G := am_G_of (am_tb (w := (Jvm.Cond.code ({ cls := "SpeciesRoundsModel", name := "back", desc := "()Z" } : Jvm.MethodName) prog_14_method_3_code (1 : Nat) (Option.some Jvm.ClassFile.FieldType.boolean))) 815 (by decide +kernel)) (by decide +kernel)
theorem am_g819 : _ ∈ am_G := am_G_of (am_tb (w := (Jvm.Cond.code ({ cls := "SpeciesRoundsModel", name := "enter", desc := "()I" } : Jvm.MethodName) prog_14_method_10_code (6 : Nat) (Option.some Jvm.ClassFile.FieldType.int))) 819 (by decide +kernel)) (by decide +kernel)
theorem am_g820 : _ ∈ am_G := am_G_of (am_tb (w := (Jvm.Cond.methodLink "SpeciesRoundsModel" (109 : Nat) ({ cls := "SpeciesRoundsModel", name := "fault", desc := "()I" } : Jvm.MethodName))) 820 (by decide +kernel)) (by decide +kernel)
theorem am_g822 : _ ∈ am_G := am_G_of (am_tb (w := (Jvm.Cond.instanceMethod ({ cls := "SpeciesRoundsModel", name := "fault", desc := "()I" } : Jvm.MethodName))) 822 (by decide +kernel)) (by decide +kernel)
theorem am_g823 : _ ∈ am_G := am_G_of (am_tb (w := (Jvm.Cond.code ({ cls := "SpeciesRoundsModel", name := "fault", desc := "()I" } : Jvm.MethodName) prog_14_method_7_code (4 : Nat) (Option.some Jvm.ClassFile.FieldType.int))) 823 (by decide +kernel)) (by decide +kernel)
theorem am_g824 : _ ∈ am_G := am_G_of (am_tb (w := (Jvm.Cond.methodLink "SpeciesRoundsModel" (94 : Nat) ({ cls := "SpeciesRoundsModel", name := "next", desc := "(III)I" } : Jvm.MethodName))) 824 (by decide +kernel)) (by decide +kernel)
theorem am_g825 : _ ∈ am_G := am_G_of (am_tb (w := (Jvm.Cond.static ({ cls := "SpeciesRoundsModel", name := "next", desc := "(III)I" } : Jvm.MethodName))) 825 (by decide +kernel)) (by decide +kernel)
theorem am_g826 : _ ∈ am_G := am_G_of (am_tb (w := (Jvm.Cond.code ({ cls := "SpeciesRoundsModel", name := "next", desc := "(III)I" } : Jvm.MethodName) prog_14_method_6_code (3 : Nat) (Option.some Jvm.ClassFile.FieldType.int))) 826 (by decide +kernel)) (by decide +kernel)
theorem am_g827 : _ ∈ am_G := am_G_of (am_tb (w := (Jvm.Cond.methodLink "SpeciesRoundsModel" (87 : Nat) ({ cls := "SpeciesRoundsModel", name := "codeOf", desc := "(I)I" } : Jvm.MethodName))) 827 (by decide +kernel)) (by decide +kernel)
theorem am_g828 : _ ∈ am_G := am_G_of (am_tb (w := (Jvm.Cond.static ({ cls := "SpeciesRoundsModel", name := "codeOf", desc := "(I)I" } : Jvm.MethodName))) 828 (by decide +kernel)) (by decide +kernel)
theorem am_g829 : _ ∈ am_G := am_G_of (am_tb (w := (Jvm.Cond.code ({ cls := "SpeciesRoundsModel", name := "codeOf", desc := "(I)I" } : Jvm.MethodName) prog_14_method_4_code (1 : Nat) (Option.some Jvm.ClassFile.FieldType.int))) 829 (by decide +kernel)) (by decide +kernel)
theorem am_g830 : _ ∈ am_G := am_G_of (am_tb (w := (Jvm.Cond.methodLink "SpeciesRoundsModel" (91 : Nat) ({ cls := "SpeciesRoundsModel", name := "linkOf", desc := "(I)I" } : Jvm.MethodName))) 830 (by decide +kernel)) (by decide +kernel)
theorem am_g831 : _ ∈ am_G := am_G_of (am_tb (w := (Jvm.Cond.static ({ cls := "SpeciesRoundsModel", name := "linkOf", desc := "(I)I" } : Jvm.MethodName))) 831 (by decide +kernel)) (by decide +kernel)
theorem am_g832 : _ ∈ am_G := am_G_of (am_tb (w := (Jvm.Cond.code ({ cls := "SpeciesRoundsModel", name := "linkOf", desc := "(I)I" } : Jvm.MethodName) prog_14_method_5_code (1 : Nat) (Option.some Jvm.ClassFile.FieldType.int))) 832 (by decide +kernel)) (by decide +kernel)
theorem am_g833 : _ ∈ am_G := am_G_of (am_tb (w := (Jvm.Cond.methodLink "SpeciesRoundsModel" (113 : Nat) ({ cls := "SpeciesRoundsModel", name := "read", desc := "()Z" } : Jvm.MethodName))) 833 (by decide +kernel)) (by decide +kernel)
theorem am_g835 : _ ∈ am_G := am_G_of (am_tb (w := (Jvm.Cond.instanceMethod ({ cls := "SpeciesRoundsModel", name := "read", desc := "()Z" } : Jvm.MethodName))) 835 (by decide +kernel)) (by decide +kernel)
theorem am_g836 : _ ∈ am_G := am_G_of (am_tb (w := (Jvm.Cond.code ({ cls := "SpeciesRoundsModel", name := "read", desc := "()Z" } : Jvm.MethodName) prog_14_method_9_code (12 : Nat) (Option.some Jvm.ClassFile.FieldType.boolean))) 836 (by decide +kernel)) (by decide +kernel)
theorem am_g837 : _ ∈ am_G := am_G_of (am_tb (w := (Jvm.Cond.methodLink "SpeciesRoundsModel" (105 : Nat) ({ cls := "SpeciesRoundsModel", name := "tie", desc := "(III)V" } : Jvm.MethodName))) 837 (by decide +kernel)) (by decide +kernel)
theorem am_g839 : _ ∈ am_G := am_G_of (am_tb (w := (Jvm.Cond.instanceMethod ({ cls := "SpeciesRoundsModel", name := "tie", desc := "(III)V" } : Jvm.MethodName))) 839 (by decide +kernel)) (by decide +kernel)
theorem am_g840 : _ ∈ am_G := am_G_of (am_tb (w := (Jvm.Cond.code ({ cls := "SpeciesRoundsModel", name := "tie", desc := "(III)V" } : Jvm.MethodName) prog_14_method_8_code (4 : Nat) (Option.none : Option Jvm.ClassFile.FieldType))) 840 (by decide +kernel)) (by decide +kernel)
theorem am_g841 : _ ∈ am_G := am_G_of (am_tb (w := (Jvm.Cond.methodLink "SpeciesRoundsModel" (120 : Nat) ({ cls := "SpeciesRoundsModel", name := "load", desc := "(I)I" } : Jvm.MethodName))) 841 (by decide +kernel)) (by decide +kernel)
theorem am_g843 : _ ∈ am_G := am_G_of (am_tb (w := (Jvm.Cond.instanceMethod ({ cls := "SpeciesRoundsModel", name := "load", desc := "(I)I" } : Jvm.MethodName))) 843 (by decide +kernel)) (by decide +kernel)
theorem am_g844 : _ ∈ am_G := am_G_of (am_tb (w := (Jvm.Cond.code ({ cls := "SpeciesRoundsModel", name := "load", desc := "(I)I" } : Jvm.MethodName) prog_14_method_11_code (4 : Nat) (Option.some Jvm.ClassFile.FieldType.int))) 844 (by decide +kernel)) (by decide +kernel)
theorem am_g845 : _ ∈ am_G := am_G_of (am_tb (w := (Jvm.Cond.methodLink "SpeciesRoundsModel" (126 : Nat) ({ cls := "SpeciesRoundsModel", name := "least", desc := "()J" } : Jvm.MethodName))) 845 (by decide +kernel)) (by decide +kernel)
theorem am_g847 : _ ∈ am_G := am_G_of (am_tb (w := (Jvm.Cond.instanceMethod ({ cls := "SpeciesRoundsModel", name := "least", desc := "()J" } : Jvm.MethodName))) 847 (by decide +kernel)) (by decide +kernel)
theorem am_g848 : _ ∈ am_G := am_G_of (am_tb (w := (Jvm.Cond.code ({ cls := "SpeciesRoundsModel", name := "least", desc := "()J" } : Jvm.MethodName) prog_14_method_15_code (6 : Nat) (Option.some Jvm.ClassFile.FieldType.long))) 848 (by decide +kernel)) (by decide +kernel)
theorem am_g849 : _ ∈ am_G := am_G_of (am_tb (w := (Jvm.Cond.methodLink "SpeciesRoundsModel" (139 : Nat) ({ cls := "SpeciesRoundsModel", name := "word", desc := "()J" } : Jvm.MethodName))) 849 (by decide +kernel)) (by decide +kernel)
theorem am_g851 : _ ∈ am_G := am_G_of (am_tb (w := (Jvm.Cond.instanceMethod ({ cls := "SpeciesRoundsModel", name := "word", desc := "()J" } : Jvm.MethodName))) 851 (by decide +kernel)) (by decide +kernel)
theorem am_g852 : _ ∈ am_G := am_G_of (am_tb (w := (Jvm.Cond.code ({ cls := "SpeciesRoundsModel", name := "word", desc := "()J" } : Jvm.MethodName) prog_14_method_13_code (6 : Nat) (Option.some Jvm.ClassFile.FieldType.long))) 852 (by decide +kernel)) (by decide +kernel)
theorem am_g853 : _ ∈ am_G := am_G_of (am_tb (w := (Jvm.Cond.constantLong "SpeciesRoundsModel" (137 : Nat) (8 : Int64))) 853 (by decide +kernel)) (by decide +kernel)
theorem am_g854 : _ ∈ am_G := am_G_of (am_tb (w := (Jvm.Cond.methodLink "SpeciesRoundsModel" (142 : Nat) ({ cls := "SpeciesRoundsModel", name := "advance", desc := "()Z" } : Jvm.MethodName))) 854 (by decide +kernel)) (by decide +kernel)
theorem am_g856 : _ ∈ am_G := am_G_of (am_tb (w := (Jvm.Cond.instanceMethod ({ cls := "SpeciesRoundsModel", name := "advance", desc := "()Z" } : Jvm.MethodName))) 856 (by decide +kernel)) (by decide +kernel)
theorem am_g857 : _ ∈ am_G := am_G_of (am_tb (w := (Jvm.Cond.code ({ cls := "SpeciesRoundsModel", name := "advance", desc := "()Z" } : Jvm.MethodName) prog_14_method_14_code (6 : Nat) (Option.some Jvm.ClassFile.FieldType.boolean))) 857 (by decide +kernel)) (by decide +kernel)
theorem am_g858 : _ ∈ am_G := am_G_of (am_tb (w := (Jvm.Cond.methodLink "SpeciesRoundsModel" (130 : Nat) ({ cls := "SpeciesRoundsModel", name := "numberOf", desc := "(J)I" } : Jvm.MethodName))) 858 (by decide +kernel)) (by decide +kernel)
theorem am_g860 : _ ∈ am_G := am_G_of (am_tb (w := (Jvm.Cond.instanceMethod ({ cls := "SpeciesRoundsModel", name := "numberOf", desc := "(J)I" } : Jvm.MethodName))) 860 (by decide +kernel)) (by decide +kernel)
theorem am_g861 : _ ∈ am_G := am_G_of (am_tb (w := (Jvm.Cond.code ({ cls := "SpeciesRoundsModel", name := "numberOf", desc := "(J)I" } : Jvm.MethodName) prog_14_method_12_code (4 : Nat) (Option.some Jvm.ClassFile.FieldType.int))) 861 (by decide +kernel)) (by decide +kernel)
theorem am_g865 : _ ∈ am_G := am_G_of (am_tb (w := (Jvm.Cond.code ({ cls := "SpeciesRoundsModel", name := "species", desc := "()I" } : Jvm.MethodName) prog_14_method_18_code (1 : Nat) (Option.some Jvm.ClassFile.FieldType.int))) 865 (by decide +kernel)) (by decide +kernel)
theorem am_g869 : _ ∈ am_G := am_G_of (am_tb (w := (Jvm.Cond.code ({ cls := "SpeciesRoundsModel", name := "size", desc := "(I)I" } : Jvm.MethodName) prog_14_method_20_code (2 : Nat) (Option.some Jvm.ClassFile.FieldType.int))) 869 (by decide +kernel)) (by decide +kernel)
theorem am_g870 : _ ∈ am_G := am_G_of (am_tb (w := (Jvm.Cond.methodLink "SpeciesRoundsModel" (149 : Nat) ({ cls := "SpeciesRoundsModel", name := "isSpecies", desc := "(I)Z" } : Jvm.MethodName))) 870 (by decide +kernel)) (by decide +kernel)
theorem am_g872 : _ ∈ am_G := am_G_of (am_tb (w := (Jvm.Cond.instanceMethod ({ cls := "SpeciesRoundsModel", name := "isSpecies", desc := "(I)Z" } : Jvm.MethodName))) 872 (by decide +kernel)) (by decide +kernel)
theorem am_g873 : _ ∈ am_G := am_G_of (am_tb (w := (Jvm.Cond.code ({ cls := "SpeciesRoundsModel", name := "isSpecies", desc := "(I)Z" } : Jvm.MethodName) prog_14_method_19_code (2 : Nat) (Option.some Jvm.ClassFile.FieldType.boolean))) 873 (by decide +kernel)) (by decide +kernel)
theorem am_g874 : _ ∈ am_G := am_G_of (am_tb (w := (Jvm.Cond.methodLink "SpeciesRoundsModel" (145 : Nat) ({ cls := "SpeciesRoundsModel", name := "digit", desc := "(JI)I" } : Jvm.MethodName))) 874 (by decide +kernel)) (by decide +kernel)
theorem am_g875 : _ ∈ am_G := am_G_of (am_tb (w := (Jvm.Cond.static ({ cls := "SpeciesRoundsModel", name := "digit", desc := "(JI)I" } : Jvm.MethodName))) 875 (by decide +kernel)) (by decide +kernel)
theorem am_g876 : _ ∈ am_G := am_G_of (am_tb (w := (Jvm.Cond.code ({ cls := "SpeciesRoundsModel", name := "digit", desc := "(JI)I" } : Jvm.MethodName) prog_14_method_16_code (3 : Nat) (Option.some Jvm.ClassFile.FieldType.int))) 876 (by decide +kernel)) (by decide +kernel)
theorem am_g880 : _ ∈ am_G := am_G_of (am_tb (w := (Jvm.Cond.code ({ cls := "SpeciesRoundsModel", name := "atom", desc := "(II)I" } : Jvm.MethodName) prog_14_method_22_code (3 : Nat) (Option.some Jvm.ClassFile.FieldType.int))) 880 (by decide +kernel)) (by decide +kernel)
theorem am_g881 : _ ∈ am_G := am_G_of (am_tb (w := (Jvm.Cond.methodLink "SpeciesRoundsModel" (153 : Nat) ({ cls := "SpeciesRoundsModel", name := "isAtom", desc := "(II)Z" } : Jvm.MethodName))) 881 (by decide +kernel)) (by decide +kernel)
theorem am_g883 : _ ∈ am_G := am_G_of (am_tb (w := (Jvm.Cond.instanceMethod ({ cls := "SpeciesRoundsModel", name := "isAtom", desc := "(II)Z" } : Jvm.MethodName))) 883 (by decide +kernel)) (by decide +kernel)
theorem am_g884 : _ ∈ am_G := am_G_of (am_tb (w := (Jvm.Cond.code ({ cls := "SpeciesRoundsModel", name := "isAtom", desc := "(II)Z" } : Jvm.MethodName) prog_14_method_21_code (3 : Nat) (Option.some Jvm.ClassFile.FieldType.boolean))) 884 (by decide +kernel)) (by decide +kernel)
theorem am_g888 : _ ∈ am_G := am_G_of (am_tb (w := (Jvm.Cond.code ({ cls := "SpeciesRoundsModel", name := "bond", desc := "(III)I" } : Jvm.MethodName) prog_14_method_23_code (4 : Nat) (Option.some Jvm.ClassFile.FieldType.int))) 888 (by decide +kernel)) (by decide +kernel)
theorem am_g889 : _ ∈ am_G := am_G_of (am_tb (w := (Jvm.Cond.methodLink "SpeciesRoundsModel" (157 : Nat) ({ cls := "SpeciesRoundsModel", name := "bondIn", desc := "(JII)I" } : Jvm.MethodName))) 889 (by decide +kernel)) (by decide +kernel)
theorem am_g890 : _ ∈ am_G := am_G_of (am_tb (w := (Jvm.Cond.static ({ cls := "SpeciesRoundsModel", name := "bondIn", desc := "(JII)I" } : Jvm.MethodName))) 890 (by decide +kernel)) (by decide +kernel)
theorem am_g891 : _ ∈ am_G := am_G_of (am_tb (w := (Jvm.Cond.code ({ cls := "SpeciesRoundsModel", name := "bondIn", desc := "(JII)I" } : Jvm.MethodName) prog_14_method_17_code (6 : Nat) (Option.some Jvm.ClassFile.FieldType.int))) 891 (by decide +kernel)) (by decide +kernel)
theorem am_g895 : _ ∈ am_G := am_G_of (am_tb (w := (Jvm.Cond.code ({ cls := "SpeciesRoundsModel", name := "rule", desc := "(III)I" } : Jvm.MethodName) prog_14_method_24_code (4 : Nat) (Option.some Jvm.ClassFile.FieldType.int))) 895 (by decide +kernel)) (by decide +kernel)
theorem am_g899 : _ ∈ am_G := am_G_of (am_tb (w := (Jvm.Cond.code ({ cls := "SpeciesRoundsModel", name := "change", desc := "(IIIII)Z" } : Jvm.MethodName) prog_14_method_25_code (6 : Nat) (Option.some Jvm.ClassFile.FieldType.boolean))) 899 (by decide +kernel)) (by decide +kernel)
theorem am_g903 : _ ∈ am_G := am_G_of (am_tb (w := (Jvm.Cond.code ({ cls := "SpeciesRoundsModel", name := "matches", desc := "(III)I" } : Jvm.MethodName) prog_14_method_31_code (7 : Nat) (Option.some Jvm.ClassFile.FieldType.int))) 903 (by decide +kernel)) (by decide +kernel)
theorem am_g904 : _ ∈ am_G := am_G_of (am_tb (w := (Jvm.Cond.methodLink "SpeciesRoundsModel" (168 : Nat) ({ cls := "SpeciesRoundsModel", name := "mix", desc := "(II)V" } : Jvm.MethodName))) 904 (by decide +kernel)) (by decide +kernel)
theorem am_g906 : _ ∈ am_G := am_G_of (am_tb (w := (Jvm.Cond.instanceMethod ({ cls := "SpeciesRoundsModel", name := "mix", desc := "(II)V" } : Jvm.MethodName))) 906 (by decide +kernel)) (by decide +kernel)
theorem am_g907 : _ ∈ am_G := am_G_of (am_tb (w := (Jvm.Cond.code ({ cls := "SpeciesRoundsModel", name := "mix", desc := "(II)V" } : Jvm.MethodName) prog_14_method_27_code (4 : Nat) (Option.none : Option Jvm.ClassFile.FieldType))) 907 (by decide +kernel)) (by decide +kernel)
theorem am_g908 : _ ∈ am_G := am_G_of (am_tb (w := (Jvm.Cond.methodLink "SpeciesRoundsModel" (164 : Nat) ({ cls := "SpeciesRoundsModel", name := "put", desc := "(II)V" } : Jvm.MethodName))) 908 (by decide +kernel)) (by decide +kernel)
theorem am_g910 : _ ∈ am_G := am_G_of (am_tb (w := (Jvm.Cond.instanceMethod ({ cls := "SpeciesRoundsModel", name := "put", desc := "(II)V" } : Jvm.MethodName))) 910 (by decide +kernel)) (by decide +kernel)
theorem am_g911 : _ ∈ am_G := am_G_of (am_tb (w := (Jvm.Cond.code ({ cls := "SpeciesRoundsModel", name := "put", desc := "(II)V" } : Jvm.MethodName) prog_14_method_26_code (8 : Nat) (Option.none : Option Jvm.ClassFile.FieldType))) 911 (by decide +kernel)) (by decide +kernel)
theorem am_g912 : _ ∈ am_G := am_G_of (am_tb (w := (Jvm.Cond.methodLink "SpeciesRoundsModel" (171 : Nat) ({ cls := "SpeciesRoundsModel", name := "choices", desc := "(I)I" } : Jvm.MethodName))) 912 (by decide +kernel)) (by decide +kernel)
theorem am_g914 : _ ∈ am_G := am_G_of (am_tb (w := (Jvm.Cond.instanceMethod ({ cls := "SpeciesRoundsModel", name := "choices", desc := "(I)I" } : Jvm.MethodName))) 914 (by decide +kernel)) (by decide +kernel)
theorem am_g915 : _ ∈ am_G := am_G_of (am_tb (w := (Jvm.Cond.code ({ cls := "SpeciesRoundsModel", name := "choices", desc := "(I)I" } : Jvm.MethodName) prog_14_method_29_code (4 : Nat) (Option.some Jvm.ClassFile.FieldType.int))) 915 (by decide +kernel)) (by decide +kernel)
theorem am_g916 : _ ∈ am_G := am_G_of (am_tb (w := (Jvm.Cond.methodLink "SpeciesRoundsModel" (174 : Nat) ({ cls := "SpeciesRoundsModel", name := "choose", desc := "(I)V" } : Jvm.MethodName))) 916 (by decide +kernel)) (by decide +kernel)
theorem am_g918 : _ ∈ am_G := am_G_of (am_tb (w := (Jvm.Cond.instanceMethod ({ cls := "SpeciesRoundsModel", name := "choose", desc := "(I)V" } : Jvm.MethodName))) 918 (by decide +kernel)) (by decide +kernel)
theorem am_g919 : _ ∈ am_G := am_G_of (am_tb (w := (Jvm.Cond.code ({ cls := "SpeciesRoundsModel", name := "choose", desc := "(I)V" } : Jvm.MethodName) prog_14_method_30_code (4 : Nat) (Option.none : Option Jvm.ClassFile.FieldType))) 919 (by decide +kernel)) (by decide +kernel)
theorem am_g920 : _ ∈ am_G := am_G_of (am_tb (w := (Jvm.Cond.methodLink "SpeciesRoundsModel" (178 : Nat) ({ cls := "SpeciesRoundsModel", name := "isMatch", desc := "(II)Z" } : Jvm.MethodName))) 920 (by decide +kernel)) (by decide +kernel)
theorem am_g922 : _ ∈ am_G := am_G_of (am_tb (w := (Jvm.Cond.instanceMethod ({ cls := "SpeciesRoundsModel", name := "isMatch", desc := "(II)Z" } : Jvm.MethodName))) 922 (by decide +kernel)) (by decide +kernel)
theorem am_g923 : _ ∈ am_G := am_G_of (am_tb (w := (Jvm.Cond.code ({ cls := "SpeciesRoundsModel", name := "isMatch", desc := "(II)Z" } : Jvm.MethodName) prog_14_method_28_code (8 : Nat) (Option.some Jvm.ClassFile.FieldType.boolean))) 923 (by decide +kernel)) (by decide +kernel)
theorem am_g927 : _ ∈ am_G := am_G_of (am_tb (w := (Jvm.Cond.code ({ cls := "SpeciesRoundsModel", name := "round", desc := "()I" } : Jvm.MethodName) prog_14_method_42_code (4 : Nat) (Option.some Jvm.ClassFile.FieldType.int))) 927 (by decide +kernel)) (by decide +kernel)
theorem am_g928 : _ ∈ am_G := am_G_of (am_tb (w := (Jvm.Cond.methodLink "SpeciesRoundsModel" (217 : Nat) ({ cls := "SpeciesRoundsModel", name := "react", desc := "(III)V" } : Jvm.MethodName))) 928 (by decide +kernel)) (by decide +kernel)
theorem am_g930 : _ ∈ am_G := am_G_of (am_tb (w := (Jvm.Cond.instanceMethod ({ cls := "SpeciesRoundsModel", name := "react", desc := "(III)V" } : Jvm.MethodName))) 930 (by decide +kernel)) (by decide +kernel)
theorem am_g931 : _ ∈ am_G := am_G_of (am_tb (w := (Jvm.Cond.code ({ cls := "SpeciesRoundsModel", name := "react", desc := "(III)V" } : Jvm.MethodName) prog_14_method_38_code (6 : Nat) (Option.none : Option Jvm.ClassFile.FieldType))) 931 (by decide +kernel)) (by decide +kernel)
theorem am_g932 : _ ∈ am_G := am_G_of (am_tb (w := (Jvm.Cond.methodLink "SpeciesRoundsModel" (202 : Nat) ({ cls := "SpeciesRoundsModel", name := "becomes", desc := "(I)Z" } : Jvm.MethodName))) 932 (by decide +kernel)) (by decide +kernel)
theorem am_g934 : _ ∈ am_G := am_G_of (am_tb (w := (Jvm.Cond.instanceMethod ({ cls := "SpeciesRoundsModel", name := "becomes", desc := "(I)Z" } : Jvm.MethodName))) 934 (by decide +kernel)) (by decide +kernel)
theorem am_g935 : _ ∈ am_G := am_G_of (am_tb (w := (Jvm.Cond.code ({ cls := "SpeciesRoundsModel", name := "becomes", desc := "(I)Z" } : Jvm.MethodName) prog_14_method_32_code (5 : Nat) (Option.some Jvm.ClassFile.FieldType.boolean))) 935 (by decide +kernel)) (by decide +kernel)
theorem am_g936 : _ ∈ am_G := am_G_of (am_tb (w := (Jvm.Cond.methodLink "SpeciesRoundsModel" (205 : Nat) ({ cls := "SpeciesRoundsModel", name := "yields", desc := "()Z" } : Jvm.MethodName))) 936 (by decide +kernel)) (by decide +kernel)
theorem am_g938 : _ ∈ am_G := am_G_of (am_tb (w := (Jvm.Cond.instanceMethod ({ cls := "SpeciesRoundsModel", name := "yields", desc := "()Z" } : Jvm.MethodName))) 938 (by decide +kernel)) (by decide +kernel)
theorem am_g939 : _ ∈ am_G := am_G_of (am_tb (w := (Jvm.Cond.code ({ cls := "SpeciesRoundsModel", name := "yields", desc := "()Z" } : Jvm.MethodName) prog_14_method_35_code (4 : Nat) (Option.some Jvm.ClassFile.FieldType.boolean))) 939 (by decide +kernel)) (by decide +kernel)
theorem am_g940 : _ ∈ am_G := am_G_of (am_tb (w := (Jvm.Cond.methodLink "SpeciesRoundsModel" (187 : Nat) ({ cls := "SpeciesRoundsModel", name := "parts", desc := "()V" } : Jvm.MethodName))) 940 (by decide +kernel)) (by decide +kernel)
theorem am_g942 : _ ∈ am_G := am_G_of (am_tb (w := (Jvm.Cond.instanceMethod ({ cls := "SpeciesRoundsModel", name := "parts", desc := "()V" } : Jvm.MethodName))) 942 (by decide +kernel)) (by decide +kernel)
theorem am_g943 : _ ∈ am_G := am_G_of (am_tb (w := (Jvm.Cond.code ({ cls := "SpeciesRoundsModel", name := "parts", desc := "()V" } : Jvm.MethodName) prog_14_method_33_code (4 : Nat) (Option.none : Option Jvm.ClassFile.FieldType))) 943 (by decide +kernel)) (by decide +kernel)
theorem am_g944 : _ ∈ am_G := am_G_of (am_tb (w := (Jvm.Cond.methodLink "SpeciesRoundsModel" (193 : Nat) ({ cls := "SpeciesRoundsModel", name := "known", desc := "(J)I" } : Jvm.MethodName))) 944 (by decide +kernel)) (by decide +kernel)
theorem am_g946 : _ ∈ am_G := am_G_of (am_tb (w := (Jvm.Cond.instanceMethod ({ cls := "SpeciesRoundsModel", name := "known", desc := "(J)I" } : Jvm.MethodName))) 946 (by decide +kernel)) (by decide +kernel)
theorem am_g947 : _ ∈ am_G := am_G_of (am_tb (w := (Jvm.Cond.code ({ cls := "SpeciesRoundsModel", name := "known", desc := "(J)I" } : Jvm.MethodName) prog_14_method_34_code (5 : Nat) (Option.some Jvm.ClassFile.FieldType.int))) 947 (by decide +kernel)) (by decide +kernel)
theorem am_g948 : _ ∈ am_G := am_G_of (am_tb (w := (Jvm.Cond.methodLink "SpeciesRoundsModel" (208 : Nat) ({ cls := "SpeciesRoundsModel", name := "note", desc := "(II)V" } : Jvm.MethodName))) 948 (by decide +kernel)) (by decide +kernel)
theorem am_g950 : _ ∈ am_G := am_G_of (am_tb (w := (Jvm.Cond.instanceMethod ({ cls := "SpeciesRoundsModel", name := "note", desc := "(II)V" } : Jvm.MethodName))) 950 (by decide +kernel)) (by decide +kernel)
theorem am_g951 : _ ∈ am_G := am_G_of (am_tb (w := (Jvm.Cond.code ({ cls := "SpeciesRoundsModel", name := "note", desc := "(II)V" } : Jvm.MethodName) prog_14_method_37_code (7 : Nat) (Option.none : Option Jvm.ClassFile.FieldType))) 951 (by decide +kernel)) (by decide +kernel)
theorem am_g952 : _ ∈ am_G := am_G_of (am_tb (w := (Jvm.Cond.methodLink "SpeciesRoundsModel" (196 : Nat) ({ cls := "SpeciesRoundsModel", name := "arrange", desc := "(II)V" } : Jvm.MethodName))) 952 (by decide +kernel)) (by decide +kernel)
theorem am_g954 : _ ∈ am_G := am_G_of (am_tb (w := (Jvm.Cond.instanceMethod ({ cls := "SpeciesRoundsModel", name := "arrange", desc := "(II)V" } : Jvm.MethodName))) 954 (by decide +kernel)) (by decide +kernel)
theorem am_g955 : _ ∈ am_G := am_G_of (am_tb (w := (Jvm.Cond.code ({ cls := "SpeciesRoundsModel", name := "arrange", desc := "(II)V" } : Jvm.MethodName) prog_14_method_36_code (6 : Nat) (Option.none : Option Jvm.ClassFile.FieldType))) 955 (by decide +kernel)) (by decide +kernel)
theorem am_g956 : _ ∈ am_G := am_G_of (am_tb (w := (Jvm.Cond.methodLink "SpeciesRoundsModel" (220 : Nat) ({ cls := "SpeciesRoundsModel", name := "settle", desc := "()V" } : Jvm.MethodName))) 956 (by decide +kernel)) (by decide +kernel)
theorem am_g958 : _ ∈ am_G := am_G_of (am_tb (w := (Jvm.Cond.instanceMethod ({ cls := "SpeciesRoundsModel", name := "settle", desc := "()V" } : Jvm.MethodName))) 958 (by decide +kernel)) (by decide +kernel)
theorem am_g959 : _ ∈ am_G := am_G_of (am_tb (w := (Jvm.Cond.code ({ cls := "SpeciesRoundsModel", name := "settle", desc := "()V" } : Jvm.MethodName) prog_14_method_39_code (3 : Nat) (Option.none : Option Jvm.ClassFile.FieldType))) 959 (by decide +kernel)) (by decide +kernel)
theorem am_g960 : _ ∈ am_G := am_G_of (am_tb (w := (Jvm.Cond.methodLink "SpeciesRoundsModel" (223 : Nat) ({ cls := "SpeciesRoundsModel", name := "sortRows", desc := "()V" } : Jvm.MethodName))) 960 (by decide +kernel)) (by decide +kernel)
theorem am_g962 : _ ∈ am_G := am_G_of (am_tb (w := (Jvm.Cond.instanceMethod ({ cls := "SpeciesRoundsModel", name := "sortRows", desc := "()V" } : Jvm.MethodName))) 962 (by decide +kernel)) (by decide +kernel)
theorem am_g963 : _ ∈ am_G := am_G_of (am_tb (w := (Jvm.Cond.code ({ cls := "SpeciesRoundsModel", name := "sortRows", desc := "()V" } : Jvm.MethodName) prog_14_method_41_code (4 : Nat) (Option.none : Option Jvm.ClassFile.FieldType))) 963 (by decide +kernel)) (by decide +kernel)
theorem am_g964 : _ ∈ am_G := am_G_of (am_tb (w := (Jvm.Cond.methodLink "SpeciesRoundsModel" (211 : Nat) ({ cls := "SpeciesRoundsModel", name := "isLess", desc := "(II)Z" } : Jvm.MethodName))) 964 (by decide +kernel)) (by decide +kernel)
theorem am_g966 : _ ∈ am_G := am_G_of (am_tb (w := (Jvm.Cond.instanceMethod ({ cls := "SpeciesRoundsModel", name := "isLess", desc := "(II)Z" } : Jvm.MethodName))) 966 (by decide +kernel)) (by decide +kernel)
theorem am_g967 : _ ∈ am_G := am_G_of (am_tb (w := (Jvm.Cond.code ({ cls := "SpeciesRoundsModel", name := "isLess", desc := "(II)Z" } : Jvm.MethodName) prog_14_method_40_code (4 : Nat) (Option.some Jvm.ClassFile.FieldType.boolean))) 967 (by decide +kernel)) (by decide +kernel)
theorem am_g971 : _ ∈ am_G := am_G_of (am_tb (w := (Jvm.Cond.code ({ cls := "SpeciesRoundsModel", name := "reactions", desc := "()I" } : Jvm.MethodName) prog_14_method_43_code (1 : Nat) (Option.some Jvm.ClassFile.FieldType.int))) 971 (by decide +kernel)) (by decide +kernel)
theorem am_g975 : _ ∈ am_G := am_G_of (am_tb (w := (Jvm.Cond.code ({ cls := "SpeciesRoundsModel", name := "reaction", desc := "(II)I" } : Jvm.MethodName) prog_14_method_44_code (3 : Nat) (Option.some Jvm.ClassFile.FieldType.int))) 975 (by decide +kernel)) (by decide +kernel)
theorem cy_0 : am_Cy (am_mt 0) 1 := ⟨am_g25, am_g1, by decide +kernel, by decide +kernel⟩
theorem cy_1 : am_Cy (am_mt 1) 1 := ⟨am_g294, am_g1, by decide +kernel, by decide +kernel⟩
theorem cy_2 : am_Cy (am_mt 2) 0 := ⟨am_g302, am_g1, by decide +kernel, by decide +kernel⟩
theorem cy_3 : am_Cy (am_mt 3) 0 := ⟨am_g310, am_g1, by decide +kernel, by decide +kernel⟩
theorem cy_4 : am_Cy (am_mt 4) 0 := ⟨am_g493, am_g1, by decide +kernel, by decide +kernel⟩
theorem cy_5 : am_Cy (am_mt 5) 1 := ⟨am_g497, am_g1, by decide +kernel, by decide +kernel⟩
theorem cy_6 : am_Cy (am_mt 6) 2 := ⟨am_g508, am_g1, by decide +kernel, by decide +kernel⟩
theorem cy_7 : am_Cy (am_mt 7) 3 := ⟨am_g520, am_g1, by decide +kernel, by decide +kernel⟩
theorem cy_8 : am_Cy (am_mt 8) 3 := ⟨am_g532, am_g1, by decide +kernel, by decide +kernel⟩
theorem cy_9 : am_Cy (am_mt 9) 5 := ⟨am_g543, am_g1, by decide +kernel, by decide +kernel⟩
theorem cy_10 : am_Cy (am_mt 10) 3 := ⟨am_g561, am_g1, by decide +kernel, by decide +kernel⟩
theorem cy_11 : am_Cy (am_mt 11) 0 := ⟨am_g607, am_g1, by decide +kernel, by decide +kernel⟩
theorem cy_12 : am_Cy (am_mt 12) 0 := ⟨am_g685, am_g1, by decide +kernel, by decide +kernel⟩
theorem cy_13 : am_Cy (am_mt 13) 2 := ⟨am_g689, am_g1, by decide +kernel, by decide +kernel⟩
theorem cy_14 : am_Cy (am_mt 14) 1 := ⟨am_g501, am_g1, by decide +kernel, by decide +kernel⟩
theorem cy_15 : am_Cy (am_mt 15) 2 := ⟨am_g512, am_g1, by decide +kernel, by decide +kernel⟩
theorem cy_16 : am_Cy (am_mt 16) 1 := ⟨am_g547, am_g1, by decide +kernel, by decide +kernel⟩
theorem cy_17 : am_Cy (am_mt 17) 1 := ⟨am_g535, am_g1, by decide +kernel, by decide +kernel⟩
theorem cy_18 : am_Cy (am_mt 18) 1 := ⟨am_g550, am_g1, by decide +kernel, by decide +kernel⟩
theorem cy_19 : am_Cy (am_mt 19) 1 := ⟨am_g460, am_g1, by decide +kernel, by decide +kernel⟩
theorem cy_20 : am_Cy (am_mt 20) 2 := ⟨am_g565, am_g1, by decide +kernel, by decide +kernel⟩
theorem cy_21 : am_Cy (am_mt 21) 2 := ⟨am_g616, am_g1, by decide +kernel, by decide +kernel⟩
theorem cy_22 : am_Cy (am_mt 22) 4 := ⟨am_g624, am_g1, by decide +kernel, by decide +kernel⟩
theorem cy_23 : am_Cy (am_mt 23) 2 := ⟨am_g647, am_g1, by decide +kernel, by decide +kernel⟩
theorem cy_24 : am_Cy (am_mt 24) 0 := ⟨am_g677, am_g1, by decide +kernel, by decide +kernel⟩
theorem cy_25 : am_Cy (am_mt 25) 3 := ⟨am_g650, am_g1, by decide +kernel, by decide +kernel⟩
theorem cy_26 : am_Cy (am_mt 26) 1 := ⟨am_g697, am_g13, by decide +kernel, by decide +kernel⟩
theorem cy_27 : am_Cy (am_mt 27) 1 := ⟨am_g811, am_g13, by decide +kernel, by decide +kernel⟩
theorem cy_28 : am_Cy (am_mt 28) 0 := ⟨am_g815, am_g13, by decide +kernel, by decide +kernel⟩
theorem cy_29 : am_Cy (am_mt 29) 1 := ⟨am_g829, am_g13, by decide +kernel, by decide +kernel⟩
theorem cy_30 : am_Cy (am_mt 30) 1 := ⟨am_g832, am_g13, by decide +kernel, by decide +kernel⟩
theorem cy_31 : am_Cy (am_mt 31) 3 := ⟨am_g826, am_g13, by decide +kernel, by decide +kernel⟩
theorem cy_32 : am_Cy (am_mt 32) 0 := ⟨am_g823, am_g13, by decide +kernel, by decide +kernel⟩
theorem cy_33 : am_Cy (am_mt 33) 3 := ⟨am_g840, am_g13, by decide +kernel, by decide +kernel⟩
theorem cy_34 : am_Cy (am_mt 34) 0 := ⟨am_g836, am_g13, by decide +kernel, by decide +kernel⟩
theorem cy_35 : am_Cy (am_mt 35) 0 := ⟨am_g819, am_g13, by decide +kernel, by decide +kernel⟩
theorem cy_36 : am_Cy (am_mt 36) 1 := ⟨am_g844, am_g13, by decide +kernel, by decide +kernel⟩
theorem cy_37 : am_Cy (am_mt 37) 1 := ⟨am_g861, am_g13, by decide +kernel, by decide +kernel⟩
theorem cy_38 : am_Cy (am_mt 38) 0 := ⟨am_g852, am_g13, by decide +kernel, by decide +kernel⟩
theorem cy_39 : am_Cy (am_mt 39) 0 := ⟨am_g857, am_g13, by decide +kernel, by decide +kernel⟩
theorem cy_40 : am_Cy (am_mt 40) 0 := ⟨am_g848, am_g13, by decide +kernel, by decide +kernel⟩
theorem cy_41 : am_Cy (am_mt 41) 2 := ⟨am_g876, am_g13, by decide +kernel, by decide +kernel⟩
theorem cy_42 : am_Cy (am_mt 42) 3 := ⟨am_g891, am_g13, by decide +kernel, by decide +kernel⟩
theorem cy_43 : am_Cy (am_mt 43) 0 := ⟨am_g865, am_g13, by decide +kernel, by decide +kernel⟩
theorem cy_44 : am_Cy (am_mt 44) 1 := ⟨am_g873, am_g13, by decide +kernel, by decide +kernel⟩
theorem cy_45 : am_Cy (am_mt 45) 1 := ⟨am_g869, am_g13, by decide +kernel, by decide +kernel⟩
theorem cy_46 : am_Cy (am_mt 46) 2 := ⟨am_g884, am_g13, by decide +kernel, by decide +kernel⟩
theorem cy_47 : am_Cy (am_mt 47) 2 := ⟨am_g880, am_g13, by decide +kernel, by decide +kernel⟩
theorem cy_48 : am_Cy (am_mt 48) 3 := ⟨am_g888, am_g13, by decide +kernel, by decide +kernel⟩
theorem cy_49 : am_Cy (am_mt 49) 3 := ⟨am_g895, am_g13, by decide +kernel, by decide +kernel⟩
theorem cy_50 : am_Cy (am_mt 50) 5 := ⟨am_g899, am_g13, by decide +kernel, by decide +kernel⟩
theorem cy_51 : am_Cy (am_mt 51) 2 := ⟨am_g911, am_g13, by decide +kernel, by decide +kernel⟩
theorem cy_52 : am_Cy (am_mt 52) 2 := ⟨am_g907, am_g13, by decide +kernel, by decide +kernel⟩
theorem cy_53 : am_Cy (am_mt 53) 2 := ⟨am_g923, am_g13, by decide +kernel, by decide +kernel⟩
theorem cy_54 : am_Cy (am_mt 54) 1 := ⟨am_g915, am_g13, by decide +kernel, by decide +kernel⟩
theorem cy_55 : am_Cy (am_mt 55) 1 := ⟨am_g919, am_g13, by decide +kernel, by decide +kernel⟩
theorem cy_56 : am_Cy (am_mt 56) 3 := ⟨am_g903, am_g13, by decide +kernel, by decide +kernel⟩
theorem cy_57 : am_Cy (am_mt 57) 1 := ⟨am_g935, am_g13, by decide +kernel, by decide +kernel⟩
theorem cy_58 : am_Cy (am_mt 58) 0 := ⟨am_g943, am_g13, by decide +kernel, by decide +kernel⟩
theorem cy_59 : am_Cy (am_mt 59) 1 := ⟨am_g947, am_g13, by decide +kernel, by decide +kernel⟩
theorem cy_60 : am_Cy (am_mt 60) 0 := ⟨am_g939, am_g13, by decide +kernel, by decide +kernel⟩
theorem cy_61 : am_Cy (am_mt 61) 2 := ⟨am_g955, am_g13, by decide +kernel, by decide +kernel⟩
theorem cy_62 : am_Cy (am_mt 62) 2 := ⟨am_g951, am_g13, by decide +kernel, by decide +kernel⟩
theorem cy_63 : am_Cy (am_mt 63) 3 := ⟨am_g931, am_g13, by decide +kernel, by decide +kernel⟩
theorem cy_64 : am_Cy (am_mt 64) 0 := ⟨am_g959, am_g13, by decide +kernel, by decide +kernel⟩
theorem cy_65 : am_Cy (am_mt 65) 2 := ⟨am_g967, am_g13, by decide +kernel, by decide +kernel⟩
theorem cy_66 : am_Cy (am_mt 66) 0 := ⟨am_g963, am_g13, by decide +kernel, by decide +kernel⟩
theorem cy_67 : am_Cy (am_mt 67) 0 := ⟨am_g927, am_g13, by decide +kernel, by decide +kernel⟩
theorem cy_68 : am_Cy (am_mt 68) 0 := ⟨am_g971, am_g13, by decide +kernel, by decide +kernel⟩
theorem cy_69 : am_Cy (am_mt 69) 2 := ⟨am_g975, am_g13, by decide +kernel, by decide +kernel⟩
theorem cy_70 : am_Cy (am_mt 70) 0 := ⟨am_g173, am_g8, by decide +kernel, by decide +kernel⟩
theorem cy_71 : am_Cy (am_mt 71) 2 := ⟨am_g583, am_g8, by decide +kernel, by decide +kernel⟩
theorem cy_72 : am_Cy (am_mt 72) 1 := ⟨am_g628, am_g8, by decide +kernel, by decide +kernel⟩
theorem cy_73 : am_Cy (am_mt 73) 3 := ⟨am_g587, am_g8, by decide +kernel, by decide +kernel⟩
theorem cy_74 : am_Cy (am_mt 74) 4 := ⟨am_g591, am_g8, by decide +kernel, by decide +kernel⟩
theorem cy_75 : am_Cy (am_mt 75) 0 := ⟨am_g600, am_g8, by decide +kernel, by decide +kernel⟩
theorem cy_76 : am_Cy (am_mt 76) 1 := ⟨am_g55, am_g4, by decide +kernel, by decide +kernel⟩
theorem cy_77 : am_Cy (am_mt 77) 0 := ⟨am_g322, am_g4, by decide +kernel, by decide +kernel⟩
theorem cy_78 : am_Cy (am_mt 78) 1 := ⟨am_g421, am_g4, by decide +kernel, by decide +kernel⟩
theorem cy_79 : am_Cy (am_mt 79) 3 := ⟨am_g425, am_g4, by decide +kernel, by decide +kernel⟩
theorem cy_80 : am_Cy (am_mt 80) 1 := ⟨am_g464, am_g4, by decide +kernel, by decide +kernel⟩
theorem cy_81 : am_Cy (am_mt 81) 0 := ⟨am_g118, am_g5, by decide +kernel, by decide +kernel⟩
theorem cy_82 : am_Cy (am_mt 82) 3 := ⟨am_g468, am_g5, by decide +kernel, by decide +kernel⟩
theorem cy_83 : am_Cy (am_mt 83) 3 := ⟨am_g472, am_g5, by decide +kernel, by decide +kernel⟩
theorem cy_84 : am_Cy (am_mt 84) 5 := ⟨am_g477, am_g5, by decide +kernel, by decide +kernel⟩
theorem cy_85 : am_Cy (am_mt 85) 4 := ⟨am_g481, am_g5, by decide +kernel, by decide +kernel⟩
theorem cy_86 : am_Cy (am_mt 86) 0 := ⟨am_g33, am_g2, by decide +kernel, by decide +kernel⟩
theorem cy_87 : am_Cy (am_mt 87) 1 := ⟨am_g298, am_g2, by decide +kernel, by decide +kernel⟩
theorem cy_88 : am_Cy (am_mt 88) 0 := ⟨am_g306, am_g2, by decide +kernel, by decide +kernel⟩
theorem cy_89 : am_Cy (am_mt 89) 0 := ⟨am_g452, am_g2, by decide +kernel, by decide +kernel⟩
theorem cy_90 : am_Cy (am_mt 90) 0 := ⟨am_g156, am_g7, by decide +kernel, by decide +kernel⟩
theorem cy_91 : am_Cy (am_mt 91) 0 := ⟨am_g569, am_g7, by decide +kernel, by decide +kernel⟩
theorem cy_92 : am_Cy (am_mt 92) 1 := ⟨am_g574, am_g7, by decide +kernel, by decide +kernel⟩
theorem cy_93 : am_Cy (am_mt 93) 2 := ⟨am_g596, am_g7, by decide +kernel, by decide +kernel⟩
theorem cy_94 : am_Cy (am_mt 94) 3 := ⟨am_g632, am_g7, by decide +kernel, by decide +kernel⟩
theorem cy_95 : am_Cy (am_mt 95) 0 := ⟨am_g190, am_g9, by decide +kernel, by decide +kernel⟩
theorem cy_96 : am_Cy (am_mt 96) 5 := ⟨am_g637, am_g9, by decide +kernel, by decide +kernel⟩
theorem cy_97 : am_Cy (am_mt 97) 2 := ⟨am_g642, am_g9, by decide +kernel, by decide +kernel⟩
theorem cy_98 : am_Cy (am_mt 98) 0 := ⟨am_g211, am_g10, by decide +kernel, by decide +kernel⟩
theorem cy_99 : am_Cy (am_mt 99) 1 := ⟨am_g653, am_g10, by decide +kernel, by decide +kernel⟩
theorem cy_100 : am_Cy (am_mt 100) 2 := ⟨am_g681, am_g10, by decide +kernel, by decide +kernel⟩
theorem cy_101 : am_Cy (am_mt 101) 1 := ⟨am_g611, am_g10, by decide +kernel, by decide +kernel⟩
theorem cy_102 : am_Cy (am_mt 102) 1 := ⟨am_g657, am_g10, by decide +kernel, by decide +kernel⟩
theorem cy_103 : am_Cy (am_mt 103) 1 := ⟨am_g661, am_g10, by decide +kernel, by decide +kernel⟩
theorem cy_104 : am_Cy (am_mt 104) 0 := ⟨am_g49, am_g3, by decide +kernel, by decide +kernel⟩
theorem cy_105 : am_Cy (am_mt 105) 1 := ⟨am_g314, am_g3, by decide +kernel, by decide +kernel⟩
theorem cy_106 : am_Cy (am_mt 106) 0 := ⟨am_g456, am_g3, by decide +kernel, by decide +kernel⟩
theorem cy_107 : am_Cy (am_mt 107) 0 := ⟨am_g318, am_g3, by decide +kernel, by decide +kernel⟩
theorem cy_108 : am_Cy (am_mt 108) 1 := ⟨am_g326, am_g3, by decide +kernel, by decide +kernel⟩
theorem cy_109 : am_Cy (am_mt 109) 1 := ⟨am_g330, am_g3, by decide +kernel, by decide +kernel⟩
theorem cy_110 : am_Cy (am_mt 110) 1 := ⟨am_g417, am_g3, by decide +kernel, by decide +kernel⟩
theorem cy_111 : am_Cy (am_mt 111) 1 := ⟨am_g435, am_g3, by decide +kernel, by decide +kernel⟩
theorem cy_112 : am_Cy (am_mt 112) 1 := ⟨am_g440, am_g3, by decide +kernel, by decide +kernel⟩
theorem cy_113 : am_Cy (am_mt 113) 0 := ⟨am_g444, am_g3, by decide +kernel, by decide +kernel⟩
theorem cy_114 : am_Cy (am_mt 114) 0 := ⟨am_g448, am_g3, by decide +kernel, by decide +kernel⟩
theorem cy_115 : am_Cy (am_mt 115) 3 := ⟨am_g429, am_g3, by decide +kernel, by decide +kernel⟩
theorem cy_116 : am_Cy (am_mt 116) 0 := ⟨am_g230, am_g12, by decide +kernel, by decide +kernel⟩
theorem cy_117 : am_Cy (am_mt 117) 2 := ⟨am_g557, am_g12, by decide +kernel, by decide +kernel⟩
theorem cy_118 : am_Cy (am_mt 118) 3 := ⟨am_g539, am_g12, by decide +kernel, by decide +kernel⟩
theorem cy_119 : am_Cy (am_mt 119) 4 := ⟨am_g554, am_g12, by decide +kernel, by decide +kernel⟩
theorem cy_120 : am_Cy (am_mt 120) 0 := ⟨am_g620, am_g12, by decide +kernel, by decide +kernel⟩
theorem cy_121 : am_Cy (am_mt 121) 0 := ⟨am_g134, am_g6, by decide +kernel, by decide +kernel⟩
theorem cy_122 : am_Cy (am_mt 122) 1 := ⟨am_g488, am_g6, by decide +kernel, by decide +kernel⟩
theorem cy_123 : am_Cy (am_mt 123) 1 := ⟨am_g665, am_g6, by decide +kernel, by decide +kernel⟩
theorem cy_124 : am_Cy (am_mt 124) 1 := ⟨am_g669, am_g6, by decide +kernel, by decide +kernel⟩
theorem cy_125 : am_Cy (am_mt 125) 2 := ⟨am_g673, am_g6, by decide +kernel, by decide +kernel⟩
theorem cy_126 : am_Cy (am_mt 126) 1 := ⟨am_g527, am_g19, by decide +kernel, by decide +kernel⟩
theorem cy_127 : am_Cy (am_mt 127) 3 := ⟨am_g484, am_g19, by decide +kernel, by decide +kernel⟩
theorem cy_128 : am_Cy (am_mt 128) 1 := ⟨am_g504, am_g19, by decide +kernel, by decide +kernel⟩
theorem cy_129 : am_Cy (am_mt 129) 2 := ⟨am_g515, am_g19, by decide +kernel, by decide +kernel⟩
theorem cy_130 : am_Cy (am_mt 130) 3 := ⟨am_g523, am_g19, by decide +kernel, by decide +kernel⟩
theorem cy_131 : am_Cy (am_mt 131) 2 := ⟨am_g692, am_g0, by decide +kernel, by decide +kernel⟩
