/-- the model's number of a word, with 1 added -/
def nuM (n0 i : Nat) : Nat := if i < n0 then i + 1 else i - n0 + 13
theorem nuM_ok {n0 : Nat} (h : n0 ≤ 12) : NuOk n0 (nuM n0) := by
  refine ⟨fun i hi => if_pos hi, fun i j e => ?_, fun i => ?_⟩
  · unfold nuM at e
    by_cases zi : i < n0
    · by_cases zj : j < n0
      · rw [if_pos zi, if_pos zj] at e; omega
      · rw [if_pos zi, if_neg zj] at e; omega
    · by_cases zj : j < n0
      · rw [if_neg zi, if_pos zj] at e; omega
      · rw [if_neg zi, if_neg zj] at e; omega
  · unfold nuM
    split <;> omega
/-- the words that a round of the model has met -/
def FrI (h : am_H) (m : Nat → Int32) (n0 u : Nat) (B : Nat → Nat) : Prop := m 15 = nI (u - n0) ∧ n0 ≤ u ∧ u ≤ 12 ∧ ∃ f, h[91]? = some (aL 13 f) ∧ ∀ k, n0 + k < u → f k = lN (B (n0 + k)) ∧ B (n0 + k) < 2 ^ 48
theorem FrI.fr {h h' : am_H} {m m' : Nat → Int32} {n0 u : Nat} {B : Nat → Nat} {P : Nat → Prop} (hI : FrI h m n0 u B) (hf : am_fr P h h') (hP : ¬ P 91) (hm : m' 15 = m 15) : FrI h' m' n0 u B := by
  obtain ⟨h1, h2, h3, f, h4, h5⟩ := hI
  exact ⟨hm.trans h1, h2, h3, f, hf.at hP h4, h5⟩
theorem TbM.fr {h h' : am_H} {m m' : Nat → Int32} {n : Nat} {B : Nat → Nat} {P : Nat → Prop} (hI : TbM h m n B) (hf : am_fr P h h') (hP : ¬ P 83) (hm : m' 3 = m 3) : TbM h' m' n B := by
  obtain ⟨h1, f, h2, h3⟩ := hI
  exact ⟨hm.trans h1, f, hf.at hP h2, h3⟩
section
variable {lx : am_Lx} {d : Nat} {h : am_H} {Q : am_Q} {m : Nat → Int32}
set_option maxRecDepth 20000 in
theorem sp_59 (hd : 2 ≤ d) {n0 u b : Nat} {B : Nat → Nat} (hM : h[81]? = some (mO m)) (hT : TbM h m n0 B) (hF : FrI h m n0 u B) (hb : b < 2 ^ 48)
    (hthere : ∀ i, i < u → B i = b → Q (some (.int (nI (nuM n0 i) - 1))) h)
    (hfull : u = 12 → (∀ i, i < u → B i ≠ b) → Q (some (.int 0)) (h.set 81 (mO (upd m 18 1))))
    (hnew : u < 12 → (∀ i, i < u → B i ≠ b) → ∀ h', am_fr (fun i => i = 81 ∨ i = 91) h h' → h'[81]? = some (mO (upd m 15 (nI (u + 1 - n0)))) → FrI h' (upd m 15 (nI (u + 1 - n0))) n0 (u + 1) (uN B u b) → Q (some (.int (nI (nuM n0 u) - 1))) h') : am_KA lx d 59 [.ref 81, .long (lN b)] h Q := by
  obtain ⟨m3, ky, h83, gk⟩ := id hT
  obtain ⟨m15, hnu, hu, fr, h91, gf⟩ := id hF
  obtain ⟨e, rfl⟩ : ∃ e, d = e + 1 := ⟨d - 1, by omega⟩
  have G : am_GK (am_KA lx e) cd_59 := ⟨am_KA_m lx e, cm_59⟩
  refine am_KA_in (by decide) (Nat.le_of_ble_eq_true rfl) ?_
  show am_Go (am_KA lx e) (am_fetch cd_59) Q 0 [some (.ref 81), some (.long (lN b)), none, none, none] [] h 0 0
  have fin : ∀ (v : Nat) (y4 : Option Value), v < 100 → Q (some (.int (nI v))) h → am_Go (am_KA lx e) (am_fetch cd_59) Q 50 [some (.ref 81), some (.long (lN b)), none, some (.int (nI v)), y4] [] h 0 0 := by
    intro v y4 hv hk
    refine r_il G (pn := 51) rfl rfl rfl ?_
    refine r_if1 G (pn := 54) rfl rfl (fun c51 => ?_) (fun c51 => ?_)
    rotate_left
    · exact absurd ((nI_leI (a := 0) (by omega) (by omega)).mpr (Nat.zero_le _)) c51
    refine r_il G (pn := 76) rfl rfl rfl ?_
    refine r_if1 G (pn := 79) rfl rfl (fun c76 => ?_) (fun c76 => ?_)
    rotate_left
    · exact absurd ((nI_leI (a := 0) (by omega) (by omega)).mpr (Nat.zero_le _)) c76
    refine r_il G (pn := 108) rfl rfl rfl ?_
    refine r_iret G rfl rfl hk
  have fin9 : ∀ (v k : Nat), v < 100 → k ≤ 100 → Q (some (.int (nI v))) h → am_Go (am_KA lx e) (am_fetch cd_59) Q 9 [some (.ref 81), some (.long (lN b)), none, some (.int (nI v)), some (.int (nI k))] [] h 0 0 := by
    intro v k hv hk9 hk
    refine r_il G (pn := 11) rfl rfl rfl ?_
    refine r_ra G (pn := 12) rfl rfl rfl ?_
    refine r_get G (pn := 15) rfl rfl (by first | assumption | (repeat (first | assumption | exact am_eq (by first | assumption | exact am_eq (by assumption) | exact am_ne (by first | decide | omega) (by assumption)) | refine am_ne (by first | decide | omega) ?_))) rfl ?_
    refine r_if2 G (pn := 18) rfl rfl (fun c15 => ?_) (fun c15 => ?_)
    · exact fin v _ hv hk
    refine r_il G (pn := 19) rfl rfl rfl ?_
    refine r_if1 G (pn := 22) rfl rfl (fun c19 => ?_) (fun c19 => ?_)
    · exact fin v _ hv hk
    · exact absurd ((nI_leI (a := 0) (by omega) (by omega)).mpr (Nat.zero_le _)) c19
  have n1 : ¬ (0 : Int32) ≤ -1 := by decide
  have lp : ∀ (z k : Nat), (∀ i, i < n0 + k → B i ≠ b) → k + z = u - n0 → am_Go (am_KA lx e) (am_fetch cd_59) Q 9 [some (.ref 81), some (.long (lN b)), none, some (.int (-1)), some (.int (nI k))] [] h 0 0 := by
    intro z
    induction z with
    | zero =>
      intro k hne hk
      obtain rfl : k = u - n0 := by omega
      refine r_il G (pn := 11) rfl rfl rfl ?_
      refine r_ra G (pn := 12) rfl rfl rfl ?_
      refine r_get G (pn := 15) rfl rfl (by first | assumption | (repeat (first | assumption | exact am_eq (by first | assumption | exact am_eq (by assumption) | exact am_ne (by first | decide | omega) (by assumption)) | refine am_ne (by first | decide | omega) ?_))) rfl ?_
      rw [m15]
      refine r_if2 G (pn := 18) rfl rfl (fun c15 => ?_) (fun c15 => ?_)
      rotate_left
      · exact absurd (Int32.le_refl _) c15
      refine r_il G (pn := 51) rfl rfl rfl ?_
      refine r_if1 G (pn := 54) rfl rfl (fun c51 => ?_) (fun c51 => ?_)
      · exact absurd c51 n1
      refine r_ra G (pn := 55) rfl rfl rfl ?_
      refine r_get G (pn := 58) rfl rfl (by first | assumption | (repeat (first | assumption | exact am_eq (by first | assumption | exact am_eq (by assumption) | exact am_ne (by first | decide | omega) (by assumption)) | refine am_ne (by first | decide | omega) ?_))) rfl ?_
      refine r_ra G (pn := 59) rfl rfl rfl ?_
      refine r_get G (pn := 62) rfl rfl (by first | assumption | (repeat (first | assumption | exact am_eq (by first | assumption | exact am_eq (by assumption) | exact am_ne (by first | decide | omega) (by assumption)) | refine am_ne (by first | decide | omega) ?_))) rfl ?_
      refine r_ib G (pn := 63) rfl rfl  ?_
      rw [m3, m15, nI_add, show n0 + (u - n0) = u by omega]
      refine r_ic G (pn := 65) rfl rfl  ?_
      refine r_if2 G (pn := 68) rfl rfl (fun c65 => ?_) (fun c65 => ?_)
      rotate_left
      · have hu12 : u = 12 := (nI_eq (b := 12) (by omega) (by omega)).mp (Classical.byContradiction c65)
        refine r_ra G (pn := 69) rfl rfl rfl ?_
        refine r_ic G (pn := 70) rfl rfl  ?_
        refine r_putz G (pn := 73) rfl rfl hM (Nat.le_of_ble_eq_true rfl) (Or.inr rfl) ?_
        refine r_ic G (pn := 74) rfl rfl  ?_
        refine r_iret G rfl rfl (hfull hu12 (fun i hi => hne i (by omega)))
      have hu12 : u < 12 := by
        have : u ≠ 12 := fun y => c65 (by rw [y]; rfl)
        omega
      refine r_il G (pn := 76) rfl rfl rfl ?_
      refine r_if1 G (pn := 79) rfl rfl (fun c76 => ?_) (fun c76 => ?_)
      · exact absurd c76 n1
      refine r_ra G (pn := 80) rfl rfl rfl ?_
      refine r_get G (pn := 83) rfl rfl (by first | assumption | (repeat (first | assumption | exact am_eq (by first | assumption | exact am_eq (by assumption) | exact am_ne (by first | decide | omega) (by assumption)) | refine am_ne (by first | decide | omega) ?_))) rfl ?_
      refine r_ra G (pn := 84) rfl rfl rfl ?_
      refine r_get G (pn := 87) rfl rfl (by first | assumption | (repeat (first | assumption | exact am_eq (by first | assumption | exact am_eq (by assumption) | exact am_ne (by first | decide | omega) (by assumption)) | refine am_ne (by first | decide | omega) ?_))) rfl ?_
      rw [m15]
      refine r_ll G (pn := 88) rfl rfl rfl ?_
      refine r_lastN G (pn := 89) rfl rfl h91 (by omega) (by omega) ?_
      refine r_ic G (pn := 91) rfl rfl  ?_
      refine r_ra G (pn := 92) rfl rfl rfl ?_
      refine r_get G (pn := 95) rfl rfl (am_ne (by decide) hM) rfl ?_
      rw [m15]
      refine r_ib G (pn := 96) rfl rfl  ?_
      rw [show (12 : Int32) + nI (u - n0) = nI (12 + (u - n0)) from nI_add 12 _]
      refine r_is G (pn := 97) rfl rfl (Nat.le_of_ble_eq_true rfl) ?_
      refine r_ra G (pn := 98) rfl rfl rfl ?_
      refine r_dup G (pn := 99) rfl rfl rfl ?_
      refine r_get G (pn := 102) rfl rfl (am_ne (by decide) hM) rfl ?_
      refine r_ic G (pn := 103) rfl rfl  ?_
      rw [m15]
      refine r_ib G (pn := 104) rfl rfl  ?_
      rw [nI_1, show u - n0 + 1 = u + 1 - n0 by omega]
      refine r_puti G (pn := 107) rfl rfl (am_ne (by decide) hM) (Nat.le_of_ble_eq_true rfl) ?_
      refine r_il G (pn := 108) rfl rfl rfl ?_
      have ev : nI (12 + (u - n0)) = nI (nuM n0 u) - 1 := by
        unfold nuM
        rw [if_neg (by omega), show u - n0 + 13 = 12 + (u - n0) + 1 by omega, nI_pred]
      rw [ev]
      refine r_iret G rfl rfl (hnew hu12 (fun i hi => hne i (by omega)) _ ((am_fr.rf.put (Or.inr rfl)).put (Or.inl rfl)) (am_eq (am_ne (by decide) hM)) ⟨rfl, by omega, by omega, _, am_ne (by decide) (am_eq h91), fun q hq => ?_⟩)
      by_cases y : q = u - n0
      · rw [y, pk_uLs', show n0 + (u - n0) = u by omega, uN_s]
        exact ⟨rfl, hb⟩
      · rw [pk_uLn y, uN_n (by omega)]
        exact gf q (by omega)
    | succ z ih =>
      intro k hne hk
      obtain ⟨gk1, gk2⟩ := gf k (by omega)
      refine r_il G (pn := 11) rfl rfl rfl ?_
      refine r_ra G (pn := 12) rfl rfl rfl ?_
      refine r_get G (pn := 15) rfl rfl (by first | assumption | (repeat (first | assumption | exact am_eq (by first | assumption | exact am_eq (by assumption) | exact am_ne (by first | decide | omega) (by assumption)) | refine am_ne (by first | decide | omega) ?_))) rfl ?_
      rw [m15]
      refine r_if2 G (pn := 18) rfl rfl (fun c15 => ?_) (fun c15 => ?_)
      · exact absurd ((nI_leI (by omega) (by omega)).mp c15) (by omega)
      refine r_il G (pn := 19) rfl rfl rfl ?_
      refine r_if1 G (pn := 22) rfl rfl (fun c19 => ?_) (fun c19 => ?_)
      · exact absurd c19 n1
      refine r_ra G (pn := 23) rfl rfl rfl ?_
      refine r_get G (pn := 26) rfl rfl (by first | assumption | (repeat (first | assumption | exact am_eq (by first | assumption | exact am_eq (by assumption) | exact am_ne (by first | decide | omega) (by assumption)) | refine am_ne (by first | decide | omega) ?_))) rfl ?_
      refine r_il G (pn := 28) rfl rfl rfl ?_
      refine r_laldN G (pn := 29) rfl rfl h91 (by omega) (by omega) ?_
      refine r_ll G (pn := 30) rfl rfl rfl ?_
      refine r_lcmp G (pn := 31) rfl rfl  ?_
      rw [gk1]
      refine r_if1 G (pn := 34) rfl rfl (fun c31 => ?_) (fun c31 => ?_)
      · refine r_ic G (pn := 43) rfl rfl  ?_
        refine r_is G (pn := 44) rfl rfl (Nat.le_of_ble_eq_true rfl) ?_
        refine r_inc G (pn := 47) rfl rfl rfl (Nat.le_of_ble_eq_true rfl) ?_
        refine r_goto G rfl ?_
        rw [nI_1]
        refine ih (k + 1) (fun i hi => ?_) (by omega)
        by_cases y : i = n0 + k
        · intro w
          rw [y] at w
          exact c31 ((lg_cmp_eq _ _).mpr (by rw [w]))
        · exact hne i (by omega)
      · have eb : B (n0 + k) = b := (lN_iff (by omega) (by omega)).mp ((lg_cmp_eq _ _).mp (Classical.byContradiction c31))
        refine r_ic G (pn := 36) rfl rfl  ?_
        refine r_il G (pn := 38) rfl rfl rfl ?_
        refine r_ib G (pn := 39) rfl rfl  ?_
        refine r_goto G rfl ?_
        refine r_is G (pn := 44) rfl rfl (Nat.le_of_ble_eq_true rfl) ?_
        refine r_inc G (pn := 47) rfl rfl rfl (Nat.le_of_ble_eq_true rfl) ?_
        refine r_goto G rfl ?_
        rw [nI_1, show (12 : Int32) + nI k = nI (12 + k) from nI_add 12 k]
        refine fin9 (12 + k) (k + 1) (by omega) (by omega) ?_
        have := hthere (n0 + k) (by omega) eb
        unfold nuM at this
        rw [if_neg (by omega), show n0 + k - n0 + 13 = 12 + k + 1 by omega, nI_pred] at this
        exact this
  refine r_ra G (pn := 1) rfl rfl rfl ?_
  refine r_ll G (pn := 2) rfl rfl rfl ?_
  refine r_inv2 G (pn := 5) rfl rfl hM (Nat.le_of_ble_eq_true rfl) (Nat.le_of_ble_eq_true rfl) (Nat.le_of_ble_eq_true rfl) (sp_37 (by omega) hM m3 h83 (by omega) (fun i hi hki _ => ?_) (fun hno => ?_))
  · show am_Go (am_KA lx e) (am_fetch cd_59) Q 5 [some (.ref 81), some (.long (lN b)), none, none, none] [.int (nI i)] h 0 0
    refine r_is G (pn := 6) rfl rfl (Nat.le_of_ble_eq_true rfl) ?_
    refine r_ic G (pn := 7) rfl rfl  ?_
    refine r_is G (pn := 9) rfl rfl (Nat.le_of_ble_eq_true rfl) ?_
    obtain ⟨k1, k2⟩ := gk i hi
    have eb : B i = b := (lN_iff (by omega) (by omega)).mp (k1.symm.trans hki)
    refine fin9 i 0 (by omega) (by omega) ?_
    have := hthere i (by omega) eb
    unfold nuM at this
    rw [if_pos hi, nI_pred] at this
    exact this
  · show am_Go (am_KA lx e) (am_fetch cd_59) Q 5 [some (.ref 81), some (.long (lN b)), none, none, none] [.int (-1)] h 0 0
    refine r_is G (pn := 6) rfl rfl (Nat.le_of_ble_eq_true rfl) ?_
    refine r_ic G (pn := 7) rfl rfl  ?_
    refine r_is G (pn := 9) rfl rfl (Nat.le_of_ble_eq_true rfl) ?_
    refine lp (u - n0) 0 (fun i hi w => hno i (by omega) ?_) (by omega)
    rw [(gk i (by omega)).1, w]
set_option maxRecDepth 20000 in
theorem sp_61 (hd : 1 ≤ d) {a n : Nat} {wd : Nat → Int32} (hM : h[81]? = some (mO m)) (h90 : h[90]? = some (aI 5 wd)) (han : a + n ≤ 5)
    (hq : ∀ h' f, am_fr (fun i => i = 90) h h' → h'[90]? = some (aI 5 f) → (∀ p q, a ≤ p → p < q → q < a + n → f p ≤ f q) → (∀ P : Int32 → Bool, cn P f a n = cn P wd a n) → (∀ q, (q < a ∨ a + n ≤ q) → f q = wd q) → Q none h') : am_KA lx d 61 [.ref 81, .int (nI a), .int (nI n)] h Q := by
  obtain ⟨e, rfl⟩ : ∃ e, d = e + 1 := ⟨d - 1, by omega⟩
  have G : am_GK (am_KA lx e) cd_61 := ⟨am_KA_m lx e, cm_61⟩
  refine am_KA_in (by decide) (Nat.le_of_ble_eq_true rfl) ?_
  show am_Go (am_KA lx e) (am_fetch cd_61) Q 0 [some (.ref 81), some (.int (nI a)), some (.int (nI n)), none, none, none] [] h 0 0
  refine r_ic G (pn := 1) rfl rfl  ?_
  refine r_is G (pn := 2) rfl rfl (Nat.le_of_ble_eq_true rfl) ?_
  have lp : ∀ (z r : Nat) (h' : am_H) (f : Nat → Int32) (y4 y5 : Option Value), r + z = n → am_fr (fun i => i = 90) h h' → h'[90]? = some (aI 5 f) → (∀ p q, a ≤ p → p < q → a + n ≤ q + r → q < a + n → f p ≤ f q) → (∀ P : Int32 → Bool, cn P f a n = cn P wd a n) → (∀ q, (q < a ∨ a + n ≤ q) → f q = wd q) → am_Go (am_KA lx e) (am_fetch cd_61) Q 2 [some (.ref 81), some (.int (nI a)), some (.int (nI n)), some (.int (nI r)), y4, y5] [] h' 0 0 := by
    intro z
    induction z with
    | zero =>
      intro r h' f y4 y5 hr hf k90 hS hc ho
      obtain rfl : r = n := by omega
      refine r_il G (pn := 3) rfl rfl rfl ?_
      refine r_il G (pn := 4) rfl rfl rfl ?_
      refine r_if2 G (pn := 7) rfl rfl (fun c4 => ?_) (fun c4 => ?_)
      rotate_left
      · exact absurd (Int32.le_refl _) c4
      exact r_vret G rfl (hq h' f hf k90 (fun p q h1 h2 h3 => hS p q h1 h2 (by omega) h3) hc ho)
    | succ z ih =>
      intro r h' f y4 y5 hr hf k90 hS hc ho
      refine r_il G (pn := 3) rfl rfl rfl ?_
      refine r_il G (pn := 4) rfl rfl rfl ?_
      refine r_if2 G (pn := 7) rfl rfl (fun c4 => ?_) (fun c4 => ?_)
      · exact absurd ((nI_leI (by omega) (by omega)).mp c4) (by omega)
      refine r_il G (pn := 8) rfl rfl rfl ?_
      refine r_is G (pn := 10) rfl rfl (Nat.le_of_ble_eq_true rfl) ?_
      have inner : ∀ (z2 k : Nat) (h' : am_H) (f : Nat → Int32) (y5 : Option Value), k + 1 + z2 = a + n → a ≤ k → am_fr (fun i => i = 90) h h' → h'[90]? = some (aI 5 f) → (∀ p q, a ≤ p → p < q → a + n ≤ q + r → q < a + n → f p ≤ f q) → (∀ P : Int32 → Bool, cn P f a n = cn P wd a n) → (∀ q, (q < a ∨ a + n ≤ q) → f q = wd q) → (∀ p q, a ≤ p → p < q → q ≤ k → (q = k ∨ q + r + 1 = a + n) → q + r + 1 ≤ a + n → f p ≤ f q) → am_Go (am_KA lx e) (am_fetch cd_61) Q 10 [some (.ref 81), some (.int (nI a)), some (.int (nI n)), some (.int (nI r)), some (.int (nI k)), y5] [] h' 0 0 := by
        intro z2
        induction z2 with
        | zero =>
          intro k h' f y5 hk hak hf k90 hS hc ho hL
          refine r_il G (pn := 12) rfl rfl rfl ?_
          refine r_ic G (pn := 13) rfl rfl  ?_
          refine r_ib G (pn := 14) rfl rfl  ?_
          refine r_il G (pn := 15) rfl rfl rfl ?_
          refine r_il G (pn := 16) rfl rfl rfl ?_
          refine r_ib G (pn := 17) rfl rfl  ?_
          rw [nI_1, nI_add]
          refine r_if2 G (pn := 20) rfl rfl (fun c17 => ?_) (fun c17 => ?_)
          rotate_left
          · exact absurd ((nI_leI (by omega) (by omega)).mpr (by omega)) c17
          refine r_inc G (pn := 84) rfl rfl rfl (Nat.le_of_ble_eq_true rfl) ?_
          refine r_goto G rfl ?_
          rw [nI_1]
          refine ih (r + 1) h' f _ _ (by omega) hf k90 (fun p q h1 h2 h3 h4 => ?_) hc ho
          by_cases y : a + n ≤ q + r
          · exact hS p q h1 h2 y h4
          · exact hL p q h1 h2 (by omega) (Or.inr (by omega)) (by omega)
        | succ z2 ih2 =>
          intro k h' f y5 hk hak hf k90 hS hc ho hL
          have kM := hf.at (by omega) hM
          refine r_il G (pn := 12) rfl rfl rfl ?_
          refine r_ic G (pn := 13) rfl rfl  ?_
          refine r_ib G (pn := 14) rfl rfl  ?_
          refine r_il G (pn := 15) rfl rfl rfl ?_
          refine r_il G (pn := 16) rfl rfl rfl ?_
          refine r_ib G (pn := 17) rfl rfl  ?_
          rw [nI_1, nI_add]
          refine r_if2 G (pn := 20) rfl rfl (fun c17 => ?_) (fun c17 => ?_)
          · exact absurd ((nI_leI (by omega) (by omega)).mp c17) (by omega)
          refine r_ra G (pn := 21) rfl rfl rfl ?_
          refine r_get G (pn := 24) rfl rfl (by first | assumption | (repeat (first | assumption | exact am_eq (by first | assumption | exact am_eq (by assumption) | exact am_ne (by first | decide | omega) (by assumption)) | refine am_ne (by first | decide | omega) ?_))) rfl ?_
          refine r_il G (pn := 26) rfl rfl rfl ?_
          refine r_ialdN G (pn := 27) rfl rfl k90 (by omega) (by omega) ?_
          refine r_ra G (pn := 28) rfl rfl rfl ?_
          refine r_get G (pn := 31) rfl rfl (by first | assumption | (repeat (first | assumption | exact am_eq (by first | assumption | exact am_eq (by assumption) | exact am_ne (by first | decide | omega) (by assumption)) | refine am_ne (by first | decide | omega) ?_))) rfl ?_
          refine r_il G (pn := 33) rfl rfl rfl ?_
          refine r_ic G (pn := 34) rfl rfl  ?_
          refine r_ib G (pn := 35) rfl rfl  ?_
          rw [nI_1]
          refine r_ialdN G (pn := 36) rfl rfl k90 (by omega) (by omega) ?_
          refine r_if2 G (pn := 39) rfl rfl (fun c36 => ?_) (fun c36 => ?_)
          · refine r_inc G (pn := 78) rfl rfl rfl (Nat.le_of_ble_eq_true rfl) ?_
            refine r_goto G rfl ?_
            rw [nI_1]
            refine ih2 (k + 1) h' f _ (by omega) (by omega) hf k90 hS hc ho (fun p q h1 h2 h3 h4 h5 => ?_)
            by_cases y : q = k + 1
            · rw [y]
              by_cases w : p = k
              · rw [w]; exact c36
              · exact Int32.le_trans (hL p k h1 (by omega) (Nat.le_refl _) (Or.inl rfl) (by omega)) c36
            · exact hL p q h1 h2 (by omega) (by omega) h5
          · have hgt : f (k + 1) < f k := Int32.not_le.mp c36
            have hpre : k + 1 + r < a + n := Nat.not_le.mp (fun y => c36 (hS k (k + 1) hak (by omega) (by omega) (by omega)))
            refine r_ra G (pn := 40) rfl rfl rfl ?_
            refine r_get G (pn := 43) rfl rfl (by first | assumption | (repeat (first | assumption | exact am_eq (by first | assumption | exact am_eq (by assumption) | exact am_ne (by first | decide | omega) (by assumption)) | refine am_ne (by first | decide | omega) ?_))) rfl ?_
            refine r_il G (pn := 45) rfl rfl rfl ?_
            refine r_ialdN G (pn := 46) rfl rfl k90 (by omega) (by omega) ?_
            refine r_is G (pn := 48) rfl rfl (Nat.le_of_ble_eq_true rfl) ?_
            refine r_ra G (pn := 49) rfl rfl rfl ?_
            refine r_get G (pn := 52) rfl rfl (by first | assumption | (repeat (first | assumption | exact am_eq (by first | assumption | exact am_eq (by assumption) | exact am_ne (by first | decide | omega) (by assumption)) | refine am_ne (by first | decide | omega) ?_))) rfl ?_
            refine r_il G (pn := 54) rfl rfl rfl ?_
            refine r_ra G (pn := 55) rfl rfl rfl ?_
            refine r_get G (pn := 58) rfl rfl (by first | assumption | (repeat (first | assumption | exact am_eq (by first | assumption | exact am_eq (by assumption) | exact am_ne (by first | decide | omega) (by assumption)) | refine am_ne (by first | decide | omega) ?_))) rfl ?_
            refine r_il G (pn := 60) rfl rfl rfl ?_
            refine r_ic G (pn := 61) rfl rfl  ?_
            refine r_ib G (pn := 62) rfl rfl  ?_
            rw [nI_1]
            refine r_ialdN G (pn := 63) rfl rfl k90 (by omega) (by omega) ?_
            refine r_iastN G (pn := 64) rfl rfl k90 (by omega) (by omega) ?_
            refine r_ra G (pn := 65) rfl rfl rfl ?_
            refine r_get G (pn := 68) rfl rfl (am_ne (by decide) kM) rfl ?_
            refine r_il G (pn := 70) rfl rfl rfl ?_
            refine r_ic G (pn := 71) rfl rfl  ?_
            refine r_ib G (pn := 72) rfl rfl  ?_
            rw [nI_1]
            refine r_il G (pn := 74) rfl rfl rfl ?_
            refine r_iastN G (pn := 75) rfl rfl (am_eq k90) (by omega) (by omega) ?_
            refine r_inc G (pn := 78) rfl rfl rfl (Nat.le_of_ble_eq_true rfl) ?_
            refine r_goto G rfl ?_
            rw [nI_1]
            have e1 : upd (upd f k (f (k + 1))) (k + 1) (f k) k = f (k + 1) := by rw [pk_un (by omega), pk_us]
            have e2 : upd (upd f k (f (k + 1))) (k + 1) (f k) (k + 1) = f k := by rw [pk_us]
            have e3 : ∀ j, j ≠ k → j ≠ k + 1 → upd (upd f k (f (k + 1))) (k + 1) (f k) j = f j := fun j h1 h2 => by rw [pk_un h2, pk_un h1]
            refine ih2 (k + 1) _ _ _ (by omega) (by omega) ((hf.put rfl).put rfl) (am_eq (am_eq k90)) (fun p q h1 h2 h3 h4 => ?_) (fun P => ?_) (fun q hq => ?_) (fun p q h1 h2 h3 h4 h5 => ?_)
            · rw [e3 q (by omega) (by omega)]
              by_cases y : p = k
              · rw [y, e1]; exact hS (k + 1) q (by omega) (by omega) h3 h4
              · by_cases w : p = k + 1
                · rw [w, e2]; exact hS k q (by omega) (by omega) h3 h4
                · rw [e3 p y w]; exact hS p q h1 h2 h3 h4
            · rw [← hc P]
              exact cn_swap (i := k - a) (by rw [show a + (k - a) = k by omega]; exact e1) (by rw [show a + (k - a) = k by omega]; exact e2) (fun j h1 h2 => e3 j (by omega) (by omega)) (by omega)
            · rw [e3 q (by omega) (by omega)]; exact ho q hq
            · have hqk : q = k + 1 := by omega
              rw [hqk, e2]
              by_cases y : p = k
              · rw [y, e1]; exact Int32.le_of_lt hgt
              · rw [e3 p y (by omega)]
                exact hL p k h1 (by omega) (Nat.le_refl _) (Or.inl rfl) (by omega)
      refine inner (n - 1) a h' f _ (by omega) (Nat.le_refl _) hf k90 hS hc ho (fun p q h1 h2 h3 => by omega)
  exact lp n 0 h wd _ _ (by omega) am_fr.rf h90 (fun p q h1 h2 h3 h4 => by omega) (fun _ => rfl) (fun _ _ => rfl)
end
