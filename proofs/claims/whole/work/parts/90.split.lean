/-- the orders after a rewriting -/
def rwO (P : Nat) (c X : Nat → Nat) (od : Nat → Nat → Nat) : Nat → Nat → Nat := if P = 2 then oset od (c 0) (c 1) (X 0) else oset (oset (oset od (c 0) (c 1) (X 0)) (c 0) (c 2) (X 1)) (c 1) (c 2) (X 2)
section
variable {lx : am_Lx} {d : Nat} {h : am_H} {Q : am_Q}
theorem sp_94 (hd : 2 ≤ d) {P n lb x : Nat} {cd c X : Nat → Nat} {od : Nat → Nat → Nat} {fX : Nat → Int32} (hP : P = 2 ∨ P = 3) (hX : MxI h n lb cd od) (hn : n ≤ 10) (hC : ChI h P c) (hc : ∀ j, j < P → c j < n) (hci : ∀ i j, i < j → j < P → c i ≠ c j) (hx : h[x]? = some (aI 3 fX)) (hxx : x < 43 ∨ 57 < x) (gX : ∀ q, q < 3 → fX q = nI (X q)) (hq : ∀ h', am_fr mxP h h' → MxI h' n lb cd (rwO P c X od) → Q none h') : am_KA lx d 94 [.ref 43, .ref 59, .int (nI P), .ref x] h Q := by
  obtain ⟨fc, h59, gc⟩ := hC
  obtain ⟨e, rfl⟩ : ∃ e, d = e + 1 := ⟨d - 1, by omega⟩
  have G : am_GK (am_KA lx e) cd_94 := ⟨am_KA_m lx e, cm_94⟩
  refine am_KA_in (by decide) (Nat.le_of_ble_eq_true rfl) ?_
  show am_Go (am_KA lx e) (am_fetch cd_94) Q 0 [some (.ref 43), some (.ref 59), some (.int (nI P)), some (.ref x), none, none] [] h 0 0
  have stp : ∀ (i j : Nat) (h1 : am_H) (od1 : Nat → Nat → Nat), i < j → j < P → am_fr mxP h h1 → MxI h1 n lb cd od1 → (∀ h2, am_fr mxP h h2 → MxI h2 n lb cd (oset od1 (c i) (c j) (X (i + j - 1))) → am_Go (am_KA lx e) (am_fetch cd_94) Q 12 [some (.ref 43), some (.ref 59), some (.int (nI P)), some (.ref x), some (.int (nI j)), some (.int (nI (i + 1)))] [] h2 0 0) → am_Go (am_KA lx e) (am_fetch cd_94) Q 12 [some (.ref 43), some (.ref 59), some (.int (nI P)), some (.ref x), some (.int (nI j)), some (.int (nI i))] [] h1 0 0 := by
    intro i j h1 od1 hij hj hf1 hX1 hk
    have k43 := hX1.1
    have k59 : h1[59]? = some (aI 3 fc) := hf1.at (fun z => by have := z.2; omega) h59
    have kx : h1[x]? = some (aI 3 fX) := hf1.at (fun z => by have := z.2; have := z.1; omega) hx
    have ci := hc i (by omega)
    have cj := hc j hj
    refine r_il G (pn := 14) rfl rfl rfl ?_
    refine r_il G (pn := 16) rfl rfl rfl ?_
    refine r_if2 G (pn := 19) rfl rfl (fun c16 => ?_) (fun c16 => ?_)
    · exact absurd ((nI_leI (by omega) (by omega)).mp c16) (by omega)
    refine r_ra G (pn := 20) rfl rfl rfl ?_
    refine r_get G (pn := 23) rfl rfl (by first | assumption | (repeat (first | assumption | exact am_eq (by first | assumption | exact am_eq (by assumption) | exact am_ne (by first | decide | omega) (by assumption)) | refine am_ne (by first | decide | omega) ?_))) rfl ?_
    refine r_ra G (pn := 24) rfl rfl rfl ?_
    refine r_il G (pn := 26) rfl rfl rfl ?_
    refine r_ialdN G (pn := 27) rfl rfl k59 (by omega) (by omega) ?_
    refine r_ra G (pn := 28) rfl rfl rfl ?_
    refine r_il G (pn := 30) rfl rfl rfl ?_
    refine r_ialdN G (pn := 31) rfl rfl k59 (by omega) (by omega) ?_
    refine r_ra G (pn := 32) rfl rfl rfl ?_
    refine r_il G (pn := 34) rfl rfl rfl ?_
    refine r_il G (pn := 36) rfl rfl rfl ?_
    rw [gc i (by omega), gc j hj]
    refine r_ins2 G (pn := 39) rfl rfl (Nat.le_of_ble_eq_true rfl) (Nat.le_of_ble_eq_true rfl) (Nat.le_of_ble_eq_true rfl) (sp_117 (by omega) ?_)
    have eix : nI i + nI j - 1 = nI (i + j - 1) := by
      rw [nI_add]
      obtain ⟨u, hu⟩ : ∃ u, i + j = u + 1 := ⟨i + j - 1, by omega⟩
      rw [hu, nI_pred, Nat.add_sub_cancel]
    rw [eix]
    show am_Go (am_KA lx e) (am_fetch cd_94) Q 39 [some (.ref 43), some (.ref 59), some (.int (nI P)), some (.ref x), some (.int (nI j)), some (.int (nI i))] [.int (nI (i + j - 1)), .ref x, .int (nI (c j)), .int (nI (c i)), .ref 44] h1 0 0
    refine r_ialdN G (pn := 40) rfl rfl kx (by omega) (by omega) ?_
    rw [gX _ (by omega)]
    refine r_inv4 G (pn := 43) rfl rfl hX1.2.1 (Nat.le_of_ble_eq_true rfl) (Nat.le_of_ble_eq_true rfl) (Nat.le_of_ble_eq_true rfl) (sp_79 (by omega) hX1.2 (by omega) (by omega) (by omega) (hci i j hij hj) (fun h2 hf2 hG2 => ?_))
    show am_Go (am_KA lx e) (am_fetch cd_94) Q 43 [some (.ref 43), some (.ref 59), some (.int (nI P)), some (.ref x), some (.int (nI j)), some (.int (nI i))] [] h2 0 0
    refine r_inc G (pn := 46) rfl rfl rfl (Nat.le_of_ble_eq_true rfl) ?_
    refine r_goto G rfl ?_
    rw [nI_1]
    exact hk h2 (hf1.tr (hf2.wk (fun i hi => ⟨by have := hi.1; omega, by have := hi.2; omega⟩))) ⟨hf2.at (fun z => by have := z.1; omega) k43, hG2⟩
  have ends : ∀ (j : Nat) (h1 : am_H), j < P → am_Go (am_KA lx e) (am_fetch cd_94) Q 3 [some (.ref 43), some (.ref 59), some (.int (nI P)), some (.ref x), some (.int (nI (j + 1))), some (.int (nI j))] [] h1 0 0 → am_Go (am_KA lx e) (am_fetch cd_94) Q 12 [some (.ref 43), some (.ref 59), some (.int (nI P)), some (.ref x), some (.int (nI j)), some (.int (nI j))] [] h1 0 0 := by
    intro j h1 hj hk
    refine r_il G (pn := 14) rfl rfl rfl ?_
    refine r_il G (pn := 16) rfl rfl rfl ?_
    refine r_if2 G (pn := 19) rfl rfl (fun c16 => ?_) (fun c16 => ?_)
    rotate_left
    · exact absurd (Int32.le_refl _) c16
    refine r_inc G (pn := 52) rfl rfl rfl (Nat.le_of_ble_eq_true rfl) ?_
    refine r_goto G rfl ?_
    rw [nI_1]
    exact hk
  have begin_ : ∀ (j : Nat) (h1 : am_H) (y : Option Value), j < P → am_Go (am_KA lx e) (am_fetch cd_94) Q 12 [some (.ref 43), some (.ref 59), some (.int (nI P)), some (.ref x), some (.int (nI j)), some (.int (nI 0))] [] h1 0 0 → am_Go (am_KA lx e) (am_fetch cd_94) Q 3 [some (.ref 43), some (.ref 59), some (.int (nI P)), some (.ref x), some (.int (nI j)), y] [] h1 0 0 := by
    intro j h1 y hj hk
    refine r_il G (pn := 5) rfl rfl rfl ?_
    refine r_il G (pn := 6) rfl rfl rfl ?_
    refine r_if2 G (pn := 9) rfl rfl (fun c6 => ?_) (fun c6 => ?_)
    · exact absurd ((nI_leI (by omega) (by omega)).mp c6) (by omega)
    refine r_ic G (pn := 10) rfl rfl  ?_
    refine r_is G (pn := 12) rfl rfl (Nat.le_of_ble_eq_true rfl) ?_
    exact hk
  have stop : ∀ (h1 : am_H) (y : Option Value), Q none h1 → am_Go (am_KA lx e) (am_fetch cd_94) Q 3 [some (.ref 43), some (.ref 59), some (.int (nI P)), some (.ref x), some (.int (nI P)), y] [] h1 0 0 := by
    intro h1 y hk
    refine r_il G (pn := 5) rfl rfl rfl ?_
    refine r_il G (pn := 6) rfl rfl rfl ?_
    refine r_if2 G (pn := 9) rfl rfl (fun c6 => ?_) (fun c6 => ?_)
    rotate_left
    · exact absurd (Int32.le_refl _) c6
    exact r_vret G rfl hk
  refine r_ic G (pn := 1) rfl rfl  ?_
  refine r_is G (pn := 3) rfl rfl (Nat.le_of_ble_eq_true rfl) ?_
  refine begin_ 1 h none (by omega) (stp 0 1 h od (by omega) (by omega) am_fr.rf hX (fun h2 hf2 hX2 => ends 1 h2 (by omega) ?_))
  rcases hP with z | z
  · subst z
    exact stop h2 _ (hq h2 hf2 hX2)
  · subst z
    refine begin_ 2 h2 _ (by omega) (stp 0 2 h2 _ (by omega) (by omega) hf2 hX2 (fun h3 hf3 hX3 => stp 1 2 h3 _ (by omega) (by omega) hf3 hX3 (fun h4 hf4 hX4 => ends 2 h4 (by omega) (stop h4 _ (hq h4 hf4 hX4)))))
theorem sp_72 (hd : 1 ≤ d) {P cnt m : Nat} {T : Nat → Nat → Nat} (hF : FoI h P cnt T) (hP : P ≤ 3) (hm : m < cnt) (hc : cnt ≤ 720) (h59 : ∃ f, h[59]? = some (aI 3 f)) (hq : ∀ f, (∀ j, j < P → f j = nI (T m j)) → Q none (h.set 59 (aI 3 f))) : am_KA lx d 72 [.ref 58, .int (nI m)] h Q := by
  obtain ⟨h58, fo, h60, go⟩ := hF
  obtain ⟨fc, h59⟩ := h59
  obtain ⟨e, rfl⟩ : ∃ e, d = e + 1 := ⟨d - 1, by omega⟩
  have G : am_GK (am_KA lx e) cd_72 := ⟨am_KA_m lx e, cm_72⟩
  refine am_KA_in (by decide) (Nat.le_of_ble_eq_true rfl) ?_
  show am_Go (am_KA lx e) (am_fetch cd_72) Q 0 [some (.ref 58), some (.int (nI m))] [] h 0 0
  refine r_ra G (pn := 1) rfl rfl rfl ?_
  refine r_get G (pn := 4) rfl rfl (by first | assumption | (repeat (first | assumption | exact am_eq (by first | assumption | exact am_eq (by assumption) | exact am_ne (by first | decide | omega) (by assumption)) | refine am_ne (by first | decide | omega) ?_))) rfl ?_
  refine r_il G (pn := 5) rfl rfl rfl ?_
  refine r_ic G (pn := 6) rfl rfl  ?_
  refine r_ib G (pn := 7) rfl rfl  ?_
  refine r_ra G (pn := 8) rfl rfl rfl ?_
  refine r_get G (pn := 11) rfl rfl (by first | assumption | (repeat (first | assumption | exact am_eq (by first | assumption | exact am_eq (by assumption) | exact am_ne (by first | decide | omega) (by assumption)) | refine am_ne (by first | decide | omega) ?_))) rfl ?_
  refine r_ic G (pn := 12) rfl rfl  ?_
  refine r_ic G (pn := 13) rfl rfl  ?_
  rw [nI_3]
  refine r_copy G (pn := 16) rfl rfl h59 h60 (Nat.le_of_ble_eq_true rfl) (nI_pos (by omega)) (by decide) (by decide) (by rw [nI_clamp (by omega)]; show 3 * m + 3 ≤ 2160; omega) (Nat.le_of_ble_eq_true rfl) ?_
  rw [nI_clamp (by omega)]
  refine r_vret G rfl (hq _ (fun j hj => ?_))
  show va_cpy fo fc (3 * m) 0 3 j = _
  unfold va_cpy
  rw [if_pos (by omega), Nat.sub_zero]
  exact go m hm j hj
def spP (i : Nat) : Prop := keyP i ∨ pdP i
/-- what split makes of the components that the chosen atoms touch -/
def SpL (n : Nat) (cd : Nat → Nat) (od : Nat → Nat → Nat) (cap P : Nat) (c : Nat → Nat) (k : Nat) (w b : Nat → Nat) : Prop := ∃ R : Nat → Nat, (∀ i, i < k → R i < n) ∧ (∀ i j, i < k → j < k → Rch n od (R i) (R j) → i = j) ∧ (∀ p, p < P → ∃ i, i < k ∧ Rch n od (R i) (c p)) ∧ ∀ i, i < k → ∃ J cnt, CompE n od (R i) J cnt ∧ cnt ≤ cap ∧ IsK cd od J cnt (w i) (b i)
theorem sp_96 (hd : 8 ≤ d) {P n lb cap jc0 k0 : Nat} {cd c : Nat → Nat} {od : Nat → Nat → Nat} {fw : Nat → Int64} {fj : Nat → Int32} (hP : P = 2 ∨ P = 3) (hX : MxI h n lb cd od) (hn : n ≤ 10) (hcd : ∀ i, i < n → cd i < 4) (ho : ∀ i j, i < n → j < n → od i j < 4 ∧ od i j = od j i) (hC : ChI h P c) (hc : ∀ j, j < P → c j < n) (hcap : 2 ≤ cap ∧ cap ≤ 5) (hK : KsI h) (h61 : h[61]? = some (pO jc0 k0)) (h62 : h[62]? = some (aL 3 fw)) (h63 : h[63]? = some (aI 10 fj))
    (hno : ∀ h' jc k fw fj, ((∃ p, p < P ∧ cd (c p) + 1 < sm (od (c p)) n) ∨ Big n od cap) → am_fr spP h h' → KsI h' → h'[61]? = some (pO jc k) → h'[62]? = some (aL 3 fw) → h'[63]? = some (aI 10 fj) → Q (some (.int 0)) h')
    (hyes : ∀ h' jc k w b fw fj, (∀ p, p < P → sm (od (c p)) n ≤ cd (c p) + 1) → SpL n cd od cap P c k w b → 1 ≤ k → k ≤ P → am_fr spP h h' → KsI h' → h'[61]? = some (pO jc k) → h'[62]? = some (aL 3 fw) → (∀ i, i < k → fw i = lN (w i) ∧ KR (w i) (b i)) → h'[63]? = some (aI 10 fj) → Q (some (.int 1)) h') : am_KA lx d 96 [.ref 61, .ref 44, .ref 59, .int (nI P), .int (nI cap), .ref 35] h Q := by
  obtain ⟨fc, h59, gc⟩ := id hC
  obtain ⟨e, rfl⟩ : ∃ e, d = e + 1 := ⟨d - 1, by omega⟩
  have G : am_GK (am_KA lx e) cd_96 := ⟨am_KA_m lx e, cm_96⟩
  refine am_KA_in (by decide) (Nat.le_of_ble_eq_true rfl) ?_
  show am_Go (am_KA lx e) (am_fetch cd_96) Q 0 [some (.ref 61), some (.ref 44), some (.ref 59), some (.int (nI P)), some (.int (nI cap)), some (.ref 35), none, none] [] h 0 0
  have hs : ∀ i j, i < n → j < n → od i j = od j i := fun i j hi hj => (ho i j hi hj).2
  have nsp : ∀ i, i ≤ 35 ∨ (38 < i ∧ i < 61) ∨ 63 < i → ¬ spP i := fun i hi z => by
    rcases z with z | z
    · have := z.1; have := z.2; omega
    · have := z.1; have := z.2; omega
  -- the second loop
  have lp2 : ∀ (z p : Nat) (h' : am_H) (T jc k : Nat) (R w b : Nat → Nat) (fw : Nat → Int64) (fj : Nat → Int32), p + z = P → (∀ p, p < P → sm (od (c p)) n ≤ cd (c p) + 1) → am_fr spP h h' → KsI h' → h'[61]? = some (pO jc k) → h'[62]? = some (aL 3 fw) → h'[63]? = some (aI 10 fj) → k ≤ p → (1 ≤ p → 1 ≤ k) → (∀ i, i < k → fw i = lN (w i) ∧ KR (w i) (b i)) → (∀ i, i < k → R i < n) → (∀ i j, i < k → j < k → Rch n od (R i) (R j) → i = j) → (∀ q, q < p → ∃ i, i < k ∧ Rch n od (R i) (c q)) → (∀ i, i < k → ∃ J cnt, CompE n od (R i) J cnt ∧ cnt ≤ cap ∧ IsK cd od J cnt (w i) (b i)) → T < 1024 → (∀ x, x < 10 → (T.testBit x = true ↔ (x < n ∧ ∃ i, i < k ∧ Rch n od (R i) x))) → am_Go (am_KA lx e) (am_fetch cd_96) Q 39 [some (.ref 61), some (.ref 44), some (.ref 59), some (.int (nI P)), some (.int (nI cap)), some (.ref 35), some (.int (nI T)), some (.int (nI p))] [] h' 0 0 := by
    intro z
    induction z with
    | zero =>
      intro p h' T jc k R w b fw fj hp hl hf hK' k61 k62 k63 hk hk1 hw r1 r2 r3 r4 hT hTb
      obtain rfl : p = P := by omega
      refine r_il G (pn := 41) rfl rfl rfl ?_
      refine r_il G (pn := 42) rfl rfl rfl ?_
      refine r_if2 G (pn := 45) rfl rfl (fun c42 => ?_) (fun c42 => ?_)
      rotate_left
      · exact absurd (Int32.le_refl _) c42
      refine r_ic G (pn := 125) rfl rfl  ?_
      refine r_iret G rfl (by decide) (hyes h' jc k w b fw fj hl ⟨R, r1, r2, r3, r4⟩ (hk1 (by omega)) hk hf hK' k61 k62 hw k63)
    | succ z ih =>
      intro p h' T jc k R w b fw fj hp hl hf hK' k61 k62 k63 hk hk1 hw r1 r2 r3 r4 hT hTb
      have k59 : h'[59]? = some (aI 3 fc) := hf.at (nsp _ (by omega)) h59
      have hX' : MxI h' n lb cd od := hX.fr hf (fun i hi => nsp i (by have := hi.1; have := hi.2; omega))
      have cp := hc p (by omega)
      refine r_il G (pn := 41) rfl rfl rfl ?_
      refine r_il G (pn := 42) rfl rfl rfl ?_
      refine r_if2 G (pn := 45) rfl rfl (fun c42 => ?_) (fun c42 => ?_)
      · exact absurd ((nI_leI (by omega) (by omega)).mp c42) (by omega)
      refine r_il G (pn := 47) rfl rfl rfl ?_
      refine r_ra G (pn := 48) rfl rfl rfl ?_
      refine r_il G (pn := 50) rfl rfl rfl ?_
      refine r_ialdN G (pn := 51) rfl rfl k59 (by omega) (by omega) ?_
      rw [gc p (by omega)]
      refine r_ib G (pn := 52) rfl rfl  ?_
      refine r_ic G (pn := 53) rfl rfl  ?_
      refine r_ib G (pn := 54) rfl rfl  ?_
      rw [am_bit (by omega) (by omega)]
      have tm : T / 2 ^ c p % 2 < 2 := Nat.mod_lt _ (by decide)
      refine r_if1 G (pn := 57) rfl rfl (fun c54 => ?_) (fun c54 => ?_)
      rotate_left
      · have tb : T.testBit (c p) = true := (tb_div T (c p)).mp (by
          have : T / 2 ^ c p % 2 ≠ 0 := fun y => c54 (by rw [y]; rfl)
          omega)
        refine r_goto G rfl ?_
        refine r_inc G (pn := 121) rfl rfl rfl (Nat.le_of_ble_eq_true rfl) ?_
        refine r_goto G rfl ?_
        rw [nI_1]
        refine ih (p + 1) h' T jc k R w b fw fj (by omega) hl hf hK' k61 k62 k63 (by omega) (fun _ => ?_) hw r1 r2 (fun q hq => ?_) r4 hT hTb
        · obtain ⟨-, i, hi, -⟩ := (hTb _ (by omega)).mp tb
          omega
        · by_cases y : q = p
          · rw [y]; exact ((hTb _ (by omega)).mp tb).2
          · exact r3 q (by omega)
      have tb : ¬ T.testBit (c p) = true := fun y => by
        have := (tb_div T (c p)).mpr y
        rw [this] at c54
        exact absurd c54 (by decide)
      have nr : ¬ ∃ i, i < k ∧ Rch n od (R i) (c p) := fun y => tb ((hTb _ (by omega)).mpr ⟨cp, y⟩)
      refine r_il G (pn := 62) rfl rfl rfl ?_
      refine r_ra G (pn := 63) rfl rfl rfl ?_
      refine r_ra G (pn := 64) rfl rfl rfl ?_
      refine r_ra G (pn := 65) rfl rfl rfl ?_
      refine r_il G (pn := 67) rfl rfl rfl ?_
      refine r_ialdN G (pn := 68) rfl rfl k59 (by omega) (by omega) ?_
      rw [gc p (by omega)]
      refine r_inv3 G (pn := 71) rfl rfl k61 (Nat.le_of_ble_eq_true rfl) (Nat.le_of_ble_eq_true rfl) (Nat.le_of_ble_eq_true rfl) (sp_97 (by omega) hX'.2 hn (fun i j hi hj => (ho i j hi hj).1) k61 k63 cp (fun h2 J cnt T2 f hh l61 l63 gf comp hT2 hT2b => ?_))
      have hf2 : am_fr spP h h2 := hf.tr (fun i hi => hh i (fun y => hi (Or.inr ⟨by omega, by omega⟩)) (fun y => hi (Or.inr ⟨by omega, by omega⟩)))
      have l62 : h2[62]? = some (aL 3 fw) := (hh 62 (by omega) (by omega)).trans k62
      have hfr61 : am_fr (fun i => i = 61 ∨ i = 63) h' h2 := fun i hi => hh i (fun y => hi (Or.inl y)) (fun y => hi (Or.inr y))
      have hK2 : KsI h2 := hK'.fr hfr61 (fun i h1 h2 => by omega)
      have hX2 : MxI h2 n lb cd od := hX'.fr hfr61 (fun i hi => by have := hi.2; omega)
      show am_Go (am_KA lx e) (am_fetch cd_96) Q 71 [some (.ref 61), some (.ref 44), some (.ref 59), some (.int (nI P)), some (.int (nI cap)), some (.ref 35), some (.int (nI T)), some (.int (nI p))] [.int (nI T2), .int (nI T)] h2 0 0
      refine r_ib G (pn := 72) rfl rfl  ?_
      rw [am_nI_or (by omega) (by omega)]
      have Tlt : T ||| T2 < 1024 := Nat.or_lt_two_pow (n := 10) hT hT2
      obtain ⟨cp1, cp2⟩ := comp.pos cp
      refine r_is G (pn := 74) rfl rfl (Nat.le_of_ble_eq_true rfl) ?_
      refine r_ra G (pn := 75) rfl rfl rfl ?_
      refine r_get G (pn := 78) rfl rfl (by first | assumption | (repeat (first | assumption | exact am_eq (by first | assumption | exact am_eq (by assumption) | exact am_ne (by first | decide | omega) (by assumption)) | refine am_ne (by first | decide | omega) ?_))) rfl ?_
      refine r_il G (pn := 80) rfl rfl rfl ?_
      refine r_if2 G (pn := 83) rfl rfl (fun c80 => ?_) (fun c80 => ?_)
      rotate_left
      · have hb : cap < cnt := Nat.not_le.mp (fun y => c80 ((nI_leI (by omega) (by omega)).mpr y))
        refine r_ic G (pn := 84) rfl rfl  ?_
        refine r_iret G rfl (by decide) (hno h2 cnt k fw f (Or.inr ⟨c p, J, cnt, cp, comp, hb⟩) hf2 hK2 l61 l62 l63)
      have hle : cnt ≤ cap := (nI_leI (by omega) (by omega)).mp c80
      refine r_ra G (pn := 86) rfl rfl rfl ?_
      refine r_get G (pn := 89) rfl rfl (by first | assumption | (repeat (first | assumption | exact am_eq (by first | assumption | exact am_eq (by assumption) | exact am_ne (by first | decide | omega) (by assumption)) | refine am_ne (by first | decide | omega) ?_))) rfl ?_
      refine r_ra G (pn := 90) rfl rfl rfl ?_
      refine r_get G (pn := 93) rfl rfl (by first | assumption | (repeat (first | assumption | exact am_eq (by first | assumption | exact am_eq (by assumption) | exact am_ne (by first | decide | omega) (by assumption)) | refine am_ne (by first | decide | omega) ?_))) rfl ?_
      refine r_ra G (pn := 95) rfl rfl rfl ?_
      refine r_ra G (pn := 96) rfl rfl rfl ?_
      refine r_ra G (pn := 97) rfl rfl rfl ?_
      refine r_get G (pn := 100) rfl rfl (by first | assumption | (repeat (first | assumption | exact am_eq (by first | assumption | exact am_eq (by assumption) | exact am_ne (by first | decide | omega) (by assumption)) | refine am_ne (by first | decide | omega) ?_))) rfl ?_
      refine r_ra G (pn := 101) rfl rfl rfl ?_
      refine r_get G (pn := 104) rfl rfl (by first | assumption | (repeat (first | assumption | exact am_eq (by first | assumption | exact am_eq (by assumption) | exact am_ne (by first | decide | omega) (by assumption)) | refine am_ne (by first | decide | omega) ?_))) rfl ?_
      refine r_inv4 G (pn := 107) rfl rfl hK2.1 (Nat.le_of_ble_eq_true rfl) (Nat.le_of_ble_eq_true rfl) (Nat.le_of_ble_eq_true rfl) (sp_82 (at_ := J) (by omega) hX2.2 (by omega) (by omega) (by omega) hK2 l63 (by omega) (by omega) (by omega) (by omega) (by omega) (fun q hq => ⟨gf q hq, (comp.1 q hq).1⟩) hcd (fun i j hi hj => (ho i j hi hj).1) (fun h3 srt s hf3 hK3 s1 s2 s3 s4 s5 => ?_))
      obtain ⟨bb, hk2⟩ := IsK_class (by omega) (by omega) comp.2.1 (fun q hq => hcd _ (comp.1 q hq).1) (fun i j hi hj => (ho _ _ (comp.1 i hi).1 (comp.1 j hj).1).1) s2 s3 s4 s5
      have hkr := hk2.kr (by omega) (by omega) (fun q hq => hcd _ (comp.1 q hq).1) (fun i j hi hj => (ho _ _ (comp.1 i hi).1 (comp.1 j hj).1).1)
      generalize hww : WC cd od (fun q => srt (s q)) cnt = ww at hk2 hkr
      have m61 : h3[61]? = some (pO cnt k) := hf3.at (fun y => by have := y.2; omega) l61
      have m62 : h3[62]? = some (aL 3 fw) := hf3.at (fun y => by have := y.2; omega) l62
      have m63 : h3[63]? = some (aI 10 f) := hf3.at (fun y => by have := y.2; omega) l63
      show am_Go (am_KA lx e) (am_fetch cd_96) Q 107 [some (.ref 61), some (.ref 44), some (.ref 59), some (.int (nI P)), some (.int (nI cap)), some (.ref 35), some (.int (nI (T ||| T2))), some (.int (nI p))] [.long (lN ww), .int (nI k), .ref 62] h3 0 0
      refine r_lastN G (pn := 108) rfl rfl m62 (by omega) (by omega) ?_
      refine r_ra G (pn := 109) rfl rfl rfl ?_
      refine r_dup G (pn := 110) rfl rfl rfl ?_
      refine r_get G (pn := 113) rfl rfl (am_ne (by decide) m61) rfl ?_
      refine r_ic G (pn := 114) rfl rfl  ?_
      refine r_ib G (pn := 115) rfl rfl  ?_
      rw [nI_1]
      refine r_puti G (pn := 118) rfl rfl (am_ne (by decide) m61) (Nat.le_of_ble_eq_true rfl) ?_
      refine r_inc G (pn := 121) rfl rfl rfl (Nat.le_of_ble_eq_true rfl) ?_
      refine r_goto G rfl ?_
      rw [nI_1]
      have hf3' : am_fr spP h h3 := hf2.tr (hf3.wk (fun i hi => Or.inl hi))
      refine ih (p + 1) _ (T ||| T2) cnt (k + 1) (uN R k (c p)) (uN w k ww) (uN b k bb) (vp_updL fw k (lN ww)) f (by omega) hl ((hf3'.put (Or.inr ⟨by omega, by omega⟩)).put (Or.inr ⟨by omega, by omega⟩)) (hK3.fr (P := fun i => i = 61 ∨ i = 62) ((am_fr.rf.put (Or.inr rfl)).put (Or.inl rfl)) (fun i h1 h2 => by omega)) (am_eq (am_ne (by decide) m61)) (am_ne (by decide) (am_eq m62)) (am_ne (by decide) (am_ne (by decide) m63)) (by omega) (fun _ => by omega) (fun i hi => ?_) (fun i hi => ?_) (fun i j hi hj hr => ?_) (fun q hq => ?_) (fun i hi => ?_) Tlt (fun x hx => ?_)
      · by_cases y : i = k
        · rw [y, pk_uLs', uN_s, uN_s]; exact ⟨rfl, hkr⟩
        · rw [pk_uLn y, uN_n y, uN_n y]; exact hw i (by omega)
      · by_cases y : i = k
        · rw [y, uN_s]; exact cp
        · rw [uN_n y]; exact r1 i (by omega)
      · by_cases yi : i = k
        · by_cases yj : j = k
          · omega
          · rw [yi, uN_s, uN_n yj] at hr
            exact absurd ⟨j, by omega, hr.sy hs⟩ nr
        · by_cases yj : j = k
          · rw [yj, uN_s, uN_n yi] at hr
            exact absurd ⟨i, by omega, hr⟩ nr
          · rw [uN_n yi, uN_n yj] at hr
            exact r2 i j (by omega) (by omega) hr
      · by_cases y : q = p
        · exact ⟨k, by omega, by rw [uN_s, y]; exact Rch.rf⟩
        · obtain ⟨i, i1, i2⟩ := r3 q (by omega)
          exact ⟨i, by omega, by rw [uN_n (by omega)]; exact i2⟩
      · by_cases y : i = k
        · rw [y, uN_s, uN_s, uN_s]; exact ⟨J, cnt, comp, hle, hk2⟩
        · rw [uN_n y, uN_n y, uN_n y]; exact r4 i (by omega)
      · rw [Nat.testBit_or, Bool.or_eq_true, hTb x hx, hT2b x hx]
        constructor
        · rintro (⟨x1, i, i1, i2⟩ | ⟨x1, x2⟩)
          · exact ⟨x1, i, by omega, by rw [uN_n (by omega)]; exact i2⟩
          · exact ⟨x1, k, by omega, by rw [uN_s]; exact x2⟩
        · rintro ⟨x1, i, i1, i2⟩
          by_cases y : i = k
          · rw [y, uN_s] at i2; exact Or.inr ⟨x1, i2⟩
          · rw [uN_n y] at i2; exact Or.inl ⟨x1, i, by omega, i2⟩
  have lp1 : ∀ (z p : Nat), p + z = P → (∀ q, q < p → sm (od (c q)) n ≤ cd (c q) + 1) → am_Go (am_KA lx e) (am_fetch cd_96) Q 8 [some (.ref 61), some (.ref 44), some (.ref 59), some (.int (nI P)), some (.int (nI cap)), some (.ref 35), some (.int (nI p)), none] [] (h.set 61 (pO jc0 0)) 0 0 := by
    have q61 : (h.set 61 (pO jc0 0))[61]? = some (pO jc0 0) := am_eq h61
    have q62 : (h.set 61 (pO jc0 0))[62]? = some (aL 3 fw) := am_ne (by decide) h62
    have q63 : (h.set 61 (pO jc0 0))[63]? = some (aI 10 fj) := am_ne (by decide) h63
    have q59 : (h.set 61 (pO jc0 0))[59]? = some (aI 3 fc) := am_ne (by decide) h59
    have qf : am_fr spP h (h.set 61 (pO jc0 0)) := am_fr.rf.put (Or.inr ⟨by omega, by omega⟩)
    have qf1 : am_fr (fun i => i = 61) h (h.set 61 (pO jc0 0)) := am_fr.rf.put rfl
    have qK : KsI (h.set 61 (pO jc0 0)) := hK.fr qf1 (fun i h1 h2 => by omega)
    have qX : MxI (h.set 61 (pO jc0 0)) n lb cd od := hX.fr qf1 (fun i hi => by have := hi.2; omega)
    generalize (h.set 61 (pO jc0 0) : am_H) = ha at q61 q62 q63 q59 qf qK qX
    intro z
    induction z with
    | zero =>
      intro p hp hl
      obtain rfl : p = P := by omega
      refine r_il G (pn := 10) rfl rfl rfl ?_
      refine r_il G (pn := 11) rfl rfl rfl ?_
      refine r_if2 G (pn := 14) rfl rfl (fun c11 => ?_) (fun c11 => ?_)
      rotate_left
      · exact absurd (Int32.le_refl _) c11
      refine r_ic G (pn := 34) rfl rfl  ?_
      refine r_is G (pn := 36) rfl rfl (Nat.le_of_ble_eq_true rfl) ?_
      refine r_ic G (pn := 37) rfl rfl  ?_
      refine r_is G (pn := 39) rfl rfl (Nat.le_of_ble_eq_true rfl) ?_
      exact lp2 p 0 ha 0 jc0 0 (fun _ => 0) (fun _ => 0) (fun _ => 0) fw fj (by omega) hl qf qK q61 q62 q63 (by omega) (fun y => by omega) (fun i hi => absurd hi (Nat.not_lt_zero i)) (fun i hi => absurd hi (Nat.not_lt_zero i)) (fun i j hi => absurd hi (Nat.not_lt_zero i)) (fun i hi => absurd hi (Nat.not_lt_zero i)) (fun i hi => absurd hi (Nat.not_lt_zero i)) (by omega) (fun x hx => ⟨fun y => by rw [Nat.zero_testBit] at y; exact absurd y (by decide), fun ⟨_, i, hi, _⟩ => absurd hi (Nat.not_lt_zero i)⟩)
    | succ z ih =>
      intro p hp hl
      have cp := hc p (by omega)
      refine r_il G (pn := 10) rfl rfl rfl ?_
      refine r_il G (pn := 11) rfl rfl rfl ?_
      refine r_if2 G (pn := 14) rfl rfl (fun c11 => ?_) (fun c11 => ?_)
      · exact absurd ((nI_leI (by omega) (by omega)).mp c11) (by omega)
      refine r_ra G (pn := 15) rfl rfl rfl ?_
      refine r_ra G (pn := 16) rfl rfl rfl ?_
      refine r_il G (pn := 18) rfl rfl rfl ?_
      refine r_ialdN G (pn := 19) rfl rfl q59 (by omega) (by omega) ?_
      rw [gc p (by omega)]
      refine r_inv2 G (pn := 22) rfl rfl qX.2.1 (Nat.le_of_ble_eq_true rfl) (Nat.le_of_ble_eq_true rfl) (Nat.le_of_ble_eq_true rfl) (sp_80 (by omega) qX.2 (by omega) (by omega) cp (fun i j hi hj => (ho i j hi hj).1) (hcd _ cp) (fun hle => ?_) (fun hgt => ?_))
      · show am_Go (am_KA lx e) (am_fetch cd_96) Q 22 [some (.ref 61), some (.ref 44), some (.ref 59), some (.int (nI P)), some (.int (nI cap)), some (.ref 35), some (.int (nI p)), none] [.int 0] ha 0 0
        refine r_if1 G (pn := 25) rfl rfl (fun c22 => ?_) (fun c22 => ?_)
        rotate_left
        · exact absurd rfl c22
        refine r_inc G (pn := 30) rfl rfl rfl (Nat.le_of_ble_eq_true rfl) ?_
        refine r_goto G rfl ?_
        rw [nI_1]
        refine ih (p + 1) (by omega) (fun q hq => ?_)
        by_cases y : q = p
        · rw [y]; exact hle
        · exact hl q (by omega)
      · show am_Go (am_KA lx e) (am_fetch cd_96) Q 22 [some (.ref 61), some (.ref 44), some (.ref 59), some (.int (nI P)), some (.int (nI cap)), some (.ref 35), some (.int (nI p)), none] [.int 1] ha 0 0
        refine r_if1 G (pn := 25) rfl rfl (fun c22 => ?_) (fun c22 => ?_)
        · exact absurd c22 (by decide)
        refine r_ic G (pn := 26) rfl rfl  ?_
        refine r_iret G rfl (by decide) (hno ha jc0 0 fw fj (Or.inl ⟨p, by omega, hgt⟩) qf qK q61 q62 q63)
  refine r_ra G (pn := 1) rfl rfl rfl ?_
  refine r_ic G (pn := 2) rfl rfl  ?_
  refine r_puti G (pn := 5) rfl rfl (by first | assumption | (repeat (first | assumption | exact am_eq (by first | assumption | exact am_eq (by assumption) | exact am_ne (by first | decide | omega) (by assumption)) | refine am_ne (by first | decide | omega) ?_))) (Nat.le_of_ble_eq_true rfl) ?_
  refine r_ic G (pn := 6) rfl rfl  ?_
  refine r_is G (pn := 8) rfl rfl (Nat.le_of_ble_eq_true rfl) ?_
  exact lp1 P 0 (by omega) (fun q hq => absurd hq (Nat.not_lt_zero q))
end
