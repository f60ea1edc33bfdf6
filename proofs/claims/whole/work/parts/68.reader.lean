def uN (f : Nat → Nat) (k x : Nat) : Nat → Nat := fun j => if j = k then x else f j
theorem uN_s {f : Nat → Nat} {k x : Nat} : uN f k x k = x := if_pos rfl
theorem uN_n {f : Nat → Nat} {k j x : Nat} (h : j ≠ k) : uN f k x j = f j := if_neg h
/-- the reader: numbers (0 standing, 1 branches, 2 current + 1, 3 link, 4 clash, 5 atoms), the branches' atoms, the marks' atoms (+ 1) and orders, the drawing -/
abbrev rdV (v : Nat → Nat) : am_C := .inr (8, [.ref 4, .ref 32, .ref 33, .ref 34, .int (nI (v 1)), .int (nI (v 0)), .int (nI (v 2) - 1), .int (nI (v 3)), .int (nI (v 4))])
def RdI (h : am_H) (v sk ma mo cd : Nat → Nat) (od : Nat → Nat → Nat) : Prop := h[3]? = some (rdV v) ∧ (∃ f, h[32]? = some (aI 24 f) ∧ ∀ i, i < v 1 → f i = nI (sk i) - 1) ∧ (∃ f, h[33]? = some (aI 2 f) ∧ ∀ i, i < 2 → f i = nI (ma i) - 1) ∧ (∃ f, h[34]? = some (aI 2 f) ∧ ∀ i, i < 2 → ma i ≠ 0 → f i = nI (mo i)) ∧ GrI 4 24 h (v 5) cd od
def rdP (i : Nat) : Prop := 3 ≤ i ∧ i ≤ 34
/-- what is so after p characters -/
def PIn (p : Nat) (v sk ma mo cd : Nat → Nat) (od : Nat → Nat → Nat) : Prop := v 0 ≤ 4 ∧ v 1 ≤ p ∧ v 2 ≤ v 5 ∧ (1 ≤ v 3 ∧ v 3 ≤ 3) ∧ v 4 ≤ 1 ∧ v 5 ≤ p ∧ (v 0 ≠ 0 → 1 ≤ v 2) ∧ (∀ i, i < v 1 → 1 ≤ sk i ∧ sk i ≤ v 5) ∧ (∀ i, i < 2 → ma i ≤ v 5 ∧ mo i ≤ 3) ∧ (∀ i, i < v 5 → cd i < 4) ∧ (∀ i j, i < v 5 → j < v 5 → od i j < 4 ∧ od i j = od j i) ∧ (∀ i, i < v 5 → od i i = 0)
def jnV (v : Nat → Nat) (od : Nat → Nat → Nat) (a b : Nat) : Nat → Nat := if a = b ∨ od a b ≠ 0 then uN v 4 1 else v
def jnO (od : Nat → Nat → Nat) (a b o : Nat) : Nat → Nat → Nat := if a = b ∨ od a b ≠ 0 then od else oset od a b o
theorem m1_0 : nI 0 - 1 = (-1 : Int32) := by decide
theorem nI_m1 {a : Nat} (ha : a < 1000) : (nI a - 1 = (-1 : Int32)) ↔ a = 0 := by
  constructor
  · intro z
    cases a with
    | zero => rfl
    | succ k =>
      rw [nI_pred] at z
      have := nI_pos (n := k) (by omega)
      rw [z] at this
      exact absurd (by decide) this
  · intro z
    rw [z]
    decide
theorem RdI.num {h : am_H} {v v' sk ma mo cd : Nat → Nat} {od : Nat → Nat → Nat} (hI : RdI h v sk ma mo cd od) (e1 : v' 1 = v 1) (e5 : v' 5 = v 5) : RdI (h.set 3 (rdV v')) v' sk ma mo cd od := by
  obtain ⟨h1, ⟨f2, h2, g2⟩, ⟨f3, h3, g3⟩, ⟨f4, h4, g4⟩, h5⟩ := hI
  refine ⟨am_eq h1, ⟨f2, am_ne (by decide) h2, by rw [e1]; exact g2⟩, ⟨f3, am_ne (by decide) h3, g3⟩, ⟨f4, am_ne (by decide) h4, g4⟩, ?_⟩
  rw [e5]
  exact h5.fr (P := fun i => i = 3) (am_fr.rf.put rfl) (fun i hi => by have := hi.1; omega)
section
variable {lx : am_Lx} {d : Nat} {h : am_H} {Q : am_Q} {v sk ma mo cd : Nat → Nat} {od : Nat → Nat → Nat}
theorem sp_108 (hd : 1 ≤ d) {s : Nat} (hI : RdI h v sk ma mo cd od) (hq : ∀ h', am_fr rdP h h' → RdI h' (uN (uN v 0 s) 3 1) sk ma mo cd od → Q none h') : am_KA lx d 108 [.ref 3, .int (nI s)] h Q := by
  have h1 := hI.1
  obtain ⟨e, rfl⟩ : ∃ e, d = e + 1 := ⟨d - 1, by omega⟩
  have G : am_GK (am_KA lx e) cd_108 := ⟨am_KA_m lx e, cm_108⟩
  refine am_KA_in (by decide) (Nat.le_of_ble_eq_true rfl) ?_
  show am_Go (am_KA lx e) (am_fetch cd_108) Q 0 [some (.ref 3), some (.int (nI s))] [] h 0 0
  refine r_ra G (pn := 1) rfl rfl rfl ?_
  refine r_il G (pn := 2) rfl rfl rfl ?_
  refine r_puti G (pn := 5) rfl rfl (by first | assumption | (repeat (first | assumption | exact am_eq (by first | assumption | exact am_eq (by assumption) | exact am_ne (by first | decide | omega) (by assumption)) | refine am_ne (by first | decide | omega) ?_))) (Nat.le_of_ble_eq_true rfl) ?_
  refine r_ra G (pn := 6) rfl rfl rfl ?_
  refine r_ic G (pn := 7) rfl rfl  ?_
  refine r_puti G (pn := 10) rfl rfl (am_eq h1) (Nat.le_of_ble_eq_true rfl) ?_
  rw [List.set_set]
  refine r_vret G rfl (hq _ (am_fr.rf.put ⟨by omega, by omega⟩) (hI.num (v' := uN (uN v 0 s) 3 1) rfl rfl))
theorem sp_115 (hd : 2 ≤ d) {a b o : Nat} (hI : RdI h v sk ma mo cd od) (hn : v 5 ≤ 24) (ha : a < v 5) (hb : b < v 5) (ho : ∀ i j, i < v 5 → j < v 5 → od i j < 4) (hq : ∀ h', am_fr rdP h h' → RdI h' (jnV v od a b) sk ma mo cd (jnO od a b o) → Q none h') : am_KA lx d 115 [.ref 3, .int (nI a), .int (nI b), .int (nI o)] h Q := by
  obtain ⟨h1, h2, h3, h4, h5⟩ := id hI
  have g1 := h5.1
  obtain ⟨r3, g3, gg3⟩ := h5.2.2.1
  obtain ⟨fa, ra, da, oa⟩ := h5.2.2.2.1 a (by omega)
  obtain ⟨e, rfl⟩ : ∃ e, d = e + 1 := ⟨d - 1, by omega⟩
  have G : am_GK (am_KA lx e) cd_115 := ⟨am_KA_m lx e, cm_115⟩
  refine am_KA_in (by decide) (Nat.le_of_ble_eq_true rfl) ?_
  show am_Go (am_KA lx e) (am_fetch cd_115) Q 0 [some (.ref 3), some (.int (nI a)), some (.int (nI b)), some (.int (nI o))] [] h 0 0
  have clash : (a = b ∨ od a b ≠ 0) → am_Go (am_KA lx e) (am_fetch cd_115) Q 19 [some (.ref 3), some (.int (nI a)), some (.int (nI b)), some (.int (nI o))] [] h 0 0 := by
    intro z
    refine r_ra G (pn := 20) rfl rfl rfl ?_
    refine r_ic G (pn := 21) rfl rfl  ?_
    refine r_putz G (pn := 24) rfl rfl (by first | assumption | (repeat (first | assumption | exact am_eq (by first | assumption | exact am_eq (by assumption) | exact am_ne (by first | decide | omega) (by assumption)) | refine am_ne (by first | decide | omega) ?_))) (Nat.le_of_ble_eq_true rfl) (by first | exact Or.inl rfl | exact Or.inr rfl | assumption) ?_
    refine r_goto G rfl ?_
    refine r_vret G rfl ?_
    refine hq _ (am_fr.rf.put ⟨by omega, by omega⟩) ?_
    unfold jnV jnO
    rw [if_pos z, if_pos z]
    exact hI.num (v' := uN v 4 1) rfl rfl
  refine r_il G (pn := 1) rfl rfl rfl ?_
  refine r_il G (pn := 2) rfl rfl rfl ?_
  refine r_if2 G (pn := 5) rfl rfl (fun c2 => ?_) (fun c2 => ?_)
  · exact clash (Or.inl ((nI_eq (by omega) (by omega)).mp c2))
  · have hab : a ≠ b := fun z => c2 (by rw [z])
    refine r_ra G (pn := 6) rfl rfl rfl ?_
    refine r_get G (pn := 9) rfl rfl (by first | assumption | (repeat (first | assumption | exact am_eq (by first | assumption | exact am_eq (by assumption) | exact am_ne (by first | decide | omega) (by assumption)) | refine am_ne (by first | decide | omega) ?_))) rfl ?_
    refine r_get G (pn := 12) rfl rfl g1 rfl ?_
    refine r_il G (pn := 13) rfl rfl rfl ?_
    refine r_raldN G (pn := 14) rfl rfl g3 (by omega) (by omega) (gg3 a (by omega)) ?_
    refine r_il G (pn := 15) rfl rfl rfl ?_
    refine r_ialdN G (pn := 16) rfl rfl ra (by omega) (by omega) ?_
    rw [oa b ha hb]
    have := ho a b ha hb
    refine r_if1 G (pn := 19) rfl rfl (fun c16 => ?_) (fun c16 => ?_)
    · have z0 : od a b = 0 := (nI_eq (b := 0) (by omega) (by omega)).mp c16
      refine r_ra G (pn := 28) rfl rfl rfl ?_
      refine r_get G (pn := 31) rfl rfl (by first | assumption | (repeat (first | assumption | exact am_eq (by first | assumption | exact am_eq (by assumption) | exact am_ne (by first | decide | omega) (by assumption)) | refine am_ne (by first | decide | omega) ?_))) rfl ?_
      refine r_il G (pn := 32) rfl rfl rfl ?_
      refine r_il G (pn := 33) rfl rfl rfl ?_
      refine r_il G (pn := 34) rfl rfl rfl ?_
      refine r_inv4 G (pn := 37) rfl rfl g1 (Nat.le_of_ble_eq_true rfl) (Nat.le_of_ble_eq_true rfl) (Nat.le_of_ble_eq_true rfl) (sp_79 (by omega) h5 (by omega) (by omega) (by omega) hab (fun h' hf hJ => ?_))
      refine r_vret G rfl ?_
      refine hq h' (hf.wk (fun i hi => ⟨by have := hi.1; omega, by have := hi.2; omega⟩)) ?_
      unfold jnV jnO
      rw [if_neg (by omega), if_neg (by omega)]
      obtain ⟨f2, k2, l2⟩ := h2
      obtain ⟨f3, k3, l3⟩ := h3
      obtain ⟨f4, k4, l4⟩ := h4
      exact ⟨hf.at (fun z => by have := z.1; omega) h1, ⟨f2, hf.at (fun z => by have := z.2; omega) k2, l2⟩, ⟨f3, hf.at (fun z => by have := z.2; omega) k3, l3⟩, ⟨f4, hf.at (fun z => by have := z.2; omega) k4, l4⟩, hJ⟩
    · exact clash (Or.inr (fun z => c16 (by rw [z]; rfl)))
theorem sp_110 (hd : 3 ≤ d) {k : Nat} (hI : RdI h v sk ma mo cd od) (hn : v 5 < 24) (hc : v 2 ≤ v 5) (ho : ∀ i j, i < v 5 → j < v 5 → od i j < 4) (hq : ∀ h', am_fr rdP h h' → RdI h' (uN (uN (uN (if v 2 = 0 then uN v 5 (v 5 + 1) else jnV (uN v 5 (v 5 + 1)) (fun i j => if i = v 5 ∨ j = v 5 then 0 else od i j) (v 2 - 1) (v 5)) 2 (v 5 + 1)) 0 3) 3 1) sk ma mo (fun i => if i = v 5 then k else cd i) (if v 2 = 0 then (fun i j => if i = v 5 ∨ j = v 5 then 0 else od i j) else jnO (fun i j => if i = v 5 ∨ j = v 5 then 0 else od i j) (v 2 - 1) (v 5) (v 3)) → Q (some (.int 1)) h') : am_KA lx d 110 [.ref 3, .int (nI k)] h Q := by
  obtain ⟨h1, h2, h3, h4, h5⟩ := id hI
  have g1 := h5.1
  obtain ⟨e, rfl⟩ : ∃ e, d = e + 1 := ⟨d - 1, by omega⟩
  have G : am_GK (am_KA lx e) cd_110 := ⟨am_KA_m lx e, cm_110⟩
  refine am_KA_in (by decide) (Nat.le_of_ble_eq_true rfl) ?_
  show am_Go (am_KA lx e) (am_fetch cd_110) Q 0 [some (.ref 3), some (.int (nI k)), none] [] h 0 0
  refine r_ra G (pn := 1) rfl rfl rfl ?_
  refine r_get G (pn := 4) rfl rfl (by first | assumption | (repeat (first | assumption | exact am_eq (by first | assumption | exact am_eq (by assumption) | exact am_ne (by first | decide | omega) (by assumption)) | refine am_ne (by first | decide | omega) ?_))) rfl ?_
  refine r_il G (pn := 5) rfl rfl rfl ?_
  refine r_inv2 G (pn := 8) rfl rfl g1 (Nat.le_of_ble_eq_true rfl) (Nat.le_of_ble_eq_true rfl) (Nat.le_of_ble_eq_true rfl) (sp_78 (by omega) h5 (by omega) hn (fun ha hf hJ => ?_))
  obtain ⟨f2, k2, l2⟩ := h2
  obtain ⟨f3, k3, l3⟩ := h3
  obtain ⟨f4, k4, l4⟩ := h4
  have j1 : ha[3]? = some (rdV (uN v 5 (v 5 + 1))) := hf.at (fun z => by have := z.1; omega) h1
  have hIa : RdI ha (uN v 5 (v 5 + 1)) sk ma mo (fun i => if i = v 5 then k else cd i) (fun i j => if i = v 5 ∨ j = v 5 then 0 else od i j) := ⟨j1, ⟨f2, hf.at (fun z => by have := z.2; omega) k2, l2⟩, ⟨f3, hf.at (fun z => by have := z.2; omega) k3, l3⟩, ⟨f4, hf.at (fun z => by have := z.2; omega) k4, l4⟩, hJ⟩
  have hfa : am_fr rdP h ha := hf.wk (fun i hi => ⟨by have := hi.1; omega, by have := hi.2; omega⟩)
  have tail : ∀ (hb : am_H) (v1 : Nat → Nat) (od1 : Nat → Nat → Nat), am_fr rdP h hb → RdI hb v1 sk ma mo (fun i => if i = v 5 then k else cd i) od1 → (∀ h', am_fr rdP h h' → RdI h' (uN (uN (uN v1 2 (v 5 + 1)) 0 3) 3 1) sk ma mo (fun i => if i = v 5 then k else cd i) od1 → Q (some (.int 1)) h') → am_Go (am_KA lx e) (am_fetch cd_110) Q 37 [some (.ref 3), some (.int (nI k)), some (.int (nI (v 5)))] [] hb 0 0 := by
    intro hb v1 od1 hfb hIb hqb
    have b1 := hIb.1
    refine r_ra G (pn := 38) rfl rfl rfl ?_
    refine r_il G (pn := 39) rfl rfl rfl ?_
    refine r_puti G (pn := 42) rfl rfl (by first | assumption | (repeat (first | assumption | exact am_eq (by first | assumption | exact am_eq (by assumption) | exact am_ne (by first | decide | omega) (by assumption)) | refine am_ne (by first | decide | omega) ?_))) (Nat.le_of_ble_eq_true rfl) ?_
    refine r_ra G (pn := 43) rfl rfl rfl ?_
    refine r_ic G (pn := 44) rfl rfl  ?_
    have hIc : RdI (hb.set 3 (rdV (uN v1 2 (v 5 + 1)))) (uN v1 2 (v 5 + 1)) sk ma mo (fun i => if i = v 5 then k else cd i) od1 := hIb.num (v' := uN v1 2 (v 5 + 1)) rfl rfl
    have e9 : (hb.set 3 (.inr (8, [Value.ref 4, .ref 32, .ref 33, .ref 34, .int (nI (v1 1)), .int (nI (v1 0)), .int (nI (v1 2) - 1), .int (nI (v1 3)), .int (nI (v1 4))].set 6 (.int (nI (v 5)))))) = hb.set 3 (rdV (uN v1 2 (v 5 + 1))) := by
      show hb.set 3 (.inr (8, [Value.ref 4, .ref 32, .ref 33, .ref 34, .int (nI (v1 1)), .int (nI (v1 0)), .int (nI (v 5)), .int (nI (v1 3)), .int (nI (v1 4))])) = hb.set 3 (.inr (8, [Value.ref 4, .ref 32, .ref 33, .ref 34, .int (nI (v1 1)), .int (nI (v1 0)), .int (nI (v 5 + 1) - 1), .int (nI (v1 3)), .int (nI (v1 4))]))
      rw [nI_pred]
    rw [e9]
    refine r_inv2 G (pn := 47) rfl rfl (am_eq b1) (Nat.le_of_ble_eq_true rfl) (Nat.le_of_ble_eq_true rfl) (Nat.le_of_ble_eq_true rfl) (sp_108 (s := 3) (by omega) hIc (fun h' hf' hI' => ?_))
    show am_Go (am_KA lx e) (am_fetch cd_110) Q 47 [some (.ref 3), some (.int (nI k)), some (.int (nI (v 5)))] [] h' 0 0
    refine r_ic G (pn := 48) rfl rfl  ?_
    refine r_iret G rfl (by decide) (hqb h' ((hfb.put ⟨by omega, by omega⟩).tr hf') hI')
  show am_Go (am_KA lx e) (am_fetch cd_110) Q 8 [some (.ref 3), some (.int (nI k)), none] [.int (nI (v 5))] ha 0 0
  refine r_is G (pn := 9) rfl rfl (Nat.le_of_ble_eq_true rfl) ?_
  refine r_il G (pn := 10) rfl rfl rfl ?_
  refine r_ic G (pn := 11) rfl rfl  ?_
  refine r_if2 G (pn := 14) rfl rfl (fun c11 => ?_) (fun c11 => ?_)
  · refine r_ra G (pn := 17) rfl rfl rfl ?_
    refine r_get G (pn := 20) rfl rfl (by first | assumption | (repeat (first | assumption | exact am_eq (by first | assumption | exact am_eq (by assumption) | exact am_ne (by first | decide | omega) (by assumption)) | refine am_ne (by first | decide | omega) ?_))) rfl ?_
    refine r_ic G (pn := 21) rfl rfl  ?_
    show am_Go (am_KA lx e) (am_fetch cd_110) Q 21 [some (.ref 3), some (.int (nI k)), some (.int (nI (v 5)))] [.int (-1), .int (nI (v 2) - 1)] ha 0 0
    refine r_if2 G (pn := 24) rfl rfl (fun c21 => ?_) (fun c21 => ?_)
    · have z0 : v 2 = 0 := (nI_m1 (by omega)).mp c21
      rw [if_pos z0, if_pos z0] at hq
      exact tail ha _ _ hfa hIa hq
    · have z0 : ¬ v 2 = 0 := fun z => c21 ((nI_m1 (by omega)).mpr z)
      rw [if_neg z0, if_neg z0] at hq
      obtain ⟨w, hw⟩ : ∃ w, v 2 = w + 1 := ⟨v 2 - 1, by omega⟩
      refine r_ra G (pn := 25) rfl rfl rfl ?_
      refine r_ra G (pn := 26) rfl rfl rfl ?_
      refine r_get G (pn := 29) rfl rfl (by first | assumption | (repeat (first | assumption | exact am_eq (by first | assumption | exact am_eq (by assumption) | exact am_ne (by first | decide | omega) (by assumption)) | refine am_ne (by first | decide | omega) ?_))) rfl ?_
      refine r_il G (pn := 30) rfl rfl rfl ?_
      refine r_ra G (pn := 31) rfl rfl rfl ?_
      refine r_get G (pn := 34) rfl rfl (by first | assumption | (repeat (first | assumption | exact am_eq (by first | assumption | exact am_eq (by assumption) | exact am_ne (by first | decide | omega) (by assumption)) | refine am_ne (by first | decide | omega) ?_))) rfl ?_
      show am_Go (am_KA lx e) (am_fetch cd_110) Q 34 [some (.ref 3), some (.int (nI k)), some (.int (nI (v 5)))] [.int (nI (v 3)), .int (nI (v 5)), .int (nI (v 2) - 1), .ref 3] ha 0 0
      rw [hw, Nat.add_sub_cancel] at hq
      rw [hw, nI_pred]
      refine r_inv4 G (pn := 37) rfl rfl j1 (Nat.le_of_ble_eq_true rfl) (Nat.le_of_ble_eq_true rfl) (Nat.le_of_ble_eq_true rfl) (sp_115 (by omega) hIa (by show v 5 + 1 ≤ 24; omega) (by show w < v 5 + 1; omega) (by show v 5 < v 5 + 1; omega) (fun i j hi hj => ?_) (fun h' hf' hI' => ?_))
      · have hi : i < v 5 + 1 := hi
        have hj : j < v 5 + 1 := hj
        split
        · omega
        · exact ho i j (by omega) (by omega)
      · exact tail h' _ _ (hfa.tr hf') hI' hq
  · exact absurd (show nI (v 5) = -1 from Classical.byContradiction c11) (fun z => by have := nI_pos (n := v 5) (by omega); rw [z] at this; exact absurd (by decide) this)
theorem sp_111 (hd : 2 ≤ d) {k : Nat} (hI : RdI h v sk ma mo cd od) (h4 : v 0 ≤ 4) (hno : v 0 ≠ 3 → v 0 ≠ 1 → Q (some (.int 0)) h) (hyes : ∀ h', (v 0 = 3 ∨ v 0 = 1) → am_fr rdP h h' → RdI h' (uN (uN v 0 (if v 0 = 3 then 4 else 2)) 3 k) sk ma mo cd od → Q (some (.int 1)) h') : am_KA lx d 111 [.ref 3, .int (nI k)] h Q := by
  have h1 := hI.1
  obtain ⟨e, rfl⟩ : ∃ e, d = e + 1 := ⟨d - 1, by omega⟩
  have G : am_GK (am_KA lx e) cd_111 := ⟨am_KA_m lx e, cm_111⟩
  refine am_KA_in (by decide) (Nat.le_of_ble_eq_true rfl) ?_
  show am_Go (am_KA lx e) (am_fetch cd_111) Q 0 [some (.ref 3), some (.int (nI k))] [] h 0 0
  have fin : ∀ (s : Nat) (hb : am_H), (v 0 = 3 ∨ v 0 = 1) → s = (if v 0 = 3 then 4 else 2) → am_fr rdP h hb → RdI hb (uN (uN v 0 s) 3 1) sk ma mo cd od → am_Go (am_KA lx e) (am_fetch cd_111) Q 34 [some (.ref 3), some (.int (nI k))] [] hb 0 0 := by
    intro s hb hz hs hfb hIb
    have b1 := hIb.1
    refine r_ra G (pn := 35) rfl rfl rfl ?_
    refine r_il G (pn := 36) rfl rfl rfl ?_
    refine r_puti G (pn := 39) rfl rfl (by first | assumption | (repeat (first | assumption | exact am_eq (by first | assumption | exact am_eq (by assumption) | exact am_ne (by first | decide | omega) (by assumption)) | refine am_ne (by first | decide | omega) ?_))) (Nat.le_of_ble_eq_true rfl) ?_
    refine r_ic G (pn := 40) rfl rfl  ?_
    refine r_iret G rfl (by decide) (hyes _ hz (hfb.put ⟨by omega, by omega⟩) ?_)
    rw [← hs]
    exact hIb.num (v' := uN (uN v 0 s) 3 k) rfl rfl
  refine r_ra G (pn := 1) rfl rfl rfl ?_
  refine r_get G (pn := 4) rfl rfl (by first | assumption | (repeat (first | assumption | exact am_eq (by first | assumption | exact am_eq (by assumption) | exact am_ne (by first | decide | omega) (by assumption)) | refine am_ne (by first | decide | omega) ?_))) rfl ?_
  refine r_ic G (pn := 5) rfl rfl  ?_
  refine r_if2 G (pn := 8) rfl rfl (fun c5 => ?_) (fun c5 => ?_)
  · have z3 : v 0 ≠ 3 := fun z => c5 (by rw [z]; rfl)
    refine r_ra G (pn := 17) rfl rfl rfl ?_
    refine r_get G (pn := 20) rfl rfl (by first | assumption | (repeat (first | assumption | exact am_eq (by first | assumption | exact am_eq (by assumption) | exact am_ne (by first | decide | omega) (by assumption)) | refine am_ne (by first | decide | omega) ?_))) rfl ?_
    refine r_ic G (pn := 21) rfl rfl  ?_
    refine r_if2 G (pn := 24) rfl rfl (fun c21 => ?_) (fun c21 => ?_)
    · refine r_ic G (pn := 33) rfl rfl  ?_
      refine r_iret G rfl (by decide) (hno z3 (fun z => c21 (by rw [z]; rfl)))
    · have z1 : v 0 = 1 := (nI_eq (b := 1) (by omega) (by omega)).mp (Classical.byContradiction c21)
      refine r_ra G (pn := 25) rfl rfl rfl ?_
      refine r_ic G (pn := 26) rfl rfl  ?_
      refine r_inv2 G (pn := 29) rfl rfl h1 (Nat.le_of_ble_eq_true rfl) (Nat.le_of_ble_eq_true rfl) (Nat.le_of_ble_eq_true rfl) (sp_108 (s := 2) (by omega) hI (fun h' hf' hI' => ?_))
      show am_Go (am_KA lx e) (am_fetch cd_111) Q 29 [some (.ref 3), some (.int (nI k))] [] h' 0 0
      refine r_goto G rfl ?_
      exact fin 2 h' (Or.inr z1) (by rw [if_neg z3]) hf' hI'
  · have z3 : v 0 = 3 := (nI_eq (b := 3) (by omega) (by omega)).mp (Classical.byContradiction c5)
    refine r_ra G (pn := 9) rfl rfl rfl ?_
    refine r_ic G (pn := 10) rfl rfl  ?_
    refine r_inv2 G (pn := 13) rfl rfl h1 (Nat.le_of_ble_eq_true rfl) (Nat.le_of_ble_eq_true rfl) (Nat.le_of_ble_eq_true rfl) (sp_108 (s := 4) (by omega) hI (fun h' hf' hI' => ?_))
    show am_Go (am_KA lx e) (am_fetch cd_111) Q 13 [some (.ref 3), some (.int (nI k))] [] h' 0 0
    refine r_goto G rfl ?_
    exact fin 4 h' (Or.inl z3) (by rw [if_pos z3]) hf' hI'
theorem sp_113 (hd : 2 ≤ d) (hI : RdI h v sk ma mo cd od) (h4 : v 0 ≤ 4) (hb : v 1 < 24) (hno : v 0 ≠ 3 → Q (some (.int 0)) h) (hyes : ∀ h', v 0 = 3 → am_fr rdP h h' → RdI h' (uN (uN (uN v 1 (v 1 + 1)) 0 1) 3 1) (uN sk (v 1) (v 2)) ma mo cd od → Q (some (.int 1)) h') : am_KA lx d 113 [.ref 3] h Q := by
  obtain ⟨h1, ⟨f2, h2, g2⟩, ⟨f3, h3, g3⟩, ⟨f9, h9, g9⟩, h5⟩ := id hI
  obtain ⟨e, rfl⟩ : ∃ e, d = e + 1 := ⟨d - 1, by omega⟩
  have G : am_GK (am_KA lx e) cd_113 := ⟨am_KA_m lx e, cm_113⟩
  refine am_KA_in (by decide) (Nat.le_of_ble_eq_true rfl) ?_
  show am_Go (am_KA lx e) (am_fetch cd_113) Q 0 [some (.ref 3)] [] h 0 0
  refine r_ra G (pn := 1) rfl rfl rfl ?_
  refine r_get G (pn := 4) rfl rfl (by first | assumption | (repeat (first | assumption | exact am_eq (by first | assumption | exact am_eq (by assumption) | exact am_ne (by first | decide | omega) (by assumption)) | refine am_ne (by first | decide | omega) ?_))) rfl ?_
  refine r_ic G (pn := 5) rfl rfl  ?_
  refine r_if2 G (pn := 8) rfl rfl (fun c5 => ?_) (fun c5 => ?_)
  · refine r_ic G (pn := 18) rfl rfl  ?_
    refine r_iret G rfl (by decide) (hno (fun z => c5 (by rw [z]; rfl)))
  · have z3 : v 0 = 3 := (nI_eq (b := 3) (by omega) (by omega)).mp (Classical.byContradiction c5)
    refine r_ra G (pn := 9) rfl rfl rfl ?_
    refine r_get G (pn := 12) rfl rfl (by first | assumption | (repeat (first | assumption | exact am_eq (by first | assumption | exact am_eq (by assumption) | exact am_ne (by first | decide | omega) (by assumption)) | refine am_ne (by first | decide | omega) ?_))) rfl ?_
    refine r_ic G (pn := 14) rfl rfl  ?_
    refine r_if2 G (pn := 17) rfl rfl (fun c14 => ?_) (fun c14 => ?_)
    · refine r_ra G (pn := 20) rfl rfl rfl ?_
      refine r_get G (pn := 23) rfl rfl (by first | assumption | (repeat (first | assumption | exact am_eq (by first | assumption | exact am_eq (by assumption) | exact am_ne (by first | decide | omega) (by assumption)) | refine am_ne (by first | decide | omega) ?_))) rfl ?_
      refine r_ra G (pn := 24) rfl rfl rfl ?_
      refine r_get G (pn := 27) rfl rfl (by first | assumption | (repeat (first | assumption | exact am_eq (by first | assumption | exact am_eq (by assumption) | exact am_ne (by first | decide | omega) (by assumption)) | refine am_ne (by first | decide | omega) ?_))) rfl ?_
      refine r_ra G (pn := 28) rfl rfl rfl ?_
      refine r_get G (pn := 31) rfl rfl (by first | assumption | (repeat (first | assumption | exact am_eq (by first | assumption | exact am_eq (by assumption) | exact am_ne (by first | decide | omega) (by assumption)) | refine am_ne (by first | decide | omega) ?_))) rfl ?_
      refine r_iastN G (pn := 32) rfl rfl h2 hb (by omega) ?_
      refine r_ra G (pn := 33) rfl rfl rfl ?_
      refine r_dup G (pn := 34) rfl rfl rfl ?_
      refine r_get G (pn := 37) rfl rfl (am_ne (by decide) h1) rfl ?_
      refine r_ic G (pn := 38) rfl rfl  ?_
      refine r_ib G (pn := 39) rfl rfl  ?_
      rw [nI_1]
      refine r_puti G (pn := 42) rfl rfl (am_ne (by decide) h1) (Nat.le_of_ble_eq_true rfl) ?_
      refine r_ra G (pn := 43) rfl rfl rfl ?_
      refine r_ic G (pn := 44) rfl rfl  ?_
      have hJ : RdI ((h.set 32 (aI 24 (upd f2 (v 1) (nI (v 2) - 1)))).set 3 (rdV (uN v 1 (v 1 + 1)))) (uN v 1 (v 1 + 1)) (uN sk (v 1) (v 2)) ma mo cd od := by
        refine ⟨am_eq (am_ne (by decide) h1), ⟨_, am_ne (by decide) (am_eq h2), fun i hi => ?_⟩, ⟨f3, am_ne (by decide) (am_ne (by decide) h3), g3⟩, ⟨f9, am_ne (by decide) (am_ne (by decide) h9), g9⟩, h5.fr (P := fun i => i = 3 ∨ i = 32) ((am_fr.rf.put (Or.inr rfl)).put (Or.inl rfl)) (fun i hi => by have := hi.1; have := hi.2; omega)⟩
        have hi : i < v 1 + 1 := hi
        by_cases z : i = v 1
        · rw [z, pk_us, uN_s]
        · rw [pk_un z, uN_n z]
          exact g2 i (by omega)
      refine r_inv2 G (pn := 47) rfl rfl hJ.1 (Nat.le_of_ble_eq_true rfl) (Nat.le_of_ble_eq_true rfl) (Nat.le_of_ble_eq_true rfl) (sp_108 (s := 1) (by omega) hJ (fun h' hf' hI' => ?_))
      show am_Go (am_KA lx e) (am_fetch cd_113) Q 47 [some (.ref 3)] [] h' 0 0
      refine r_ic G (pn := 48) rfl rfl  ?_
      refine r_iret G rfl (by decide) (hyes h' z3 (((am_fr.rf.put ⟨by omega, by omega⟩).put ⟨by omega, by omega⟩).tr hf') hI')
    · exact absurd ((nI_ltI (b := 24) (by omega) (by omega)).mpr hb) c14
theorem sp_114 (hd : 1 ≤ d) (hI : RdI h v sk ma mo cd od) (h4 : v 0 ≤ 4) (hb : v 1 ≤ 24) (hno : (v 0 ≠ 3 ∨ v 1 = 0) → Q (some (.int 0)) h) (hyes : ∀ h' w, v 0 = 3 → v 1 = w + 1 → am_fr rdP h h' → RdI h' (uN (uN v 1 w) 2 (sk w)) sk ma mo cd od → Q (some (.int 1)) h') : am_KA lx d 114 [.ref 3] h Q := by
  obtain ⟨h1, ⟨f2, h2, g2⟩, ⟨f3, h3, g3⟩, ⟨f9, h9, g9⟩, h5⟩ := id hI
  obtain ⟨e, rfl⟩ : ∃ e, d = e + 1 := ⟨d - 1, by omega⟩
  have G : am_GK (am_KA lx e) cd_114 := ⟨am_KA_m lx e, cm_114⟩
  refine am_KA_in (by decide) (Nat.le_of_ble_eq_true rfl) ?_
  show am_Go (am_KA lx e) (am_fetch cd_114) Q 0 [some (.ref 3)] [] h 0 0
  refine r_ra G (pn := 1) rfl rfl rfl ?_
  refine r_get G (pn := 4) rfl rfl (by first | assumption | (repeat (first | assumption | exact am_eq (by first | assumption | exact am_eq (by assumption) | exact am_ne (by first | decide | omega) (by assumption)) | refine am_ne (by first | decide | omega) ?_))) rfl ?_
  refine r_ic G (pn := 5) rfl rfl  ?_
  refine r_if2 G (pn := 8) rfl rfl (fun c5 => ?_) (fun c5 => ?_)
  · refine r_ic G (pn := 16) rfl rfl  ?_
    refine r_iret G rfl (by decide) (hno (Or.inl (fun z => c5 (by rw [z]; rfl))))
  · have z3 : v 0 = 3 := (nI_eq (b := 3) (by omega) (by omega)).mp (Classical.byContradiction c5)
    refine r_ra G (pn := 9) rfl rfl rfl ?_
    refine r_get G (pn := 12) rfl rfl (by first | assumption | (repeat (first | assumption | exact am_eq (by first | assumption | exact am_eq (by assumption) | exact am_ne (by first | decide | omega) (by assumption)) | refine am_ne (by first | decide | omega) ?_))) rfl ?_
    refine r_if1 G (pn := 15) rfl rfl (fun c12 => ?_) (fun c12 => ?_)
    · obtain ⟨w, hw⟩ : ∃ w, v 1 = w + 1 := ⟨v 1 - 1, by
        have : ¬ v 1 = 0 := fun q => c12 (by rw [q]; rfl)
        omega⟩
      refine r_ra G (pn := 18) rfl rfl rfl ?_
      refine r_dup G (pn := 19) rfl rfl rfl ?_
      refine r_get G (pn := 22) rfl rfl (by first | assumption | (repeat (first | assumption | exact am_eq (by first | assumption | exact am_eq (by assumption) | exact am_ne (by first | decide | omega) (by assumption)) | refine am_ne (by first | decide | omega) ?_))) rfl ?_
      refine r_ic G (pn := 23) rfl rfl  ?_
      refine r_ib G (pn := 24) rfl rfl  ?_
      rw [hw, nI_pred]
      refine r_puti G (pn := 27) rfl rfl (by first | assumption | (repeat (first | assumption | exact am_eq (by first | assumption | exact am_eq (by assumption) | exact am_ne (by first | decide | omega) (by assumption)) | refine am_ne (by first | decide | omega) ?_))) (Nat.le_of_ble_eq_true rfl) ?_
      refine r_ra G (pn := 28) rfl rfl rfl ?_
      refine r_ra G (pn := 29) rfl rfl rfl ?_
      refine r_get G (pn := 32) rfl rfl (am_eq h1) rfl ?_
      refine r_ra G (pn := 33) rfl rfl rfl ?_
      refine r_get G (pn := 36) rfl rfl (am_eq h1) rfl ?_
      refine r_ialdN G (pn := 37) rfl rfl (am_ne (by decide) h2) (by omega) (by omega) ?_
      rw [g2 w (by omega)]
      refine r_puti G (pn := 40) rfl rfl (am_eq h1) (Nat.le_of_ble_eq_true rfl) ?_
      refine r_ic G (pn := 41) rfl rfl  ?_
      rw [List.set_set]
      refine r_iret G rfl (by decide) (hyes _ w z3 hw (am_fr.rf.put ⟨by omega, by omega⟩) ⟨am_eq h1, ⟨f2, am_ne (by decide) h2, fun i hi => ?_⟩, ⟨f3, am_ne (by decide) h3, g3⟩, ⟨f9, am_ne (by decide) h9, g9⟩, ?_⟩)
      · have hi : i < w := hi
        exact g2 i (by omega)
      · exact h5.fr (P := fun i => i = 3) (am_fr.rf.put rfl) (fun i hi => by have := hi.1; omega)
    · have z0 : v 1 = 0 := by
        refine Classical.byContradiction fun q => c12 (nI_ne0 (by omega) (by omega))
      refine r_ic G (pn := 16) rfl rfl  ?_
      refine r_iret G rfl (by decide) (hno (Or.inr z0))
end
