/-- what is known of a species by its word -/
theorem Mol.w {cap w b : Nat} (h5 : cap ≤ 5) (h : Mol cap w b) : 1 ≤ wN w ∧ wN w ≤ cap ∧ mdig b 0 = wN w ∧ (∀ i, i < wN w → mdig b (1 + i) = wC w i) ∧ (∀ i j, i < wN w → j < wN w → mbond b i j = wO w i j) ∧ (∀ i, i < wN w → sm (wO w i) (wN w) ≤ wC w i + 1) ∧ Cnx (wN w) (wO w) ∧ w = WC (wC w) (wO w) id (wN w) ∧ b = WM (wC w) (wO w) id (wN w) ∧ ∀ t, Pm (wN w) t → w ≤ WC (wC w) (wO w) t (wN w) := by
  obtain ⟨n, c, o, n1, n5, hc, ho, hd, hv, hx, hw, hb, hm⟩ := h
  have ho' : ∀ i j, i < n → j < n → o i j < 4 := fun i j hi hj => (ho i j hi hj).1
  have en : wN w = n := by
    unfold wN
    rw [hw]
    exact WC_0 (by omega) hc ho'
  have ec : ∀ i, i < n → wC w i = c i := by
    intro i hi
    unfold wC
    rw [show w / 1073741824 = n from en, hw]
    exact WC_c (by omega) hc ho' hi
  have eo : ∀ i j, i < n → j < n → wO w i j = o i j := by
    intro i j hi hj
    unfold wO
    by_cases z : i = j
    · rw [if_pos z, z, hd j hj]
    · rw [if_neg z, show w / 1073741824 = n from en]
      rcases Nat.lt_or_ge i j with y | y
      · rw [Nat.max_eq_right (by omega), Nat.min_eq_left (by omega), hw]
        exact WC_o (by omega) hc ho' y hj
      · rw [Nat.max_eq_left (by omega), Nat.min_eq_right (by omega), hw, (ho i j hi hj).2]
        exact WC_o (by omega) hc ho' (by omega) hi
  have e0 : mdig b 0 = n := by rw [hb]; exact WM_0 (by omega) hc ho'
  have eq1 := WC_eq (c1 := c) (c2 := wC w) (o1 := o) (o2 := wO w) (p1 := id) (p2 := id) (cnt := n) (fun q hq => (ec q hq).symm) (fun i j hij hj => (eo i j (by omega) hj).symm)
  rw [en]
  refine ⟨n1, n5, e0, fun i hi => ?_, fun i j hi hj => ?_, fun i hi => ?_, ?_, hw.trans eq1.1, hb.trans eq1.2, fun t ht => ?_⟩
  · rw [ec i hi, hb]
    exact WM_c (by omega) hc ho' hi
  · rw [eo i j hi hj]
    unfold mbond
    by_cases z : i = j
    · rw [if_pos z, z, hd j hj]
    · rw [if_neg z, e0]
      rcases Nat.lt_or_ge i j with y | y
      · rw [Nat.max_eq_right (by omega), Nat.min_eq_left (by omega), hb]
        exact WM_o (by omega) hc ho' y hj
      · rw [Nat.max_eq_left (by omega), Nat.min_eq_right (by omega), hb, (ho i j hi hj).2]
        exact WM_o (by omega) hc ho' (by omega) hi
  · rw [ec i hi, sm_congr (fun j hj => eo i j hi hj)]
    exact hv i hi
  · intro S hS i j hi hj si
    exact hx S (fun a b ha hb sa hab => hS a b ha hb sa (by rw [eo a b ha hb]; exact hab)) i j hi hj si
  · rw [← (WC_eq (c1 := c) (c2 := wC w) (o1 := o) (o2 := wO w) (p1 := t) (p2 := t) (cnt := n) (fun q hq => (ec _ (ht.1 q hq)).symm) (fun i j hij hj => (eo _ _ (ht.1 i (by omega)) (ht.1 j hj)).symm)).1]
    exact hm t ht
def pxN (w : Nat) (ow : Option Nat) : Nat := match ow with | none => wN w | some v => wN w + wN v
def pxL (w : Nat) (ow : Option Nat) : Nat := match ow with | none => 0 | some _ => wN w
def pxC (w : Nat) (ow : Option Nat) : Nat → Nat := match ow with | none => wC w | some v => mxC (wN w) (wC w) (wC v)
def pxO (w : Nat) (ow : Option Nat) : Nat → Nat → Nat := match ow with | none => wO w | some v => mxO (wN w) (wO w) (wO v)
theorem pxC_lt {w : Nat} {ow : Option Nat} (i : Nat) : pxC w ow i < 4 := by
  unfold pxC
  split
  · exact wC_lt _ _
  · unfold mxC
    split
    · exact wC_lt _ _
    · exact wC_lt _ _
theorem pxO_lt {w : Nat} {ow : Option Nat} (i j : Nat) : pxO w ow i j < 4 ∧ pxO w ow i j = pxO w ow j i ∧ pxO w ow i i = 0 := by
  unfold pxO
  split
  · exact ⟨wO_lt _ _ _, wO_s _ _ _, wO_d _ _⟩
  · unfold mxO
    refine ⟨?_, ?_, ?_⟩
    · split
      · exact wO_lt _ _ _
      · split
        · exact wO_lt _ _ _
        · omega
    · by_cases z : i < wN w ∧ j < wN w
      · rw [if_pos z, if_pos (by omega)]; exact wO_s _ _ _
      · rw [if_neg z, if_neg (show ¬ (j < wN w ∧ i < wN w) by omega)]
        by_cases y : wN w ≤ i ∧ wN w ≤ j
        · rw [if_pos y, if_pos (by omega)]; exact wO_s _ _ _
        · rw [if_neg y, if_neg (show ¬ (wN w ≤ j ∧ wN w ≤ i) by omega)]
    · split
      · exact wO_d _ _
      · split
        · exact wO_d _ _
        · rfl
def otI (ot : Option Nat) : Int32 := match ot with | none => -1 | some t => nI t
section
variable {lx : am_Lx} {d : Nat} {h : am_H} {Q : am_Q}
theorem sp_20 (hd : 4 ≤ d) {n0 n lb s : Nat} {ot : Option Nat} {cap rc : Int32} {W : Nat → Nat} {cd : Nat → Nat} {od : Nat → Nat → Nat} (h0 : h[0]? = some (sO cap rc)) (hT : TbC h n0 W) (hn0 : n0 ≤ 12) (hW : ∀ i, i < n0 → wN (W i) ≤ 5) (hX : MxI h n lb cd od) (hs : s < n0) (ht : ∀ t, ot = some t → t < n0) (hq : ∀ h', am_fr mxP h h' → MxI h' (pxN (W s) (ot.map W)) (pxL (W s) (ot.map W)) (pxC (W s) (ot.map W)) (pxO (W s) (ot.map W)) → Q none h') : am_KA lx d 20 [.ref 0, .int (nI s), .int (otI ot)] h Q := by
  obtain ⟨t39, wd, t40, tw⟩ := hT
  obtain ⟨e, rfl⟩ : ∃ e, d = e + 1 := ⟨d - 1, by omega⟩
  have G : am_GK (am_KA lx e) cd_20 := ⟨am_KA_m lx e, cm_20⟩
  refine am_KA_in (by decide) (Nat.le_of_ble_eq_true rfl) ?_
  show am_Go (am_KA lx e) (am_fetch cd_20) Q 0 [some (.ref 0), some (.int (nI s)), some (.int (otI ot))] [] h 0 0
  have n39 : ∀ i, i < 43 → ¬ mxP i := fun i hi z => by have := z.1; omega
  refine r_ra G (pn := 1) rfl rfl rfl ?_
  refine r_get G (pn := 4) rfl rfl (by first | assumption | (repeat (first | assumption | exact am_eq (by first | assumption | exact am_eq (by assumption) | exact am_ne (by first | decide | omega) (by assumption)) | refine am_ne (by first | decide | omega) ?_))) rfl ?_
  refine r_inv1 G (pn := 7) rfl rfl hX.1 (Nat.le_of_ble_eq_true rfl) (Nat.le_of_ble_eq_true rfl) (Nat.le_of_ble_eq_true rfl) (sp_91 (by omega) hX (fun h1 hf1 hX1 => ?_))
  have k0 : h1[0]? = some (sO cap rc) := hf1.at (n39 _ (by omega)) h0
  have k39 : h1[39]? = some (tO (nI n0)) := hf1.at (n39 _ (by omega)) t39
  have k40 : h1[40]? = some (aL 12 wd) := hf1.at (n39 _ (by omega)) t40
  show am_Go (am_KA lx e) (am_fetch cd_20) Q 7 [some (.ref 0), some (.int (nI s)), some (.int (otI ot))] [] h1 0 0
  refine r_ra G (pn := 8) rfl rfl rfl ?_
  refine r_get G (pn := 11) rfl rfl (by first | assumption | (repeat (first | assumption | exact am_eq (by first | assumption | exact am_eq (by assumption) | exact am_ne (by first | decide | omega) (by assumption)) | refine am_ne (by first | decide | omega) ?_))) rfl ?_
  refine r_ra G (pn := 12) rfl rfl rfl ?_
  refine r_get G (pn := 15) rfl rfl (by first | assumption | (repeat (first | assumption | exact am_eq (by first | assumption | exact am_eq (by assumption) | exact am_ne (by first | decide | omega) (by assumption)) | refine am_ne (by first | decide | omega) ?_))) rfl ?_
  refine r_get G (pn := 18) rfl rfl (by first | assumption | (repeat (first | assumption | exact am_eq (by first | assumption | exact am_eq (by assumption) | exact am_ne (by first | decide | omega) (by assumption)) | refine am_ne (by first | decide | omega) ?_))) rfl ?_
  refine r_il G (pn := 19) rfl rfl rfl ?_
  refine r_laldN G (pn := 20) rfl rfl k40 (by omega) (by omega) ?_
  rw [(tw s hs).1]
  have hX1' := hX1 (wC (W s)) (wO (W s))
  refine r_inv2 G (pn := 23) rfl rfl hX1'.1 (Nat.le_of_ble_eq_true rfl) (Nat.le_of_ble_eq_true rfl) (Nat.le_of_ble_eq_true rfl) (sp_92 (by omega) hX1' (tw s hs).2 (hW s hs) (by have := hW s hs; omega) (fun h2 hf2 hX2 => ?_))
  have hf2' := hf1.tr hf2
  rw [Nat.zero_add] at hX2
  have hX2' : MxI h2 (wN (W s)) 0 (wC (W s)) (wO (W s)) := ⟨hX2.1, hX2.2.od (fun i hi => rfl) (fun i j hi hj => rfl)⟩
  show am_Go (am_KA lx e) (am_fetch cd_20) Q 23 [some (.ref 0), some (.int (nI s)), some (.int (otI ot))] [] h2 0 0
  refine r_il G (pn := 24) rfl rfl rfl ?_
  refine r_ic G (pn := 25) rfl rfl  ?_
  refine r_if2 G (pn := 28) rfl rfl (fun c25 => ?_) (fun c25 => ?_)
  · cases ot with
    | none => exact r_vret G rfl (hq h2 hf2' hX2')
    | some t =>
      have c25 : nI t = -1 := c25
      have := ht t rfl
      exact absurd c25 (fun z => by have := nI_pos (n := t) (by omega); rw [z] at this; exact absurd (by decide) this)
  · cases ot with
    | none => exact absurd rfl c25
    | some t =>
      have htn := ht t rfl
      have l0 : h2[0]? = some (sO cap rc) := hf2'.at (n39 _ (by omega)) h0
      have l39 : h2[39]? = some (tO (nI n0)) := hf2'.at (n39 _ (by omega)) t39
      have l40 : h2[40]? = some (aL 12 wd) := hf2'.at (n39 _ (by omega)) t40
      show am_Go (am_KA lx e) (am_fetch cd_20) Q 28 [some (.ref 0), some (.int (nI s)), some (.int (nI t))] [] h2 0 0
      refine r_ra G (pn := 29) rfl rfl rfl ?_
      refine r_get G (pn := 32) rfl rfl (by first | assumption | (repeat (first | assumption | exact am_eq (by first | assumption | exact am_eq (by assumption) | exact am_ne (by first | decide | omega) (by assumption)) | refine am_ne (by first | decide | omega) ?_))) rfl ?_
      refine r_ra G (pn := 33) rfl rfl rfl ?_
      refine r_get G (pn := 36) rfl rfl (by first | assumption | (repeat (first | assumption | exact am_eq (by first | assumption | exact am_eq (by assumption) | exact am_ne (by first | decide | omega) (by assumption)) | refine am_ne (by first | decide | omega) ?_))) rfl ?_
      refine r_get G (pn := 39) rfl rfl (by first | assumption | (repeat (first | assumption | exact am_eq (by first | assumption | exact am_eq (by assumption) | exact am_ne (by first | decide | omega) (by assumption)) | refine am_ne (by first | decide | omega) ?_))) rfl ?_
      refine r_il G (pn := 40) rfl rfl rfl ?_
      refine r_laldN G (pn := 41) rfl rfl l40 (by omega) (by omega) ?_
      rw [(tw t htn).1]
      refine r_inv2 G (pn := 44) rfl rfl hX2'.1 (Nat.le_of_ble_eq_true rfl) (Nat.le_of_ble_eq_true rfl) (Nat.le_of_ble_eq_true rfl) (sp_92 (by omega) hX2' (tw t htn).2 (hW t htn) (by have := hW s hs; have := hW t htn; omega) (fun h3 hf3 hX3 => ?_))
      exact r_vret G rfl (hq h3 (hf2'.tr hf3) hX3)
/-- what matches asks: a rule that is there, species that are there -/
def maOk (rc n0 : Nat) (r s t : Int32) : Prop := ∃ (q a : Nat) (ot : Option Nat), r = nI q ∧ q < rc ∧ s = nI a ∧ a < n0 ∧ t = otI ot ∧ ∀ b, ot = some b → b < n0
theorem in_nat {x : Int32} {n : Nat} (hn : n < 2 ^ 31) (h1 : ¬ x < 0) (h2 : ¬ nI n ≤ x) : ∃ k, k < n ∧ x = nI k := by
  obtain ⟨k, hk, e⟩ := wb_of32 x
  subst e
  have hk31 : k < 2 ^ 31 := by
    refine Classical.byContradiction (fun z => h1 ?_)
    rw [Int32.lt_iff_toInt_lt]
    show (nI k).toInt < 0
    have : (nI k).toInt = (k : Int).bmod (2 ^ 32) := by
      show (Int32.ofNat k).toInt = _
      rw [Int32.toInt_ofNat']
    rw [this]
    rw [Int.bmod_def]
    omega
  exact ⟨k, Nat.not_le.mp (fun z => h2 ((nI_leI hn hk31).mpr z)), rfl⟩
theorem sp_10 (hd : 7 ≤ d) {n0 n lb cnt0 rc : Nat} {r s t : Int32} {cap : Int32} {W : Nat → Nat} {cd : Nat → Nat} {od : Nat → Nat → Nat} {fo : Nat → Int32} {P : Nat → Nat} {C Bf Af : Nat → Nat → Nat} {rr : Nat → Option Nat} (h0 : h[0]? = some (sO cap (nI rc))) (hrc : rc ≤ 3) (hT : TbC h n0 W) (hn0 : n0 ≤ 12) (hW : ∀ i, i < n0 → wN (W i) ≤ 5) (hX : MxI h n lb cd od) (h42 : h[42]? = some (.inl (.object "SpeciesRounds$Rule", 3, .inr (.inr (.inr (.inr rr)))))) (hrr : ∀ i, i < 3 → rr i = some (69 + 4 * i)) (hR : ∀ i, i < rc → RlI h (69 + 4 * i) (P i) (C i) (Bf i) (Af i)) (h58 : h[58]? = some (fO cnt0)) (h60 : h[60]? = some (aI 2160 fo)) (hC : ∃ f, h[59]? = some (aI 3 f))
    (hno : ¬ maOk rc n0 r s t → Q (some (.int (-1))) h) (hyes : ∀ q a ot h' cnt T, r = nI q → q < rc → s = nI a → a < n0 → t = otI ot → (∀ b, ot = some b → b < n0) → am_fr (fun i => mxP i ∨ fiP i) h h' → MxI h' (pxN (W a) (ot.map W)) (pxL (W a) (ot.map W)) (pxC (W a) (ot.map W)) (pxO (W a) (ot.map W)) → FoI h' (P q) cnt T → (∃ f, h'[59]? = some (aI 3 f)) → cnt ≤ 720 → (∀ i, i < cnt → Mt (P q) (pxN (W a) (ot.map W)) (pxL (W a) (ot.map W)) (C q) (Bf q) (pxC (W a) (ot.map W)) (pxO (W a) (ot.map W)) (T i)) → (∀ i j, i < j → j < cnt → ∃ p, p < P q ∧ T i p ≠ T j p) → (∀ x, Mt (P q) (pxN (W a) (ot.map W)) (pxL (W a) (ot.map W)) (C q) (Bf q) (pxC (W a) (ot.map W)) (pxO (W a) (ot.map W)) x → ∃ i, i < cnt ∧ ∀ p, p < P q → T i p = x p) → Q (some (.int (nI cnt))) h') : am_KA lx d 10 [.ref 0, .int r, .int s, .int t] h Q := by
  have h39 := hT.1
  obtain ⟨e, rfl⟩ : ∃ e, d = e + 1 := ⟨d - 1, by omega⟩
  have G : am_GK (am_KA lx e) cd_10 := ⟨am_KA_m lx e, cm_10⟩
  refine am_KA_in (by decide) (Nat.le_of_ble_eq_true rfl) ?_
  show am_Go (am_KA lx e) (am_fetch cd_10) Q 0 [some (.ref 0), some (.int r), some (.int s), some (.int t)] [] h 0 0
  have no : ¬ maOk rc n0 r s t → am_Go (am_KA lx e) (am_fetch cd_10) Q 29 [some (.ref 0), some (.int r), some (.int s), some (.int t)] [] h 0 0 := by
    intro z
    refine r_ic G (pn := 30) rfl rfl  ?_
    refine r_iret G rfl rfl (hno z)
  have otneg : ∀ ot : Option Nat, (∀ b, ot = some b → b < n0) → otI ot ≠ -1 → ¬ otI ot < 0 ∧ ¬ nI n0 ≤ otI ot := by
    intro ot ho hne
    cases ot with
    | none => exact absurd rfl hne
    | some b =>
      have := ho b rfl
      exact ⟨nI_pos (by omega), fun z => by have := (nI_leI (by omega) (by omega)).mp z; omega⟩
  refine r_ra G (pn := 1) rfl rfl rfl ?_
  refine r_il G (pn := 2) rfl rfl rfl ?_
  refine r_inv2 G (pn := 5) rfl rfl h0 (Nat.le_of_ble_eq_true rfl) (Nat.le_of_ble_eq_true rfl) (Nat.le_of_ble_eq_true rfl) (sp_16 (by omega) h0 (fun z => ?_) (fun z1 z2 => ?_))
  · show am_Go (am_KA lx e) (am_fetch cd_10) Q 5 [some (.ref 0), some (.int r), some (.int s), some (.int t)] [.int 0] h 0 0
    refine r_if1 G (pn := 8) rfl rfl (fun c5 => ?_) (fun c5 => ?_)
    rotate_left
    · exact absurd rfl c5
    refine no (fun ⟨q, a, ot, e1, e2, _⟩ => ?_)
    subst e1
    rcases z with z | z
    · exact nI_pos (by omega) z
    · have := (nI_leI (by omega) (by omega)).mp z
      omega
  obtain ⟨q, hq, er⟩ := in_nat (by omega) z1 z2
  show am_Go (am_KA lx e) (am_fetch cd_10) Q 5 [some (.ref 0), some (.int r), some (.int s), some (.int t)] [.int 1] h 0 0
  refine r_if1 G (pn := 8) rfl rfl (fun c5 => ?_) (fun c5 => ?_)
  · exact absurd c5 (by decide)
  refine r_ra G (pn := 9) rfl rfl rfl ?_
  refine r_il G (pn := 10) rfl rfl rfl ?_
  refine r_inv2 G (pn := 13) rfl rfl h0 (Nat.le_of_ble_eq_true rfl) (Nat.le_of_ble_eq_true rfl) (Nat.le_of_ble_eq_true rfl) (sp_14 (by omega) h0 h39 (fun z => ?_) (fun y1 y2 => ?_))
  · show am_Go (am_KA lx e) (am_fetch cd_10) Q 13 [some (.ref 0), some (.int r), some (.int s), some (.int t)] [.int 0] h 0 0
    refine r_if1 G (pn := 16) rfl rfl (fun c13 => ?_) (fun c13 => ?_)
    rotate_left
    · exact absurd rfl c13
    refine no (fun ⟨q, a, ot, _, _, e1, e2, _⟩ => ?_)
    subst e1
    rcases z with z | z
    · exact nI_pos (by omega) z
    · have := (nI_leI (by omega) (by omega)).mp z
      omega
  obtain ⟨a, ha, es⟩ := in_nat (by omega) y1 y2
  show am_Go (am_KA lx e) (am_fetch cd_10) Q 13 [some (.ref 0), some (.int r), some (.int s), some (.int t)] [.int 1] h 0 0
  refine r_if1 G (pn := 16) rfl rfl (fun c13 => ?_) (fun c13 => ?_)
  · exact absurd c13 (by decide)
  have go : ∀ ot : Option Nat, t = otI ot → (∀ b, ot = some b → b < n0) → am_Go (am_KA lx e) (am_fetch cd_10) Q 31 [some (.ref 0), some (.int r), some (.int s), some (.int t)] [] h 0 0 := by
    intro ot et hot
    subst er
    subst es
    subst et
    refine r_ra G (pn := 32) rfl rfl rfl ?_
    refine r_il G (pn := 33) rfl rfl rfl ?_
    refine r_il G (pn := 34) rfl rfl rfl ?_
    refine r_inv3 G (pn := 37) rfl rfl h0 (Nat.le_of_ble_eq_true rfl) (Nat.le_of_ble_eq_true rfl) (Nat.le_of_ble_eq_true rfl) (sp_20 (by omega) h0 hT hn0 hW hX ha hot (fun h1 hf1 hX1 => ?_))
    have nm : ∀ i, i < 43 ∨ 57 < i → ¬ mxP i := fun i hi z => by have := z.1; have := z.2; omega
    have k0 : h1[0]? = some (sO cap (nI rc)) := hf1.at (nm _ (by omega)) h0
    have k42 : h1[42]? = some (.inl (.object "SpeciesRounds$Rule", 3, .inr (.inr (.inr (.inr rr))))) := hf1.at (nm _ (by omega)) h42
    show am_Go (am_KA lx e) (am_fetch cd_10) Q 37 [some (.ref 0), some (.int (nI q)), some (.int (nI a)), some (.int (otI ot))] [] h1 0 0
    refine r_ra G (pn := 38) rfl rfl rfl ?_
    refine r_get G (pn := 41) rfl rfl k0 rfl ?_
    refine r_ra G (pn := 42) rfl rfl rfl ?_
    refine r_get G (pn := 45) rfl rfl k0 rfl ?_
    refine r_il G (pn := 46) rfl rfl rfl ?_
    refine r_raldN G (pn := 47) rfl rfl k42 (by omega) (by omega) (hrr q (by omega)) ?_
    refine r_ra G (pn := 48) rfl rfl rfl ?_
    refine r_get G (pn := 51) rfl rfl k0 rfl ?_
    have hpx : pxN (W a) (ot.map W) ≤ 10 ∧ pxL (W a) (ot.map W) ≤ 10 := by
      have := hW a ha
      cases ot with
      | none => exact ⟨by show wN (W a) ≤ 10; omega, by show 0 ≤ 10; omega⟩
      | some b =>
        have := hW b (hot b rfl)
        exact ⟨by show wN (W a) + wN (W b) ≤ 10; omega, by show wN (W a) ≤ 10; omega⟩
    obtain ⟨f59, k59⟩ := hC
    refine r_inv3 G (pn := 54) rfl rfl (hf1.at (nm _ (by omega)) h58) (Nat.le_of_ble_eq_true rfl) (Nat.le_of_ble_eq_true rfl) (Nat.le_of_ble_eq_true rfl) (sp_71 (by omega) (by omega) hpx.1 hpx.2 (fun i _ => pxC_lt i) (fun i j _ _ => (pxO_lt i j).1) ((hR q hq).fr hf1 (fun i h1 h2 => nm i (by omega))) hX1 (hf1.at (nm _ (by omega)) h58) (hf1.at (nm _ (by omega)) h60) ⟨f59, hf1.at (nm _ (by omega)) k59⟩ (fun h2 cnt T hf2 hF2 hC2 h720 hm1 hm2 hm3 => ?_))
    show am_Go (am_KA lx e) (am_fetch cd_10) Q 54 [some (.ref 0), some (.int (nI q)), some (.int (nI a)), some (.int (otI ot))] [.int (nI cnt)] h2 0 0
    refine r_iret G rfl rfl (hyes q a ot h2 cnt T rfl hq rfl ha rfl hot ((hf1.wk (fun i hi => Or.inl hi)).tr (hf2.wk (fun i hi => Or.inr hi))) (hX1.fr hf2 (fun i hi z => by have := hi.2; have := z.1; omega)) hF2 hC2 h720 hm1 hm2 hm3)
  refine r_il G (pn := 17) rfl rfl rfl ?_
  refine r_ic G (pn := 18) rfl rfl  ?_
  refine r_if2 G (pn := 21) rfl rfl (fun c18 => ?_) (fun c18 => ?_)
  · exact go none c18 (fun b hb => by cases hb)
  refine r_ra G (pn := 22) rfl rfl rfl ?_
  refine r_il G (pn := 23) rfl rfl rfl ?_
  refine r_inv2 G (pn := 26) rfl rfl h0 (Nat.le_of_ble_eq_true rfl) (Nat.le_of_ble_eq_true rfl) (Nat.le_of_ble_eq_true rfl) (sp_14 (by omega) h0 h39 (fun z => ?_) (fun x1 x2 => ?_))
  · show am_Go (am_KA lx e) (am_fetch cd_10) Q 26 [some (.ref 0), some (.int r), some (.int s), some (.int t)] [.int 0] h 0 0
    refine r_if1 G (pn := 29) rfl rfl (fun c26 => ?_) (fun c26 => ?_)
    · exact absurd rfl c26
    refine no (fun ⟨q, a, ot, _, _, _, _, e1, e2⟩ => ?_)
    have := otneg ot e2 (by rw [← e1]; exact c18)
    rw [← e1] at this
    rcases z with z | z
    · exact this.1 z
    · exact this.2 z
  · obtain ⟨b, hb, et⟩ := in_nat (by omega) x1 x2
    show am_Go (am_KA lx e) (am_fetch cd_10) Q 26 [some (.ref 0), some (.int r), some (.int s), some (.int t)] [.int 1] h 0 0
    refine r_if1 G (pn := 29) rfl rfl (fun c26 => ?_) (fun c26 => ?_)
    rotate_left
    · exact absurd (by decide) c26
    exact go (some b) et (fun b' hb' => by cases hb'; exact hb)
end
