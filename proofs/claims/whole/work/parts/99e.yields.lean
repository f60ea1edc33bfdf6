/-- the members of a part, in order -/
def Enm (i : Nat) (pt : Nat → Nat) (p : Nat) (J : Nat → Nat) (cnt : Nat) : Prop := (∀ q, q < cnt → J q < i ∧ pt (J q) = p) ∧ (∀ a b, a < b → b < cnt → J a < J b) ∧ ∀ x, x < i → pt x = p → ∃ q, q < cnt ∧ J q = x
theorem Enm.yes {i p cnt : Nat} {pt J : Nat → Nat} (h : Enm i pt p J cnt) (e : pt i = p) : Enm (i + 1) pt p (uN J cnt i) (cnt + 1) := by
  obtain ⟨h1, h2, h3⟩ := h
  refine ⟨fun q hq => ?_, fun a b hab hb => ?_, fun x hx ex => ?_⟩
  · by_cases y : q = cnt
    · rw [y, uN_s]; exact ⟨by omega, e⟩
    · rw [uN_n y]; have := h1 q (by omega); exact ⟨by omega, this.2⟩
  · by_cases y : b = cnt
    · rw [y, uN_s, uN_n (by omega)]; exact (h1 a (by omega)).1
    · rw [uN_n y, uN_n (by omega)]; exact h2 a b hab (by omega)
  · by_cases y : x = i
    · exact ⟨cnt, by omega, by rw [uN_s, y]⟩
    · obtain ⟨q, q1, q2⟩ := h3 x (by omega) ex
      exact ⟨q, by omega, by rw [uN_n (by omega)]; exact q2⟩
theorem Enm.no {i p cnt : Nat} {pt J : Nat → Nat} (h : Enm i pt p J cnt) (e : pt i ≠ p) : Enm (i + 1) pt p J cnt := by
  obtain ⟨h1, h2, h3⟩ := h
  refine ⟨fun q hq => ⟨by have := (h1 q hq).1; omega, (h1 q hq).2⟩, h2, fun x hx ex => ?_⟩
  by_cases y : x = i
  · rw [y] at ex; exact absurd ex e
  · exact h3 x (by omega) ex
theorem Enm.nil {p : Nat} {pt J : Nat → Nat} : Enm 0 pt p J 0 := ⟨fun q hq => absurd hq (Nat.not_lt_zero q), fun a b _ hb => absurd hb (Nat.not_lt_zero b), fun x hx => absurd hx (Nat.not_lt_zero x)⟩
theorem Enm.inj {i p cnt : Nat} {pt J : Nat → Nat} (h : Enm i pt p J cnt) : ∀ a b, a < cnt → b < cnt → J a = J b → a = b := by
  intro a b ha hb e
  rcases Nat.lt_trichotomy a b with y | y | y
  · have := h.2.1 a b y hb
    omega
  · exact y
  · have := h.2.1 b a y ha
    omega
theorem Enm.le {i p cnt cnt' : Nat} {pt J J' : Nat → Nat} (h : Enm i pt p J cnt) (h' : Enm i pt p J' cnt') : cnt ≤ cnt' := by
  have f : ∀ q, ∃ r, q < cnt → r < cnt' ∧ J' r = J q := by
    intro q
    by_cases hq : q < cnt
    · obtain ⟨r, r1, r2⟩ := h'.2.2 (J q) (h.1 q hq).1 (h.1 q hq).2
      exact ⟨r, fun _ => ⟨r1, r2⟩⟩
    · exact ⟨0, fun y => absurd y hq⟩
  refine inj_le (f := fun q => Classical.choose (f q)) (fun q hq => (Classical.choose_spec (f q) hq).1) (fun a b ha hb e => ?_)
  have e1 := (Classical.choose_spec (f a) ha).2
  have e2 := (Classical.choose_spec (f b) hb).2
  have e : Classical.choose (f a) = Classical.choose (f b) := e
  rw [e] at e1
  exact h.inj a b ha hb (e1.symm.trans e2)
theorem PtI.eq {n : Nat} {od : Nat → Nat → Nat} {pt : Nat → Nat} (hs : ∀ i j, i < n → j < n → od i j = od j i) (h : PtI n od pt) {x y : Nat} (hx : x < n) (hy : y < n) : Rch n od x y ↔ pt x = pt y := by
  have le : ∀ x y, x < n → y < n → Rch n od x y → pt x ≤ pt y := by
    intro x y hx hy r
    obtain ⟨a1, a2, a3⟩ := h y hy
    exact (h x hx).2.2 (pt y) a1 ((a2.sy hs).tr (r.sy hs))
  constructor
  · intro r
    have := le x y hx hy r
    have := le y x hy hx (r.sy hs)
    omega
  · intro e
    have h1 := (h x hx).2.1
    have h2 := (h y hy).2.1
    rw [e] at h1
    exact h1.tr (h2.sy hs)
theorem Enm.comp {n p cnt : Nat} {od : Nat → Nat → Nat} {pt J : Nat → Nat} (hs : ∀ i j, i < n → j < n → od i j = od j i) (h : PtI n od pt) (hE : Enm n pt p J cnt) (hc : 1 ≤ cnt) : p < n ∧ pt p = p ∧ CompE n od p J cnt := by
  obtain ⟨e1, e2⟩ := hE.1 0 (by omega)
  obtain ⟨a1, a2, a3⟩ := h (J 0) e1
  rw [e2] at a1 a2 a3
  have pp : pt p = p := by
    rw [← (h.eq hs e1 a1).mp a2]
    exact e2
  refine ⟨a1, pp, fun q hq => ⟨(hE.1 q hq).1, (h.eq hs a1 (hE.1 q hq).1).mpr (by rw [pp]; exact (hE.1 q hq).2.symm)⟩, hE.inj, fun x hx r => hE.2.2 x hx ?_⟩
  rw [← (h.eq hs a1 hx).mp r]
  exact pp
/-- what a round of the model has made of the products so far -/
def YsS (n0 : Nat) (W nu : Nat → Nat) (Ws : Nat → Prop) (A : Nat → Nat → (Nat → Nat) → Prop) (rn : Nat) (R : Nat → Nat → Nat) (h : am_H) (m : Nat → Int32) (u : Nat) (U B : Nat → Nat) (k : Nat) (w : Nat → Nat) : Prop := TbM h m n0 B ∧ FrI h m n0 u B ∧ (∀ i, i < u → KR (U i) (B i)) ∧ ((m 18 = 0 ∧ Run n0 W nu (fun v => Ws v ∨ ∃ i, i < k ∧ w i = v) A u U rn R ∧ ∃ f, h[104]? = some (aI 3 f) ∧ ∀ i, i < k → ∃ j, j < u ∧ U j = w i ∧ f i = nI (nu j) - 1) ∨ (m 18 = 1 ∧ (∃ f, h[104]? = some (aI 3 f)) ∧ ∃ Ws' i, Run n0 W nu Ws' A 12 U rn R ∧ u = 12 ∧ (∀ v, Ws' v → Ws v ∨ ∃ i, i < k ∧ w i = v) ∧ i < k ∧ ∀ j, j < 12 → U j ≠ w i))
def yP (i : Nat) : Prop := i = 81 ∨ i = 91 ∨ i = 100 ∨ i = 102 ∨ i = 103 ∨ i = 104
def yM (m m' : Nat → Int32) : Prop := ∀ i, i ≠ 15 → i ≠ 18 → i ≠ 31 → i ≠ 34 → m' i = m i
section
variable {lx : am_Lx} {d : Nat} {h : am_H} {Q : am_Q} {m : Nat → Int32}
set_option maxRecDepth 20000 in
theorem sp_60 (hd : 4 ≤ d) {n n0 u cap rn : Nat} {cd W U B : Nat → Nat} {od R : Nat → Nat → Nat} {Ws : Nat → Prop} {A : Nat → Nat → (Nat → Nat) → Prop} {f6 : Nat → Int32} (hM : h[81]? = some (mO m)) (hS : MsI h) (m0 : m 0 = nI cap) (hcap : 2 ≤ cap ∧ cap ≤ 5) (m24 : m 24 = nI n) (hn : n ≤ 10) (h96 : h[96]? = some (aI 10 f6)) (g6 : ∀ i, i < n → f6 i = nI (cd i) ∧ cd i < 4) (hT : TnI h n od) (hod : ∀ i j, i < n → j < n → od i j < 4 ∧ od i j = od j i) (h3 : ∀ k (Rp : Nat → Nat), (∀ i, i < k → Rp i < n) → (∀ i j, i < k → j < k → Rch n od (Rp i) (Rp j) → i = j) → k ≤ 3) (hTb : TbM h m n0 B) (hF : FrI h m n0 u B) (hK : ∀ i, i < u → KR (U i) (B i)) (m18 : m 18 = 0) (hR : Run n0 W (nuM n0) Ws A u U rn R)
    (hno : ∀ h', am_fr yP h h' → h'[81]? = some (mO m) → MsI h' → Big n od cap → TbM h' m n0 B → FrI h' m n0 u B → Q (some (.int 0)) h')
    (hyes : ∀ h' m' k w b u' U' B', am_fr yP h h' → yM m m' → h'[81]? = some (mO m') → MsI h' → m' 34 = nI k → PL n cd od cap k w b → k ≤ 3 → YsS n0 W (nuM n0) Ws A rn R h' m' u' U' B' k w → Q (some (.int 1)) h') : am_KA lx d 60 [.ref 81] h Q := by
  have hs : ∀ i j, i < n → j < n → od i j = od j i := fun i j hi hj => (hod i j hi hj).2
  obtain ⟨ft, h99, gt⟩ := id hT
  obtain ⟨e, rfl⟩ : ∃ e, d = e + 1 := ⟨d - 1, by omega⟩
  have G : am_GK (am_KA lx e) cd_60 := ⟨am_KA_m lx e, cm_60⟩
  refine am_KA_in (by decide) (Nat.le_of_ble_eq_true rfl) ?_
  show am_Go (am_KA lx e) (am_fetch cd_60) Q 0 [some (.ref 81), none, none, none] [] h 0 0
  refine r_ra G (pn := 1) rfl rfl rfl ?_
  refine r_inv1 G (pn := 4) rfl rfl hM (Nat.le_of_ble_eq_true rfl) (Nat.le_of_ble_eq_true rfl) (Nat.le_of_ble_eq_true rfl) (sp_58 (by omega) hM m24 hn hod hT (hS 100 (by decide)) (fun h1 pt hf1 hp1 hPt => ?_))
  show am_Go (am_KA lx e) (am_fetch cd_60) Q 4 [some (.ref 81), none, none, none] [] h1 0 0
  have q1 : am_fr yP h h1 := hf1.wk (fun i hi => by unfold yP; omega)
  have kM1 : h1[81]? = some (mO m) := hf1.at (by omega) hM
  have S1 : MsI h1 := hS.fr hf1 (fun i hi _ => by
    subst hi
    obtain ⟨f, x, -⟩ := id hp1
    exact ⟨f, x⟩)
  have Tb1 : TbM h1 m n0 B := hTb.fr hf1 (by omega) rfl
  have F1 : FrI h1 m n0 u B := hF.fr hf1 (by omega) rfl
  obtain ⟨fp, k100, gp⟩ := id hp1
  have ptn : ∀ i, i < n → pt i < n := fun i hi => (hPt i hi).1
  -- the second loop
  have lp2 : ∀ (z p : Nat) (h' : am_H) (m' : Nat → Int32) (k : Nat) (Rp w b : Nat → Nat) (u' : Nat) (U' B' : Nat → Nat) (y2 y3 : Option Value), p + z = n → (∀ p J cnt, p < n → Enm n pt p J cnt → cnt ≤ cap) → am_fr yP h h' → yM m m' → h'[81]? = some (mO m') → MsI h' → h'[100]? = some (aI 10 fp) → m' 34 = nI k → (∀ i, i < k → Rp i < p ∧ pt (Rp i) = Rp i) → (∀ i j, i < k → j < k → Rp i = Rp j → i = j) → (∀ x, x < n → pt x < p → ∃ i, i < k ∧ Rp i = pt x) → (∀ i, i < k → ∃ J cnt, CompE n od (Rp i) J cnt ∧ cnt ≤ cap ∧ IsK cd od J cnt (w i) (b i)) → YsS n0 W (nuM n0) Ws A rn R h' m' u' U' B' k w → am_Go (am_KA lx e) (am_fetch cd_60) Q 73 [some (.ref 81), some (.int (nI p)), y2, y3] [] h' 0 0 := by
    intro z
    induction z with
    | zero =>
      intro p h' m' k Rp w b u' U' B' y2 y3 hp hcapE hf hm' kM S' k100 m34 r1 r2 r3 r4 hY
      obtain rfl : p = n := by omega
      have n24 : m' 24 = nI p := (hm' 24 (by omega) (by omega) (by omega) (by omega)).trans m24
      have r5 : ∀ i j, i < k → j < k → Rch p od (Rp i) (Rp j) → i = j := by
        intro i j hi hj hr
        have := (hPt.eq hs (r1 i hi).1 (r1 j hj).1).mp hr
        rw [(r1 i hi).2, (r1 j hj).2] at this
        exact r2 i j hi hj this
      refine r_il G (pn := 74) rfl rfl rfl ?_
      refine r_ra G (pn := 75) rfl rfl rfl ?_
      refine r_get G (pn := 78) rfl rfl (by first | assumption | (repeat (first | assumption | exact am_eq (by first | assumption | exact am_eq (by assumption) | exact am_ne (by first | decide | omega) (by assumption)) | refine am_ne (by first | decide | omega) ?_))) rfl ?_
      rw [n24]
      refine r_if2 G (pn := 81) rfl rfl (fun c78 => ?_) (fun c78 => ?_)
      rotate_left
      · exact absurd (Int32.le_refl _) c78
      refine r_ic G (pn := 175) rfl rfl  ?_
      refine r_iret G rfl (by decide) (hyes h' m' k w b u' U' B' hf hm' kM S' m34 ⟨Rp, fun i hi => (r1 i hi).1, r5, fun x hx => ?_, r4⟩ (h3 k Rp (fun i hi => (r1 i hi).1) r5) hY)
      obtain ⟨i, hi, e⟩ := r3 x hx (ptn x hx)
      exact ⟨i, hi, by rw [e]; exact (hPt x hx).2.1.sy hs⟩
    | succ z ih =>
      intro p h' m' k Rp w b u' U' B' y2 y3 hp hcapE hf hm' kM S' k100 m34 r1 r2 r3 r4 hY
      have n24 : m' 24 = nI n := (hm' 24 (by omega) (by omega) (by omega) (by omega)).trans m24
      refine r_il G (pn := 74) rfl rfl rfl ?_
      refine r_ra G (pn := 75) rfl rfl rfl ?_
      refine r_get G (pn := 78) rfl rfl (by first | assumption | (repeat (first | assumption | exact am_eq (by first | assumption | exact am_eq (by assumption) | exact am_ne (by first | decide | omega) (by assumption)) | refine am_ne (by first | decide | omega) ?_))) rfl ?_
      rw [n24]
      refine r_if2 G (pn := 81) rfl rfl (fun c78 => ?_) (fun c78 => ?_)
      · exact absurd ((nI_leI (by omega) (by omega)).mp c78) (by omega)
      refine r_ra G (pn := 82) rfl rfl rfl ?_
      refine r_ic G (pn := 83) rfl rfl  ?_
      refine r_puti G (pn := 86) rfl rfl kM (Nat.le_of_ble_eq_true rfl) ?_
      refine r_ic G (pn := 87) rfl rfl  ?_
      refine r_is G (pn := 88) rfl rfl (Nat.le_of_ble_eq_true rfl) ?_
      -- gathering the members
      have inner : ∀ (z2 i : Nat) (h2 : am_H) (m2 : Nat → Int32) (J : Nat → Nat) (cnt : Nat) (y3 : Option Value), i + z2 = n → am_fr (fun i => i = 81 ∨ i = 102) h' h2 → (∀ i, i ≠ 31 → m2 i = m' i) → h2[81]? = some (mO m2) → m2 31 = nI cnt → Enm i pt p J cnt → (∃ f, h2[102]? = some (aI 10 f) ∧ ∀ q, q < cnt → f q = nI (J q)) → am_Go (am_KA lx e) (am_fetch cd_60) Q 88 [some (.ref 81), some (.int (nI p)), some (.int (nI i)), y3] [] h2 0 0 := by
        intro z2
        induction z2 with
        | zero =>
          intro i h2 m2 J cnt y3 hi hf2 hm2 kM2 m31 hE hJ
          obtain rfl : i = n := by omega
          obtain ⟨fj, k102, gj⟩ := hJ
          have o24 : m2 24 = nI i := (hm2 24 (by omega)).trans n24
          have hcn : cnt ≤ cap := hcapE p J cnt (by omega) hE
          have yM2 : yM m m2 := fun i a b c d => (hm2 i c).trans (hm' i a b c d)
          have hf2y : am_fr yP h h2 := hf.tr (hf2.wk (fun i hi => by unfold yP; omega))
          have S2 : MsI h2 := S'.fr hf2 (fun i hi hz => by
            rcases hi with hi | hi
            · subst hi; exact absurd rfl hz
            · subst hi; exact ⟨fj, k102⟩)
          have k100' := hf2.at (by omega) k100
          have Y2 : YsS n0 W (nuM n0) Ws A rn R h2 m2 u' U' B' k w := by
            obtain ⟨y1, y2, y3, y4⟩ := hY
            refine ⟨y1.fr hf2 (by omega) (hm2 3 (by omega)), y2.fr hf2 (by omega) (hm2 15 (by omega)), y3, ?_⟩
            rcases y4 with ⟨a1, a2, f, a3, a4⟩ | ⟨a1, ⟨f, a2⟩, a3⟩
            · exact Or.inl ⟨(hm2 18 (by omega)).trans a1, a2, f, hf2.at (by omega) a3, a4⟩
            · exact Or.inr ⟨(hm2 18 (by omega)).trans a1, ⟨f, hf2.at (by omega) a2⟩, a3⟩
          refine r_il G (pn := 89) rfl rfl rfl ?_
          refine r_ra G (pn := 90) rfl rfl rfl ?_
          refine r_get G (pn := 93) rfl rfl (by first | assumption | (repeat (first | assumption | exact am_eq (by first | assumption | exact am_eq (by assumption) | exact am_ne (by first | decide | omega) (by assumption)) | refine am_ne (by first | decide | omega) ?_))) rfl ?_
          rw [o24]
          refine r_if2 G (pn := 96) rfl rfl (fun c93 => ?_) (fun c93 => ?_)
          rotate_left
          · exact absurd (Int32.le_refl _) c93
          refine r_ra G (pn := 133) rfl rfl rfl ?_
          refine r_get G (pn := 136) rfl rfl (by first | assumption | (repeat (first | assumption | exact am_eq (by first | assumption | exact am_eq (by assumption) | exact am_ne (by first | decide | omega) (by assumption)) | refine am_ne (by first | decide | omega) ?_))) rfl ?_
          rw [m31]
          refine r_if1 G (pn := 139) rfl rfl (fun c136 => ?_) (fun c136 => ?_)
          · have c0 : cnt = 0 := by
              have := (nI_leI (a := cnt) (b := 0) (by omega) (by omega)).mp c136
              omega
            subst c0
            refine r_inc G (pn := 171) rfl rfl rfl (Nat.le_of_ble_eq_true rfl) ?_
            refine r_goto G rfl ?_
            rw [nI_1]
            refine ih (p + 1) h2 m2 k Rp w b u' U' B' _ _ (by omega) hcapE hf2y yM2 kM2 S2 k100' ((hm2 34 (by omega)).trans m34) (fun i hi => ⟨by have := (r1 i hi).1; omega, (r1 i hi).2⟩) r2 (fun x hx hpx => ?_) r4 Y2
            by_cases y : pt x = p
            · obtain ⟨q, q1, -⟩ := hE.2.2 x hx y
              exact absurd q1 (Nat.not_lt_zero q)
            · exact r3 x hx (by omega)
          have c1 : 1 ≤ cnt := Nat.not_lt.mp (fun y => c136 ((nI_leI (b := 0) (by omega) (by omega)).mpr (by omega)))
          obtain ⟨pn, pp, comp⟩ := hE.comp hs hPt c1
          -- there is room for it
          have nr1 : ∀ i, i < k + 1 → uN Rp k p i < p + 1 ∧ pt (uN Rp k p i) = uN Rp k p i := by
            intro i hi
            by_cases y : i = k
            · rw [y, uN_s]; exact ⟨by omega, pp⟩
            · rw [uN_n y]; have := r1 i (by omega); exact ⟨by omega, this.2⟩
          have nr2 : ∀ i j, i < k + 1 → j < k + 1 → uN Rp k p i = uN Rp k p j → i = j := by
            intro a b' ha hb e
            by_cases ya : a = k
            · by_cases yb : b' = k
              · omega
              · rw [ya, uN_s, uN_n yb] at e
                have := (r1 b' (by omega)).1
                omega
            · by_cases yb : b' = k
              · rw [yb, uN_s, uN_n ya] at e
                have := (r1 a (by omega)).1
                omega
              · rw [uN_n ya, uN_n yb] at e
                exact r2 a b' (by omega) (by omega) e
          have k3 : k + 1 ≤ 3 := h3 (k + 1) (uN Rp k p) (fun i hi => by have := (nr1 i hi).1; omega) (fun a b' ha hb hr => by
            have := (hPt.eq hs (by have := (nr1 a ha).1; omega) (by have := (nr1 b' hb).1; omega)).mp hr
            rw [(nr1 a ha).2, (nr1 b' hb).2] at this
            exact nr2 a b' ha hb this)
          obtain ⟨f3, k103⟩ := S2 103 (by decide)
          have k96 : h2[96]? = some (aI 10 f6) := hf2y.at (by unfold yP; omega) h96
          have k99 : h2[99]? = some (aI 100 ft) := hf2y.at (by unfold yP; omega) h99
          refine r_ra G (pn := 140) rfl rfl rfl ?_
          refine r_inv1 G (pn := 143) rfl rfl kM2 (Nat.le_of_ble_eq_true rfl) (Nat.le_of_ble_eq_true rfl) (Nat.le_of_ble_eq_true rfl) (sp_40 (nm := i) (cd := cd) (od := od) (by omega) kM2 m31 k96 k99 k102 k103 hn g6 (fun a b ha hb => ⟨gt a b ha hb, (hod a b ha hb).1⟩) (fun q hq => ⟨gj q hq, (hE.1 q hq).1⟩) hE.2.1 c1 (by omega) (fun f3' s hs1 hs2 hs3 => ?_))
          have hIK := IsK_model c1 (by omega) (fun q hq => (g6 _ (hE.1 q hq).1).2) (fun a b ha hb => (hod _ _ (hE.1 a ha).1 (hE.1 b hb).1).1) ⟨hs1, hs2⟩ hs3
          have hkr := hIK.kr c1 (by omega) (fun q hq => (g6 _ (hE.1 q hq).1).2) (fun a b ha hb => (hod _ _ (hE.1 a ha).1 (hE.1 b hb).1).1)
          generalize WC cd od (fun q => J (s q)) cnt = ww at hIK hkr
          generalize WM cd od (fun q => J (s q)) cnt = bb at hIK hkr
          have q3 : am_fr (fun i => i = 103) h2 (h2.set 103 (aI 10 f3')) := am_fr.rf.put rfl
          show am_Go (am_KA lx e) (am_fetch cd_60) Q 143 [some (.ref 81), some (.int (nI p)), some (.int (nI i)), y3] [.long (lN bb)] (h2.set 103 (aI 10 f3')) 0 0
          have k103' : (h2.set 103 (aI 10 f3'))[103]? = some (aI 10 f3') := am_eq k103
          generalize (h2.set 103 (aI 10 f3') : am_H) = h3' at q3 k103'
          have kM3 := q3.at (by omega) kM2
          have S3 : MsI h3' := S2.fr q3 (fun i hi _ => by subst hi; exact ⟨f3', k103'⟩)
          have hf3y : am_fr yP h h3' := hf2y.tr (q3.wk (fun i hi => by unfold yP; omega))
          have Y3 : YsS n0 W (nuM n0) Ws A rn R h3' m2 u' U' B' k w := by
            obtain ⟨y1, y2, y3, y4⟩ := Y2
            refine ⟨y1.fr q3 (by omega) rfl, y2.fr q3 (by omega) rfl, y3, ?_⟩
            rcases y4 with ⟨a1, a2, f, a3, a4⟩ | ⟨a1, ⟨f, a2⟩, a3⟩
            · exact Or.inl ⟨a1, a2, f, q3.at (by omega) a3, a4⟩
            · exact Or.inr ⟨a1, ⟨f, q3.at (by omega) a2⟩, a3⟩
          have m34' : m2 34 = nI k := (hm2 34 (by omega)).trans m34
          refine r_ls G (pn := 144) rfl rfl (Nat.le_of_ble_eq_true rfl) ?_
          refine r_ra G (pn := 145) rfl rfl rfl ?_
          refine r_get G (pn := 148) rfl rfl kM3 rfl ?_
          refine r_ra G (pn := 149) rfl rfl rfl ?_
          refine r_get G (pn := 152) rfl rfl kM3 rfl ?_
          rw [m34']
          refine r_ra G (pn := 153) rfl rfl rfl ?_
          refine r_ll G (pn := 154) rfl rfl rfl ?_
          -- the number is written, and counted
          have wr : ∀ (h4 : am_H) (m4 : Nat → Int32) (u4 : Nat) (U4 B4 : Nat → Nat) (v : Int32) (f4 : Nat → Int32), am_fr yP h h4 → yM m m4 → h4[81]? = some (mO m4) → MsI h4 → h4[100]? = some (aI 10 fp) → m4 34 = nI k → h4[104]? = some (aI 3 f4) → YsS n0 W (nuM n0) Ws A rn R (h4.set 104 (aI 3 (upd f4 k v))) m4 u4 U4 B4 (k + 1) (uN w k ww) → am_Go (am_KA lx e) (am_fetch cd_60) Q 157 [some (.ref 81), some (.int (nI p)), some (.long (lN bb)), none] [.int v, .int (nI k), .ref 104] h4 0 0 := by
            intro h4 m4 u4 U4 B4 v f4 hf4 hm4 kM4 S4 l100 l34 l104 hY4
            refine r_iastN G (pn := 158) rfl rfl l104 (by omega) (by omega) ?_
            refine r_ra G (pn := 159) rfl rfl rfl ?_
            refine r_dup G (pn := 160) rfl rfl rfl ?_
            refine r_get G (pn := 163) rfl rfl (am_ne (by decide) kM4) rfl ?_
            rw [l34]
            refine r_ic G (pn := 164) rfl rfl  ?_
            refine r_ib G (pn := 165) rfl rfl  ?_
            rw [nI_1]
            refine r_puti G (pn := 168) rfl rfl (am_ne (by decide) kM4) (Nat.le_of_ble_eq_true rfl) ?_
            refine r_inc G (pn := 171) rfl rfl rfl (Nat.le_of_ble_eq_true rfl) ?_
            refine r_goto G rfl ?_
            rw [nI_1]
            have q5 : am_fr (fun i => i = 81) (h4.set 104 (aI 3 (upd f4 k v))) ((h4.set 104 (aI 3 (upd f4 k v))).set 81 (mO (upd m4 34 (nI (k + 1))))) := am_fr.rf.put rfl
            refine ih (p + 1) ((h4.set 104 (aI 3 (upd f4 k v))).set 81 (mO (upd m4 34 (nI (k + 1))))) (upd m4 34 (nI (k + 1))) (k + 1) (uN Rp k p) (uN w k ww) (uN b k bb) u4 U4 B4 _ _ (by omega) hcapE ((hf4.put (by unfold yP; omega)).put (by unfold yP; omega)) (fun i a b c d => by rw [pk_un d]; exact hm4 i a b c d) (am_eq (am_ne (by decide) kM4)) ?_ (am_ne (by decide) (am_ne (by decide) l100)) pk_us nr1 nr2 (fun x hx hpx => ?_) (fun q hq => ?_) ?_
            · refine S4.fr (P := fun i => i = 104 ∨ i = 81) ((am_fr.rf.put (Or.inl rfl)).put (Or.inr rfl)) (fun q hq hz => ?_)
              rcases hq with hq | hq
              · subst hq; exact ⟨_, am_ne (by decide) (am_eq l104)⟩
              · subst hq; exact absurd rfl hz
            · by_cases y : pt x = p
              · exact ⟨k, by omega, by rw [uN_s, y]⟩
              · obtain ⟨q, q1, q2⟩ := r3 x hx (by omega)
                exact ⟨q, by omega, by rw [uN_n (by omega)]; exact q2⟩
            · by_cases y : q = k
              · rw [y, uN_s, uN_s, uN_s]; exact ⟨J, cnt, comp, hcn, hIK⟩
              · rw [uN_n y, uN_n y, uN_n y]; exact r4 q (by omega)
            · obtain ⟨y1, y2, y3, y4⟩ := hY4
              refine ⟨y1.fr q5 (by omega) (pk_un (by omega)), y2.fr q5 (by omega) (pk_un (by omega)), y3, ?_⟩
              rcases y4 with ⟨a1, a2, f, a3, a4⟩ | ⟨a1, ⟨f, a2⟩, a3⟩
              · exact Or.inl ⟨(pk_un (by omega)).trans a1, a2, f, q5.at (by omega) a3, a4⟩
              · exact Or.inr ⟨(pk_un (by omega)).trans a1, ⟨f, q5.at (by omega) a2⟩, a3⟩
          have k100'' := q3.at (by omega) k100'
          obtain ⟨y1, y2, y3', y4⟩ := id Y3
          have hu12 := y2.2.2.1
          have hbb := hkr.lt.2
          have grow : ∀ v : Nat, (Ws v ∨ ∃ i, i < k ∧ w i = v) → (Ws v ∨ ∃ i, i < k + 1 ∧ uN w k ww i = v) := by
            rintro v (y | ⟨i, hi, y⟩)
            · exact Or.inl y
            · exact Or.inr ⟨i, by omega, by rw [uN_n (by omega)]; exact y⟩
          -- over: nothing more comes in
          have overS : ∀ (h4 : am_H) (m4 : Nat → Int32) (f4 : Nat → Int32) (v : Int32), am_fr (fun i => i = 81) h3' h4 → m4 18 = 1 → (∀ i, i ≠ 18 → m4 i = m2 i) → h4[104]? = some (aI 3 f4) → (∃ Ws' i, Run n0 W (nuM n0) Ws' A 12 U' rn R ∧ u' = 12 ∧ (∀ v, Ws' v → Ws v ∨ ∃ i, i < k + 1 ∧ uN w k ww i = v) ∧ i < k + 1 ∧ ∀ j, j < 12 → U' j ≠ uN w k ww i) → YsS n0 W (nuM n0) Ws A rn R (h4.set 104 (aI 3 (upd f4 k v))) m4 u' U' B' (k + 1) (uN w k ww) := by
            intro h4 m4 f4 v hf4 l18 hm4 l104 hh
            have q6 : am_fr (fun i => i = 104) h4 (h4.set 104 (aI 3 (upd f4 k v))) := am_fr.rf.put rfl
            exact ⟨(y1.fr hf4 (by omega) (hm4 3 (by omega))).fr q6 (by omega) rfl, (y2.fr hf4 (by omega) (hm4 15 (by omega))).fr q6 (by omega) rfl, y3', Or.inr ⟨l18, ⟨_, am_eq l104⟩, hh⟩⟩
          refine r_inv2 G (pn := 157) rfl rfl kM3 (Nat.le_of_ble_eq_true rfl) (Nat.le_of_ble_eq_true rfl) (Nat.le_of_ble_eq_true rfl) (sp_59 (by omega) kM3 y1 y2 hbb (fun j hj ej => ?_) (fun hfull hne => ?_) (fun hlt hne h4 hf4 kM4 F4 => ?_))
          · show am_Go (am_KA lx e) (am_fetch cd_60) Q 157 [some (.ref 81), some (.int (nI p)), some (.long (lN bb)), none] [.int (nI (nuM n0 j) - 1), .int (nI k), .ref 104] h3' 0 0
            have ew : U' j = ww := (KR_ord (y3' j hj) hkr).2.mpr ej
            rcases y4 with ⟨a1, a2, f, a3, a4⟩ | ⟨a1, ⟨f, a2⟩, Ws', q, b1, b2, b3, b4, b5⟩
            · refine wr h3' m2 u' U' B' _ f hf3y yM2 kM3 S3 k100'' m34' a3 ?_
              have q6 : am_fr (fun i => i = 104) h3' (h3'.set 104 (aI 3 (upd f k (nI (nuM n0 j) - 1)))) := am_fr.rf.put rfl
              refine ⟨y1.fr q6 (by omega) rfl, y2.fr q6 (by omega) rfl, y3', Or.inl ⟨a1, a2.same (fun v => ?_) (fun a b y hA => ⟨y, hA, yq.rf⟩) (fun a b y hA => ⟨y, hA, yq.rf⟩), _, am_eq a3, fun q hq => ?_⟩⟩
              · constructor
                · rintro (y | ⟨q, hq, y⟩)
                  · exact Or.inl y
                  · by_cases yk : q = k
                    · rw [yk, uN_s] at y
                      have := a2.2.2.2.1 j hj
                      rw [ew, y] at this
                      exact this
                    · rw [uN_n yk] at y
                      exact Or.inr ⟨q, by omega, y⟩
                · exact grow v
              · by_cases yk : q = k
                · rw [yk, uN_s, pk_us]; exact ⟨j, hj, ew, rfl⟩
                · rw [uN_n yk, pk_un yk]; exact a4 q (by omega)
            · refine wr h3' m2 u' U' B' _ f hf3y yM2 kM3 S3 k100'' m34' a2 (overS h3' m2 f _ am_fr.rf a1 (fun _ _ => rfl) a2 ⟨Ws', q, b1, b2, fun v hv => grow v (b3 v hv), by omega, fun j hj => ?_⟩)
              rw [uN_n (by omega)]
              exact b5 j hj
          · have qM : am_fr (fun i => i = 81) h3' (h3'.set 81 (mO (upd m2 18 1))) := am_fr.rf.put rfl
            have kM4 : (h3'.set 81 (mO (upd m2 18 1)))[81]? = some (mO (upd m2 18 1)) := am_eq kM3
            have yM4 : yM m (upd m2 18 1) := fun i a b c d => by rw [pk_un b]; exact yM2 i a b c d
            have S4 : MsI (h3'.set 81 (mO (upd m2 18 1))) := S3.fr qM (fun i hi hz => by subst hi; exact absurd rfl hz)
            have hf4y : am_fr yP h (h3'.set 81 (mO (upd m2 18 1))) := hf3y.tr (qM.wk (fun i hi => by unfold yP; omega))
            show am_Go (am_KA lx e) (am_fetch cd_60) Q 157 [some (.ref 81), some (.int (nI p)), some (.long (lN bb)), none] [.int 0, .int (nI k), .ref 104] (h3'.set 81 (mO (upd m2 18 1))) 0 0
            rcases y4 with ⟨a1, a2, f, a3, a4⟩ | ⟨a1, ⟨f, a2⟩, Ws', q, b1, b2, b3, b4, b5⟩
            · refine wr _ (upd m2 18 1) u' U' B' _ f hf4y yM4 kM4 S4 (am_ne (by decide) k100'') ((pk_un (by omega)).trans m34') (am_ne (by decide) a3) (overS _ _ f _ qM pk_us (fun i hi => pk_un hi) (am_ne (by decide) a3) ⟨_, k, by rw [← hfull]; exact a2, hfull, fun v hv => grow v hv, by omega, fun j hj => ?_⟩)
              rw [uN_s]
              exact fun e => hne j (by omega) ((KR_ord (y3' j (by omega)) hkr).2.mp e)
            · refine wr _ (upd m2 18 1) u' U' B' _ f hf4y yM4 kM4 S4 (am_ne (by decide) k100'') ((pk_un (by omega)).trans m34') (am_ne (by decide) a2) (overS _ _ f _ qM pk_us (fun i hi => pk_un hi) (am_ne (by decide) a2) ⟨Ws', q, b1, b2, fun v hv => grow v (b3 v hv), by omega, fun j hj => ?_⟩)
              rw [uN_n (by omega)]
              exact b5 j hj
          · have yM4 : yM m (upd m2 15 (nI (u' + 1 - n0))) := fun i a b c d => by rw [pk_un a]; exact yM2 i a b c d
            have S4 : MsI h4 := S3.fr hf4 (fun i hi hz => by rcases hi with hi | hi <;> subst hi <;> exact absurd rfl hz)
            have hf4y : am_fr yP h h4 := hf3y.tr (hf4.wk (fun i hi => by unfold yP; omega))
            have l100 := hf4.at (by omega) k100''
            show am_Go (am_KA lx e) (am_fetch cd_60) Q 157 [some (.ref 81), some (.int (nI p)), some (.long (lN bb)), none] [.int (nI (nuM n0 u') - 1), .int (nI k), .ref 104] h4 0 0
            rcases y4 with ⟨a1, a2, f, a3, a4⟩ | ⟨a1, ⟨f, a2⟩, Ws', q, b1, b2, b3, b4, b5⟩
            rotate_left
            · omega
            have hneU : ∀ j, j < u' → U' j ≠ ww := fun j hj e => hne j hj ((KR_ord (y3' j hj) hkr).2.mp e)
            have l104 : h4[104]? = some (aI 3 f) := hf4.at (by omega) a3
            refine wr h4 _ (u' + 1) (uN U' u' ww) (uN B' u' bb) _ f hf4y yM4 kM4 S4 l100 ((pk_un (by omega)).trans m34') l104 ?_
            have q6 : am_fr (fun i => i = 104) h4 (h4.set 104 (aI 3 (upd f k (nI (nuM n0 u') - 1)))) := am_fr.rf.put rfl
            refine ⟨?_, F4.fr q6 (by omega) rfl, fun q hq => ?_, Or.inl ⟨(pk_un (by omega)).trans a1, (a2.word hneU).same (fun v => ?_) (fun a b y hA => ⟨y, hA, yq.rf⟩) (fun a b y hA => ⟨y, hA, yq.rf⟩), _, am_eq l104, fun q hq => ?_⟩⟩
            · obtain ⟨t3, ky, t83, tk⟩ := (y1.fr (m' := upd m2 15 (nI (u' + 1 - n0))) hf4 (by omega) (pk_un (by omega))).fr q6 (by omega) (m' := upd m2 15 (nI (u' + 1 - n0))) rfl
              have := y2.2.1
              exact ⟨t3, ky, t83, fun q hq => by rw [uN_n (by omega)]; exact tk q hq⟩
            · by_cases y : q = u'
              · rw [y, uN_s, uN_s]; exact hkr
              · rw [uN_n y, uN_n y]; exact y3' q (by omega)
            · constructor
              · rintro (y | ⟨q, hq, y⟩)
                · exact Or.inl (Or.inl y)
                · by_cases yk : q = k
                  · rw [yk, uN_s] at y; exact Or.inr y.symm
                  · rw [uN_n yk] at y; exact Or.inl (Or.inr ⟨q, by omega, y⟩)
              · rintro (y | y)
                · exact grow v y
                · exact Or.inr ⟨k, by omega, by rw [uN_s]; exact y.symm⟩
            · by_cases yk : q = k
              · rw [yk, uN_s, pk_us]; exact ⟨u', by omega, uN_s, rfl⟩
              · rw [uN_n yk, pk_un yk]
                obtain ⟨j, j1, j2, j3⟩ := a4 q (by omega)
                exact ⟨j, by omega, by rw [uN_n (by omega)]; exact j2, j3⟩
        | succ z2 ih2 =>
          intro i h2 m2 J cnt y3 hi hf2 hm2 kM2 m31 hE hJ
          obtain ⟨fj, k102, gj⟩ := hJ
          have o24 : m2 24 = nI n := (hm2 24 (by omega)).trans n24
          have l100 := hf2.at (by omega) k100
          have cn10 : cnt ≤ i := inj_le (fun q hq => (hE.1 q hq).1) hE.inj
          have ptb := ptn i (by omega)
          refine r_il G (pn := 89) rfl rfl rfl ?_
          refine r_ra G (pn := 90) rfl rfl rfl ?_
          refine r_get G (pn := 93) rfl rfl (by first | assumption | (repeat (first | assumption | exact am_eq (by first | assumption | exact am_eq (by assumption) | exact am_ne (by first | decide | omega) (by assumption)) | refine am_ne (by first | decide | omega) ?_))) rfl ?_
          rw [o24]
          refine r_if2 G (pn := 96) rfl rfl (fun c93 => ?_) (fun c93 => ?_)
          · exact absurd ((nI_leI (by omega) (by omega)).mp c93) (by omega)
          refine r_ra G (pn := 97) rfl rfl rfl ?_
          refine r_get G (pn := 100) rfl rfl (by first | assumption | (repeat (first | assumption | exact am_eq (by first | assumption | exact am_eq (by assumption) | exact am_ne (by first | decide | omega) (by assumption)) | refine am_ne (by first | decide | omega) ?_))) rfl ?_
          refine r_il G (pn := 101) rfl rfl rfl ?_
          refine r_ialdN G (pn := 102) rfl rfl l100 (by omega) (by omega) ?_
          refine r_il G (pn := 103) rfl rfl rfl ?_
          rw [gp i (by omega)]
          refine r_if2 G (pn := 106) rfl rfl (fun c103 => ?_) (fun c103 => ?_)
          · refine r_inc G (pn := 129) rfl rfl rfl (Nat.le_of_ble_eq_true rfl) ?_
            refine r_goto G rfl ?_
            rw [nI_1]
            exact ih2 (i + 1) h2 m2 J cnt _ (by omega) hf2 hm2 kM2 m31 (hE.no (fun e => c103 (by rw [e]))) ⟨fj, k102, gj⟩
          · have ep : pt i = p := (nI_eq (by omega) (by omega)).mp (Classical.byContradiction c103)
            refine r_ra G (pn := 107) rfl rfl rfl ?_
            refine r_get G (pn := 110) rfl rfl (by first | assumption | (repeat (first | assumption | exact am_eq (by first | assumption | exact am_eq (by assumption) | exact am_ne (by first | decide | omega) (by assumption)) | refine am_ne (by first | decide | omega) ?_))) rfl ?_
            refine r_ra G (pn := 111) rfl rfl rfl ?_
            refine r_get G (pn := 114) rfl rfl (by first | assumption | (repeat (first | assumption | exact am_eq (by first | assumption | exact am_eq (by assumption) | exact am_ne (by first | decide | omega) (by assumption)) | refine am_ne (by first | decide | omega) ?_))) rfl ?_
            rw [m31]
            refine r_il G (pn := 115) rfl rfl rfl ?_
            refine r_iastN G (pn := 116) rfl rfl k102 (by omega) (by omega) ?_
            refine r_ra G (pn := 117) rfl rfl rfl ?_
            refine r_dup G (pn := 118) rfl rfl rfl ?_
            refine r_get G (pn := 121) rfl rfl (am_ne (by decide) kM2) rfl ?_
            rw [m31]
            refine r_ic G (pn := 122) rfl rfl  ?_
            refine r_ib G (pn := 123) rfl rfl  ?_
            rw [nI_1]
            refine r_puti G (pn := 126) rfl rfl (am_ne (by decide) kM2) (Nat.le_of_ble_eq_true rfl) ?_
            refine r_inc G (pn := 129) rfl rfl rfl (Nat.le_of_ble_eq_true rfl) ?_
            refine r_goto G rfl ?_
            rw [nI_1]
            refine ih2 (i + 1) _ (upd m2 31 (nI (cnt + 1))) (uN J cnt i) (cnt + 1) _ (by omega) ((hf2.put (Or.inr rfl)).put (Or.inl rfl)) (fun q hq => by rw [pk_un hq]; exact hm2 q hq) (am_eq (am_ne (by decide) kM2)) pk_us (hE.yes ep) ⟨_, am_ne (by decide) (am_eq k102), fun q hq => ?_⟩
            by_cases y : q = cnt
            · rw [y, pk_us, uN_s]
            · rw [pk_un y, uN_n y]; exact gj q (by omega)
      obtain ⟨f2, k102⟩ := S' 102 (by decide)
      exact inner n 0 _ (upd m' 31 (nI 0)) id 0 _ (by omega) (am_fr.rf.put (Or.inl rfl)) (fun q hq => pk_un hq) (am_eq kM) pk_us Enm.nil ⟨f2, am_ne (by decide) k102, fun q hq => absurd hq (Nat.not_lt_zero q)⟩
  -- the first loop: none is too large
  have lp1 : ∀ (z p : Nat) (y2 y3 : Option Value), p + z = n → (∀ p' J cnt, p' < p → Enm n pt p' J cnt → cnt ≤ cap) → am_Go (am_KA lx e) (am_fetch cd_60) Q 6 [some (.ref 81), some (.int (nI p)), y2, y3] [] h1 0 0 := by
    intro z
    induction z with
    | zero =>
      intro p y2 y3 hp hE0
      obtain rfl : p = n := by omega
      refine r_il G (pn := 7) rfl rfl rfl ?_
      refine r_ra G (pn := 8) rfl rfl rfl ?_
      refine r_get G (pn := 11) rfl rfl (by first | assumption | (repeat (first | assumption | exact am_eq (by first | assumption | exact am_eq (by assumption) | exact am_ne (by first | decide | omega) (by assumption)) | refine am_ne (by first | decide | omega) ?_))) rfl ?_
      rw [m24]
      refine r_if2 G (pn := 14) rfl rfl (fun c11 => ?_) (fun c11 => ?_)
      rotate_left
      · exact absurd (Int32.le_refl _) c11
      refine r_ra G (pn := 67) rfl rfl rfl ?_
      refine r_ic G (pn := 68) rfl rfl  ?_
      refine r_puti G (pn := 71) rfl rfl kM1 (Nat.le_of_ble_eq_true rfl) ?_
      refine r_ic G (pn := 72) rfl rfl  ?_
      refine r_is G (pn := 73) rfl rfl (Nat.le_of_ble_eq_true rfl) ?_
      have q2 : am_fr (fun i => i = 81) h1 (h1.set 81 (mO (upd m 34 (nI 0)))) := am_fr.rf.put rfl
      obtain ⟨f4, k104⟩ := S1 104 (by decide)
      refine lp2 p 0 (h1.set 81 (mO (upd m 34 (nI 0)))) (upd m 34 (nI 0)) 0 id id id u U B _ _ (by omega) hE0 (q1.tr (q2.wk (fun i hi => by unfold yP; omega))) (fun i a b c d => pk_un d) (am_eq kM1) (S1.fr q2 (fun i hi hz => by subst hi; exact absurd rfl hz)) (am_ne (by decide) k100) pk_us (fun i hi => absurd hi (Nat.not_lt_zero i)) (fun i j hi => absurd hi (Nat.not_lt_zero i)) (fun x hx hpx => absurd hpx (Nat.not_lt_zero _)) (fun i hi => absurd hi (Nat.not_lt_zero i)) ⟨Tb1.fr q2 (by omega) (pk_un (by omega)), F1.fr q2 (by omega) (pk_un (by omega)), hK, Or.inl ⟨(pk_un (by omega)).trans m18, hR.same (fun v => ⟨fun y => y.elim id (fun ⟨_, y, _⟩ => absurd y (Nat.not_lt_zero _)), Or.inl⟩) (fun a b y hA => ⟨y, hA, yq.rf⟩) (fun a b y hA => ⟨y, hA, yq.rf⟩), f4, am_ne (by decide) k104, fun i hi => absurd hi (Nat.not_lt_zero i)⟩⟩
    | succ z ih =>
      intro p y2 y3 hp hE0
      refine r_il G (pn := 7) rfl rfl rfl ?_
      refine r_ra G (pn := 8) rfl rfl rfl ?_
      refine r_get G (pn := 11) rfl rfl (by first | assumption | (repeat (first | assumption | exact am_eq (by first | assumption | exact am_eq (by assumption) | exact am_ne (by first | decide | omega) (by assumption)) | refine am_ne (by first | decide | omega) ?_))) rfl ?_
      rw [m24]
      refine r_if2 G (pn := 14) rfl rfl (fun c11 => ?_) (fun c11 => ?_)
      · exact absurd ((nI_leI (by omega) (by omega)).mp c11) (by omega)
      refine r_ic G (pn := 15) rfl rfl  ?_
      refine r_is G (pn := 16) rfl rfl (Nat.le_of_ble_eq_true rfl) ?_
      refine r_ic G (pn := 17) rfl rfl  ?_
      refine r_is G (pn := 18) rfl rfl (Nat.le_of_ble_eq_true rfl) ?_
      have inner : ∀ (z2 i : Nat) (J : Nat → Nat) (cnt : Nat), i + z2 = n → Enm i pt p J cnt → am_Go (am_KA lx e) (am_fetch cd_60) Q 18 [some (.ref 81), some (.int (nI p)), some (.int (nI cnt)), some (.int (nI i))] [] h1 0 0 := by
        intro z2
        induction z2 with
        | zero =>
          intro i J cnt hi hE
          obtain rfl : i = n := by omega
          have cn10 : cnt ≤ i := inj_le (fun q hq => (hE.1 q hq).1) hE.inj
          refine r_il G (pn := 19) rfl rfl rfl ?_
          refine r_ra G (pn := 20) rfl rfl rfl ?_
          refine r_get G (pn := 23) rfl rfl (by first | assumption | (repeat (first | assumption | exact am_eq (by first | assumption | exact am_eq (by assumption) | exact am_ne (by first | decide | omega) (by assumption)) | refine am_ne (by first | decide | omega) ?_))) rfl ?_
          rw [m24]
          refine r_if2 G (pn := 26) rfl rfl (fun c23 => ?_) (fun c23 => ?_)
          rotate_left
          · exact absurd (Int32.le_refl _) c23
          refine r_il G (pn := 51) rfl rfl rfl ?_
          refine r_ra G (pn := 52) rfl rfl rfl ?_
          refine r_get G (pn := 55) rfl rfl (by first | assumption | (repeat (first | assumption | exact am_eq (by first | assumption | exact am_eq (by assumption) | exact am_ne (by first | decide | omega) (by assumption)) | refine am_ne (by first | decide | omega) ?_))) rfl ?_
          rw [m0]
          refine r_if2 G (pn := 58) rfl rfl (fun c55 => ?_) (fun c55 => ?_)
          · refine r_inc G (pn := 63) rfl rfl rfl (Nat.le_of_ble_eq_true rfl) ?_
            refine r_goto G rfl ?_
            rw [nI_1]
            refine ih (p + 1) _ _ (by omega) (fun p' J' cnt' hp' hE' => ?_)
            by_cases y : p' = p
            · rw [y] at hE'
              have := hE'.le hE
              have := (nI_leI (by omega) (by omega)).mp c55
              omega
            · exact hE0 p' J' cnt' (by omega) hE'
          · have hgt : cap < cnt := Nat.not_le.mp (fun y => c55 ((nI_leI (by omega) (by omega)).mpr y))
            obtain ⟨pn, pp, comp⟩ := hE.comp hs hPt (by omega)
            refine r_ic G (pn := 59) rfl rfl  ?_
            refine r_iret G rfl (by decide) (hno h1 q1 kM1 S1 ⟨p, J, cnt, pn, comp, hgt⟩ Tb1 F1)
        | succ z2 ih2 =>
          intro i J cnt hi hE
          have cn10 : cnt ≤ i := inj_le (fun q hq => (hE.1 q hq).1) hE.inj
          have ptb := ptn i (by omega)
          refine r_il G (pn := 19) rfl rfl rfl ?_
          refine r_ra G (pn := 20) rfl rfl rfl ?_
          refine r_get G (pn := 23) rfl rfl (by first | assumption | (repeat (first | assumption | exact am_eq (by first | assumption | exact am_eq (by assumption) | exact am_ne (by first | decide | omega) (by assumption)) | refine am_ne (by first | decide | omega) ?_))) rfl ?_
          rw [m24]
          refine r_if2 G (pn := 26) rfl rfl (fun c23 => ?_) (fun c23 => ?_)
          · exact absurd ((nI_leI (by omega) (by omega)).mp c23) (by omega)
          refine r_ra G (pn := 27) rfl rfl rfl ?_
          refine r_get G (pn := 30) rfl rfl (by first | assumption | (repeat (first | assumption | exact am_eq (by first | assumption | exact am_eq (by assumption) | exact am_ne (by first | decide | omega) (by assumption)) | refine am_ne (by first | decide | omega) ?_))) rfl ?_
          refine r_il G (pn := 31) rfl rfl rfl ?_
          refine r_ialdN G (pn := 32) rfl rfl k100 (by omega) (by omega) ?_
          refine r_il G (pn := 33) rfl rfl rfl ?_
          rw [gp i (by omega)]
          refine r_if2 G (pn := 36) rfl rfl (fun c33 => ?_) (fun c33 => ?_)
          · refine r_il G (pn := 43) rfl rfl rfl ?_
            refine r_is G (pn := 44) rfl rfl (Nat.le_of_ble_eq_true rfl) ?_
            refine r_inc G (pn := 47) rfl rfl rfl (Nat.le_of_ble_eq_true rfl) ?_
            refine r_goto G rfl ?_
            rw [nI_1]
            exact ih2 (i + 1) J cnt (by omega) (hE.no (fun e => c33 (by rw [e])))
          · have ep : pt i = p := (nI_eq (by omega) (by omega)).mp (Classical.byContradiction c33)
            refine r_il G (pn := 37) rfl rfl rfl ?_
            refine r_ic G (pn := 38) rfl rfl  ?_
            refine r_ib G (pn := 39) rfl rfl  ?_
            refine r_goto G rfl ?_
            refine r_is G (pn := 44) rfl rfl (Nat.le_of_ble_eq_true rfl) ?_
            refine r_inc G (pn := 47) rfl rfl rfl (Nat.le_of_ble_eq_true rfl) ?_
            refine r_goto G rfl ?_
            rw [nI_1, nI_1]
            exact ih2 (i + 1) (uN J cnt i) (cnt + 1) (by omega) (hE.yes ep)
      exact inner n 0 id 0 (by omega) Enm.nil
  refine r_ic G (pn := 5) rfl rfl  ?_
  refine r_is G (pn := 6) rfl rfl (Nat.le_of_ble_eq_true rfl) ?_
  exact lp1 n 0 _ _ (by omega) (fun p' J cnt hp' => absurd hp' (Nat.not_lt_zero p'))
end
