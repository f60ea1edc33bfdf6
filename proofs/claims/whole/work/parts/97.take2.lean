theorem EvW_mol {g : Wk} {rc v : Nat} {Z : Zt} (ok : WkOk g rc) (hZ : ∀ r s ot c, Z r s ot c → ZOk g rc r s ot c) (h : EvW g Z v) : ∃ b, Mol g.cap v b := by
  rcases h with ⟨i, hi, e⟩ | ⟨r, s, ot, c, k, w, b, i, zz, h', hi, e⟩
  · rw [← e]; exact ok.2.2.2.1 i hi
  · have z := hZ _ _ _ _ zz
    have hg := xA_g ok z
    rw [← e]
    exact ⟨b i, Good.mol ok.1.2 (fun i _ => pxC_lt i) hg.1 hg.2 h' hi⟩
def ClX (h : am_H) : Prop := (∃ n lb cd od, MxI h n lb cd od) ∧ (∃ cnt, h[58]? = some (fO cnt)) ∧ ∃ f, h[60]? = some (aI 2160 f)
def Idl (g : Wk) (r : Nat) : Prop := ∀ q, q < 3 → g.Bf r q = g.Af r q
/-- the events of the first r rules with one mixture -/
def Zmx (g : Wk) (Z : Zt) (s : Nat) (ot : Option Nat) (r : Nat) : Zt := fun r' s' ot' c' => Z r' s' ot' c' ∨ (s' = s ∧ ot' = ot ∧ r' < r ∧ ¬ Idl g r' ∧ EvM g r' s ot c')
def Zmt (g : Wk) (Z : Zt) (r s : Nat) (ot : Option Nat) (T : Nat → Nat → Nat) (m : Nat) : Zt := fun r' s' ot' c' => Z r' s' ot' c' ∨ (r' = r ∧ s' = s ∧ ot' = ot ∧ ∃ i, i < m ∧ ∀ q, q < g.P r → c' q = T i q)
section
variable {lx : am_Lx} {d : Nat} {h : am_H} {Q : am_Q}
theorem sp_21 (hd : 10 ≤ d) {g : Wk} {rc s u rn : Nat} {ot : Option Nat} {U : Nat → Nat} {A0 : Nat → Nat → (Nat → Nat) → Prop} {Z : Zt} {R : Nat → Nat → Nat} (ok : WkOk g rc) (hs : s < g.n0) (ht : ∀ t, ot = some t → t < g.n0) (hS : ClS h g rc) (hX : ClX h) (hT : TbC h u U) (hu : u ≤ 12) (hD : DrI h 66 rn R) (hZ : ∀ r s ot c, Z r s ot c → ZOk g rc r s ot c) (hR : RunZ g A0 (fun i => i + 1) Z u U rn R)
    (hyes : ∀ h' u' U' rn' R', am_fr tkP h h' → ClS h' g rc → ClX h' → TbC h' u' U' → u' ≤ 12 → DrI h' 66 rn' R' → RunZ g A0 (fun i => i + 1) (Zmx g Z s ot rc) u' U' rn' R' → Q (some (.int 1)) h')
    (hno : ∀ h' u' U' rn' R', am_fr tkP h h' → ClS h' g rc → ClX h' → TbC h' u' U' → DrI h' 66 rn' R' → Run g.n0 g.W (fun i => i + 1) (fun v => ∃ i, i < u' ∧ U' i = v) (fun _ _ _ => False) u' U' 0 R' → Fail g A0 (Zmx g Z s ot rc) → Q (some (.int 0)) h') : am_KA lx d 21 [.ref 0, .int (nI s), .int (otI ot)] h Q := by
  obtain ⟨h0, hK, ⟨jc, k9, fw, fj, h61, h62, h63⟩, ⟨f68, h68⟩, ⟨rr, h42, hrr⟩, hRl, ⟨f59, h59⟩⟩ := id hS
  obtain ⟨⟨n9, lb9, cd9, od9, hX9⟩, ⟨cnt9, h58⟩, ⟨f60, h60⟩⟩ := id hX
  obtain ⟨un, UW, -, Uw, -⟩ := id hR
  have hrc := ok.2.2.1
  have hx := xN_le ok hs ht
  have w5 : ∀ i, i < u → wN (U i) ≤ 5 := by
    intro i hi
    obtain ⟨b, hb⟩ := EvW_mol ok hZ (Uw i hi)
    have := (hb.w ok.1.2).2.1
    have := ok.1.2
    omega
  have eU : U s = g.W s := UW s hs
  have eO : ot.map U = ot.map g.W := by
    cases ot with
    | none => rfl
    | some t =>
      show some (U t) = some (g.W t)
      rw [UW t (ht t rfl)]
  obtain ⟨e, rfl⟩ : ∃ e, d = e + 1 := ⟨d - 1, by omega⟩
  have G : am_GK (am_KA lx e) cd_21 := ⟨am_KA_m lx e, cm_21⟩
  refine am_KA_in (by decide) (Nat.le_of_ble_eq_true rfl) ?_
  show am_Go (am_KA lx e) (am_fetch cd_21) Q 0 [some (.ref 0), some (.int (nI s)), some (.int (otI ot)), none, none, none] [] h 0 0
  refine r_ra G (pn := 1) rfl rfl rfl ?_
  refine r_il G (pn := 2) rfl rfl rfl ?_
  refine r_il G (pn := 3) rfl rfl rfl ?_
  refine r_inv3 G (pn := 6) rfl rfl h0 (Nat.le_of_ble_eq_true rfl) (Nat.le_of_ble_eq_true rfl) (Nat.le_of_ble_eq_true rfl) (sp_20 (by omega) h0 hT hu w5 hX9 (by omega) (fun t e => by have := ht t e; omega) (fun h1 hf1 hX1 => ?_))
  rw [eU, eO] at hX1
  show am_Go (am_KA lx e) (am_fetch cd_21) Q 6 [some (.ref 0), some (.int (nI s)), some (.int (otI ot)), none, none, none] [] h1 0 0
  refine r_ic G (pn := 7) rfl rfl  ?_
  refine r_is G (pn := 8) rfl rfl (Nat.le_of_ble_eq_true rfl) ?_
  have nm : ∀ i, i < 43 ∨ 57 < i → ¬ mxP i := fun i hi z => by have := z.1; have := z.2; omega
  have lp : ∀ (z r : Nat) (h' : am_H) (y4 y5 : Option Value) (u : Nat) (U : Nat → Nat) (rn : Nat) (R : Nat → Nat → Nat), r + z = rc → am_fr tkP h h' → ClS h' g rc → MxI h' (xN g s ot) (xL g s ot) (xC g s ot) (xB g s ot) → (∃ cnt, h'[58]? = some (fO cnt)) → (∃ f, h'[60]? = some (aI 2160 f)) → TbC h' u U → u ≤ 12 → DrI h' 66 rn R → RunZ g A0 (fun i => i + 1) (Zmx g Z s ot r) u U rn R → am_Go (am_KA lx e) (am_fetch cd_21) Q 8 [some (.ref 0), some (.int (nI s)), some (.int (otI ot)), some (.int (nI r)), y4, y5] [] h' 0 0 := by
    intro z
    induction z with
    | zero =>
      intro r h' y4 y5 u U rn R hr hf' S' X' k58 k60 T' hu D' R'
      obtain rfl : r = rc := by omega
      have k0 := S'.1
      refine r_il G (pn := 9) rfl rfl rfl ?_
      refine r_ra G (pn := 10) rfl rfl rfl ?_
      refine r_get G (pn := 13) rfl rfl k0 rfl ?_
      refine r_if2 G (pn := 16) rfl rfl (fun c13 => ?_) (fun c13 => ?_)
      rotate_left
      · exact absurd (Int32.le_refl _) c13
      refine r_ic G (pn := 93) rfl rfl  ?_
      refine r_iret G rfl (by decide) (hyes h' u U rn R hf' S' ⟨⟨_, _, _, _, X'⟩, k58, k60⟩ T' hu D' R')
    | succ z ih =>
      intro r h' y4 y5 u U rn R hr hf' S' X' k58 k60 T' hu D' R'
      obtain ⟨k0, kK, -, -, ⟨rr', k42, krr⟩, kRl, k59⟩ := id S'
      have hrl := kRl r (by omega)
      obtain ⟨r1, hP, -, ⟨fB, rB, gB⟩, ⟨fA, rA, gA⟩⟩ := id hrl
      refine r_il G (pn := 9) rfl rfl rfl ?_
      refine r_ra G (pn := 10) rfl rfl rfl ?_
      refine r_get G (pn := 13) rfl rfl k0 rfl ?_
      refine r_if2 G (pn := 16) rfl rfl (fun c13 => ?_) (fun c13 => ?_)
      · exact absurd ((nI_leI (by omega) (by omega)).mp c13) (by omega)
      refine r_ra G (pn := 17) rfl rfl rfl ?_
      refine r_get G (pn := 20) rfl rfl k0 rfl ?_
      refine r_il G (pn := 21) rfl rfl rfl ?_
      refine r_raldN G (pn := 22) rfl rfl k42 (by omega) (by omega) (krr r (by omega)) ?_
      refine r_inv1 G (pn := 25) rfl rfl r1 (Nat.le_of_ble_eq_true rfl) (Nat.le_of_ble_eq_true rfl) (Nat.le_of_ble_eq_true rfl) (sp_120 (by omega) r1 rB rA (fun hne => ?_) (fun heq => ?_))
      · have nid : ¬ Idl g r := by
          obtain ⟨i, hi, hne⟩ := hne
          intro y
          exact hne (by rw [(gB i hi).1, (gA i hi).1, y i hi])
        show am_Go (am_KA lx e) (am_fetch cd_21) Q 25 [some (.ref 0), some (.int (nI s)), some (.int (otI ot)), some (.int (nI r)), y4, y5] [.int 0] h' 0 0
        refine r_if1 G (pn := 28) rfl rfl (fun c25 => ?_) (fun c25 => ?_)
        rotate_left
        · exact absurd rfl c25
        obtain ⟨cnt8, k58⟩ := k58
        obtain ⟨f60, k60⟩ := k60
        refine r_ra G (pn := 33) rfl rfl rfl ?_
        refine r_get G (pn := 36) rfl rfl k0 rfl ?_
        refine r_ra G (pn := 37) rfl rfl rfl ?_
        refine r_get G (pn := 40) rfl rfl k0 rfl ?_
        refine r_il G (pn := 41) rfl rfl rfl ?_
        refine r_raldN G (pn := 42) rfl rfl k42 (by omega) (by omega) (krr r (by omega)) ?_
        refine r_ra G (pn := 43) rfl rfl rfl ?_
        refine r_get G (pn := 46) rfl rfl k0 rfl ?_
        refine r_inv3 G (pn := 49) rfl rfl k58 (Nat.le_of_ble_eq_true rfl) (Nat.le_of_ble_eq_true rfl) (Nat.le_of_ble_eq_true rfl) (sp_71 (by omega) (by omega) hx.2.1 hx.2.2 (fun i _ => pxC_lt i) (fun i j _ _ => (pxO_lt i j).1) hrl X' k58 k60 k59 (fun h2 cnt T hf2 hF2 hC2 h720 hm1 hm2 hm3 => ?_))
        have nf : ∀ i, i < 58 ∨ 60 < i → ¬ fiP i := fun i hi z => by have := z.1; have := z.2; omega
        have hf2' : am_fr tkP h h2 := hf'.tr (hf2.wk (fun i hi => by have := hi.1; have := hi.2; unfold tkP; omega))
        have S2 : ClS h2 g rc := by
          obtain ⟨-, -, ⟨jc', k', fw', fj', a61, a62, a63⟩, ⟨f8, a68⟩, -⟩ := id S'
          exact ⟨hf2.at (nf _ (by omega)) k0, kK.fr hf2 (fun i h1 h2 => nf i (by omega)), ⟨jc', k', fw', fj', hf2.at (nf _ (by omega)) a61, hf2.at (nf _ (by omega)) a62, hf2.at (nf _ (by omega)) a63⟩, ⟨f8, hf2.at (nf _ (by omega)) a68⟩, ⟨rr', hf2.at (nf _ (by omega)) k42, krr⟩, fun i hi => (kRl i hi).fr hf2 (fun j h1 h2 => nf j (by omega)), hC2⟩
        show am_Go (am_KA lx e) (am_fetch cd_21) Q 49 [some (.ref 0), some (.int (nI s)), some (.int (otI ot)), some (.int (nI r)), y4, y5] [.int (nI cnt)] h2 0 0
        refine r_is G (pn := 51) rfl rfl (Nat.le_of_ble_eq_true rfl) ?_
        refine r_ic G (pn := 52) rfl rfl  ?_
        refine r_is G (pn := 54) rfl rfl (Nat.le_of_ble_eq_true rfl) ?_
        have lp2 : ∀ (z2 m : Nat) (h' : am_H) (u : Nat) (U : Nat → Nat) (rn : Nat) (R : Nat → Nat → Nat), m + z2 = cnt → am_fr tkP h h' → ClS h' g rc → MxI h' (xN g s ot) (xL g s ot) (xC g s ot) (xB g s ot) → FoI h' (g.P r) cnt T → TbC h' u U → u ≤ 12 → DrI h' 66 rn R → RunZ g A0 (fun i => i + 1) (Zmt g (Zmx g Z s ot r) r s ot T m) u U rn R → am_Go (am_KA lx e) (am_fetch cd_21) Q 54 [some (.ref 0), some (.int (nI s)), some (.int (otI ot)), some (.int (nI r)), some (.int (nI cnt)), some (.int (nI m))] [] h' 0 0 := by
          intro z2
          induction z2 with
          | zero =>
            intro m h' u U rn R hm hf' S' X' F' T' hu D' R'
            obtain rfl : m = cnt := by omega
            refine r_il G (pn := 56) rfl rfl rfl ?_
            refine r_il G (pn := 58) rfl rfl rfl ?_
            refine r_if2 G (pn := 61) rfl rfl (fun c58 => ?_) (fun c58 => ?_)
            rotate_left
            · exact absurd (Int32.le_refl _) c58
            refine r_inc G (pn := 89) rfl rfl rfl (Nat.le_of_ble_eq_true rfl) ?_
            refine r_goto G rfl ?_
            rw [nI_1]
            obtain ⟨f1, f2, f3, -⟩ := id F'
            refine ih (r + 1) h' _ _ u U rn R (by omega) hf' S' X' ⟨_, f1⟩ ⟨f2, f3⟩ T' hu D' (R'.congr (fun r' s' ot' c' y => ?_) (fun r' s' ot' c' y => ?_))
            · rcases y with (y | ⟨y1, y2, y3, y4, y5⟩) | ⟨y1, y2, y3, i, hi, y4⟩
              · exact Or.inl y
              · exact Or.inr ⟨y1, y2, by omega, y4, y5⟩
              · refine Or.inr ⟨y2, y3, by omega, by rw [y1]; exact nid, ?_⟩
                rw [y1]
                exact Mt.congr (hm1 i hi) y4
            · rcases y with y | ⟨y1, y2, y3, y4, y5⟩
              · exact Or.inl (Or.inl y)
              · by_cases y6 : r' = r
                · subst y6
                  obtain ⟨i, hi, ei⟩ := hm3 c' y5
                  exact Or.inr ⟨rfl, y1, y2, i, hi, fun q hq => (ei q hq).symm⟩
                · exact Or.inl (Or.inr ⟨y1, y2, by omega, y4, y5⟩)
          | succ z2 ih2 =>
            intro m h' u U rn R hm hf' S' X' F' T' hu D' R'
            obtain ⟨k0, kK, -, -, ⟨rr', k42, krr⟩, kRl, k59⟩ := id S'
            refine r_il G (pn := 56) rfl rfl rfl ?_
            refine r_il G (pn := 58) rfl rfl rfl ?_
            refine r_if2 G (pn := 61) rfl rfl (fun c58 => ?_) (fun c58 => ?_)
            · exact absurd ((nI_leI (by omega) (by omega)).mp c58) (by omega)
            refine r_ra G (pn := 62) rfl rfl rfl ?_
            refine r_ra G (pn := 63) rfl rfl rfl ?_
            refine r_get G (pn := 66) rfl rfl k0 rfl ?_
            refine r_il G (pn := 67) rfl rfl rfl ?_
            refine r_raldN G (pn := 68) rfl rfl k42 (by omega) (by omega) (krr r (by omega)) ?_
            refine r_il G (pn := 70) rfl rfl rfl ?_
            refine r_il G (pn := 71) rfl rfl rfl ?_
            refine r_il G (pn := 72) rfl rfl rfl ?_
            refine r_inv5 G (pn := 75) rfl rfl k0 (Nat.le_of_ble_eq_true rfl) (Nat.le_of_ble_eq_true rfl) (Nat.le_of_ble_eq_true rfl) (sp_22 (by omega) ok (by omega) hs ht (show m < cnt by omega) h720 S' X' F' hm1 T' hu D' R' (fun h4 u' U' rn' R2 q4 S4 X4 F4 T4 hu4 D4 R4 => ?_) (fun h4 u' U' rn' R2 q4 S4 X4 F4 T4 D4 W4 hfail => ?_))
            · show am_Go (am_KA lx e) (am_fetch cd_21) Q 75 [some (.ref 0), some (.int (nI s)), some (.int (otI ot)), some (.int (nI r)), some (.int (nI cnt)), some (.int (nI m))] [.int 1] h4 0 0
              refine r_if1 G (pn := 78) rfl rfl (fun c75 => ?_) (fun c75 => ?_)
              rotate_left
              · exact absurd (by decide) c75
              refine r_inc G (pn := 83) rfl rfl rfl (Nat.le_of_ble_eq_true rfl) ?_
              refine r_goto G rfl ?_
              rw [nI_1]
              refine ih2 (m + 1) h4 u' U' rn' R2 (by omega) (hf'.tr q4) S4 X4 F4 T4 hu4 D4 (R4.congr (fun r' s' ot' c' y => ?_) (fun r' s' ot' c' y => ?_))
              · rcases y with (y | ⟨y1, y2, y3, i, hi, y4⟩) | ⟨y1, y2, y3, y4⟩
                · exact Or.inl y
                · exact Or.inr ⟨y1, y2, y3, i, by omega, y4⟩
                · exact Or.inr ⟨y1, y2, y3, m, by omega, y4⟩
              · rcases y with y | ⟨y1, y2, y3, i, hi, y4⟩
                · exact Or.inl (Or.inl y)
                · by_cases y6 : i = m
                  · rw [y6] at y4
                    exact Or.inr ⟨y1, y2, y3, y4⟩
                  · exact Or.inl (Or.inr ⟨y1, y2, y3, i, by omega, y4⟩)
            · show am_Go (am_KA lx e) (am_fetch cd_21) Q 75 [some (.ref 0), some (.int (nI s)), some (.int (otI ot)), some (.int (nI r)), some (.int (nI cnt)), some (.int (nI m))] [.int 0] h4 0 0
              refine r_if1 G (pn := 78) rfl rfl (fun c75 => ?_) (fun c75 => ?_)
              · exact absurd rfl c75
              refine r_ic G (pn := 79) rfl rfl  ?_
              obtain ⟨f1, f2, f3, -⟩ := id F4
              refine r_iret G rfl (by decide) (hno h4 u' U' rn' R2 (hf'.tr q4) S4 ⟨⟨_, _, _, _, X4⟩, ⟨_, f1⟩, f2, f3⟩ T4 D4 W4 (hfail.mono (fun r' s' ot' c' y => ?_)))
              have go : ∀ i, i < cnt → (r' = r ∧ s' = s ∧ ot' = ot ∧ ∀ q, q < g.P r → c' q = T i q) → Zmx g Z s ot rc r' s' ot' c' := by
                rintro i hi ⟨y1, y2, y3, y4⟩
                refine Or.inr ⟨y2, y3, by omega, by rw [y1]; exact nid, ?_⟩
                rw [y1]
                exact Mt.congr (hm1 i hi) y4
              rcases y with ((y | ⟨y1, y2, y3, y4, y5⟩) | ⟨y1, y2, y3, i, hi, y4⟩) | y
              · exact Or.inl y
              · exact Or.inr ⟨y1, y2, by omega, y4, y5⟩
              · exact go i (by omega) ⟨y1, y2, y3, y4⟩
              · exact go m (by omega) y
        refine lp2 cnt 0 h2 u U rn R (by omega) hf2' S2 (X'.fr hf2 (fun i hi => nf i (by have := hi.2; omega))) hF2 (T'.fr hf2 ⟨nf _ (by omega), nf _ (by omega)⟩) hu (D'.fr hf2 ⟨nf _ (by omega), nf _ (by omega)⟩) (R'.congr (fun r' s' ot' c' y => Or.inl y) (fun r' s' ot' c' y => ?_))
        rcases y with y | ⟨-, -, -, i, hi, -⟩
        · exact y
        · exact absurd hi (Nat.not_lt_zero _)
      · have idl : Idl g r := fun q hq => (nI_eq (by have := (gB q hq).2; omega) (by have := (gA q hq).2; omega)).mp ((gB q hq).1.symm.trans ((heq q hq).trans (gA q hq).1))
        show am_Go (am_KA lx e) (am_fetch cd_21) Q 25 [some (.ref 0), some (.int (nI s)), some (.int (otI ot)), some (.int (nI r)), y4, y5] [.int 1] h' 0 0
        refine r_if1 G (pn := 28) rfl rfl (fun c25 => ?_) (fun c25 => ?_)
        · exact absurd c25 (by decide)
        refine r_ic G (pn := 29) rfl rfl  ?_
        refine r_goto G rfl ?_
        refine r_is G (pn := 51) rfl rfl (Nat.le_of_ble_eq_true rfl) ?_
        refine r_ic G (pn := 52) rfl rfl  ?_
        refine r_is G (pn := 54) rfl rfl (Nat.le_of_ble_eq_true rfl) ?_
        refine r_il G (pn := 56) rfl rfl rfl ?_
        refine r_il G (pn := 58) rfl rfl rfl ?_
        refine r_if2 G (pn := 61) rfl rfl (fun c58 => ?_) (fun c58 => ?_)
        rotate_left
        · exact absurd (Int32.le_refl _) c58
        refine r_inc G (pn := 89) rfl rfl rfl (Nat.le_of_ble_eq_true rfl) ?_
        refine r_goto G rfl ?_
        rw [nI_1]
        refine ih (r + 1) h' _ _ u U rn R (by omega) hf' S' X' k58 k60 T' hu D' (R'.congr (fun r' s' ot' c' y => ?_) (fun r' s' ot' c' y => ?_))
        · rcases y with y | ⟨y1, y2, y3, y4, y5⟩
          · exact Or.inl y
          · exact Or.inr ⟨y1, y2, by omega, y4, y5⟩
        · rcases y with y | ⟨y1, y2, y3, y4, y5⟩
          · exact Or.inl y
          · by_cases y6 : r' = r
            · rw [y6] at y4
              exact absurd idl y4
            · exact Or.inr ⟨y1, y2, by omega, y4, y5⟩
  have S1 : ClS h1 g rc := ⟨hf1.at (nm _ (by omega)) h0, hK.fr hf1 (fun i h1 h2 => nm i (by omega)), ⟨jc, k9, fw, fj, hf1.at (nm _ (by omega)) h61, hf1.at (nm _ (by omega)) h62, hf1.at (nm _ (by omega)) h63⟩, ⟨f68, hf1.at (nm _ (by omega)) h68⟩, ⟨rr, hf1.at (nm _ (by omega)) h42, hrr⟩, fun i hi => (hRl i hi).fr hf1 (fun j h1 h2 => nm j (by omega)), ⟨f59, hf1.at (nm _ (by omega)) h59⟩⟩
  refine lp rc 0 h1 _ _ u U rn R (by omega) (hf1.wk (fun i hi => by have := hi.1; have := hi.2; unfold tkP; omega)) S1 hX1 ⟨_, hf1.at (nm _ (by omega)) h58⟩ ⟨_, hf1.at (nm _ (by omega)) h60⟩ (hT.fr hf1 ⟨nm _ (by omega), nm _ (by omega)⟩) hu (hD.fr hf1 ⟨nm _ (by omega), nm _ (by omega)⟩) (hR.congr (fun r' s' ot' c' y => Or.inl y) (fun r' s' ot' c' y => ?_))
  rcases y with y | ⟨-, -, y, -⟩
  · exact y
  · exact absurd y (Nat.not_lt_zero _)
end
