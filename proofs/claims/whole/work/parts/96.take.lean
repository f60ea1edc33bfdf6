/-- the class's rows, beside the table, the mixture, the matches and the lists -/
def ClS (h : am_H) (g : Wk) (rc : Nat) : Prop := h[0]? = some (sO (nI g.cap) (nI rc)) ∧ KsI h ∧ (∃ jc k fw fj, h[61]? = some (pO jc k) ∧ h[62]? = some (aL 3 fw) ∧ h[63]? = some (aI 10 fj)) ∧ (∃ f, h[68]? = some (aI 5 f)) ∧ (∃ rr, h[42]? = some (.inl (.object "SpeciesRounds$Rule", 3, .inr (.inr (.inr (.inr rr))))) ∧ ∀ i, i < 3 → rr i = some (69 + 4 * i)) ∧ (∀ i, i < rc → RlI h (69 + 4 * i) (g.P i) (g.C i) (g.Bf i) (g.Af i)) ∧ ∃ f, h[59]? = some (aI 3 f)
def tkP (i : Nat) : Prop := (35 ≤ i ∧ i ≤ 40) ∨ (43 ≤ i ∧ i ≤ 63) ∨ (66 ≤ i ∧ i ≤ 68)
theorem TbC.fr {h h' : am_H} {n : Nat} {W : Nat → Nat} {P : Nat → Prop} (hI : TbC h n W) (hf : am_fr P h h') (hP : ¬ P 39 ∧ ¬ P 40) : TbC h' n W := by
  obtain ⟨h1, f, h2, h3⟩ := hI
  exact ⟨hf.at hP.1 h1, f, hf.at hP.2 h2, h3⟩
theorem DrI.fr {h h' : am_H} {g n : Nat} {R : Nat → Nat → Nat} {P : Nat → Prop} (hI : DrI h g n R) (hf : am_fr P h h') (hP : ¬ P g ∧ ¬ P (g + 1)) : DrI h' g n R := by
  obtain ⟨h1, h2, f, h3, h4⟩ := hI
  exact ⟨hf.at hP.1 h1, h2, f, hf.at hP.2 h3, h4⟩
theorem FoI.fr {h h' : am_H} {p n : Nat} {T : Nat → Nat → Nat} {P : Nat → Prop} (hI : FoI h p n T) (hf : am_fr P h h') (hP : ¬ P 58 ∧ ¬ P 60) : FoI h' p n T := by
  obtain ⟨h1, f, h2, h3⟩ := hI
  exact ⟨hf.at hP.1 h1, f, hf.at hP.2 h2, h3⟩
section
variable {lx : am_Lx} {d : Nat} {h : am_H} {Q : am_Q}
theorem sp_22 (hd : 9 ≤ d) {g : Wk} {rc r m s cnt u rn : Nat} {ot : Option Nat} {T : Nat → Nat → Nat} {U : Nat → Nat} {A0 : Nat → Nat → (Nat → Nat) → Prop} {Z : Zt} {R : Nat → Nat → Nat} (ok : WkOk g rc) (hr : r < rc) (hs : s < g.n0) (ht : ∀ t, ot = some t → t < g.n0) (hm : m < cnt) (hc : cnt ≤ 720) (hS : ClS h g rc) (hX : MxI h (xN g s ot) (xL g s ot) (xC g s ot) (xB g s ot)) (hF : FoI h (g.P r) cnt T) (hM : ∀ i, i < cnt → EvM g r s ot (T i)) (hT : TbC h u U) (hu : u ≤ 12) (hD : DrI h 66 rn R) (hR : RunZ g A0 (fun i => i + 1) Z u U rn R)
    (hyes : ∀ h' u' U' rn' R', am_fr tkP h h' → ClS h' g rc → MxI h' (xN g s ot) (xL g s ot) (xC g s ot) (xB g s ot) → FoI h' (g.P r) cnt T → TbC h' u' U' → u' ≤ 12 → DrI h' 66 rn' R' → RunZ g A0 (fun i => i + 1) (Zadd g Z r s ot (T m)) u' U' rn' R' → Q (some (.int 1)) h')
    (hno : ∀ h' u' U' rn' R', am_fr tkP h h' → ClS h' g rc → MxI h' (xN g s ot) (xL g s ot) (xC g s ot) (xB g s ot) → FoI h' (g.P r) cnt T → TbC h' u' U' → DrI h' 66 rn' R' → Run g.n0 g.W (fun i => i + 1) (fun v => ∃ i, i < u' ∧ U' i = v) (fun _ _ _ => False) u' U' 0 R' → Fail g A0 (Zadd g Z r s ot (T m)) → Q (some (.int 0)) h') : am_KA lx d 22 [.ref 0, .ref (69 + 4 * r), .int (nI m), .int (nI s), .int (otI ot)] h Q := by
  obtain ⟨h0, hK, ⟨jc, k9, fw, fj, h61, h62, h63⟩, ⟨f68, h68⟩, ⟨rr, h42, hrr⟩, hRl, ⟨f59, h59⟩⟩ := id hS
  have z : ZOk g rc r s ot (T m) := ⟨hr, hs, ht, hM m hm⟩
  have hx := xN_le ok hs ht
  have hg := xA_g ok z
  have hrc := ok.2.2.1
  obtain ⟨hP, hBf, hAf⟩ := ok.2.2.2.2 r hr
  have hEM : EvM g r s ot (T m) := hM m hm
  have hcl : ∀ j, j < g.P r → T m j < xN g s ot := fun j hj => (hEM.1 j hj).1
  have hci := hEM.inj
  have back : ∀ i j, rwO (g.P r) (T m) (g.Bf r) (xA g r s ot (T m)) i j = xB g s ot i j := rwO_back hP (fun i j => (pxO_lt i j).2.1) (fun i j hij hj => ((hEM.1 j hj).2.2 i hij).2)
  obtain ⟨e, rfl⟩ : ∃ e, d = e + 1 := ⟨d - 1, by omega⟩
  have G : am_GK (am_KA lx e) cd_22 := ⟨am_KA_m lx e, cm_22⟩
  refine am_KA_in (by decide) (Nat.le_of_ble_eq_true rfl) ?_
  show am_Go (am_KA lx e) (am_fetch cd_22) Q 0 [some (.ref 0), some (.ref (69 + 4 * r)), some (.int (nI m)), some (.int (nI s)), some (.int (otI ot)), none] [] h 0 0
  refine r_ra G (pn := 1) rfl rfl rfl ?_
  refine r_get G (pn := 4) rfl rfl (by first | assumption | (repeat (first | assumption | exact am_eq (by first | assumption | exact am_eq (by assumption) | exact am_ne (by first | decide | omega) (by assumption)) | refine am_ne (by first | decide | omega) ?_))) rfl ?_
  refine r_il G (pn := 5) rfl rfl rfl ?_
  refine r_inv2 G (pn := 8) rfl rfl hF.1 (Nat.le_of_ble_eq_true rfl) (Nat.le_of_ble_eq_true rfl) (Nat.le_of_ble_eq_true rfl) (sp_72 (by omega) hF (by omega) hm hc ⟨f59, h59⟩ (fun f gf => ?_))
  have q1 : am_fr (fun i => i = 59) h (h.set 59 (aI 3 f)) := am_fr.rf.put rfl
  have c1 : ChI (h.set 59 (aI 3 f)) (g.P r) (T m) := ⟨f, am_eq h59, gf⟩
  show am_Go (am_KA lx e) (am_fetch cd_22) Q 8 [some (.ref 0), some (.ref (69 + 4 * r)), some (.int (nI m)), some (.int (nI s)), some (.int (otI ot)), none] [] (h.set 59 (aI 3 f)) 0 0
  generalize (h.set 59 (aI 3 f) : am_H) = h1 at q1 c1
  have X1 : MxI h1 (xN g s ot) (xL g s ot) (xC g s ot) (xB g s ot) := hX.fr q1 (fun i hi z => by have := hi.2; omega)
  have F1 : FoI h1 (g.P r) cnt T := hF.fr q1 ⟨by omega, by omega⟩
  have k0 : h1[0]? = some (sO (nI g.cap) (nI rc)) := q1.at (by omega) h0
  obtain ⟨r1, -, -, ⟨fB, rB, gB⟩, ⟨fA, rA, gA⟩⟩ := (hRl r hr).fr q1 (fun i h1 h2 => by omega)
  have F58 := F1.1
  refine r_ra G (pn := 9) rfl rfl rfl ?_
  refine r_get G (pn := 12) rfl rfl k0 rfl ?_
  refine r_ra G (pn := 13) rfl rfl rfl ?_
  refine r_get G (pn := 16) rfl rfl k0 rfl ?_
  refine r_get G (pn := 19) rfl rfl F58 rfl ?_
  refine r_ra G (pn := 20) rfl rfl rfl ?_
  refine r_get G (pn := 23) rfl rfl r1 rfl ?_
  refine r_ra G (pn := 24) rfl rfl rfl ?_
  refine r_get G (pn := 27) rfl rfl r1 rfl ?_
  refine r_inv4 G (pn := 30) rfl rfl X1.1 (Nat.le_of_ble_eq_true rfl) (Nat.le_of_ble_eq_true rfl) (Nat.le_of_ble_eq_true rfl) (sp_94 (by omega) hP X1 (by omega) c1 hcl hci rA (by omega) (fun q hq => (gA q hq).1) (fun h2 hf2 X2 => ?_))
  have nm : ∀ i, i < 43 ∨ 57 < i → ¬ mxP i := fun i hi z => by have := z.1; have := z.2; omega
  have q2 : am_fr (fun i => i = 59 ∨ mxP i) h h2 := (q1.wk (fun i hi => Or.inl hi)).tr (hf2.wk (fun i hi => Or.inr hi))
  have n2 : ∀ i, i < 43 ∨ (57 < i ∧ i ≠ 59) → ¬ (i = 59 ∨ mxP i) := fun i hi z => by rcases z with z | z; omega; have := z.1; have := z.2; omega
  have l0 : h2[0]? = some (sO (nI g.cap) (nI rc)) := q2.at (n2 _ (by omega)) h0
  have l58 := hf2.at (nm 58 (by omega)) F58
  have l61 := q2.at (n2 61 (by omega)) h61
  have C2 : ChI h2 (g.P r) (T m) := by
    obtain ⟨f, b1, b2⟩ := c1
    exact ⟨f, hf2.at (nm 59 (by omega)) b1, b2⟩
  have s1 := hf2.at (nm _ (by omega)) r1
  have X20 := X2.1
  show am_Go (am_KA lx e) (am_fetch cd_22) Q 30 [some (.ref 0), some (.ref (69 + 4 * r)), some (.int (nI m)), some (.int (nI s)), some (.int (otI ot)), none] [] h2 0 0
  refine r_ra G (pn := 31) rfl rfl rfl ?_
  refine r_get G (pn := 34) rfl rfl l0 rfl ?_
  refine r_ra G (pn := 35) rfl rfl rfl ?_
  refine r_get G (pn := 38) rfl rfl l0 rfl ?_
  refine r_get G (pn := 41) rfl rfl X20 rfl ?_
  refine r_ra G (pn := 42) rfl rfl rfl ?_
  refine r_get G (pn := 45) rfl rfl l0 rfl ?_
  refine r_get G (pn := 48) rfl rfl l58 rfl ?_
  refine r_ra G (pn := 49) rfl rfl rfl ?_
  refine r_get G (pn := 52) rfl rfl s1 rfl ?_
  refine r_ra G (pn := 53) rfl rfl rfl ?_
  refine r_get G (pn := 56) rfl rfl l0 rfl ?_
  refine r_ra G (pn := 57) rfl rfl rfl ?_
  refine r_get G (pn := 60) rfl rfl l0 rfl ?_
  have K2 : KsI h2 := hK.fr q2 (fun i h1 h2 => n2 i (by omega))
  have sB := hf2.at (nm _ (by omega)) rB
  have fin : ∀ (y : Int32) (h3 : am_H) (jc k : Nat) (fw : Nat → Int64) (fj : Nat → Int32), am_fr spP h2 h3 → KsI h3 → h3[61]? = some (pO jc k) → h3[62]? = some (aL 3 fw) → h3[63]? = some (aI 10 fj) → (∀ h4, am_fr tkP h h4 → am_fr (fun i => i = 59 ∨ mxP i ∨ spP i) h h4 → h4[61]? = some (pO jc k) → h4[62]? = some (aL 3 fw) → ClS h4 g rc → MxI h4 (xN g s ot) (xL g s ot) (xC g s ot) (xB g s ot) → FoI h4 (g.P r) cnt T → am_Go (am_KA lx e) (am_fetch cd_22) Q 87 [some (.ref 0), some (.ref (69 + 4 * r)), some (.int (nI m)), some (.int (nI s)), some (.int (otI ot)), some (.int y)] [] h4 0 0) → am_Go (am_KA lx e) (am_fetch cd_22) Q 63 [some (.ref 0), some (.ref (69 + 4 * r)), some (.int (nI m)), some (.int (nI s)), some (.int (otI ot)), none] [.int y] h3 0 0 := by
    intro y h3 jc k fw fj hf3 K3 o61 o62 o63 hk
    have ns : ∀ i, i < 36 ∨ (38 < i ∧ i < 61) ∨ 63 < i → ¬ spP i := fun i hi z => by rcases z with z | z <;> (have := z.1; have := z.2; omega)
    have q3 : am_fr (fun i => (i = 59 ∨ mxP i) ∨ spP i) h h3 := (q2.wk (fun i hi => Or.inl hi)).tr (hf3.wk (fun i hi => Or.inr hi))
    have X3 : MxI h3 (xN g s ot) (xL g s ot) (xC g s ot) (xA g r s ot (T m)) := X2.fr hf3 (fun i hi => ns i (by have := hi.1; have := hi.2; omega))
    have C3 : ChI h3 (g.P r) (T m) := by
      obtain ⟨f, b1, b2⟩ := C2
      exact ⟨f, hf3.at (ns 59 (by omega)) b1, b2⟩
    have o0 : h3[0]? = some (sO (nI g.cap) (nI rc)) := hf3.at (ns _ (by omega)) l0
    have o58 := hf3.at (ns 58 (by omega)) l58
    have t1 := hf3.at (ns _ (by omega)) s1
    have tB := hf3.at (ns _ (by omega)) sB
    refine r_is G (pn := 65) rfl rfl (Nat.le_of_ble_eq_true rfl) ?_
    refine r_ra G (pn := 66) rfl rfl rfl ?_
    refine r_get G (pn := 69) rfl rfl o0 rfl ?_
    refine r_ra G (pn := 70) rfl rfl rfl ?_
    refine r_get G (pn := 73) rfl rfl o0 rfl ?_
    refine r_get G (pn := 76) rfl rfl o58 rfl ?_
    refine r_ra G (pn := 77) rfl rfl rfl ?_
    refine r_get G (pn := 80) rfl rfl t1 rfl ?_
    refine r_ra G (pn := 81) rfl rfl rfl ?_
    refine r_get G (pn := 84) rfl rfl t1 rfl ?_
    refine r_inv4 G (pn := 87) rfl rfl X3.1 (Nat.le_of_ble_eq_true rfl) (Nat.le_of_ble_eq_true rfl) (Nat.le_of_ble_eq_true rfl) (sp_94 (by omega) hP X3 (by omega) C3 hcl hci tB (by omega) (fun q hq => (gB q hq).1) (fun h4 hf4 X4 => ?_))
    have q4 : am_fr (fun i => i = 59 ∨ mxP i ∨ spP i) h h4 := (q3.wk (fun i hi => by rcases hi with (a | b) | c; exact Or.inl a; exact Or.inr (Or.inl b); exact Or.inr (Or.inr c))).tr (hf4.wk (fun i hi => Or.inr (Or.inl hi)))
    have n4 : ∀ i, i < 36 ∨ (38 < i ∧ i < 43) ∨ i = 58 ∨ i = 60 ∨ 63 < i → ¬ (i = 59 ∨ mxP i ∨ spP i) := fun i hi z => by rcases z with z | z | z | z <;> first | omega | (have := z.1; have := z.2; omega)
    have X5 : MxI h4 (xN g s ot) (xL g s ot) (xC g s ot) (xB g s ot) := ⟨X4.1, X4.2.od (fun _ _ => rfl) (fun i j _ _ => (back i j).symm)⟩
    obtain ⟨f5, C5, -⟩ := C3
    have p61 := hf4.at (nm 61 (by omega)) o61
    have p62 := hf4.at (nm 62 (by omega)) o62
    have p63 := hf4.at (nm 63 (by omega)) o63
    refine hk h4 (q4.wk (fun i hi => ?_)) q4 p61 p62 ⟨q4.at (n4 _ (by omega)) h0, K3.fr hf4 (fun i h1 h2 => nm i (by omega)), ⟨jc, k, fw, fj, p61, p62, p63⟩, ⟨f68, q4.at (n4 _ (by omega)) h68⟩, ⟨rr, q4.at (n4 _ (by omega)) h42, hrr⟩, fun i hi => (hRl i hi).fr q4 (fun j h1 h2 => n4 j (by omega)), ⟨f5, hf4.at (nm 59 (by omega)) C5⟩⟩ X5 (hF.fr q4 ⟨n4 _ (by omega), n4 _ (by omega)⟩)
    unfold tkP
    rcases hi with z | z | z | z
    · omega
    · have := z.1; have := z.2; omega
    · have := z.1; have := z.2; omega
    · have := z.1; have := z.2; omega
  have n5 : ∀ i, i < 36 ∨ (38 < i ∧ i < 43) ∨ i = 58 ∨ i = 60 ∨ 63 < i → ¬ (i = 59 ∨ mxP i ∨ spP i) := fun i hi z => by rcases z with z | z | z | z <;> first | omega | (have := z.1; have := z.2; omega)
  refine r_inv6 G (pn := 63) rfl rfl l61 (Nat.le_of_ble_eq_true rfl) (Nat.le_of_ble_eq_true rfl) (Nat.le_of_ble_eq_true rfl) (sp_96 (by omega) hP X2 (by omega) (fun i _ => pxC_lt i) hg.1 C2 hcl ok.1 K2 l61 (q2.at (n2 62 (by omega)) h62) (q2.at (n2 63 (by omega)) h63) (fun h3 jc k fw fj hbad hf3 K3 o61 o62 o63 => ?_) (fun h3 jc k w b fw fj hlo hL hk1 hk2 hf3 K3 o61 o62 hw o63 => ?_))
  · -- nothing comes of it
    have hB : EvB g r s ot (T m) := by
      rcases hbad with ⟨p, hp, y⟩ | y
      · exact Or.inl ⟨T m p, hcl p hp, y⟩
      · exact Or.inr y
    refine fin 0 h3 jc k fw fj hf3 K3 o61 o62 o63 (fun h4 q4 q5 _ _ S4 X4 F4 => ?_)
    refine r_il G (pn := 89) rfl rfl rfl ?_
    refine r_if1 G (pn := 92) rfl rfl (fun c89 => ?_) (fun c89 => ?_)
    rotate_left
    · exact absurd rfl c89
    refine r_ic G (pn := 103) rfl rfl  ?_
    refine r_goto G rfl ?_
    refine r_iret G rfl (by decide) (hyes h4 u U rn R q4 S4 X4 F4 (hT.fr q5 ⟨n5 _ (by omega), n5 _ (by omega)⟩) hu (hD.fr q5 ⟨n5 _ (by omega), n5 _ (by omega)⟩) (hR.skip ok z hB))
  · obtain ⟨⟨b0, hb0⟩, hmo⟩ := ev_mols ok hs ht
    have hG : EvG g r s ot (T m) k w b := good_of ok.1.2 hb0 hmo hP hEM hlo hL
    refine fin 1 h3 jc k fw fj hf3 K3 o61 o62 o63 (fun h4 q4 q5 p61 p62 S4 X4 F4 => ?_)
    have T4 := hT.fr q5 ⟨n5 _ (by omega), n5 _ (by omega)⟩
    have D4 := hD.fr q5 ⟨n5 _ (by omega), n5 _ (by omega)⟩
    obtain ⟨m0, mK, -, ⟨f8, m68⟩, ⟨rr', m42, mrr⟩, mRl, m59⟩ := id S4
    refine r_il G (pn := 89) rfl rfl rfl ?_
    refine r_if1 G (pn := 92) rfl rfl (fun c89 => ?_) (fun c89 => ?_)
    · exact absurd c89 (by decide)
    refine r_ra G (pn := 93) rfl rfl rfl ?_
    refine r_il G (pn := 94) rfl rfl rfl ?_
    refine r_il G (pn := 96) rfl rfl rfl ?_
    have np : ∀ i, i < 39 ∨ (40 < i ∧ i < 66) ∨ 68 < i → ¬ prP i := fun i hi z => by unfold prP at z; omega
    have cl : ∀ h5, am_fr prP h4 h5 → (∃ f, h5[68]? = some (aI 5 f)) → am_fr tkP h h5 ∧ ClS h5 g rc ∧ MxI h5 (xN g s ot) (xL g s ot) (xC g s ot) (xB g s ot) ∧ FoI h5 (g.P r) cnt T := by
      intro h5 hf5 h68'
      obtain ⟨-, -, ⟨jc', k', fw', fj', a61, a62, a63⟩, -⟩ := id S4
      obtain ⟨f9, a59⟩ := m59
      refine ⟨q4.tr (hf5.wk (fun i hi => by unfold prP at hi; unfold tkP; omega)), ⟨hf5.at (np _ (by omega)) m0, mK.fr hf5 (fun i h1 h2 => np i (by omega)), ⟨jc', k', fw', fj', hf5.at (np _ (by omega)) a61, hf5.at (np _ (by omega)) a62, hf5.at (np _ (by omega)) a63⟩, h68', ⟨rr', hf5.at (np _ (by omega)) m42, mrr⟩, fun i hi => (mRl i hi).fr hf5 (fun j h1 h2 => np j (by omega)), ⟨f9, hf5.at (np _ (by omega)) a59⟩⟩, X4.fr hf5 (fun i hi => np i (by have := hi.1; have := hi.2; omega)), F4.fr hf5 ⟨np _ (by omega), np _ (by omega)⟩⟩
    have zW : ∀ v, (EvW g Z v ∨ ∃ i, i < k ∧ w i = v) → EvW g (Zadd g Z r s ot (T m)) v := by
      intro v hv
      rcases hv with y | ⟨i, hi, y⟩
      · exact y.mono (fun _ _ _ _ y => Or.inl y)
      · exact Or.inr ⟨r, s, ot, T m, k, w, b, i, Or.inr ⟨rfl, rfl, rfl, fun _ _ => rfl⟩, hG, hi, y⟩
    have runW : ∀ {Ws : Nat → Prop} {A : Nat → Nat → (Nat → Nat) → Prop} {u' : Nat} {U' : Nat → Nat} {rn' : Nat} {R' : Nat → Nat → Nat}, Run g.n0 g.W (fun i => i + 1) Ws A u' U' rn' R' → Run g.n0 g.W (fun i => i + 1) (fun v => ∃ i, i < u' ∧ U' i = v) (fun _ _ _ => False) u' U' 0 R' := fun hh => ⟨hh.1, hh.2.1, hh.2.2.1, fun i hi => ⟨i, hi, rfl⟩, fun w hw => hw, fun i j _ hj => absurd hj (Nat.not_lt_zero _), fun i hi => absurd hi (Nat.not_lt_zero _), fun _ _ _ hA => hA.elim⟩
    refine r_inv3 G (pn := 99) rfl rfl m0 (Nat.le_of_ble_eq_true rfl) (Nat.le_of_ble_eq_true rfl) (Nat.le_of_ble_eq_true rfl) (sp_23 (by omega) m0 T4 hu hR D4 p61 p62 hw (by omega) m68 hs ht (fun h5 u' U' rn' R' A' hR5 hA5 hu5 hf5 hT5 hD5 h68' => ?_) (fun h5 U' Ws' i hR5 hW5 hi hne hf5 hT5 hD5 h68' => ?_) (fun h5 u' U' t hR5 hu5 hrn hsm hden hne hf5 hT5 hD5 h68' => ?_))
    · obtain ⟨y1, y2, y3, y4⟩ := cl h5 hf5 h68'
      show am_Go (am_KA lx e) (am_fetch cd_22) Q 99 [some (.ref 0), some (.ref (69 + 4 * r)), some (.int (nI m)), some (.int (nI s)), some (.int (otI ot)), some (.int 1)] [.int 1] h5 0 0
      refine r_if1 G (pn := 102) rfl rfl (fun c99 => ?_) (fun c99 => ?_)
      · exact absurd c99 (by decide)
      refine r_ic G (pn := 103) rfl rfl  ?_
      refine r_goto G rfl ?_
      refine r_iret G rfl (by decide) (hyes h5 u' U' rn' R' y1 y2 y3 y4 hT5 hu5 hD5 (RunZ.add ok z hG hR5 hA5))
    · obtain ⟨y1, y2, y3, y4⟩ := cl h5 hf5 h68'
      show am_Go (am_KA lx e) (am_fetch cd_22) Q 99 [some (.ref 0), some (.ref (69 + 4 * r)), some (.int (nI m)), some (.int (nI s)), some (.int (otI ot)), some (.int 1)] [.int 0] h5 0 0
      refine r_if1 G (pn := 102) rfl rfl (fun c99 => ?_) (fun c99 => ?_)
      rotate_left
      · exact absurd rfl c99
      refine r_ic G (pn := 107) rfl rfl  ?_
      refine r_iret G rfl (by decide) (hno h5 12 U' rn R y1 y2 y3 y4 hT5 hD5 (runW hR5) ⟨_, 12, U', rn, R, _, _, nu_s, hR5, fun v hv => zW v (hW5 v hv), fun a b y hy => ⟨y, EvA.mono (fun _ _ _ _ y => Or.inl y) hy, yq.rf⟩, Or.inl ⟨Nat.le_refl _, w i, zW _ (Or.inr ⟨i, hi, rfl⟩), hne⟩⟩)
    · obtain ⟨y1, y2, y3, y4⟩ := cl h5 hf5 h68'
      show am_Go (am_KA lx e) (am_fetch cd_22) Q 99 [some (.ref 0), some (.ref (69 + 4 * r)), some (.int (nI m)), some (.int (nI s)), some (.int (otI ot)), some (.int 1)] [.int 0] h5 0 0
      refine r_if1 G (pn := 102) rfl rfl (fun c99 => ?_) (fun c99 => ?_)
      rotate_left
      · exact absurd rfl c99
      refine r_ic G (pn := 107) rfl rfl  ?_
      refine r_iret G rfl (by decide) (hno h5 u' U' rn R y1 y2 y3 y4 hT5 hD5 (runW hR5) ⟨_, u', U', rn, R, _, _, nu_s, hR5, zW, fun a b y hy => ⟨y, EvA.mono (fun _ _ _ _ y => Or.inl y) hy, yq.rf⟩, Or.inr ⟨by omega, t, _, _, _, hden, ⟨_, Or.inr ⟨r, s, ot, T m, k, w, b, Or.inr ⟨rfl, rfl, rfl, fun _ _ => rfl⟩, hG, hsm, rfl, rfl, rfl⟩, yq.rf⟩, hne⟩⟩)
end
