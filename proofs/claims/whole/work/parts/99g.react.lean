theorem ev_k3 {g : Wk} {rc r s k : Nat} {ot : Option Nat} {c R : Nat → Nat} (ok : WkOk g rc) (z : ZOk g rc r s ot c) (r1 : ∀ i, i < k → R i < xN g s ot) (r2 : ∀ i j, i < k → j < k → Rch (xN g s ot) (xA g r s ot c) (R i) (R j) → i = j) : k ≤ 3 := by
  have hg := xA_g ok z
  have hs : ∀ i j, i < xN g s ot → j < xN g s ot → xA g r s ot c i j = xA g r s ot c j i := fun i j hi hj => (hg.1 i j hi hj).2
  obtain ⟨z1, z2, z3, z4⟩ := z
  obtain ⟨⟨b0, hb0⟩, hmo⟩ := ev_mols ok z2 z3
  have hP := (ok.2.2.2.2 r z1).1
  have all : ∀ x, x < xN g s ot → ∃ p, p < g.P r ∧ Rch (xN g s ot) (xA g r s ot c) (c p) x := by
    refine px_cnx ok.1.2 hb0 hmo (fun x => ∃ p, p < g.P r ∧ Rch (xN g s ot) (xA g r s ot c) (c p) x) (fun i j hi hj ⟨p, p1, p2⟩ hij => ?_) (fun j hj => (z4.1 j hj).1) z4.2 (fun j hj => ⟨j, hj, Rch.rf⟩)
    by_cases y : ∃ q q', q < g.P r ∧ q' < g.P r ∧ i = c q ∧ j = c q'
    · obtain ⟨q, q', hq, hq', e1, e2⟩ := y
      rw [e2]
      exact ⟨q', hq', Rch.rf⟩
    · refine ⟨p, p1, p2.st hi hj ?_⟩
      show rwO (g.P r) c (g.Af r) (xB g s ot) i j ≠ 0
      rw [rwO_n hP (fun q q' hq hq' y' => y ⟨q, q', hq, hq', y'.1, y'.2⟩)]
      exact hij
  have f : ∀ i, ∃ p, i < k → p < g.P r ∧ Rch (xN g s ot) (xA g r s ot c) (c p) (R i) := by
    intro i
    by_cases hi : i < k
    · obtain ⟨p, p1, p2⟩ := all (R i) (r1 i hi)
      exact ⟨p, fun _ => ⟨p1, p2⟩⟩
    · exact ⟨0, fun y => absurd y hi⟩
  have hk : k ≤ g.P r := inj_le (f := fun i => Classical.choose (f i)) (fun q hq => (Classical.choose_spec (f q) hq).1) (fun p q hp hq e => by
    have e1 := (Classical.choose_spec (f p) hp).2
    have e2 := (Classical.choose_spec (f q) hq).2
    have e : Classical.choose (f p) = Classical.choose (f q) := e
    rw [e] at e1
    exact r2 p q hp hq ((e1.sy hs).tr e2))
  omega
theorem MmI.fr {h h' : am_H} {m m' : Nat → Int32} {n : Nat} {cd mo : Nat → Nat} {od : Nat → Nat → Nat} {P : Nat → Prop} (hI : MmI h m n cd mo od) (hf : am_fr P h h') (hP : ¬ P 96 ∧ ¬ P 97 ∧ ¬ P 98) (hM : h'[81]? = some (mO m')) (hm : m' 24 = m 24) : MmI h' m' n cd mo od := by
  obtain ⟨-, m24, ⟨f6, h96, g6⟩, ⟨f7, h97, g7⟩, ⟨f8, h98, g8⟩⟩ := hI
  exact ⟨hM, hm.trans m24, ⟨f6, hf.at hP.1 h96, g6⟩, ⟨f7, hf.at hP.2.1 h97, g7⟩, ⟨f8, hf.at hP.2.2 h98, g8⟩⟩
/-- a round of the model, in the midst of it -/
def MoS (g : Wk) (rc : Nat) (A0 : Nat → Nat → (Nat → Nat) → Prop) (ZF Z : Zt) (h : am_H) (m : Nat → Int32) : Prop := h[81]? = some (mO m) ∧ MsI h ∧ m 0 = nI g.cap ∧ m 5 = nI rc ∧ (∀ i, i < rc → RmI h i (g.P i) (g.C i) (g.Bf i) (g.Af i)) ∧ (∃ f, h[91]? = some (aL 13 f)) ∧ ∃ B, TbM h m g.n0 B ∧ (∀ i, i < g.n0 → Mol g.cap (g.W i) (B i)) ∧ ((m 18 = 0 ∧ ∃ u U rn R, FrI h m g.n0 u B ∧ (∀ i, i < u → KR (U i) (B i)) ∧ MwI h m rn R ∧ RunZ g A0 (nuM g.n0) Z u U rn R) ∨ (m 18 = 1 ∧ Fail g A0 ZF))
theorem MoS.fr {g : Wk} {rc : Nat} {A0 : Nat → Nat → (Nat → Nat) → Prop} {ZF Z : Zt} {h h' : am_H} {m m' : Nat → Int32} {P : Nat → Prop} (hS : MoS g rc A0 ZF Z h m) (hf : am_fr P h h') (hP : ∀ i, (83 ≤ i ∧ i ≤ 89) ∨ i = 91 → ¬ P i) (hM : h'[81]? = some (mO m')) (hMs : MsI h') (hm : ∀ i, i = 0 ∨ i = 3 ∨ i = 5 ∨ i = 12 ∨ i = 15 ∨ i = 18 → m' i = m i) : MoS g rc A0 ZF Z h' m' := by
  obtain ⟨s1, s2, s3, s4, s5, ⟨f9, s6⟩, B, s7, s8, s9⟩ := hS
  refine ⟨hM, hMs, (hm 0 (by omega)).trans s3, (hm 5 (by omega)).trans s4, fun i hi => (s5 i hi).fr hf (fun j h1 h2 => hP j (by omega)), ⟨f9, hf.at (hP _ (by omega)) s6⟩, B, s7.fr hf (hP _ (by omega)) (hm 3 (by omega)), s8, ?_⟩
  rcases s9 with ⟨t1, u, U, rn, R, t2, t3, t4, t5⟩ | ⟨t1, t2⟩
  · exact Or.inl ⟨(hm 18 (by omega)).trans t1, u, U, rn, R, t2.fr hf (hP _ (by omega)) (hm 15 (by omega)), t3, t4.fr hf (hP _ (by omega)) (hm 12 (by omega)), t5⟩
  · exact Or.inr ⟨(hm 18 (by omega)).trans t1, t2⟩
theorem MoS.congr {g : Wk} {rc : Nat} {A0 : Nat → Nat → (Nat → Nat) → Prop} {ZF Z Z' : Zt} {h : am_H} {m : Nat → Int32} (hS : MoS g rc A0 ZF Z h m) (h1 : ∀ r s ot c, Z r s ot c → Z' r s ot c) (h2 : ∀ r s ot c, Z' r s ot c → Z r s ot c) : MoS g rc A0 ZF Z' h m := by
  obtain ⟨s1, s2, s3, s4, s5, s6, B, s7, s8, s9⟩ := hS
  refine ⟨s1, s2, s3, s4, s5, s6, B, s7, s8, ?_⟩
  rcases s9 with ⟨t1, u, U, rn, R, t2, t3, t4, t5⟩ | t
  · exact Or.inl ⟨t1, u, U, rn, R, t2, t3, t4, t5.congr h1 h2⟩
  · exact Or.inr t
theorem MoS.over {g : Wk} {rc : Nat} {A0 : Nat → Nat → (Nat → Nat) → Prop} {ZF Z : Zt} {h : am_H} {m : Nat → Int32} (Z' : Zt) (hS : MoS g rc A0 ZF Z h m) (h1 : m 18 ≠ 0) : MoS g rc A0 ZF Z' h m := by
  obtain ⟨s1, s2, s3, s4, s5, s6, B, s7, s8, s9⟩ := hS
  refine ⟨s1, s2, s3, s4, s5, s6, B, s7, s8, ?_⟩
  rcases s9 with ⟨t1, -⟩ | t
  · exact absurd t1 h1
  · exact Or.inr t
theorem molB {g : Wk} {rc i b : Nat} (ok : WkOk g rc) (hi : i < g.n0) (h : KR (g.W i) b) : Mol g.cap (g.W i) b := by
  obtain ⟨b', hb'⟩ := ok.2.2.2.1 i hi
  have := (KR_ord (hb'.kr ok.1.2) h).2.mp rfl
  rw [← this]
  exact hb'
def reP (i : Nat) : Prop := i = 81 ∨ (89 ≤ i ∧ i ≤ 104)
def reM (m m' : Nat → Int32) : Prop := ∀ i, i ≠ 12 → i ≠ 15 → i ≠ 18 → i ≠ 24 → i ≠ 31 → i ≠ 34 → m' i = m i
/-- the events of one rule with one mixture -/
def Zre (g : Wk) (Z : Zt) (r s : Nat) (ot : Option Nat) : Zt := fun r' s' ot' c' => Z r' s' ot' c' ∨ (r' = r ∧ s' = s ∧ ot' = ot ∧ EvM g r s ot c')
def Zrk (g : Wk) (Z : Zt) (r s : Nat) (ot : Option Nat) (k : Nat) : Zt := fun r' s' ot' c' => Z r' s' ot' c' ∨ (r' = r ∧ s' = s ∧ ot' = ot ∧ EvM g r s ot c' ∧ cod (g.P r) (xN g s ot) c' < k)
section
variable {lx : am_Lx} {d : Nat} {h : am_H} {Q : am_Q} {m : Nat → Int32}
set_option maxRecDepth 20000 in
theorem sp_63 (hd : 6 ≤ d) {g : Wk} {rc r s : Nat} {ot : Option Nat} {A0 : Nat → Nat → (Nat → Nat) → Prop} {ZF Z : Zt} (ok : WkOk g rc) (hr : r < rc) (hs : s < g.n0) (ht : ∀ t, ot = some t → t < g.n0) (hS : MoS g rc A0 ZF Z h m) (hZF : ∀ r' s' ot' c', Zre g Z r s ot r' s' ot' c' → ZF r' s' ot' c')
    (hq : ∀ h' m', am_fr reP h h' → reM m m' → MoS g rc A0 ZF (Zre g Z r s ot) h' m' → Q none h') : am_KA lx d 63 [.ref 81, .int (nI r), .int (nI s), .int (otI ot)] h Q := by
  obtain ⟨hM, hMs, m0, m5, hRm, h91, B, hTb, hB, -⟩ := id hS
  have hx := xN_le ok hs ht
  have hn12 := ok.2.1
  have hrc := ok.2.2.1
  have hP := (ok.2.2.2.2 r hr).1
  obtain ⟨⟨b0, hb0⟩, hmo⟩ := ev_mols ok hs ht
  obtain ⟨-, -, -, l0, l1, pM⟩ := px_ok ok.1.2 hb0 hmo
  have isS : (ot.map g.W).isSome = ot.isSome := by cases ot <;> rfl
  rw [isS] at l0 l1
  have pw := pw_le hx.2.1
  have pw3 : xN g s ot ^ g.P r ≤ 1000 := by
    rcases hP with z | z
    · rw [z]; exact pw.2.2.1
    · rw [z]; exact pw.2.2.2
  obtain ⟨f6, h96⟩ := hMs 96 (by decide)
  obtain ⟨f7, h97⟩ := hMs 97 (by decide)
  obtain ⟨f8, h98⟩ := hMs 98 (by decide)
  obtain ⟨e, rfl⟩ : ∃ e, d = e + 1 := ⟨d - 1, by omega⟩
  have G : am_GK (am_KA lx e) cd_63 := ⟨am_KA_m lx e, cm_63⟩
  refine am_KA_in (by decide) (Nat.le_of_ble_eq_true rfl) ?_
  show am_Go (am_KA lx e) (am_fetch cd_63) Q 0 [some (.ref 81), some (.int (nI r)), some (.int (nI s)), some (.int (otI ot)), none, none] [] h 0 0
  refine r_ra G (pn := 1) rfl rfl rfl ?_
  refine r_il G (pn := 2) rfl rfl rfl ?_
  refine r_il G (pn := 3) rfl rfl rfl ?_
  refine r_inv3 G (pn := 6) rfl rfl hM (Nat.le_of_ble_eq_true rfl) (Nat.le_of_ble_eq_true rfl) (Nat.le_of_ble_eq_true rfl) (sp_52 (by omega) ok.1.2 hM h96 h97 h98 hTb hn12 hB hs ht (fun h1 x hf1 hI1 => ?_))
  have hI1 : MmI h1 (upd m 24 x) (xN g s ot) (xC g s ot) (pxM (g.W s) (ot.map g.W)) (xB g s ot) := hI1
  have nm : ∀ i, i ≠ 81 → i ≠ 96 → i ≠ 97 → i ≠ 98 → ¬ mmP i := fun i a b c d z => by unfold mmP at z; omega
  have Ms1 : MsI h1 := hMs.fr hf1 (fun i hi hz => by
    obtain ⟨-, -, ⟨g6, y6, -⟩, ⟨g7, y7, -⟩, ⟨g8, y8, -⟩⟩ := id hI1
    rcases hi with hi | hi | hi | hi
    · subst hi; exact absurd rfl hz
    · subst hi; exact ⟨g6, y6⟩
    · subst hi; exact ⟨g7, y7⟩
    · subst hi; exact ⟨g8, y8⟩)
  have S1 : MoS g rc A0 ZF Z h1 (upd m 24 x) := hS.fr hf1 (fun i hi => nm i (by omega) (by omega) (by omega) (by omega)) hI1.1 Ms1 (fun i hi => pk_un (by omega))
  have kM1 := hI1.1
  have k24 := hI1.2.1
  obtain ⟨-, ⟨fp, k84, gp⟩, -⟩ := (hRm r hr).fr hf1 (fun i h1 h2 => nm i (by omega) (by omega) (by omega) (by omega))
  show am_Go (am_KA lx e) (am_fetch cd_63) Q 6 [some (.ref 81), some (.int (nI r)), some (.int (nI s)), some (.int (otI ot)), none, none] [] h1 0 0
  refine r_ra G (pn := 7) rfl rfl rfl ?_
  refine r_il G (pn := 8) rfl rfl rfl ?_
  refine r_inv2 G (pn := 11) rfl rfl kM1 (Nat.le_of_ble_eq_true rfl) (Nat.le_of_ble_eq_true rfl) (Nat.le_of_ble_eq_true rfl) (sp_54 (n := xN g s ot) (P := g.P r) (by omega) kM1 k24 hx.2.1 (by omega) (by omega) k84 gp ?_)
  show am_Go (am_KA lx e) (am_fetch cd_63) Q 11 [some (.ref 81), some (.int (nI r)), some (.int (nI s)), some (.int (otI ot)), none, none] [.int (nI (xN g s ot ^ g.P r))] h1 0 0
  refine r_is G (pn := 13) rfl rfl (Nat.le_of_ble_eq_true rfl) ?_
  refine r_ic G (pn := 14) rfl rfl  ?_
  refine r_is G (pn := 16) rfl rfl (Nat.le_of_ble_eq_true rfl) ?_
  have lp : ∀ (z k : Nat) (h' : am_H) (m' : Nat → Int32), k + z = xN g s ot ^ g.P r → am_fr reP h h' → reM m m' → MmI h' m' (xN g s ot) (xC g s ot) (pxM (g.W s) (ot.map g.W)) (xB g s ot) → MoS g rc A0 ZF (Zrk g Z r s ot k) h' m' → am_Go (am_KA lx e) (am_fetch cd_63) Q 16 [some (.ref 81), some (.int (nI r)), some (.int (nI s)), some (.int (otI ot)), some (.int (nI (xN g s ot ^ g.P r))), some (.int (nI k))] [] h' 0 0 := by
    intro z
    induction z with
    | zero =>
      intro k h' m' hk hf hm hI hS'
      obtain rfl : k = xN g s ot ^ g.P r := by omega
      refine r_il G (pn := 18) rfl rfl rfl ?_
      refine r_il G (pn := 20) rfl rfl rfl ?_
      refine r_if2 G (pn := 23) rfl rfl (fun c20 => ?_) (fun c20 => ?_)
      rotate_left
      · exact absurd (Int32.le_refl _) c20
      refine r_vret G rfl (hq h' m' hf hm (hS'.congr (fun r' s' ot' c' y => ?_) (fun r' s' ot' c' y => ?_)))
      · rcases y with y | ⟨y1, y2, y3, y4, -⟩
        · exact Or.inl y
        · exact Or.inr ⟨y1, y2, y3, y4⟩
      · rcases y with y | ⟨y1, y2, y3, y4⟩
        · exact Or.inl y
        · exact Or.inr ⟨y1, y2, y3, y4, cod_lt hP (fun j hj => (y4.1 j hj).1)⟩
    | succ z ih =>
      intro k h' m' hk hf hm hI hS'
      have kM := hI.1
      refine r_il G (pn := 18) rfl rfl rfl ?_
      refine r_il G (pn := 20) rfl rfl rfl ?_
      refine r_if2 G (pn := 23) rfl rfl (fun c20 => ?_) (fun c20 => ?_)
      · exact absurd ((nI_leI (by omega) (by omega)).mp c20) (by omega)
      refine r_ra G (pn := 24) rfl rfl rfl ?_
      refine r_get G (pn := 27) rfl rfl (by first | assumption | (repeat (first | assumption | exact am_eq (by first | assumption | exact am_eq (by assumption) | exact am_ne (by first | decide | omega) (by assumption)) | refine am_ne (by first | decide | omega) ?_))) rfl ?_
      refine r_if1 G (pn := 30) rfl rfl (fun c27 => ?_) (fun c27 => ?_)
      · exact r_vret G rfl (hq h' m' hf hm (hS'.over _ c27))
      have m18 : m' 18 = 0 := Classical.byContradiction c27
      obtain ⟨-, Ms', n0', n5', Rm', ⟨f91, l91⟩, B', Tb', hB', hrun⟩ := id hS'
      obtain ⟨f101, k101⟩ := Ms' 101 (by decide)
      refine r_ra G (pn := 31) rfl rfl rfl ?_
      refine r_il G (pn := 33) rfl rfl rfl ?_
      refine r_inv2 G (pn := 36) rfl rfl kM (Nat.le_of_ble_eq_true rfl) (Nat.le_of_ble_eq_true rfl) (Nat.le_of_ble_eq_true rfl) (sp_55 (n := xN g s ot) (by omega) kM hI.2.1 hx.1 hx.2.1 (by omega) k101 (fun fc gc => ?_))
      have q2 : am_fr (fun i => i = 101) h' (h'.set 101 (aI 3 fc)) := am_fr.rf.put rfl
      have l101 : (h'.set 101 (aI 3 fc))[101]? = some (aI 3 fc) := am_eq k101
      show am_Go (am_KA lx e) (am_fetch cd_63) Q 36 [some (.ref 81), some (.int (nI r)), some (.int (nI s)), some (.int (otI ot)), some (.int (nI (xN g s ot ^ g.P r))), some (.int (nI k))] [] (h'.set 101 (aI 3 fc)) 0 0
      generalize (h'.set 101 (aI 3 fc) : am_H) = h2 at q2 l101
      have I2 : MmI h2 m' (xN g s ot) (xC g s ot) (pxM (g.W s) (ot.map g.W)) (xB g s ot) := hI.fr q2 ⟨by omega, by omega, by omega⟩ (q2.at (by omega) kM) rfl
      have kM2 := I2.1
      have Ms2 : MsI h2 := Ms'.fr q2 (fun i hi _ => by subst hi; exact ⟨fc, l101⟩)
      have S2 : MoS g rc A0 ZF (Zrk g Z r s ot k) h2 m' := hS'.fr q2 (fun i hi z => by omega) kM2 Ms2 (fun _ _ => rfl)
      have f2 : am_fr reP h h2 := hf.tr (q2.wk (fun i hi => by unfold reP; omega))
      have hkP : k < xN g s ot ^ g.P r := by omega
      have htup : ∀ j, j < g.P r → tup (xN g s ot) k j < xN g s ot := fun j _ => Nat.mod_lt _ (by omega)
      -- the next one
      have next : ∀ (h4 : am_H) (m4 : Nat → Int32), am_fr reP h h4 → reM m m4 → MmI h4 m4 (xN g s ot) (xC g s ot) (pxM (g.W s) (ot.map g.W)) (xB g s ot) → MoS g rc A0 ZF (Zrk g Z r s ot (k + 1)) h4 m4 → am_Go (am_KA lx e) (am_fetch cd_63) Q 81 [some (.ref 81), some (.int (nI r)), some (.int (nI s)), some (.int (otI ot)), some (.int (nI (xN g s ot ^ g.P r))), some (.int (nI k))] [] h4 0 0 := by
        intro h4 m4 hf4 hm4 hI4 hS4
        refine r_inc G (pn := 84) rfl rfl rfl (Nat.le_of_ble_eq_true rfl) ?_
        refine r_goto G rfl ?_
        rw [nI_1]
        exact ih (k + 1) h4 m4 (by omega) hf4 hm4 hI4 hS4
      have g47 : am_Go (am_KA lx e) (am_fetch cd_63) Q 47 [some (.ref 81), some (.int (nI r)), some (.int (nI s)), some (.int (otI ot)), some (.int (nI (xN g s ot ^ g.P r))), some (.int (nI k))] [.int (if ot.isSome then 2 else 1), .int (nI r), .ref 81] h2 0 0 := by
        refine r_inv3 G (pn := 50) rfl rfl kM2 (Nat.le_of_ble_eq_true rfl) (Nat.le_of_ble_eq_true rfl) (Nat.le_of_ble_eq_true rfl) (sp_53 (two := ot.isSome) (lb := xL g s ot) (c := tup (xN g s ot) k) (by omega) I2 hx.2.1 (fun i _ => pxC_lt i) (fun i j _ _ => (pxO_lt i j).1) (S2.2.2.2.2.1 r hr) (by omega) ⟨fc, l101, fun j hj => gc j (by omega)⟩ htup (fun i _ => by rw [pM i, isS]; rfl) l0 l1 (fun hno => ?_) (fun hyes => ?_))
        · show am_Go (am_KA lx e) (am_fetch cd_63) Q 50 [some (.ref 81), some (.int (nI r)), some (.int (nI s)), some (.int (otI ot)), some (.int (nI (xN g s ot ^ g.P r))), some (.int (nI k))] [.int 0] h2 0 0
          refine r_if1 G (pn := 53) rfl rfl (fun c50 => ?_) (fun c50 => ?_)
          rotate_left
          · exact absurd rfl c50
          refine next h2 m' f2 hm I2 (S2.congr (fun r' s' ot' c' y => ?_) (fun r' s' ot' c' y => ?_))
          · rcases y with y | ⟨y1, y2, y3, y4, y5⟩
            · exact Or.inl y
            · exact Or.inr ⟨y1, y2, y3, y4, by omega⟩
          · rcases y with y | ⟨y1, y2, y3, y4, y5⟩
            · exact Or.inl y
            · by_cases w : cod (g.P r) (xN g s ot) c' = k
              · have tc := tup_cod hP (fun j hj => (y4.1 j hj).1)
                rw [w] at tc
                exact absurd (Mt.congr y4 tc) hno
              · exact Or.inr ⟨y1, y2, y3, y4, by omega⟩
        have hEM : EvM g r s ot (tup (xN g s ot) k) := hyes
        have zok : ZOk g rc r s ot (tup (xN g s ot) k) := ⟨hr, hs, ht, hEM⟩
        have hg := xA_g ok zok
        have zadd1 : ∀ r' s' ot' c', Zadd g (Zrk g Z r s ot k) r s ot (tup (xN g s ot) k) r' s' ot' c' → Zrk g Z r s ot (k + 1) r' s' ot' c' := by
          intro r' s' ot' c' y
          rcases y with (y | ⟨y1, y2, y3, y4, y5⟩) | ⟨y1, y2, y3, y4⟩
          · exact Or.inl y
          · exact Or.inr ⟨y1, y2, y3, y4, by omega⟩
          · refine Or.inr ⟨y1, y2, y3, Mt.congr hEM y4, ?_⟩
            rw [cod_congr hP y4, cod_tup hP hx.1 hkP]
            omega
        have zadd2 : ∀ r' s' ot' c', Zrk g Z r s ot (k + 1) r' s' ot' c' → Zadd g (Zrk g Z r s ot k) r s ot (tup (xN g s ot) k) r' s' ot' c' := by
          intro r' s' ot' c' y
          rcases y with y | ⟨y1, y2, y3, y4, y5⟩
          · exact Or.inl (Or.inl y)
          · by_cases w : cod (g.P r) (xN g s ot) c' = k
            · have tc := tup_cod hP (fun j hj => (y4.1 j hj).1)
              rw [w] at tc
              exact Or.inr ⟨y1, y2, y3, fun q hq => (tc q hq).symm⟩
            · exact Or.inl (Or.inr ⟨y1, y2, y3, y4, by omega⟩)
        have zF : ∀ r' s' ot' c', Zrk g Z r s ot (k + 1) r' s' ot' c' → ZF r' s' ot' c' := by
          intro r' s' ot' c' y
          rcases y with y | ⟨y1, y2, y3, y4, -⟩
          · exact hZF _ _ _ _ (Or.inl y)
          · exact hZF _ _ _ _ (Or.inr ⟨y1, y2, y3, y4⟩)
        -- nothing comes of it
        have bad : ∀ (h4 : am_H) (m4 : Nat → Int32), am_fr reP h h4 → reM m m4 → MmI h4 m4 (xN g s ot) (xC g s ot) (pxM (g.W s) (ot.map g.W)) (xB g s ot) → MoS g rc A0 ZF (Zrk g Z r s ot k) h4 m4 → EvB g r s ot (tup (xN g s ot) k) → am_Go (am_KA lx e) (am_fetch cd_63) Q 81 [some (.ref 81), some (.int (nI r)), some (.int (nI s)), some (.int (otI ot)), some (.int (nI (xN g s ot ^ g.P r))), some (.int (nI k))] [] h4 0 0 := by
          intro h4 m4 hf4 hm4 hI4 hS4 hbad
          refine next h4 m4 hf4 hm4 hI4 ?_
          obtain ⟨s1, s2, s3, s4, s5, s6, B4, s7, s8, s9⟩ := hS4
          refine ⟨s1, s2, s3, s4, s5, s6, B4, s7, s8, ?_⟩
          rcases s9 with ⟨t1, u, U, rn, R, t2, t3, t4, t5⟩ | t
          · exact Or.inl ⟨t1, u, U, rn, R, t2, t3, t4, (t5.skip ok zok hbad).congr zadd1 zadd2⟩
          · exact Or.inr t
        show am_Go (am_KA lx e) (am_fetch cd_63) Q 50 [some (.ref 81), some (.int (nI r)), some (.int (nI s)), some (.int (otI ot)), some (.int (nI (xN g s ot ^ g.P r))), some (.int (nI k))] [.int 1] h2 0 0
        refine r_if1 G (pn := 53) rfl rfl (fun c50 => ?_) (fun c50 => ?_)
        · exact absurd c50 (by decide)
        refine r_ra G (pn := 54) rfl rfl rfl ?_
        refine r_il G (pn := 55) rfl rfl rfl ?_
        refine r_inv2 G (pn := 58) rfl rfl kM2 (Nat.le_of_ble_eq_true rfl) (Nat.le_of_ble_eq_true rfl) (Nat.le_of_ble_eq_true rfl) (sp_57 (c := tup (xN g s ot) k) (by omega) I2 hx.2.1 (fun i _ => pxC_lt i) (fun i j _ _ => ⟨(pxO_lt i j).1, (pxO_lt i j).2.1⟩) (fun i _ => (pxO_lt i i).2.2) (S2.2.2.2.2.1 r hr) (by omega) ⟨fc, l101, fun j hj => gc j (by omega)⟩ htup hEM.inj (Ms2 99 (by decide)) (fun h3 hf3 hT3 hbd => ?_) (fun h3 hf3 hT3 hld => ?_))
        · have kM3 := hf3.at (by omega) kM2
          have Ms3 : MsI h3 := Ms2.fr hf3 (fun i hi _ => by subst hi; obtain ⟨f, y, -⟩ := hT3; exact ⟨f, y⟩)
          show am_Go (am_KA lx e) (am_fetch cd_63) Q 58 [some (.ref 81), some (.int (nI r)), some (.int (nI s)), some (.int (otI ot)), some (.int (nI (xN g s ot ^ g.P r))), some (.int (nI k))] [.int 0] h3 0 0
          refine r_if1 G (pn := 61) rfl rfl (fun c58 => ?_) (fun c58 => ?_)
          rotate_left
          · exact absurd rfl c58
          exact bad h3 m' (f2.tr (hf3.wk (fun i hi => by unfold reP; omega))) hm (I2.fr hf3 ⟨by omega, by omega, by omega⟩ kM3 rfl) (S2.fr hf3 (fun i hi z => by omega) kM3 Ms3 (fun _ _ => rfl)) (Or.inl hbd)
        have kM3 := hf3.at (by omega) kM2
        have Ms3 : MsI h3 := Ms2.fr hf3 (fun i hi _ => by subst hi; obtain ⟨f, y, -⟩ := hT3; exact ⟨f, y⟩)
        have f3 : am_fr reP h h3 := f2.tr (hf3.wk (fun i hi => by unfold reP; omega))
        have I3 : MmI h3 m' (xN g s ot) (xC g s ot) (pxM (g.W s) (ot.map g.W)) (xB g s ot) := I2.fr hf3 ⟨by omega, by omega, by omega⟩ kM3 rfl
        have S3 : MoS g rc A0 ZF (Zrk g Z r s ot k) h3 m' := S2.fr hf3 (fun i hi z => by omega) kM3 Ms3 (fun _ _ => rfl)
        obtain ⟨-, -, o0, o5, Rm3, -, B3, Tb3, hB3, hrun3⟩ := id S3
        rcases hrun3 with ⟨-, u, U, rn, R, F3, K3, W3, R3⟩ | ⟨y, -⟩
        rotate_left
        · rw [m18] at y
          exact absurd y (by decide)
        obtain ⟨-, o24, ⟨f6', k96, g6'⟩, -⟩ := id I3
        show am_Go (am_KA lx e) (am_fetch cd_63) Q 58 [some (.ref 81), some (.int (nI r)), some (.int (nI s)), some (.int (otI ot)), some (.int (nI (xN g s ot ^ g.P r))), some (.int (nI k))] [.int 1] h3 0 0
        refine r_if1 G (pn := 61) rfl rfl (fun c58 => ?_) (fun c58 => ?_)
        · exact absurd c58 (by decide)
        refine r_ra G (pn := 62) rfl rfl rfl ?_
        refine r_inv1 G (pn := 65) rfl rfl kM3 (Nat.le_of_ble_eq_true rfl) (Nat.le_of_ble_eq_true rfl) (Nat.le_of_ble_eq_true rfl) (sp_60 (n := xN g s ot) (cd := xC g s ot) (od := xA g r s ot (tup (xN g s ot) k)) (by omega) kM3 Ms3 o0 ok.1 o24 hx.2.1 k96 (fun i hi => ⟨g6' i hi, pxC_lt i⟩) hT3 hg.1 (fun k Rp a b => ev_k3 ok zok a b) Tb3 F3 K3 m18 R3 (fun h4 hf4 kM4 Ms4 hbig Tb4 F4 => ?_) (fun h4 m4 k4 w b u4 U4 B4 hf4 hm4 kM4 Ms4 o34 hPL hk3 hY => ?_))
        · have ny : ∀ i, i ≠ 81 → i ≠ 91 → (i < 100 ∨ i = 101 ∨ 104 < i) → ¬ yP i := fun i a b c z => by unfold yP at z; omega
          show am_Go (am_KA lx e) (am_fetch cd_63) Q 65 [some (.ref 81), some (.int (nI r)), some (.int (nI s)), some (.int (otI ot)), some (.int (nI (xN g s ot ^ g.P r))), some (.int (nI k))] [.int 0] h4 0 0
          refine r_if1 G (pn := 68) rfl rfl (fun c65 => ?_) (fun c65 => ?_)
          rotate_left
          · exact absurd rfl c65
          obtain ⟨-, -, -, f9, y91, -⟩ := id F4
          refine bad h4 m' (f3.tr (hf4.wk (fun i hi => by unfold yP at hi; unfold reP; omega))) hm (I3.fr hf4 ⟨ny _ (by omega) (by omega) (by omega), ny _ (by omega) (by omega) (by omega), ny _ (by omega) (by omega) (by omega)⟩ kM4 rfl) ⟨kM4, Ms4, o0, o5, fun i hi => (Rm3 i hi).fr hf4 (fun j h1 h2 => ny j (by omega) (by omega) (by omega)), ⟨f9, y91⟩, B3, Tb4, hB3, Or.inl ⟨m18, u, U, rn, R, F4, K3, W3.fr hf4 (ny _ (by omega) (by omega) (by omega)) rfl, R3⟩⟩ (Or.inr hbig)
        have ny : ∀ i, i ≠ 81 → i ≠ 91 → (i < 100 ∨ i = 101 ∨ 104 < i) → ¬ yP i := fun i a b c z => by unfold yP at z; omega
        have hG : EvG g r s ot (tup (xN g s ot) k) k4 w b := ⟨hld, hPL⟩
        have hk1 := ev_k ok zok hG
        have f4 : am_fr reP h h4 := f3.tr (hf4.wk (fun i hi => by unfold yP at hi; unfold reP; omega))
        have rm4 : reM m m4 := fun i a b c d e f => (hm4 i b c e f).trans (hm i a b c d e f)
        have I4 : MmI h4 m4 (xN g s ot) (xC g s ot) (pxM (g.W s) (ot.map g.W)) (xB g s ot) := I3.fr hf4 ⟨ny _ (by omega) (by omega) (by omega), ny _ (by omega) (by omega) (by omega), ny _ (by omega) (by omega) (by omega)⟩ kM4 (hm4 24 (by omega) (by omega) (by omega) (by omega))
        obtain ⟨Tb4, F4, K4, hst⟩ := id hY
        have Rm4 : ∀ i, i < rc → RmI h4 i (g.P i) (g.C i) (g.Bf i) (g.Af i) := fun i hi => (Rm3 i hi).fr hf4 (fun j h1 h2 => ny j (by omega) (by omega) (by omega))
        have p0 : m4 0 = nI g.cap := (hm4 0 (by omega) (by omega) (by omega) (by omega)).trans o0
        have p5 : m4 5 = nI rc := (hm4 5 (by omega) (by omega) (by omega) (by omega)).trans o5
        obtain ⟨-, un4, u12, f9, y91, -⟩ := id F4
        have W4 : MwI h4 m4 rn R := W3.fr hf4 (ny _ (by omega) (by omega) (by omega)) (hm4 12 (by omega) (by omega) (by omega) (by omega))
        have zW : ∀ v, (EvW g (Zrk g Z r s ot k) v ∨ ∃ i, i < k4 ∧ w i = v) → EvW g ZF v := by
          intro v hv
          rcases hv with y | ⟨i, hi, y⟩
          · exact y.mono (fun r' s' ot' c' y => zF _ _ _ _ (zadd1 _ _ _ _ (Or.inl y)))
          · exact Or.inr ⟨r, s, ot, tup (xN g s ot) k, k4, w, b, i, zF _ _ _ _ (zadd1 _ _ _ _ (Or.inr ⟨rfl, rfl, rfl, fun _ _ => rfl⟩)), hG, hi, y⟩
        have zA : ∀ a b y, EvA g A0 (Zrk g Z r s ot k) a b y → ∃ y', EvA g A0 ZF a b y' ∧ yq y y' := fun a b y hy => ⟨y, EvA.mono (fun r' s' ot' c' y => zF _ _ _ _ (zadd1 _ _ _ _ (Or.inl y))) hy, yq.rf⟩
        show am_Go (am_KA lx e) (am_fetch cd_63) Q 65 [some (.ref 81), some (.int (nI r)), some (.int (nI s)), some (.int (otI ot)), some (.int (nI (xN g s ot ^ g.P r))), some (.int (nI k))] [.int 1] h4 0 0
        refine r_if1 G (pn := 68) rfl rfl (fun c65 => ?_) (fun c65 => ?_)
        · exact absurd c65 (by decide)
        refine r_ra G (pn := 69) rfl rfl rfl ?_
        refine r_get G (pn := 72) rfl rfl (by first | assumption | (repeat (first | assumption | exact am_eq (by first | assumption | exact am_eq (by assumption) | exact am_ne (by first | decide | omega) (by assumption)) | refine am_ne (by first | decide | omega) ?_))) rfl ?_
        rcases hst with ⟨a1, a2, fpr, a3, a4⟩ | ⟨a1, -, Ws', i, b1, b2, b3, b4, b5⟩
        · rw [a1]
          refine r_if1 G (pn := 75) rfl rfl (fun c72 => ?_) (fun c72 => ?_)
          · exact absurd rfl c72
          have mB4 : ∀ i, i < g.n0 → Mol g.cap (g.W i) (B4 i) := fun i hi => molB ok hi (by rw [← a2.2.1 i hi]; exact K4 i (by omega))
          refine r_ra G (pn := 76) rfl rfl rfl ?_
          refine r_il G (pn := 77) rfl rfl rfl ?_
          refine r_il G (pn := 78) rfl rfl rfl ?_
          refine r_inv3 G (pn := 81) rfl rfl kM4 (Nat.le_of_ble_eq_true rfl) (Nat.le_of_ble_eq_true rfl) (Nat.le_of_ble_eq_true rfl) (sp_62 (by omega) kM4 Ms4 hn12 u12 a2 W4 a1 o34 ⟨hk1.1, hk1.2.2⟩ a3 a4 hs ht (fun h5 m5' rn5 R5 A5 hf5 hm5 kM5 Ms5 W5 R5' hA5 => ?_) (fun h5 t hf5 kM5 Ms5 W5 r40 hSm hden hne => ?_))
          · have nn : ∀ i, i ≠ 81 → i ≠ 89 → i ≠ 90 → ¬ noP i := fun i a b c z => by unfold noP at z; omega
            show am_Go (am_KA lx e) (am_fetch cd_63) Q 81 [some (.ref 81), some (.int (nI r)), some (.int (nI s)), some (.int (otI ot)), some (.int (nI (xN g s ot ^ g.P r))), some (.int (nI k))] [] h5 0 0
            exact next h5 m5' (f4.tr (hf5.wk (fun i hi => by unfold noP at hi; unfold reP; omega))) (fun i a b c d e f => (hm5 i a).trans (rm4 i a b c d e f)) (I4.fr hf5 ⟨nn _ (by omega) (by omega) (by omega), nn _ (by omega) (by omega) (by omega), nn _ (by omega) (by omega) (by omega)⟩ kM5 (hm5 24 (by omega))) ⟨kM5, Ms5, (hm5 0 (by omega)).trans p0, (hm5 5 (by omega)).trans p5, fun i hi => (Rm4 i hi).fr hf5 (fun j h1 h2 => nn j (by omega) (by omega) (by omega)), ⟨f9, hf5.at (nn _ (by omega) (by omega) (by omega)) y91⟩, B4, Tb4.fr hf5 (nn _ (by omega) (by omega) (by omega)) (hm5 3 (by omega)), mB4, Or.inl ⟨(hm5 18 (by omega)).trans a1, u4, U4, rn5, R5, F4.fr hf5 (nn _ (by omega) (by omega) (by omega)) (hm5 15 (by omega)), K4, W5, (RunZ.add ok zok hG R5' hA5).congr zadd1 zadd2⟩⟩
          · have nn : ∀ i, i ≠ 81 → i ≠ 89 → i ≠ 90 → ¬ noP i := fun i a b c z => by unfold noP at z; omega
            show am_Go (am_KA lx e) (am_fetch cd_63) Q 81 [some (.ref 81), some (.int (nI r)), some (.int (nI s)), some (.int (otI ot)), some (.int (nI (xN g s ot ^ g.P r))), some (.int (nI k))] [] h5 0 0
            have hfail : Fail g A0 ZF := ⟨nuM g.n0, u4, U4, rn, R, _, _, nuM_ok hn12, a2, zW, zA, Or.inr ⟨by omega, t, _, _, _, hden, ⟨_, Or.inr ⟨r, s, ot, tup (xN g s ot) k, k4, w, b, zF _ _ _ _ (zadd1 _ _ _ _ (Or.inr ⟨rfl, rfl, rfl, fun _ _ => rfl⟩)), hG, hSm, rfl, rfl, rfl⟩, yq.rf⟩, hne⟩⟩
            exact next h5 (upd m4 18 1) (f4.tr (hf5.wk (fun i hi => by unfold noP at hi; unfold reP; omega))) (fun i a b c d e f => (pk_un c).trans (rm4 i a b c d e f)) (I4.fr hf5 ⟨nn _ (by omega) (by omega) (by omega), nn _ (by omega) (by omega) (by omega), nn _ (by omega) (by omega) (by omega)⟩ kM5 (pk_un (by omega))) ⟨kM5, Ms5, (pk_un (by omega)).trans p0, (pk_un (by omega)).trans p5, fun i hi => (Rm4 i hi).fr hf5 (fun j h1 h2 => nn j (by omega) (by omega) (by omega)), ⟨f9, hf5.at (nn _ (by omega) (by omega) (by omega)) y91⟩, B4, Tb4.fr hf5 (nn _ (by omega) (by omega) (by omega)) (pk_un (by omega)), mB4, Or.inr ⟨pk_us, hfail⟩⟩
        · rw [a1]
          refine r_if1 G (pn := 75) rfl rfl (fun c72 => ?_) (fun c72 => ?_)
          rotate_left
          · exact absurd (by decide) c72
          have mB4 : ∀ i, i < g.n0 → Mol g.cap (g.W i) (B4 i) := fun i hi => molB ok hi (by rw [← b1.2.1 i hi]; exact K4 i (by omega))
          have hfail : Fail g A0 ZF := ⟨nuM g.n0, 12, U4, rn, R, _, _, nuM_ok hn12, b1, fun v hv => zW v (b3 v hv), zA, Or.inl ⟨Nat.le_refl _, w i, zW _ (Or.inr ⟨i, b4, rfl⟩), b5⟩⟩
          exact next h4 m4 f4 rm4 I4 ⟨kM4, Ms4, p0, p5, Rm4, ⟨f9, y91⟩, B4, Tb4, mB4, Or.inr ⟨a1, hfail⟩⟩
      refine r_ra G (pn := 37) rfl rfl rfl ?_
      refine r_il G (pn := 38) rfl rfl rfl ?_
      refine r_il G (pn := 39) rfl rfl rfl ?_
      refine r_if1 G (pn := 42) rfl rfl (fun c39 => ?_) (fun c39 => ?_)
      · refine r_ic G (pn := 47) rfl rfl  ?_
        cases ot with
        | none => exact absurd c39 (by decide)
        | some t => exact g47
      · refine r_ic G (pn := 43) rfl rfl  ?_
        refine r_goto G rfl ?_
        cases ot with
        | none => exact g47
        | some t =>
          have := ht t rfl
          exact absurd ((nI_leI (a := 0) (by omega) (by omega)).mpr (Nat.zero_le t)) c39
  refine lp (xN g s ot ^ g.P r) 0 h1 (upd m 24 x) (Nat.zero_add _) (hf1.wk (fun i hi => by unfold mmP at hi; unfold reP; omega)) (fun i a b c d e f => pk_un d) hI1 (S1.congr (fun r' s' ot' c' y => Or.inl y) (fun r' s' ot' c' y => ?_))
  rcases y with y | ⟨-, -, -, -, y⟩
  · exact y
  · exact absurd y (Nat.not_lt_zero _)
end
