theorem rk_eq {n0 u : Nat} {U B : Nat → Nat} (hK : ∀ i, i < u → KR (U i) (B i)) : ∀ q, q < u → rk n0 u U q = rk n0 u B q := by
  intro q hq
  unfold rk
  by_cases z : q < n0
  · rw [if_pos z, if_pos z]
  · rw [if_neg z, if_neg z]
    congr 1
    have gen : ∀ k, k ≤ u - n0 → cn (fun x => decide (x < U q)) U n0 k = cn (fun x => decide (x < B q)) B n0 k := by
      intro k
      induction k with
      | zero => intro _; rfl
      | succ k ih =>
        intro hk
        show cn _ U n0 k + (if decide (U (n0 + k) < U q) = true then 1 else 0) = cn _ B n0 k + (if decide (B (n0 + k) < B q) = true then 1 else 0)
        rw [ih (by omega)]
        congr 1
        have e := (KR_ord (hK (n0 + k) (by omega)) (hK q hq)).1
        by_cases y : U (n0 + k) < U q
        · rw [if_pos (decide_eq_true y), if_pos (decide_eq_true (e.mp y))]
        · rw [if_neg (fun w => y (of_decide_eq_true w)), if_neg (fun w => y (e.mpr (of_decide_eq_true w)))]
    exact gen _ (Nat.le_refl _)
theorem Run_digM {n0 u rn : Nat} {W U : Nat → Nat} {Ws : Nat → Prop} {A : Nat → Nat → (Nat → Nat) → Prop} {R : Nat → Nat → Nat} (hn : n0 ≤ 12) (h : Run n0 W (nuM n0) Ws A u U rn R) (hA : ∀ a b y, A a b y → a ≤ n0 ∧ b ≤ n0) : ∀ i, i < rn → ∀ k, k < 5 → R i k ≤ 12 ∨ R i k < 13 + (u - n0) := by
  obtain ⟨r1, r2, r3, r4, r5, r6, r7, r8⟩ := h
  intro i hi
  obtain ⟨a, b, y, g1, g2⟩ := r7 i hi
  obtain ⟨d1, d2, d3, d4, d5, d6⟩ := g2
  obtain ⟨l1, l2⟩ := hA a b y g1
  have mem : ∀ k, k < 3 → R i (2 + k) ≤ 12 ∨ R i (2 + k) < 13 + (u - n0) := by
    intro k hk
    have h1 : 1 ≤ cn (fun x => decide (x = R i (2 + k))) (R i) 2 3 := cn_pos (P := fun x => decide (x = R i (2 + k))) (f := R i) (a := 2) (i := k) (decide_eq_true rfl) hk
    rw [d6] at h1
    obtain ⟨j, hj, e⟩ := cn_ex h1
    have e : num (nuM n0) u U (y (0 + j)) = R i (2 + k) := of_decide_eq_true e
    rw [← e]
    rcases d5 (0 + j) (by omega) with z | ⟨q, q1, q2⟩
    · rw [z, num_0]; omega
    · rw [q2, num_s r3 q1]
      unfold nuM
      split <;> omega
  intro k hk
  rcases (show k = 0 ∨ k = 1 ∨ ∃ q, q < 3 ∧ k = 2 + q from by
    by_cases z0 : k = 0
    · exact Or.inl z0
    · by_cases z1 : k = 1
      · exact Or.inr (Or.inl z1)
      · exact Or.inr (Or.inr ⟨k - 2, by omega, by omega⟩)) with z | z | ⟨q, q1, z⟩
  · rw [z, d1]; omega
  · rw [z, d2]; omega
  · rw [z]; exact mem q q1
/-- pairs that the model works through -/
def okp (n0 s : Nat) (ot : Option Nat) : Prop := ∀ t, ot = some t → s ≤ t ∧ t < n0
def ZMf (g : Wk) (rc : Nat) : Zt := fun r' s' ot' c' => r' < rc ∧ s' < g.n0 ∧ okp g.n0 s' ot' ∧ EvM g r' s' ot' c'
def Zmo (g : Wk) (r s : Nat) (X : Option Nat → Prop) : Zt := fun r' s' ot' c' => EvM g r' s' ot' c' ∧ ((r' < r ∧ s' < g.n0 ∧ okp g.n0 s' ot') ∨ (r' = r ∧ s' < s ∧ okp g.n0 s' ot') ∨ (r' = r ∧ s' = s ∧ X ot'))
def Xt (s tt : Nat) (ot : Option Nat) : Prop := ot = none ∨ ∃ t, ot = some t ∧ s ≤ t ∧ t < tt
theorem ZMf_ok {g : Wk} {rc : Nat} : ∀ r' s' ot' c', ZMf g rc r' s' ot' c' → ZOk g rc r' s' ot' c' := fun _ _ _ _ ⟨z1, z2, z3, z4⟩ => ⟨z1, z2, fun t et => (z3 t et).2, z4⟩
def rmP (i : Nat) : Prop := i = 81 ∨ i = 83 ∨ (88 ≤ i ∧ i ≤ 104)
def rmM (m m' : Nat → Int32) : Prop := ∀ i, i ≠ 3 → i ≠ 10 → i ≠ 12 → i ≠ 15 → i ≠ 18 → i ≠ 24 → i ≠ 31 → i ≠ 34 → m' i = m i
section
variable {lx : am_Lx} {d : Nat} {h : am_H} {Q : am_Q} {m : Nat → Int32}
set_option maxRecDepth 20000 in
theorem sp_67 (hd : 7 ≤ d) {g : Wk} {rc ln : Nat} {L : Nat → Nat → Nat} {B : Nat → Nat} {f91 : Nat → Int64} (ok : WkOk g rc) (inj : ∀ i j, i < g.n0 → j < g.n0 → g.W i = g.W j → i = j) (hM : h[81]? = some (mO m)) (hMs : MsI h) (m0 : m 0 = nI g.cap) (m5 : m 5 = nI rc) (hRm : ∀ i, i < rc → RmI h i (g.P i) (g.C i) (g.Bf i) (g.Af i)) (h91 : h[91]? = some (aL 13 f91)) (hTb : TbM h m g.n0 B) (hB : ∀ i, i < g.n0 → Mol g.cap (g.W i) (B i)) (hL : MlI h m ln L) (hs : Sor ln L) (hok : ∀ i, i < ln → RowOk g.n0 (L i))
    (hyes : ∀ h' m' u U B' rn R, am_fr rmP h h' → rmM m m' → h'[81]? = some (mO m') → MsI h' → TbM h' m' u B' → (∀ i, i < u → KR (U i) (B' i)) → u ≤ 12 → MlI h' m' rn R → Sor rn R → (∀ i j, g.n0 ≤ i → i < j → j < u → U i < U j) → RunZ g (A0of g.W ln L) (fun i => i + 1) (ZMf g rc) u U rn R → (∃ f, h'[91]? = some (aL 13 f)) → Q (some (.int (nI (u - g.n0)))) h')
    (hno : ∀ h' m', am_fr rmP h h' → rmM m m' → h'[81]? = some (mO m') → MsI h' → TbM h' m' g.n0 B → MlI h' m' ln L → Fail g (A0of g.W ln L) (ZMf g rc) → (∃ f, h'[91]? = some (aL 13 f)) → Q (some (.int (-1))) h') : am_KA lx d 67 [.ref 81] h Q := by
  have hn12 := ok.2.1
  have hrc := ok.2.2.1
  obtain ⟨m10, ln40, fl, h88, gl⟩ := id hL
  have nr : ∀ i, i ≠ 81 → (i < 89 ∨ 104 < i) → ¬ reP i := fun i a b z => by unfold reP at z; omega
  -- the end
  have fin : ∀ (h' : am_H) (m' : Nat → Int32) (y1 y2 y3 : Option Value), am_fr reP h h' → reM m m' → MoS g rc (A0of g.W ln L) (ZMf g rc) (ZMf g rc) h' m' → ∀ e, 6 ≤ e → am_GK (am_KA lx e) cd_67 → am_Go (am_KA lx e) (am_fetch cd_67) Q 110 [some (.ref 81), y1, y2, y3] [] h' 0 0 := by
    intro h' m' y1 y2 y3 hf hm hS e he G
    obtain ⟨kM, Ms', n0', n5', Rm', k91, B', Tb', hB', hrun⟩ := hS
    refine r_ra G (pn := 111) rfl rfl rfl ?_
    refine r_get G (pn := 114) rfl rfl (by first | assumption | (repeat (first | assumption | exact am_eq (by first | assumption | exact am_eq (by assumption) | exact am_ne (by first | decide | omega) (by assumption)) | refine am_ne (by first | decide | omega) ?_))) rfl ?_
    rcases hrun with ⟨n18, u, U, rn, R, F', K', W', R'⟩ | ⟨n18, hfail⟩
    rotate_left
    · rw [n18]
      refine r_if1 G (pn := 117) rfl rfl (fun c114 => ?_) (fun c114 => ?_)
      · exact absurd c114 (by decide)
      refine r_ic G (pn := 118) rfl rfl  ?_
      refine r_iret G rfl rfl (hno h' m' (hf.wk (fun i hi => by unfold reP at hi; unfold rmP; omega)) (fun i a b c d e f g' k => hm i c d e f g' k) kM Ms' (hTb.fr hf (nr _ (by omega) (by omega)) (hm 3 (by omega) (by omega) (by omega) (by omega) (by omega) (by omega))) (hL.fr hf (nr _ (by omega) (by omega)) (hm 10 (by omega) (by omega) (by omega) (by omega) (by omega) (by omega))) hfail k91)
    rw [n18]
    refine r_if1 G (pn := 117) rfl rfl (fun c114 => ?_) (fun c114 => ?_)
    rotate_left
    · exact absurd rfl c114
    obtain ⟨o15, un, u12, -⟩ := id F'
    obtain ⟨-, -, Uinj, -, -, Rne, Rden, -⟩ := id R'
    have hAle : ∀ a b y, EvA g (A0of g.W ln L) (ZMf g rc) a b y → a ≤ g.n0 ∧ b ≤ g.n0 := fun a b y hy => EvA_le hok ZMf_ok hy
    have Binj : ∀ i j, i < u → j < u → B' i = B' j → i = j := fun i j hi hj e => Uinj i j hi hj ((KR_ord (K' i hi) (K' j hj)).2.mpr e)
    obtain ⟨B2, hSB⟩ := rk_ok un Binj
    obtain ⟨U2, hSU⟩ := rk_ok un Uinj
    have hSU' : Srw g.n0 u U U2 (rk g.n0 u B') := by
      obtain ⟨a1, a2, a3, a4⟩ := hSU
      refine ⟨fun i hi => ⟨(a1 i hi).1, (hSB.1 i hi).2⟩, a2, fun q hq => ?_, fun i hi => ?_⟩
      · rw [← rk_eq K' q hq]; exact a3 q hq
      · exact hSB.2.2.2 i hi
    have K2 : ∀ i, i < u → KR (U2 i) (B2 i) := by
      intro i hi
      obtain ⟨q, q1, q2⟩ := hSB.2.2.2 i hi
      have e1 := (hSB.2.2.1 q q1).2
      have e2 := (hSU'.2.2.1 q q1).2
      rw [q2] at e1 e2
      rw [e1, e2]
      exact K' q q1
    have hdig := Run_digM hn12 R' hAle
    have mu12 : ∀ x, (x ≤ 12 ∨ x < 13 + (u - g.n0)) → muM g.n0 u B' x ≤ 12 := by
      intro x hx
      unfold muM
      split
      · assumption
      · have := rk_lt (n0 := g.n0) (u := u) (U := B') (q := g.n0 + (x - 13)) (by omega)
        omega
    have mu0 : ∀ x, x ≤ 12 → muM g.n0 u B' x = x := fun x hx => if_pos hx
    have mu1 : ∀ j, j < u → muM g.n0 u B' (nuM g.n0 j) = rk g.n0 u B' j + 1 := by
      intro j hj
      by_cases z : j < g.n0
      · have e1 : nuM g.n0 j = j + 1 := if_pos z
        rw [e1, mu0 _ (by omega), (hSB.1 j z).2]
      · have e1 : nuM g.n0 j = j - g.n0 + 13 := if_neg z
        rw [e1]
        unfold muM
        rw [if_neg (by omega), show g.n0 + (j - g.n0 + 13 - 13) = j by omega]
    have hAmu : ∀ a b y, EvA g (A0of g.W ln L) (ZMf g rc) a b y → muM g.n0 u B' a = a ∧ muM g.n0 u B' b = b := fun a b y hy => ⟨mu0 _ (by have := (hAle a b y hy).1; omega), mu0 _ (by have := (hAle a b y hy).2; omega)⟩
    have k88 := hf.at (nr 88 (by omega) (by omega)) h88
    refine r_ra G (pn := 120) rfl rfl rfl ?_
    refine r_inv1 G (pn := 123) rfl rfl kM (Nat.le_of_ble_eq_true rfl) (Nat.le_of_ble_eq_true rfl) (Nat.le_of_ble_eq_true rfl) (sp_64 (B2 := B2) (by omega) kM Ms' Tb' F' (fun i hi => (K' i hi).lt.2) Binj hSB W' hdig (fun h2 m2 hf2 hm2 kM2 Ms2 T2 W2 => ?_))
    have ns : ∀ i, i ≠ 81 → i ≠ 83 → i ≠ 89 → i ≠ 92 → ¬ seP i := fun i a b c d z => by unfold seP at z; omega
    show am_Go (am_KA lx e) (am_fetch cd_67) Q 123 [some (.ref 81), y1, y2, y3] [] h2 0 0
    refine r_ra G (pn := 124) rfl rfl rfl ?_
    refine r_inv1 G (pn := 127) rfl rfl kM2 (Nat.le_of_ble_eq_true rfl) (Nat.le_of_ble_eq_true rfl) (Nat.le_of_ble_eq_true rfl) (sp_66 (by omega) kM2 Ms2 W2 (fun i hi k hk => by have := mu12 _ (hdig i hi k hk); show muM g.n0 u B' (R i k) < 16; omega) (hf2.at (ns 88 (by omega) (by omega) (by omega) (by omega)) k88) (fun i j hij hj t t' ht ht' e5 => ?_) (fun h3 m3 L3 hf3 hm3 kM3 Ms3 Ml3 s3 c1 c2 => ?_))
    · obtain ⟨a, b, y, g1, g2⟩ := Rden i (by omega)
      obtain ⟨a', b', y', g1', g2'⟩ := Rden j hj
      have inj2 := hSU'.inj Uinj
      obtain ⟨ma, mb⟩ := hAmu a b y g1
      obtain ⟨ma', mb'⟩ := hAmu a' b' y' g1'
      have d1 := den_map (nu' := fun i => i + 1) (mu := muM g.n0 u B') Uinj inj2 hSU'.2.2.1 (mu0 0 (by omega)) mu1 ma mb g2 ht
      have d2 := den_map (nu' := fun i => i + 1) (mu := muM g.n0 u B') Uinj inj2 hSU'.2.2.1 (mu0 0 (by omega)) mu1 ma' mb' g2' ht'
      have := (den_uniq (n0 := g.n0) nu_s inj2 d1 d2).mp e5
      exact Rne i j hij hj ((den_uniq (nuM_ok hn12) Uinj g2 g2').mpr this)
    have nS : ∀ i, i ≠ 81 → i ≠ 88 → i ≠ 89 → i ≠ 90 → ¬ srP i := fun i a b c d z => by unfold srP at z; omega
    have p15 : m3 15 = nI (u - g.n0) := (hm3 15 (by omega)).trans ((hm2 15 (by omega)).trans o15)
    show am_Go (am_KA lx e) (am_fetch cd_67) Q 127 [some (.ref 81), y1, y2, y3] [] h3 0 0
    refine r_ra G (pn := 128) rfl rfl rfl ?_
    refine r_get G (pn := 131) rfl rfl (by first | assumption | (repeat (first | assumption | exact am_eq (by first | assumption | exact am_eq (by assumption) | exact am_ne (by first | decide | omega) (by assumption)) | refine am_ne (by first | decide | omega) ?_))) rfl ?_
    rw [p15]
    have hrun := Run.of (nu' := fun i => i + 1) (mu := muM g.n0 u B') R' hAmu hSU' (mu0 0 (by omega)) mu1 s3.ne c1 c2
    obtain ⟨f9, y91⟩ := k91
    refine r_iret G rfl rfl (hyes h3 m3 u U2 B2 rn L3 (((hf.wk (fun i hi => by unfold reP at hi; unfold rmP; omega)).tr (hf2.wk (fun i hi => by unfold seP at hi; unfold rmP; omega))).tr (hf3.wk (fun i hi => by unfold srP at hi; unfold rmP; omega))) (fun i a b c d e f g' k => (hm3 i b).trans ((hm2 i a).trans (hm i c d e f g' k))) kM3 Ms3 (T2.fr hf3 (nS _ (by omega) (by omega) (by omega) (by omega)) (hm3 3 (by omega))) K2 u12 Ml3 s3 hSU'.2.1 hrun ⟨f9, hf3.at (nS _ (by omega) (by omega) (by omega) (by omega)) (hf2.at (ns _ (by omega) (by omega) (by omega) (by omega)) y91)⟩)
  obtain ⟨e, rfl⟩ : ∃ e, d = e + 1 := ⟨d - 1, by omega⟩
  have G : am_GK (am_KA lx e) cd_67 := ⟨am_KA_m lx e, cm_67⟩
  refine am_KA_in (by decide) (Nat.le_of_ble_eq_true rfl) ?_
  show am_Go (am_KA lx e) (am_fetch cd_67) Q 0 [some (.ref 81), none, none, none] [] h 0 0
  refine r_ra G (pn := 1) rfl rfl rfl ?_
  refine r_ic G (pn := 2) rfl rfl  ?_
  refine r_puti G (pn := 5) rfl rfl hM (Nat.le_of_ble_eq_true rfl) ?_
  refine r_ra G (pn := 6) rfl rfl rfl ?_
  refine r_ic G (pn := 7) rfl rfl  ?_
  refine r_putz G (pn := 10) rfl rfl (am_eq hM) (Nat.le_of_ble_eq_true rfl) (Or.inl rfl) ?_
  refine r_ra G (pn := 11) rfl rfl rfl ?_
  refine r_ra G (pn := 12) rfl rfl rfl ?_
  refine r_get G (pn := 15) rfl rfl (am_eq (am_eq hM)) rfl ?_
  refine r_puti G (pn := 18) rfl rfl (am_eq (am_eq hM)) (Nat.le_of_ble_eq_true rfl) ?_
  -- its fields
  have q1 : am_fr (fun i => i = 81) h (((h.set 81 (mO (upd m 15 0))).set 81 (mO (upd (upd m 15 0) 18 0))).set 81 (mO (upd (upd (upd m 15 0) 18 0) 12 (m 10)))) := (((am_fr.rf : am_fr (fun i => i = 81) h h).put rfl).put rfl).put rfl
  have kM1 : (((h.set 81 (mO (upd m 15 0))).set 81 (mO (upd (upd m 15 0) 18 0))).set 81 (mO (upd (upd (upd m 15 0) 18 0) 12 (m 10))))[81]? = some (mO (upd (upd (upd m 15 0) 18 0) 12 (m 10))) := am_eq (am_eq (am_eq hM))
  show am_Go (am_KA lx e) (am_fetch cd_67) Q 18 [some (.ref 81), none, none, none] [] (((h.set 81 (mO (upd m 15 0))).set 81 (mO (upd (upd m 15 0) 18 0))).set 81 (mO (upd (upd (upd m 15 0) 18 0) 12 (m 10)))) 0 0
  generalize (((h.set 81 (mO (upd m 15 0))).set 81 (mO (upd (upd m 15 0) 18 0))).set 81 (mO (upd (upd (upd m 15 0) 18 0) 12 (m 10))) : am_H) = h1 at q1 kM1
  have hm1 : reM m (upd (upd (upd m 15 0) 18 0) 12 (m 10)) := fun i a b c d e f => by rw [pk_un a, pk_un c, pk_un b]
  have p10 : upd (upd (upd m 15 0) 18 0) 12 (m 10) 10 = nI ln := (hm1 10 (by omega) (by omega) (by omega) (by omega) (by omega) (by omega)).trans m10
  have p12 : upd (upd (upd m 15 0) 18 0) 12 (m 10) 12 = nI ln := pk_us.trans m10
  have p15 : upd (upd (upd m 15 0) 18 0) 12 (m 10) 15 = 0 := by rw [pk_un (by omega), pk_un (by omega), pk_us]
  have p18 : upd (upd (upd m 15 0) 18 0) 12 (m 10) 18 = 0 := by rw [pk_un (by omega), pk_us]
  generalize upd (upd (upd m 15 0) 18 0) 12 (m 10) = m1 at kM1 hm1 p10 p12 p15 p18
  obtain ⟨f89, h89⟩ := hMs 89 (by decide)
  have h89 : h[89]? = some (aI 205 f89) := h89
  -- the loops
  have lpR : ∀ (z r : Nat) (h' : am_H) (m' : Nat → Int32) (y2 y3 : Option Value), r + z = rc → am_fr reP h h' → reM m m' → MoS g rc (A0of g.W ln L) (ZMf g rc) (Zmo g r 0 (fun _ => False)) h' m' → am_Go (am_KA lx e) (am_fetch cd_67) Q 50 [some (.ref 81), some (.int (nI r)), y2, y3] [] h' 0 0 := by
    intro z
    induction z with
    | zero =>
      intro r h' m' y2 y3 hr hf hm hS
      obtain rfl : r = rc := by omega
      have kM := hS.1
      have n5 := hS.2.2.2.1
      refine r_il G (pn := 51) rfl rfl rfl ?_
      refine r_ra G (pn := 52) rfl rfl rfl ?_
      refine r_get G (pn := 55) rfl rfl (by first | assumption | (repeat (first | assumption | exact am_eq (by first | assumption | exact am_eq (by assumption) | exact am_ne (by first | decide | omega) (by assumption)) | refine am_ne (by first | decide | omega) ?_))) rfl ?_
      rw [n5]
      refine r_if2 G (pn := 58) rfl rfl (fun c55 => ?_) (fun c55 => ?_)
      rotate_left
      · exact absurd (Int32.le_refl _) c55
      refine fin h' m' _ _ _ hf hm (hS.congr (fun r' s' ot' c' y => ?_) (fun r' s' ot' c' y => ?_)) e (by omega) G
      · obtain ⟨y1, y2 | ⟨-, y2, -⟩ | ⟨-, -, y2⟩⟩ := y
        · exact ⟨y2.1, y2.2.1, y2.2.2, y1⟩
        · exact absurd y2 (Nat.not_lt_zero _)
        · exact y2.elim
      · obtain ⟨y1, y2, y3, y4⟩ := y
        exact ⟨y4, Or.inl ⟨y1, y2, y3⟩⟩
    | succ z ih =>
      intro r h' m' y2 y3 hr hf hm hS
      have kM := hS.1
      have n5 := hS.2.2.2.1
      refine r_il G (pn := 51) rfl rfl rfl ?_
      refine r_ra G (pn := 52) rfl rfl rfl ?_
      refine r_get G (pn := 55) rfl rfl (by first | assumption | (repeat (first | assumption | exact am_eq (by first | assumption | exact am_eq (by assumption) | exact am_ne (by first | decide | omega) (by assumption)) | refine am_ne (by first | decide | omega) ?_))) rfl ?_
      rw [n5]
      refine r_if2 G (pn := 58) rfl rfl (fun c55 => ?_) (fun c55 => ?_)
      · exact absurd ((nI_leI (by omega) (by omega)).mp c55) (by omega)
      refine r_ic G (pn := 59) rfl rfl  ?_
      refine r_is G (pn := 60) rfl rfl (Nat.le_of_ble_eq_true rfl) ?_
      have lpS : ∀ (z2 s : Nat) (h' : am_H) (m' : Nat → Int32) (y3 : Option Value), s + z2 = g.n0 → am_fr reP h h' → reM m m' → MoS g rc (A0of g.W ln L) (ZMf g rc) (Zmo g r s (fun _ => False)) h' m' → am_Go (am_KA lx e) (am_fetch cd_67) Q 60 [some (.ref 81), some (.int (nI r)), some (.int (nI s)), y3] [] h' 0 0 := by
        intro z2
        induction z2 with
        | zero =>
          intro s h' m' y3 hs0 hf hm hS
          obtain rfl : s = g.n0 := by omega
          have kM := hS.1
          obtain ⟨B9, Tb9, -⟩ := hS.2.2.2.2.2.2
          have n3 := Tb9.1
          refine r_il G (pn := 61) rfl rfl rfl ?_
          refine r_ra G (pn := 62) rfl rfl rfl ?_
          refine r_get G (pn := 65) rfl rfl (by first | assumption | (repeat (first | assumption | exact am_eq (by first | assumption | exact am_eq (by assumption) | exact am_ne (by first | decide | omega) (by assumption)) | refine am_ne (by first | decide | omega) ?_))) rfl ?_
          rw [n3]
          refine r_if2 G (pn := 68) rfl rfl (fun c65 => ?_) (fun c65 => ?_)
          rotate_left
          · exact absurd (Int32.le_refl _) c65
          refine r_inc G (pn := 107) rfl rfl rfl (Nat.le_of_ble_eq_true rfl) ?_
          refine r_goto G rfl ?_
          rw [nI_1]
          refine ih (r + 1) h' m' _ _ (by omega) hf hm (hS.congr (fun r' s' ot' c' y => ?_) (fun r' s' ot' c' y => ?_))
          · obtain ⟨y1, y2 | y2 | ⟨-, -, y2⟩⟩ := y
            · exact ⟨y1, Or.inl ⟨by omega, y2.2⟩⟩
            · exact ⟨y1, Or.inl ⟨by omega, y2.2⟩⟩
            · exact y2.elim
          · obtain ⟨y1, y2 | ⟨-, y2, -⟩ | ⟨-, -, y2⟩⟩ := y
            · by_cases w : r' = r
              · exact ⟨y1, Or.inr (Or.inl ⟨w, y2.2⟩)⟩
              · exact ⟨y1, Or.inl ⟨by omega, y2.2⟩⟩
            · exact absurd y2 (Nat.not_lt_zero _)
            · exact y2.elim
        | succ z2 ih2 =>
          intro s h' m' y3 hs0 hf hm hS
          have kM := hS.1
          obtain ⟨B9, Tb9, -⟩ := hS.2.2.2.2.2.2
          have n3 := Tb9.1
          refine r_il G (pn := 61) rfl rfl rfl ?_
          refine r_ra G (pn := 62) rfl rfl rfl ?_
          refine r_get G (pn := 65) rfl rfl (by first | assumption | (repeat (first | assumption | exact am_eq (by first | assumption | exact am_eq (by assumption) | exact am_ne (by first | decide | omega) (by assumption)) | refine am_ne (by first | decide | omega) ?_))) rfl ?_
          rw [n3]
          refine r_if2 G (pn := 68) rfl rfl (fun c65 => ?_) (fun c65 => ?_)
          · exact absurd ((nI_leI (by omega) (by omega)).mp c65) (by omega)
          have sub : ∀ (X : Option Nat → Prop), (∀ ot', X ot' → okp g.n0 s ot') → ∀ r' s' ot' c', Zmo g r s X r' s' ot' c' → ZMf g rc r' s' ot' c' := by
            intro X hX r' s' ot' c' y
            obtain ⟨y1, y2 | y2 | ⟨y2, y3, y4⟩⟩ := y
            · exact ⟨by omega, y2.2.1, y2.2.2, y1⟩
            · exact ⟨by omega, by omega, y2.2.2, y1⟩
            · exact ⟨by omega, by omega, by rw [y3]; exact hX ot' y4, y1⟩
          refine r_ra G (pn := 69) rfl rfl rfl ?_
          refine r_il G (pn := 70) rfl rfl rfl ?_
          refine r_il G (pn := 71) rfl rfl rfl ?_
          refine r_ic G (pn := 72) rfl rfl  ?_
          refine r_inv4 G (pn := 75) rfl rfl kM (Nat.le_of_ble_eq_true rfl) (Nat.le_of_ble_eq_true rfl) (Nat.le_of_ble_eq_true rfl) (sp_63 (ot := none) (by omega) ok (show r < rc by omega) (show s < g.n0 by omega) (fun t et => by cases et) hS (fun r' s' ot' c' y => ?_) (fun h2 m2 hf2 hm2 S2 => ?_))
          · rcases y with y | ⟨y1, y2, y3, y4⟩
            · exact sub _ (fun _ w => w.elim) _ _ _ _ y
            · refine ⟨by omega, by omega, fun t et => ?_, by rw [y1, y2, y3]; exact y4⟩
              rw [y3] at et
              cases et
          show am_Go (am_KA lx e) (am_fetch cd_67) Q 75 [some (.ref 81), some (.int (nI r)), some (.int (nI s)), y3] [] h2 0 0
          refine r_il G (pn := 76) rfl rfl rfl ?_
          refine r_is G (pn := 77) rfl rfl (Nat.le_of_ble_eq_true rfl) ?_
          have lpT : ∀ (z3 t : Nat) (h' : am_H) (m' : Nat → Int32), t + z3 = g.n0 → s ≤ t → am_fr reP h h' → reM m m' → MoS g rc (A0of g.W ln L) (ZMf g rc) (Zmo g r s (Xt s t)) h' m' → am_Go (am_KA lx e) (am_fetch cd_67) Q 77 [some (.ref 81), some (.int (nI r)), some (.int (nI s)), some (.int (nI t))] [] h' 0 0 := by
            intro z3
            induction z3 with
            | zero =>
              intro t h' m' ht0 hst hf hm hS
              obtain rfl : t = g.n0 := by omega
              have kM := hS.1
              obtain ⟨B9, Tb9, -⟩ := hS.2.2.2.2.2.2
              have n3 := Tb9.1
              refine r_il G (pn := 78) rfl rfl rfl ?_
              refine r_ra G (pn := 79) rfl rfl rfl ?_
              refine r_get G (pn := 82) rfl rfl (by first | assumption | (repeat (first | assumption | exact am_eq (by first | assumption | exact am_eq (by assumption) | exact am_ne (by first | decide | omega) (by assumption)) | refine am_ne (by first | decide | omega) ?_))) rfl ?_
              rw [n3]
              refine r_if2 G (pn := 85) rfl rfl (fun c82 => ?_) (fun c82 => ?_)
              rotate_left
              · exact absurd (Int32.le_refl _) c82
              refine r_inc G (pn := 101) rfl rfl rfl (Nat.le_of_ble_eq_true rfl) ?_
              refine r_goto G rfl ?_
              rw [nI_1]
              refine ih2 (s + 1) h' m' _ (by omega) hf hm (hS.congr (fun r' s' ot' c' y => ?_) (fun r' s' ot' c' y => ?_))
              · obtain ⟨y1, y2 | y2 | ⟨y2, y3, y4⟩⟩ := y
                · exact ⟨y1, Or.inl y2⟩
                · exact ⟨y1, Or.inr (Or.inl ⟨y2.1, by omega, y2.2.2⟩)⟩
                · refine ⟨y1, Or.inr (Or.inl ⟨y2, by omega, fun t et => ?_⟩)⟩
                  rcases y4 with w | ⟨t', w1, w2, w3⟩
                  · rw [w] at et; cases et
                  · rw [w1] at et; cases et; omega
              · obtain ⟨y1, y2 | ⟨y2, y3, y4⟩ | ⟨-, -, y2⟩⟩ := y
                · exact ⟨y1, Or.inl y2⟩
                · by_cases w : s' = s
                  · refine ⟨y1, Or.inr (Or.inr ⟨y2, w, ?_⟩)⟩
                    cases ot' with
                    | none => exact Or.inl rfl
                    | some t' =>
                      have := y4 t' rfl
                      exact Or.inr ⟨t', rfl, by omega, this.2⟩
                  · exact ⟨y1, Or.inr (Or.inl ⟨y2, by omega, y4⟩)⟩
                · exact y2.elim
            | succ z3 ih3 =>
              intro t h' m' ht0 hst hf hm hS
              have kM := hS.1
              obtain ⟨B9, Tb9, -⟩ := hS.2.2.2.2.2.2
              have n3 := Tb9.1
              refine r_il G (pn := 78) rfl rfl rfl ?_
              refine r_ra G (pn := 79) rfl rfl rfl ?_
              refine r_get G (pn := 82) rfl rfl (by first | assumption | (repeat (first | assumption | exact am_eq (by first | assumption | exact am_eq (by assumption) | exact am_ne (by first | decide | omega) (by assumption)) | refine am_ne (by first | decide | omega) ?_))) rfl ?_
              rw [n3]
              refine r_if2 G (pn := 85) rfl rfl (fun c82 => ?_) (fun c82 => ?_)
              · exact absurd ((nI_leI (by omega) (by omega)).mp c82) (by omega)
              refine r_ra G (pn := 86) rfl rfl rfl ?_
              refine r_il G (pn := 87) rfl rfl rfl ?_
              refine r_il G (pn := 88) rfl rfl rfl ?_
              refine r_il G (pn := 89) rfl rfl rfl ?_
              refine r_inv4 G (pn := 92) rfl rfl kM (Nat.le_of_ble_eq_true rfl) (Nat.le_of_ble_eq_true rfl) (Nat.le_of_ble_eq_true rfl) (sp_63 (ot := some t) (by omega) ok (show r < rc by omega) (show s < g.n0 by omega) (fun t' et => by cases et; omega) hS (fun r' s' ot' c' y => ?_) (fun h3 m3 hf3 hm3 S3 => ?_))
              · rcases y with y | ⟨y1, y2, y3, y4⟩
                · refine sub _ (fun ot'' w t'' et => ?_) _ _ _ _ y
                  rcases w with w | ⟨t', w1, w2, w3⟩
                  · rw [w] at et; cases et
                  · rw [w1] at et; cases et; omega
                · refine ⟨by omega, by omega, fun t'' et => ?_, by rw [y1, y2, y3]; exact y4⟩
                  rw [y3] at et
                  cases et
                  omega
              show am_Go (am_KA lx e) (am_fetch cd_67) Q 92 [some (.ref 81), some (.int (nI r)), some (.int (nI s)), some (.int (nI t))] [] h3 0 0
              refine r_inc G (pn := 95) rfl rfl rfl (Nat.le_of_ble_eq_true rfl) ?_
              refine r_goto G rfl ?_
              rw [nI_1]
              refine ih3 (t + 1) h3 m3 (by omega) (by omega) (hf.tr hf3) (fun i a b c d e f => (hm3 i a b c d e f).trans (hm i a b c d e f)) (S3.congr (fun r' s' ot' c' y => ?_) (fun r' s' ot' c' y => ?_))
              · rcases y with ⟨y1, y2⟩ | ⟨y1, y2, y3, y4⟩
                · refine ⟨y1, y2.elim Or.inl (fun y2 => Or.inr (y2.elim Or.inl (fun y2 => Or.inr ⟨y2.1, y2.2.1, ?_⟩)))⟩
                  rcases y2.2.2 with w | ⟨t', w1, w2, w3⟩
                  · exact Or.inl w
                  · exact Or.inr ⟨t', w1, w2, by omega⟩
                · subst y1; subst y2; subst y3
                  exact ⟨y4, Or.inr (Or.inr ⟨rfl, rfl, Or.inr ⟨t, rfl, hst, by omega⟩⟩)⟩
              · obtain ⟨y1, y2 | y2 | ⟨y2, y3, y4⟩⟩ := y
                · exact Or.inl ⟨y1, Or.inl y2⟩
                · exact Or.inl ⟨y1, Or.inr (Or.inl y2)⟩
                · rcases y4 with w | ⟨t', w1, w2, w3⟩
                  · exact Or.inl ⟨y1, Or.inr (Or.inr ⟨y2, y3, Or.inl w⟩)⟩
                  · by_cases v : t' = t
                    · subst y2; subst y3; subst w1; subst v
                      exact Or.inr ⟨rfl, rfl, rfl, y1⟩
                    · exact Or.inl ⟨y1, Or.inr (Or.inr ⟨y2, y3, Or.inr ⟨t', w1, w2, by omega⟩⟩)⟩
          refine lpT (g.n0 - s) s h2 m2 (by omega) (Nat.le_refl _) (hf.tr hf2) (fun i a b c d e f => (hm2 i a b c d e f).trans (hm i a b c d e f)) (S2.congr (fun r' s' ot' c' y => ?_) (fun r' s' ot' c' y => ?_))
          · rcases y with ⟨y1, y2 | y2 | ⟨-, -, y2⟩⟩ | ⟨y1, y2, y3, y4⟩
            · exact ⟨y1, Or.inl y2⟩
            · exact ⟨y1, Or.inr (Or.inl y2)⟩
            · exact y2.elim
            · subst y1; subst y2; subst y3
              exact ⟨y4, Or.inr (Or.inr ⟨rfl, rfl, Or.inl rfl⟩)⟩
          · obtain ⟨y1, y2 | y2 | ⟨y2, y3, y4⟩⟩ := y
            · exact Or.inl ⟨y1, Or.inl y2⟩
            · exact Or.inl ⟨y1, Or.inr (Or.inl y2)⟩
            · rcases y4 with w | ⟨t', w1, w2, w3⟩
              · subst y2; subst y3; subst w
                exact Or.inr ⟨rfl, rfl, rfl, y1⟩
              · omega
      exact lpS g.n0 0 h' m' _ (by omega) hf hm hS
  have lp0 : ∀ (z k : Nat) (h' : am_H) (f : Nat → Int32), k + z = 5 * ln → am_fr (fun i => i = 81 ∨ i = 89) h h' → h'[81]? = some (mO m1) → h'[89]? = some (aI 205 f) → (∀ p, p < k → f p = fl p) → am_Go (am_KA lx e) (am_fetch cd_67) Q 20 [some (.ref 81), some (.int (nI k)), none, none] [] h' 0 0 := by
    intro z
    induction z with
    | zero =>
      intro k h' f hk hf kM k89 gf
      obtain rfl : k = 5 * ln := by omega
      refine r_il G (pn := 21) rfl rfl rfl ?_
      refine r_ic G (pn := 22) rfl rfl  ?_
      refine r_ra G (pn := 23) rfl rfl rfl ?_
      refine r_get G (pn := 26) rfl rfl (by first | assumption | (repeat (first | assumption | exact am_eq (by first | assumption | exact am_eq (by assumption) | exact am_ne (by first | decide | omega) (by assumption)) | refine am_ne (by first | decide | omega) ?_))) rfl ?_
      rw [p10]
      refine r_ib G (pn := 27) rfl rfl  ?_
      rw [nI_5l]
      refine r_if2 G (pn := 30) rfl rfl (fun c27 => ?_) (fun c27 => ?_)
      rotate_left
      · exact absurd (Int32.le_refl _) c27
      refine r_ic G (pn := 49) rfl rfl  ?_
      refine r_is G (pn := 50) rfl rfl (Nat.le_of_ble_eq_true rfl) ?_
      have Ms' : MsI h' := hMs.fr hf (fun i hi hz => by
        rcases hi with hi | hi
        · subst hi; exact absurd rfl hz
        · subst hi; exact ⟨f, k89⟩)
      refine lpR rc 0 h' m1 _ _ (by omega) (hf.wk (fun i hi => by unfold reP; omega)) hm1 ⟨kM, Ms', (hm1 0 (by omega) (by omega) (by omega) (by omega) (by omega) (by omega)).trans m0, (hm1 5 (by omega) (by omega) (by omega) (by omega) (by omega) (by omega)).trans m5, fun i hi => (hRm i hi).fr hf (fun j h1 h2 z => by omega), ⟨f91, hf.at (by omega) h91⟩, B, hTb.fr hf (by omega) (hm1 3 (by omega) (by omega) (by omega) (by omega) (by omega) (by omega)), hB, Or.inl ⟨p18, g.n0, g.W, ln, L, ⟨by rw [p15, Nat.sub_self]; rfl, Nat.le_refl _, hn12, f91, hf.at (by omega) h91, fun k hk => by omega⟩, fun i hi => (hB i hi).kr ok.1.2, ⟨p12, ln40, f, k89, fun i hi c hc => ?_⟩, Run0 (nuM_ok hn12) inj hs hok (fun r' s' ot' c' y => ?_)⟩⟩
      · rw [gf _ (by omega)]
        refine ⟨(gl i hi c hc).1, ?_⟩
        have := (hok i hi).1 c hc
        omega
      · obtain ⟨-, ⟨y, -⟩ | ⟨-, y, -⟩ | ⟨-, -, y⟩⟩ := y
        · exact absurd y (Nat.not_lt_zero _)
        · exact absurd y (Nat.not_lt_zero _)
        · exact y
    | succ z ih =>
      intro k h' f hk hf kM k89 gf
      have k88 := hf.at (by omega) h88
      refine r_il G (pn := 21) rfl rfl rfl ?_
      refine r_ic G (pn := 22) rfl rfl  ?_
      refine r_ra G (pn := 23) rfl rfl rfl ?_
      refine r_get G (pn := 26) rfl rfl (by first | assumption | (repeat (first | assumption | exact am_eq (by first | assumption | exact am_eq (by assumption) | exact am_ne (by first | decide | omega) (by assumption)) | refine am_ne (by first | decide | omega) ?_))) rfl ?_
      rw [p10]
      refine r_ib G (pn := 27) rfl rfl  ?_
      rw [nI_5l]
      refine r_if2 G (pn := 30) rfl rfl (fun c27 => ?_) (fun c27 => ?_)
      · exact absurd ((nI_leI (by omega) (by omega)).mp c27) (by omega)
      refine r_ra G (pn := 31) rfl rfl rfl ?_
      refine r_get G (pn := 34) rfl rfl (by first | assumption | (repeat (first | assumption | exact am_eq (by first | assumption | exact am_eq (by assumption) | exact am_ne (by first | decide | omega) (by assumption)) | refine am_ne (by first | decide | omega) ?_))) rfl ?_
      refine r_il G (pn := 35) rfl rfl rfl ?_
      refine r_ra G (pn := 36) rfl rfl rfl ?_
      refine r_get G (pn := 39) rfl rfl (by first | assumption | (repeat (first | assumption | exact am_eq (by first | assumption | exact am_eq (by assumption) | exact am_ne (by first | decide | omega) (by assumption)) | refine am_ne (by first | decide | omega) ?_))) rfl ?_
      refine r_il G (pn := 40) rfl rfl rfl ?_
      refine r_ialdN G (pn := 41) rfl rfl k88 (by omega) (by omega) ?_
      refine r_iastN G (pn := 42) rfl rfl k89 (by omega) (by omega) ?_
      refine r_inc G (pn := 45) rfl rfl rfl (Nat.le_of_ble_eq_true rfl) ?_
      refine r_goto G rfl ?_
      rw [nI_1]
      refine ih (k + 1) _ _ (by omega) (hf.put (Or.inr rfl)) (am_ne (by decide) kM) (am_eq k89) (fun p hp => ?_)
      by_cases y : p = k
      · rw [y, pk_us]
      · rw [pk_un y]; exact gf p (by omega)
  refine r_ic G (pn := 19) rfl rfl  ?_
  refine r_is G (pn := 20) rfl rfl (Nat.le_of_ble_eq_true rfl) ?_
  exact lp0 (5 * ln) 0 h1 f89 (by omega) (q1.wk (fun i hi => Or.inl hi)) kM1 (q1.at (by omega) h89) (fun p hp => absurd hp (Nat.not_lt_zero p))
end
