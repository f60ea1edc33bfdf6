theorem ms0 {i : Nat} (h : i < 89) : msZ i = 0 := by unfold msZ; simp only [show i ≠ 89 by omega, show i ≠ 90 by omega, show i ≠ 92 by omega, show i ≠ 93 by omega, show i ≠ 94 by omega, show i ≠ 95 by omega, show i ≠ 96 by omega, show i ≠ 97 by omega, show i ≠ 98 by omega, show i ≠ 99 by omega, show i ≠ 100 by omega, show i ≠ 101 by omega, show i ≠ 102 by omega, show i ≠ 103 by omega, show i ≠ 104 by omega, if_false]
theorem chOk_c {n : Nat} {P P' : Nat → Int32} {r i j b a : Int32} (e : ∀ q, q < n → P q = P' q) (h : chOk n P r i j b a) : chOk n P' r i j b a := by
  obtain ⟨q, p, s, h1, h2, h3, h4, h5, h6, h7, h8⟩ := h
  exact ⟨q, p, s, h1, h2, h3, h4, h5, h6, by rw [← e q h2]; exact h7, h8⟩
section
variable {lx : am_Lx} {d : Nat} {h : am_H} {Q : am_Q} {m : Nat → Int32}
theorem p_change (hd : 3 ≤ d) {r i j b a : Int32} (hW : Wrl h) : Pair lx d 9 50 [.int r, .int i, .int j, .int b, .int a] h := by
  obtain ⟨m, g, B, rc, nl, ln, L, f, f', hC, hM, hP⟩ := hW
  obtain ⟨c0, c1, c2, ⟨r0, c3⟩, cK, cT, ⟨f6, c6⟩, c7, ⟨f8, c8⟩, ⟨jc, k9, fw, fj, c9, d9, e9⟩, c10, ⟨c11, f11, d11, e11⟩, ⟨f12, c12⟩, ⟨Pi, Ci, Bi, Ai, r1, r2, r3⟩⟩ := id hC
  obtain ⟨m81, ms, m0, m2, m5, mT, mL, ⟨f91, m91⟩, m82, ⟨fp, fl, fb, fa, s1, s2, s3, s4, s5, s6⟩⟩ := id hM
  obtain ⟨p1, p2, p3, p4, p5, p6, p7, p8, p9, p10⟩ := id hP
  have e1 : ∀ q, q < rc → Pi q = fp q := fun q hq => (r2 q hq).1.trans (s5 q hq).1.symm
  have n23 : ∀ q, q < rc → nI (g.P q) = 2 ∨ nI (g.P q) = 3 := fun q hq => by
    rcases (p10.1 q hq).1 with z | z
    · rw [z]; exact Or.inl rfl
    · rw [z]; exact Or.inr rfl
  have P1 : ∀ q, q < rc → Pi q = 2 ∨ Pi q = 3 := fun q hq => by rw [(r2 q hq).1]; exact n23 q hq
  have P2 : ∀ q, q < rc → fp q = 2 ∨ fp q = 3 := fun q hq => by rw [(s5 q hq).1]; exact n23 q hq
  refine sp_9 hd c0 p3 r1 P1 (fun z => ⟨0, m, rfl, m81, sp_50 (by omega) m81 m5 p3 s1 s3 s4 P2 (fun _ => ⟨rfl, m, g, B, rc, nl, ln, L, f, f', hC, hM, hP⟩) (fun q p s _ _ _ _ _ _ y => absurd (chOk_c (fun q hq => (e1 q hq).symm) y) z)⟩) (fun q p s eq hq ep es hps hs3 z h1 hf1 kR => ?_)
  have w1 : ∀ i, i < 69 ∨ 80 < i → ¬ ruP i := fun i b z => by have := z.1; have := z.2; omega
  refine ⟨1, m, rfl, hf1.at (w1 _ (by omega)) m81, sp_50 (by omega) (hf1.at (w1 _ (by omega)) m81) m5 p3 (hf1.at (w1 _ (by omega)) s1) (hf1.at (w1 _ (by omega)) s3) (hf1.at (w1 _ (by omega)) s4) P2 (fun y => absurd (chOk_c e1 z) y) (fun q' p' s' eq' hq' ep' es' hps' hs3' z' => ⟨rfl, ?_⟩)⟩
  obtain rfl : q' = q := (nI_eq (by omega) (by omega)).mp (eq'.symm.trans eq)
  obtain rfl : p' = p := (nI_eq (by omega) (by omega)).mp (ep'.symm.trans ep)
  obtain rfl : s' = s := (nI_eq (by omega) (by omega)).mp (es'.symm.trans es)
  obtain ⟨-, -, -, -, -, -, -, -, -, -, y1, y2, y3, y4⟩ := z
  obtain ⟨kb, hb, eb⟩ := cd_in y1 y2
  obtain ⟨ka, ha, ea⟩ := cd_in y3 y4
  subst eb; subst ea
  let Bf' : Nat → Nat → Nat := fun k => if k = q' then uN (g.Bf q') (p' + s' - 1) kb else g.Bf k
  let Af' : Nat → Nat → Nat := fun k => if k = q' then uN (g.Af q') (p' + s' - 1) ka else g.Af k
  have b1 : Bf' q' = uN (g.Bf q') (p' + s' - 1) kb := if_pos rfl
  have b2 : ∀ k, k ≠ q' → Bf' k = g.Bf k := fun k hk => if_neg hk
  have a1 : Af' q' = uN (g.Af q') (p' + s' - 1) ka := if_pos rfl
  have a2 : ∀ k, k ≠ q' → Af' k = g.Af k := fun k hk => if_neg hk
  let g' : Wk := ⟨g.cap, g.n0, g.W, g.P, g.C, Bf', Af'⟩
  have hRp : RpI g' rc := by
    refine ⟨p10.1, fun k hk x hx => ?_⟩
    show Bf' k x < 4 ∧ Af' k x < 4
    by_cases y : k = q'
    · rw [y, b1, a1]
      by_cases w : x = p' + s' - 1
      · rw [w, uN_s, uN_s]; exact ⟨hb, ha⟩
      · rw [uN_n w, uN_n w]; exact p10.2 q' (by omega) x hx
    · rw [b2 k y, a2 k y]; exact p10.2 k hk x hx
  have qm : am_fr (fun i => i = 86 ∨ i = 87) h1 ((h1.set 86 (aI 27 (upd fb (9 * q' + 3 * p' + s') (nI kb)))).set 87 (aI 27 (upd fa (9 * q' + 3 * p' + s') (nI ka)))) := (am_fr.rf.put (Or.inl rfl)).put (Or.inr rfl)
  have qc : WcI h1 g' rc nl ln L f := by
    refine ⟨hf1.at (w1 _ (by omega)) c0, hf1.at (w1 _ (by omega)) c1, hf1.at (w1 _ (by omega)) c2, ⟨r0, c3.fr hf1 (fun i hi => w1 i (by have := hi.2; omega))⟩, cK.fr hf1 (fun i h1 h2 => w1 i (by omega)), cT.fr hf1 ⟨w1 _ (by omega), w1 _ (by omega)⟩, ⟨f6, hf1.at (w1 _ (by omega)) c6⟩, c7.fr hf1 (fun i hi => w1 i (by omega)), ⟨f8, hf1.at (w1 _ (by omega)) c8⟩, ⟨jc, k9, fw, fj, hf1.at (w1 _ (by omega)) c9, hf1.at (w1 _ (by omega)) d9, hf1.at (w1 _ (by omega)) e9⟩, c10.fr hf1 ⟨w1 _ (by omega), w1 _ (by omega)⟩, ⟨c11, f11, hf1.at (w1 _ (by omega)) d11, hf1.at (w1 _ (by omega)) e11⟩, ⟨f12, hf1.at (w1 _ (by omega)) c12⟩, ⟨_, _, _, _, kR, r2, fun k hk x hx => ?_⟩⟩
    show (if k = q' then upd (Bi q') (p' + s' - 1) (nI kb) else Bi k) x = nI (Bf' k x) ∧ (if k = q' then upd (Ai q') (p' + s' - 1) (nI ka) else Ai k) x = nI (Af' k x)
    by_cases y : k = q'
    · rw [if_pos y, if_pos y, y, b1, a1]
      by_cases w : x = p' + s' - 1
      · rw [w, uN_s, uN_s, pk_us, pk_us]; exact ⟨rfl, rfl⟩
      · rw [uN_n w, uN_n w, pk_un w, pk_un w]; exact r3 q' (by omega) x hx
    · rw [if_neg y, if_neg y, b2 k y, a2 k y]; exact r3 k hk x hx
  refine ⟨m, g', B, rc, nl, ln, L, f, f', qc.fr qm (fun i z => by omega), ⟨qm.at (by omega) (hf1.at (w1 _ (by omega)) m81), (ms.fr hf1 (fun i hi hz => absurd (ms0 (by have := hi.2; omega)) hz)).fr qm (fun i hi hz => absurd (ms0 (by omega)) hz), m0, m2, m5, (mT.fr (m' := m) hf1 (w1 _ (by omega)) rfl).fr qm (by omega) rfl, (mL.fr (m' := m) hf1 (w1 _ (by omega)) rfl).fr qm (by omega) rfl, ⟨f91, qm.at (by omega) (hf1.at (w1 _ (by omega)) m91)⟩, qm.at (by omega) (hf1.at (w1 _ (by omega)) m82), ⟨fp, fl, _, _, qm.at (by omega) (hf1.at (w1 _ (by omega)) s1), qm.at (by omega) (hf1.at (w1 _ (by omega)) s2), am_ne (by decide) (am_eq (hf1.at (w1 _ (by omega)) s3)), am_eq (am_ne (by decide) (hf1.at (w1 _ (by omega)) s4)), s5, fun k hk x y hxy hy => ?_⟩⟩, ⟨p1, p2, p3, p4, p5, p6, p7, p8, p9, hRp⟩⟩
  show _ = nI (Bf' k (x + y - 1)) ∧ _ = nI (Af' k (x + y - 1))
  by_cases w : k = q'
  · subst w
    rw [b1, a1]
    by_cases v : x = p' ∧ y = s'
    · obtain ⟨v1, v2⟩ := v
      subst v1; subst v2
      rw [uN_s, uN_s, pk_us, pk_us]; exact ⟨rfl, rfl⟩
    · rw [uN_n (by omega), uN_n (by omega), pk_un (by omega), pk_un (by omega)]; exact s6 k hk x y hxy hy
  · rw [b2 k w, a2 k w, pk_un (by omega), pk_un (by omega)]; exact s6 k hk x y hxy hy
theorem p_matches (hd : 7 ≤ d) {r s t : Int32} (hW : Wrl h) : Pair lx d 10 56 [.int r, .int s, .int t] h := by
  obtain ⟨m, g, B, rc, nl, ln, L, f, f', hC, hM, hP⟩ := hW
  obtain ⟨c0, c1, c2, ⟨r0, c3⟩, cK, cT, ⟨f6, c6⟩, ⟨⟨n9, lb9, cd9, od9, cX⟩, ⟨cnt9, c58⟩, ⟨fo, c60⟩⟩, ⟨f8, c8⟩, ⟨jc, k9, fw, fj, c9, d9, e9⟩, c10, ⟨c11, f11, d11, e11⟩, ⟨f12, c12⟩, cR⟩ := id hC
  obtain ⟨m81, ms, m0, m2, m5, mT, mL, ⟨f91, m91⟩, m82, mR⟩ := id hM
  obtain ⟨p1, p2, p3, p4, p5, p6, p7, p8, p9, p10⟩ := id hP
  obtain ⟨⟨rr, x42, xrr⟩, xRl⟩ := cR.rl p10 p3
  have w5 : ∀ i, i < g.n0 → wN (g.W i) ≤ 5 := fun i hi => by have := ((p6 i hi).w p1.2).2.1; omega
  refine sp_10 hd c0 p3 cT p2 w5 cX x42 xrr xRl c58 c60 ⟨f8, c8⟩ (fun z => ⟨-1, m, rfl, m81, sp_56 (by omega) p1.2 m81 ms m5 p3 mT p2 p6 (mR.rm p10 p3) (fun _ => ⟨rfl, m, g, B, rc, nl, ln, L, f, f', hC, hM, hP⟩) (fun q a ot h' x e1 e2 e3 e4 e5 e6 _ _ _ => absurd ⟨q, a, ot, e1, e2, e3, e4, e5, e6⟩ z)⟩) (fun q a ot h1 cnt T e1 e2 e3 e4 e5 e6 hf1 hX1 hF1 h59 h720 t1 t2 t3 => ?_)
  have w1 : ∀ i, i < 43 ∨ 60 < i → ¬ (mxP i ∨ fiP i) := fun i b z => by rcases z with z | z <;> (have := z.1; have := z.2; omega)
  have M1 : WmI h1 m g B rc nl ln L f' := hM.fr hf1 (fun i z => by rcases z with z | z <;> (have := z.2; omega))
  obtain ⟨m81', ms', -, -, -, mT', mL', ⟨f91', m91'⟩, m82', mR'⟩ := id M1
  refine ⟨nI cnt, m, rfl, m81', sp_56 (by omega) p1.2 m81' ms' m5 p3 mT' p2 p6 (mR'.rm p10 p3) (fun y => absurd ⟨q, a, ot, e1, e2, e3, e4, e5, e6⟩ y) (fun q' a' ot' h2 x e1' e2' e3' e4' e5' e6' hf2 ms2 k81 => ?_)⟩
  obtain rfl : q' = q := (nI_eq (by omega) (by omega)).mp (e1'.symm.trans e1)
  obtain rfl : a' = a := (nI_eq (by omega) (by omega)).mp (e3'.symm.trans e3)
  obtain rfl : ot' = ot := by
    have e := e5'.symm.trans e5
    cases ot' with
    | none =>
      cases ot with
      | none => rfl
      | some b =>
        have := e6 b rfl
        have e : (-1 : Int32) = nI b := e
        exact absurd e.symm (fun z => by have := nI_pos (n := b) (by omega); rw [z] at this; exact absurd (by decide) this)
    | some b' =>
      have := e6' b' rfl
      cases ot with
      | none =>
        have e : nI b' = (-1 : Int32) := e
        exact absurd e (fun z => by have := nI_pos (n := b') (by omega); rw [z] at this; exact absurd (by decide) this)
      | some b =>
        have := e6 b rfl
        have e : nI b' = nI b := e
        rw [(nI_eq (by omega) (by omega)).mp e]
  have hmo : ∀ v, ot'.map g.W = some v → ∃ b, Mol g.cap v b := (ev_mols hP.ok e4 e6).2
  have hpx := px_ok p1.2 (p6 a' e4) hmo
  have hcnt := mt_count (p10.1 q' e2).1 hpx.1 t1 t2 t3
  have w2 : ∀ i, i ≠ 81 → i < 96 → ¬ m2P i := fun i b c z => by unfold m2P at z; omega
  obtain ⟨F1, F2, F3, -⟩ := id hF1
  have qc : WcI h1 g rc nl ln L f := ⟨hf1.at (w1 _ (by omega)) c0, hf1.at (w1 _ (by omega)) c1, hf1.at (w1 _ (by omega)) c2, ⟨r0, c3.fr hf1 (fun i hi => w1 i (by have := hi.2; omega))⟩, cK.fr hf1 (fun i h1 h2 => w1 i (by omega)), cT.fr hf1 ⟨w1 _ (by omega), w1 _ (by omega)⟩, ⟨f6, hf1.at (w1 _ (by omega)) c6⟩, ⟨⟨_, _, _, _, hX1⟩, ⟨_, F1⟩, ⟨F2, F3⟩⟩, h59, ⟨jc, k9, fw, fj, hf1.at (w1 _ (by omega)) c9, hf1.at (w1 _ (by omega)) d9, hf1.at (w1 _ (by omega)) e9⟩, c10.fr hf1 ⟨w1 _ (by omega), w1 _ (by omega)⟩, ⟨c11, f11, hf1.at (w1 _ (by omega)) d11, hf1.at (w1 _ (by omega)) e11⟩, ⟨f12, hf1.at (w1 _ (by omega)) c12⟩, cR.fr hf1 (fun i hi => w1 i (by rcases hi with hi | hi; omega; have := hi.1; omega))⟩
  refine ⟨by rw [hcnt], upd m 24 x, g, B, rc, nl, ln, L, f, f', qc.fr hf2 (fun i z => by unfold m2P at z; omega), ⟨k81, ms2, (pk_un (by omega)).trans m0, (pk_un (by omega)).trans m2, (pk_un (by omega)).trans m5, mT'.fr hf2 (w2 _ (by omega) (by omega)) (pk_un (by omega)), mL'.fr hf2 (w2 _ (by omega) (by omega)) (pk_un (by omega)), ⟨f91', hf2.at (w2 _ (by omega) (by omega)) m91'⟩, hf2.at (w2 _ (by omega) (by omega)) m82', mR'.fr hf2 (fun i h1 h2 => w2 i (by omega) (by omega))⟩, hP⟩
theorem p_round (hd : 11 ≤ d) (hW : Wrl h) : Pair lx d 11 67 [] h := by
  obtain ⟨m, g, B, rc, nl, ln, L, f, f', hC, hM, hP⟩ := hW
  obtain ⟨c0, c1, c2, ⟨r0, c3⟩, cK, cT, ⟨f6, c6⟩, c7, ⟨f8, c8⟩, c9, c10, ⟨c11, f11, d11, e11⟩, c12, cR⟩ := id hC
  obtain ⟨p1, p2, p3, p4, p5, p6, p7, p8, p9, p10⟩ := id hP
  have ok := hP.ok
  have hx := cR.rl p10 p3
  have hS : ClS h g rc := ⟨c0, cK, c9, c12, hx.1, hx.2, ⟨f8, c8⟩⟩
  have w1 : ∀ i, i < 35 ∨ i = 42 ∨ 68 < i → ¬ rnP i := fun i b z => by unfold rnP tkP at z; omega
  have mfr : ∀ {h1 : am_H}, am_fr rnP h h1 → WmI h1 m g B rc nl ln L f' := fun hf1 => hM.fr hf1 (fun i z => by unfold rnP tkP at z; omega)
  have w2 : ∀ i, i ≠ 81 → i ≠ 83 → i < 88 → ¬ rmP i := fun i a b c z => by unfold rmP at z; omega
  refine sp_11 hd ok p7 hS c7 cT c10 p8 p9 c6 d11 e11 (fun h1 u U rn R hf1 S1 X1 T1 hu D1 s1 o1 su R1 k41 k66 => ?_) (fun h1 hf1 S1 X1 T1 D1 hfail k41 k66 => ?_)
  · obtain ⟨m81, ms, m0, m2, m5, mT, mL, ⟨f91, m91⟩, m82, mR⟩ := mfr hf1
    refine ⟨nI (u - g.n0), m, rfl, m81, sp_67 (by omega) ok p7 m81 ms m0 m5 (mR.rm p10 p3) m91 mT p6 mL p8 p9 (fun h2 m' u' U' B' rn' R' hf2 hm2 k81 ms2 kT kK hu' kL s2 su' R2 k91 => ?_) (fun h2 m' hf2 hm2 k81 ms2 kT kL hfail k91 => ?_)⟩
    · have d1 : ∀ i, i < rn → ∀ k, k < 5 → R i k < 16 := by
        obtain ⟨-, -, fr, -, gr⟩ := D1
        exact fun i hi k hk => (gr i hi).2 k hk
      have d2 : ∀ i, i < rn' → ∀ k, k < 5 → R' i k < 16 := by
        obtain ⟨-, -, fr, -, gr⟩ := kL
        exact fun i hi k hk => (gr i hi k hk).2
      obtain ⟨eu, eU, er, eR⟩ := Run.uniq (n0 := g.n0) nu_s R1 R2 (fun v => EvW_cm ok) (fun a b y hy => ⟨y, (EvA_cm ok).mp hy, yq.rf⟩) (fun a b y hy => ⟨y, (EvA_cm ok).mpr hy, yq.rf⟩) su su' s1 s2 d1 d2
      subst eu; subst er
      have hmol : ∀ i, i < u → Mol g.cap (U i) (B' i) := by
        intro i hi
        obtain ⟨b, hb⟩ := EvW_mol ok (Zcl_ok (Or.inr ⟨rfl, rfl⟩)) (R1.2.2.2.1 i hi)
        have hk := kK i hi
        rw [← eU i hi] at hk
        have := (KR_ord (hb.kr p1.2) hk).2.mp rfl
        rw [← this]
        exact hb
      have kL' : MlI h2 m' rn R := by
        obtain ⟨l1, l2, fl, l3, l4⟩ := kL
        exact ⟨l1, l2, fl, l3, fun i hi k hk => by rw [eR i hi k hk]; exact l4 i hi k hk⟩
      obtain ⟨z0, zK, z9, z12, -, -, z59⟩ := id S1
      have qc : WcI h1 (g.tab u U) rc nl rn R f := ⟨z0, hf1.at (w1 _ (by omega)) c1, hf1.at (w1 _ (by omega)) c2, ⟨r0, c3.fr hf1 (fun i hi => w1 i (by have := hi.2; omega))⟩, zK, T1, k41, X1, z59, z9, D1, k66, z12, cR.fr hf1 (fun i hi => w1 i (by rcases hi with hi | hi; omega; have := hi.1; omega))⟩
      refine ⟨rfl, m', g.tab u U, B', rc, nl, rn, R, f, f', qc.fr hf2 (fun i z => by unfold rmP at z; omega), ⟨k81, ms2, (hm2 0 (by omega) (by omega) (by omega) (by omega) (by omega) (by omega) (by omega) (by omega)).trans m0, (hm2 2 (by omega) (by omega) (by omega) (by omega) (by omega) (by omega) (by omega) (by omega)).trans m2, (hm2 5 (by omega) (by omega) (by omega) (by omega) (by omega) (by omega) (by omega) (by omega)).trans m5, kT, kL', k91, hf2.at (w2 _ (by omega) (by omega) (by omega)) m82, mR.fr hf2 (fun i h1 h2 => w2 i (by omega) (by omega) (by omega))⟩, ⟨p1, hu, p3, p4, p5, hmol, R1.2.2.1, s1, o1, p10⟩⟩
    · obtain ⟨-, d40, -⟩ := id D1
      exact (hfail.not nu_s ((RunZ_cm ok).mp R1) hu d40).elim
  · obtain ⟨m81, ms, m0, m2, m5, mT, mL, ⟨f91, m91⟩, m82, mR⟩ := mfr hf1
    refine ⟨-1, m, rfl, m81, sp_67 (by omega) ok p7 m81 ms m0 m5 (mR.rm p10 p3) m91 mT p6 mL p8 p9 (fun h2 m' u' U' B' rn' R' hf2 hm2 k81 ms2 kT kK hu' kL s2 su' R2 k91 => ?_) (fun h2 m' hf2 hm2 k81 ms2 kT kL hfail2 k91 => ?_)⟩
    · exact (hfail.not nu_s ((RunZ_cm ok).mpr R2) hu' kL.2.1).elim
    · obtain ⟨z0, zK, z9, z12, -, -, z59⟩ := id S1
      have qc : WcI h1 g rc nl ln L f := ⟨z0, hf1.at (w1 _ (by omega)) c1, hf1.at (w1 _ (by omega)) c2, ⟨r0, c3.fr hf1 (fun i hi => w1 i (by have := hi.2; omega))⟩, zK, T1, k41, X1, z59, z9, D1, k66, z12, cR.fr hf1 (fun i hi => w1 i (by rcases hi with hi | hi; omega; have := hi.1; omega))⟩
      exact ⟨rfl, m', g, B, rc, nl, ln, L, f, f', qc.fr hf2 (fun i z => by unfold rmP at z; omega), ⟨k81, ms2, (hm2 0 (by omega) (by omega) (by omega) (by omega) (by omega) (by omega) (by omega) (by omega)).trans m0, (hm2 2 (by omega) (by omega) (by omega) (by omega) (by omega) (by omega) (by omega) (by omega)).trans m2, (hm2 5 (by omega) (by omega) (by omega) (by omega) (by omega) (by omega) (by omega) (by omega)).trans m5, kT, kL, k91, hf2.at (w2 _ (by omega) (by omega) (by omega)) m82, mR.fr hf2 (fun i h1 h2 => w2 i (by omega) (by omega) (by omega))⟩, hP⟩
end
