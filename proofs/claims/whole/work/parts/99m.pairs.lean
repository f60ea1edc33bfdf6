theorem rrun_c {f f' : Nat → Nat} : ∀ {n : Nat}, (∀ i, i < n → f i = f' i) → rrun f n = rrun f' n
  | 0, _ => rfl
  | n + 1, h => by
    show (match rrun f n with | none => none | some r => rstep (f n) r) = (match rrun f' n with | none => none | some r => rstep (f' n) r)
    rw [rrun_c (fun i hi => h i (by omega)), h n (by omega)]
theorem EnR_c {f f' : Nat → Nat} {n cap n0 : Nat} {W : Nat → Nat} {v : Int32} {nw : Option (Nat × Nat)} (e : ∀ i, i < n → f i = f' i) (h : EnR f n cap n0 W v nw) : EnR f' n cap n0 W v nw := by
  rcases h with ⟨p, ⟨p1, r, p2, p3⟩, q⟩ | ⟨r, r1, r2⟩
  · exact Or.inl ⟨p, ⟨p1, r, by rw [← rrun_c (fun i hi => e i (by omega))]; exact p2, by rw [← e p p1]; exact p3⟩, q⟩
  · exact Or.inr ⟨r, by rw [← rrun_c e]; exact r1, r2⟩
theorem RowOk.mono {n n' : Nat} {t : Nat → Nat} (h : RowOk n t) (hn : n ≤ n') : RowOk n' t := ⟨fun k hk => Nat.le_trans (h.1 k hk) hn, h.2⟩
/-- a new word table -/
def Wk.tab (g : Wk) (n : Nat) (W : Nat → Nat) : Wk := ⟨g.cap, n, W, g.P, g.C, g.Bf, g.Af⟩
section
variable {lx : am_Lx} {d : Nat} {h : am_H} {Q : am_Q} {m : Nat → Int32}
theorem p_enter (hd : 9 ≤ d) (hW : Wrl h) : Pair lx d 3 35 [] h := by
  obtain ⟨m, g, B, rc, nl, ln, L, f, f', hC, hM, hP⟩ := hW
  obtain ⟨c0, c1, c2, ⟨r0, c3⟩, cK, cT, ⟨f6, c6⟩, c7, ⟨f8, c8⟩, ⟨jc, k9, fw, fj, c9, d9, e9⟩, c10, ⟨c11, f11, d11, e11⟩, ⟨f12, c12⟩, c13⟩ := id hC
  obtain ⟨p1, p2, p3, p4, p5, p6, p7, p8, p9, p10⟩ := id hP
  refine sp_3 hd c0 p1 c1 c2 p4 (fun i hi => (p5 i hi).2) c3 cK cT p2 (fun v nw h1 r hE hf1 k1 kr kK kT => ?_)
  have w1 : ∀ i, i ≠ 1 → ¬ (3 ≤ i ∧ i ≤ 34) → ¬ (36 ≤ i ∧ i ≤ 40) → ¬ ecP i := fun i a b c z => by
    rcases z with z | z | z | z | z
    · exact a z
    · exact b z
    · have := z.1; have := z.2; omega
    · omega
    · omega
  have M1 : WmI h1 m g B rc nl ln L f' := hM.fr hf1 (fun i z => by
    rcases z with z | z | z | z | z
    · omega
    · have := z.2; omega
    · have := z.2; omega
    · omega
    · omega)
  obtain ⟨m81, ms, m0, m2, m5, mT, mL, ⟨f91, m91⟩, m82, mR⟩ := id M1
  refine ⟨v, m, rfl, m81, sp_35 (W := g.W) (by omega) m81 m0 p1 m2 m82 p4 ms mT p2 (fun i hi => (p6 i hi).kr p1.2) (fun v' nw' h2 m' hE' hf2 hm2 k81 k2 ks kTm => ?_)⟩
  obtain ⟨ev, enw⟩ := EnR_uniq p1.2 p7 hE (EnR_c (fun i hi => by rw [(p5 i hi).1]) hE')
  subst ev; subst enw
  have w2 : ∀ i, i ≠ 81 → i ≠ 83 → (i < 93 ∨ i = 97 ∨ i = 98) → ¬ enP i := fun i a b c z => by unfold enP at z; omega
  have hg : WpI (g.tab (enN g.n0 nw) (enW g.n0 g.W nw)) (enB g.n0 B nw) rc 0 ln L f f' := by
    cases nw with
    | none => exact ⟨p1, p2, p3, Nat.zero_le _, fun i hi => absurd hi (Nat.not_lt_zero i), p6, p7, p8, p9, p10⟩
    | some wb =>
      obtain ⟨w, b⟩ := wb
      obtain ⟨e1, e2, e3⟩ := EnR_mol p1.2 hE
      refine ⟨p1, (show g.n0 + 1 ≤ 12 by omega), p3, Nat.zero_le _, fun i hi => absurd hi (Nat.not_lt_zero i), fun i hi => ?_, fun i j hi hj e => ?_, p8, fun i hi => (p9 i hi).mono (show g.n0 ≤ g.n0 + 1 by omega), p10⟩
      · have hi : i < g.n0 + 1 := hi
        show Mol g.cap (uN g.W g.n0 w i) (uN B g.n0 b i)
        by_cases y : i = g.n0
        · rw [y, uN_s, uN_s]; exact e1
        · rw [uN_n y, uN_n y]; exact p6 i (by omega)
      · have hi : i < g.n0 + 1 := hi
        have hj : j < g.n0 + 1 := hj
        have e : uN g.W g.n0 w i = uN g.W g.n0 w j := e
        by_cases yi : i = g.n0
        · by_cases yj : j = g.n0
          · omega
          · rw [yi, uN_s, uN_n yj] at e
            exact absurd e.symm (e2 j (by omega))
        · by_cases yj : j = g.n0
          · rw [yj, uN_s, uN_n yi] at e
            exact absurd e (e2 i (by omega))
          · rw [uN_n yi, uN_n yj] at e
            exact p7 i j (by omega) (by omega) e
  have qc : WcI h1 (g.tab (enN g.n0 nw) (enW g.n0 g.W nw)) rc 0 ln L f := ⟨hf1.at (w1 _ (by omega) (by omega) (by omega)) c0, k1, hf1.at (w1 _ (by omega) (by omega) (by omega)) c2, ⟨r, kr⟩, kK, kT, ⟨f6, hf1.at (w1 _ (by omega) (by omega) (by omega)) c6⟩, c7.fr hf1 (fun i hi => w1 i (by omega) (by omega) (by omega)), ⟨f8, hf1.at (w1 _ (by omega) (by omega) (by omega)) c8⟩, ⟨jc, k9, fw, fj, hf1.at (w1 _ (by omega) (by omega) (by omega)) c9, hf1.at (w1 _ (by omega) (by omega) (by omega)) d9, hf1.at (w1 _ (by omega) (by omega) (by omega)) e9⟩, c10.fr hf1 ⟨w1 _ (by omega) (by omega) (by omega), w1 _ (by omega) (by omega) (by omega)⟩, ⟨c11, f11, hf1.at (w1 _ (by omega) (by omega) (by omega)) d11, hf1.at (w1 _ (by omega) (by omega) (by omega)) e11⟩, ⟨f12, hf1.at (w1 _ (by omega) (by omega) (by omega)) c12⟩, c13.fr hf1 (fun i hi => w1 i (by rcases hi with hi | hi; omega; have := hi.1; omega) (by rcases hi with hi | hi; omega; have := hi.1; omega) (by rcases hi with hi | hi; omega; have := hi.1; omega))⟩
  refine ⟨rfl, m', g.tab (enN g.n0 nw) (enW g.n0 g.W nw), enB g.n0 B nw, rc, 0, ln, L, f, f', qc.fr hf2 (fun i z => by unfold enP at z; omega), ⟨k81, ks, (hm2 0 (by omega) (by omega) (by omega) (by omega) (by omega) (by omega)).trans m0, k2, (hm2 5 (by omega) (by omega) (by omega) (by omega) (by omega) (by omega)).trans m5, kTm, mL.fr hf2 (w2 _ (by omega) (by omega) (by omega)) (hm2 10 (by omega) (by omega) (by omega) (by omega) (by omega) (by omega)), ⟨f91, hf2.at (w2 _ (by omega) (by omega) (by omega)) m91⟩, hf2.at (w2 _ (by omega) (by omega) (by omega)) m82, mR.fr hf2 (fun i h1 h2 => w2 i (by omega) (by omega) (by omega))⟩, hg⟩
theorem cd_in {a : Int32} (h1 : ¬ a < 0) (h2 : ¬ 3 < a) : ∃ k, k < 4 ∧ a = nI k := in_nat (n := 4) (by omega) h1 (fun z => h2 (Int32.lt_of_lt_of_le (by decide) z))
theorem p_rule (hd : 2 ≤ d) {a b x : Int32} (hW : Wrl h) : Pair lx d 8 49 [.int a, .int b, .int x] h := by
  obtain ⟨m, g, B, rc, nl, ln, L, f, f', hC, hM, hP⟩ := hW
  obtain ⟨c0, c1, c2, ⟨r0, c3⟩, cK, cT, ⟨f6, c6⟩, c7, ⟨f8, c8⟩, ⟨jc, k9, fw, fj, c9, d9, e9⟩, c10, ⟨c11, f11, d11, e11⟩, ⟨f12, c12⟩, ⟨Pi, Ci, Bi, Ai, r1, r2, r3⟩⟩ := id hC
  obtain ⟨m81, ms, m0, m2, m5, mT, mL, ⟨f91, m91⟩, m82, ⟨fp, fl, fb, fa, s1, s2, s3, s4, s5, s6⟩⟩ := id hM
  obtain ⟨p1, p2, p3, p4, p5, p6, p7, p8, p9, p10⟩ := id hP
  refine sp_8 hd c0 p3 r1 (fun z => ⟨-1, m, rfl, m81, sp_49 (by omega) m81 m5 p3 s1 s2 (fun _ => ⟨rfl, m, g, B, rc, nl, ln, L, f, f', hC, hM, hP⟩) (fun y => absurd y z)⟩) (fun z h1 hf1 k0 kR => ?_)
  have w1 : ∀ i, i ≠ 0 → i < 69 ∨ 80 < i → ¬ (i = 0 ∨ ruP i) := fun i a b z => by rcases z with z | z; omega; have := z.1; have := z.2; omega
  refine ⟨nI rc, m, rfl, hf1.at (w1 _ (by omega) (by omega)) m81, sp_49 (by omega) (hf1.at (w1 _ (by omega) (by omega)) m81) m5 p3 (hf1.at (w1 _ (by omega) (by omega)) s1) (hf1.at (w1 _ (by omega) (by omega)) s2) (fun y => absurd z y) (fun _ => ⟨rfl, ?_⟩)⟩
  obtain ⟨z1, z2, z3, z4, z5, z6⟩ := z
  obtain ⟨ka, ha, ea⟩ := cd_in z2 z3
  obtain ⟨kb, hb, eb⟩ := cd_in z4 z5
  obtain ⟨kx, hx, ex⟩ : ∃ kx, kx < 4 ∧ (x = -1 ∨ x = nI kx) := by
    rcases z6 with y | y
    · exact ⟨0, by omega, Or.inl y⟩
    · obtain ⟨k, h1, h2⟩ := cd_in y.1 y.2
      exact ⟨k, h1, Or.inr h2⟩
  subst ea; subst eb
  have np : ∃ q, (q = 2 ∨ q = 3) ∧ (if x = -1 then (2 : Int32) else 3) = nI q ∧ (q = 3 → x = nI kx) := by
    by_cases y : x = -1
    · exact ⟨2, Or.inl rfl, by rw [if_pos y]; rfl, fun z => by omega⟩
    · exact ⟨3, Or.inr rfl, by rw [if_neg y]; rfl, fun _ => ex.resolve_left y⟩
  obtain ⟨q, q1, q2, q3⟩ := np
  rw [q2] at kR ⊢
  let C' : Nat → Nat → Nat := fun i => if i = rc then (fun j => if j = 0 then ka else if j = 1 then kb else kx) else g.C i
  have C'1 : C' rc = fun j => if j = 0 then ka else if j = 1 then kb else kx := if_pos rfl
  have C'2 : ∀ i, i ≠ rc → C' i = g.C i := fun i hi => if_neg hi
  let g' : Wk := ⟨g.cap, g.n0, g.W, uN g.P rc q, C', g.Bf, g.Af⟩
  have hRp : RpI g' (rc + 1) := by
    refine ⟨fun i hi => ?_, p10.2⟩
    show (uN g.P rc q i = 2 ∨ uN g.P rc q i = 3) ∧ ∀ j, j < uN g.P rc q i → C' i j < 4
    by_cases y : i = rc
    · rw [y, uN_s, C'1]
      refine ⟨q1, fun j hj => ?_⟩
      show (if j = 0 then ka else if j = 1 then kb else kx) < 4
      split
      · exact ha
      · split
        · exact hb
        · exact hx
    · rw [uN_n y, C'2 i y]
      exact p10.1 i (by omega)
  have qm : am_fr (fun i => i = 81 ∨ i = 84 ∨ i = 85) h1 (((h1.set 84 (aI 3 (upd fp rc (nI q)))).set 85 (aI 9 (upd (upd (upd fl (3 * rc) (nI ka)) (3 * rc + 1) (nI kb)) (3 * rc + 2) x))).set 81 (mO (upd m 5 (nI (rc + 1))))) := ((am_fr.rf.put (Or.inr (Or.inl rfl))).put (Or.inr (Or.inr rfl))).put (Or.inl rfl)
  have qc : WcI h1 g' (rc + 1) nl ln L f := by
    refine ⟨k0, hf1.at (w1 _ (by omega) (by omega)) c1, hf1.at (w1 _ (by omega) (by omega)) c2, ⟨r0, c3.fr hf1 (fun i hi => w1 i (by have := hi.1; omega) (by have := hi.2; omega))⟩, cK.fr hf1 (fun i h1 h2 => w1 i (by omega) (by omega)), cT.fr hf1 ⟨w1 _ (by omega) (by omega), w1 _ (by omega) (by omega)⟩, ⟨f6, hf1.at (w1 _ (by omega) (by omega)) c6⟩, c7.fr hf1 (fun i hi => w1 i (by omega) (by omega)), ⟨f8, hf1.at (w1 _ (by omega) (by omega)) c8⟩, ⟨jc, k9, fw, fj, hf1.at (w1 _ (by omega) (by omega)) c9, hf1.at (w1 _ (by omega) (by omega)) d9, hf1.at (w1 _ (by omega) (by omega)) e9⟩, c10.fr hf1 ⟨w1 _ (by omega) (by omega), w1 _ (by omega) (by omega)⟩, ⟨c11, f11, hf1.at (w1 _ (by omega) (by omega)) d11, hf1.at (w1 _ (by omega) (by omega)) e11⟩, ⟨f12, hf1.at (w1 _ (by omega) (by omega)) c12⟩, ⟨_, _, _, _, kR, fun i hi => ?_, r3⟩⟩
    by_cases y : i = rc
    · subst y
      refine ⟨by rw [pk_us]; exact congrArg nI uN_s.symm, fun j hj => ?_⟩
      have hj : j < uN g.P i q i := hj
      rw [uN_s] at hj
      show (if i = i then upd (upd (upd (Ci i) 0 (nI ka)) 1 (nI kb)) 2 x else Ci i) j = nI (C' i j)
      rw [if_pos rfl, C'1]
      rcases (show j = 0 ∨ j = 1 ∨ j = 2 by omega) with w | w | w
      · subst w; rw [pk_un (by omega), pk_un (by omega), pk_us]; rfl
      · subst w; rw [pk_un (by omega), pk_us]; rfl
      · subst w; rw [pk_us, q3 (by omega)]; rfl
    · refine ⟨by rw [pk_un y]; exact (r2 i (by omega)).1.trans (congrArg nI (uN_n y).symm), fun j hj => ?_⟩
      have hj : j < uN g.P rc q i := hj
      rw [uN_n y] at hj
      show (if i = rc then upd (upd (upd (Ci rc) 0 (nI ka)) 1 (nI kb)) 2 x else Ci i) j = nI (C' i j)
      rw [if_neg y, C'2 i y]
      exact (r2 i (by omega)).2 j hj
  refine ⟨upd m 5 (nI (rc + 1)), g', B, rc + 1, nl, ln, L, f, f', qc.fr qm (fun i z => by omega), ⟨am_eq (am_ne (by decide) (am_ne (by decide) (hf1.at (w1 _ (by omega) (by omega)) m81))), (ms.fr hf1 (fun i hi hz => ?_)).fr qm (fun i hi hz => by rcases hi with hi | hi | hi <;> subst hi <;> exact absurd rfl hz), (pk_un (by omega)).trans m0, (pk_un (by omega)).trans m2, pk_us, (mT.fr (m' := m) hf1 (w1 _ (by omega) (by omega)) rfl).fr qm (by omega) (pk_un (by omega)), (mL.fr (m' := m) hf1 (w1 _ (by omega) (by omega)) rfl).fr qm (by omega) (pk_un (by omega)), ⟨f91, qm.at (by omega) (hf1.at (w1 _ (by omega) (by omega)) m91)⟩, qm.at (by omega) (hf1.at (w1 _ (by omega) (by omega)) m82), ⟨_, _, fb, fa, am_ne (by decide) (am_ne (by decide) (am_eq (hf1.at (w1 _ (by omega) (by omega)) s1))), am_ne (by decide) (am_eq (am_ne (by decide) (hf1.at (w1 _ (by omega) (by omega)) s2))), qm.at (by omega) (hf1.at (w1 _ (by omega) (by omega)) s3), qm.at (by omega) (hf1.at (w1 _ (by omega) (by omega)) s4), fun i hi => ?_, s6⟩⟩, ⟨p1, p2, by omega, p4, p5, p6, p7, p8, p9, hRp⟩⟩
  · rcases hi with hi | hi
    · subst hi; exact absurd rfl hz
    · have h1 := hi.1; have h2 := hi.2
      have : msZ i = 0 := by unfold msZ; simp only [show i ≠ 89 by omega, show i ≠ 90 by omega, show i ≠ 92 by omega, show i ≠ 93 by omega, show i ≠ 94 by omega, show i ≠ 95 by omega, show i ≠ 96 by omega, show i ≠ 97 by omega, show i ≠ 98 by omega, show i ≠ 99 by omega, show i ≠ 100 by omega, show i ≠ 101 by omega, show i ≠ 102 by omega, show i ≠ 103 by omega, show i ≠ 104 by omega, if_false]
      exact absurd this hz
  · by_cases y : i = rc
    · subst y
      refine ⟨by rw [pk_us]; exact congrArg nI uN_s.symm, fun j hj => ?_⟩
      have hj : j < uN g.P i q i := hj
      rw [uN_s] at hj
      show _ = nI (C' i j)
      rw [C'1]
      rcases (show j = 0 ∨ j = 1 ∨ j = 2 by omega) with w | w | w
      · subst w; rw [pk_un (by omega), pk_un (by omega), show 3 * i + 0 = 3 * i from rfl, pk_us]; rfl
      · subst w; rw [pk_un (by omega), pk_us]; rfl
      · subst w; rw [pk_us, q3 (by omega)]; rfl
    · refine ⟨by rw [pk_un y]; exact (s5 i (by omega)).1.trans (congrArg nI (uN_n y).symm), fun j hj => ?_⟩
      have hj : j < uN g.P rc q i := hj
      rw [uN_n y] at hj
      have := p10.1 i (by omega)
      show _ = nI (C' i j)
      rw [C'2 i y, pk_un (by omega), pk_un (by omega), pk_un (by omega)]
      exact (s5 i (by omega)).2 j hj
end
