/-- the rules, on either side -/
def RcI (h : am_H) (g : Wk) (rc : Nat) : Prop := ∃ Pi Ci Bi Ai, RuI h Pi Ci Bi Ai ∧ (∀ i, i < rc → Pi i = nI (g.P i) ∧ ∀ j, j < g.P i → Ci i j = nI (g.C i j)) ∧ ∀ i, i < 3 → ∀ q, q < 3 → Bi i q = nI (g.Bf i q) ∧ Ai i q = nI (g.Af i q)
def RmJ (h : am_H) (g : Wk) (rc : Nat) : Prop := ∃ fp fl fb fa, h[84]? = some (aI 3 fp) ∧ h[85]? = some (aI 9 fl) ∧ h[86]? = some (aI 27 fb) ∧ h[87]? = some (aI 27 fa) ∧ (∀ i, i < rc → fp i = nI (g.P i) ∧ ∀ j, j < g.P i → fl (3 * i + j) = nI (g.C i j)) ∧ ∀ i, i < 3 → ∀ a b, a < b → b < 3 → fb (9 * i + 3 * a + b) = nI (g.Bf i (a + b - 1)) ∧ fa (9 * i + 3 * a + b) = nI (g.Af i (a + b - 1))
def RpI (g : Wk) (rc : Nat) : Prop := (∀ i, i < rc → (g.P i = 2 ∨ g.P i = 3) ∧ ∀ j, j < g.P i → g.C i j < 4) ∧ ∀ i, i < 3 → ∀ q, q < 3 → g.Bf i q < 4 ∧ g.Af i q < 4
theorem RcI.rl {h : am_H} {g : Wk} {rc : Nat} (hI : RcI h g rc) (hP : RpI g rc) (h3 : rc ≤ 3) : (∃ rr, h[42]? = some (.inl (.object "SpeciesRounds$Rule", 3, .inr (.inr (.inr (.inr rr))))) ∧ ∀ i, i < 3 → rr i = some (69 + 4 * i)) ∧ ∀ i, i < rc → RlI h (69 + 4 * i) (g.P i) (g.C i) (g.Bf i) (g.Af i) := by
  obtain ⟨Pi, Ci, Bi, Ai, ⟨r1, r2⟩, r3, r4⟩ := hI
  refine ⟨r1, fun i hi => ?_⟩
  obtain ⟨a1, a2, a3, a4⟩ := r2 i (by omega)
  obtain ⟨b1, b2⟩ := r3 i hi
  obtain ⟨p1, p2⟩ := hP.1 i hi
  rw [b1] at a1
  exact ⟨a1, p1, ⟨Ci i, a2, fun j hj => ⟨b2 j hj, p2 j hj⟩⟩, ⟨Bi i, a3, fun q hq => ⟨(r4 i (by omega) q hq).1, (hP.2 i (by omega) q hq).1⟩⟩, ⟨Ai i, a4, fun q hq => ⟨(r4 i (by omega) q hq).2, (hP.2 i (by omega) q hq).2⟩⟩⟩
theorem RmJ.rm {h : am_H} {g : Wk} {rc : Nat} (hI : RmJ h g rc) (hP : RpI g rc) (h3 : rc ≤ 3) : ∀ i, i < rc → RmI h i (g.P i) (g.C i) (g.Bf i) (g.Af i) := by
  obtain ⟨fp, fl, fb, fa, a1, a2, a3, a4, a5, a6⟩ := hI
  intro i hi
  obtain ⟨b1, b2⟩ := a5 i hi
  obtain ⟨p1, p2⟩ := hP.1 i hi
  exact ⟨p1, ⟨fp, a1, b1⟩, ⟨fl, a2, fun j hj => ⟨b2 j hj, p2 j hj⟩⟩, ⟨fb, a3, fun x y hxy hy => ⟨(a6 i (by omega) x y hxy hy).1, (hP.2 i (by omega) _ (by omega)).1⟩⟩, ⟨fa, a4, fun x y hxy hy => ⟨(a6 i (by omega) x y hxy hy).2, (hP.2 i (by omega) _ (by omega)).2⟩⟩⟩
/-- the class -/
def WcI (h : am_H) (g : Wk) (rc nl ln : Nat) (L : Nat → Nat → Nat) (f : Nat → Int32) : Prop :=
  h[0]? = some (sO (nI g.cap) (nI rc)) ∧ h[1]? = some (.inr (4, [.ref 2, .int (nI nl)])) ∧ h[2]? = some (.inl (.char, 24, .inl f)) ∧ (∃ r, RdR h r) ∧ KsI h ∧ TbC h g.n0 g.W ∧ (∃ f, h[41]? = some (aI 12 f)) ∧ ClX h ∧ (∃ f, h[59]? = some (aI 3 f)) ∧ (∃ jc k fw fj, h[61]? = some (pO jc k) ∧ h[62]? = some (aL 3 fw) ∧ h[63]? = some (aI 10 fj)) ∧ DrI h 64 ln L ∧ (∃ c f, h[66]? = some (lO 66 c) ∧ h[67]? = some (aI 40 f)) ∧ (∃ f, h[68]? = some (aI 5 f)) ∧ RcI h g rc
/-- the model -/
def WmI (h : am_H) (m : Nat → Int32) (g : Wk) (B : Nat → Nat) (rc nl ln : Nat) (L : Nat → Nat → Nat) (f : Nat → Int32) : Prop := h[81]? = some (mO m) ∧ MsI h ∧ m 0 = nI g.cap ∧ m 2 = nI nl ∧ m 5 = nI rc ∧ TbM h m g.n0 B ∧ MlI h m ln L ∧ (∃ f, h[91]? = some (aL 13 f)) ∧ h[82]? = some (aI 24 f) ∧ RmJ h g rc
/-- what they are of -/
def WpI (g : Wk) (B : Nat → Nat) (rc nl ln : Nat) (L : Nat → Nat → Nat) (f f' : Nat → Int32) : Prop := (2 ≤ g.cap ∧ g.cap ≤ 5) ∧ g.n0 ≤ 12 ∧ rc ≤ 3 ∧ nl ≤ 24 ∧ (∀ i, i < nl → f i = f' i ∧ 0 ≤ f i ∧ f i < 65536) ∧ (∀ i, i < g.n0 → Mol g.cap (g.W i) (B i)) ∧ (∀ i j, i < g.n0 → j < g.n0 → g.W i = g.W j → i = j) ∧ Sor ln L ∧ (∀ i, i < ln → RowOk g.n0 (L i)) ∧ RpI g rc
def Wrl (h : am_H) : Prop := ∃ m g B rc nl ln L f f', WcI h g rc nl ln L f ∧ WmI h m g B rc nl ln L f' ∧ WpI g B rc nl ln L f f'
theorem RdR.fr {h h' : am_H} {r : Rs} {P : Nat → Prop} (hI : RdR h r) (hf : am_fr P h h') (hP : ∀ i, rdP i → ¬ P i) : RdR h' r := by
  obtain ⟨h1, ⟨f2, h2, g2⟩, ⟨f3, h3, g3⟩, ⟨f4, h4, g4⟩, h5⟩ := hI
  have w : ∀ i, 3 ≤ i → i ≤ 34 → ¬ P i := fun i a b => hP i ⟨a, b⟩
  exact ⟨hf.at (w _ (by omega) (by omega)) h1, ⟨f2, hf.at (w _ (by omega) (by omega)) h2, g2⟩, ⟨f3, hf.at (w _ (by omega) (by omega)) h3, g3⟩, ⟨f4, hf.at (w _ (by omega) (by omega)) h4, g4⟩, h5.fr hf (fun i hi => w i (by have := hi.1; omega) (by have := hi.2; omega))⟩
theorem RcI.fr {h h' : am_H} {g : Wk} {rc : Nat} {P : Nat → Prop} (hI : RcI h g rc) (hf : am_fr P h h') (hP : ∀ i, i = 42 ∨ ruP i → ¬ P i) : RcI h' g rc := by
  obtain ⟨Pi, Ci, Bi, Ai, r1, r2⟩ := hI
  exact ⟨Pi, Ci, Bi, Ai, r1.fr hf hP, r2⟩
theorem RmJ.fr {h h' : am_H} {g : Wk} {rc : Nat} {P : Nat → Prop} (hI : RmJ h g rc) (hf : am_fr P h h') (hP : ∀ i, 84 ≤ i → i ≤ 87 → ¬ P i) : RmJ h' g rc := by
  obtain ⟨fp, fl, fb, fa, a1, a2, a3, a4, a5⟩ := hI
  exact ⟨fp, fl, fb, fa, hf.at (hP _ (by omega) (by omega)) a1, hf.at (hP _ (by omega) (by omega)) a2, hf.at (hP _ (by omega) (by omega)) a3, hf.at (hP _ (by omega) (by omega)) a4, a5⟩
theorem WcI.fr {h h' : am_H} {g : Wk} {rc nl ln : Nat} {L : Nat → Nat → Nat} {f : Nat → Int32} {P : Nat → Prop} (hI : WcI h g rc nl ln L f) (hf : am_fr P h h') (hP : ∀ i, P i → 81 ≤ i) : WcI h' g rc nl ln L f := by
  have w : ∀ i, i < 81 → ¬ P i := fun i hi z => by have := hP i z; omega
  obtain ⟨a0, a1, a2, ⟨r, a3⟩, a4, a5, ⟨f6, a6⟩, a7, ⟨f8, a8⟩, ⟨jc, k, fw, fj, a9, b9, c9⟩, a10, ⟨c11, f11, a11, b11⟩, ⟨f12, a12⟩, a13⟩ := hI
  exact ⟨hf.at (w _ (by omega)) a0, hf.at (w _ (by omega)) a1, hf.at (w _ (by omega)) a2, ⟨r, a3.fr hf (fun i hi => w i (by have := hi.2; omega))⟩, a4.fr hf (fun i _ h2 => w i (by omega)), a5.fr hf ⟨w _ (by omega), w _ (by omega)⟩, ⟨f6, hf.at (w _ (by omega)) a6⟩, a7.fr hf (fun i hi => w i (by omega)), ⟨f8, hf.at (w _ (by omega)) a8⟩, ⟨jc, k, fw, fj, hf.at (w _ (by omega)) a9, hf.at (w _ (by omega)) b9, hf.at (w _ (by omega)) c9⟩, a10.fr hf ⟨w _ (by omega), w _ (by omega)⟩, ⟨c11, f11, hf.at (w _ (by omega)) a11, hf.at (w _ (by omega)) b11⟩, ⟨f12, hf.at (w _ (by omega)) a12⟩, a13.fr hf (fun i hi => w i (by rcases hi with hi | hi; omega; have := hi.2; omega))⟩
theorem WmI.fr {h h' : am_H} {m : Nat → Int32} {g : Wk} {B : Nat → Nat} {rc nl ln : Nat} {L : Nat → Nat → Nat} {f : Nat → Int32} {P : Nat → Prop} (hI : WmI h m g B rc nl ln L f) (hf : am_fr P h h') (hP : ∀ i, P i → i < 81) : WmI h' m g B rc nl ln L f := by
  have w : ∀ i, 81 ≤ i → ¬ P i := fun i hi z => by have := hP i z; omega
  obtain ⟨a0, a1, a2, a3, a4, a5, a6, ⟨f7, a7⟩, a8, a9⟩ := hI
  exact ⟨hf.at (w _ (by omega)) a0, a1.fr hf (fun i hi hz => by
    have := hP i hi
    have : msZ i = 0 := by unfold msZ; simp only [show i ≠ 89 by omega, show i ≠ 90 by omega, show i ≠ 92 by omega, show i ≠ 93 by omega, show i ≠ 94 by omega, show i ≠ 95 by omega, show i ≠ 96 by omega, show i ≠ 97 by omega, show i ≠ 98 by omega, show i ≠ 99 by omega, show i ≠ 100 by omega, show i ≠ 101 by omega, show i ≠ 102 by omega, show i ≠ 103 by omega, show i ≠ 104 by omega, if_false]
    exact absurd this hz), a2, a3, a4, a5.fr hf (w _ (by omega)) rfl, a6.fr hf (w _ (by omega)) rfl, ⟨f7, hf.at (w _ (by omega)) a7⟩, hf.at (w _ (by omega)) a8, a9.fr hf (fun i h1 _ => w i (by omega))⟩
theorem WpI.ok {g : Wk} {B : Nat → Nat} {rc nl ln : Nat} {L : Nat → Nat → Nat} {f f' : Nat → Int32} (h : WpI g B rc nl ln L f f') : WkOk g rc := by
  obtain ⟨p1, p2, p3, -, -, p6, -, -, -, p10⟩ := h
  exact ⟨p1, p2, p3, fun i hi => ⟨B i, p6 i hi⟩, fun r hr => ⟨(p10.1 r hr).1, fun q hq => (p10.2 r (by omega) q hq).1, fun q hq => (p10.2 r (by omega) q hq).2⟩⟩
/-- a call on both -/
def Pair (lx : am_Lx) (d c mm : Nat) (As : List Value) (h : am_H) : Prop := am_KA lx d c (.ref 0 :: As) h (fun v h1 => ∃ (a : Int32) (m : Nat → Int32), v = some (.int a) ∧ h1[81]? = some (mO m) ∧ am_KA lx d mm (.ref 81 :: As) h1 (fun v' h2 => v' = some (.int a) ∧ Wrl h2))
section
variable {lx : am_Lx} {d : Nat} {h : am_H} {Q : am_Q} {m : Nat → Int32}
theorem sp_1 (hd : 2 ≤ d) {cap rc : Int32} {n : Nat} {f : Nat → Int32} {x : Int32} (h0 : h[0]? = some (sO cap rc)) (h1 : h[1]? = some (.inr (4, [.ref 2, .int (nI n)]))) (h2 : h[2]? = some (.inl (.char, 24, .inl f))) (hn : n ≤ 24)
    (hno : (x < 32 ∨ 126 < x ∨ n = 24) → Q (some (.int 0)) h) (hyes : ¬ x < 32 → ¬ 126 < x → n < 24 → Q (some (.int 1)) ((h.set 2 (.inl (.char, 24, .inl (upd f n (vp_nar .char x))))).set 1 (.inr (4, [.ref 2, .int (nI (n + 1))])))) : am_KA lx d 1 [.ref 0, .int x] h Q := by
  obtain ⟨e, rfl⟩ : ∃ e, d = e + 1 := ⟨d - 1, by omega⟩
  have G : am_GK (am_KA lx e) cd_1 := ⟨am_KA_m lx e, cm_1⟩
  refine am_KA_in (by decide) (Nat.le_of_ble_eq_true rfl) ?_
  show am_Go (am_KA lx e) (am_fetch cd_1) Q 0 [some (.ref 0), some (.int x)] [] h 0 0
  refine r_ra G (pn := 1) rfl rfl rfl ?_
  refine r_get G (pn := 4) rfl rfl (by first | assumption | (repeat (first | assumption | exact am_eq (by first | assumption | exact am_eq (by assumption) | exact am_ne (by first | decide | omega) (by assumption)) | refine am_ne (by first | decide | omega) ?_))) rfl ?_
  refine r_il G (pn := 5) rfl rfl rfl ?_
  refine r_inv2 G (pn := 8) rfl rfl h1 (Nat.le_of_ble_eq_true rfl) (Nat.le_of_ble_eq_true rfl) (Nat.le_of_ble_eq_true rfl) (sp_87 (by omega) h1 h2 hn (fun z => ?_) (fun z1 z2 z3 => ?_))
  · show am_Go (am_KA lx e) (am_fetch cd_1) Q 8 [some (.ref 0), some (.int x)] [.int 0] h 0 0
    refine r_iret G rfl (by decide) (hno z)
  · show am_Go (am_KA lx e) (am_fetch cd_1) Q 8 [some (.ref 0), some (.int x)] [.int 1] ((h.set 2 (.inl (.char, 24, .inl (upd f n (vp_nar .char x))))).set 1 (.inr (4, [.ref 2, .int (nI (n + 1))] ))) 0 0
    refine r_iret G rfl (by decide) (hyes z1 z2 z3)
theorem sp_2 (hd : 2 ≤ d) {cap rc : Int32} {n : Nat} (h0 : h[0]? = some (sO cap rc)) (h1 : h[1]? = some (.inr (4, [.ref 2, .int (nI n)]))) (hn : n ≤ 24)
    (hno : n = 0 → Q (some (.int 0)) h) (hyes : ∀ k, n = k + 1 → Q (some (.int 1)) (h.set 1 (.inr (4, [.ref 2, .int (nI k)])))) : am_KA lx d 2 [.ref 0] h Q := by
  obtain ⟨e, rfl⟩ : ∃ e, d = e + 1 := ⟨d - 1, by omega⟩
  have G : am_GK (am_KA lx e) cd_2 := ⟨am_KA_m lx e, cm_2⟩
  refine am_KA_in (by decide) (Nat.le_of_ble_eq_true rfl) ?_
  show am_Go (am_KA lx e) (am_fetch cd_2) Q 0 [some (.ref 0)] [] h 0 0
  refine r_ra G (pn := 1) rfl rfl rfl ?_
  refine r_get G (pn := 4) rfl rfl (by first | assumption | (repeat (first | assumption | exact am_eq (by first | assumption | exact am_eq (by assumption) | exact am_ne (by first | decide | omega) (by assumption)) | refine am_ne (by first | decide | omega) ?_))) rfl ?_
  refine r_inv1 G (pn := 7) rfl rfl h1 (Nat.le_of_ble_eq_true rfl) (Nat.le_of_ble_eq_true rfl) (Nat.le_of_ble_eq_true rfl) (sp_88 (by omega) h1 hn (fun z => ?_) (fun k z => ?_))
  · show am_Go (am_KA lx e) (am_fetch cd_2) Q 7 [some (.ref 0)] [.int 0] h 0 0
    refine r_iret G rfl (by decide) (hno z)
  · show am_Go (am_KA lx e) (am_fetch cd_2) Q 7 [some (.ref 0)] [.int 1] (h.set 1 (.inr (4, [.ref 2, .int (nI k)] ))) 0 0
    refine r_iret G rfl (by decide) (hyes k z)
theorem nar_ch {x : Int32} (h1 : ¬ x < 32) (h2 : ¬ 126 < x) : vp_nar .char x = x ∧ 0 ≤ x ∧ x < 65536 := by
  obtain ⟨k, hk, e⟩ := in_nat (n := 127) (x := x) (by omega) (fun z => h1 (Int32.lt_trans z (by decide))) (fun z => h2 (Int32.lt_of_lt_of_le (by decide) z))
  subst e
  have : ∀ k, k < 127 → vp_nar .char (nI k) = nI k ∧ (0 : Int32) ≤ nI k ∧ nI k < 65536 := by decide +kernel
  exact this k hk
theorem p_key (hd : 2 ≤ d) {x : Int32} (hW : Wrl h) : Pair lx d 1 27 [.int x] h := by
  obtain ⟨m, g, B, rc, nl, ln, L, f, f', hC, hM, hP⟩ := hW
  obtain ⟨c0, c1, c2, cr⟩ := id hC
  obtain ⟨m81, ms, m0, m2, m5, mT, mL, m91, m82, mR⟩ := id hM
  obtain ⟨p1, p2, p3, p4, p5, pr⟩ := id hP
  refine sp_1 hd c0 c1 c2 p4 (fun z => ⟨0, m, rfl, m81, sp_27 (by omega) m81 m82 m2 p4 (fun _ => ⟨rfl, m, g, B, rc, nl, ln, L, f, f', hC, hM, hP⟩) (fun z1 z2 z3 => ?_)⟩) (fun z1 z2 z3 => ⟨1, m, rfl, am_ne (by decide) (am_ne (by decide) m81), sp_27 (by omega) (am_ne (by decide) (am_ne (by decide) m81)) (am_ne (by decide) (am_ne (by decide) m82)) m2 p4 (fun z => ?_) (fun _ _ _ => ⟨rfl, upd m 2 (nI (nl + 1)), g, B, rc, nl + 1, ln, L, upd f nl (vp_nar .char x), upd f' nl x, ?_, ?_, ?_⟩)⟩)
  · rcases z with z | z | z
    · exact absurd z z1
    · exact absurd z z2
    · omega
  · rcases z with z | z | z
    · exact absurd z z1
    · exact absurd z z2
    · omega
  · obtain ⟨a3, a4, a5, ⟨f6, a6⟩, a7, ⟨f8, a8⟩, ⟨jc, k, fw, fj, a9, b9, c9⟩, a10, ⟨c11, f11, a11, b11⟩, ⟨f12, a12⟩, a13⟩ := cr
    obtain ⟨r, a3⟩ := a3
    have qf : am_fr (fun i => i = 1 ∨ i = 2 ∨ i = 81 ∨ i = 82) h (((((h.set 2 (.inl (.char, 24, .inl (upd f nl (vp_nar .char x))))).set 1 (.inr (4, [.ref 2, .int (nI (nl + 1))])))).set 82 (.inl (.int, 24, .inl (upd f' nl x)))).set 81 (mO (upd m 2 (nI (nl + 1))))) := ((((am_fr.rf.put (Or.inr (Or.inl rfl))).put (Or.inl rfl)).put (Or.inr (Or.inr (Or.inr rfl)))).put (Or.inr (Or.inr (Or.inl rfl))))
    exact ⟨qf.at (by omega) c0, am_ne (by decide) (am_ne (by decide) (am_eq (am_ne (by decide) c1))), am_ne (by decide) (am_ne (by decide) (am_ne (by decide) (am_eq c2))), ⟨r, a3.fr qf (fun i hi z => by have := hi.1; have := hi.2; omega)⟩, a4.fr qf (fun i h1 h2 z => by omega), a5.fr qf ⟨by omega, by omega⟩, ⟨f6, qf.at (by omega) a6⟩, a7.fr qf (fun i hi z => by omega), ⟨f8, qf.at (by omega) a8⟩, ⟨jc, k, fw, fj, qf.at (by omega) a9, qf.at (by omega) b9, qf.at (by omega) c9⟩, a10.fr qf ⟨by omega, by omega⟩, ⟨c11, f11, qf.at (by omega) a11, qf.at (by omega) b11⟩, ⟨f12, qf.at (by omega) a12⟩, a13.fr qf (fun i hi z => by rcases hi with hi | hi; omega; have := hi.1; have := hi.2; omega)⟩
  · have qf : am_fr (fun i => i = 1 ∨ i = 2 ∨ i = 81 ∨ i = 82) h (((((h.set 2 (.inl (.char, 24, .inl (upd f nl (vp_nar .char x))))).set 1 (.inr (4, [.ref 2, .int (nI (nl + 1))])))).set 82 (.inl (.int, 24, .inl (upd f' nl x)))).set 81 (mO (upd m 2 (nI (nl + 1))))) := ((((am_fr.rf.put (Or.inr (Or.inl rfl))).put (Or.inl rfl)).put (Or.inr (Or.inr (Or.inr rfl)))).put (Or.inr (Or.inr (Or.inl rfl))))
    obtain ⟨f9, m91⟩ := m91
    exact ⟨am_eq (am_ne (by decide) (am_ne (by decide) (am_ne (by decide) m81))), ms.fr qf (fun i hi hz => by rcases hi with hi | hi | hi | hi <;> subst hi <;> exact absurd rfl hz), (pk_un (by omega)).trans m0, pk_us, (pk_un (by omega)).trans m5, mT.fr qf (by omega) (pk_un (by omega)), mL.fr qf (by omega) (pk_un (by omega)), ⟨f9, qf.at (by omega) m91⟩, am_ne (by decide) (am_eq (am_ne (by decide) (am_ne (by decide) m82))), mR.fr qf (fun i h1 h2 z => by omega)⟩
  · refine ⟨p1, p2, p3, by omega, fun i hi => ?_, pr⟩
    by_cases y : i = nl
    · obtain ⟨e1, e2, e3⟩ := nar_ch z1 z2
      rw [y, pk_us, pk_us, e1]
      exact ⟨rfl, e2, e3⟩
    · rw [pk_un y, pk_un y]
      exact p5 i (by omega)
theorem WcI.line {h h' : am_H} {g : Wk} {rc nl nl' ln : Nat} {L : Nat → Nat → Nat} {f : Nat → Int32} (hI : WcI h g rc nl ln L f) (hf : am_fr (fun i => i = 1) h h') (h1 : h'[1]? = some (.inr (4, [.ref 2, .int (nI nl')]))) : WcI h' g rc nl' ln L f := by
  obtain ⟨a0, -, a2, ⟨r, a3⟩, a4, a5, ⟨f6, a6⟩, a7, ⟨f8, a8⟩, ⟨jc, k, fw, fj, a9, b9, c9⟩, a10, ⟨c11, f11, a11, b11⟩, ⟨f12, a12⟩, a13⟩ := hI
  exact ⟨hf.at (by omega) a0, h1, hf.at (by omega) a2, ⟨r, a3.fr hf (fun i hi z => by have := hi.1; omega)⟩, a4.fr hf (fun i h1 h2 z => by omega), a5.fr hf ⟨by omega, by omega⟩, ⟨f6, hf.at (by omega) a6⟩, a7.fr hf (fun i hi z => by omega), ⟨f8, hf.at (by omega) a8⟩, ⟨jc, k, fw, fj, hf.at (by omega) a9, hf.at (by omega) b9, hf.at (by omega) c9⟩, a10.fr hf ⟨by omega, by omega⟩, ⟨c11, f11, hf.at (by omega) a11, hf.at (by omega) b11⟩, ⟨f12, hf.at (by omega) a12⟩, a13.fr hf (fun i hi z => by rcases hi with hi | hi; omega; have := hi.1; omega)⟩
theorem p_back (hd : 2 ≤ d) (hW : Wrl h) : Pair lx d 2 28 [] h := by
  obtain ⟨m, g, B, rc, nl, ln, L, f, f', hC, hM, hP⟩ := hW
  obtain ⟨c0, c1, c2, cr⟩ := id hC
  obtain ⟨m81, ms, m0, m2, m5, mT, mL, m91, m82, mR⟩ := id hM
  obtain ⟨p1, p2, p3, p4, p5, pr⟩ := id hP
  refine sp_2 hd c0 c1 p4 (fun z => ⟨0, m, rfl, m81, sp_28 (by omega) m81 m2 p4 (fun _ => ⟨rfl, m, g, B, rc, nl, ln, L, f, f', hC, hM, hP⟩) (fun k e => by omega)⟩) (fun k e => ⟨1, m, rfl, am_ne (by decide) m81, sp_28 (by omega) (am_ne (by decide) m81) m2 p4 (fun z => by omega) (fun k' e' => ⟨rfl, upd m 2 (nI k'), g, B, rc, k', ln, L, f, f', ?_, ?_, ?_⟩)⟩)
  · obtain rfl : k' = k := by omega
    have qa : am_fr (fun i => i = 1) h (h.set 1 (.inr (4, [.ref 2, .int (nI k')]))) := am_fr.rf.put rfl
    have qb : am_fr (fun i => i = 81) (h.set 1 (.inr (4, [.ref 2, .int (nI k')]))) ((h.set 1 (.inr (4, [.ref 2, .int (nI k')]))).set 81 (mO (upd m 2 (nI k')))) := am_fr.rf.put rfl
    exact (hC.line qa (am_eq c1)).fr qb (fun i hi => by omega)
  · obtain ⟨f9, m91⟩ := m91
    have qf : am_fr (fun i => i = 1 ∨ i = 81) h ((h.set 1 (.inr (4, [.ref 2, .int (nI k)]))).set 81 (mO (upd m 2 (nI k')))) := (am_fr.rf.put (Or.inl rfl)).put (Or.inr rfl)
    exact ⟨am_eq (am_ne (by decide) m81), ms.fr qf (fun i hi hz => by rcases hi with hi | hi <;> subst hi <;> exact absurd rfl hz), (pk_un (by omega)).trans m0, pk_us, (pk_un (by omega)).trans m5, mT.fr qf (by omega) (pk_un (by omega)), mL.fr qf (by omega) (pk_un (by omega)), ⟨f9, qf.at (by omega) m91⟩, qf.at (by omega) m82, mR.fr qf (fun i h1 h2 z => by omega)⟩
  · exact ⟨p1, p2, p3, by omega, fun i hi => p5 i (by omega), pr⟩
theorem p_species (hd : 2 ≤ d) (hW : Wrl h) : Pair lx d 4 43 [] h := by
  obtain ⟨m, g, B, rc, nl, ln, L, f, f', hC, hM, hP⟩ := id hW
  obtain ⟨c0, -, -, -, -, ⟨t39, -⟩, -⟩ := id hC
  obtain ⟨m81, -, -, -, -, ⟨m3, -⟩, -⟩ := id hM
  refine sp_4 (by omega) c0 t39 ⟨nI g.n0, m, rfl, m81, sp_43 (by omega) m81 ⟨by rw [m3], hW⟩⟩
theorem p_reactions (hd : 2 ≤ d) (hW : Wrl h) : Pair lx d 12 68 [] h := by
  obtain ⟨m, g, B, rc, nl, ln, L, f, f', hC, hM, hP⟩ := id hW
  obtain ⟨c0, -, -, -, -, -, -, -, -, -, ⟨l64, -⟩, -⟩ := id hC
  obtain ⟨m81, -, -, -, -, -, ⟨m10, -⟩, -⟩ := id hM
  refine sp_12 (by omega) c0 l64 ⟨nI ln, m, rfl, m81, sp_68 (by omega) m81 ⟨by rw [m10], hW⟩⟩
theorem ix_cases {x : Int32} {n : Nat} (hn : n < 2 ^ 31) : (x < 0 ∨ nI n ≤ x) ∨ ∃ j, j < n ∧ x = nI j := by
  by_cases h1 : x < 0
  · exact Or.inl (Or.inl h1)
  · by_cases h2 : nI n ≤ x
    · exact Or.inl (Or.inr h2)
    · exact Or.inr (in_nat hn h1 h2)
theorem nIx {i n : Nat} (hn : n < 2 ^ 31) (hi : i < n) : ¬ nI i < 0 ∧ ¬ nI n ≤ nI i := ⟨nI_pos (by omega), fun z => by have := (nI_leI (by omega) (by omega)).mp z; omega⟩
theorem p_size (hd : 3 ≤ d) {x : Int32} (hW : Wrl h) : Pair lx d 5 45 [.int x] h := by
  obtain ⟨m, g, B, rc, nl, ln, L, f, f', hC, hM, hP⟩ := id hW
  obtain ⟨c0, -, -, -, -, ⟨t39, wd, t40, tw⟩, -⟩ := id hC
  obtain ⟨m81, -, -, -, -, ⟨m3, ky, m83, tk⟩, -⟩ := id hM
  obtain ⟨p1, p2, -, -, -, p6, -⟩ := id hP
  rcases ix_cases (x := x) (n := g.n0) (by omega) with z | ⟨j, hj, e⟩
  · exact sp_5_no hd c0 t39 z ⟨-1, m, rfl, m81, sp_45_no hd m81 (by rw [m3]; exact z) ⟨rfl, hW⟩⟩
  · subst e
    have hw := (p6 j hj).w p1.2
    refine sp_5 hd c0 t39 t40 p2 hj (tw j hj).1 (tw j hj).2 ⟨nI (wN (g.W j)), m, rfl, m81, sp_45 hd m81 m3 m83 p2 hj (tk j hj).1 (tk j hj).2 ⟨by rw [hw.2.2.1], hW⟩⟩
theorem p_atom (hd : 4 ≤ d) {x y : Int32} (hW : Wrl h) : Pair lx d 6 47 [.int x, .int y] h := by
  obtain ⟨m, g, B, rc, nl, ln, L, f, f', hC, hM, hP⟩ := id hW
  obtain ⟨c0, -, -, -, -, ⟨t39, wd, t40, tw⟩, -⟩ := id hC
  obtain ⟨m81, -, -, -, -, ⟨m3, ky, m83, tk⟩, -⟩ := id hM
  obtain ⟨p1, p2, -, -, -, p6, -⟩ := id hP
  rcases ix_cases (x := x) (n := g.n0) (by omega) with z | ⟨j, hj, e⟩
  · exact sp_6_no hd c0 t39 z ⟨-1, m, rfl, m81, sp_47_no hd m81 (by rw [m3]; exact z) ⟨rfl, hW⟩⟩
  · subst e
    obtain ⟨w1, w2, w3, w4, w5, -⟩ := (p6 j hj).w p1.2
    have w25 : wN (g.W j) ≤ 5 := by omega
    refine sp_6 hd c0 t39 t40 p2 hj (tw j hj).1 (tw j hj).2 w25 (fun z => ⟨-1, m, rfl, m81, sp_47 hd m81 m3 m83 p2 hj (tk j hj).1 (tk j hj).2 (by omega) (fun _ => ⟨rfl, hW⟩) (fun i e hi => ?_)⟩) (fun i e hi => ⟨_, m, rfl, m81, sp_47 hd m81 m3 m83 p2 hj (tk j hj).1 (tk j hj).2 (by omega) (fun z => ?_) (fun i' e' hi' => ⟨?_, hW⟩)⟩)
    · subst e
      rw [w3] at hi
      have := nIx (n := wN (g.W j)) (by omega) hi
      exact absurd z (fun z => z.elim this.1 this.2)
    · subst e
      rw [w3] at z
      have := nIx (n := wN (g.W j)) (by omega) hi
      exact absurd z (fun z => z.elim this.1 this.2)
    · have hi : i < wN (g.W j) := hi
      have ei : i = i' := (nI_eq (by omega) (by omega)).mp (e.symm.trans e')
      rw [← ei, w4 i hi]
      rfl
theorem p_bond (hd : 4 ≤ d) {x y u : Int32} (hW : Wrl h) : Pair lx d 7 48 [.int x, .int y, .int u] h := by
  obtain ⟨m, g, B, rc, nl, ln, L, f, f', hC, hM, hP⟩ := id hW
  obtain ⟨c0, -, -, -, -, ⟨t39, wd, t40, tw⟩, -⟩ := id hC
  obtain ⟨m81, -, -, -, -, ⟨m3, ky, m83, tk⟩, -⟩ := id hM
  obtain ⟨p1, p2, -, -, -, p6, -⟩ := id hP
  rcases ix_cases (x := x) (n := g.n0) (by omega) with z | ⟨j, hj, e⟩
  · exact sp_7_no hd c0 t39 z ⟨-1, m, rfl, m81, sp_48_no hd m81 (by rw [m3]; exact z) ⟨rfl, hW⟩⟩
  · subst e
    obtain ⟨w1, w2, w3, w4, w5, -⟩ := (p6 j hj).w p1.2
    have w25 : wN (g.W j) ≤ 5 := by omega
    have bad : ∀ {i k : Nat}, i < wN (g.W j) → k < wN (g.W j) → ¬ (nI i < 0 ∨ nI (wN (g.W j)) ≤ nI i ∨ nI k < 0 ∨ nI (wN (g.W j)) ≤ nI k) := by
      intro i k hi hk z
      have a := nIx (n := wN (g.W j)) (by omega) hi
      have b := nIx (n := wN (g.W j)) (by omega) hk
      exact z.elim a.1 (fun z => z.elim a.2 (fun z => z.elim b.1 b.2))
    refine sp_7 hd c0 t39 t40 p2 hj (tw j hj).1 (tw j hj).2 w25 (fun z => ⟨-1, m, rfl, m81, sp_48 hd m81 m3 m83 p2 hj (tk j hj).1 (tk j hj).2 (by omega) (fun _ => ⟨rfl, hW⟩) (fun i k e1 e2 hi hk => ?_)⟩) (fun i k e1 e2 hi hk => ⟨_, m, rfl, m81, sp_48 hd m81 m3 m83 p2 hj (tk j hj).1 (tk j hj).2 (by omega) (fun z => ?_) (fun i' k' e1' e2' hi' hk' => ⟨?_, hW⟩)⟩)
    · subst e1; subst e2
      rw [w3] at hi hk
      exact absurd z (bad hi hk)
    · subst e1; subst e2
      rw [w3] at z
      exact absurd z (bad hi hk)
    · have hi : i < wN (g.W j) := hi
      have hk : k < wN (g.W j) := hk
      have ei : i = i' := (nI_eq (by omega) (by omega)).mp (e1.symm.trans e1')
      have ek : k = k' := (nI_eq (by omega) (by omega)).mp (e2.symm.trans e2')
      rw [← ei, ← ek, w5 i k hi hk]
      rfl
theorem p_reaction (hd : 4 ≤ d) {x y : Int32} (hW : Wrl h) : Pair lx d 13 69 [.int x, .int y] h := by
  obtain ⟨m, g, B, rc, nl, ln, L, f, f', hC, hM, hP⟩ := id hW
  obtain ⟨c0, -, -, -, -, -, -, -, -, -, ⟨l64, l40, fl, l65, gl⟩, -⟩ := id hC
  obtain ⟨m81, -, -, -, -, -, ⟨m10, -, fm, m88, gm⟩, -⟩ := id hM
  refine sp_13 (by omega) c0 l64 l65 l40 (fun i hi => ⟨_, (gl i hi).1, by have := e16_b (gl i hi).2; omega⟩) (fun z => ⟨-2, m, rfl, m81, sp_69 (by omega) m81 m10 m88 l40 (fun _ => ⟨rfl, hW⟩) (fun i k e1 e2 hi hk => ?_)⟩) (fun i k r e1 e2 hi hk er hr => ⟨_, m, rfl, m81, sp_69 (by omega) m81 m10 m88 l40 (fun z => ?_) (fun i' k' e1' e2' hi' hk' => ⟨?_, hW⟩)⟩)
  · subst e1; subst e2
    have a := nIx (n := ln) (by omega) hi
    have b := nIx (n := 5) (by omega) hk
    exact absurd z (fun z => z.elim a.1 (fun z => z.elim a.2 (fun z => z.elim b.1 b.2)))
  · subst e1; subst e2
    have a := nIx (n := ln) (by omega) hi
    have b := nIx (n := 5) (by omega) hk
    exact absurd z (fun z => z.elim a.1 (fun z => z.elim a.2 (fun z => z.elim b.1 b.2)))
  · have ei : i = i' := (nI_eq (by omega) (by omega)).mp (e1.symm.trans e1')
    have ek : k = k' := (nI_eq (by omega) (by omega)).mp (e2.symm.trans e2')
    have er2 : r = e16 (L i) 5 := (nI_eq (by omega) (by have := e16_b (gl i hi).2; omega)).mp (er.symm.trans (gl i hi).1)
    rw [← ei, ← ek, (gm i hi k hk).1, er2, e16_dig (gl i hi).2 hk]
end
