theorem srt_viewG {fv f : Nat → Int32} {v : Nat → Nat} {M a n : Nat} (hM : M ≤ 1000) (han : a + n ≤ 5) (hv : ∀ k, k < 5 → fv k = nI (v k) - 1 ∧ v k < M) (s1 : ∀ p q, a ≤ p → p < q → q < a + n → f p ≤ f q) (s2 : ∀ P : Int32 → Bool, cn P f a n = cn P fv a n) (s3 : ∀ q, (q < a ∨ a + n ≤ q) → f q = fv q) : ∃ t : Nat → Nat, (∀ k, k < 5 → f k = nI (t k) - 1 ∧ t k < M) ∧ (∀ p q, a ≤ p → p < q → q < a + n → t p ≤ t q) ∧ (∀ P : Nat → Bool, cn P t a n = cn P v a n) ∧ ∀ q, q < 5 → (q < a ∨ a + n ≤ q) → t q = v q := by
  have mem : ∀ k, k < 5 → ∃ j, j < 5 ∧ f k = fv j := by
    intro k hk
    by_cases z : k < a ∨ a + n ≤ k
    · exact ⟨k, hk, s3 k z⟩
    · have h1 : 1 ≤ cn (fun x => decide (x = f k)) f a n := cn_pos (P := fun x => decide (x = f k)) (f := f) (a := a) (i := k - a) (by rw [show a + (k - a) = k by omega]; exact decide_eq_true rfl) (by omega)
      rw [s2] at h1
      obtain ⟨j, hj, e⟩ := cn_ex h1
      exact ⟨a + j, by omega, (of_decide_eq_true e).symm⟩
  have e : ∀ k, k < 5 → f k = nI (tn (f k)) - 1 ∧ tn (f k) < M := by
    intro k hk
    obtain ⟨j, hj, ej⟩ := mem k hk
    obtain ⟨v1, v2⟩ := hv j hj
    rw [ej, v1, tn_m1 (by omega)]
    exact ⟨rfl, v2⟩
  refine ⟨fun k => tn (f k), e, fun p q h1 h2 h3 => ?_, fun P => ?_, fun q hq hh => ?_⟩
  · have := s1 p q h1 h2 h3
    obtain ⟨a1, a2⟩ := e p (by omega)
    obtain ⟨b1, b2⟩ := e q (by omega)
    rw [a1, b1] at this
    show tn (f p) ≤ tn (f q)
    exact (m1_le (by omega) (by omega)).mp this
  · rw [show cn P (fun k => tn (f k)) a n = _ from cn_mapG (f := f) (g := tn), s2, ← show cn P (fun k => tn (fv k)) a n = _ from cn_mapG (f := fv) (g := tn)]
    refine cn_congr (fun i hi => ?_)
    show tn (fv (a + i)) = v (a + i)
    obtain ⟨v1, v2⟩ := hv (a + i) (by omega)
    rw [v1, tn_m1 (by omega)]
  · show tn (f q) = v q
    rw [s3 q hh, (hv q hq).1, tn_m1 (by have := (hv q hq).2; omega)]
theorem ev_mm (s : Nat) (ot : Option Nat) : evA s ot = min (s + 1) (oti ot) ∧ evB s ot = max (s + 1) (oti ot) := by
  cases ot with
  | none => exact ⟨by show 0 = min (s + 1) 0; omega, by show s + 1 = max (s + 1) 0; omega⟩
  | some t => exact ⟨by show min s t + 1 = min (s + 1) (t + 1); omega, by show max s t + 1 = max (s + 1) (t + 1); omega⟩
theorem two_sort {t v : Nat → Nat} (h : t 0 ≤ t 1) (hc : ∀ P : Nat → Bool, cn P t 0 2 = cn P v 0 2) : t 0 = min (v 0) (v 1) ∧ t 1 = max (v 0) (v 1) := by
  have u := srt_uniqN (f := t) (g := fun i => if i = 0 then min (v 0) (v 1) else max (v 0) (v 1)) (a := 0) (k := 2) (fun i j hij hj => by
    rcases (show i = 0 ∧ j = 1 by omega) with ⟨z1, z2⟩
    subst z1; subst z2
    exact h) (fun i j hij hj => by
    rcases (show i = 0 ∧ j = 1 by omega) with ⟨z1, z2⟩
    subst z1; subst z2
    show min (v 0) (v 1) ≤ max (v 0) (v 1)
    omega) (fun P => by
    rw [hc P]
    show 0 + (if P (v 0) = true then 1 else 0) + (if P (v 1) = true then 1 else 0) = 0 + (if P (min (v 0) (v 1)) = true then 1 else 0) + (if P (max (v 0) (v 1)) = true then 1 else 0)
    rcases Nat.le_total (v 0) (v 1) with z | z
    · rw [Nat.min_eq_left z, Nat.max_eq_right z]
    · rw [Nat.min_eq_right z, Nat.max_eq_left z]
      omega)
  exact ⟨u 0 (by omega), u 1 (by omega)⟩
/-- the rows that a round of the model has -/
def MwI (h : am_H) (m : Nat → Int32) (rn : Nat) (R : Nat → Nat → Nat) : Prop := m 12 = nI rn ∧ rn ≤ 40 ∧ ∃ f, h[89]? = some (aI 205 f) ∧ ∀ i, i < rn → ∀ k, k < 5 → f (5 * i + k) = nI (R i k) - 1 ∧ R i k < 26
theorem MwI.fr {h h' : am_H} {m m' : Nat → Int32} {rn : Nat} {R : Nat → Nat → Nat} {P : Nat → Prop} (hI : MwI h m rn R) (hf : am_fr P h h') (hP : ¬ P 89) (hm : m' 12 = m 12) : MwI h' m' rn R := by
  obtain ⟨h1, h2, f, h3, h4⟩ := hI
  exact ⟨hm.trans h1, h2, f, hf.at hP h3, h4⟩
def noP (i : Nat) : Prop := i = 81 ∨ i = 89 ∨ i = 90
section
variable {lx : am_Lx} {d : Nat} {h : am_H} {Q : am_Q} {m : Nat → Int32}
set_option maxRecDepth 20000 in
theorem sp_62 (hd : 2 ≤ d) {n0 u rn s k : Nat} {ot : Option Nat} {W U w : Nat → Nat} {Ws : Nat → Prop} {A : Nat → Nat → (Nat → Nat) → Prop} {R : Nat → Nat → Nat} {f4 : Nat → Int32} (hM : h[81]? = some (mO m)) (hS : MsI h) (hn0 : n0 ≤ 12) (hu : u ≤ 12) (hR : Run n0 W (nuM n0) Ws A u U rn R) (hW : MwI h m rn R) (m18 : m 18 = 0) (m34 : m 34 = nI k) (hk : 1 ≤ k ∧ k ≤ 3) (h104 : h[104]? = some (aI 3 f4)) (hpr : ∀ i, i < k → ∃ j, j < u ∧ U j = w i ∧ f4 i = nI (nuM n0 j) - 1) (hs : s < n0) (ht : ∀ t, ot = some t → t < n0)
    (hyes : ∀ h' m' rn' R' A', am_fr noP h h' → (∀ i, i ≠ 12 → m' i = m i) → h'[81]? = some (mO m') → MsI h' → MwI h' m' rn' R' → Run n0 W (nuM n0) Ws A' u U rn' R' → (∀ a' b' y', A' a' b' y' ↔ (A a' b' y' ∨ (¬ Same W (evA s ot) (evB s ot) (padY k w) ∧ a' = evA s ot ∧ b' = evB s ot ∧ y' = padY k w))) → Q none h')
    (hover : ∀ h' t, am_fr noP h h' → h'[81]? = some (mO (upd m 18 1)) → MsI h' → MwI h' (upd m 18 1) rn R → rn = 40 → ¬ Same W (evA s ot) (evB s ot) (padY k w) → den (nuM n0) u U t (evA s ot) (evB s ot) (padY k w) → (∀ i, i < rn → ¬ eq5 (R i) t) → Q none h') : am_KA lx d 62 [.ref 81, .int (nI s), .int (otI ot)] h Q := by
  have nuo := nuM_ok hn0
  obtain ⟨q1, q2, q3, -⟩ := id hR
  obtain ⟨ab1, ab2⟩ := ev_le hs ht
  obtain ⟨m12, rn40, fw, h89, gw⟩ := id hW
  obtain ⟨f0, h90⟩ := hS 90 (by decide)
  have h90 : h[90]? = some (aI 5 f0) := h90
  have otl : oti ot ≤ n0 := by
    cases ot with
    | none => exact Nat.zero_le _
    | some t => exact ht t rfl
  have nul : ∀ j, j < u → nuM n0 j < 26 := by
    intro j hj
    unfold nuM
    split <;> omega
  have hx0 : ∀ i, ∃ y, (i < k → ∃ j, j < u ∧ U j = w i ∧ y = nuM n0 j ∧ f4 i = nI y - 1) ∧ (k ≤ i → y = 0) := by
    intro i
    by_cases z : i < k
    · obtain ⟨j, j1, j2, j3⟩ := hpr i z
      exact ⟨nuM n0 j, fun _ => ⟨j, j1, j2, rfl, j3⟩, fun y => by omega⟩
    · exact ⟨0, fun y => absurd y z, fun _ => rfl⟩
  obtain ⟨x, hx⟩ : ∃ x : Nat → Nat, ∀ i, (i < k → ∃ j, j < u ∧ U j = w i ∧ x i = nuM n0 j ∧ f4 i = nI (x i) - 1) ∧ (k ≤ i → x i = 0) := ⟨fun i => Classical.choose (hx0 i), fun i => Classical.choose_spec (hx0 i)⟩
  have hx26 : ∀ i, x i < 26 := by
    intro i
    by_cases z : i < k
    · obtain ⟨j, j1, -, j3, -⟩ := (hx i).1 z
      rw [j3]; exact nul j j1
    · rw [(hx i).2 (by omega)]; omega
  obtain ⟨e, rfl⟩ : ∃ e, d = e + 1 := ⟨d - 1, by omega⟩
  have G : am_GK (am_KA lx e) cd_62 := ⟨am_KA_m lx e, cm_62⟩
  refine am_KA_in (by decide) (Nat.le_of_ble_eq_true rfl) ?_
  show am_Go (am_KA lx e) (am_fetch cd_62) Q 0 [some (.ref 81), some (.int (nI s)), some (.int (otI ot)), none, none, none, none] [] h 0 0
  -- after the numbers are there
  have tail : ∀ (h' : am_H) (f : Nat → Int32), am_fr (fun i => i = 90) h h' → h'[90]? = some (aI 5 f) → f 0 = nI (s + 1) - 1 → f 1 = nI (oti ot) - 1 → f 2 = nI (x 0) - 1 → f 3 = nI (x 1) - 1 → f 4 = nI (x 2) - 1 → am_Go (am_KA lx e) (am_fetch cd_62) Q 74 [some (.ref 81), some (.int (nI s)), some (.int (otI ot)), none, none, none, none] [] h' 0 0 := by
    intro h' f hf k90 e0 e1 e2 e3 e4
    have kM := hf.at (by omega) hM
    let v : Nat → Nat := fun q => if q = 0 then s + 1 else if q = 1 then oti ot else x (q - 2)
    have hv : ∀ q, q < 5 → f q = nI (v q) - 1 ∧ v q < 26 := by
      intro q hq
      rcases (show q = 0 ∨ q = 1 ∨ q = 2 ∨ q = 3 ∨ q = 4 by omega) with z | z | z | z | z
      · subst z; exact ⟨e0, show s + 1 < 26 by omega⟩
      · subst z; exact ⟨e1, show oti ot < 26 by omega⟩
      · subst z; exact ⟨e2, hx26 0⟩
      · subst z; exact ⟨e3, hx26 1⟩
      · subst z; exact ⟨e4, hx26 2⟩
    refine r_ra G (pn := 75) rfl rfl rfl ?_
    refine r_ic G (pn := 76) rfl rfl  ?_
    refine r_ic G (pn := 77) rfl rfl  ?_
    refine r_inv3 G (pn := 80) rfl rfl kM (Nat.le_of_ble_eq_true rfl) (Nat.le_of_ble_eq_true rfl) (Nat.le_of_ble_eq_true rfl) (sp_61 (a := 0) (n := 2) (by omega) kM k90 (by omega) (fun h2 g hf2 l90 s1 s2 s3 => ?_))
    obtain ⟨t', t1', t2', t3', t4'⟩ := srt_viewG (M := 26) (by omega) (by omega) hv s1 s2 s3
    obtain ⟨mn, mx⟩ := two_sort (t2' 0 1 (by omega) (by omega) (by omega)) t3'
    have lM := hf2.at (by omega) kM
    show am_Go (am_KA lx e) (am_fetch cd_62) Q 80 [some (.ref 81), some (.int (nI s)), some (.int (otI ot)), none, none, none, none] [] h2 0 0
    refine r_ra G (pn := 81) rfl rfl rfl ?_
    refine r_ic G (pn := 82) rfl rfl  ?_
    refine r_ic G (pn := 83) rfl rfl  ?_
    refine r_inv3 G (pn := 86) rfl rfl lM (Nat.le_of_ble_eq_true rfl) (Nat.le_of_ble_eq_true rfl) (Nat.le_of_ble_eq_true rfl) (sp_61 (a := 2) (n := 3) (by omega) lM l90 (by omega) (fun h3 g3 hf3 n90 s1' s2' s3' => ?_))
    obtain ⟨t, t1, t2, t3, t4⟩ := srt_viewG (M := 26) (by omega) (by omega) t1' s1' s2' s3'
    have t00 : t 0 = evA s ot := by
      rw [t4 0 (by omega) (by omega), mn, (ev_mm s ot).1]
      rfl
    have t11 : t 1 = evB s ot := by
      rw [t4 1 (by omega) (by omega), mx, (ev_mm s ot).2]
      rfl
    have tc : ∀ P : Nat → Bool, cn P t 2 3 = cn P v 2 3 := fun P => (t3 P).trans (cn_congr (fun i hi => t4' (2 + i) (by omega) (by omega)))
    have hf9 : am_fr (fun i => i = 90) h h3 := (hf.tr hf2).tr hf3
    have nM := hf9.at (by omega) hM
    have n89 := hf9.at (by omega) h89
    have S9 : MsI h3 := hS.fr hf9 (fun i hi _ => by subst hi; exact ⟨g3, n90⟩)
    have W9 : MwI h3 m rn R := hW.fr hf9 (by omega) rfl
    have f9 : am_fr noP h h3 := hf9.wk (fun i hi => by unfold noP; omega)
    have hden : den (nuM n0) u U t (evA s ot) (evB s ot) (padY k w) := by
      refine ⟨t00, t11, t2 2 3 (by omega) (by omega) (by omega), t2 3 4 (by omega) (by omega) (by omega), fun i hi => ?_, fun P => ?_⟩
      · by_cases z : i < k
        · obtain ⟨j, j1, j2, -⟩ := (hx i).1 z
          exact Or.inr ⟨j, j1, by unfold padY; rw [if_pos z, j2]⟩
        · exact Or.inl (by unfold padY; rw [if_neg z])
      · rw [tc P]
        refine (cn_shift (f := v) (b := 2) (a := 0)).symm.trans (cn_congr (fun i hi => ?_))
        rw [Nat.zero_add]
        show (if 2 + i = 0 then s + 1 else if 2 + i = 1 then oti ot else x (2 + i - 2)) = num (nuM n0) u U (padY k w i)
        rw [if_neg (by omega), if_neg (by omega), Nat.add_sub_cancel_left]
        unfold padY
        by_cases z : i < k
        · obtain ⟨j, j1, j2, j3, -⟩ := (hx i).1 z
          rw [if_pos z, j3, ← j2, num_s q3 j1]
        · rw [if_neg z, num_0, (hx i).2 (by omega)]
    have sm_ := same_iff nuo q1 q2 q3 ab1 ab2 hden
    have b0 := (t1 0 (by omega)).2; have b1 := (t1 1 (by omega)).2; have b2 := (t1 2 (by omega)).2; have b3 := (t1 3 (by omega)).2; have b4 := (t1 4 (by omega)).2
    show am_Go (am_KA lx e) (am_fetch cd_62) Q 86 [some (.ref 81), some (.int (nI s)), some (.int (otI ot)), none, none, none, none] [] h3 0 0
    -- is it there?
    have done : ∀ (th : Nat) (y3 y5 y6 : Option Value), th ≤ 1 → (th = 1 → Same W (evA s ot) (evB s ot) (padY k w) ∨ ∃ j, j < rn ∧ eq5 (R j) t) → (th = 0 → ¬ Same W (evA s ot) (evB s ot) (padY k w) ∧ ∀ i, i < rn → ¬ eq5 (R i) t) → am_Go (am_KA lx e) (am_fetch cd_62) Q 210 [some (.ref 81), some (.int (nI s)), some (.int (otI ot)), y3, some (.int (nI th)), y5, y6] [] h3 0 0 := by
      intro th y3 y5 y6 hth h1 h0
      refine r_il G (pn := 212) rfl rfl rfl ?_
      refine r_if1 G (pn := 215) rfl rfl (fun c212 => ?_) (fun c212 => ?_)
      rotate_left
      · have th1 : th = 1 := by
          have : th ≠ 0 := fun z => c212 (by rw [z]; rfl)
          omega
        by_cases hSm : Same W (evA s ot) (evB s ot) (padY k w)
        · exact r_vret G rfl (hyes h3 m rn R A f9 (fun _ _ => rfl) nM S9 W9 hR (fun a' b' y' => ⟨Or.inl, fun z => z.elim id (fun y => absurd hSm y.1)⟩))
        · rcases h1 th1 with z | ⟨j, hj, e5⟩
          · exact absurd z hSm
          · exact r_vret G rfl (hyes h3 m rn R _ f9 (fun _ _ => rfl) nM S9 W9 (hR.there hden hj e5) (fun a' b' y' => ⟨fun z => z.elim Or.inl (fun y => Or.inr ⟨hSm, y⟩), fun z => z.elim Or.inl (fun y => Or.inr y.2)⟩))
      have th0 : th = 0 := (nI_eq (b := 0) (by omega) (by omega)).mp c212
      obtain ⟨hSm, hne⟩ := h0 th0
      refine r_ra G (pn := 217) rfl rfl rfl ?_
      refine r_get G (pn := 220) rfl rfl (by first | assumption | (repeat (first | assumption | exact am_eq (by first | assumption | exact am_eq (by assumption) | exact am_ne (by first | decide | omega) (by assumption)) | refine am_ne (by first | decide | omega) ?_))) rfl ?_
      rw [m12]
      refine r_ic G (pn := 222) rfl rfl  ?_
      refine r_if2 G (pn := 225) rfl rfl (fun c222 => ?_) (fun c222 => ?_)
      rotate_left
      · have r40 : rn = 40 := (nI_eq (b := 40) (by omega) (by omega)).mp (Classical.byContradiction c222)
        refine r_ra G (pn := 226) rfl rfl rfl ?_
        refine r_ic G (pn := 227) rfl rfl  ?_
        refine r_putz G (pn := 230) rfl rfl nM (Nat.le_of_ble_eq_true rfl) (Or.inr rfl) ?_
        have q8 : am_fr (fun i => i = 81) h3 (h3.set 81 (mO (upd m 18 1))) := am_fr.rf.put rfl
        exact r_vret G rfl (hover _ t (f9.tr (q8.wk (fun i hi => by unfold noP; omega))) (am_eq nM) (S9.fr q8 (fun i hi hz => by subst hi; exact absurd rfl hz)) (W9.fr q8 (by omega) (pk_un (by omega))) r40 hSm hden hne)
      have rlt : rn < 40 := by
        have : rn ≠ 40 := fun z => c222 (by rw [z]; rfl)
        omega
      refine r_ic G (pn := 232) rfl rfl  ?_
      refine r_is G (pn := 234) rfl rfl (Nat.le_of_ble_eq_true rfl) ?_
      have app : ∀ (z q : Nat) (h' : am_H) (f : Nat → Int32) (y3 y4 y6 : Option Value), q + z = 5 → am_fr (fun i => i = 89) h3 h' → h'[89]? = some (aI 205 f) → (∀ p, p < 5 * rn → f p = fw p) → (∀ p, p < q → f (5 * rn + p) = nI (t p) - 1) → am_Go (am_KA lx e) (am_fetch cd_62) Q 234 [some (.ref 81), some (.int (nI s)), some (.int (otI ot)), y3, y4, some (.int (nI q)), y6] [] h' 0 0 := by
        intro z
        induction z with
        | zero =>
          intro q h' f y3 y4 y6 hq hf k89 gf1 gf2
          obtain rfl : q = 5 := by omega
          have kM := hf.at (by omega) nM
          refine r_il G (pn := 236) rfl rfl rfl ?_
          refine r_ic G (pn := 237) rfl rfl  ?_
          refine r_if2 G (pn := 240) rfl rfl (fun c237 => ?_) (fun c237 => ?_)
          rotate_left
          · exact absurd (by decide) c237
          refine r_ra G (pn := 268) rfl rfl rfl ?_
          refine r_dup G (pn := 269) rfl rfl rfl ?_
          refine r_get G (pn := 272) rfl rfl (by first | assumption | (repeat (first | assumption | exact am_eq (by first | assumption | exact am_eq (by assumption) | exact am_ne (by first | decide | omega) (by assumption)) | refine am_ne (by first | decide | omega) ?_))) rfl ?_
          rw [m12]
          refine r_ic G (pn := 273) rfl rfl  ?_
          refine r_ib G (pn := 274) rfl rfl  ?_
          rw [nI_1]
          refine r_puti G (pn := 277) rfl rfl kM (Nat.le_of_ble_eq_true rfl) ?_
          have q8 : am_fr (fun i => i = 81) h' (h'.set 81 (mO (upd m 12 (nI (rn + 1))))) := am_fr.rf.put rfl
          have q9 : am_fr (fun i => i = 89 ∨ i = 81) h3 (h'.set 81 (mO (upd m 12 (nI (rn + 1))))) := (hf.wk (fun i hi => Or.inl hi)).tr (q8.wk (fun i hi => Or.inr hi))
          have r1 : ∀ i, i < rn → (fun i => if i < rn then R i else t) i = R i := fun i hi => if_pos hi
          have r2 : (fun i => if i < rn then R i else t) rn = t := if_neg (Nat.lt_irrefl _)
          refine r_vret G rfl (hyes _ (upd m 12 (nI (rn + 1))) (rn + 1) (fun i => if i < rn then R i else t) _ (f9.tr (q9.wk (fun i hi => by unfold noP; omega))) (fun i hi => pk_un hi) (am_eq kM) (S9.fr q9 (fun i hi hz => ?_)) ⟨pk_us, by omega, f, am_ne (by decide) k89, fun i hi p hp => ?_⟩ (hR.row hden hne (Nat.le_refl _) r1 r2 (fun i h1 h2 => by omega)) (fun a' b' y' => ⟨fun z => z.elim Or.inl (fun y => Or.inr ⟨hSm, y⟩), fun z => z.elim Or.inl (fun y => Or.inr y.2)⟩))
          · rcases hi with hi | hi
            · subst hi; exact ⟨f, am_ne (by decide) k89⟩
            · subst hi; exact absurd rfl hz
          · by_cases y : i < rn
            · rw [r1 i y, gf1 _ (by omega)]; exact gw i y p hp
            · obtain rfl : i = rn := by omega
              rw [r2, gf2 p hp]; exact ⟨rfl, (t1 p hp).2⟩
        | succ z ih =>
          intro q h' f y3 y4 y6 hq hf k89 gf1 gf2
          have kM := hf.at (by omega) nM
          have k90 := hf.at (by omega) n90
          refine r_il G (pn := 236) rfl rfl rfl ?_
          refine r_ic G (pn := 237) rfl rfl  ?_
          refine r_if2 G (pn := 240) rfl rfl (fun c237 => ?_) (fun c237 => ?_)
          · exact absurd ((nI_leI (a := 5) (by omega) (by omega)).mp c237) (by omega)
          refine r_ra G (pn := 241) rfl rfl rfl ?_
          refine r_get G (pn := 244) rfl rfl (by first | assumption | (repeat (first | assumption | exact am_eq (by first | assumption | exact am_eq (by assumption) | exact am_ne (by first | decide | omega) (by assumption)) | refine am_ne (by first | decide | omega) ?_))) rfl ?_
          refine r_ic G (pn := 245) rfl rfl  ?_
          refine r_ra G (pn := 246) rfl rfl rfl ?_
          refine r_get G (pn := 249) rfl rfl (by first | assumption | (repeat (first | assumption | exact am_eq (by first | assumption | exact am_eq (by assumption) | exact am_ne (by first | decide | omega) (by assumption)) | refine am_ne (by first | decide | omega) ?_))) rfl ?_
          rw [m12]
          refine r_ib G (pn := 250) rfl rfl  ?_
          refine r_il G (pn := 252) rfl rfl rfl ?_
          rw [nI_5l]
          refine r_ib G (pn := 253) rfl rfl  ?_
          rw [nI_add]
          refine r_ra G (pn := 254) rfl rfl rfl ?_
          refine r_get G (pn := 257) rfl rfl (by first | assumption | (repeat (first | assumption | exact am_eq (by first | assumption | exact am_eq (by assumption) | exact am_ne (by first | decide | omega) (by assumption)) | refine am_ne (by first | decide | omega) ?_))) rfl ?_
          refine r_il G (pn := 259) rfl rfl rfl ?_
          refine r_ialdN G (pn := 260) rfl rfl k90 (by omega) (by omega) ?_
          rw [(t1 q (by omega)).1]
          refine r_iastN G (pn := 261) rfl rfl k89 (by omega) (by omega) ?_
          refine r_inc G (pn := 264) rfl rfl rfl (Nat.le_of_ble_eq_true rfl) ?_
          refine r_goto G rfl ?_
          rw [nI_1]
          refine ih (q + 1) _ _ _ _ _ (by omega) (hf.put rfl) (am_eq k89) (fun p hp => by rw [pk_un (by omega)]; exact gf1 p hp) (fun p hp => ?_)
          by_cases y : p = q
          · rw [y, pk_us]
          · rw [pk_un (by omega)]; exact gf2 p (by omega)
      exact app 5 0 h3 fw _ _ _ (by omega) am_fr.rf n89 (fun _ _ => rfl) (fun p hp => absurd hp (Nat.not_lt_zero p))
    have lp : ∀ (z r th : Nat) (y3 y6 : Option Value), r + z = rn → th ≤ 1 → (th = 1 → Same W (evA s ot) (evB s ot) (padY k w) ∨ ∃ j, j < rn ∧ eq5 (R j) t) → (th = 0 → ¬ Same W (evA s ot) (evB s ot) (padY k w) ∧ ∀ i, i < r → ¬ eq5 (R i) t) → am_Go (am_KA lx e) (am_fetch cd_62) Q 138 [some (.ref 81), some (.int (nI s)), some (.int (otI ot)), y3, some (.int (nI th)), some (.int (nI r)), y6] [] h3 0 0 := by
      intro z
      induction z with
      | zero =>
        intro r th y3 y6 hr hth h1 h0
        obtain rfl : r = rn := by omega
        refine r_il G (pn := 140) rfl rfl rfl ?_
        refine r_ra G (pn := 141) rfl rfl rfl ?_
        refine r_get G (pn := 144) rfl rfl (by first | assumption | (repeat (first | assumption | exact am_eq (by first | assumption | exact am_eq (by assumption) | exact am_ne (by first | decide | omega) (by assumption)) | refine am_ne (by first | decide | omega) ?_))) rfl ?_
        rw [m12]
        refine r_if2 G (pn := 147) rfl rfl (fun c144 => ?_) (fun c144 => ?_)
        rotate_left
        · exact absurd (Int32.le_refl _) c144
        exact done th _ _ _ hth h1 h0
      | succ z ih =>
        intro r th y3 y6 hr hth h1 h0
        refine r_il G (pn := 140) rfl rfl rfl ?_
        refine r_ra G (pn := 141) rfl rfl rfl ?_
        refine r_get G (pn := 144) rfl rfl (by first | assumption | (repeat (first | assumption | exact am_eq (by first | assumption | exact am_eq (by assumption) | exact am_ne (by first | decide | omega) (by assumption)) | refine am_ne (by first | decide | omega) ?_))) rfl ?_
        rw [m12]
        refine r_if2 G (pn := 147) rfl rfl (fun c144 => ?_) (fun c144 => ?_)
        · exact absurd ((nI_leI (by omega) (by omega)).mp c144) (by omega)
        refine r_il G (pn := 149) rfl rfl rfl ?_
        refine r_if1 G (pn := 152) rfl rfl (fun c149 => ?_) (fun c149 => ?_)
        · have th1 : th = 1 := by
            have : th ≠ 0 := fun z => c149 (by rw [z]; rfl)
            omega
          exact done th _ _ _ hth h1 (fun y => by omega)
        have th0 : th = 0 := (nI_eq (b := 0) (by omega) (by omega)).mp (Classical.byContradiction c149)
        obtain ⟨hSm, hne⟩ := h0 th0
        refine r_ic G (pn := 153) rfl rfl  ?_
        refine r_is G (pn := 155) rfl rfl (Nat.le_of_ble_eq_true rfl) ?_
        refine r_ic G (pn := 156) rfl rfl  ?_
        refine r_is G (pn := 158) rfl rfl (Nat.le_of_ble_eq_true rfl) ?_
        have inner : ∀ (z2 q th : Nat) (y3 : Option Value), q + z2 = 5 → th ≤ 1 → (th = 1 ↔ ∀ p, p < q → R r p = t p) → am_Go (am_KA lx e) (am_fetch cd_62) Q 158 [some (.ref 81), some (.int (nI s)), some (.int (otI ot)), y3, some (.int (nI th)), some (.int (nI r)), some (.int (nI q))] [] h3 0 0 := by
          intro z2
          induction z2 with
          | zero =>
            intro q th y3 hq hth hi
            obtain rfl : q = 5 := by omega
            refine r_il G (pn := 160) rfl rfl rfl ?_
            refine r_ic G (pn := 161) rfl rfl  ?_
            refine r_if2 G (pn := 164) rfl rfl (fun c161 => ?_) (fun c161 => ?_)
            rotate_left
            · exact absurd (by decide) c161
            refine r_inc G (pn := 207) rfl rfl rfl (Nat.le_of_ble_eq_true rfl) ?_
            refine r_goto G rfl ?_
            rw [nI_1]
            refine ih (r + 1) th _ _ (by omega) hth (fun y => Or.inr ⟨r, by omega, hi.mp y⟩) (fun y => ⟨hSm, fun i hi' => ?_⟩)
            by_cases w : i = r
            · rw [w]
              intro e5
              have := hi.mpr e5
              omega
            · exact hne i (by omega)
          | succ z2 ih2 =>
            intro q th y3 hq hth hi
            refine r_il G (pn := 160) rfl rfl rfl ?_
            refine r_ic G (pn := 161) rfl rfl  ?_
            refine r_if2 G (pn := 164) rfl rfl (fun c161 => ?_) (fun c161 => ?_)
            · exact absurd ((nI_leI (a := 5) (by omega) (by omega)).mp c161) (by omega)
            have no : ¬ (∀ p, p < q + 1 → R r p = t p) → am_Go (am_KA lx e) (am_fetch cd_62) Q 195 [some (.ref 81), some (.int (nI s)), some (.int (otI ot)), y3, some (.int (nI th)), some (.int (nI r)), some (.int (nI q))] [] h3 0 0 := by
              intro hh
              refine r_ic G (pn := 196) rfl rfl  ?_
              refine r_is G (pn := 198) rfl rfl (Nat.le_of_ble_eq_true rfl) ?_
              refine r_inc G (pn := 201) rfl rfl rfl (Nat.le_of_ble_eq_true rfl) ?_
              refine r_goto G rfl ?_
              rw [nI_1]
              exact ih2 (q + 1) 0 _ (by omega) (by omega) ⟨fun y => by omega, fun y => absurd y hh⟩
            refine r_il G (pn := 166) rfl rfl rfl ?_
            refine r_if1 G (pn := 169) rfl rfl (fun c166 => ?_) (fun c166 => ?_)
            · have th0 : th = 0 := (nI_eq (b := 0) (by omega) (by omega)).mp c166
              exact no (fun hh => by have := hi.mpr (fun p hp => hh p (by omega)); omega)
            have th1 : th = 1 := by
              have : th ≠ 0 := fun z => c166 (by rw [z]; rfl)
              omega
            obtain ⟨g1, g2⟩ := gw r (by omega) q (by omega)
            have tq := (t1 q (by omega)).2
            refine r_ra G (pn := 170) rfl rfl rfl ?_
            refine r_get G (pn := 173) rfl rfl (by first | assumption | (repeat (first | assumption | exact am_eq (by first | assumption | exact am_eq (by assumption) | exact am_ne (by first | decide | omega) (by assumption)) | refine am_ne (by first | decide | omega) ?_))) rfl ?_
            refine r_ic G (pn := 174) rfl rfl  ?_
            refine r_il G (pn := 176) rfl rfl rfl ?_
            refine r_ib G (pn := 177) rfl rfl  ?_
            rw [nI_5l]
            refine r_il G (pn := 179) rfl rfl rfl ?_
            refine r_ib G (pn := 180) rfl rfl  ?_
            rw [nI_add]
            refine r_ialdN G (pn := 181) rfl rfl n89 (by omega) (by omega) ?_
            refine r_ra G (pn := 182) rfl rfl rfl ?_
            refine r_get G (pn := 185) rfl rfl (by first | assumption | (repeat (first | assumption | exact am_eq (by first | assumption | exact am_eq (by assumption) | exact am_ne (by first | decide | omega) (by assumption)) | refine am_ne (by first | decide | omega) ?_))) rfl ?_
            refine r_il G (pn := 187) rfl rfl rfl ?_
            refine r_ialdN G (pn := 188) rfl rfl n90 (by omega) (by omega) ?_
            rw [g1, (t1 q (by omega)).1]
            refine r_if2 G (pn := 191) rfl rfl (fun c188 => ?_) (fun c188 => ?_)
            · exact no (fun hh => c188 (by rw [hh q (by omega)]))
            have eq : R r q = t q := (m1_eq (by omega) (by omega)).mp (Classical.byContradiction c188)
            refine r_ic G (pn := 192) rfl rfl  ?_
            refine r_goto G rfl ?_
            refine r_is G (pn := 198) rfl rfl (Nat.le_of_ble_eq_true rfl) ?_
            refine r_inc G (pn := 201) rfl rfl rfl (Nat.le_of_ble_eq_true rfl) ?_
            refine r_goto G rfl ?_
            rw [nI_1]
            refine ih2 (q + 1) 1 _ (by omega) (by omega) ⟨fun _ p hp => ?_, fun _ => rfl⟩
            by_cases y : p = q
            · rw [y]; exact eq
            · exact hi.mp th1 p (by omega)
        exact inner 5 0 1 _ (by omega) (by omega) ⟨fun _ p hp => absurd hp (Nat.not_lt_zero p), fun _ => rfl⟩
    have fin : ∀ ju : Nat, ju ≤ 1 → Eqv (ju = 1) (Same W (evA s ot) (evB s ot) (padY k w)) → am_Go (am_KA lx e) (am_fetch cd_62) Q 131 [some (.ref 81), some (.int (nI s)), some (.int (otI ot)), none, none, none, none] [.int (nI ju)] h3 0 0 := by
      intro ju hju eju
      refine r_is G (pn := 132) rfl rfl (Nat.le_of_ble_eq_true rfl) ?_
      refine r_il G (pn := 133) rfl rfl rfl ?_
      refine r_is G (pn := 135) rfl rfl (Nat.le_of_ble_eq_true rfl) ?_
      refine r_ic G (pn := 136) rfl rfl  ?_
      refine r_is G (pn := 138) rfl rfl (Nat.le_of_ble_eq_true rfl) ?_
      exact lp rn 0 ju _ _ (by omega) hju (fun y => Or.inl (eju.mp y)) (fun y => ⟨fun w => by have := eju.mpr w; omega, fun i hi => absurd hi (Nat.not_lt_zero i)⟩)
    refine r_ra G (pn := 87) rfl rfl rfl ?_
    refine r_get G (pn := 90) rfl rfl (by first | assumption | (repeat (first | assumption | exact am_eq (by first | assumption | exact am_eq (by assumption) | exact am_ne (by first | decide | omega) (by assumption)) | refine am_ne (by first | decide | omega) ?_))) rfl ?_
    refine r_ic G (pn := 91) rfl rfl  ?_
    refine r_ialdN G (pn := 92) rfl rfl (j := 2) n90 (by omega) (by omega) ?_
    refine r_ic G (pn := 93) rfl rfl  ?_
    rw [(t1 2 (by omega)).1]
    refine r_if2 G (pn := 96) rfl rfl (fun c93 => ?_) (fun c93 => ?_)
    · refine r_ic G (pn := 131) rfl rfl  ?_
      refine fin 0 (by omega) ⟨fun z => absurd z (by omega), fun z => ?_⟩
      have := (sm_.mp z).1
      rw [this] at c93
      exact absurd rfl c93
    have z2 : t 2 = 0 := (nI_m1 (by omega)).mp (Classical.byContradiction c93)
    refine r_ra G (pn := 97) rfl rfl rfl ?_
    refine r_get G (pn := 100) rfl rfl (by first | assumption | (repeat (first | assumption | exact am_eq (by first | assumption | exact am_eq (by assumption) | exact am_ne (by first | decide | omega) (by assumption)) | refine am_ne (by first | decide | omega) ?_))) rfl ?_
    refine r_ic G (pn := 101) rfl rfl  ?_
    refine r_ialdN G (pn := 102) rfl rfl (j := 3) n90 (by omega) (by omega) ?_
    refine r_ra G (pn := 103) rfl rfl rfl ?_
    refine r_get G (pn := 106) rfl rfl (by first | assumption | (repeat (first | assumption | exact am_eq (by first | assumption | exact am_eq (by assumption) | exact am_ne (by first | decide | omega) (by assumption)) | refine am_ne (by first | decide | omega) ?_))) rfl ?_
    refine r_ic G (pn := 107) rfl rfl  ?_
    refine r_ialdN G (pn := 108) rfl rfl (j := 0) n90 (by omega) (by omega) ?_
    rw [(t1 3 (by omega)).1, (t1 0 (by omega)).1]
    refine r_if2 G (pn := 111) rfl rfl (fun c108 => ?_) (fun c108 => ?_)
    · refine r_ic G (pn := 131) rfl rfl  ?_
      refine fin 0 (by omega) ⟨fun z => absurd z (by omega), fun z => ?_⟩
      have := (sm_.mp z).2.1
      rw [this, t00] at c108
      exact absurd rfl c108
    have z3 : t 3 = evA s ot := by
      have := (m1_eq (by omega) (by omega)).mp (Classical.byContradiction c108)
      rw [this, t00]
    refine r_ra G (pn := 112) rfl rfl rfl ?_
    refine r_get G (pn := 115) rfl rfl (by first | assumption | (repeat (first | assumption | exact am_eq (by first | assumption | exact am_eq (by assumption) | exact am_ne (by first | decide | omega) (by assumption)) | refine am_ne (by first | decide | omega) ?_))) rfl ?_
    refine r_ic G (pn := 116) rfl rfl  ?_
    refine r_ialdN G (pn := 117) rfl rfl (j := 4) n90 (by omega) (by omega) ?_
    refine r_ra G (pn := 118) rfl rfl rfl ?_
    refine r_get G (pn := 121) rfl rfl (by first | assumption | (repeat (first | assumption | exact am_eq (by first | assumption | exact am_eq (by assumption) | exact am_ne (by first | decide | omega) (by assumption)) | refine am_ne (by first | decide | omega) ?_))) rfl ?_
    refine r_ic G (pn := 122) rfl rfl  ?_
    refine r_ialdN G (pn := 123) rfl rfl (j := 1) n90 (by omega) (by omega) ?_
    rw [(t1 4 (by omega)).1, (t1 1 (by omega)).1]
    refine r_if2 G (pn := 126) rfl rfl (fun c123 => ?_) (fun c123 => ?_)
    · refine r_ic G (pn := 131) rfl rfl  ?_
      refine fin 0 (by omega) ⟨fun z => absurd z (by omega), fun z => ?_⟩
      have := (sm_.mp z).2.2
      rw [this, t11] at c123
      exact absurd rfl c123
    have z4 : t 4 = evB s ot := by
      have := (m1_eq (by omega) (by omega)).mp (Classical.byContradiction c123)
      rw [this, t11]
    refine r_ic G (pn := 127) rfl rfl  ?_
    refine r_goto G rfl ?_
    exact fin 1 (by omega) ⟨fun _ => sm_.mpr ⟨z2, z3, z4⟩, fun _ => rfl⟩
  -- writing them
  have a4 : ∀ (h' : am_H) (f : Nat → Int32) (v : Int32), am_fr (fun i => i = 90) h h' → h'[90]? = some (aI 5 f) → f 0 = nI (s + 1) - 1 → f 1 = nI (oti ot) - 1 → f 2 = nI (x 0) - 1 → f 3 = nI (x 1) - 1 → v = nI (x 2) - 1 → am_Go (am_KA lx e) (am_fetch cd_62) Q 73 [some (.ref 81), some (.int (nI s)), some (.int (otI ot)), none, none, none, none] [.int v, .int 4, .ref 90] h' 0 0 := by
    intro h' f v hf k90 e0 e1 e2 e3 e4
    refine r_iastN G (pn := 74) rfl rfl (j := 4) k90 (by omega) (by omega) ?_
    exact tail _ _ (hf.put rfl) (am_eq k90) (by rw [pk_un (by omega)]; exact e0) (by rw [pk_un (by omega)]; exact e1) (by rw [pk_un (by omega)]; exact e2) (by rw [pk_un (by omega)]; exact e3) (by rw [pk_us]; exact e4)
  have a3 : ∀ (h' : am_H) (f : Nat → Int32) (v : Int32), am_fr (fun i => i = 90) h h' → h'[90]? = some (aI 5 f) → f 0 = nI (s + 1) - 1 → f 1 = nI (oti ot) - 1 → f 2 = nI (x 0) - 1 → v = nI (x 1) - 1 → am_Go (am_KA lx e) (am_fetch cd_62) Q 49 [some (.ref 81), some (.int (nI s)), some (.int (otI ot)), none, none, none, none] [.int v, .int 3, .ref 90] h' 0 0 := by
    intro h' f v hf k90 e0 e1 e2 e3
    have kM := hf.at (by omega) hM
    have k104 := hf.at (by omega) h104
    refine r_iastN G (pn := 50) rfl rfl (j := 3) k90 (by omega) (by omega) ?_
    refine r_ra G (pn := 51) rfl rfl rfl ?_
    refine r_get G (pn := 54) rfl rfl (am_ne (by decide) kM) rfl ?_
    refine r_ic G (pn := 55) rfl rfl  ?_
    refine r_ra G (pn := 56) rfl rfl rfl ?_
    refine r_get G (pn := 59) rfl rfl (am_ne (by decide) kM) rfl ?_
    rw [m34]
    refine r_ic G (pn := 60) rfl rfl  ?_
    have w0 : upd f 3 v 0 = nI (s + 1) - 1 := by rw [pk_un (by omega)]; exact e0
    have w1 : upd f 3 v 1 = nI (oti ot) - 1 := by rw [pk_un (by omega)]; exact e1
    have w2 : upd f 3 v 2 = nI (x 0) - 1 := by rw [pk_un (by omega)]; exact e2
    have w3 : upd f 3 v 3 = nI (x 1) - 1 := by rw [pk_us]; exact e3
    refine r_if2 G (pn := 63) rfl rfl (fun c60 => ?_) (fun c60 => ?_)
    · have hk2 := (nI_leI (b := 2) (by omega) (by omega)).mp c60
      refine r_ic G (pn := 73) rfl rfl  ?_
      exact a4 _ _ _ (hf.put rfl) (am_eq k90) w0 w1 w2 w3 (by rw [(hx 2).2 hk2]; rfl)
    · have hk2 : 2 < k := Nat.not_le.mp (fun y => c60 ((nI_leI (b := 2) (by omega) (by omega)).mpr y))
      refine r_ra G (pn := 64) rfl rfl rfl ?_
      refine r_get G (pn := 67) rfl rfl (am_ne (by decide) kM) rfl ?_
      refine r_ic G (pn := 68) rfl rfl  ?_
      refine r_ialdN G (pn := 69) rfl rfl (j := 2) (am_ne (by decide) k104) (by omega) (by omega) ?_
      refine r_goto G rfl ?_
      obtain ⟨-, -, -, -, j4⟩ := (hx 2).1 hk2
      exact a4 _ _ _ (hf.put rfl) (am_eq k90) w0 w1 w2 w3 j4
  obtain ⟨-, -, -, -, x0⟩ := (hx 0).1 (by omega)
  have es : nI s = nI (s + 1) - 1 := (nI_pred s).symm
  have eo : otI ot = nI (oti ot) - 1 := by rw [← otI_n, of_oti]
  refine r_ra G (pn := 1) rfl rfl rfl ?_
  refine r_get G (pn := 4) rfl rfl (by first | assumption | (repeat (first | assumption | exact am_eq (by first | assumption | exact am_eq (by assumption) | exact am_ne (by first | decide | omega) (by assumption)) | refine am_ne (by first | decide | omega) ?_))) rfl ?_
  refine r_ic G (pn := 5) rfl rfl  ?_
  refine r_il G (pn := 6) rfl rfl rfl ?_
  refine r_iastN G (pn := 7) rfl rfl (j := 0) h90 (by omega) (by omega) ?_
  refine r_ra G (pn := 8) rfl rfl rfl ?_
  refine r_get G (pn := 11) rfl rfl (am_ne (by decide) hM) rfl ?_
  refine r_ic G (pn := 12) rfl rfl  ?_
  refine r_il G (pn := 13) rfl rfl rfl ?_
  refine r_iastN G (pn := 14) rfl rfl (j := 1) (am_eq h90) (by omega) (by omega) ?_
  refine r_ra G (pn := 15) rfl rfl rfl ?_
  refine r_get G (pn := 18) rfl rfl (am_ne (by decide) (am_ne (by decide) hM)) rfl ?_
  refine r_ic G (pn := 19) rfl rfl  ?_
  refine r_ra G (pn := 20) rfl rfl rfl ?_
  refine r_get G (pn := 23) rfl rfl (am_ne (by decide) (am_ne (by decide) hM)) rfl ?_
  refine r_ic G (pn := 24) rfl rfl  ?_
  refine r_ialdN G (pn := 25) rfl rfl (j := 0) (am_ne (by decide) (am_ne (by decide) h104)) (by omega) (by omega) ?_
  refine r_iastN G (pn := 26) rfl rfl (j := 2) (am_eq (am_eq h90)) (by omega) (by omega) ?_
  refine r_ra G (pn := 27) rfl rfl rfl ?_
  refine r_get G (pn := 30) rfl rfl (am_ne (by decide) (am_ne (by decide) (am_ne (by decide) hM))) rfl ?_
  refine r_ic G (pn := 31) rfl rfl  ?_
  refine r_ra G (pn := 32) rfl rfl rfl ?_
  refine r_get G (pn := 35) rfl rfl (am_ne (by decide) (am_ne (by decide) (am_ne (by decide) hM))) rfl ?_
  rw [m34]
  refine r_ic G (pn := 36) rfl rfl  ?_
  have w0 : upd (upd (upd f0 0 (nI s)) 1 (otI ot)) 2 (f4 0) 0 = nI (s + 1) - 1 := by rw [pk_un (by omega), pk_un (by omega), pk_us]; exact es
  have w1 : upd (upd (upd f0 0 (nI s)) 1 (otI ot)) 2 (f4 0) 1 = nI (oti ot) - 1 := by rw [pk_un (by omega), pk_us]; exact eo
  have w2 : upd (upd (upd f0 0 (nI s)) 1 (otI ot)) 2 (f4 0) 2 = nI (x 0) - 1 := by rw [pk_us]; exact x0
  have qf : am_fr (fun i => i = 90) h (((h.set 90 (aI 5 (upd f0 0 (nI s)))).set 90 (aI 5 (upd (upd f0 0 (nI s)) 1 (otI ot)))).set 90 (aI 5 (upd (upd (upd f0 0 (nI s)) 1 (otI ot)) 2 (f4 0)))) := (((am_fr.rf : am_fr (fun i => i = 90) h h).put rfl).put rfl).put rfl
  refine r_if2 G (pn := 39) rfl rfl (fun c36 => ?_) (fun c36 => ?_)
  · have hk2 := (nI_leI (b := 1) (by omega) (by omega)).mp c36
    refine r_ic G (pn := 49) rfl rfl  ?_
    exact a3 _ _ _ qf (am_eq (am_eq (am_eq h90))) w0 w1 w2 (by rw [(hx 1).2 hk2]; rfl)
  · have hk2 : 1 < k := Nat.not_le.mp (fun y => c36 ((nI_leI (b := 1) (by omega) (by omega)).mpr y))
    refine r_ra G (pn := 40) rfl rfl rfl ?_
    refine r_get G (pn := 43) rfl rfl (am_ne (by decide) (am_ne (by decide) (am_ne (by decide) hM))) rfl ?_
    refine r_ic G (pn := 44) rfl rfl  ?_
    refine r_ialdN G (pn := 45) rfl rfl (j := 1) (am_ne (by decide) (am_ne (by decide) (am_ne (by decide) h104))) (by omega) (by omega) ?_
    refine r_goto G rfl ?_
    obtain ⟨-, -, -, -, j4⟩ := (hx 1).1 hk2
    exact a3 _ _ _ qf (am_eq (am_eq (am_eq h90))) w0 w1 w2 j4
end
