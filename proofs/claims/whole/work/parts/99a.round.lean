/-- a row that may stand in the list -/
def RowOk (n : Nat) (t : Nat → Nat) : Prop := (∀ k, k < 5 → t k ≤ n) ∧ t 2 ≤ t 3 ∧ t 3 ≤ t 4
/-- what the rows of a list say -/
def A0of (W : Nat → Nat) (ln : Nat) (L : Nat → Nat → Nat) : Nat → Nat → (Nat → Nat) → Prop := fun a b y => ∃ i, i < ln ∧ a = L i 0 ∧ b = L i 1 ∧ y = fun k => wd1 W (L i (2 + k))
theorem num_wd1 {n0 u x : Nat} {W nu U : Nat → Nat} (hn : NuOk n0 nu) (hu : n0 ≤ u) (hW : ∀ i, i < n0 → U i = W i) (hU : ∀ i j, i < u → j < u → U i = U j → i = j) (hx : x ≤ n0) : num nu u U (wd1 W x) = x := by
  unfold wd1
  by_cases z : x = 0
  · rw [if_pos z, num_0, z]
  · rw [if_neg z, ← hW (x - 1) (by omega), num_s hU (by omega), hn.1 _ (by omega)]
    omega
theorem den_row {n0 u : Nat} {W nu U t : Nat → Nat} (hn : NuOk n0 nu) (hu : n0 ≤ u) (hW : ∀ i, i < n0 → U i = W i) (hU : ∀ i j, i < u → j < u → U i = U j → i = j) (ok : RowOk n0 t) : den nu u U t (t 0) (t 1) (fun k => wd1 W (t (2 + k))) := by
  obtain ⟨o1, o2, o3⟩ := ok
  refine ⟨rfl, rfl, o2, o3, fun i hi => ?_, fun P => ?_⟩
  · show wd1 W (t (2 + i)) = 0 ∨ _
    have := o1 (2 + i) (by omega)
    unfold wd1
    by_cases z : t (2 + i) = 0
    · exact Or.inl (if_pos z)
    · exact Or.inr ⟨t (2 + i) - 1, by omega, by show (if t (2 + i) = 0 then 0 else W (t (2 + i) - 1) + 1) = _; rw [if_neg z, hW _ (by omega)]⟩
  · refine (cn_shift (f := t) (b := 2) (a := 0)).symm.trans (cn_congr (fun i hi => ?_))
    show t (2 + (0 + i)) = num nu u U (wd1 W (t (2 + (0 + i))))
    rw [num_wd1 hn hu hW hU (o1 _ (by omega))]
theorem Run0 {g : Wk} {ln : Nat} {nu : Nat → Nat} {L : Nat → Nat → Nat} {Z : Zt} (hn : NuOk g.n0 nu) (inj : ∀ i j, i < g.n0 → j < g.n0 → g.W i = g.W j → i = j) (hs : Sor ln L) (hok : ∀ i, i < ln → RowOk g.n0 (L i)) (hZ : ∀ r s ot c, ¬ Z r s ot c) : RunZ g (A0of g.W ln L) nu Z g.n0 g.W ln L := by
  refine ⟨Nat.le_refl _, fun _ _ => rfl, inj, fun i hi => Or.inl ⟨i, hi, rfl⟩, fun w hw => ?_, hs.ne, fun i hi => ⟨_, _, _, Or.inl ⟨i, hi, rfl, rfl, rfl⟩, den_row hn (Nat.le_refl _) (fun _ _ => rfl) inj (hok i hi)⟩, fun a b y hy => ?_⟩
  · rcases hw with ⟨i, hi, e⟩ | ⟨r, s, ot, c, k, w, b, i, zz, -⟩
    · exact ⟨i, hi, e⟩
    · exact absurd zz (hZ _ _ _ _)
  · rcases hy with ⟨i, hi, e1, e2, e3⟩ | ⟨r', s', ot', c', k', w', b2, zz, -⟩
    · refine ⟨i, hi, ?_⟩
      rw [e1, e2, e3]
      exact den_row hn (Nat.le_refl _) (fun _ _ => rfl) inj (hok i hi)
    · exact absurd zz (hZ _ _ _ _)
theorem EvA_le {g : Wk} {rc ln a b : Nat} {y : Nat → Nat} {L : Nat → Nat → Nat} {Z : Zt} (hok : ∀ i, i < ln → RowOk g.n0 (L i)) (hZ : ∀ r s ot c, Z r s ot c → ZOk g rc r s ot c) (h : EvA g (A0of g.W ln L) Z a b y) : a ≤ g.n0 ∧ b ≤ g.n0 := by
  rcases h with ⟨i, hi, e1, e2, -⟩ | ⟨r', s', ot', c', k', w', b2, zz, -, -, e1, e2, -⟩
  · rw [e1, e2]
    exact ⟨(hok i hi).1 0 (by omega), (hok i hi).1 1 (by omega)⟩
  · have z := hZ _ _ _ _ zz
    have := ev_le z.2.1 z.2.2.1
    rw [e1, e2]
    omega
theorem Run_rows {n0 u rn : Nat} {W U : Nat → Nat} {Ws : Nat → Prop} {A : Nat → Nat → (Nat → Nat) → Prop} {R : Nat → Nat → Nat} (h : Run n0 W (fun i => i + 1) Ws A u U rn R) (hA : ∀ a b y, A a b y → a ≤ n0 ∧ b ≤ n0) : ∀ i, i < rn → RowOk u (R i) := by
  obtain ⟨r1, r2, r3, r4, r5, r6, r7, r8⟩ := h
  intro i hi
  obtain ⟨a, b, y, g1, g2⟩ := r7 i hi
  obtain ⟨d1, d2, d3, d4, d5, d6⟩ := g2
  obtain ⟨l1, l2⟩ := hA a b y g1
  have mem : ∀ k, k < 3 → R i (2 + k) ≤ u := by
    intro k hk
    have h1 : 1 ≤ cn (fun x => decide (x = R i (2 + k))) (R i) 2 3 := cn_pos (P := fun x => decide (x = R i (2 + k))) (f := R i) (a := 2) (i := k) (decide_eq_true rfl) hk
    rw [d6] at h1
    obtain ⟨j, hj, e⟩ := cn_ex h1
    have e : num (fun i => i + 1) u U (y (0 + j)) = R i (2 + k) := of_decide_eq_true e
    rw [← e]
    rcases d5 (0 + j) (by omega) with z | ⟨q, q1, q2⟩
    · rw [z, num_0]; omega
    · rw [q2, num_s r3 q1]; omega
  refine ⟨fun k hk => ?_, d3, d4⟩
  rcases (show k = 0 ∨ k = 1 ∨ ∃ q, q < 3 ∧ k = 2 + q from by
    by_cases z0 : k = 0
    · exact Or.inl z0
    · by_cases z1 : k = 1
      · exact Or.inr (Or.inl z1)
      · exact Or.inr (Or.inr ⟨k - 2, by omega, by omega⟩)) with z | z | ⟨q, q1, z⟩
  · rw [z, d1]; omega
  · rw [z, d2]; omega
  · rw [z]; exact mem q q1
def oti (ot : Option Nat) : Nat := match ot with | none => 0 | some t => t + 1
def otOf (k : Nat) : Option Nat := match k with | 0 => none | t + 1 => some t
theorem oti_of (k : Nat) : oti (otOf k) = k := by cases k <;> rfl
theorem of_oti (ot : Option Nat) : otOf (oti ot) = ot := by cases ot <;> rfl
theorem otI_n (k : Nat) : otI (otOf k) = nI k - 1 := by
  cases k with
  | zero => rfl
  | succ t => exact (nI_pred (n := t)).symm
/-- what the class has worked through: all of the species before s, and the first tt partners of s -/
def Zcl (g : Wk) (rc s tt : Nat) : Zt := fun r' s' ot' c' => r' < rc ∧ ¬ Idl g r' ∧ EvM g r' s' ot' c' ∧ ((s' < s ∧ oti ot' ≤ s' + 1) ∨ (s' = s ∧ oti ot' < tt))
theorem Zcl_ok {g : Wk} {rc s tt : Nat} (h : (s < g.n0 ∧ tt ≤ s + 2) ∨ (s = g.n0 ∧ tt = 0)) : ∀ r' s' ot' c', Zcl g rc s tt r' s' ot' c' → ZOk g rc r' s' ot' c' := by
  rintro r' s' ot' c' ⟨z1, z2, z3, z4⟩
  refine ⟨z1, by omega, fun t et => ?_, z3⟩
  subst et
  have : oti (some t) = t + 1 := rfl
  omega
def ClP (i : Nat) : Prop := i = 0 ∨ (35 ≤ i ∧ i ≤ 38) ∨ i = 42 ∨ i = 59 ∨ (61 ≤ i ∧ i ≤ 63) ∨ i = 68 ∨ 69 ≤ i
theorem ClS.fr {h h' : am_H} {g : Wk} {rc : Nat} {P : Nat → Prop} (hS : ClS h g rc) (hf : am_fr P h h') (hP : ∀ i, ClP i → ¬ P i) : ClS h' g rc := by
  obtain ⟨k0, kK, ⟨jc', k', fw', fj', a61, a62, a63⟩, ⟨f8, a68⟩, ⟨rr', k42, krr⟩, kRl, ⟨f9, k59⟩⟩ := hS
  unfold ClP at hP
  exact ⟨hf.at (hP _ (by omega)) k0, kK.fr hf (fun i h1 h2 => hP i (by omega)), ⟨jc', k', fw', fj', hf.at (hP _ (by omega)) a61, hf.at (hP _ (by omega)) a62, hf.at (hP _ (by omega)) a63⟩, ⟨f8, hf.at (hP _ (by omega)) a68⟩, ⟨rr', hf.at (hP _ (by omega)) k42, krr⟩, fun i hi => (kRl i hi).fr hf (fun j h1 h2 => hP j (by omega)), ⟨f9, hf.at (hP _ (by omega)) k59⟩⟩
theorem ClX.fr {h h' : am_H} {P : Nat → Prop} (hX : ClX h) (hf : am_fr P h h') (hP : ∀ i, (43 ≤ i ∧ i ≤ 58) ∨ i = 60 → ¬ P i) : ClX h' := by
  obtain ⟨⟨n, lb, cd, od, x1⟩, ⟨c, x2⟩, ⟨f, x3⟩⟩ := hX
  exact ⟨⟨n, lb, cd, od, x1.fr hf (fun i hi => hP i (by have := hi.1; have := hi.2; omega))⟩, ⟨c, hf.at (hP _ (by omega)) x2⟩, ⟨f, hf.at (hP _ (by omega)) x3⟩⟩
def muR (n0 u : Nat) (U : Nat → Nat) (x : Nat) : Nat := if x = 0 then 0 else rk n0 u U (x - 1) + 1
theorem muR_le {n0 u x : Nat} {U : Nat → Nat} (hx : x ≤ n0) : muR n0 u U x = x := by
  unfold muR
  by_cases z : x = 0
  · rw [if_pos z, z]
  · rw [if_neg z]
    unfold rk
    rw [if_pos (by omega)]
    omega
def rnP (i : Nat) : Prop := tkP i ∨ i = 41 ∨ i = 64 ∨ i = 65
section
variable {lx : am_Lx} {d : Nat} {h : am_H} {Q : am_Q}
theorem sp_11 (hd : 11 ≤ d) {g : Wk} {rc ln : Nat} {L : Nat → Nat → Nat} {c66 : Int32} {f67 f41 : Nat → Int32} (ok : WkOk g rc) (inj : ∀ i j, i < g.n0 → j < g.n0 → g.W i = g.W j → i = j) (hS : ClS h g rc) (hX : ClX h) (hT : TbC h g.n0 g.W) (hL : DrI h 64 ln L) (hs : Sor ln L) (hok : ∀ i, i < ln → RowOk g.n0 (L i)) (h41 : h[41]? = some (aI 12 f41)) (h66 : h[66]? = some (lO 66 c66)) (h67 : h[67]? = some (aI 40 f67))
    (hyes : ∀ h' u U rn R, am_fr rnP h h' → ClS h' g rc → ClX h' → TbC h' u U → u ≤ 12 → DrI h' 64 rn R → Sor rn R → (∀ i, i < rn → RowOk u (R i)) → (∀ i j, g.n0 ≤ i → i < j → j < u → U i < U j) → RunZ g (A0of g.W ln L) (fun i => i + 1) (Zcl g rc g.n0 0) u U rn R → (∃ f, h'[41]? = some (aI 12 f)) → (∃ c f, h'[66]? = some (lO 66 c) ∧ h'[67]? = some (aI 40 f)) → Q (some (.int (nI (u - g.n0)))) h')
    (hno : ∀ h', am_fr rnP h h' → ClS h' g rc → ClX h' → TbC h' g.n0 g.W → DrI h' 64 ln L → Fail g (A0of g.W ln L) (Zcl g rc g.n0 0) → (∃ f, h'[41]? = some (aI 12 f)) → (∃ c f, h'[66]? = some (lO 66 c) ∧ h'[67]? = some (aI 40 f)) → Q (some (.int (-1))) h') : am_KA lx d 11 [.ref 0] h Q := by
  have h0 := hS.1
  have n12 := ok.2.1
  obtain ⟨t39, wd0, t40, tw0⟩ := id hT
  obtain ⟨l64, l40, fl, l65, gl⟩ := id hL
  obtain ⟨e, rfl⟩ : ∃ e, d = e + 1 := ⟨d - 1, by omega⟩
  have G : am_GK (am_KA lx e) cd_11 := ⟨am_KA_m lx e, cm_11⟩
  refine am_KA_in (by decide) (Nat.le_of_ble_eq_true rfl) ?_
  show am_Go (am_KA lx e) (am_fetch cd_11) Q 0 [some (.ref 0), none, none, none] [] h 0 0
  refine r_ra G (pn := 1) rfl rfl rfl ?_
  refine r_get G (pn := 4) rfl rfl h0 rfl ?_
  refine r_get G (pn := 7) rfl rfl t39 rfl ?_
  refine r_is G (pn := 8) rfl rfl (Nat.le_of_ble_eq_true rfl) ?_
  refine r_ra G (pn := 9) rfl rfl rfl ?_
  refine r_get G (pn := 12) rfl rfl h0 rfl ?_
  refine r_ra G (pn := 13) rfl rfl rfl ?_
  refine r_get G (pn := 16) rfl rfl h0 rfl ?_
  refine r_inv2 G (pn := 19) rfl rfl h66 (Nat.le_of_ble_eq_true rfl) (Nat.le_of_ble_eq_true rfl) (Nat.le_of_ble_eq_true rfl) (sp_101 (g := 66) (g2 := 64) (by omega) h66 h67 l64 l65 l40 (by omega) (by omega) ?_)
  have q1 : am_fr (fun i => i = 66 ∨ i = 67) h ((h.set 67 (aI 40 (va_cpy fl f67 0 0 ln))).set 66 (lO 66 (nI ln))) := (am_fr.rf.put (Or.inr rfl)).put (Or.inl rfl)
  have D1 : DrI ((h.set 67 (aI 40 (va_cpy fl f67 0 0 ln))).set 66 (lO 66 (nI ln))) 66 ln L := by
    refine ⟨am_eq (am_ne (by decide) h66), l40, va_cpy fl f67 0 0 ln, am_ne (by decide) (am_eq h67), fun i hi => ?_⟩
    have : va_cpy fl f67 0 0 ln i = fl i := by
      unfold va_cpy
      rw [if_pos (by omega), Nat.zero_add, Nat.sub_zero]
    rw [this]
    exact gl i hi
  show am_Go (am_KA lx e) (am_fetch cd_11) Q 19 [some (.ref 0), some (.int (nI g.n0)), none, none] [] ((h.set 67 (aI 40 (va_cpy fl f67 0 0 ln))).set 66 (lO 66 (nI ln))) 0 0
  generalize ((h.set 67 (aI 40 (va_cpy fl f67 0 0 ln))).set 66 (lO 66 (nI ln)) : am_H) = h1 at q1 D1
  have q1' : am_fr tkP h h1 := q1.wk (fun i hi => by unfold tkP; omega)
  have S1 : ClS h1 g rc := hS.fr q1 (fun i hi z => by unfold ClP at hi; omega)
  have X1 : ClX h1 := hX.fr q1 (fun i hi z => by omega)
  have T1 : TbC h1 g.n0 g.W := hT.fr q1 ⟨by omega, by omega⟩
  have nt : ∀ i, i < 35 ∨ i = 41 ∨ i = 42 ∨ i = 64 ∨ i = 65 ∨ 68 < i → ¬ tkP i := fun i hi z => by unfold tkP at z; omega
  refine r_ic G (pn := 20) rfl rfl  ?_
  refine r_is G (pn := 21) rfl rfl (Nat.le_of_ble_eq_true rfl) ?_
  have lp : ∀ (z s : Nat) (h' : am_H) (y3 : Option Value) (u : Nat) (U : Nat → Nat) (rn : Nat) (R : Nat → Nat → Nat), s + z = g.n0 → am_fr tkP h h' → ClS h' g rc → ClX h' → TbC h' u U → u ≤ 12 → DrI h' 66 rn R → RunZ g (A0of g.W ln L) (fun i => i + 1) (Zcl g rc s 0) u U rn R → am_Go (am_KA lx e) (am_fetch cd_11) Q 21 [some (.ref 0), some (.int (nI g.n0)), some (.int (nI s)), y3] [] h' 0 0 := by
    intro z
    induction z with
    | zero =>
      intro s h' y3 u U rn R hs0 hf' S' X' T' hu D' R'
      obtain rfl : s = g.n0 := by omega
      refine r_il G (pn := 22) rfl rfl rfl ?_
      refine r_il G (pn := 23) rfl rfl rfl ?_
      refine r_if2 G (pn := 26) rfl rfl (fun c23 => ?_) (fun c23 => ?_)
      rotate_left
      · exact absurd (Int32.le_refl _) c23
      have k0 := S'.1
      obtain ⟨k39, wd, k40, tw⟩ := id T'
      have hZ : ∀ r' s' ot' c', Zcl g rc g.n0 0 r' s' ot' c' → ZOk g rc r' s' ot' c' := Zcl_ok (Or.inr ⟨rfl, rfl⟩)
      have hAle : ∀ a b y, EvA g (A0of g.W ln L) (Zcl g rc g.n0 0) a b y → a ≤ g.n0 ∧ b ≤ g.n0 := fun a b y hy => EvA_le hok hZ hy
      obtain ⟨un, UW, Uinj, -, -, -, -, Ucov⟩ := id R'
      refine r_ra G (pn := 65) rfl rfl rfl ?_
      refine r_get G (pn := 68) rfl rfl k0 rfl ?_
      refine r_il G (pn := 69) rfl rfl rfl ?_
      have k41 := hf'.at (nt 41 (by omega)) h41
      refine r_inv2 G (pn := 72) rfl rfl k39 (Nat.le_of_ble_eq_true rfl) (Nat.le_of_ble_eq_true rfl) (Nat.le_of_ble_eq_true rfl) (sp_124 (by omega) k39 k40 k41 un hu (fun f r s1 s2 s3 s4 => ?_))
      obtain ⟨U2, hSr, hf2, hrk⟩ := srw_of un tw Uinj s1 s2 s3
      have q2 : am_fr (fun i => i = 40 ∨ i = 41) h' ((h'.set 41 (aI 12 r)).set 40 (aL 12 f)) := (am_fr.rf.put (Or.inr rfl)).put (Or.inl rfl)
      have T2 : TbC ((h'.set 41 (aI 12 r)).set 40 (aL 12 f)) u U2 := ⟨am_ne (by decide) (am_ne (by decide) k39), f, am_eq (am_ne (by decide) k40), hf2⟩
      have m41 : ((h'.set 41 (aI 12 r)).set 40 (aL 12 f))[41]? = some (aI 12 r) := am_ne (by decide) (am_eq k41)
      show am_Go (am_KA lx e) (am_fetch cd_11) Q 72 [some (.ref 0), some (.int (nI g.n0)), some (.int (nI g.n0)), y3] [] ((h'.set 41 (aI 12 r)).set 40 (aL 12 f)) 0 0
      generalize ((h'.set 41 (aI 12 r)).set 40 (aL 12 f) : am_H) = h2 at q2 T2 m41
      have S2 : ClS h2 g rc := S'.fr q2 (fun i hi z => by unfold ClP at hi; omega)
      have X2 : ClX h2 := X'.fr q2 (fun i hi z => by omega)
      have D2 : DrI h2 66 rn R := D'.fr q2 ⟨by omega, by omega⟩
      have hf2' : am_fr rnP h h2 := (hf'.wk (fun i hi => Or.inl hi)).tr (q2.wk (fun i hi => by unfold tkP; omega))
      have L2 : DrI h2 64 ln L := (hL.fr hf' ⟨nt _ (by omega), nt _ (by omega)⟩).fr q2 ⟨by omega, by omega⟩
      obtain ⟨m0, -, -, ⟨f68, m68⟩, -⟩ := id S2
      have hrows := Run_rows R' hAle
      have den_old : ∀ j, j < ln → ∃ i, i < rn ∧ RowM (muR g.n0 u U) (R i) (L j) := by
        intro j hj
        obtain ⟨i, hi, dn⟩ := Ucov _ _ _ (Or.inl ⟨j, hj, rfl, rfl, rfl⟩)
        have dl := den_row (nu := fun i => i + 1) nu_s un UW Uinj (hok j hj)
        have e5 := (den_uniq (n0 := g.n0) nu_s Uinj dn dl).mpr ⟨rfl, rfl, yq.rf⟩
        refine ⟨i, hi, ?_⟩
        obtain ⟨o1, o2, o3⟩ := hok j hj
        have em : ∀ k, k < 5 → muR g.n0 u U (R i k) = L j k := fun k hk => by rw [e5 k hk, muR_le (o1 k hk)]
        exact ⟨(em 0 (by omega)).symm, (em 1 (by omega)).symm, o2, o3, fun P => cn_congr (fun k hk => (em (2 + k) (by omega)).symm)⟩
      refine r_ra G (pn := 73) rfl rfl rfl ?_
      refine r_inv1 G (pn := 76) rfl rfl m0 (Nat.le_of_ble_eq_true rfl) (Nat.le_of_ble_eq_true rfl) (Nat.le_of_ble_eq_true rfl) (sp_24 (rho := rk g.n0 u U) (mu := muR g.n0 u U) (by omega) m0 T2.1 m41 hu (fun q hq => ⟨by rw [s4 q hq, hrk q hq], rk_lt hq⟩) rfl (fun q hq => by unfold muR; rw [if_neg (by omega), Nat.add_sub_cancel]) D2 (fun i hi k hk => (hrows i hi).1 k hk) L2 hs den_old m68 (fun h3 ln' L' hf3 L3 s3' c1 c2 n68 => ?_))
      have n3 : ∀ i, ¬ (i = 64 ∨ i = 65 ∨ i = 68) → h3[i]? = h2[i]? := hf3
      have k39' : h3[39]? = some (tO (nI u)) := hf3.at (by omega) T2.1
      have k0' : h3[0]? = some (sO (nI g.cap) (nI rc)) := hf3.at (by omega) m0
      show am_Go (am_KA lx e) (am_fetch cd_11) Q 76 [some (.ref 0), some (.int (nI g.n0)), some (.int (nI g.n0)), y3] [] h3 0 0
      refine r_ra G (pn := 77) rfl rfl rfl ?_
      refine r_get G (pn := 80) rfl rfl k0' rfl ?_
      refine r_get G (pn := 83) rfl rfl k39' rfl ?_
      refine r_il G (pn := 84) rfl rfl rfl ?_
      refine r_ib G (pn := 85) rfl rfl  ?_
      rw [pk_sub un]
      have hrun := Run.of (nu' := fun i => i + 1) R' (fun a b y hy => ⟨muR_le (hAle a b y hy).1, muR_le (hAle a b y hy).2⟩) hSr (mu := muR g.n0 u U) rfl (fun j hj => by show (if j + 1 = 0 then 0 else rk g.n0 u U (j + 1 - 1) + 1) = _; rw [if_neg (by omega), Nat.add_sub_cancel]) s3'.ne c1 c2
      have S3 : ClS h3 g rc := by
        obtain ⟨b0, bK, ⟨jc', k', fw', fj', a61, a62, a63⟩, -, ⟨rr', b42, brr⟩, bRl, ⟨f9, b59⟩⟩ := id S2
        exact ⟨k0', bK.fr hf3 (fun i h1 h2 => by omega), ⟨jc', k', fw', fj', hf3.at (by omega) a61, hf3.at (by omega) a62, hf3.at (by omega) a63⟩, n68, ⟨rr', hf3.at (by omega) b42, brr⟩, fun i hi => (bRl i hi).fr hf3 (fun j h1 h2 => by omega), ⟨f9, hf3.at (by omega) b59⟩⟩
      obtain ⟨b66, -, fb, b67, -⟩ := id D2
      refine r_iret G rfl rfl (hyes h3 u U2 ln' L' (hf2'.tr (hf3.wk (fun i hi => by unfold rnP tkP; omega))) S3 (X2.fr hf3 (fun i hi z => by omega)) (T2.fr hf3 ⟨by omega, by omega⟩) hu L3 s3' (Run_rows hrun hAle) hSr.2.1 hrun ⟨_, hf3.at (by omega) m41⟩ ⟨_, _, hf3.at (by omega) b66, hf3.at (by omega) b67⟩)
    | succ z ih =>
      intro s h' y3 u U rn R hs0 hf' S' X' T' hu D' R'
      refine r_il G (pn := 22) rfl rfl rfl ?_
      refine r_il G (pn := 23) rfl rfl rfl ?_
      refine r_if2 G (pn := 26) rfl rfl (fun c23 => ?_) (fun c23 => ?_)
      · exact absurd ((nI_leI (by omega) (by omega)).mp c23) (by omega)
      refine r_ic G (pn := 27) rfl rfl  ?_
      refine r_is G (pn := 28) rfl rfl (Nat.le_of_ble_eq_true rfl) ?_
      have inner : ∀ (z2 tt : Nat) (h' : am_H) (u : Nat) (U : Nat → Nat) (rn : Nat) (R : Nat → Nat → Nat), tt + z2 = s + 2 → am_fr tkP h h' → ClS h' g rc → ClX h' → TbC h' u U → u ≤ 12 → DrI h' 66 rn R → RunZ g (A0of g.W ln L) (fun i => i + 1) (Zcl g rc s tt) u U rn R → am_Go (am_KA lx e) (am_fetch cd_11) Q 28 [some (.ref 0), some (.int (nI g.n0)), some (.int (nI s)), some (.int (otI (otOf tt)))] [] h' 0 0 := by
        intro z2
        induction z2 with
        | zero =>
          intro tt h' u U rn R htt hf' S' X' T' hu D' R'
          obtain rfl : tt = s + 2 := by omega
          refine r_il G (pn := 29) rfl rfl rfl ?_
          refine r_il G (pn := 30) rfl rfl rfl ?_
          refine r_if2 G (pn := 33) rfl rfl (fun c30 => ?_) (fun c30 => ?_)
          rotate_left
          · exact absurd (show nI s < nI (s + 1) from (nI_ltI (by omega) (by omega)).mpr (by omega)) c30
          refine r_inc G (pn := 61) rfl rfl rfl (Nat.le_of_ble_eq_true rfl) ?_
          refine r_goto G rfl ?_
          rw [nI_1]
          refine ih (s + 1) h' _ u U rn R (by omega) hf' S' X' T' hu D' (R'.congr (fun r' s' ot' c' y => ?_) (fun r' s' ot' c' y => ?_))
          · obtain ⟨y1, y2, y3, y4⟩ := y
            exact ⟨y1, y2, y3, by omega⟩
          · obtain ⟨y1, y2, y3, y4⟩ := y
            exact ⟨y1, y2, y3, by omega⟩
        | succ z2 ih2 =>
          intro tt h' u U rn R htt hf' S' X' T' hu D' R'
          have k0 := S'.1
          refine r_il G (pn := 29) rfl rfl rfl ?_
          refine r_il G (pn := 30) rfl rfl rfl ?_
          refine r_if2 G (pn := 33) rfl rfl (fun c30 => ?_) (fun c30 => ?_)
          · have c30 : nI s < otI (otOf tt) := c30
            rw [otI_n, ← nI_pred (n := s)] at c30
            exact absurd ((m1_le (x := tt) (y := s + 1) (by omega) (by omega)).mpr (by omega)) (Int32.not_le.mpr c30)
          refine r_ra G (pn := 34) rfl rfl rfl ?_
          refine r_il G (pn := 35) rfl rfl rfl ?_
          refine r_il G (pn := 36) rfl rfl rfl ?_
          refine r_inv3 G (pn := 39) rfl rfl k0 (Nat.le_of_ble_eq_true rfl) (Nat.le_of_ble_eq_true rfl) (Nat.le_of_ble_eq_true rfl) (sp_21 (by omega) ok (show s < g.n0 by omega) (fun t et => ?_) S' X' T' hu D' (Zcl_ok (Or.inl ⟨by omega, by omega⟩)) R' (fun h2 u2 U2 rn2 R2 q2 S2 X2 T2 hu2 D2 R2' => ?_) (fun h2 u2 U2 rn2 R2 q2 S2 X2 T2 D2 W2 hfail => ?_))
          · have := oti_of tt
            rw [et] at this
            have this : t + 1 = tt := this
            omega
          · show am_Go (am_KA lx e) (am_fetch cd_11) Q 39 [some (.ref 0), some (.int (nI g.n0)), some (.int (nI s)), some (.int (otI (otOf tt)))] [.int 1] h2 0 0
            refine r_if1 G (pn := 42) rfl rfl (fun c39 => ?_) (fun c39 => ?_)
            rotate_left
            · exact absurd (by decide) c39
            refine r_inc G (pn := 55) rfl rfl rfl (Nat.le_of_ble_eq_true rfl) ?_
            refine r_goto G rfl ?_
            rw [show otI (otOf tt) + 1 = otI (otOf (tt + 1)) by rw [otI_n, otI_n, Int32.sub_add_cancel, nI_pred]]
            refine ih2 (tt + 1) h2 u2 U2 rn2 R2 (by omega) (hf'.tr q2) S2 X2 T2 hu2 D2 (R2'.congr (fun r' s' ot' c' y => ?_) (fun r' s' ot' c' y => ?_))
            · rcases y with ⟨y1, y2, y3, y4⟩ | ⟨y1, y2, y3, y4, y5⟩
              · exact ⟨y1, y2, y3, by omega⟩
              · subst y1; subst y2
                have := oti_of tt
                exact ⟨y3, y4, y5, Or.inr ⟨rfl, by omega⟩⟩
            · obtain ⟨y1, y2, y3, y4⟩ := y
              by_cases y5 : s' = s ∧ oti ot' = tt
              · obtain ⟨e1, e2⟩ := y5
                subst e1
                have e3 : ot' = otOf tt := by rw [← e2, of_oti]
                subst e3
                exact Or.inr ⟨rfl, rfl, y1, y2, y3⟩
              · exact Or.inl ⟨y1, y2, y3, by omega⟩
          · show am_Go (am_KA lx e) (am_fetch cd_11) Q 39 [some (.ref 0), some (.int (nI g.n0)), some (.int (nI s)), some (.int (otI (otOf tt)))] [.int 0] h2 0 0
            refine r_if1 G (pn := 42) rfl rfl (fun c39 => ?_) (fun c39 => ?_)
            · exact absurd rfl c39
            have l0 := S2.1
            obtain ⟨l39, wd2, l40', tw2⟩ := id T2
            refine r_ra G (pn := 43) rfl rfl rfl ?_
            refine r_get G (pn := 46) rfl rfl l0 rfl ?_
            refine r_il G (pn := 47) rfl rfl rfl ?_
            refine r_inv2 G (pn := 50) rfl rfl l39 (Nat.le_of_ble_eq_true rfl) (Nat.le_of_ble_eq_true rfl) (Nat.le_of_ble_eq_true rfl) (sp_123 (by omega) l39 ?_)
            have q3 : am_fr (fun i => i = 39) h2 (h2.set 39 (tO (nI g.n0))) := am_fr.rf.put rfl
            show am_Go (am_KA lx e) (am_fetch cd_11) Q 50 [some (.ref 0), some (.int (nI g.n0)), some (.int (nI s)), some (.int (otI (otOf tt)))] [] (h2.set 39 (tO (nI g.n0))) 0 0
            refine r_ic G (pn := 51) rfl rfl  ?_
            have q23 : am_fr tkP h (h2.set 39 (tO (nI g.n0))) := (hf'.tr q2).put (by unfold tkP; omega)
            obtain ⟨d66, -, fd, d67, -⟩ := D2.fr q3 ⟨by omega, by omega⟩
            obtain ⟨wn, wW, -⟩ := id W2
            refine r_iret G rfl rfl (hno _ (q23.wk (fun i hi => Or.inl hi)) (S2.fr q3 (fun i hi z => by unfold ClP at hi; omega)) (X2.fr q3 (fun i hi z => by omega)) ⟨am_eq l39, wd2, am_ne (by decide) l40', fun i hi => ?_⟩ (hL.fr q23 ⟨nt _ (by omega), nt _ (by omega)⟩) (hfail.mono (fun r' s' ot' c' y => ?_)) ⟨_, q23.at (nt _ (by omega)) h41⟩ ⟨_, _, d66, d67⟩)
            · rw [← wW i hi]
              exact tw2 i (by omega)
            · rcases y with ⟨y1, y2, y3, y4⟩ | ⟨y1, y2, y3, y4, y5⟩
              · exact ⟨y1, y2, y3, by omega⟩
              · subst y1; subst y2
                have := oti_of tt
                exact ⟨y3, y4, y5, Or.inl ⟨by omega, by omega⟩⟩
      refine inner (s + 2) 0 h' u U rn R (by omega) hf' S' X' T' hu D' R'
  refine lp g.n0 0 h1 _ g.n0 g.W ln L (by omega) q1' S1 X1 T1 n12 D1 (Run0 nu_s inj hs hok (fun r' s' ot' c' y => ?_))
  obtain ⟨-, -, -, y4⟩ := y
  omega
end
