/-- a rule: its places, codes, orders before and after -/
def RlI (h : am_H) (g P : Nat) (C Bf Af : Nat → Nat) : Prop := h[g]? = some (rO g (nI P)) ∧ (P = 2 ∨ P = 3) ∧ (∃ f, h[g + 1]? = some (aI 3 f) ∧ ∀ j, j < P → f j = nI (C j) ∧ C j < 4) ∧ (∃ f, h[g + 2]? = some (aI 3 f) ∧ ∀ q, q < 3 → f q = nI (Bf q) ∧ Bf q < 4) ∧ (∃ f, h[g + 3]? = some (aI 3 f) ∧ ∀ q, q < 3 → f q = nI (Af q) ∧ Af q < 4)
theorem RlI.fr {h h' : am_H} {g P : Nat} {C Bf Af : Nat → Nat} {R : Nat → Prop} (hI : RlI h g P C Bf Af) (hf : am_fr R h h') (hR : ∀ i, g ≤ i → i ≤ g + 3 → ¬ R i) : RlI h' g P C Bf Af := by
  obtain ⟨h1, h2, ⟨f3, h3, g3⟩, ⟨f4, h4, g4⟩, ⟨f5, h5, g5⟩⟩ := hI
  exact ⟨hf.at (hR _ (by omega) (by omega)) h1, h2, ⟨f3, hf.at (hR _ (by omega) (by omega)) h3, g3⟩, ⟨f4, hf.at (hR _ (by omega) (by omega)) h4, g4⟩, ⟨f5, hf.at (hR _ (by omega) (by omega)) h5, g5⟩⟩
theorem MxI.fr {h h' : am_H} {n lb : Nat} {cd : Nat → Nat} {od : Nat → Nat → Nat} {R : Nat → Prop} (hI : MxI h n lb cd od) (hf : am_fr R h h') (hR : ∀ i, mxP i → ¬ R i) : MxI h' n lb cd od := ⟨hf.at (hR _ ⟨by omega, by omega⟩) hI.1, hI.2.fr hf (fun i hi => hR i ⟨by have := hi.1; omega, by have := hi.2; omega⟩)⟩
def fitA (C Bf cd : Nat → Nat) (od : Nat → Nat → Nat) (c : Nat → Nat) (pl a : Nat) : Prop := cd a = C pl ∧ ∀ p, p < pl → c p ≠ a ∧ od (c p) a = Bf (p + pl - 1)
theorem fitA.congr {C Bf cd : Nat → Nat} {od : Nat → Nat → Nat} {c c' : Nat → Nat} {pl a : Nat} (h : fitA C Bf cd od c pl a) (e : ∀ p, p < pl → c' p = c p) : fitA C Bf cd od c' pl a := ⟨h.1, fun p hp => by rw [e p hp]; exact h.2 p hp⟩
def Tch (P lb : Nat) (c : Nat → Nat) : Prop := (lb = 0 ∨ ∃ j, j < P ∧ c j < lb) ∧ ∃ j, j < P ∧ lb ≤ c j
theorem Tch.congr {P lb : Nat} {c c' : Nat → Nat} (h : Tch P lb c) (e : ∀ p, p < P → c' p = c p) : Tch P lb c' := by
  obtain ⟨h1, j, hj, h2⟩ := h
  refine ⟨?_, j, hj, by rw [e j hj]; exact h2⟩
  rcases h1 with z | ⟨i, hi, z⟩
  · exact Or.inl z
  · exact Or.inr ⟨i, hi, by rw [e i hi]; exact z⟩
def Mt (P n lb : Nat) (C Bf cd : Nat → Nat) (od : Nat → Nat → Nat) (c : Nat → Nat) : Prop := (∀ j, j < P → c j < n ∧ fitA C Bf cd od c j (c j)) ∧ Tch P lb c
abbrev fO (n : Nat) : am_C := .inr (1, [.ref 59, .ref 60, .int (nI n)])
def FoI (h : am_H) (P cnt : Nat) (T : Nat → Nat → Nat) : Prop := h[58]? = some (fO cnt) ∧ ∃ f, h[60]? = some (aI 2160 f) ∧ ∀ i, i < cnt → ∀ j, j < P → f (3 * i + j) = nI (T i j)
def ChI (h : am_H) (pl : Nat) (c : Nat → Nat) : Prop := ∃ f, h[59]? = some (aI 3 f) ∧ ∀ j, j < pl → f j = nI (c j)
def fiP (i : Nat) : Prop := 58 ≤ i ∧ i ≤ 60
def FoNew (P cnt cnt' : Nat) (T T' : Nat → Nat → Nat) (X : (Nat → Nat) → Prop) : Prop := cnt ≤ cnt' ∧ (∀ i, i < cnt → ∀ j, j < P → T' i j = T i j) ∧ (∀ i, cnt ≤ i → i < cnt' → X (T' i)) ∧ (∀ i j, cnt ≤ i → i < j → j < cnt' → ∃ q, q < P ∧ T' i q ≠ T' j q) ∧ ∀ x, X x → ∃ i, cnt ≤ i ∧ i < cnt' ∧ ∀ q, q < P → T' i q = x q
theorem FoNew.non {P cnt : Nat} {T : Nat → Nat → Nat} {X : (Nat → Nat) → Prop} (h : ∀ x, ¬ X x) : FoNew P cnt cnt T T X := ⟨Nat.le_refl _, fun _ _ _ _ => rfl, fun i a b => by omega, fun i j a b c => by omega, fun x hx => absurd hx (h x)⟩
theorem FoNew.join {P c0 c1 c2 : Nat} {T T1 T2 : Nat → Nat → Nat} {X Y Z : (Nat → Nat) → Prop} (h1 : FoNew P c0 c1 T T1 X) (h2 : FoNew P c1 c2 T1 T2 Y) (hX : ∀ x y, X x → (∀ q, q < P → y q = x q) → X y) (hXZ : ∀ x, X x → Z x) (hYZ : ∀ x, Y x → Z x) (hZ : ∀ x, Z x → X x ∨ Y x) (hd : ∀ x y, X x → Y y → ∃ q, q < P ∧ x q ≠ y q) : FoNew P c0 c2 T T2 Z := by
  obtain ⟨a1, a2, a3, a4, a5⟩ := h1
  obtain ⟨b1, b2, b3, b4, b5⟩ := h2
  refine ⟨by omega, fun i hi j hj => by rw [b2 i (by omega) j hj]; exact a2 i hi j hj, fun i hi hi2 => ?_, fun i j hi hij hj => ?_, fun x hx => ?_⟩
  · by_cases z : i < c1
    · exact hXZ _ (hX _ _ (a3 i hi z) (fun q hq => b2 i z q hq))
    · exact hYZ _ (b3 i (by omega) hi2)
  · by_cases zj : j < c1
    · obtain ⟨q, hq, ne⟩ := a4 i j hi hij zj
      exact ⟨q, hq, by rw [b2 i (by omega) q hq, b2 j zj q hq]; exact ne⟩
    · by_cases zi : i < c1
      · obtain ⟨q, hq, ne⟩ := hd _ _ (a3 i hi zi) (b3 j (by omega) hj)
        exact ⟨q, hq, by rw [b2 i zi q hq]; exact ne⟩
      · exact b4 i j (by omega) hij hj
  · rcases hZ x hx with y | y
    · obtain ⟨i, i1, i2, i3⟩ := a5 x y
      exact ⟨i, i1, by omega, fun q hq => by rw [b2 i i2 q hq]; exact i3 q hq⟩
    · obtain ⟨i, i1, i2, i3⟩ := b5 x y
      exact ⟨i, by omega, i2, i3⟩
def bd : Nat → Nat → Nat
  | 0, _ => 1
  | k + 1, m => m * bd k (m - 1)
def ind (c : Nat → Nat) (pl : Nat) : Nat → Nat := fun a => if ∀ p, p < pl → c p ≠ a then 1 else 0
theorem ind_sm {c : Nat → Nat} {n : Nat} : ∀ {pl : Nat}, (∀ j, j < pl → c j < n) → (∀ i j, i < j → j < pl → c i ≠ c j) → sm (ind c pl) n + pl = n
  | 0, _, _ => by
    have : ∀ n, sm (ind c 0) n = n := by
      intro n
      induction n with
      | zero => rfl
      | succ n ih =>
        show sm (ind c 0) n + ind c 0 n = n + 1
        rw [ih]
        unfold ind
        rw [if_pos (fun p hp => absurd hp (Nat.not_lt_zero p))]
    rw [this]
    rfl
  | pl + 1, h1, h2 => by
    have ih := ind_sm (c := c) (n := n) (pl := pl) (fun j hj => h1 j (by omega)) (fun i j hij hj => h2 i j hij (by omega))
    have z := sm_zero (f := ind c pl) (h1 pl (by omega))
    have e : ind c pl (c pl) = 1 := if_pos (fun p hp => h2 p pl hp (by omega))
    have e2 : sm (fun j => if j = c pl then 0 else ind c pl j) n = sm (ind c (pl + 1)) n := sm_congr (fun i hi => by
      unfold ind
      by_cases y : i = c pl
      · rw [if_pos y, if_neg (fun z => z pl (by omega) y.symm)]
      · rw [if_neg y]
        by_cases w : ∀ p, p < pl → c p ≠ i
        · rw [if_pos w, if_pos (fun p hp => by
            by_cases v : p = pl
            · rw [v]; exact fun z => y z.symm
            · exact w p (by omega))]
        · rw [if_neg w, if_neg (fun z => w (fun p hp => z p (by omega)))])
    rw [e2, e] at z
    omega
theorem sm_mono {f : Nat → Nat} {a : Nat} : ∀ {n : Nat}, a ≤ n → sm f a ≤ sm f n
  | 0, h => by rw [show a = 0 by omega]; exact Nat.le_refl _
  | n + 1, h => by
    by_cases z : a = n + 1
    · rw [z]; exact Nat.le_refl _
    · have := sm_mono (f := f) (a := a) (n := n) (by omega)
      show sm f a ≤ sm f n + f n
      omega
section
variable {lx : am_Lx} {d : Nat} {h : am_H} {Q : am_Q}
theorem sp_74 (hd : 2 ≤ d) {g P n pl a cnt : Nat} {C Bf Af cd c : Nat → Nat} {od : Nat → Nat → Nat} (hR : RlI h g P C Bf Af) (hG : GrI 44 10 h n cd od) (hn : n ≤ 10) (hcd : ∀ i, i < n → cd i < 4) (hod : ∀ i j, i < n → j < n → od i j < 4) (h58 : h[58]? = some (fO cnt)) (hC : ChI h pl c) (hc : ∀ j, j < pl → c j < n) (hpl : pl < P) (ha : a < n) (hno : ¬ fitA C Bf cd od c pl a → Q (some (.int 0)) h) (hyes : fitA C Bf cd od c pl a → Q (some (.int 1)) h) : am_KA lx d 74 [.ref 58, .ref g, .ref 44, .int (nI pl), .int (nI a)] h Q := by
  obtain ⟨r1, rP, ⟨fC, r2, gC⟩, ⟨fB, r3, gB⟩, -⟩ := hR
  obtain ⟨h44, ⟨f45, h45, g45⟩, ⟨r46, h46, g46⟩, hrow, -⟩ := id hG
  obtain ⟨fc, h59, gc⟩ := hC
  obtain ⟨e, rfl⟩ : ∃ e, d = e + 1 := ⟨d - 1, by omega⟩
  have G : am_GK (am_KA lx e) cd_74 := ⟨am_KA_m lx e, cm_74⟩
  refine am_KA_in (by decide) (Nat.le_of_ble_eq_true rfl) ?_
  show am_Go (am_KA lx e) (am_fetch cd_74) Q 0 [some (.ref 58), some (.ref g), some (.ref 44), some (.int (nI pl)), some (.int (nI a)), none, none] [] h 0 0
  refine r_ra G (pn := 1) rfl rfl rfl ?_
  refine r_get G (pn := 4) rfl rfl h44 rfl ?_
  refine r_il G (pn := 6) rfl rfl rfl ?_
  refine r_ialdN G (pn := 7) rfl rfl h45 (by omega) (by omega) ?_
  refine r_ra G (pn := 8) rfl rfl rfl ?_
  refine r_get G (pn := 11) rfl rfl r1 rfl ?_
  refine r_il G (pn := 12) rfl rfl rfl ?_
  refine r_ialdN G (pn := 13) rfl rfl r2 (by omega) (by omega) ?_
  have c1 := (gC pl hpl).2
  have c2 := hcd a ha
  rw [g45 a ha, (gC pl hpl).1]
  refine r_if2 G (pn := 16) rfl rfl (fun c13 => ?_) (fun c13 => ?_)
  rotate_left
  · refine r_ic G (pn := 17) rfl rfl  ?_
    refine r_iret G rfl (by decide) (hno (fun z => c13 (by rw [z.1])))
  have ec : cd a = C pl := (nI_eq (by omega) (by omega)).mp c13
  refine r_ic G (pn := 19) rfl rfl  ?_
  refine r_is G (pn := 21) rfl rfl (Nat.le_of_ble_eq_true rfl) ?_
  have lp : ∀ (k p : Nat) (y6 : Option Value), p + k = pl → (∀ q, q < p → c q ≠ a ∧ od (c q) a = Bf (q + pl - 1)) → am_Go (am_KA lx e) (am_fetch cd_74) Q 21 [some (.ref 58), some (.ref g), some (.ref 44), some (.int (nI pl)), some (.int (nI a)), some (.int (nI p)), y6] [] h 0 0 := by
    intro k
    induction k with
    | zero =>
      intro p y6 hp hq
      obtain rfl : p = pl := by omega
      refine r_il G (pn := 23) rfl rfl rfl ?_
      refine r_il G (pn := 24) rfl rfl rfl ?_
      refine r_if2 G (pn := 27) rfl rfl (fun c24 => ?_) (fun c24 => ?_)
      rotate_left
      · exact absurd (Int32.le_refl _) c24
      refine r_ic G (pn := 76) rfl rfl  ?_
      refine r_iret G rfl (by decide) (hyes ⟨ec, hq⟩)
    | succ k ih =>
      intro p y6 hp hq
      refine r_il G (pn := 23) rfl rfl rfl ?_
      refine r_il G (pn := 24) rfl rfl rfl ?_
      refine r_if2 G (pn := 27) rfl rfl (fun c24 => ?_) (fun c24 => ?_)
      · exact absurd ((nI_leI (by omega) (by omega)).mp c24) (by omega)
      refine r_ra G (pn := 28) rfl rfl rfl ?_
      refine r_get G (pn := 31) rfl rfl h58 rfl ?_
      refine r_il G (pn := 33) rfl rfl rfl ?_
      refine r_ialdN G (pn := 34) rfl rfl h59 (by omega) (by omega) ?_
      refine r_is G (pn := 36) rfl rfl (Nat.le_of_ble_eq_true rfl) ?_
      rw [gc p (by omega)]
      have cn1 := hc p (by omega)
      refine r_il G (pn := 38) rfl rfl rfl ?_
      refine r_il G (pn := 40) rfl rfl rfl ?_
      refine r_if2 G (pn := 43) rfl rfl (fun c40 => ?_) (fun c40 => ?_)
      · refine r_ic G (pn := 68) rfl rfl  ?_
        refine r_iret G rfl (by decide) (hno (fun z => (z.2 p (by omega)).1 ((nI_eq (by omega) (by omega)).mp c40)))
      have ne : c p ≠ a := fun z => c40 (by rw [z])
      obtain ⟨fr, hr1, -, hr2⟩ := hrow (c p) (by omega)
      refine r_ra G (pn := 44) rfl rfl rfl ?_
      refine r_get G (pn := 47) rfl rfl h44 rfl ?_
      refine r_il G (pn := 49) rfl rfl rfl ?_
      refine r_raldN G (pn := 50) rfl rfl h46 (by omega) (by omega) (g46 (c p) (by omega)) ?_
      refine r_il G (pn := 52) rfl rfl rfl ?_
      refine r_ialdN G (pn := 53) rfl rfl hr1 (by omega) (by omega) ?_
      refine r_ra G (pn := 54) rfl rfl rfl ?_
      refine r_get G (pn := 57) rfl rfl r1 rfl ?_
      refine r_il G (pn := 59) rfl rfl rfl ?_
      refine r_il G (pn := 60) rfl rfl rfl ?_
      rw [hr2 a cn1 ha]
      refine r_ins2 G (pn := 63) rfl rfl (Nat.le_of_ble_eq_true rfl) (Nat.le_of_ble_eq_true rfl) (Nat.le_of_ble_eq_true rfl) (sp_117 (by omega) ?_)
      have eix : nI p + nI pl - 1 = nI (p + pl - 1) := by
        rw [nI_add]
        obtain ⟨u, hu⟩ : ∃ u, p + pl = u + 1 := ⟨p + pl - 1, by omega⟩
        rw [hu, nI_pred, Nat.add_sub_cancel]
      rw [eix]
      show am_Go (am_KA lx e) (am_fetch cd_74) Q 63 [some (.ref 58), some (.ref g), some (.ref 44), some (.int (nI pl)), some (.int (nI a)), some (.int (nI p)), some (.int (nI (c p)))] [.int (nI (p + pl - 1)), .ref (g + 2), .int (nI (od (c p) a))] h 0 0
      refine r_ialdN G (pn := 64) rfl rfl r3 (by omega) (by omega) ?_
      obtain ⟨b1, b2⟩ := gB (p + pl - 1) (by omega)
      have o1 := hod (c p) a cn1 ha
      rw [b1]
      refine r_if2 G (pn := 67) rfl rfl (fun c64 => ?_) (fun c64 => ?_)
      · refine r_inc G (pn := 72) rfl rfl rfl (Nat.le_of_ble_eq_true rfl) ?_
        refine r_goto G rfl ?_
        rw [nI_1]
        refine ih (p + 1) _ (by omega) (fun q hq2 => ?_)
        by_cases z : q = p
        · rw [z]; exact ⟨ne, (nI_eq (by omega) (by omega)).mp c64⟩
        · exact hq q (by omega)
      · refine r_ic G (pn := 68) rfl rfl  ?_
        refine r_iret G rfl (by decide) (hno (fun z => c64 (by rw [(z.2 p (by omega)).2])))
  exact lp pl 0 _ (by omega) (fun q hq => absurd hq (Nat.not_lt_zero q))
theorem sp_93 (hd : 1 ≤ d) {P lb n : Nat} {c : Nat → Nat} (h43 : h[43]? = some (xO lb)) (hC : ChI h P c) (hP : P ≤ 3) (hc : ∀ j, j < P → c j < n) (hn : n ≤ 10) (hlb : lb ≤ 10) (hno : ¬ Tch P lb c → Q (some (.int 0)) h) (hyes : Tch P lb c → Q (some (.int 1)) h) : am_KA lx d 93 [.ref 43, .ref 59, .int (nI P)] h Q := by
  obtain ⟨fc, h59, gc⟩ := hC
  obtain ⟨e, rfl⟩ : ∃ e, d = e + 1 := ⟨d - 1, by omega⟩
  have G : am_GK (am_KA lx e) cd_93 := ⟨am_KA_m lx e, cm_93⟩
  refine am_KA_in (by decide) (Nat.le_of_ble_eq_true rfl) ?_
  show am_Go (am_KA lx e) (am_fetch cd_93) Q 0 [some (.ref 43), some (.ref 59), some (.int (nI P)), none, none, none] [] h 0 0
  have lp : ∀ (k p : Nat) (x y : Int32), p + k = P → (x = 0 ∨ x = 1) → (y = 0 ∨ y = 1) → (x = 1 ↔ (lb = 0 ∨ ∃ j, j < p ∧ c j < lb)) → (y = 1 ↔ ∃ j, j < p ∧ lb ≤ c j) → am_Go (am_KA lx e) (am_fetch cd_93) Q 19 [some (.ref 43), some (.ref 59), some (.int (nI P)), some (.int x), some (.int y), some (.int (nI p))] [] h 0 0 := by
    intro k
    induction k with
    | zero =>
      intro p x y hp hx hy ex ey
      obtain rfl : p = P := by omega
      refine r_il G (pn := 21) rfl rfl rfl ?_
      refine r_il G (pn := 22) rfl rfl rfl ?_
      refine r_if2 G (pn := 25) rfl rfl (fun c22 => ?_) (fun c22 => ?_)
      rotate_left
      · exact absurd (Int32.le_refl _) c22
      refine r_il G (pn := 51) rfl rfl rfl ?_
      refine r_if1 G (pn := 54) rfl rfl (fun c51 => ?_) (fun c51 => ?_)
      · refine r_ic G (pn := 64) rfl rfl  ?_
        refine r_iret G rfl (by decide) (hno (fun z => by have := ex.mpr z.1; rw [c51] at this; exact absurd this (by decide)))
      have x1 : x = 1 := by
        rcases hx with z | z
        · exact absurd z c51
        · exact z
      refine r_il G (pn := 56) rfl rfl rfl ?_
      refine r_if1 G (pn := 59) rfl rfl (fun c56 => ?_) (fun c56 => ?_)
      · refine r_ic G (pn := 64) rfl rfl  ?_
        refine r_iret G rfl (by decide) (hno (fun z => by have := ey.mpr z.2; rw [c56] at this; exact absurd this (by decide)))
      have y1 : y = 1 := by
        rcases hy with z | z
        · exact absurd z c56
        · exact z
      refine r_ic G (pn := 60) rfl rfl  ?_
      refine r_goto G rfl ?_
      refine r_iret G rfl (by decide) (hyes ⟨ex.mp x1, ey.mp y1⟩)
    | succ k ih =>
      intro p x y hp hx hy ex ey
      refine r_il G (pn := 21) rfl rfl rfl ?_
      refine r_il G (pn := 22) rfl rfl rfl ?_
      refine r_if2 G (pn := 25) rfl rfl (fun c22 => ?_) (fun c22 => ?_)
      · exact absurd ((nI_leI (by omega) (by omega)).mp c22) (by omega)
      refine r_ra G (pn := 26) rfl rfl rfl ?_
      refine r_il G (pn := 28) rfl rfl rfl ?_
      refine r_ialdN G (pn := 29) rfl rfl h59 (by omega) (by omega) ?_
      refine r_ra G (pn := 30) rfl rfl rfl ?_
      refine r_get G (pn := 33) rfl rfl (by first | assumption | (repeat (first | assumption | exact am_eq (by first | assumption | exact am_eq (by assumption) | exact am_ne (by first | decide | omega) (by assumption)) | refine am_ne (by first | decide | omega) ?_))) rfl ?_
      rw [gc p (by omega)]
      have := hc p (by omega)
      refine r_if2 G (pn := 36) rfl rfl (fun c33 => ?_) (fun c33 => ?_)
      · have hle := (nI_leI (by omega) (by omega)).mp c33
        refine r_ic G (pn := 42) rfl rfl  ?_
        refine r_is G (pn := 44) rfl rfl (Nat.le_of_ble_eq_true rfl) ?_
        refine r_inc G (pn := 47) rfl rfl rfl (Nat.le_of_ble_eq_true rfl) ?_
        refine r_goto G rfl ?_
        rw [nI_1]
        refine ih (p + 1) x 1 (by omega) hx (Or.inr rfl) ?_ ⟨fun _ => ⟨p, by omega, hle⟩, fun _ => rfl⟩
        rw [ex]
        constructor
        · rintro (z | ⟨j, hj, z⟩)
          · exact Or.inl z
          · exact Or.inr ⟨j, by omega, z⟩
        · rintro (z | ⟨j, hj, z⟩)
          · exact Or.inl z
          · refine Or.inr ⟨j, ?_, z⟩
            by_cases w : j = p
            · rw [w] at z; omega
            · omega
      · have hlt : c p < lb := Nat.not_le.mp (fun z => c33 ((nI_leI (by omega) (by omega)).mpr z))
        refine r_ic G (pn := 37) rfl rfl  ?_
        refine r_is G (pn := 38) rfl rfl (Nat.le_of_ble_eq_true rfl) ?_
        refine r_goto G rfl ?_
        refine r_inc G (pn := 47) rfl rfl rfl (Nat.le_of_ble_eq_true rfl) ?_
        refine r_goto G rfl ?_
        rw [nI_1]
        refine ih (p + 1) 1 y (by omega) (Or.inr rfl) hy ⟨fun _ => Or.inr ⟨p, by omega, hlt⟩, fun _ => rfl⟩ ?_
        rw [ey]
        constructor
        · rintro ⟨j, hj, z⟩
          exact ⟨j, by omega, z⟩
        · rintro ⟨j, hj, z⟩
          refine ⟨j, ?_, z⟩
          by_cases w : j = p
          · rw [w] at z; omega
          · omega
  refine r_ra G (pn := 1) rfl rfl rfl ?_
  refine r_get G (pn := 4) rfl rfl (by first | assumption | (repeat (first | assumption | exact am_eq (by first | assumption | exact am_eq (by assumption) | exact am_ne (by first | decide | omega) (by assumption)) | refine am_ne (by first | decide | omega) ?_))) rfl ?_
  refine r_if1 G (pn := 7) rfl rfl (fun c4 => ?_) (fun c4 => ?_)
  · refine r_ic G (pn := 12) rfl rfl  ?_
    refine r_is G (pn := 13) rfl rfl (Nat.le_of_ble_eq_true rfl) ?_
    refine r_ic G (pn := 14) rfl rfl  ?_
    refine r_is G (pn := 16) rfl rfl (Nat.le_of_ble_eq_true rfl) ?_
    refine r_ic G (pn := 17) rfl rfl  ?_
    refine r_is G (pn := 19) rfl rfl (Nat.le_of_ble_eq_true rfl) ?_
    refine lp P 0 0 0 (by omega) (Or.inl rfl) (Or.inl rfl) ⟨fun z => absurd z (by decide), fun z => ?_⟩ ⟨fun z => absurd z (by decide), fun ⟨j, hj, _⟩ => absurd hj (Nat.not_lt_zero j)⟩
    rcases z with z | ⟨j, hj, _⟩
    · exact absurd (by rw [z]; rfl) c4
    · exact absurd hj (Nat.not_lt_zero j)
  · have z0 : lb = 0 := (nI_eq (b := 0) (by omega) (by omega)).mp (Classical.byContradiction c4)
    refine r_ic G (pn := 8) rfl rfl  ?_
    refine r_goto G rfl ?_
    refine r_is G (pn := 13) rfl rfl (Nat.le_of_ble_eq_true rfl) ?_
    refine r_ic G (pn := 14) rfl rfl  ?_
    refine r_is G (pn := 16) rfl rfl (Nat.le_of_ble_eq_true rfl) ?_
    refine r_ic G (pn := 17) rfl rfl  ?_
    refine r_is G (pn := 19) rfl rfl (Nat.le_of_ble_eq_true rfl) ?_
    exact lp P 0 1 0 (by omega) (Or.inr rfl) (Or.inl rfl) ⟨fun _ => Or.inl z0, fun _ => rfl⟩ ⟨fun z => absurd z (by decide), fun ⟨j, hj, _⟩ => absurd hj (Nat.not_lt_zero j)⟩
theorem nI_3 (a : Nat) : nI a * 3 = nI (3 * a) := by
  rw [show nI a * (3 : Int32) = nI (a * 3) from pk_mul a 3, Nat.mul_comm]
theorem sp_75 (hd : 1 ≤ d) {P cnt : Nat} {T : Nat → Nat → Nat} {c : Nat → Nat} (hP : P ≤ 3) (hF : FoI h P cnt T) (hC : ChI h P c) (hlt : cnt < 720) (hq : ∀ h', am_fr fiP h h' → (∀ i, i ≠ 58 → i ≠ 60 → h'[i]? = h[i]?) → FoI h' P (cnt + 1) (fun i => if i = cnt then c else T i) → Q none h') : am_KA lx d 75 [.ref 58] h Q := by
  obtain ⟨h58, fo, h60, go⟩ := hF
  obtain ⟨fc, h59, gc⟩ := hC
  obtain ⟨e, rfl⟩ : ∃ e, d = e + 1 := ⟨d - 1, by omega⟩
  have G : am_GK (am_KA lx e) cd_75 := ⟨am_KA_m lx e, cm_75⟩
  refine am_KA_in (by decide) (Nat.le_of_ble_eq_true rfl) ?_
  show am_Go (am_KA lx e) (am_fetch cd_75) Q 0 [some (.ref 58)] [] h 0 0
  refine r_ra G (pn := 1) rfl rfl rfl ?_
  refine r_get G (pn := 4) rfl rfl (by first | assumption | (repeat (first | assumption | exact am_eq (by first | assumption | exact am_eq (by assumption) | exact am_ne (by first | decide | omega) (by assumption)) | refine am_ne (by first | decide | omega) ?_))) rfl ?_
  refine r_ic G (pn := 7) rfl rfl  ?_
  refine r_if2 G (pn := 10) rfl rfl (fun c7 => ?_) (fun c7 => ?_)
  · exact absurd ((nI_leI (a := 720) (by omega) (by omega)).mp c7) (by omega)
  refine r_ra G (pn := 11) rfl rfl rfl ?_
  refine r_get G (pn := 14) rfl rfl (by first | assumption | (repeat (first | assumption | exact am_eq (by first | assumption | exact am_eq (by assumption) | exact am_ne (by first | decide | omega) (by assumption)) | refine am_ne (by first | decide | omega) ?_))) rfl ?_
  refine r_ic G (pn := 15) rfl rfl  ?_
  refine r_ra G (pn := 16) rfl rfl rfl ?_
  refine r_get G (pn := 19) rfl rfl (by first | assumption | (repeat (first | assumption | exact am_eq (by first | assumption | exact am_eq (by assumption) | exact am_ne (by first | decide | omega) (by assumption)) | refine am_ne (by first | decide | omega) ?_))) rfl ?_
  refine r_ra G (pn := 20) rfl rfl rfl ?_
  refine r_get G (pn := 23) rfl rfl (by first | assumption | (repeat (first | assumption | exact am_eq (by first | assumption | exact am_eq (by assumption) | exact am_ne (by first | decide | omega) (by assumption)) | refine am_ne (by first | decide | omega) ?_))) rfl ?_
  refine r_ic G (pn := 24) rfl rfl  ?_
  refine r_ib G (pn := 25) rfl rfl  ?_
  refine r_ic G (pn := 26) rfl rfl  ?_
  rw [nI_3]
  refine r_copy G (pn := 29) rfl rfl h60 h59 (Nat.le_of_ble_eq_true rfl) (by decide) (nI_pos (by omega)) (by decide) (Nat.le_of_ble_eq_true rfl) (by rw [nI_clamp (by omega)]; show 3 * cnt + 3 ≤ 2160; omega) ?_
  rw [nI_clamp (by omega)]
  refine r_ra G (pn := 30) rfl rfl rfl ?_
  refine r_dup G (pn := 31) rfl rfl rfl ?_
  refine r_get G (pn := 34) rfl rfl (am_ne (by decide) h58) rfl ?_
  refine r_ic G (pn := 35) rfl rfl  ?_
  refine r_ib G (pn := 36) rfl rfl  ?_
  rw [nI_1]
  refine r_puti G (pn := 39) rfl rfl (am_ne (by decide) h58) (Nat.le_of_ble_eq_true rfl) ?_
  refine r_vret G rfl (hq _ ((am_fr.rf.put ⟨by omega, by omega⟩).put ⟨by omega, by omega⟩) (fun i h1 h2 => by rw [List.getElem?_set_ne (fun z => h1 z.symm), List.getElem?_set_ne (fun z => h2 z.symm)]) ⟨am_eq (am_ne (by decide) h58), _, am_ne (by decide) (am_eq h60), fun i hi j hj => ?_⟩)
  show va_cpy fc fo 0 (3 * cnt) 3 (3 * i + j) = nI ((if i = cnt then c else T i) j)
  unfold va_cpy
  by_cases z : i = cnt
  · rw [if_pos z, if_pos (by omega), show 0 + (3 * i + j - 3 * cnt) = j by omega]
    exact gc j hj
  · rw [if_neg z, if_neg (by omega)]
    exact go i (by omega) j hj
end
