def eq5 (t t' : Nat → Nat) : Prop := ∀ k, k < 5 → t k = t' k
/-- the same three, in whatever order -/
def yq (y y' : Nat → Nat) : Prop := ∀ P : Nat → Bool, cn P y 0 3 = cn P y' 0 3
theorem yq.rf {y : Nat → Nat} : yq y y := fun _ => rfl
theorem yq.sy {y y' : Nat → Nat} (h : yq y y') : yq y' y := fun P => (h P).symm
theorem yq.tr {y y' y2 : Nat → Nat} (h : yq y y') (g : yq y' y2) : yq y y2 := fun P => (h P).trans (g P)
theorem yq.map {y y' : Nat → Nat} (h : yq y y') (f : Nat → Nat) : yq (fun i => f (y i)) (fun i => f (y' i)) := fun P => by
  rw [show cn P (fun i => f (y i)) 0 3 = cn (fun x => P (f x)) y 0 3 from cn_map (g := y), show cn P (fun i => f (y' i)) 0 3 = cn (fun x => P (f x)) y' 0 3 from cn_map (g := y)]
  exact h _
theorem yq.mem {y y' : Nat → Nat} (h : yq y y') {i : Nat} (hi : i < 3) : ∃ j, j < 3 ∧ y' i = y j := by
  have h1 : 1 ≤ cn (fun z => decide (z = y' i)) y' 0 3 := cn_pos (i := i) (by rw [Nat.zero_add]; exact decide_eq_true rfl) hi
  rw [← h] at h1
  obtain ⟨j, hj, e⟩ := cn_ex h1
  rw [Nat.zero_add] at e
  exact ⟨j, hj, (of_decide_eq_true e).symm⟩
theorem srt_uniqN {f g : Nat → Nat} {a k : Nat} (hf : ∀ i j, i < j → j < k → f (a + i) ≤ f (a + j)) (hg : ∀ i j, i < j → j < k → g (a + i) ≤ g (a + j)) (hc : ∀ P : Nat → Bool, cn P f a k = cn P g a k) : ∀ i, i < k → f (a + i) = g (a + i) := by
  intro i hi
  have side : ∀ (f g : Nat → Nat), (∀ i j, i < j → j < k → f (a + i) ≤ f (a + j)) → (∀ i j, i < j → j < k → g (a + i) ≤ g (a + j)) → (∀ P : Nat → Bool, cn P f a k = cn P g a k) → ¬ f (a + i) < g (a + i) := by
    intro f g hf hg hc hlt
    have h1 : i + 1 ≤ cn (fun x => decide (x ≤ f (a + i))) f a k := by
      refine cn_ge (m := i + 1) (fun j hj => ?_) (by omega)
      refine decide_eq_true ?_
      rcases (show j < i ∨ j = i by omega) with z | z
      · exact hf j i z hi
      · rw [z]; exact Nat.le_refl _
    have h2 : cn (fun x => decide (x ≤ f (a + i))) g a k ≤ i := cn_no (fun j hj hjk => by
      intro z
      have z := of_decide_eq_true z
      rcases (show i < j ∨ i = j by omega) with y | y
      · have := hg i j y hjk
        omega
      · rw [← y] at z; omega)
    rw [hc] at h1
    omega
  have a1 := side f g hf hg hc
  have a2 := side g f hg hf (fun P => (hc P).symm)
  omega
/-- the number of a word (with 1 added; 0: none) under a numbering -/
noncomputable def num (nu : Nat → Nat) (u : Nat) (U : Nat → Nat) (z : Nat) : Nat := @dite _ (∃ j, j < u ∧ z = U j + 1) (Classical.propDecidable _) (fun h => nu (Classical.choose h)) (fun _ => 0)
theorem num_0 {nu U : Nat → Nat} {u : Nat} : num nu u U 0 = 0 := by
  unfold num
  rw [dif_neg]
  rintro ⟨j, -, e⟩
  omega
theorem num_s {nu U : Nat → Nat} {u j : Nat} (hU : ∀ i j, i < u → j < u → U i = U j → i = j) (hj : j < u) : num nu u U (U j + 1) = nu j := by
  unfold num
  rw [dif_pos ⟨j, hj, rfl⟩]
  have := Classical.choose_spec (⟨j, hj, rfl⟩ : ∃ i, i < u ∧ U j + 1 = U i + 1)
  rw [hU _ j this.1 hj (by omega)]
def known3 (u : Nat) (U y : Nat → Nat) : Prop := ∀ i, i < 3 → y i = 0 ∨ ∃ j, j < u ∧ y i = U j + 1
/-- a row of numbers says this reaction -/
def den (nu : Nat → Nat) (u : Nat) (U t : Nat → Nat) (a b : Nat) (y : Nat → Nat) : Prop := t 0 = a ∧ t 1 = b ∧ t 2 ≤ t 3 ∧ t 3 ≤ t 4 ∧ known3 u U y ∧ ∀ P : Nat → Bool, cn P t 2 3 = cn P (fun i => num nu u U (y i)) 0 3
theorem den.yq {nu U t y y' : Nat → Nat} {u a b : Nat} (h : den nu u U t a b y) (e : yq y y') : den nu u U t a b y' := by
  obtain ⟨h1, h2, h3, h4, h5, h6⟩ := h
  refine ⟨h1, h2, h3, h4, fun i hi => ?_, fun P => (h6 P).trans (e.map _ P)⟩
  obtain ⟨j, hj, ej⟩ := e.mem hi
  rw [ej]
  exact h5 j hj
def NuOk (n0 : Nat) (nu : Nat → Nat) : Prop := (∀ i, i < n0 → nu i = i + 1) ∧ (∀ i j, nu i = nu j → i = j) ∧ ∀ i, nu i ≠ 0
theorem srt3 {t t' : Nat → Nat} (h1 : t 2 ≤ t 3) (h2 : t 3 ≤ t 4) (h1' : t' 2 ≤ t' 3) (h2' : t' 3 ≤ t' 4) (hc : ∀ P : Nat → Bool, cn P t 2 3 = cn P t' 2 3) : t 2 = t' 2 ∧ t 3 = t' 3 ∧ t 4 = t' 4 := by
  have s : ∀ t : Nat → Nat, t 2 ≤ t 3 → t 3 ≤ t 4 → ∀ i j, i < j → j < 3 → t (2 + i) ≤ t (2 + j) := by
    intro t a b i j hij hj
    rcases (show (i = 0 ∧ j = 1) ∨ (i = 0 ∧ j = 2) ∨ (i = 1 ∧ j = 2) by omega) with ⟨z1, z2⟩ | ⟨z1, z2⟩ | ⟨z1, z2⟩
    · rw [z1, z2]; exact a
    · rw [z1, z2]; exact Nat.le_trans a b
    · rw [z1, z2]; exact b
  have u := srt_uniqN (s t h1 h2) (s t' h1' h2') hc
  exact ⟨u 0 (by omega), u 1 (by omega), u 2 (by omega)⟩
theorem den_uniq {nu U t t' y y' : Nat → Nat} {n0 u a b a' b' : Nat} (hn : NuOk n0 nu) (hU : ∀ i j, i < u → j < u → U i = U j → i = j) (h : den nu u U t a b y) (h' : den nu u U t' a' b' y') : eq5 t t' ↔ (a = a' ∧ b = b' ∧ yq y y') := by
  obtain ⟨h1, h2, h3, h4, h5, h6⟩ := h
  obtain ⟨g1, g2, g3, g4, g5, g6⟩ := h'
  constructor
  · intro e
    refine ⟨by rw [← h1, ← g1]; exact e 0 (by omega), by rw [← h2, ← g2]; exact e 1 (by omega), ?_⟩
    have ex : yq (fun i => num nu u U (y i)) (fun i => num nu u U (y' i)) := fun P => by
      rw [← h6 P, ← g6 P]
      exact cn_congr (fun i hi => e (2 + i) (by omega))
    -- back to the words
    have bk : ∀ z, z = 0 ∨ (∃ j, j < u ∧ z = U j + 1) → ∀ z', z' = 0 ∨ (∃ j, j < u ∧ z' = U j + 1) → num nu u U z = num nu u U z' → z = z' := by
      intro z hz z' hz' en
      rcases hz with q | ⟨j, j1, j2⟩
      · rcases hz' with q' | ⟨j', j1', j2'⟩
        · rw [q, q']
        · rw [q, num_0, j2', num_s hU j1'] at en
          exact absurd en.symm (hn.2.2 _)
      · rcases hz' with q' | ⟨j', j1', j2'⟩
        · rw [q', num_0, j2, num_s hU j1] at en
          exact absurd en (hn.2.2 _)
        · rw [j2, j2', num_s hU j1, num_s hU j1'] at en
          rw [j2, j2', hn.2.1 _ _ en]
    intro P
    -- count the words by their numbers
    have cnt : ∀ y : Nat → Nat, known3 u U y → cn P y 0 3 = cn (fun v => @decide (∃ z, (z = 0 ∨ ∃ j, j < u ∧ z = U j + 1) ∧ num nu u U z = v ∧ P z = true) (Classical.propDecidable _)) (fun i => num nu u U (y i)) 0 3 := by
      intro y hy
      have gen : ∀ k, k ≤ 3 → cn P y 0 k = cn (fun v => @decide (∃ z, (z = 0 ∨ ∃ j, j < u ∧ z = U j + 1) ∧ num nu u U z = v ∧ P z = true) (Classical.propDecidable _)) (fun i => num nu u U (y i)) 0 k := by
        intro k
        induction k with
        | zero => intro _; rfl
        | succ k ih =>
          intro hk
          show cn P y 0 k + (if P (y (0 + k)) = true then 1 else 0) = cn _ _ 0 k + (if @decide (∃ z, (z = 0 ∨ ∃ j, j < u ∧ z = U j + 1) ∧ num nu u U z = num nu u U (y (0 + k)) ∧ P z = true) (Classical.propDecidable _) = true then 1 else 0)
          rw [ih (by omega)]
          congr 1
          by_cases q : P (y (0 + k)) = true
          · rw [if_pos q, if_pos (@decide_eq_true _ (Classical.propDecidable _) ⟨y (0 + k), hy _ (by omega), rfl, q⟩)]
          · rw [if_neg q, if_neg (fun w => by
              obtain ⟨z, z1, z2, z3⟩ := @of_decide_eq_true _ (Classical.propDecidable _) w
              rw [bk z z1 _ (hy (0 + k) (by omega)) z2] at z3
              exact q z3)]
      exact gen 3 (by omega)
    rw [cnt y h5, cnt y' g5]
    exact ex _
  · rintro ⟨e1, e2, e3⟩
    have := srt3 h3 h4 g3 g4 (fun P => by rw [h6 P, g6 P]; exact e3.map _ P)
    intro k hk
    rcases (show k = 0 ∨ k = 1 ∨ k = 2 ∨ k = 3 ∨ k = 4 by omega) with z | z | z | z | z
    · rw [z, h1, g1, e1]
    · rw [z, h2, g2, e2]
    · rw [z]; exact this.1
    · rw [z]; exact this.2.1
    · rw [z]; exact this.2.2
/-- numbers stay when words are added -/
theorem den.ext {nu U U' t y : Nat → Nat} {u u' a b : Nat} (h : den nu u U t a b y) (hu : u ≤ u') (hU : ∀ i j, i < u' → j < u' → U' i = U' j → i = j) (e : ∀ i, i < u → U' i = U i) : den nu u' U' t a b y := by
  obtain ⟨h1, h2, h3, h4, h5, h6⟩ := h
  have hU0 : ∀ i j, i < u → j < u → U i = U j → i = j := fun i j hi hj z => hU i j (by omega) (by omega) (by rw [e i hi, e j hj]; exact z)
  refine ⟨h1, h2, h3, h4, fun i hi => ?_, fun P => ?_⟩
  · rcases h5 i hi with z | ⟨j, j1, j2⟩
    · exact Or.inl z
    · exact Or.inr ⟨j, by omega, by rw [e j j1]; exact j2⟩
  · rw [h6 P]
    refine cn_congr (fun i hi => ?_)
    show num nu u U (y (0 + i)) = num nu u' U' (y (0 + i))
    rcases h5 (0 + i) (by omega) with z | ⟨j, j1, j2⟩
    · rw [z, num_0, num_0]
    · rw [j2, num_s hU0 j1, ← e j j1, num_s hU (by omega)]
/-- a state of a round: the words met so far with their numbers, and the rows -/
def Run (n0 : Nat) (W nu : Nat → Nat) (Ws : Nat → Prop) (A : Nat → Nat → (Nat → Nat) → Prop) (u : Nat) (U : Nat → Nat) (rn : Nat) (R : Nat → Nat → Nat) : Prop :=
  n0 ≤ u ∧ (∀ i, i < n0 → U i = W i) ∧ (∀ i j, i < u → j < u → U i = U j → i = j) ∧ (∀ i, i < u → Ws (U i)) ∧ (∀ w, Ws w → ∃ i, i < u ∧ U i = w) ∧ (∀ i j, i < j → j < rn → ¬ eq5 (R i) (R j)) ∧ (∀ i, i < rn → ∃ a b y, A a b y ∧ den nu u U (R i) a b y) ∧ ∀ a b y, A a b y → ∃ i, i < rn ∧ den nu u U (R i) a b y
theorem Run.same {n0 u rn : Nat} {W nu U : Nat → Nat} {Ws Ws' : Nat → Prop} {A A' : Nat → Nat → (Nat → Nat) → Prop} {R : Nat → Nat → Nat} (h : Run n0 W nu Ws A u U rn R) (e1 : ∀ w, Ws' w ↔ Ws w) (e2 : ∀ a b y, A a b y → ∃ y', A' a b y' ∧ yq y y') (e3 : ∀ a b y, A' a b y → ∃ y', A a b y' ∧ yq y y') : Run n0 W nu Ws' A' u U rn R := by
  obtain ⟨h1, h2, h3, h4, h5, h6, h7, h8⟩ := h
  refine ⟨h1, h2, h3, fun i hi => (e1 _).mpr (h4 i hi), fun w hw => h5 w ((e1 w).mp hw), h6, fun i hi => ?_, fun a b y hA => ?_⟩
  · obtain ⟨a, b, y, g1, g2⟩ := h7 i hi
    obtain ⟨y', q1, q2⟩ := e2 a b y g1
    exact ⟨a, b, y', q1, g2.yq q2⟩
  · obtain ⟨y', q1, q2⟩ := e3 a b y hA
    obtain ⟨i, hi, g⟩ := h8 a b y' q1
    exact ⟨i, hi, g.yq q2.sy⟩
theorem Run.word {n0 u rn w : Nat} {W nu U : Nat → Nat} {Ws : Nat → Prop} {A : Nat → Nat → (Nat → Nat) → Prop} {R : Nat → Nat → Nat} (h : Run n0 W nu Ws A u U rn R) (hw : ∀ i, i < u → U i ≠ w) : Run n0 W nu (fun v => Ws v ∨ v = w) A (u + 1) (uN U u w) rn R := by
  obtain ⟨h1, h2, h3, h4, h5, h6, h7, h8⟩ := h
  have inj : ∀ i j, i < u + 1 → j < u + 1 → uN U u w i = uN U u w j → i = j := by
    intro i j hi hj e
    by_cases yi : i = u
    · by_cases yj : j = u
      · omega
      · rw [yi, uN_s, uN_n yj] at e
        exact absurd e.symm (hw j (by omega))
    · by_cases yj : j = u
      · rw [yj, uN_s, uN_n yi] at e
        exact absurd e (hw i (by omega))
      · rw [uN_n yi, uN_n yj] at e
        exact h3 i j (by omega) (by omega) e
  have ag : ∀ i, i < u → uN U u w i = U i := fun i hi => uN_n (by omega)
  refine ⟨by omega, fun i hi => by rw [ag i (by omega)]; exact h2 i hi, inj, fun i hi => ?_, fun v hv => ?_, h6, fun i hi => ?_, fun a b y hA => ?_⟩
  · by_cases y : i = u
    · rw [y, uN_s]; exact Or.inr rfl
    · rw [uN_n y]; exact Or.inl (h4 i (by omega))
  · rcases hv with z | z
    · obtain ⟨i, i1, i2⟩ := h5 v z
      exact ⟨i, by omega, by rw [ag i i1]; exact i2⟩
    · exact ⟨u, by omega, by rw [uN_s, z]⟩
  · obtain ⟨a, b, y, g1, g2⟩ := h7 i hi
    exact ⟨a, b, y, g1, g2.ext (by omega) inj ag⟩
  · obtain ⟨i, hi, g⟩ := h8 a b y hA
    exact ⟨i, hi, g.ext (by omega) inj ag⟩
theorem Run.there {n0 u rn j : Nat} {W nu U t y : Nat → Nat} {a b : Nat} {Ws : Nat → Prop} {A : Nat → Nat → (Nat → Nat) → Prop} {R : Nat → Nat → Nat} (h : Run n0 W nu Ws A u U rn R) (ht : den nu u U t a b y) (hj : j < rn) (e : eq5 (R j) t) : Run n0 W nu Ws (fun a' b' y' => A a' b' y' ∨ (a' = a ∧ b' = b ∧ y' = y)) u U rn R := by
  obtain ⟨h1, h2, h3, h4, h5, h6, h7, h8⟩ := h
  refine ⟨h1, h2, h3, h4, h5, h6, fun i hi => ?_, fun a' b' y' hA => ?_⟩
  · obtain ⟨a, b, y, g1, g2⟩ := h7 i hi
    exact ⟨a, b, y, Or.inl g1, g2⟩
  · rcases hA with z | ⟨z1, z2, z3⟩
    · exact h8 a' b' y' z
    · subst z1; subst z2; subst z3
      obtain ⟨q1, q2, q3, q4, q5, q6⟩ := ht
      have e0 := e 0 (by omega)
      have e1 := e 1 (by omega)
      have e2 := e 2 (by omega)
      have e3 := e 3 (by omega)
      have e4 := e 4 (by omega)
      exact ⟨j, hj, by rw [e0]; exact q1, by rw [e1]; exact q2, by rw [e2, e3]; exact q3, by rw [e3, e4]; exact q4, q5, fun P => by rw [← q6 P]; exact cn_congr (fun i hi => e (2 + i) (by omega))⟩
/-- a row comes in somewhere -/
theorem Run.row {n0 u rn p : Nat} {W nu U t y : Nat → Nat} {a b : Nat} {Ws : Nat → Prop} {A : Nat → Nat → (Nat → Nat) → Prop} {R R' : Nat → Nat → Nat} (h : Run n0 W nu Ws A u U rn R) (ht : den nu u U t a b y) (hne : ∀ i, i < rn → ¬ eq5 (R i) t) (hp : p ≤ rn) (r1 : ∀ i, i < p → R' i = R i) (r2 : R' p = t) (r3 : ∀ i, p < i → i ≤ rn → R' i = R (i - 1)) : Run n0 W nu Ws (fun a' b' y' => A a' b' y' ∨ (a' = a ∧ b' = b ∧ y' = y)) u U (rn + 1) R' := by
  obtain ⟨h1, h2, h3, h4, h5, h6, h7, h8⟩ := h
  have sy : ∀ {x z : Nat → Nat}, eq5 x z → eq5 z x := fun e k hk => (e k hk).symm
  refine ⟨h1, h2, h3, h4, h5, fun i j hij hj e => ?_, fun i hi => ?_, fun a' b' y' hA => ?_⟩
  · rcases Nat.lt_trichotomy i p with zi | zi | zi
    · rw [r1 i zi] at e
      rcases Nat.lt_trichotomy j p with zj | zj | zj
      · rw [r1 j zj] at e
        exact h6 i j hij (by omega) e
      · rw [zj, r2] at e
        exact hne i (by omega) e
      · rw [r3 j zj (by omega)] at e
        exact h6 i (j - 1) (by omega) (by omega) e
    · rw [zi, r2, r3 j (by omega) (by omega)] at e
      exact hne (j - 1) (by omega) (sy e)
    · rw [r3 i zi (by omega), r3 j (by omega) (by omega)] at e
      exact h6 (i - 1) (j - 1) (by omega) (by omega) e
  · rcases Nat.lt_trichotomy i p with zi | zi | zi
    · rw [r1 i zi]
      obtain ⟨a, b, y, g1, g2⟩ := h7 i (by omega)
      exact ⟨a, b, y, Or.inl g1, g2⟩
    · rw [zi, r2]
      exact ⟨a, b, y, Or.inr ⟨rfl, rfl, rfl⟩, ht⟩
    · rw [r3 i zi (by omega)]
      obtain ⟨a, b, y, g1, g2⟩ := h7 (i - 1) (by omega)
      exact ⟨a, b, y, Or.inl g1, g2⟩
  · rcases hA with z | ⟨z1, z2, z3⟩
    · obtain ⟨i, hi, g⟩ := h8 a' b' y' z
      by_cases q : i < p
      · exact ⟨i, by omega, by rw [r1 i q]; exact g⟩
      · exact ⟨i + 1, by omega, by rw [r3 (i + 1) (by omega) (by omega)]; exact g⟩
    · subst z1; subst z2; subst z3
      exact ⟨p, by omega, by rw [r2]; exact ht⟩
/-- a run that is complete has room for all that another meets -/
theorem Run.roomW {n0 u rn u' rn' w : Nat} {W W' nu nu' U U' : Nat → Nat} {Ws Ws' : Nat → Prop} {A A' : Nat → Nat → (Nat → Nat) → Prop} {R R' : Nat → Nat → Nat} (h : Run n0 W nu Ws A u U rn R) (h' : Run n0 W' nu' Ws' A' u' U' rn' R') (hs : ∀ v, Ws' v → Ws v) (hw : Ws w) (hn : ∀ i, i < u' → U' i ≠ w) : u' + 1 ≤ u := by
  obtain ⟨-, -, h3, -, h5, -⟩ := h
  obtain ⟨-, -, g3, g4, -, -⟩ := h'
  have f : ∀ i, ∃ j, i < u' + 1 → j < u ∧ U j = uN U' u' w i := by
    intro i
    by_cases hi : i < u' + 1
    · have : Ws (uN U' u' w i) := by
        by_cases z : i = u'
        · rw [z, uN_s]; exact hw
        · rw [uN_n z]; exact hs _ (g4 i (by omega))
      obtain ⟨j, j1, j2⟩ := h5 _ this
      exact ⟨j, fun _ => ⟨j1, j2⟩⟩
    · exact ⟨0, fun z => absurd z hi⟩
  refine inj_le (f := fun i => Classical.choose (f i)) (fun q hq => (Classical.choose_spec (f q) hq).1) (fun p q hp hq e => ?_)
  have e1 := (Classical.choose_spec (f p) hp).2
  have e2 := (Classical.choose_spec (f q) hq).2
  have e : Classical.choose (f p) = Classical.choose (f q) := e
  rw [e] at e1
  have e3 : uN U' u' w p = uN U' u' w q := e1.symm.trans e2
  by_cases yi : p = u'
  · by_cases yj : q = u'
    · omega
    · rw [yi, uN_s, uN_n yj] at e3
      exact absurd e3.symm (hn q (by omega))
  · by_cases yj : q = u'
    · rw [yj, uN_s, uN_n yi] at e3
      exact absurd e3 (hn p (by omega))
    · rw [uN_n yi, uN_n yj] at e3
      exact g3 p q (by omega) (by omega) e3
theorem Run.roomR {n0 u rn u' rn' a b : Nat} {W W' nu nu' U U' t y : Nat → Nat} {Ws Ws' : Nat → Prop} {A A' : Nat → Nat → (Nat → Nat) → Prop} {R R' : Nat → Nat → Nat} (hnu : NuOk n0 nu) (hnu' : NuOk n0 nu') (h : Run n0 W nu Ws A u U rn R) (h' : Run n0 W' nu' Ws' A' u' U' rn' R') (hs : ∀ a b y, A' a b y → ∃ y', A a b y' ∧ yq y y') (hA : ∃ y', A a b y' ∧ yq y y') (ht : den nu' u' U' t a b y) (hn : ∀ i, i < rn' → ¬ eq5 (R' i) t) : rn' + 1 ≤ rn := by
  obtain ⟨-, -, h3, -, -, -, -, h8⟩ := h
  obtain ⟨-, -, g3, -, -, g6, g7, -⟩ := h'
  let r2 : Nat → Nat → Nat := fun i => if i = rn' then t else R' i
  have fs : ∀ i, i < rn' + 1 → ∃ a b y, den nu' u' U' (r2 i) a b y ∧ ∃ j, j < rn ∧ den nu u U (R j) a b y := by
    intro i hi
    show ∃ a b y, den nu' u' U' (if i = rn' then t else R' i) a b y ∧ _
    by_cases z : i = rn'
    · rw [if_pos z]
      obtain ⟨y', q1, q2⟩ := hA
      obtain ⟨j, j1, j2⟩ := h8 a b y' q1
      exact ⟨a, b, y, ht, j, j1, j2.yq q2.sy⟩
    · rw [if_neg z]
      obtain ⟨a, b, y, q1, q2⟩ := g7 i (by omega)
      obtain ⟨y', q3, q4⟩ := hs a b y q1
      obtain ⟨j, j1, j2⟩ := h8 a b y' q3
      exact ⟨a, b, y, q2, j, j1, j2.yq q4.sy⟩
  have f : ∀ i, ∃ j, i < rn' + 1 → j < rn ∧ ∃ a b y, den nu' u' U' (r2 i) a b y ∧ den nu u U (R j) a b y := by
    intro i
    by_cases hi : i < rn' + 1
    · obtain ⟨a, b, y, q1, j, j1, j2⟩ := fs i hi
      exact ⟨j, fun _ => ⟨j1, a, b, y, q1, j2⟩⟩
    · exact ⟨0, fun z => absurd z hi⟩
  have inj : ∀ p q, p < rn' + 1 → q < rn' + 1 → eq5 (r2 p) (r2 q) → p = q := by
    intro p q hp hq e
    have e : eq5 (if p = rn' then t else R' p) (if q = rn' then t else R' q) := e
    by_cases yi : p = rn'
    · by_cases yj : q = rn'
      · omega
      · rw [if_pos yi, if_neg yj] at e
        exact absurd (fun k hk => (e k hk).symm) (hn q (by omega))
    · by_cases yj : q = rn'
      · rw [if_pos yj, if_neg yi] at e
        exact absurd e (hn p (by omega))
      · rw [if_neg yi, if_neg yj] at e
        rcases Nat.lt_trichotomy p q with z | z | z
        · exact absurd e (g6 p q z (by omega))
        · exact z
        · exact absurd (fun k hk => (e k hk).symm) (g6 q p z (by omega))
  refine inj_le (f := fun i => Classical.choose (f i)) (fun q hq => (Classical.choose_spec (f q) hq).1) (fun p q hp hq e => ?_)
  obtain ⟨a1, b1, y1, d1, d2⟩ := (Classical.choose_spec (f p) hp).2
  obtain ⟨a2, b2, y2, d3, d4⟩ := (Classical.choose_spec (f q) hq).2
  have e : Classical.choose (f p) = Classical.choose (f q) := e
  rw [e] at d2
  have := (den_uniq hnu h3 d2 d4).mp (fun k _ => rfl)
  exact inj p q hp hq ((den_uniq hnu' g3 d1 d3).mpr this)
