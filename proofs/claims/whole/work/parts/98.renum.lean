theorem lN_ltI {a b : Nat} (ha : a < 2 ^ 62) (hb : b < 2 ^ 62) : lN a < lN b ↔ a < b := by
  rw [Int64.lt_iff_toInt_lt, pf_lI (by omega), pf_lI (by omega)]
  omega
theorem lN_leI {a b : Nat} (ha : a < 2 ^ 62) (hb : b < 2 ^ 62) : lN a ≤ lN b ↔ a ≤ b := by
  rw [Int64.le_iff_toInt_le, pf_lI (by omega), pf_lI (by omega)]
  omega
theorem inj_sur {n : Nat} {f : Nat → Nat} (h1 : ∀ q, q < n → f q < n) (h2 : ∀ p q, p < n → q < n → f p = f q → p = q) : ∀ y, y < n → ∃ x, x < n ∧ f x = y := by
  intro y hy
  refine Classical.byContradiction (fun z => ?_)
  have z' : ∀ x, x < n → f x ≠ y := fun x hx e => z ⟨x, hx, e⟩
  have := inj_le (n := n) (c := n + 1) (f := fun q => if q < n then f q else y) (fun q hq => by
    show (if q < n then f q else y) < n
    split
    · rename_i w; exact h1 q w
    · exact hy) (fun p q hp hq e => by
    have e : (if p < n then f p else y) = (if q < n then f q else y) := e
    by_cases zp : p < n
    · by_cases zq : q < n
      · rw [if_pos zp, if_pos zq] at e; exact h2 p q zp zq e
      · rw [if_pos zp, if_neg zq] at e; exact absurd e (z' p zp)
    · by_cases zq : q < n
      · rw [if_neg zp, if_pos zq] at e; exact absurd e.symm (z' q zq)
      · omega)
  omega
theorem cn_strict {α : Type} {P R : α → Bool} {f : Nat → α} {a i : Nat} (hi0 : ¬ P (f (a + i)) = true) (hi1 : R (f (a + i)) = true) : ∀ {k : Nat}, i < k → (∀ j, j < k → P (f (a + j)) = true → R (f (a + j)) = true) → cn P f a k + 1 ≤ cn R f a k
  | 0, h, _ => absurd h (by omega)
  | k + 1, h, hm => by
    show cn P f a k + (if P (f (a + k)) = true then 1 else 0) + 1 ≤ cn R f a k + (if R (f (a + k)) = true then 1 else 0)
    by_cases z : i = k
    · obtain rfl := z
      have := cn_mono (P := P) (R := R) (f := f) (a := a) (k := i) (fun j hj => hm j (by omega))
      rw [if_neg hi0, if_pos hi1]
      omega
    · have := cn_strict hi0 hi1 (k := k) (by omega) (fun j hj => hm j (by omega))
      by_cases y : P (f (a + k)) = true
      · rw [if_pos y, if_pos (hm k (by omega) y)]
        omega
      · rw [if_neg y]
        split <;> omega
/-- where a word goes when the words from n0 on are sorted -/
def rk (n0 u : Nat) (U : Nat → Nat) (q : Nat) : Nat := if q < n0 then q else n0 + cn (fun x => decide (x < U q)) U n0 (u - n0)
def Srw (n0 u : Nat) (U U2 rho : Nat → Nat) : Prop := (∀ i, i < n0 → U2 i = U i ∧ rho i = i) ∧ (∀ i j, n0 ≤ i → i < j → j < u → U2 i < U2 j) ∧ (∀ q, q < u → rho q < u ∧ U2 (rho q) = U q) ∧ ∀ i, i < u → ∃ q, q < u ∧ rho q = i
theorem rk_lt {n0 u q : Nat} {U : Nat → Nat} (hq : q < u) : rk n0 u U q < u := by
  unfold rk
  split
  · exact hq
  · have := cn_strict (P := fun x => decide (x < U q)) (R := fun _ => true) (f := U) (a := n0) (i := q - n0) (by rw [show n0 + (q - n0) = q by omega]; intro z; have := of_decide_eq_true z; omega) rfl (k := u - n0) (by omega) (fun _ _ _ => rfl)
    have := cn_le (P := fun _ => true) (f := U) (a := n0) (k := u - n0)
    omega
theorem rk_mono {n0 u p q : Nat} {U : Nat → Nat} (hp : n0 ≤ p) (hp2 : p < u) (hq : n0 ≤ q) (h : U p < U q) : rk n0 u U p < rk n0 u U q := by
  unfold rk
  rw [if_neg (by omega), if_neg (by omega)]
  have := cn_strict (P := fun x => decide (x < U p)) (R := fun x => decide (x < U q)) (f := U) (a := n0) (i := p - n0) (by rw [show n0 + (p - n0) = p by omega]; intro z; have := of_decide_eq_true z; omega) (by rw [show n0 + (p - n0) = p by omega]; exact decide_eq_true h) (k := u - n0) (by omega) (fun j hj z => by
    have := of_decide_eq_true z
    exact decide_eq_true (by omega))
  omega
theorem rk_inj {n0 u : Nat} {U : Nat → Nat} (inj : ∀ i j, i < u → j < u → U i = U j → i = j) : ∀ p q, p < u → q < u → rk n0 u U p = rk n0 u U q → p = q := by
  intro p q hp hq e
  by_cases zp : p < n0
  · by_cases zq : q < n0
    · unfold rk at e
      rw [if_pos zp, if_pos zq] at e
      exact e
    · unfold rk at e
      rw [if_pos zp, if_neg zq] at e
      omega
  · by_cases zq : q < n0
    · unfold rk at e
      rw [if_neg zp, if_pos zq] at e
      omega
    · rcases Nat.lt_trichotomy (U p) (U q) with y | y | y
      · have := rk_mono (n0 := n0) (u := u) (by omega) hp (by omega) y
        omega
      · exact inj p q hp hq y
      · have := rk_mono (n0 := n0) (u := u) (by omega) hq (by omega) y
        omega
theorem rk_ok {n0 u : Nat} {U : Nat → Nat} (hn : n0 ≤ u) (inj : ∀ i j, i < u → j < u → U i = U j → i = j) : ∃ U2, Srw n0 u U U2 (rk n0 u U) := by
  have sur := inj_sur (fun q hq => rk_lt (n0 := n0) (U := U) hq) (rk_inj (n0 := n0) inj)
  have f : ∀ i, ∃ x, i < u → x < u ∧ rk n0 u U x = i := by
    intro i
    by_cases hi : i < u
    · obtain ⟨x, x1, x2⟩ := sur i hi
      exact ⟨x, fun _ => ⟨x1, x2⟩⟩
    · exact ⟨0, fun y => absurd y hi⟩
  have fs : ∀ i, i < u → Classical.choose (f i) < u ∧ rk n0 u U (Classical.choose (f i)) = i := fun i hi => Classical.choose_spec (f i) hi
  have lo : ∀ i, i < n0 → rk n0 u U i = i := fun i hi => if_pos hi
  have e3 : ∀ q, q < u → Classical.choose (f (rk n0 u U q)) = q := fun q hq => by
    have h1 := rk_lt (n0 := n0) (U := U) hq
    obtain ⟨a, b⟩ := fs _ h1
    exact rk_inj inj _ _ a hq b
  refine ⟨fun i => U (Classical.choose (f i)), fun i hi => ⟨?_, lo i hi⟩, fun i j hi hij hj => ?_, fun q hq => ⟨rk_lt hq, ?_⟩, fun i hi => ⟨_, (fs i hi).1, (fs i hi).2⟩⟩
  · have := e3 i (by omega)
    rw [lo i hi] at this
    show U (Classical.choose (f i)) = U i
    rw [this]
  · obtain ⟨a1, b1⟩ := fs i (by omega)
    obtain ⟨a2, b2⟩ := fs j hj
    show U (Classical.choose (f i)) < U (Classical.choose (f j))
    generalize Classical.choose (f i) = x at a1 b1
    generalize Classical.choose (f j) = x' at a2 b2
    have g1 : n0 ≤ x := Nat.not_lt.mp (fun z => by rw [lo x z] at b1; omega)
    have g2 : n0 ≤ x' := Nat.not_lt.mp (fun z => by rw [lo x' z] at b2; omega)
    rcases Nat.lt_trichotomy (U x) (U x') with y | y | y
    · exact y
    · have := inj x x' a1 a2 y
      rw [this] at b1
      omega
    · have := rk_mono (n0 := n0) (u := u) g2 a2 g1 y
      omega
  · show U (Classical.choose (f (rk n0 u U q))) = U q
    rw [e3 q hq]
/-- two strict rows of the same things -/
theorem sorted_uniq {f g : Nat → Nat} {a k k' : Nat} (hf : ∀ i j, i < j → j < k → f (a + i) < f (a + j)) (hg : ∀ i j, i < j → j < k' → g (a + i) < g (a + j)) (h1 : ∀ i, i < k → ∃ j, j < k' ∧ f (a + i) = g (a + j)) (h2 : ∀ j, j < k' → ∃ i, i < k ∧ g (a + j) = f (a + i)) : k = k' ∧ ∀ i, i < k → f (a + i) = g (a + i) := by
  have side : ∀ {f g : Nat → Nat} {k k' : Nat}, (∀ i j, i < j → j < k → f (a + i) < f (a + j)) → (∀ i, i < k → ∃ j, j < k' ∧ f (a + i) = g (a + j)) → k ≤ k' := by
    intro f g k k' hf h1
    have c : ∀ i, ∃ j, i < k → j < k' ∧ f (a + i) = g (a + j) := by
      intro i
      by_cases hi : i < k
      · obtain ⟨j, h⟩ := h1 i hi
        exact ⟨j, fun _ => h⟩
      · exact ⟨0, fun z => absurd z hi⟩
    refine inj_le (f := fun i => Classical.choose (c i)) (fun q hq => (Classical.choose_spec (c q) hq).1) (fun p q hp hq e => ?_)
    have e1 := (Classical.choose_spec (c p) hp).2
    have e2 := (Classical.choose_spec (c q) hq).2
    have e : Classical.choose (c p) = Classical.choose (c q) := e
    rw [e] at e1
    have e3 : f (a + p) = f (a + q) := e1.trans e2.symm
    rcases Nat.lt_trichotomy p q with y | y | y
    · have := hf p q y hq
      omega
    · exact y
    · have := hf q p y hp
      omega
  have ek : k = k' := Nat.le_antisymm (side hf h1) (side hg h2)
  subst ek
  refine ⟨rfl, ?_⟩
  have main : ∀ i, ∀ j, j ≤ i → j < k → f (a + j) = g (a + j) := by
    intro i
    induction i with
    | zero =>
      intro j hj hk
      obtain rfl : j = 0 := by omega
      obtain ⟨x, x1, x2⟩ := h1 0 hk
      obtain ⟨y, y1, y2⟩ := h2 0 hk
      have e1 : g (a + 0) ≤ g (a + x) := by
        rcases (show 0 = x ∨ 0 < x by omega) with z | z
        · rw [← z]; exact Nat.le_refl _
        · exact Nat.le_of_lt (hg 0 x z x1)
      have e2 : f (a + 0) ≤ f (a + y) := by
        rcases (show 0 = y ∨ 0 < y by omega) with z | z
        · rw [← z]; exact Nat.le_refl _
        · exact Nat.le_of_lt (hf 0 y z y1)
      omega
    | succ i ih =>
      intro j hj hk
      by_cases z : j ≤ i
      · exact ih j z hk
      obtain rfl : j = i + 1 := by omega
      obtain ⟨x, x1, x2⟩ := h1 (i + 1) hk
      obtain ⟨y, y1, y2⟩ := h2 (i + 1) hk
      have hx : i + 1 ≤ x := Nat.not_lt.mp (fun z => by
        have := ih x (by omega) x1
        have := hf x (i + 1) z hk
        omega)
      have hy : i + 1 ≤ y := Nat.not_lt.mp (fun z => by
        have := ih y (by omega) y1
        have := hg y (i + 1) z hk
        omega)
      have e1 : g (a + (i + 1)) ≤ g (a + x) := by
        rcases (show i + 1 = x ∨ i + 1 < x by omega) with z | z
        · rw [← z]; exact Nat.le_refl _
        · exact Nat.le_of_lt (hg _ x z x1)
      have e2 : f (a + (i + 1)) ≤ f (a + y) := by
        rcases (show i + 1 = y ∨ i + 1 < y by omega) with z | z
        · rw [← z]; exact Nat.le_refl _
        · exact Nat.le_of_lt (hf _ y z y1)
      omega
  exact fun i hi => main i i (Nat.le_refl _) hi
theorem Srw.inj {n0 u : Nat} {U U2 rho : Nat → Nat} (h : Srw n0 u U U2 rho) (inj : ∀ i j, i < u → j < u → U i = U j → i = j) : ∀ i j, i < u → j < u → U2 i = U2 j → i = j := by
  intro i j hi hj e
  obtain ⟨p, p1, p2⟩ := h.2.2.2 i hi
  obtain ⟨q, q1, q2⟩ := h.2.2.2 j hj
  have a := (h.2.2.1 p p1).2
  have b := (h.2.2.1 q q1).2
  rw [p2] at a
  rw [q2] at b
  rw [← p2, ← q2, inj p q p1 q1 (by rw [← a, ← b]; exact e)]
/-- what sorting by longs makes of a table -/
theorem srw_of {n0 u : Nat} {wd f : Nat → Int64} {U : Nat → Nat} (hn : n0 ≤ u) (hw : ∀ i, i < u → wd i = lN (U i) ∧ U i < 2 ^ 34) (inj : ∀ i j, i < u → j < u → U i = U j → i = j) (s1 : ∀ p q, n0 ≤ p → p < q → q < u → f p ≤ f q) (s2 : ∀ P : Int64 → Bool, cn P f n0 (u - n0) = cn P wd n0 (u - n0)) (s3 : ∀ q, (q < n0 ∨ u ≤ q) → f q = wd q) : ∃ U2, Srw n0 u U U2 (rk n0 u U) ∧ (∀ i, i < u → f i = lN (U2 i) ∧ U2 i < 2 ^ 34) ∧ ∀ q, q < u → (if q < n0 then q else n0 + cn (fun x => decide (x < wd q)) wd n0 (u - n0)) = rk n0 u U q := by
  obtain ⟨U2, hS⟩ := rk_ok hn inj
  have ltw : ∀ i, i < u → U2 i < 2 ^ 34 := by
    intro i hi
    obtain ⟨p, p1, p2⟩ := hS.2.2.2 i hi
    have := (hS.2.2.1 p p1).2
    rw [p2] at this
    rw [this]
    exact (hw p p1).2
  have fm : ∀ i, i < u - n0 → ∃ j, j < u - n0 ∧ f (n0 + i) = wd (n0 + j) := by
    intro i hi
    have h1 : 1 ≤ cn (fun x => decide (x = f (n0 + i))) f n0 (u - n0) := cn_pos (P := fun x => decide (x = f (n0 + i))) (f := f) (a := n0) (i := i) (decide_eq_true rfl) hi
    rw [s2] at h1
    obtain ⟨j, hj, e⟩ := cn_ex h1
    exact ⟨j, hj, (of_decide_eq_true e).symm⟩
  have wm : ∀ i, i < u - n0 → ∃ j, j < u - n0 ∧ wd (n0 + i) = f (n0 + j) := by
    intro i hi
    have h1 : 1 ≤ cn (fun x => decide (x = wd (n0 + i))) wd n0 (u - n0) := cn_pos (P := fun x => decide (x = wd (n0 + i))) (f := wd) (a := n0) (i := i) (decide_eq_true rfl) hi
    rw [← s2] at h1
    obtain ⟨j, hj, e⟩ := cn_ex h1
    exact ⟨j, hj, (of_decide_eq_true e).symm⟩
  -- the sorted longs as numbers
  have tn64 : ∀ {x : Nat}, x < 2 ^ 34 → (lN x).toBitVec.toNat = x := fun hx => wb_tn (by omega)
  have Fv : ∀ i, i < u - n0 → ∃ x, f (n0 + i) = lN x ∧ x < 2 ^ 34 ∧ (f (n0 + i)).toBitVec.toNat = x := by
    intro i hi
    obtain ⟨j, hj, e⟩ := fm i hi
    obtain ⟨a, b⟩ := hw (n0 + j) (by omega)
    refine ⟨U (n0 + j), e.trans a, b, ?_⟩
    rw [e, a, tn64 b]
  have strict : ∀ i j, i < j → j < u - n0 → (f (n0 + i)).toBitVec.toNat < (f (n0 + j)).toBitVec.toNat := by
    intro i j hij hj
    obtain ⟨x, x1, x2, x3⟩ := Fv i (by omega)
    obtain ⟨y, y1, y2, y3⟩ := Fv j hj
    have hle := s1 (n0 + i) (n0 + j) (by omega) (by omega) (by omega)
    rw [x1, y1, lN_leI (by omega) (by omega)] at hle
    have hne : x ≠ y := by
      intro z
      have two := cn_two (P := fun v => decide (v = lN x)) (f := f) (a := n0) hij (decide_eq_true x1) (decide_eq_true (by rw [y1, z])) hj
      rw [s2] at two
      have one : cn (fun v => decide (v = lN x)) wd n0 (u - n0) ≤ 1 := cn_one (fun p q hp hq e1 e2 => by
        have e1 := of_decide_eq_true e1
        have e2 := of_decide_eq_true e2
        obtain ⟨a1, b1⟩ := hw (n0 + p) (by omega)
        obtain ⟨a2, b2⟩ := hw (n0 + q) (by omega)
        rw [a1] at e1
        rw [a2] at e2
        have := inj _ _ (by omega) (by omega) ((lN_iff (by omega) (by omega)).mp (e1.trans e2.symm))
        omega)
      omega
    rw [x3, y3]
    omega
  have U2m : ∀ i, i < u - n0 → ∃ j, j < u - n0 ∧ U2 (n0 + i) = U (n0 + j) := by
    intro i hi
    obtain ⟨p, p1, p2⟩ := hS.2.2.2 (n0 + i) (by omega)
    have hp : n0 ≤ p := Nat.not_lt.mp (fun z => by
      have := (hS.1 p z).2
      omega)
    refine ⟨p - n0, by omega, ?_⟩
    have := (hS.2.2.1 p p1).2
    rw [p2] at this
    rw [this, show n0 + (p - n0) = p by omega]
  have mU2 : ∀ j, j < u - n0 → ∃ i, i < u - n0 ∧ U2 (n0 + i) = U (n0 + j) := by
    intro j hj
    obtain ⟨a, b⟩ := hS.2.2.1 (n0 + j) (by omega)
    have hp : n0 ≤ rk n0 u U (n0 + j) := by
      unfold rk
      rw [if_neg (by omega)]
      omega
    exact ⟨rk n0 u U (n0 + j) - n0, by omega, by rw [show n0 + (rk n0 u U (n0 + j) - n0) = rk n0 u U (n0 + j) by omega]; exact b⟩
  have eqs := (sorted_uniq (f := fun i => (f i).toBitVec.toNat) (g := U2) (a := n0) (k := u - n0) (k' := u - n0) strict (fun i j hij hj => hS.2.1 _ _ (by omega) (by omega) (by omega)) (fun i hi => by
    obtain ⟨j, hj, e⟩ := fm i hi
    obtain ⟨q, hq, e2⟩ := mU2 j hj
    refine ⟨q, hq, ?_⟩
    obtain ⟨a, b⟩ := hw (n0 + j) (by omega)
    show (f (n0 + i)).toBitVec.toNat = _
    rw [e, a, tn64 b, e2]) (fun j hj => by
    obtain ⟨q, hq, e2⟩ := U2m j hj
    obtain ⟨i, hi, e⟩ := wm q hq
    refine ⟨i, hi, ?_⟩
    obtain ⟨a, b⟩ := hw (n0 + q) (by omega)
    show _ = (f (n0 + i)).toBitVec.toNat
    rw [← e, a, tn64 b, e2])).2
  refine ⟨U2, hS, fun i hi => ⟨?_, ltw i hi⟩, fun q hq => ?_⟩
  · by_cases z : i < n0
    · rw [s3 i (Or.inl z), (hw i hi).1, (hS.1 i z).1]
    · have := eqs (i - n0) (by omega)
      obtain ⟨x, x1, x2, x3⟩ := Fv (i - n0) (by omega)
      rw [show n0 + (i - n0) = i by omega] at this x1 x3
      have this : (f i).toBitVec.toNat = U2 i := this
      rw [x1, ← this, x3]
  · unfold rk
    by_cases z : q < n0
    · rw [if_pos z, if_pos z]
    · rw [if_neg z, if_neg z]
      congr 1
      have gen : ∀ k, k ≤ u - n0 → cn (fun x => decide (x < wd q)) wd n0 k = cn (fun x => decide (x < U q)) U n0 k := by
        intro k
        induction k with
        | zero => intro _; rfl
        | succ k ih =>
          intro hk
          show cn _ wd n0 k + (if decide (wd (n0 + k) < wd q) = true then 1 else 0) = cn _ U n0 k + (if decide (U (n0 + k) < U q) = true then 1 else 0)
          rw [ih (by omega)]
          congr 1
          obtain ⟨a1, b1⟩ := hw (n0 + k) (by omega)
          obtain ⟨a2, b2⟩ := hw q hq
          have e : (wd (n0 + k) < wd q) = (U (n0 + k) < U q) := by
            rw [a1, a2]
            exact propext (lN_ltI (by omega) (by omega))
          by_cases y : U (n0 + k) < U q
          · rw [if_pos (decide_eq_true (by rw [e]; exact y)), if_pos (decide_eq_true y)]
          · rw [if_neg (fun w => y (by rw [← e]; exact of_decide_eq_true w)), if_neg (fun w => y (of_decide_eq_true w))]
      exact gen _ (Nat.le_refl _)
/-- a row, its numbers changed and sorted anew -/
def RowM (mu t t2 : Nat → Nat) : Prop := t2 0 = mu (t 0) ∧ t2 1 = mu (t 1) ∧ t2 2 ≤ t2 3 ∧ t2 3 ≤ t2 4 ∧ ∀ P : Nat → Bool, cn P t2 2 3 = cn P (fun k => mu (t k)) 2 3
theorem RowM.uniq {mu t t2 t2' : Nat → Nat} (h : RowM mu t t2) (h' : RowM mu t t2') : eq5 t2 t2' := by
  obtain ⟨h0, h1, h2, h3, h4⟩ := h
  obtain ⟨g0, g1, g2, g3, g4⟩ := h'
  obtain ⟨e2, e3, e4⟩ := srt3 h2 h3 g2 g3 (fun P => (h4 P).trans (g4 P).symm)
  intro k hk
  rcases (show k = 0 ∨ k = 1 ∨ k = 2 ∨ k = 3 ∨ k = 4 by omega) with z | z | z | z | z
  · rw [z, h0, g0]
  · rw [z, h1, g1]
  · rw [z]; exact e2
  · rw [z]; exact e3
  · rw [z]; exact e4
theorem den_map {nu nu' U U2 rho mu t t2 y : Nat → Nat} {u a b : Nat} (hU : ∀ i j, i < u → j < u → U i = U j → i = j) (hU2 : ∀ i j, i < u → j < u → U2 i = U2 j → i = j) (hr : ∀ q, q < u → rho q < u ∧ U2 (rho q) = U q) (m0 : mu 0 = 0) (m1 : ∀ j, j < u → mu (nu j) = nu' (rho j)) (ma : mu a = a) (mb : mu b = b) (h : den nu u U t a b y) (hM : RowM mu t t2) : den nu' u U2 t2 a b y := by
  obtain ⟨h1, h2, h3, h4, h5, h6⟩ := h
  obtain ⟨g0, g1, g2, g3, g4⟩ := hM
  refine ⟨by rw [g0, h1, ma], by rw [g1, h2, mb], g2, g3, fun i hi => ?_, fun P => ?_⟩
  · rcases h5 i hi with z | ⟨j, j1, j2⟩
    · exact Or.inl z
    · exact Or.inr ⟨rho j, (hr j j1).1, by rw [(hr j j1).2]; exact j2⟩
  · rw [g4 P, show cn P (fun k => mu (t k)) 2 3 = cn (fun x => P (mu x)) t 2 3 from cn_mapG (f := t) (g := mu), h6]
    have : ∀ k, k ≤ 3 → cn (fun x => P (mu x)) (fun i => num nu u U (y i)) 0 k = cn P (fun i => num nu' u U2 (y i)) 0 k := by
      intro k
      induction k with
      | zero => intro _; rfl
      | succ k ih =>
        intro hk
        show cn (fun x => P (mu x)) (fun i => num nu u U (y i)) 0 k + (if P (mu (num nu u U (y (0 + k)))) = true then 1 else 0) = cn P (fun i => num nu' u U2 (y i)) 0 k + (if P (num nu' u U2 (y (0 + k))) = true then 1 else 0)
        rw [ih (by omega)]
        have e : mu (num nu u U (y (0 + k))) = num nu' u U2 (y (0 + k)) := by
          rcases h5 (0 + k) (by omega) with z | ⟨j, j1, j2⟩
          · rw [z, num_0, num_0, m0]
          · rw [j2, num_s hU j1, ← (hr j j1).2, num_s hU2 (hr j j1).1, m1 j j1]
        rw [e]
    exact this 3 (Nat.le_refl _)
/-- a state of a round under other numbers -/
theorem Run.of {n0 u rn ln : Nat} {W nu nu' U U2 rho mu : Nat → Nat} {Ws : Nat → Prop} {A : Nat → Nat → (Nat → Nat) → Prop} {R L : Nat → Nat → Nat} (hR : Run n0 W nu Ws A u U rn R) (hA : ∀ a b y, A a b y → mu a = a ∧ mu b = b) (hS : Srw n0 u U U2 rho) (m0 : mu 0 = 0) (m1 : ∀ j, j < u → mu (nu j) = nu' (rho j)) (hd : ∀ i j, i < j → j < ln → ¬ eq5 (L i) (L j)) (h1 : ∀ j, j < ln → ∃ i, i < rn ∧ RowM mu (R i) (L j)) (h2 : ∀ i, i < rn → ∃ j, j < ln ∧ RowM mu (R i) (L j)) : Run n0 W nu' Ws A u U2 ln L := by
  obtain ⟨r1, r2, r3, r4, r5, r6, r7, r8⟩ := hR
  have inj2 := hS.inj r3
  refine ⟨r1, fun i hi => by rw [(hS.1 i hi).1]; exact r2 i hi, inj2, fun i hi => ?_, fun w hw => ?_, hd, fun j hj => ?_, fun a b y hy => ?_⟩
  · obtain ⟨p, p1, p2⟩ := hS.2.2.2 i hi
    have := (hS.2.2.1 p p1).2
    rw [p2] at this
    rw [this]
    exact r4 p p1
  · obtain ⟨i, i1, i2⟩ := r5 w hw
    obtain ⟨a1, a2⟩ := hS.2.2.1 i i1
    exact ⟨rho i, a1, a2.trans i2⟩
  · obtain ⟨i, hi, hM⟩ := h1 j hj
    obtain ⟨a, b, y, g1, g2⟩ := r7 i hi
    obtain ⟨ma, mb⟩ := hA a b y g1
    exact ⟨a, b, y, g1, den_map r3 inj2 hS.2.2.1 m0 m1 ma mb g2 hM⟩
  · obtain ⟨i, hi, g⟩ := r8 a b y hy
    obtain ⟨j, hj, hM⟩ := h2 i hi
    obtain ⟨ma, mb⟩ := hA a b y hy
    exact ⟨j, hj, den_map r3 inj2 hS.2.2.1 m0 m1 ma mb g hM⟩
/-- two sorted states of one round are the same -/
theorem Run.uniq {n0 u rn u' rn' : Nat} {W nu U U' : Nat → Nat} {Ws Ws' : Nat → Prop} {A A' : Nat → Nat → (Nat → Nat) → Prop} {R R' : Nat → Nat → Nat} (hnu : NuOk n0 nu) (h : Run n0 W nu Ws A u U rn R) (h' : Run n0 W nu Ws' A' u' U' rn' R') (eW : ∀ v, Ws v ↔ Ws' v) (e1 : ∀ a b y, A a b y → ∃ y', A' a b y' ∧ yq y y') (e2 : ∀ a b y, A' a b y → ∃ y', A a b y' ∧ yq y y') (sU : ∀ i j, n0 ≤ i → i < j → j < u → U i < U j) (sU' : ∀ i j, n0 ≤ i → i < j → j < u' → U' i < U' j) (sR : ∀ i j, i < j → j < rn → e16 (R i) 5 < e16 (R j) 5) (sR' : ∀ i j, i < j → j < rn' → e16 (R' i) 5 < e16 (R' j) 5) (dR : ∀ i, i < rn → ∀ k, k < 5 → R i k < 16) (dR' : ∀ i, i < rn' → ∀ k, k < 5 → R' i k < 16) : u = u' ∧ (∀ i, i < u → U i = U' i) ∧ rn = rn' ∧ ∀ i, i < rn → eq5 (R i) (R' i) := by
  obtain ⟨r1, r2, r3, r4, r5, r6, r7, r8⟩ := h
  obtain ⟨s1, s2, s3, s4, s5, s6, s7, s8⟩ := h'
  have hi1 : ∀ i, i < u - n0 → ∃ j, j < u' - n0 ∧ U (n0 + i) = U' (n0 + j) := by
    intro i hi
    obtain ⟨j, j1, j2⟩ := s5 _ ((eW _).mp (r4 (n0 + i) (by omega)))
    have hj : n0 ≤ j := Nat.not_lt.mp (fun z => by
      have := r3 j (n0 + i) (by omega) (by omega) (by rw [r2 j z, ← s2 j z]; exact j2)
      omega)
    exact ⟨j - n0, by omega, by rw [show n0 + (j - n0) = j by omega]; exact j2.symm⟩
  have hi2 : ∀ i, i < u' - n0 → ∃ j, j < u - n0 ∧ U' (n0 + i) = U (n0 + j) := by
    intro i hi
    obtain ⟨j, j1, j2⟩ := r5 _ ((eW _).mpr (s4 (n0 + i) (by omega)))
    have hj : n0 ≤ j := Nat.not_lt.mp (fun z => by
      have := s3 j (n0 + i) (by omega) (by omega) (by rw [s2 j z, ← r2 j z]; exact j2)
      omega)
    exact ⟨j - n0, by omega, by rw [show n0 + (j - n0) = j by omega]; exact j2.symm⟩
  obtain ⟨ku, eu⟩ := sorted_uniq (f := U) (g := U') (a := n0) (fun i j hij hj => sU _ _ (by omega) (by omega) (by omega)) (fun i j hij hj => sU' _ _ (by omega) (by omega) (by omega)) hi1 hi2
  have euu : u = u' := by omega
  subst euu
  have eU : ∀ i, i < u → U i = U' i := by
    intro i hi
    by_cases z : i < n0
    · rw [r2 i z, s2 i z]
    · have := eu (i - n0) (by omega)
      rw [show n0 + (i - n0) = i by omega] at this
      exact this
  have d' : ∀ {t : Nat → Nat} {a b : Nat} {y : Nat → Nat}, den nu u U' t a b y → den nu u U t a b y := fun hh => hh.ext (Nat.le_refl _) r3 eU
  have w1 : ∀ i, i < rn → ∃ j, j < rn' ∧ eq5 (R i) (R' j) := by
    intro i hi
    obtain ⟨a, b, y, g1, g2⟩ := r7 i hi
    obtain ⟨y', q1, q2⟩ := e1 a b y g1
    obtain ⟨j, hj, g⟩ := s8 a b y' q1
    exact ⟨j, hj, (den_uniq hnu r3 g2 (d' g)).mpr ⟨rfl, rfl, q2⟩⟩
  have w2 : ∀ i, i < rn' → ∃ j, j < rn ∧ eq5 (R' i) (R j) := by
    intro i hi
    obtain ⟨a, b, y, g1, g2⟩ := s7 i hi
    obtain ⟨y', q1, q2⟩ := e2 a b y g1
    obtain ⟨j, hj, g⟩ := r8 a b y' q1
    exact ⟨j, hj, (den_uniq hnu r3 (d' g2) g).mpr ⟨rfl, rfl, q2⟩⟩
  obtain ⟨kr, er⟩ := sorted_uniq (f := fun i => e16 (R i) 5) (g := fun i => e16 (R' i) 5) (a := 0) (k := rn) (k' := rn') (fun i j hij hj => by rw [Nat.zero_add, Nat.zero_add]; exact sR i j hij hj) (fun i j hij hj => by rw [Nat.zero_add, Nat.zero_add]; exact sR' i j hij hj) (fun i hi => by
    obtain ⟨j, hj, e⟩ := w1 i hi
    exact ⟨j, hj, by rw [Nat.zero_add, Nat.zero_add]; exact (e16_inj (dR i hi) (dR' j hj)).mpr e⟩) (fun i hi => by
    obtain ⟨j, hj, e⟩ := w2 i hi
    exact ⟨j, hj, by rw [Nat.zero_add, Nat.zero_add]; exact (e16_inj (dR' i hi) (dR j hj)).mpr e⟩)
  refine ⟨rfl, eU, kr, fun i hi => ?_⟩
  have := er i hi
  rw [Nat.zero_add] at this
  exact (e16_inj (dR i hi) (dR' i (by omega))).mp this
