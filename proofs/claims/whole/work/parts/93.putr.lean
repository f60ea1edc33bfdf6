def tn (z : Int32) : Nat := (z + 1).toNatClampNeg
theorem tn_m1 {x : Nat} (h : x < 1000) : tn (nI x - 1) = x := by
  unfold tn
  rw [Int32.sub_add_cancel]
  exact nI_clamp (by omega)
theorem m1_le {x y : Nat} (hx : x < 1000) (hy : y < 1000) : nI x - 1 ≤ nI y - 1 ↔ x ≤ y := by
  cases x with
  | zero =>
    refine ⟨fun _ => Nat.zero_le _, fun _ => ?_⟩
    cases y with
    | zero => exact Int32.le_refl _
    | succ y =>
      rw [nI_pred]
      have h1 : (-1 : Int32) ≤ 0 := by decide
      have h2 : (0 : Int32) ≤ nI y := (nI_leI (a := 0) (by omega) (by omega)).mpr (Nat.zero_le _)
      exact Int32.le_trans h1 h2
  | succ x =>
    cases y with
    | zero =>
      rw [nI_pred]
      refine ⟨fun z => ?_, fun z => absurd z (by omega)⟩
      have h2 : (0 : Int32) ≤ nI x := (nI_leI (a := 0) (by omega) (by omega)).mpr (Nat.zero_le _)
      exact absurd (Int32.le_trans h2 z) (by decide)
    | succ y =>
      rw [nI_pred, nI_pred, nI_leI (by omega) (by omega)]
      omega
theorem m1_eq {x y : Nat} (hx : x < 1000) (hy : y < 1000) : nI x - 1 = nI y - 1 ↔ x = y := ⟨fun z => by rw [← tn_m1 hx, z, tn_m1 hy], fun z => by rw [z]⟩
theorem cn_mapG {α β : Type} {f : Nat → α} {g : α → β} {P : β → Bool} {a : Nat} : ∀ {k : Nat}, cn P (fun i => g (f i)) a k = cn (fun x => P (g x)) f a k
  | 0 => rfl
  | k + 1 => by
    show cn P (fun i => g (f i)) a k + _ = cn (fun x => P (g x)) f a k + _
    rw [cn_mapG]
theorem cn_shift {α : Type} {f : Nat → α} {P : α → Bool} {a b : Nat} : ∀ {k : Nat}, cn P (fun i => f (b + i)) a k = cn P f (b + a) k
  | 0 => rfl
  | k + 1 => by
    show cn P (fun i => f (b + i)) a k + (if P (f (b + (a + k))) = true then 1 else 0) = cn P f (b + a) k + (if P (f (b + a + k)) = true then 1 else 0)
    rw [cn_shift, Nat.add_assoc]
/-- what sortSpan leaves of a row -/
theorem srt_view {fv f : Nat → Int32} {v : Nat → Nat} {M : Nat} (hM : M ≤ 1000) (hv : ∀ k, k < 5 → fv k = nI (v k) - 1 ∧ v k < M) (s1 : ∀ p q, 2 ≤ p → p < q → q < 5 → f p ≤ f q) (s2 : ∀ P : Int32 → Bool, cn P f 2 (5 - 2) = cn P fv 2 (5 - 2)) (s3 : ∀ q, (q < 2 ∨ 5 ≤ q) → f q = fv q) : ∃ t : Nat → Nat, (∀ k, k < 5 → f k = nI (t k) - 1 ∧ t k < M) ∧ t 0 = v 0 ∧ t 1 = v 1 ∧ t 2 ≤ t 3 ∧ t 3 ≤ t 4 ∧ ∀ P : Nat → Bool, cn P t 2 3 = cn P v 2 3 := by
  have s2' : ∀ P : Int32 → Bool, cn P f 2 3 = cn P fv 2 3 := s2
  have mem : ∀ k, k < 5 → ∃ j, j < 5 ∧ f k = fv j ∧ (k < 2 → j = k) := by
    intro k hk
    by_cases z : k < 2
    · exact ⟨k, hk, s3 k (Or.inl z), fun _ => rfl⟩
    · have h1 : 1 ≤ cn (fun x => decide (x = f k)) f 2 3 := cn_pos (i := k - 2) (by rw [show 2 + (k - 2) = k by omega]; exact decide_eq_true rfl) (by omega)
      rw [s2'] at h1
      obtain ⟨j, hj, e⟩ := cn_ex h1
      exact ⟨2 + j, by omega, (of_decide_eq_true e).symm, fun y => absurd y z⟩
  have e : ∀ k, k < 5 → f k = nI (tn (f k)) - 1 ∧ tn (f k) < M := by
    intro k hk
    obtain ⟨j, hj, ej, -⟩ := mem k hk
    obtain ⟨v1, v2⟩ := hv j hj
    rw [ej, v1, tn_m1 (by omega)]
    exact ⟨rfl, v2⟩
  have lo : ∀ k, k < 2 → tn (f k) = v k := by
    intro k hk
    rw [s3 k (Or.inl hk), (hv k (by omega)).1, tn_m1 (by have := (hv k (by omega)).2; omega)]
  have le : ∀ p q, 2 ≤ p → p < q → q < 5 → tn (f p) ≤ tn (f q) := by
    intro p q h1 h2 h3
    have := s1 p q h1 h2 h3
    obtain ⟨a1, a2⟩ := e p (by omega)
    obtain ⟨b1, b2⟩ := e q h3
    rw [a1, b1] at this
    exact (m1_le (by omega) (by omega)).mp this
  refine ⟨fun k => tn (f k), e, lo 0 (by omega), lo 1 (by omega), le 2 3 (by omega) (by omega) (by omega), le 3 4 (by omega) (by omega) (by omega), fun P => ?_⟩
  rw [show cn P (fun k => tn (f k)) 2 3 = _ from cn_mapG (f := f) (g := tn), s2', ← show cn P (fun k => tn (fv k)) 2 3 = _ from cn_mapG (f := fv) (g := tn)]
  refine cn_congr (fun i hi => ?_)
  show tn (fv (2 + i)) = v (2 + i)
  obtain ⟨v1, v2⟩ := hv (2 + i) (by omega)
  rw [v1, tn_m1 (by omega)]
theorem e16_5 {t : Nat → Nat} : e16 t 5 = (((t 0 * 16 + t 1) * 16 + t 2) * 16 + t 3) * 16 + t 4 := by
  show ((((0 * 16 + t 0) * 16 + t 1) * 16 + t 2) * 16 + t 3) * 16 + t 4 = _
  omega
theorem e16_inj {t t' : Nat → Nat} (h : ∀ k, k < 5 → t k < 16) (h' : ∀ k, k < 5 → t' k < 16) : e16 t 5 = e16 t' 5 ↔ eq5 t t' := by
  have a0 := h 0 (by omega); have a1 := h 1 (by omega); have a2 := h 2 (by omega); have a3 := h 3 (by omega); have a4 := h 4 (by omega)
  have b0 := h' 0 (by omega); have b1 := h' 1 (by omega); have b2 := h' 2 (by omega); have b3 := h' 3 (by omega); have b4 := h' 4 (by omega)
  rw [e16_5, e16_5]
  constructor
  · intro e k hk
    rcases (show k = 0 ∨ k = 1 ∨ k = 2 ∨ k = 3 ∨ k = 4 by omega) with z | z | z | z | z <;> subst z <;> omega
  · intro e
    rw [e 0 (by omega), e 1 (by omega), e 2 (by omega), e 3 (by omega), e 4 (by omega)]
theorem e16_b {t : Nat → Nat} (h : ∀ k, k < 5 → t k < 16) : e16 t 5 < 1048576 := by
  have a0 := h 0 (by omega); have a1 := h 1 (by omega); have a2 := h 2 (by omega); have a3 := h 3 (by omega); have a4 := h 4 (by omega)
  rw [e16_5]
  omega
/-- a list of reactions -/
def DrI (h : am_H) (g rn : Nat) (R : Nat → Nat → Nat) : Prop := h[g]? = some (lO g (nI rn)) ∧ rn ≤ 40 ∧ ∃ f, h[g + 1]? = some (aI 40 f) ∧ ∀ i, i < rn → f i = nI (e16 (R i) 5) ∧ ∀ k, k < 5 → R i k < 16
def wd1 (W : Nat → Nat) (a : Nat) : Nat := if a = 0 then 0 else W (a - 1) + 1
def sameY (W : Nat → Nat) (a b : Nat) : Nat → Nat := fun i => if i = 0 then 0 else if i = 1 then wd1 W a else wd1 W b
def Same (W : Nat → Nat) (a b : Nat) (y : Nat → Nat) : Prop := yq y (sameY W a b)
def padY (k : Nat) (w : Nat → Nat) : Nat → Nat := fun i => if i < k then w i + 1 else 0
def evA (s : Nat) (ot : Option Nat) : Nat := match ot with | none => 0 | some t => min s t + 1
def evB (s : Nat) (ot : Option Nat) : Nat := match ot with | none => s + 1 | some t => max s t + 1
theorem ev_le {s n0 : Nat} {ot : Option Nat} (hs : s < n0) (ht : ∀ t, ot = some t → t < n0) : evA s ot ≤ evB s ot ∧ evB s ot ≤ n0 := by
  cases ot with
  | none => exact ⟨Nat.zero_le _, hs⟩
  | some t =>
    have := ht t rfl
    show min s t + 1 ≤ max s t + 1 ∧ max s t + 1 ≤ n0
    omega
/-- the row that says nothing happened -/
theorem den_same {n0 u a b : Nat} {W nu U : Nat → Nat} (hn : NuOk n0 nu) (hu : n0 ≤ u) (hW : ∀ i, i < n0 → U i = W i) (hU : ∀ i j, i < u → j < u → U i = U j → i = j) (hab : a ≤ b) (hb : b ≤ n0) : den nu u U (fun k => if k = 0 then a else if k = 1 then b else if k = 2 then 0 else if k = 3 then a else b) a b (sameY W a b) := by
  have kn : ∀ x, x ≤ n0 → wd1 W x = 0 ∨ ∃ j, j < u ∧ wd1 W x = U j + 1 := by
    intro x hx
    unfold wd1
    by_cases z : x = 0
    · exact Or.inl (if_pos z)
    · exact Or.inr ⟨x - 1, by omega, by rw [if_neg z, hW (x - 1) (by omega)]⟩
  have nm : ∀ x, x ≤ n0 → num nu u U (wd1 W x) = x := by
    intro x hx
    unfold wd1
    by_cases z : x = 0
    · rw [if_pos z, num_0, z]
    · rw [if_neg z, ← hW (x - 1) (by omega), num_s hU (by omega), hn.1 _ (by omega)]
      omega
  refine ⟨rfl, rfl, Nat.zero_le _, hab, fun i hi => ?_, fun P => ?_⟩
  · unfold sameY
    rcases (show i = 0 ∨ i = 1 ∨ i = 2 by omega) with z | z | z
    · subst z; exact Or.inl rfl
    · subst z; exact kn a (by omega)
    · subst z; exact kn b hb
  · have e : ∀ i, i < 3 → (fun k => if k = 0 then a else if k = 1 then b else if k = 2 then 0 else if k = 3 then a else b) (2 + i) = num nu u U (sameY W a b (0 + i)) := by
      intro i hi
      rcases (show i = 0 ∨ i = 1 ∨ i = 2 by omega) with z | z | z
      · subst z; exact num_0.symm
      · subst z; exact (nm a (by omega)).symm
      · subst z; exact (nm b hb).symm
    refine (cn_shift (f := fun k => if k = 0 then a else if k = 1 then b else if k = 2 then 0 else if k = 3 then a else b) (b := 2) (a := 0)).symm.trans (cn_congr (fun i hi => ?_))
    have := e i hi
    rw [Nat.zero_add] at this ⊢
    exact this
/-- a row says that nothing happened just when it looks so -/
theorem same_iff {n0 u a b : Nat} {W nu U t y : Nat → Nat} (hn : NuOk n0 nu) (hu : n0 ≤ u) (hW : ∀ i, i < n0 → U i = W i) (hU : ∀ i j, i < u → j < u → U i = U j → i = j) (hab : a ≤ b) (hb : b ≤ n0) (ht : den nu u U t a b y) : Same W a b y ↔ (t 2 = 0 ∧ t 3 = a ∧ t 4 = b) := by
  have d := den_same (a := a) (b := b) hn hu hW hU hab hb
  have e := den_uniq hn hU ht d
  constructor
  · intro z
    have q := e.mpr ⟨rfl, rfl, z⟩
    exact ⟨q 2 (by omega), q 3 (by omega), q 4 (by omega)⟩
  · rintro ⟨z2, z3, z4⟩
    refine (e.mp (fun k hk => ?_)).2.2
    rcases (show k = 0 ∨ k = 1 ∨ k = 2 ∨ k = 3 ∨ k = 4 by omega) with z | z | z | z | z
    · subst z; exact ht.1
    · subst z; exact ht.2.1
    · subst z; exact z2
    · subst z; exact z3
    · subst z; exact z4
