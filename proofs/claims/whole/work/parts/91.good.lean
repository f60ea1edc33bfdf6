theorem oset_n {od : Nat → Nat → Nat} {a b o i j : Nat} (h : ¬ ((i = a ∧ j = b) ∨ (i = b ∧ j = a))) : oset od a b o i j = od i j := if_neg h
/-- a rewriting leaves what is not between two chosen atoms -/
theorem rwO_n {P : Nat} {c X : Nat → Nat} {od : Nat → Nat → Nat} (hP : P = 2 ∨ P = 3) {i j : Nat} (h : ∀ p q, p < P → q < P → ¬ (i = c p ∧ j = c q)) : rwO P c X od i j = od i j := by
  unfold rwO
  have k : ∀ p q, p < P → q < P → ¬ ((i = c p ∧ j = c q) ∨ (i = c q ∧ j = c p)) := fun p q hp hq z => z.elim (h p q hp hq) (h q p hq hp)
  rcases hP with z | z
  · subst z
    rw [if_pos rfl, oset_n (k 0 1 (by omega) (by omega))]
  · subst z
    rw [if_neg (by omega), oset_n (k 1 2 (by omega) (by omega)), oset_n (k 0 2 (by omega) (by omega)), oset_n (k 0 1 (by omega) (by omega))]
theorem rwO_g {P n : Nat} {c X : Nat → Nat} {od : Nat → Nat → Nat} (hP : P = 2 ∨ P = 3) (hX : ∀ q, q < 3 → X q < 4) (hci : ∀ i j, i < j → j < P → c i ≠ c j) (h1 : ∀ i j, i < n → j < n → od i j < 4 ∧ od i j = od j i) (h2 : ∀ i, i < n → od i i = 0) : (∀ i j, i < n → j < n → rwO P c X od i j < 4 ∧ rwO P c X od i j = rwO P c X od j i) ∧ ∀ i, i < n → rwO P c X od i i = 0 := by
  unfold rwO
  rcases hP with z | z
  · subst z
    simp only [if_pos]
    exact oset_g (hci 0 1 (by omega) (by omega)) (hX 0 (by omega)) h1 h2
  · subst z
    rw [if_neg (by omega)]
    have a := oset_g (hci 0 1 (by omega) (by omega)) (hX 0 (by omega)) h1 h2
    have b := oset_g (hci 0 2 (by omega) (by omega)) (hX 1 (by omega)) a.1 a.2
    exact oset_g (hci 1 2 (by omega) (by omega)) (hX 2 (by omega)) b.1 b.2
/-- rewriting with the orders that are there changes nothing -/
theorem rwO_same {P : Nat} {c X : Nat → Nat} {od : Nat → Nat → Nat} (hP : P = 2 ∨ P = 3) (hs : ∀ i j, od i j = od j i) (hX : ∀ i j, i < j → j < P → od (c i) (c j) = X (i + j - 1)) : ∀ i j, rwO P c X od i j = od i j := by
  have o1 : ∀ (o : Nat → Nat → Nat) a b x, (∀ i j, o i j = od i j) → od a b = x → ∀ i j, oset o a b x i j = od i j := by
    intro o a b x ho hx i j
    unfold oset
    split
    · rename_i z
      rcases z with ⟨z1, z2⟩ | ⟨z1, z2⟩
      · rw [z1, z2, hx]
      · rw [z1, z2, hs b a, hx]
    · exact ho i j
  unfold rwO
  rcases hP with z | z
  · subst z
    rw [if_pos rfl]
    exact o1 od _ _ _ (fun _ _ => rfl) (hX 0 1 (by omega) (by omega))
  · subst z
    rw [if_neg (by omega)]
    exact o1 _ _ _ _ (o1 _ _ _ _ (o1 od _ _ _ (fun _ _ => rfl) (hX 0 1 (by omega) (by omega))) (hX 0 2 (by omega) (by omega))) (hX 1 2 (by omega) (by omega))
theorem sm_add {f : Nat → Nat} {a : Nat} : ∀ {b : Nat}, sm f (a + b) = sm f a + sm (fun j => f (a + j)) b
  | 0 => rfl
  | b + 1 => by
    show sm f (a + b) + f (a + b) = sm f a + (sm (fun j => f (a + j)) b + f (a + b))
    rw [sm_add]
    omega
theorem sm_nil {f : Nat → Nat} : ∀ {k : Nat}, (∀ i, i < k → f i = 0) → sm f k = 0
  | 0, _ => rfl
  | k + 1, h => by
    show sm f k + f k = 0
    rw [sm_nil (fun i hi => h i (by omega)), h k (by omega)]
/-- the loads in a mixture are those in the molecules -/
theorem px_load {cap w b : Nat} {ow : Option Nat} (h5 : cap ≤ 5) (hw : Mol cap w b) (ho : ∀ v, ow = some v → ∃ b, Mol cap v b) : ∀ x, x < pxN w ow → sm (pxO w ow x) (pxN w ow) ≤ pxC w ow x + 1 := by
  obtain ⟨-, -, -, -, -, hv, -⟩ := hw.w h5
  cases ow with
  | none => exact hv
  | some v =>
    obtain ⟨b', hv'⟩ := ho v rfl
    obtain ⟨-, -, -, -, -, hv2, -⟩ := hv'.w h5
    intro x hx
    have hx : x < wN w + wN v := hx
    show sm (mxO (wN w) (wO w) (wO v) x) (wN w + wN v) ≤ mxC (wN w) (wC w) (wC v) x + 1
    rw [sm_add]
    unfold mxC
    by_cases z : x < wN w
    · rw [if_pos z, sm_nil (f := fun j => mxO (wN w) (wO w) (wO v) x (wN w + j)) (fun j hj => by unfold mxO; rw [if_neg (by omega), if_neg (by omega)]), sm_congr (f := mxO (wN w) (wO w) (wO v) x) (g := wO w x) (fun j hj => by unfold mxO; rw [if_pos ⟨z, hj⟩])]
      exact hv x z
    · rw [if_neg z, sm_nil (f := mxO (wN w) (wO w) (wO v) x) (fun j hj => by unfold mxO; rw [if_neg (by omega), if_neg (by omega)]), sm_congr (f := fun j => mxO (wN w) (wO w) (wO v) x (wN w + j)) (g := wO v (x - wN w)) (fun j hj => by unfold mxO; rw [if_neg (by omega), if_pos (by omega), Nat.add_sub_cancel_left]), Nat.zero_add]
      exact hv2 (x - wN w) (by omega)
/-- every atom of a mixture hangs together, by the old bonds, with each atom of its molecule -/
theorem px_cnx {cap w b : Nat} {ow : Option Nat} (h5 : cap ≤ 5) (hw : Mol cap w b) (ho : ∀ v, ow = some v → ∃ b, Mol cap v b) (S : Nat → Prop) (hS : ∀ i j, i < pxN w ow → j < pxN w ow → S i → pxO w ow i j ≠ 0 → S j) {P : Nat} {c : Nat → Nat} (hc : ∀ j, j < P → c j < pxN w ow) (ht : Tch P (pxL w ow) c) (hSc : ∀ j, j < P → S (c j)) : ∀ x, x < pxN w ow → S x := by
  obtain ⟨-, -, -, -, -, -, hx, -⟩ := hw.w h5
  cases ow with
  | none =>
    obtain ⟨-, j, hj, -⟩ := ht
    exact fun x hx2 => hx S hS (c j) x (hc j hj) hx2 (hSc j hj)
  | some v =>
    obtain ⟨b', hv'⟩ := ho v rfl
    obtain ⟨v1, -, -, -, -, -, hx2, -⟩ := hv'.w h5
    have hw1 := (hw.w h5).1
    obtain ⟨t1, j, hj, t2⟩ := ht
    have t2 : wN w ≤ c j := t2
    have hS : ∀ i j, i < wN w + wN v → j < wN w + wN v → S i → mxO (wN w) (wO w) (wO v) i j ≠ 0 → S j := hS
    have hc : ∀ j, j < P → c j < wN w + wN v := hc
    obtain ⟨i, hi, t1⟩ : ∃ i, i < P ∧ c i < wN w := by
      rcases t1 with z | z
      · have z : wN w = 0 := z
        omega
      · exact z
    intro x hxx
    have hxx : x < wN w + wN v := hxx
    by_cases z : x < wN w
    · exact hx S (fun p q hp hq sp hpq => hS p q (by omega) (by omega) sp (by unfold mxO; rw [if_pos ⟨hp, hq⟩]; exact hpq)) (c i) x t1 z (hSc i hi)
    · have := hx2 (fun y => S (wN w + y)) (fun p q hp hq sp hpq => hS (wN w + p) (wN w + q) (by omega) (by omega) sp (by unfold mxO; rw [if_neg (by omega), if_pos (by omega), Nat.add_sub_cancel_left, Nat.add_sub_cancel_left]; exact hpq)) (c j - wN w) (x - wN w) (by have := hc j hj; omega) (by omega) (by
        show S (wN w + (c j - wN w))
        rw [show wN w + (c j - wN w) = c j by omega]
        exact hSc j hj)
      have this : S (wN w + (x - wN w)) := this
      rw [show wN w + (x - wN w) = x by omega] at this
      exact this
/-- a match yields: no atom has too much, and these are the molecules -/
def Good (n : Nat) (cd : Nat → Nat) (od : Nat → Nat → Nat) (cap k : Nat) (w b : Nat → Nat) : Prop := (∀ x, x < n → sm (od x) n ≤ cd x + 1) ∧ PL n cd od cap k w b
def Bad (n : Nat) (cd : Nat → Nat) (od : Nat → Nat → Nat) (cap : Nat) : Prop := (∃ x, x < n ∧ cd x + 1 < sm (od x) n) ∨ Big n od cap
theorem Good.not {n cap k : Nat} {cd w b : Nat → Nat} {od : Nat → Nat → Nat} (hs : ∀ i j, i < n → j < n → od i j = od j i) (h : Good n cd od cap k w b) : ¬ Bad n cd od cap := by
  rintro (⟨x, hx, z⟩ | z)
  · have := h.1 x hx
    omega
  · exact h.2.not hs z
/-- what the chosen atoms show is all there is -/
theorem good_of {cap w b P k : Nat} {ow : Option Nat} {C Bf X c : Nat → Nat} {ws bs : Nat → Nat} (h5 : cap ≤ 5) (hw : Mol cap w b) (ho : ∀ v, ow = some v → ∃ b, Mol cap v b) (hP : P = 2 ∨ P = 3) (hm : Mt P (pxN w ow) (pxL w ow) C Bf (pxC w ow) (pxO w ow) c) (hl : ∀ p, p < P → sm (rwO P c X (pxO w ow) (c p)) (pxN w ow) ≤ pxC w ow (c p) + 1) (hL : SpL (pxN w ow) (pxC w ow) (rwO P c X (pxO w ow)) cap P c k ws bs) : Good (pxN w ow) (pxC w ow) (rwO P c X (pxO w ow)) cap k ws bs := by
  refine ⟨fun x hx => ?_, ?_⟩
  · by_cases z : ∃ p, p < P ∧ x = c p
    · obtain ⟨p, hp, e⟩ := z
      rw [e]
      exact hl p hp
    · rw [sm_congr (f := rwO P c X (pxO w ow) x) (g := pxO w ow x) (fun j hj => rwO_n hP (fun p q hp _ y => z ⟨p, hp, y.1⟩))]
      exact px_load h5 hw ho x hx
  · obtain ⟨R, r1, r2, r3, r4⟩ := hL
    refine ⟨R, r1, r2, fun x hx => ?_, r4⟩
    refine px_cnx h5 hw ho (fun x => ∃ i, i < k ∧ Rch (pxN w ow) (rwO P c X (pxO w ow)) (R i) x) (fun i j hi hj ⟨q, q1, q2⟩ hij => ?_) (fun j hj => (hm.1 j hj).1) hm.2 r3 x hx
    by_cases z : ∃ p p', p < P ∧ p' < P ∧ i = c p ∧ j = c p'
    · obtain ⟨p, p', hp, hp', e1, e2⟩ := z
      rw [e2]
      exact r3 p' hp'
    · refine ⟨q, q1, q2.st hi hj ?_⟩
      rw [rwO_n hP (fun p p' hp hp' y => z ⟨p, p', hp, hp', y.1, y.2⟩)]
      exact hij
/-- what comes of a good match are species -/
theorem Good.mol {n cap k : Nat} {cd w b : Nat → Nat} {od : Nat → Nat → Nat} (h5 : cap ≤ 5) (hc4 : ∀ i, i < n → cd i < 4) (ho : ∀ i j, i < n → j < n → od i j < 4 ∧ od i j = od j i) (hd : ∀ i, i < n → od i i = 0) (h : Good n cd od cap k w b) {i : Nat} (hi : i < k) : Mol cap (w i) (b i) := by
  obtain ⟨hl, R, r1, r2, r3, r4⟩ := h
  obtain ⟨J, cnt, c1, c2, c3⟩ := r4 i hi
  have hs : ∀ i j, i < n → j < n → od i j = od j i := fun i j hi hj => (ho i j hi hj).2
  refine mol_of h5 (c1.pos (r1 i hi)).1 c2 (fun q hq => hc4 _ (c1.1 q hq).1) (fun p q hp hq => ho _ _ (c1.1 p hp).1 (c1.1 q hq).1) (fun q hq => hd _ (c1.1 q hq).1) (fun q hq => ?_) (fun S hS p q hp hq sp => ?_) c3
  · exact Nat.le_trans (sm_inj (f := od (J q)) (fun j hj => (c1.1 j hj).1) c1.2.1) (hl _ (c1.1 q hq).1)
  · have hr : Rch n od (J p) (J q) := ((c1.1 p hp).2.sy hs).tr (c1.1 q hq).2
    obtain ⟨x, x1, x2, x3⟩ := hr (fun x => ∃ y, y < cnt ∧ J y = x ∧ S y) (fun a b ha hb ⟨y, y1, y2, y3⟩ hab => by
      have rb : Rch n od (R i) b := by
        have := (c1.1 y y1).2
        rw [y2] at this
        exact this.st ha hb hab
      obtain ⟨y', z1, z2⟩ := c1.2.2 b hb rb
      exact ⟨y', z1, z2, hS y y' y1 z1 y3 (by show od (J y) (J y') ≠ 0; rw [y2, z2]; exact hab)⟩) ⟨p, hp, rfl, sp⟩
    rw [← c1.2.1 x q x1 hq x2]
    exact x3
