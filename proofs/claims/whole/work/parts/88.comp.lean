/-- b can be had from a along bonds -/
def Rch (n : Nat) (od : Nat → Nat → Nat) (a b : Nat) : Prop := ∀ S : Nat → Prop, (∀ i j, i < n → j < n → S i → od i j ≠ 0 → S j) → S a → S b
theorem Rch.rf {n : Nat} {od : Nat → Nat → Nat} {a : Nat} : Rch n od a a := fun _ _ h => h
theorem Rch.tr {n : Nat} {od : Nat → Nat → Nat} {a b c : Nat} (h1 : Rch n od a b) (h2 : Rch n od b c) : Rch n od a c := fun S hS h => h2 S hS (h1 S hS h)
theorem Rch.st {n : Nat} {od : Nat → Nat → Nat} {a b c : Nat} (h1 : Rch n od a b) (hb : b < n) (hc : c < n) (h : od b c ≠ 0) : Rch n od a c := fun S hS s => hS b c hb hc (h1 S hS s) h
theorem Rch.sy {n : Nat} {od : Nat → Nat → Nat} {a b : Nat} (hs : ∀ i j, i < n → j < n → od i j = od j i) (h : Rch n od a b) : Rch n od b a := by
  refine h (fun x => Rch n od x a) (fun i j hi hj si hij => ?_) Rch.rf
  exact Rch.tr (fun S hS sj => hS j i hj hi sj (by rw [hs j i hj hi]; exact hij)) si
theorem Rch.lt {n : Nat} {od : Nat → Nat → Nat} {a b : Nat} (ha : a < n) (h : Rch n od a b) : b < n := h (fun x => x < n) (fun i j _ hj _ _ => hj) ha
/-- the atoms that hang together with a, each once -/
def CompE (n : Nat) (od : Nat → Nat → Nat) (a : Nat) (J : Nat → Nat) (cnt : Nat) : Prop := (∀ q, q < cnt → J q < n ∧ Rch n od a (J q)) ∧ (∀ p q, p < cnt → q < cnt → J p = J q → p = q) ∧ ∀ x, x < n → Rch n od a x → ∃ q, q < cnt ∧ J q = x
theorem inj_le {n c : Nat} {f : Nat → Nat} (h1 : ∀ q, q < c → f q < n) (h2 : ∀ p q, p < c → q < c → f p = f q → p = q) : c ≤ n := by
  have := sm_inj (f := fun _ => 1) h1 h2
  rw [sm_ones (fun _ _ => rfl), sm_ones (fun _ _ => rfl)] at this
  exact this
theorem CompE.pos {n a cnt : Nat} {od : Nat → Nat → Nat} {J : Nat → Nat} (h : CompE n od a J cnt) (ha : a < n) : 1 ≤ cnt ∧ cnt ≤ n := by
  refine ⟨?_, inj_le (fun q hq => (h.1 q hq).1) h.2.1⟩
  obtain ⟨q, hq, -⟩ := h.2.2 a ha Rch.rf
  omega
/-- two enumerations of one component, or of a component and its image -/
theorem CompE.map {n n' a a' cnt cnt' : Nat} {od od' : Nat → Nat → Nat} {J J' pi : Nat → Nat} (h : CompE n od a J cnt) (h' : CompE n' od' a' J' cnt') (hp : ∀ x, x < n → Rch n od a x → pi x < n' ∧ Rch n' od' a' (pi x)) (hi : ∀ x y, x < n → y < n → pi x = pi y → x = y) (hs : ∀ y, y < n' → Rch n' od' a' y → ∃ x, x < n ∧ Rch n od a x ∧ pi x = y) : cnt = cnt' ∧ ∃ u, Pm cnt u ∧ ∀ q, q < cnt → J' q = pi (J (u q)) := by
  have f1 : ∀ q, ∃ p, q < cnt → p < cnt' ∧ J' p = pi (J q) := by
    intro q
    by_cases hq : q < cnt
    · obtain ⟨a1, a2⟩ := h.1 q hq
      obtain ⟨b1, b2⟩ := hp _ a1 a2
      obtain ⟨p, p1, p2⟩ := h'.2.2 _ b1 b2
      exact ⟨p, fun _ => ⟨p1, p2⟩⟩
    · exact ⟨0, fun z => absurd z hq⟩
  have f2 : ∀ q, ∃ p, q < cnt' → p < cnt ∧ J' q = pi (J p) := by
    intro q
    by_cases hq : q < cnt'
    · obtain ⟨a1, a2⟩ := h'.1 q hq
      obtain ⟨x, x1, x2, x3⟩ := hs _ a1 a2
      obtain ⟨p, p1, p2⟩ := h.2.2 x x1 x2
      exact ⟨p, fun _ => ⟨p1, by rw [p2, x3]⟩⟩
    · exact ⟨0, fun z => absurd z hq⟩
  have l1 : cnt ≤ cnt' := inj_le (f := fun q => Classical.choose (f1 q)) (fun q hq => (Classical.choose_spec (f1 q) hq).1) (fun p q hpp hq e => by
    have e1 := (Classical.choose_spec (f1 p) hpp).2
    have e2 := (Classical.choose_spec (f1 q) hq).2
    have e : Classical.choose (f1 p) = Classical.choose (f1 q) := e
    rw [e] at e1
    exact h.2.1 p q hpp hq (hi _ _ (h.1 p hpp).1 (h.1 q hq).1 (e1.symm.trans e2)))
  have inj2 : ∀ p q, p < cnt' → q < cnt' → Classical.choose (f2 p) = Classical.choose (f2 q) → p = q := fun p q hpp hq e => by
    have e1 := (Classical.choose_spec (f2 p) hpp).2
    have e2 := (Classical.choose_spec (f2 q) hq).2
    rw [e] at e1
    exact h'.2.1 p q hpp hq (e1.trans e2.symm)
  have l2 : cnt' ≤ cnt := inj_le (f := fun q => Classical.choose (f2 q)) (fun q hq => (Classical.choose_spec (f2 q) hq).1) inj2
  have e : cnt = cnt' := Nat.le_antisymm l1 l2
  refine ⟨e, fun q => Classical.choose (f2 q), ⟨fun q hq => (Classical.choose_spec (f2 q) (by omega)).1, fun p q hpp hq => inj2 p q (by omega) (by omega)⟩, fun q hq => (Classical.choose_spec (f2 q) (by omega)).2⟩
/-- the right list of products of a graph: one for each component -/
def PL (n : Nat) (cd : Nat → Nat) (od : Nat → Nat → Nat) (cap k : Nat) (w b : Nat → Nat) : Prop := ∃ R : Nat → Nat, (∀ i, i < k → R i < n) ∧ (∀ i j, i < k → j < k → Rch n od (R i) (R j) → i = j) ∧ (∀ x, x < n → ∃ i, i < k ∧ Rch n od (R i) x) ∧ ∀ i, i < k → ∃ J cnt, CompE n od (R i) J cnt ∧ cnt ≤ cap ∧ IsK cd od J cnt (w i) (b i)
/-- a graph of which some component is too large -/
def Big (n : Nat) (od : Nat → Nat → Nat) (cap : Nat) : Prop := ∃ x J cnt, x < n ∧ CompE n od x J cnt ∧ cap < cnt
theorem PL.not {n cap k : Nat} {cd w b : Nat → Nat} {od : Nat → Nat → Nat} (hs : ∀ i j, i < n → j < n → od i j = od j i) (h : PL n cd od cap k w b) : ¬ Big n od cap := by
  rintro ⟨x, J, cnt, hx, hJ, hc⟩
  obtain ⟨R, h1, h2, h3, h4⟩ := h
  obtain ⟨i, hi, hr⟩ := h3 x hx
  obtain ⟨J', cnt', hJ', hc', -⟩ := h4 i hi
  have := (hJ.map hJ' (pi := id) (fun y hy hxy => ⟨hy, hr.tr hxy⟩) (fun _ _ _ _ e => e) (fun y hy hxy => ⟨y, hy, (hr.sy hs).tr hxy, rfl⟩)).1
  omega
/-- isomorphic graphs have the same lists, but for the order -/
theorem PL.perm {n cap k k' : Nat} {cd cd' w b w' b' pi : Nat → Nat} {od od' : Nat → Nat → Nat} (h5 : cap ≤ 5) (hc4 : ∀ i, i < n → cd i < 4) (ho4 : ∀ i j, i < n → j < n → od i j < 4 ∧ od i j = od j i) (hp : Pm n pi) (hsur : ∀ y, y < n → ∃ x, x < n ∧ pi x = y) (ec : ∀ x, x < n → cd' (pi x) = cd x) (eo : ∀ x y, x < n → y < n → od' (pi x) (pi y) = od x y) (h : PL n cd od cap k w b) (h' : PL n cd' od' cap k' w' b') : k = k' ∧ ∃ u, Pm k u ∧ ∀ i, i < k → w' i = w (u i) ∧ b' i = b (u i) := by
  have hs : ∀ i j, i < n → j < n → od i j = od j i := fun i j hi hj => (ho4 i j hi hj).2
  have hs' : ∀ i j, i < n → j < n → od' i j = od' j i := by
    intro i j hi hj
    obtain ⟨x, hx, ex⟩ := hsur i hi
    obtain ⟨y, hy, ey⟩ := hsur j hj
    rw [← ex, ← ey, eo x y hx hy, eo y x hy hx, hs x y hx hy]
  have fw : ∀ x y, x < n → Rch n od x y → Rch n od' (pi x) (pi y) := by
    intro x y hx hr S hS sx
    exact (hr (fun z => z < n ∧ S (pi z)) (fun i j hi hj si hij => ⟨hj, hS (pi i) (pi j) (hp.1 i hi) (hp.1 j hj) si.2 (by rw [eo i j hi hj]; exact hij)⟩) ⟨hx, sx⟩).2
  have bw : ∀ x y, x < n → y < n → Rch n od' (pi x) (pi y) → Rch n od x y := by
    intro x y hx hy hr S hS sx
    have := hr (fun z => ∃ q, q < n ∧ pi q = z ∧ S q) (fun i j hi hj ⟨q, q1, q2, q3⟩ hij => by
      obtain ⟨q', q1', q2'⟩ := hsur j hj
      refine ⟨q', q1', q2', hS q q' q1 q1' q3 ?_⟩
      rw [← eo q q' q1 q1', q2, q2']
      exact hij) ⟨x, hx, rfl, sx⟩
    obtain ⟨q, q1, q2, q3⟩ := this
    rw [hp.2 q y q1 hy q2] at q3
    exact q3
  obtain ⟨R, r1, r2, r3, r4⟩ := h
  obtain ⟨R', s1, s2, s3, s4⟩ := h'
  -- which of the first each of the second is
  have f2 : ∀ j, ∃ i, j < k' → i < k ∧ Rch n od' (pi (R i)) (R' j) := by
    intro j
    by_cases hj : j < k'
    · obtain ⟨x, hx, ex⟩ := hsur (R' j) (s1 j hj)
      obtain ⟨i, hi, hr⟩ := r3 x hx
      refine ⟨i, fun _ => ⟨hi, ?_⟩⟩
      rw [← ex]
      exact fw _ _ (r1 i hi) hr
    · exact ⟨0, fun z => absurd z hj⟩
  have f1 : ∀ i, ∃ j, i < k → j < k' ∧ Rch n od' (R' j) (pi (R i)) := by
    intro i
    by_cases hi : i < k
    · obtain ⟨j, hj, hr⟩ := s3 (pi (R i)) (hp.1 _ (r1 i hi))
      exact ⟨j, fun _ => ⟨hj, hr⟩⟩
    · exact ⟨0, fun z => absurd z hi⟩
  have inj2 : ∀ p q, p < k' → q < k' → Classical.choose (f2 p) = Classical.choose (f2 q) → p = q := fun p q hpp hq e => by
    have e1 := (Classical.choose_spec (f2 p) hpp).2
    have e2 := (Classical.choose_spec (f2 q) hq).2
    rw [e] at e1
    exact s2 p q hpp hq ((e1.sy hs').tr e2)
  have inj1 : ∀ p q, p < k → q < k → Classical.choose (f1 p) = Classical.choose (f1 q) → p = q := fun p q hpp hq e => by
    have e1 := (Classical.choose_spec (f1 p) hpp).2
    have e2 := (Classical.choose_spec (f1 q) hq).2
    rw [e] at e1
    exact r2 p q hpp hq (bw _ _ (r1 p hpp) (r1 q hq) ((e1.sy hs').tr e2))
  have l1 : k ≤ k' := inj_le (f := fun q => Classical.choose (f1 q)) (fun q hq => (Classical.choose_spec (f1 q) hq).1) inj1
  have l2 : k' ≤ k := inj_le (f := fun q => Classical.choose (f2 q)) (fun q hq => (Classical.choose_spec (f2 q) hq).1) inj2
  have ek : k = k' := Nat.le_antisymm l1 l2
  refine ⟨ek, fun q => Classical.choose (f2 q), ⟨fun q hq => (Classical.choose_spec (f2 q) (by omega)).1, fun p q hpp hq => inj2 p q (by omega) (by omega)⟩, fun j hj => ?_⟩
  obtain ⟨i1, i2⟩ := Classical.choose_spec (f2 j) (by omega)
  show w' j = w (Classical.choose (f2 j)) ∧ b' j = b (Classical.choose (f2 j))
  generalize Classical.choose (f2 j) = i at i1 i2 ⊢
  obtain ⟨J, cnt, c1, c2, c3⟩ := r4 i i1
  obtain ⟨J', cnt', d1, d2, d3⟩ := s4 j (by omega)
  obtain ⟨ec1, u, hu, eu⟩ := c1.map d1 (pi := pi) (fun x hx hr => ⟨hp.1 x hx, (i2.sy hs').tr (fw _ _ (r1 i i1) hr)⟩) hp.2 (fun y hy hr => by
    obtain ⟨x, hx, ex⟩ := hsur y hy
    refine ⟨x, hx, bw _ _ (r1 i i1) hx ?_, ex⟩
    rw [ex]
    exact i2.tr hr)
  subst ec1
  have hpos := (c1.pos (r1 i i1)).1
  have := IsK.uniq (c1 := cd) (c2 := cd') (a1 := J) (a2 := J') (u := u) (o1 := od) (o2 := od') hpos (by omega) (fun q hq => hc4 _ (c1.1 q hq).1) (fun p q hpp hq => (ho4 _ _ (c1.1 p hpp).1 (c1.1 q hq).1).1) hu (fun q hq => by rw [eu q hq]; exact ec _ (c1.1 _ (hu.1 q hq)).1) (fun p q hpp hq => by rw [eu p hpp, eu q hq]; exact eo _ _ (c1.1 _ (hu.1 p hpp)).1 (c1.1 _ (hu.1 q hq)).1) c3 d3
  exact ⟨this.1.symm, this.2.symm⟩
