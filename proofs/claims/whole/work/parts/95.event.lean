/-- what a round works on: cap, how many species, their words, the rules -/
abbrev Wk : Type := Nat × Nat × (Nat → Nat) × (Nat → Nat) × (Nat → Nat → Nat) × (Nat → Nat → Nat) × (Nat → Nat → Nat)
abbrev Wk.cap (g : Wk) : Nat := g.1
abbrev Wk.n0 (g : Wk) : Nat := g.2.1
abbrev Wk.W (g : Wk) : Nat → Nat := g.2.2.1
abbrev Wk.P (g : Wk) : Nat → Nat := g.2.2.2.1
abbrev Wk.C (g : Wk) : Nat → Nat → Nat := g.2.2.2.2.1
abbrev Wk.Bf (g : Wk) : Nat → Nat → Nat := g.2.2.2.2.2.1
abbrev Wk.Af (g : Wk) : Nat → Nat → Nat := g.2.2.2.2.2.2
/-- a mixture -/
def xN (g : Wk) (s : Nat) (ot : Option Nat) : Nat := pxN (g.W s) (ot.map g.W)
def xL (g : Wk) (s : Nat) (ot : Option Nat) : Nat := pxL (g.W s) (ot.map g.W)
def xC (g : Wk) (s : Nat) (ot : Option Nat) : Nat → Nat := pxC (g.W s) (ot.map g.W)
def xB (g : Wk) (s : Nat) (ot : Option Nat) : Nat → Nat → Nat := pxO (g.W s) (ot.map g.W)
abbrev Zt : Type := Nat → Nat → Option Nat → (Nat → Nat) → Prop
def EvM (g : Wk) (r s : Nat) (ot : Option Nat) (c : Nat → Nat) : Prop := Mt (g.P r) (xN g s ot) (xL g s ot) (g.C r) (g.Bf r) (xC g s ot) (xB g s ot) c
def xA (g : Wk) (r s : Nat) (ot : Option Nat) (c : Nat → Nat) : Nat → Nat → Nat := rwO (g.P r) c (g.Af r) (xB g s ot)
def EvG (g : Wk) (r s : Nat) (ot : Option Nat) (c : Nat → Nat) (k : Nat) (w b : Nat → Nat) : Prop := Good (xN g s ot) (xC g s ot) (xA g r s ot c) g.cap k w b
def EvB (g : Wk) (r s : Nat) (ot : Option Nat) (c : Nat → Nat) : Prop := Bad (xN g s ot) (xC g s ot) (xA g r s ot c) g.cap
def WkOk (g : Wk) (rc : Nat) : Prop := (2 ≤ g.cap ∧ g.cap ≤ 5) ∧ (g.n0 ≤ 12) ∧ (rc ≤ 3) ∧ (∀ i, i < g.n0 → ∃ b, Mol g.cap (g.W i) b) ∧ (∀ r, r < rc → (g.P r = 2 ∨ g.P r = 3) ∧ (∀ q, q < 3 → g.Bf r q < 4) ∧ ∀ q, q < 3 → g.Af r q < 4)
def ZOk (g : Wk) (rc r s : Nat) (ot : Option Nat) (c : Nat → Nat) : Prop := r < rc ∧ s < g.n0 ∧ (∀ t, ot = some t → t < g.n0) ∧ EvM g r s ot c
def EvW (g : Wk) (Z : Zt) (v : Nat) : Prop := (∃ i, i < g.n0 ∧ g.W i = v) ∨ ∃ r s ot c k w b i, Z r s ot c ∧ EvG g r s ot c k w b ∧ i < k ∧ w i = v
def EvA (g : Wk) (A0 : Nat → Nat → (Nat → Nat) → Prop) (Z : Zt) (a b : Nat) (y : Nat → Nat) : Prop := A0 a b y ∨ ∃ r s ot c k w b', Z r s ot c ∧ EvG g r s ot c k w b' ∧ ¬ Same g.W (evA s ot) (evB s ot) (padY k w) ∧ a = evA s ot ∧ b = evB s ot ∧ y = padY k w
def RunZ (g : Wk) (A0 : Nat → Nat → (Nat → Nat) → Prop) (nu : Nat → Nat) (Z : Zt) (u : Nat) (U : Nat → Nat) (rn : Nat) (R : Nat → Nat → Nat) : Prop := Run g.n0 g.W nu (EvW g Z) (EvA g A0 Z) u U rn R
def Zadd (g : Wk) (Z : Zt) (r s : Nat) (ot : Option Nat) (c : Nat → Nat) : Zt := fun r' s' ot' c' => Z r' s' ot' c' ∨ (r' = r ∧ s' = s ∧ ot' = ot ∧ ∀ q, q < g.P r → c' q = c q)
theorem xN_le {g : Wk} {rc s : Nat} {ot : Option Nat} (ok : WkOk g rc) (hs : s < g.n0) (ht : ∀ t, ot = some t → t < g.n0) : 1 ≤ xN g s ot ∧ xN g s ot ≤ 10 ∧ xL g s ot ≤ 10 := by
  obtain ⟨⟨c2, c5⟩, -, -, hm, -⟩ := ok
  obtain ⟨b, hb⟩ := hm s hs
  have h1 := hb.w c5
  cases ot with
  | none =>
    have : 1 ≤ wN (g.W s) ∧ wN (g.W s) ≤ g.cap := ⟨h1.1, h1.2.1⟩
    show 1 ≤ wN (g.W s) ∧ wN (g.W s) ≤ 10 ∧ 0 ≤ 10
    omega
  | some t =>
    obtain ⟨b', hb'⟩ := hm t (ht t rfl)
    have h2 := hb'.w c5
    have : 1 ≤ wN (g.W s) ∧ wN (g.W s) ≤ g.cap := ⟨h1.1, h1.2.1⟩
    have : 1 ≤ wN (g.W t) ∧ wN (g.W t) ≤ g.cap := ⟨h2.1, h2.2.1⟩
    show 1 ≤ wN (g.W s) + wN (g.W t) ∧ wN (g.W s) + wN (g.W t) ≤ 10 ∧ wN (g.W s) ≤ 10
    omega
theorem rwO_c {P : Nat} {c c' X : Nat → Nat} {od : Nat → Nat → Nat} (hP : P = 2 ∨ P = 3) (e : ∀ q, q < P → c' q = c q) : rwO P c' X od = rwO P c X od := by
  unfold rwO
  rcases hP with z | z
  · subst z
    rw [if_pos rfl, if_pos rfl, e 0 (by omega), e 1 (by omega)]
  · subst z
    rw [if_neg (by omega), if_neg (by omega), e 0 (by omega), e 1 (by omega), e 2 (by omega)]
theorem Mt.inj {P n lb : Nat} {C Bf cd : Nat → Nat} {od : Nat → Nat → Nat} {c : Nat → Nat} (h : Mt P n lb C Bf cd od c) : ∀ i j, i < j → j < P → c i ≠ c j := fun i j hij hj => ((h.1 j hj).2.2 i hij).1
theorem xA_g {g : Wk} {rc r s : Nat} {ot : Option Nat} {c : Nat → Nat} (ok : WkOk g rc) (z : ZOk g rc r s ot c) : (∀ i j, i < xN g s ot → j < xN g s ot → xA g r s ot c i j < 4 ∧ xA g r s ot c i j = xA g r s ot c j i) ∧ ∀ i, i < xN g s ot → xA g r s ot c i i = 0 := by
  obtain ⟨-, -, -, -, hr⟩ := ok
  obtain ⟨z1, z2, z3, z4⟩ := z
  obtain ⟨p1, -, p2⟩ := hr r z1
  exact rwO_g p1 p2 z4.inj (fun i j _ _ => ⟨(pxO_lt i j).1, (pxO_lt i j).2.1⟩) (fun i _ => (pxO_lt i i).2.2)
/-- the products of an event are one list, but for the order -/
theorem ev_uniq {g : Wk} {rc r s k k' : Nat} {ot : Option Nat} {c w b w' b' : Nat → Nat} (ok : WkOk g rc) (z : ZOk g rc r s ot c) (h : EvG g r s ot c k w b) (h' : EvG g r s ot c k' w' b') : k = k' ∧ ∃ u, Pm k u ∧ ∀ i, i < k → w' i = w (u i) ∧ b' i = b (u i) :=
  PL.perm (pi := id) ok.1.2 (fun i _ => pxC_lt i) (xA_g ok z).1 Pm.id (fun y hy => ⟨y, hy, rfl⟩) (fun _ _ => rfl) (fun _ _ _ _ => rfl) h.2 h'.2
theorem ev_not {g : Wk} {rc r s k : Nat} {ot : Option Nat} {c w b : Nat → Nat} (ok : WkOk g rc) (z : ZOk g rc r s ot c) (h : EvG g r s ot c k w b) : ¬ EvB g r s ot c :=
  Good.not (fun i j hi hj => ((xA_g ok z).1 i j hi hj).2) h
theorem ev_mols {g : Wk} {rc s : Nat} {ot : Option Nat} (ok : WkOk g rc) (hs : s < g.n0) (ht : ∀ t, ot = some t → t < g.n0) : (∃ b, Mol g.cap (g.W s) b) ∧ ∀ v, ot.map g.W = some v → ∃ b, Mol g.cap v b := by
  obtain ⟨-, -, -, hm, -⟩ := ok
  refine ⟨hm s hs, fun v hv => ?_⟩
  cases ot with
  | none => cases hv
  | some t =>
    cases hv
    exact hm t (ht t rfl)
/-- each product holds an atom of the match -/
theorem ev_k {g : Wk} {rc r s k : Nat} {ot : Option Nat} {c w b : Nat → Nat} (ok : WkOk g rc) (z : ZOk g rc r s ot c) (h : EvG g r s ot c k w b) : 1 ≤ k ∧ k ≤ g.P r ∧ k ≤ 3 := by
  have hg := xA_g ok z
  have hs : ∀ i j, i < xN g s ot → j < xN g s ot → xA g r s ot c i j = xA g r s ot c j i := fun i j hi hj => (hg.1 i j hi hj).2
  obtain ⟨z1, z2, z3, z4⟩ := z
  have hx := xN_le ok z2 z3
  obtain ⟨⟨b0, hb0⟩, hmo⟩ := ev_mols ok z2 z3
  have hP := (ok.2.2.2.2 r z1).1
  obtain ⟨-, R, r1, r2, r3, r4⟩ := h
  have all : ∀ x, x < xN g s ot → ∃ p, p < g.P r ∧ Rch (xN g s ot) (xA g r s ot c) (c p) x := by
    refine px_cnx ok.1.2 hb0 hmo (fun x => ∃ p, p < g.P r ∧ Rch (xN g s ot) (xA g r s ot c) (c p) x) (fun i j hi hj ⟨p, p1, p2⟩ hij => ?_) (fun j hj => (z4.1 j hj).1) z4.2 (fun j hj => ⟨j, hj, Rch.rf⟩)
    by_cases y : ∃ q q', q < g.P r ∧ q' < g.P r ∧ i = c q ∧ j = c q'
    · obtain ⟨q, q', hq, hq', e1, e2⟩ := y
      rw [e2]
      exact ⟨q', hq', Rch.rf⟩
    · refine ⟨p, p1, p2.st hi hj ?_⟩
      show rwO (g.P r) c (g.Af r) (xB g s ot) i j ≠ 0
      rw [rwO_n hP (fun q q' hq hq' y' => y ⟨q, q', hq, hq', y'.1, y'.2⟩)]
      exact hij
  have f : ∀ i, ∃ p, i < k → p < g.P r ∧ Rch (xN g s ot) (xA g r s ot c) (c p) (R i) := by
    intro i
    by_cases hi : i < k
    · obtain ⟨p, p1, p2⟩ := all (R i) (r1 i hi)
      exact ⟨p, fun _ => ⟨p1, p2⟩⟩
    · exact ⟨0, fun y => absurd y hi⟩
  have hk : k ≤ g.P r := inj_le (f := fun i => Classical.choose (f i)) (fun q hq => (Classical.choose_spec (f q) hq).1) (fun p q hp hq e => by
    have e1 := (Classical.choose_spec (f p) hp).2
    have e2 := (Classical.choose_spec (f q) hq).2
    have e : Classical.choose (f p) = Classical.choose (f q) := e
    rw [e] at e1
    exact r2 p q hp hq ((e1.sy hs).tr e2))
  obtain ⟨i, hi, -⟩ := r3 0 (by omega)
  exact ⟨by omega, hk, by omega⟩
theorem cn_smG {P : Nat → Bool} {f : Nat → Nat} : ∀ {k : Nat}, cn P f 0 k = sm (fun i => if P (f i) = true then 1 else 0) k
  | 0 => rfl
  | k + 1 => by
    show cn P f 0 k + (if P (f (0 + k)) = true then 1 else 0) = sm _ k + (if P (f k) = true then 1 else 0)
    rw [cn_smG, Nat.zero_add]
theorem padY_yq {k : Nat} {w w' u : Nat → Nat} (hk : k ≤ 3) (hu : Pm k u) (e : ∀ i, i < k → w' i = w (u i)) : yq (padY k w) (padY k w') := by
  intro P
  rw [cn_smG, cn_smG, ← sm_perm (s := fun i => if i < k then u i else i) (by omega) (by omega) ⟨fun q hq => ?_, fun p q hp hq ep => ?_⟩]
  · refine sm_congr (fun i hi => ?_)
    show (if P (padY k w (if i < k then u i else i)) = true then 1 else 0) = (if P (padY k w' i) = true then 1 else 0)
    have : padY k w (if i < k then u i else i) = padY k w' i := by
      unfold padY
      by_cases z : i < k
      · rw [if_pos z, if_pos z, if_pos (hu.1 i z), e i z]
      · rw [if_neg z, if_neg z, if_neg z]
    rw [this]
  · show (if q < k then u q else q) < 3
    split
    · rename_i z
      have := hu.1 q z
      omega
    · exact hq
  · have ep : (if p < k then u p else p) = (if q < k then u q else q) := ep
    by_cases zp : p < k
    · have := hu.1 p zp
      by_cases zq : q < k
      · rw [if_pos zp, if_pos zq] at ep
        exact hu.2 p q zp zq ep
      · rw [if_pos zp, if_neg zq] at ep
        omega
    · by_cases zq : q < k
      · have := hu.1 q zq
        rw [if_neg zp, if_pos zq] at ep
        omega
      · rw [if_neg zp, if_neg zq] at ep
        exact ep
theorem Same.yq {W y y' : Nat → Nat} {a b : Nat} (h : Same W a b y) (e : yq y y') : Same W a b y' := e.sy.tr h
theorem EvG.c {g : Wk} {rc r s k : Nat} {ot : Option Nat} {c c' w b : Nat → Nat} (ok : WkOk g rc) (hr : r < rc) (e : ∀ q, q < g.P r → c' q = c q) (h : EvG g r s ot c' k w b) : EvG g r s ot c k w b := by
  have : xA g r s ot c' = xA g r s ot c := rwO_c (ok.2.2.2.2 r hr).1 e
  unfold EvG at h ⊢
  rw [← this]
  exact h
/-- an event is done -/
theorem RunZ.add {g : Wk} {rc r s k u rn : Nat} {ot : Option Nat} {c w b nu U : Nat → Nat} {A0 A' : Nat → Nat → (Nat → Nat) → Prop} {Z : Zt} {R : Nat → Nat → Nat} (ok : WkOk g rc) (z : ZOk g rc r s ot c) (h : EvG g r s ot c k w b) (hR : Run g.n0 g.W nu (fun v => EvW g Z v ∨ ∃ i, i < k ∧ w i = v) A' u U rn R) (hA : ∀ a' b' y', A' a' b' y' ↔ (EvA g A0 Z a' b' y' ∨ (¬ Same g.W (evA s ot) (evB s ot) (padY k w) ∧ a' = evA s ot ∧ b' = evB s ot ∧ y' = padY k w))) : RunZ g A0 nu (Zadd g Z r s ot c) u U rn R := by
  have hk := ev_k ok z h
  refine hR.same (fun v => ?_) (fun a b' y hy => ?_) (fun a b' y hy => ?_)
  · constructor
    · rintro (q | ⟨r', s', ot', c', k', w', b', i, zz, h', hi, e⟩)
      · exact Or.inl (Or.inl q)
      · rcases zz with zz | ⟨e1, e2, e3, e4⟩
        · exact Or.inl (Or.inr ⟨r', s', ot', c', k', w', b', i, zz, h', hi, e⟩)
        · subst e1; subst e2; subst e3
          obtain ⟨ek, p, hp, ep⟩ := ev_uniq ok z h (h'.c ok z.1 e4)
          subst ek
          exact Or.inr ⟨p i, hp.1 i hi, by rw [← (ep i hi).1]; exact e⟩
    · rintro ((q | ⟨r', s', ot', c', k', w', b', i, zz, h', hi, e⟩) | ⟨i, hi, e⟩)
      · exact Or.inl q
      · exact Or.inr ⟨r', s', ot', c', k', w', b', i, Or.inl zz, h', hi, e⟩
      · exact Or.inr ⟨r, s, ot, c, k, w, b, i, Or.inr ⟨rfl, rfl, rfl, fun _ _ => rfl⟩, h, hi, e⟩
  · rcases (hA a b' y).mp hy with (q | ⟨r', s', ot', c', k', w', b2, zz, h', hs, e1, e2, e3⟩) | ⟨q1, q2, q3, q4⟩
    · exact ⟨y, Or.inl q, yq.rf⟩
    · exact ⟨y, Or.inr ⟨r', s', ot', c', k', w', b2, Or.inl zz, h', hs, e1, e2, e3⟩, yq.rf⟩
    · exact ⟨y, Or.inr ⟨r, s, ot, c, k, w, b, Or.inr ⟨rfl, rfl, rfl, fun _ _ => rfl⟩, h, q1, q2, q3, q4⟩, yq.rf⟩
  · rcases hy with q | ⟨r', s', ot', c', k', w', b2, zz, h', hs, e1, e2, e3⟩
    · exact ⟨y, (hA _ _ _).mpr (Or.inl (Or.inl q)), yq.rf⟩
    · rcases zz with zz | ⟨f1, f2, f3, f4⟩
      · exact ⟨y, (hA _ _ _).mpr (Or.inl (Or.inr ⟨r', s', ot', c', k', w', b2, zz, h', hs, e1, e2, e3⟩)), yq.rf⟩
      · subst f1; subst f2; subst f3
        obtain ⟨ek, p, hp, ep⟩ := ev_uniq ok z h (h'.c ok z.1 f4)
        subst ek
        have yy := padY_yq hk.2.2 hp (fun i hi => (ep i hi).1)
        exact ⟨padY k w, (hA _ _ _).mpr (Or.inr ⟨fun y' => hs (y'.yq yy), e1, e2, rfl⟩), by rw [e3]; exact yy.sy⟩
/-- an event that yields nothing -/
theorem RunZ.skip {g : Wk} {rc r s u rn : Nat} {ot : Option Nat} {c nu U : Nat → Nat} {A0 : Nat → Nat → (Nat → Nat) → Prop} {Z : Zt} {R : Nat → Nat → Nat} (ok : WkOk g rc) (z : ZOk g rc r s ot c) (h : EvB g r s ot c) (hR : RunZ g A0 nu Z u U rn R) : RunZ g A0 nu (Zadd g Z r s ot c) u U rn R := by
  refine Run.same hR (fun v => ?_) (fun a b' y hy => ⟨y, ?_, yq.rf⟩) (fun a b' y hy => ⟨y, ?_, yq.rf⟩)
  · constructor
    · rintro (q | ⟨r', s', ot', c', k', w', b', i, zz, h', hi, e⟩)
      · exact Or.inl q
      · rcases zz with zz | ⟨e1, e2, e3, e4⟩
        · exact Or.inr ⟨r', s', ot', c', k', w', b', i, zz, h', hi, e⟩
        · subst e1; subst e2; subst e3
          exact absurd h (ev_not ok z (h'.c ok z.1 e4))
    · rintro (q | ⟨r', s', ot', c', k', w', b', i, zz, h', hi, e⟩)
      · exact Or.inl q
      · exact Or.inr ⟨r', s', ot', c', k', w', b', i, Or.inl zz, h', hi, e⟩
  · rcases hy with q | ⟨r', s', ot', c', k', w', b2, zz, h', hs, e1, e2, e3⟩
    · exact Or.inl q
    · exact Or.inr ⟨r', s', ot', c', k', w', b2, Or.inl zz, h', hs, e1, e2, e3⟩
  · rcases hy with q | ⟨r', s', ot', c', k', w', b2, zz, h', hs, e1, e2, e3⟩
    · exact Or.inl q
    · rcases zz with zz | ⟨f1, f2, f3, f4⟩
      · exact Or.inr ⟨r', s', ot', c', k', w', b2, zz, h', hs, e1, e2, e3⟩
      · subst f1; subst f2; subst f3
        exact absurd h (ev_not ok z (h'.c ok z.1 f4))
theorem EvW.mono {g : Wk} {Z Z' : Zt} {v : Nat} (hz : ∀ r s ot c, Z r s ot c → Z' r s ot c) (h : EvW g Z v) : EvW g Z' v := by
  rcases h with q | ⟨r', s', ot', c', k', w', b', i, zz, h', hi, e⟩
  · exact Or.inl q
  · exact Or.inr ⟨r', s', ot', c', k', w', b', i, hz _ _ _ _ zz, h', hi, e⟩
theorem EvA.mono {g : Wk} {A0 : Nat → Nat → (Nat → Nat) → Prop} {Z Z' : Zt} {a b : Nat} {y : Nat → Nat} (hz : ∀ r s ot c, Z r s ot c → Z' r s ot c) (h : EvA g A0 Z a b y) : EvA g A0 Z' a b y := by
  rcases h with q | ⟨r', s', ot', c', k', w', b2, zz, h', hs, e1, e2, e3⟩
  · exact Or.inl q
  · exact Or.inr ⟨r', s', ot', c', k', w', b2, hz _ _ _ _ zz, h', hs, e1, e2, e3⟩
theorem RunZ.congr {g : Wk} {u rn : Nat} {nu U : Nat → Nat} {A0 : Nat → Nat → (Nat → Nat) → Prop} {Z Z' : Zt} {R : Nat → Nat → Nat} (hR : RunZ g A0 nu Z u U rn R) (h1 : ∀ r s ot c, Z r s ot c → Z' r s ot c) (h2 : ∀ r s ot c, Z' r s ot c → Z r s ot c) : RunZ g A0 nu Z' u U rn R :=
  Run.same hR (fun _ => ⟨EvW.mono h2, EvW.mono h1⟩) (fun _ _ y hy => ⟨y, EvA.mono h1 hy, yq.rf⟩) (fun _ _ y hy => ⟨y, EvA.mono h2 hy, yq.rf⟩)
/-- the table or the list can't hold what comes of Z -/
def Fail (g : Wk) (A0 : Nat → Nat → (Nat → Nat) → Prop) (Z : Zt) : Prop := ∃ (nu : Nat → Nat) (u : Nat) (U : Nat → Nat) (rn : Nat) (R : Nat → Nat → Nat) (Ws : Nat → Prop) (A : Nat → Nat → (Nat → Nat) → Prop), NuOk g.n0 nu ∧ Run g.n0 g.W nu Ws A u U rn R ∧ (∀ v, Ws v → EvW g Z v) ∧ (∀ a b y, A a b y → ∃ y', EvA g A0 Z a b y' ∧ yq y y') ∧ ((12 ≤ u ∧ ∃ w, EvW g Z w ∧ ∀ i, i < u → U i ≠ w) ∨ (40 ≤ rn ∧ ∃ t a b y, den nu u U t a b y ∧ (∃ y', EvA g A0 Z a b y' ∧ yq y y') ∧ ∀ i, i < rn → ¬ eq5 (R i) t))
theorem Fail.mono {g : Wk} {A0 : Nat → Nat → (Nat → Nat) → Prop} {Z Z' : Zt} (h : Fail g A0 Z) (hz : ∀ r s ot c, Z r s ot c → Z' r s ot c) : Fail g A0 Z' := by
  obtain ⟨nu, u, U, rn, R, Ws, A, h0, h1, h2, h3, h4⟩ := h
  refine ⟨nu, u, U, rn, R, Ws, A, h0, h1, fun v hv => (h2 v hv).mono hz, fun a b y hy => ?_, ?_⟩
  · obtain ⟨y', q1, q2⟩ := h3 a b y hy
    exact ⟨y', q1.mono hz, q2⟩
  · rcases h4 with ⟨q1, w, q2, q3⟩ | ⟨q1, t, a, b, y, q2, ⟨y', q3, q4⟩, q5⟩
    · exact Or.inl ⟨q1, w, q2.mono hz, q3⟩
    · exact Or.inr ⟨q1, t, a, b, y, q2, ⟨y', q3.mono hz, q4⟩, q5⟩
theorem Fail.not {g : Wk} {u rn : Nat} {nu U : Nat → Nat} {A0 : Nat → Nat → (Nat → Nat) → Prop} {Z : Zt} {R : Nat → Nat → Nat} (h : Fail g A0 Z) (hn : NuOk g.n0 nu) (hR : RunZ g A0 nu Z u U rn R) (hu : u ≤ 12) (hr : rn ≤ 40) : False := by
  obtain ⟨nu', u', U', rn', R', Ws, A, h0, h1, h2, h3, h4⟩ := h
  rcases h4 with ⟨q1, w, q2, q3⟩ | ⟨q1, t, a, b, y, q2, q3, q5⟩
  · have := Run.roomW hR h1 h2 q2 q3
    omega
  · have := Run.roomR hn h0 hR h1 h3 q3 q2 q5
    omega
/-- rewriting and rewriting back -/
theorem rwO_back {P : Nat} {c X Y : Nat → Nat} {od : Nat → Nat → Nat} (hP : P = 2 ∨ P = 3) (hs : ∀ i j, od i j = od j i) (hX : ∀ i j, i < j → j < P → od (c i) (c j) = X (i + j - 1)) : ∀ i j, rwO P c X (rwO P c Y od) i j = od i j := by
  intro i j
  have hit : ∀ p q, p < q → q < P → ((i = c p ∧ j = c q) ∨ (i = c q ∧ j = c p)) → X (p + q - 1) = od i j := by
    intro p q hpq hq z
    rcases z with ⟨z1, z2⟩ | ⟨z1, z2⟩
    · rw [z1, z2, hX p q hpq hq]
    · rw [z1, z2, hs, hX p q hpq hq]
  unfold rwO
  rcases hP with z | z
  · subst z
    rw [if_pos rfl, if_pos rfl]
    unfold oset
    by_cases y : (i = c 0 ∧ j = c 1) ∨ (i = c 1 ∧ j = c 0)
    · rw [if_pos y]; exact hit 0 1 (by omega) (by omega) y
    · rw [if_neg y, if_neg y]
  · subst z
    rw [if_neg (by omega), if_neg (by omega)]
    unfold oset
    by_cases y2 : (i = c 1 ∧ j = c 2) ∨ (i = c 2 ∧ j = c 1)
    · rw [if_pos y2]; exact hit 1 2 (by omega) (by omega) y2
    · rw [if_neg y2]
      by_cases y1 : (i = c 0 ∧ j = c 2) ∨ (i = c 2 ∧ j = c 0)
      · rw [if_pos y1]; exact hit 0 2 (by omega) (by omega) y1
      · rw [if_neg y1]
        by_cases y0 : (i = c 0 ∧ j = c 1) ∨ (i = c 1 ∧ j = c 0)
        · rw [if_pos y0]; exact hit 0 1 (by omega) (by omega) y0
        · rw [if_neg y0, if_neg y2, if_neg y1, if_neg y0]
