theorem wo_c2 {o1 o2 : Nat → Nat → Nat} {u1 u2 : Nat → Nat} {a1 a2 acc : Nat} : ∀ {k : Nat}, (∀ q, q < k → o1 (u1 q) a1 = o2 (u2 q) a2) → wo o1 u1 a1 acc k = wo o2 u2 a2 acc k ∧ wo8 o1 u1 a1 acc k = wo8 o2 u2 a2 acc k
  | 0, _ => ⟨rfl, rfl⟩
  | k + 1, h => by
    obtain ⟨e1, e2⟩ := wo_c2 (o1 := o1) (o2 := o2) (u1 := u1) (u2 := u2) (a1 := a1) (a2 := a2) (acc := acc) (k := k) (fun q hq => h q (by omega))
    have := h k (by omega)
    constructor
    · show wo o1 u1 a1 acc k * 4 + o1 (u1 k) a1 = wo o2 u2 a2 acc k * 4 + o2 (u2 k) a2
      rw [e1, this]
    · show wo8 o1 u1 a1 acc k * 8 + o1 (u1 k) a1 = wo8 o2 u2 a2 acc k * 8 + o2 (u2 k) a2
      rw [e2, this]
theorem WC_eq {c1 c2 p1 p2 : Nat → Nat} {o1 o2 : Nat → Nat → Nat} {cnt : Nat} (hc : ∀ q, q < cnt → c1 (p1 q) = c2 (p2 q)) (ho : ∀ i j, i < j → j < cnt → o1 (p1 i) (p1 j) = o2 (p2 i) (p2 j)) : WC c1 o1 p1 cnt = WC c2 o2 p2 cnt ∧ WM c1 o1 p1 cnt = WM c2 o2 p2 cnt := by
  have ev : ∀ p, p ≤ cnt → vl o1 p1 id p = vl o2 p2 id p := by
    intro p
    induction p with
    | zero => intro _; rfl
    | succ p ih =>
      intro hp
      show wo o1 p1 (p1 p) (vl o1 p1 id p) p = wo o2 p2 (p2 p) (vl o2 p2 id p) p
      rw [ih (by omega)]
      exact (wo_c2 (fun q hq => ho q p hq (by omega))).1
  have em : ∀ k, k ≤ cnt → mC c1 p1 cnt k = mC c2 p2 cnt k := by
    intro k
    induction k with
    | zero => intro _; rfl
    | succ k ih =>
      intro hk
      show mC c1 p1 cnt k * 8 + c1 (p1 k) = mC c2 p2 cnt k * 8 + c2 (p2 k)
      rw [ih (by omega), hc k (by omega)]
  have e8 : ∀ p, p ≤ cnt → vl8 o1 p1 (mC c1 p1 cnt cnt) p = vl8 o2 p2 (mC c1 p1 cnt cnt) p := by
    intro p
    induction p with
    | zero => intro _; rfl
    | succ p ih =>
      intro hp
      show wo8 o1 p1 (p1 p) (vl8 o1 p1 _ p) p = wo8 o2 p2 (p2 p) (vl8 o2 p2 _ p) p
      rw [ih (by omega)]
      exact (wo_c2 (fun q hq => ho q p hq (by omega))).2
  constructor
  · unfold WC
    rw [ev cnt (by omega), e4_congr (f := fun q => c1 (p1 q)) (g := fun q => c2 (p2 q)) hc]
  · unfold WM
    rw [e8 cnt (by omega), em cnt (by omega)]
/-- an ordering of the first n -/
def Pm (n : Nat) (s : Nat → Nat) : Prop := (∀ q, q < n → s q < n) ∧ ∀ p q, p < n → q < n → s p = s q → p = q
theorem Pm.id {n : Nat} : Pm n id := ⟨fun _ h => h, fun _ _ _ _ e => e⟩
theorem Pm.comp {n : Nat} {s t : Nat → Nat} (hs : Pm n s) (ht : Pm n t) : Pm n (fun q => s (t q)) := ⟨fun q hq => hs.1 _ (ht.1 q hq), fun p q hp hq e => ht.2 p q hp hq (hs.2 _ _ (ht.1 p hp) (ht.1 q hq) e)⟩
theorem Pm.inv {n : Nat} {s : Nat → Nat} (h1 : 1 ≤ n) (h5 : n ≤ 5) (hs : Pm n s) : ∃ t, Pm n t ∧ (∀ q, q < n → s (t q) = q) ∧ ∀ q, q < n → t (s q) = q := by
  have h : ∀ r : Nat, ∃ q, r < n → q < n ∧ s q = r := by
    intro r
    by_cases hr : r < n
    · obtain ⟨q, a, b⟩ := inj_surj h1 h5 hs.1 hs.2 hr
      exact ⟨q, fun _ => ⟨a, b⟩⟩
    · exact ⟨0, fun z => absurd z hr⟩
  refine ⟨fun r => Classical.choose (h r), ⟨fun q hq => (Classical.choose_spec (h q) hq).1, fun p q hp hq e => ?_⟩, fun q hq => (Classical.choose_spec (h q) hq).2, fun q hq => ?_⟩
  · have a := (Classical.choose_spec (h p) hp).2
    have b := (Classical.choose_spec (h q) hq).2
    have e : Classical.choose (h p) = Classical.choose (h q) := e
    rw [e] at a
    exact a.symm.trans b
  · have a := Classical.choose_spec (h (s q)) (hs.1 q hq)
    exact hs.2 _ _ a.1 hq a.2
theorem sm_congr {f g : Nat → Nat} : ∀ {n : Nat}, (∀ i, i < n → f i = g i) → sm f n = sm g n
  | 0, _ => rfl
  | k + 1, h => by
    show sm f k + f k = sm g k + g k
    rw [sm_congr (fun i hi => h i (by omega)), h k (by omega)]
theorem sm_zero {f : Nat → Nat} {k0 : Nat} : ∀ {n : Nat}, k0 < n → sm (fun j => if j = k0 then 0 else f j) n + f k0 = sm f n
  | 0, h => by omega
  | k + 1, h => by
    show sm (fun j => if j = k0 then 0 else f j) k + (if k = k0 then 0 else f k) + f k0 = sm f k + f k
    by_cases z : k = k0
    · rw [if_pos z, z, sm_congr (g := f) (fun i hi => if_neg (by omega))]
      omega
    · rw [if_neg z]
      have := sm_zero (f := f) (k0 := k0) (n := k) (by omega)
      omega
theorem sm_inj {n : Nat} {at_ : Nat → Nat} : ∀ {c : Nat} {f : Nat → Nat}, (∀ q, q < c → at_ q < n) → (∀ p q, p < c → q < c → at_ p = at_ q → p = q) → sm (fun j => f (at_ j)) c ≤ sm f n
  | 0, f, _, _ => Nat.zero_le _
  | c + 1, f, h1, h2 => by
    have ih := sm_inj (n := n) (at_ := at_) (c := c) (f := fun j => if j = at_ c then 0 else f j) (fun q hq => h1 q (by omega)) (fun p q hp hq => h2 p q (by omega) (by omega))
    have z := sm_zero (f := f) (h1 c (by omega))
    show sm (fun j => f (at_ j)) c + f (at_ c) ≤ sm f n
    have e : sm (fun j => (fun j => if j = at_ c then 0 else f j) (at_ j)) c = sm (fun j => f (at_ j)) c := sm_congr (fun i hi => if_neg (fun q => by have := h2 i c (by omega) (by omega) q; omega))
    rw [e] at ih
    omega
theorem sm_perm {n : Nat} {f s : Nat → Nat} (h1 : 1 ≤ n) (h5 : n ≤ 5) (hs : Pm n s) : sm (fun j => f (s j)) n = sm f n := by
  obtain ⟨t, ht, e1, e2⟩ := hs.inv h1 h5
  have a := sm_inj (f := f) hs.1 hs.2
  have b := sm_inj (f := fun j => f (s j)) ht.1 ht.2
  have e : sm (fun j => f (s (t j))) n = sm f n := sm_congr (fun i hi => by show f (s (t i)) = f i; rw [e1 i hi])
  have b : sm (fun j => f (s (t j))) n ≤ sm (fun j => f (s j)) n := b
  omega
/-- all atoms hang together -/
def Cnx (n : Nat) (o : Nat → Nat → Nat) : Prop := ∀ S : Nat → Prop, (∀ i j, i < n → j < n → S i → o i j ≠ 0 → S j) → ∀ i j, i < n → j < n → S i → S j
theorem cnx_tree {n : Nat} {o : Nat → Nat → Nat} (hs : ∀ i j, i < n → j < n → o i j = o j i) (ht : ∀ i, 0 < i → i < n → ∃ j, j < i ∧ o i j ≠ 0) : Cnx n o := by
  intro S hS i j hi hj si
  have down : ∀ k i, i ≤ k → i < n → S i → S 0 := by
    intro k
    induction k with
    | zero => intro i h _ s; rw [show i = 0 by omega] at s; exact s
    | succ k ih =>
      intro i h hn s
      by_cases z : i = 0
      · rw [z] at s; exact s
      · obtain ⟨j, hj, ho⟩ := ht i (by omega) hn
        exact ih j (by omega) (by omega) (hS i j hn (by omega) s ho)
  have up : ∀ k i, i ≤ k → i < n → S 0 → S i := by
    intro k
    induction k with
    | zero => intro i h _ s; rw [show i = 0 by omega]; exact s
    | succ k ih =>
      intro i h hn s
      by_cases z : i = 0
      · rw [z]; exact s
      · obtain ⟨j, hj, ho⟩ := ht i (by omega) hn
        exact hS j i (by omega) hn (ih j (by omega) (by omega) s) (by rw [hs j i (by omega) hn]; exact ho)
  exact up j j (Nat.le_refl _) hj (down i i (Nat.le_refl _) hi si)
theorem Cnx.perm {n : Nat} {o : Nat → Nat → Nat} {s : Nat → Nat} (h1 : 1 ≤ n) (h5 : n ≤ 5) (h : Cnx n o) (hs : Pm n s) : Cnx n (fun i j => o (s i) (s j)) := by
  intro S hS i j hi hj si
  obtain ⟨t, ht, e1, e2⟩ := hs.inv h1 h5
  have := h (fun k => S (t k)) (fun a b ha hb sa hab => hS (t a) (t b) (ht.1 a ha) (ht.1 b hb) sa (by show o (s (t a)) (s (t b)) ≠ 0; rw [e1 a ha, e1 b hb]; exact hab)) (s i) (s j) (hs.1 i hi) (hs.1 j hj) (by rw [e2 i hi]; exact si)
  rw [e2 j hj] at this
  exact this
/-- the least word of the atoms at_, as the class and as the model pack it -/
def IsK (cd : Nat → Nat) (od : Nat → Nat → Nat) (at_ : Nat → Nat) (cnt w b : Nat) : Prop := ∃ s, Pm cnt s ∧ w = WC cd od (fun q => at_ (s q)) cnt ∧ b = WM cd od (fun q => at_ (s q)) cnt ∧ ∀ t, Pm cnt t → w ≤ WC cd od (fun q => at_ (t q)) cnt
theorem IsK.kr {cd at_ : Nat → Nat} {od : Nat → Nat → Nat} {cnt w b : Nat} (h : IsK cd od at_ cnt w b) (h1 : 1 ≤ cnt) (h5 : cnt ≤ 5) (hc : ∀ q, q < cnt → cd (at_ q) < 4) (ho : ∀ i j, i < cnt → j < cnt → od (at_ i) (at_ j) < 4) : KR w b := by
  obtain ⟨s, hs, hw, hb, -⟩ := h
  rw [hw, hb]
  exact KR_of h1 h5 (fun q hq => hc _ (hs.1 q hq)) (fun i j hi hj => ho _ _ (hs.1 i hi) (hs.1 j hj))
theorem IsK.uniq {c1 c2 a1 a2 u : Nat → Nat} {o1 o2 : Nat → Nat → Nat} {cnt w1 w2 b1 b2 : Nat} (h1 : 1 ≤ cnt) (h5 : cnt ≤ 5) (hc : ∀ q, q < cnt → c1 (a1 q) < 4) (ho : ∀ i j, i < cnt → j < cnt → o1 (a1 i) (a1 j) < 4) (hu : Pm cnt u) (ec : ∀ q, q < cnt → c2 (a2 q) = c1 (a1 (u q))) (eo : ∀ p q, p < cnt → q < cnt → o2 (a2 p) (a2 q) = o1 (a1 (u p)) (a1 (u q))) (k1 : IsK c1 o1 a1 cnt w1 b1) (k2 : IsK c2 o2 a2 cnt w2 b2) : w1 = w2 ∧ b1 = b2 := by
  obtain ⟨v, hv, e1, e2⟩ := hu.inv h1 h5
  have q1 := k1.kr h1 h5 hc ho
  have q2 : KR w2 b2 := k2.kr h1 h5 (fun q hq => by rw [ec q hq]; exact hc _ (hu.1 q hq)) (fun i j hi hj => by rw [eo i j hi hj]; exact ho _ _ (hu.1 i hi) (hu.1 j hj))
  obtain ⟨s1, p1, w1e, -, m1⟩ := k1
  obtain ⟨s2, p2, w2e, -, m2⟩ := k2
  have l1 : w1 ≤ w2 := by
    have := m1 (fun q => u (s2 q)) (hu.comp p2)
    rw [w2e]
    rw [(WC_eq (c1 := c1) (c2 := c2) (o1 := o1) (o2 := o2) (p1 := fun q => a1 (u (s2 q))) (p2 := fun q => a2 (s2 q)) (cnt := cnt) (fun q hq => (ec _ (p2.1 q hq)).symm) (fun i j hij hj => (eo _ _ (p2.1 i (by omega)) (p2.1 j hj)).symm)).1] at this
    exact this
  have l2 : w2 ≤ w1 := by
    have := m2 (fun q => v (s1 q)) (hv.comp p1)
    rw [w1e]
    rw [(WC_eq (c1 := c2) (c2 := c1) (o1 := o2) (o2 := o1) (p1 := fun q => a2 (v (s1 q))) (p2 := fun q => a1 (s1 q)) (cnt := cnt) (fun q hq => by rw [ec _ (hv.1 _ (p1.1 q hq)), e1 _ (p1.1 q hq)]) (fun i j hij hj => by rw [eo _ _ (hv.1 _ (p1.1 i (by omega))) (hv.1 _ (p1.1 j hj)), e1 _ (p1.1 i (by omega)), e1 _ (p1.1 j hj)])).1] at this
    exact this
  have : w1 = w2 := Nat.le_antisymm l1 l2
  exact ⟨this, (KR_ord q1 q2).2.mp this⟩
/-- the class's search gives the least word -/
theorem IsK_class {cd at_ srt s : Nat → Nat} {od : Nat → Nat → Nat} {cnt : Nat} (h1 : 1 ≤ cnt) (h5 : cnt ≤ 5) (hat : ∀ p q, p < cnt → q < cnt → at_ p = at_ q → p = q) (hcd : ∀ q, q < cnt → cd (at_ q) < 4) (hod : ∀ i j, i < cnt → j < cnt → od (at_ i) (at_ j) < 4) (hs : ∀ p q, p < q → q < cnt → cd (srt p) ≤ cd (srt q)) (hc : ∀ P : Nat → Bool, cn P srt 0 cnt = cn P at_ 0 cnt) (hok : vOk cd srt cnt s cnt) (hmin : ∀ t, vOk cd srt cnt t cnt → vl od srt s cnt ≤ vl od srt t cnt) : ∃ b, IsK cd od at_ cnt (WC cd od (fun q => srt (s q)) cnt) b := by
  obtain ⟨⟨t, t1, t2⟩, mn⟩ := WC_min h1 h5 hat hcd hod hs hc hok hmin
  refine ⟨WM cd od (fun q => at_ (t q)) cnt, t, ⟨fun q hq => (t1 q hq).1, t2⟩, ?_, rfl, fun u hu => mn u hu.1 hu.2⟩
  exact (WC_eq (fun q hq => by rw [(t1 q hq).2]) (fun i j hij hj => by rw [(t1 i (by omega)).2, (t1 j hj).2])).1
/-- the model's search gives the least word -/
theorem IsK_model {cd mem s : Nat → Nat} {od : Nat → Nat → Nat} {cnt : Nat} (h1 : 1 ≤ cnt) (h5 : cnt ≤ 5) (hcd : ∀ q, q < cnt → cd (mem q) < 4) (hod : ∀ i j, i < cnt → j < cnt → od (mem i) (mem j) < 4) (hs : Pm cnt s) (hm : ∀ t : Nat → Nat, (∀ q, q < cnt → t q < cnt) → (∀ p q, p < cnt → q < cnt → t p = t q → p = q) → WM cd od (fun q => mem (s q)) cnt ≤ WM cd od (fun q => mem (t q)) cnt) : IsK cd od mem cnt (WC cd od (fun q => mem (s q)) cnt) (WM cd od (fun q => mem (s q)) cnt) := by
  refine ⟨s, hs, rfl, rfl, fun t ht => ?_⟩
  have k1 : KR (WC cd od (fun q => mem (s q)) cnt) (WM cd od (fun q => mem (s q)) cnt) := KR_of h1 h5 (fun q hq => hcd _ (hs.1 q hq)) (fun i j hi hj => hod _ _ (hs.1 i hi) (hs.1 j hj))
  have k2 : KR (WC cd od (fun q => mem (t q)) cnt) (WM cd od (fun q => mem (t q)) cnt) := KR_of h1 h5 (fun q hq => hcd _ (ht.1 q hq)) (fun i j hi hj => hod _ _ (ht.1 i hi) (ht.1 j hj))
  have := hm t ht.1 ht.2
  have o := (KR_ord k2 k1).1
  omega
/-- what every species is: connected, within the valences, of at most cap atoms, the least of its words -/
def Mol (cap w b : Nat) : Prop := ∃ (n : Nat) (c : Nat → Nat) (o : Nat → Nat → Nat), 1 ≤ n ∧ n ≤ cap ∧ (∀ i, i < n → c i < 4) ∧ (∀ i j, i < n → j < n → o i j < 4 ∧ o i j = o j i) ∧ (∀ i, i < n → o i i = 0) ∧ (∀ i, i < n → sm (o i) n ≤ c i + 1) ∧ Cnx n o ∧ w = WC c o id n ∧ b = WM c o id n ∧ ∀ t, Pm n t → w ≤ WC c o t n
theorem Mol.kr {cap w b : Nat} (h : Mol cap w b) (h5 : cap ≤ 5) : KR w b := by
  obtain ⟨n, c, o, n1, n5, hc, ho, -, -, -, hw, hb, -⟩ := h
  exact ⟨n, c, o, n1, by omega, hc, fun i j hi hj => (ho i j hi hj).1, hw, hb⟩
theorem mol_of {cap cnt w b : Nat} {cd at_ : Nat → Nat} {od : Nat → Nat → Nat} (hcap : cap ≤ 5) (h1 : 1 ≤ cnt) (h5 : cnt ≤ cap) (hc : ∀ q, q < cnt → cd (at_ q) < 4) (ho : ∀ i j, i < cnt → j < cnt → od (at_ i) (at_ j) < 4 ∧ od (at_ i) (at_ j) = od (at_ j) (at_ i)) (hd : ∀ i, i < cnt → od (at_ i) (at_ i) = 0) (hv : ∀ i, i < cnt → sm (fun j => od (at_ i) (at_ j)) cnt ≤ cd (at_ i) + 1) (hx : Cnx cnt (fun i j => od (at_ i) (at_ j))) (k : IsK cd od at_ cnt w b) : Mol cap w b := by
  obtain ⟨s, hs, hw, hb, hm⟩ := k
  refine ⟨cnt, fun q => cd (at_ (s q)), fun i j => od (at_ (s i)) (at_ (s j)), h1, h5, fun i hi => hc _ (hs.1 i hi), fun i j hi hj => ho _ _ (hs.1 i hi) (hs.1 j hj), fun i hi => hd _ (hs.1 i hi), fun i hi => ?_, Cnx.perm (o := fun i j => od (at_ i) (at_ j)) h1 (by omega) hx hs, ?_, ?_, fun t ht => ?_⟩
  · have := hv _ (hs.1 i hi)
    rw [← sm_perm (f := fun j => od (at_ (s i)) (at_ j)) h1 (by omega) hs] at this
    exact this
  · rw [hw]; exact WC_id
  · rw [hb]; exact WM_id
  · have := hm (fun q => s (t q)) (hs.comp ht)
    rw [(WC_eq (c1 := cd) (c2 := fun q => cd (at_ (s q))) (o1 := od) (o2 := fun i j => od (at_ (s i)) (at_ (s j))) (p1 := fun q => at_ (s (t q))) (p2 := t) (cnt := cnt) (fun q hq => rfl) (fun i j hij hj => rfl)).1] at this
    exact this
