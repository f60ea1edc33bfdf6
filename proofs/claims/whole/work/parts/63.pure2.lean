set_option maxRecDepth 100000 in
theorem chain_3 : ∀ n, n < 6 → ∀ k, k < (chainOf n).length → ∀ r, r < n → ((List.range n).any fun q => ((chainOf n).getD k []).getD q 0 == r) = true := by decide +kernel
theorem inj_surj {n : Nat} (h1 : 1 ≤ n) (h5 : n ≤ 5) {s : Nat → Nat} (hs : ∀ q, q < n → s q < n) (hi : ∀ p q, p < n → q < n → s p = s q → p = q) {r : Nat} (hr : r < n) : ∃ q, q < n ∧ s q = r := by
  obtain ⟨k, hk, e⟩ := chain_all h1 h5 hs hi
  obtain ⟨q, hq, z⟩ := List.any_eq_true.mp (chain_3 n (by omega) k hk r hr)
  have hq := List.mem_range.mp hq
  exact ⟨q, hq, by rw [← e q hq]; exact beq_iff_eq.mp z⟩
theorem cn_pos {α : Type} {P : α → Bool} {f : Nat → α} {a i : Nat} (hP : P (f (a + i)) = true) : ∀ {k : Nat}, i < k → 1 ≤ cn P f a k
  | 0, h => absurd h (by omega)
  | k + 1, h => by
    show 1 ≤ cn P f a k + _
    by_cases z : i = k
    · rw [← z, if_pos hP]
      omega
    · have := cn_pos hP (k := k) (by omega)
      omega
theorem cn_two {α : Type} {P : α → Bool} {f : Nat → α} {a i j : Nat} (hij : i < j) (hP : P (f (a + i)) = true) (hQ : P (f (a + j)) = true) : ∀ {k : Nat}, j < k → 2 ≤ cn P f a k
  | 0, h => absurd h (by omega)
  | k + 1, h => by
    show 2 ≤ cn P f a k + _
    by_cases z : j = k
    · rw [← z, if_pos hQ]
      have := cn_pos hP (k := j) hij
      omega
    · have := cn_two hij hP hQ (k := k) (by omega)
      omega
theorem cn_one {α : Type} {P : α → Bool} {f : Nat → α} {a : Nat} : ∀ {k : Nat}, (∀ i j, i < k → j < k → P (f (a + i)) = true → P (f (a + j)) = true → i = j) → cn P f a k ≤ 1
  | 0, _ => Nat.zero_le _
  | k + 1, h => by
    show cn P f a k + _ ≤ 1
    by_cases z : P (f (a + k)) = true
    · rw [if_pos z]
      have : cn P f a k ≤ 0 := cn_no (m := 0) (fun i _ hi q => by
        have := h i k (by omega) (by omega) q z
        omega)
      omega
    · rw [if_neg z]
      exact cn_one (fun i j hi hj => h i j (by omega) (by omega))
theorem cn_ex {α : Type} {P : α → Bool} {f : Nat → α} {a : Nat} : ∀ {k : Nat}, 1 ≤ cn P f a k → ∃ i, i < k ∧ P (f (a + i)) = true
  | 0, h => absurd h (by simp [cn])
  | k + 1, h => by
    by_cases z : P (f (a + k)) = true
    · exact ⟨k, by omega, z⟩
    · have h : 1 ≤ cn P f a k + (if P (f (a + k)) = true then 1 else 0) := h
      rw [if_neg z] at h
      obtain ⟨i, hi, q⟩ := cn_ex (k := k) h
      exact ⟨i, by omega, q⟩
/-- a row with the same counts as one without repetition is a reordering of it -/
theorem perm_of_cn {f g : Nat → Nat} {k : Nat} (hg : ∀ p q, p < k → q < k → g p = g q → p = q) (hc : ∀ P : Nat → Bool, cn P f 0 k = cn P g 0 k) : ∃ t : Nat → Nat, (∀ q, q < k → t q < k ∧ f q = g (t q)) ∧ ∀ p q, p < k → q < k → t p = t q → p = q := by
  have hex : ∀ q, ∃ r, q < k → r < k ∧ f q = g r := by
    intro q
    by_cases hq : q < k
    · have h1 : 1 ≤ cn (fun x => decide (x = f q)) f 0 k := cn_pos (i := q) (by simp) hq
      rw [hc] at h1
      obtain ⟨r, hr, z⟩ := cn_ex h1
      refine ⟨r, fun _ => ⟨hr, ?_⟩⟩
      have := of_decide_eq_true z
      rw [Nat.zero_add] at this
      exact this.symm
    · exact ⟨0, fun h => absurd h hq⟩
  refine ⟨fun q => Classical.choose (hex q), fun q hq => Classical.choose_spec (hex q) hq, fun p q hp hq e => ?_⟩
  have ep := (Classical.choose_spec (hex p) hp).2
  have eq := (Classical.choose_spec (hex q) hq).2
  have e : Classical.choose (hex p) = Classical.choose (hex q) := e
  have hfe : f p = f q := by rw [ep, eq, e]
  refine Classical.byContradiction fun hne => ?_
  have h2 : ∀ p q, p < q → q < k → f p = f q → False := by
    intro p q hpq hqk hf
    have a1 : 2 ≤ cn (fun x => decide (x = f q)) f 0 k := cn_two (i := p) (j := q) hpq (by simp [hf]) (by simp) hqk
    rw [hc] at a1
    have a2 : cn (fun x => decide (x = f q)) g 0 k ≤ 1 := cn_one (fun i j hi hj q1 q2 => hg i j hi hj (by
      have q1 := of_decide_eq_true q1
      have q2 := of_decide_eq_true q2
      rw [Nat.zero_add] at q1 q2
      rw [q1, q2]))
    omega
  have : p < q ∨ q < p := by omega
  rcases this with z | z
  · exact h2 p q z hq hfe
  · exact h2 q p z hp hfe.symm
theorem e4_inj {f g : Nat → Nat} {n : Nat} : (∀ q, q < n → f q < 4) → (∀ q, q < n → g q < 4) → e4 f n = e4 g n → ∀ q, q < n → f q = g q := by
  induction n with
  | zero => intro _ _ _ q hq; omega
  | succ n ih =>
    intro a b c q hq
    have c : e4 f n * 4 + f n = e4 g n * 4 + g n := c
    have a1 := a n (by omega)
    have b1 := b n (by omega)
    by_cases qn : q = n
    · rw [qn]; omega
    · exact ih (fun q hq => a q (by omega)) (fun q hq => b q (by omega)) (by omega) q (by omega)
theorem e4_ex {f g : Nat → Nat} : ∀ {k : Nat}, (∀ q, q < k → f q < 4) → (∀ q, q < k → g q < 4) → e4 f k < e4 g k → ∃ p, p < k ∧ (∀ q, q < p → f q = g q) ∧ f p < g p
  | 0, _, _, h => absurd h (by simp [e4])
  | k + 1, hf, hg, h => by
    have h : e4 f k * 4 + f k < e4 g k * 4 + g k := h
    have h1 := hf k (by omega)
    have h2 := hg k (by omega)
    by_cases z : e4 f k < e4 g k
    · obtain ⟨p, a, b, c⟩ := e4_ex (fun q hq => hf q (by omega)) (fun q hq => hg q (by omega)) z
      exact ⟨p, by omega, b, c⟩
    · by_cases z2 : e4 g k < e4 f k
      · omega
      · have e : e4 f k = e4 g k := by omega
        exact ⟨k, by omega, e4_inj (fun q hq => hf q (by omega)) (fun q hq => hg q (by omega)) e, by omega⟩
/-- the sorted row of digits is the least -/
theorem e4_sorted {u v : Nat → Nat} {k : Nat} (hu : ∀ q, q < k → u q < 4) (hv : ∀ q, q < k → v q < 4) (hs : ∀ p q, p < q → q < k → u p ≤ u q) (hc : ∀ P : Nat → Bool, cn P u 0 k = cn P v 0 k) : e4 u k ≤ e4 v k := by
  refine Nat.not_lt.mp (fun hlt => ?_)
  obtain ⟨p, hp, heq, hpl⟩ := e4_ex hv hu hlt
  have h1 : cn (fun x => decide (x ≤ v p)) u 0 k ≤ cn (fun x => decide (x ≤ v p)) u 0 p := by
    have gen : ∀ j, p + j ≤ k → cn (fun x => decide (x ≤ v p)) u 0 (p + j) ≤ cn (fun x => decide (x ≤ v p)) u 0 p := by
      intro j
      induction j with
      | zero => intro _; exact Nat.le_refl _
      | succ j ih =>
        intro hj
        have := ih (by omega)
        show cn _ u 0 (p + j) + _ ≤ _
        rw [if_neg (fun q => by
          have q : u (p + j) ≤ v p := by
            have q := of_decide_eq_true q
            rw [Nat.zero_add] at q
            exact q
          by_cases z : j = 0
          · rw [z, Nat.add_zero] at q; omega
          · have := hs p (p + j) (by omega) (by omega)
            omega)]
        omega
    have := gen (k - p) (by omega)
    rwa [show p + (k - p) = k by omega] at this
  have h2 : cn (fun x => decide (x ≤ v p)) v 0 (p + 1) ≤ cn (fun x => decide (x ≤ v p)) v 0 k := by
    have := cn_split (P := fun x => decide (x ≤ v p)) (f := v) (a := 0) (m := p + 1) (k := k - (p + 1))
    rwa [show p + 1 + (k - (p + 1)) = k by omega] at this
  have h3 : cn (fun x => decide (x ≤ v p)) v 0 (p + 1) = cn (fun x => decide (x ≤ v p)) v 0 p + 1 := by
    show cn _ v 0 p + _ = _
    rw [if_pos (by simp)]
  have h4 : cn (fun x => decide (x ≤ v p)) u 0 p = cn (fun x => decide (x ≤ v p)) v 0 p := cn_congr (fun i hi => by rw [Nat.zero_add]; exact (heq i hi).symm)
  have := hc (fun x => decide (x ≤ v p))
  omega
theorem cn_map {f g : Nat → Nat} {c : Nat → Nat} {P : Nat → Bool} : ∀ {k : Nat}, cn P (fun q => c (f q)) 0 k = cn (fun x => P (c x)) f 0 k
  | 0 => rfl
  | k + 1 => by
    show cn P (fun q => c (f q)) 0 k + _ = cn (fun x => P (c x)) f 0 k + _
    rw [cn_map (g := g)]
/-- what the class finds is the least of all orderings -/
theorem WC_min {cd at_ srt s : Nat → Nat} {od : Nat → Nat → Nat} {cnt : Nat} (h1 : 1 ≤ cnt) (h5 : cnt ≤ 5) (hat : ∀ p q, p < cnt → q < cnt → at_ p = at_ q → p = q) (hcd : ∀ q, q < cnt → cd (at_ q) < 4) (hod : ∀ i j, i < cnt → j < cnt → od (at_ i) (at_ j) < 4) (hs : ∀ p q, p < q → q < cnt → cd (srt p) ≤ cd (srt q)) (hc : ∀ P : Nat → Bool, cn P srt 0 cnt = cn P at_ 0 cnt) (hok : vOk cd srt cnt s cnt) (hmin : ∀ t, vOk cd srt cnt t cnt → vl od srt s cnt ≤ vl od srt t cnt) :
    (∃ t : Nat → Nat, (∀ q, q < cnt → t q < cnt ∧ srt (s q) = at_ (t q)) ∧ ∀ p q, p < cnt → q < cnt → t p = t q → p = q) ∧ ∀ t : Nat → Nat, (∀ q, q < cnt → t q < cnt) → (∀ p q, p < cnt → q < cnt → t p = t q → p = q) → WC cd od (fun q => srt (s q)) cnt ≤ WC cd od (fun q => at_ (t q)) cnt := by
  obtain ⟨r, r1, r2⟩ := perm_of_cn hat hc
  have hsi : ∀ p q, p < cnt → q < cnt → srt p = srt q → p = q := fun p q hp hq e => r2 p q hp hq (hat _ _ (r1 p hp).1 (r1 q hq).1 (by rw [← (r1 p hp).2, ← (r1 q hq).2, e]))
  refine ⟨⟨fun q => r (s q), fun q hq => ⟨(r1 _ (hok.1 q hq).1).1, (r1 _ (hok.1 q hq).1).2⟩, fun p q hp hq e => hok.2 p q hp hq (r2 _ _ (hok.1 p hp).1 (hok.1 q hq).1 e)⟩, fun t t1 t2 => ?_⟩
  -- t as places of the sorted row
  have hex : ∀ q, ∃ k, q < cnt → k < cnt ∧ srt k = at_ (t q) := by
    intro q
    by_cases hq : q < cnt
    · obtain ⟨k, hk, e⟩ := inj_surj h1 h5 (fun q hq => (r1 q hq).1) r2 (t1 q hq)
      exact ⟨k, fun _ => ⟨hk, by rw [(r1 k hk).2, e]⟩⟩
    · exact ⟨0, fun h => absurd h hq⟩
  obtain ⟨sg, sg1⟩ : ∃ sg : Nat → Nat, ∀ q, q < cnt → sg q < cnt ∧ srt (sg q) = at_ (t q) := ⟨fun q => Classical.choose (hex q), fun q hq => Classical.choose_spec (hex q) hq⟩
  have sg2 : ∀ p q, p < cnt → q < cnt → sg p = sg q → p = q := fun p q hp hq e => t2 p q hp hq (hat _ _ (t1 p hp) (t1 q hq) (by rw [← (sg1 p hp).2, ← (sg1 q hq).2, e]))
  have hu : ∀ q, q < cnt → cd (srt q) < 4 := fun q hq => by rw [(r1 q hq).2]; exact hcd _ (r1 q hq).1
  have hv : ∀ q, q < cnt → cd (at_ (t q)) < 4 := fun q hq => hcd _ (t1 q hq)
  have hos : ∀ i j, i < cnt → j < cnt → od (srt i) (srt j) < 4 := fun i j hi hj => by rw [(r1 i hi).2, (r1 j hj).2]; exact hod _ _ (r1 i hi).1 (r1 j hj).1
  have hct : ∀ P : Nat → Bool, cn P (fun q => cd (srt q)) 0 cnt = cn P (fun q => cd (at_ (t q))) 0 cnt := by
    intro P
    rw [cn_map (g := id), cn_map (g := id) (f := fun q => at_ (t q)), hc]
    have key : ∀ R : Nat → Bool, cn R at_ 0 cnt ≤ cn R (fun q => at_ (t q)) 0 cnt := by
      intro R
      have := hit_le (cnt := cnt) (t := t) cnt (fun k => R (at_ k)) (fun k hk _ => inj_surj h1 h5 t1 t2 hk)
      rw [← cn_map (g := id) (f := id) (c := at_) (P := R), ← cn_map (g := id) (f := t) (c := at_) (P := R)] at this
      exact this
    have a1 := key (fun x => P (cd x))
    have a2 := key (fun x => !P (cd x))
    have comp : ∀ (R : Nat → Bool) (f : Nat → Nat) (k : Nat), cn R f 0 k + cn (fun x => !R x) f 0 k = k := by
      intro R f k
      induction k with
      | zero => rfl
      | succ k ih =>
        show cn R f 0 k + (if R (f (0 + k)) = true then 1 else 0) + (cn (fun x => !R x) f 0 k + (if (!R (f (0 + k))) = true then 1 else 0)) = k + 1
        cases R (f (0 + k)) <;> simp <;> omega
    have b1 := comp (fun x => P (cd x)) at_ cnt
    have b2 := comp (fun x => P (cd x)) (fun q => at_ (t q)) cnt
    omega
  have hle := e4_sorted hu hv hs hct
  rw [WC_comp (fun p hp => (hok.1 p hp).2)]
  show _ ≤ cnt * 1073741824 + e4 (fun q => cd (at_ (t q))) cnt * 1048576 + vl od (fun q => at_ (t q)) id cnt
  have hvl : vl od (fun q => at_ (t q)) id cnt = vl od srt sg cnt := by
    rw [← vl_comp (srt := srt) (s := sg)]
    have gen : ∀ p, p ≤ cnt → vl od (fun q => at_ (t q)) id p = vl od (fun q => srt (sg q)) id p := by
      intro p
      induction p with
      | zero => intro _; rfl
      | succ p ih =>
        intro hp
        show wo od (fun k => at_ (t k)) (at_ (t p)) (vl od (fun q => at_ (t q)) id p) p = wo od (fun k => srt (sg k)) (srt (sg p)) (vl od (fun q => srt (sg q)) id p) p
        rw [ih (by omega), ← (sg1 p (by omega)).2]
        exact wo_congr (fun q hq => (sg1 q (by omega)).2.symm)
    exact gen cnt (Nat.le_refl _)
  have hb := vl_lt (sg := s) h5 hos (p := cnt) (Nat.le_refl _) (fun q hq => (hok.1 q hq).1)
  have hb2 := tri_le h5
  by_cases z : e4 (fun q => cd (srt q)) cnt = e4 (fun q => cd (at_ (t q))) cnt
  · have hpt := e4_inj hu hv z
    have hv2 := hmin sg ⟨fun p hp => ⟨(sg1 p hp).1, by rw [(sg1 p hp).2]; exact (hpt p hp).symm⟩, sg2⟩
    rw [hvl, z]
    omega
  · omega
