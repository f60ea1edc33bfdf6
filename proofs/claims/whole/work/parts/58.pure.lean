theorem cn_mono {α : Type} {P R : α → Bool} {f : Nat → α} {a : Nat} : ∀ {k : Nat}, (∀ i, i < k → P (f (a + i)) = true → R (f (a + i)) = true) → cn P f a k ≤ cn R f a k
  | 0, _ => Nat.le_refl _
  | k + 1, h => by
    have ih := cn_mono (P := P) (R := R) (f := f) (a := a) (k := k) (fun i hi => h i (by omega))
    show cn P f a k + _ ≤ cn R f a k + _
    by_cases q : P (f (a + k)) = true
    · rw [if_pos q, if_pos (h k (by omega) q)]
      omega
    · rw [if_neg q]
      omega
/-- a point less -/
theorem cn_less {P : Nat → Bool} {k0 : Nat} : ∀ {k : Nat}, cn P id 0 k ≤ cn (fun x => P x && decide (x ≠ k0)) id 0 k + 1
  | 0 => by simp [cn]
  | k + 1 => by
    by_cases z : k = k0
    · have e1 : cn P id 0 k ≤ cn (fun x => P x && decide (x ≠ k0)) id 0 k := cn_mono (fun i hi q => by
        have q : P i = true := by simpa using q
        simp [q]
        omega)
      show cn P id 0 k + _ ≤ cn _ id 0 k + _ + 1
      split <;> omega
    · have ih := cn_less (P := P) (k0 := k0) (k := k)
      show cn P id 0 k + (if P (id (0 + k)) = true then 1 else 0) ≤ cn _ id 0 k + (if (P (id (0 + k)) && decide (id (0 + k) ≠ k0)) = true then 1 else 0) + 1
      have e2 : (P (id (0 + k)) && decide (id (0 + k) ≠ k0)) = P (id (0 + k)) := by simp [z]
      rw [e2]
      omega
/-- what is hit by m values is no more than m of them -/
theorem hit_le {t : Nat → Nat} {cnt : Nat} : ∀ (m : Nat) (P : Nat → Bool), (∀ k, k < cnt → P k = true → ∃ p, p < m ∧ t p = k) → cn P id 0 cnt ≤ cn P t 0 m
  | 0, P, h => by
    refine Nat.le_trans (cn_no (m := 0) (fun i _ hi q => ?_)) (Nat.zero_le _)
    obtain ⟨p, hp, _⟩ := h i hi (by simpa using q)
    omega
  | m + 1, P, h => by
    show _ ≤ cn P t 0 m + (if P (t (0 + m)) = true then 1 else 0)
    rw [Nat.zero_add]
    by_cases q : P (t m) = true
    · rw [if_pos q]
      have h1 := hit_le (cnt := cnt) (t := t) m (fun x => P x && decide (x ≠ t m)) (fun k hk hP => by
        simp at hP
        obtain ⟨p, hp, e⟩ := h k hk hP.1
        refine ⟨p, ?_, e⟩
        by_cases z : p = m
        · rw [z] at e
          exact absurd e.symm hP.2
        · omega)
      have h2 : cn (fun x => P x && decide (x ≠ t m)) t 0 m ≤ cn P t 0 m := cn_mono (fun i hi z => by simp at z; simpa using z.1)
      have h3 := cn_less (P := P) (k0 := t m) (k := cnt)
      omega
    · rw [if_neg q]
      exact hit_le (cnt := cnt) (t := t) m P (fun k hk hP => by
        obtain ⟨p, hp, e⟩ := h k hk hP
        refine ⟨p, ?_, e⟩
        by_cases z : p = m
        · rw [z] at e
          rw [e] at q
          exact absurd hP q
        · omega)
theorem cn_split {α : Type} {P : α → Bool} {f : Nat → α} {a m : Nat} : ∀ {k : Nat}, cn P f a m ≤ cn P f a (m + k)
  | 0 => Nat.le_refl _
  | k + 1 => Nat.le_trans (cn_split (k := k)) (Nat.le_add_right _ _)
/-- a choice can be gone on with -/
theorem vOk.ext1 {cd srt : Nat → Nat} {cnt m : Nat} {t : Nat → Nat} (h : vOk cd srt cnt t m) (hm : m < cnt) : ∃ k, vOk cd srt cnt (fun q => if q = m then k else t q) (m + 1) := by
  have key : ∃ k, k < cnt ∧ cd (srt k) = cd (srt m) ∧ ∀ p, p < m → t p ≠ k := by
    refine Classical.byContradiction fun hno => ?_
    have hall : ∀ k, k < cnt → (decide (cd (srt k) = cd (srt m))) = true → ∃ p, p < m ∧ t p = k := by
      intro k hk hc
      refine Classical.byContradiction fun hz => hno ⟨k, hk, of_decide_eq_true hc, fun p hp e => hz ⟨p, hp, e⟩⟩
    have h1 := hit_le (cnt := cnt) (t := t) m (fun k => decide (cd (srt k) = cd (srt m))) hall
    have h2 : cn (fun k => decide (cd (srt k) = cd (srt m))) t 0 m ≤ cn (fun k => decide (cd (srt k) = cd (srt m))) id 0 m := by
      have gen : ∀ j, j ≤ m → cn (fun k => decide (cd (srt k) = cd (srt m))) t 0 j ≤ cn (fun k => decide (cd (srt k) = cd (srt m))) id 0 j := by
        intro j
        induction j with
        | zero => intro _; exact Nat.le_refl _
        | succ j ihj =>
          intro hj
          have := ihj (by omega)
          show cn _ t 0 j + _ ≤ cn _ id 0 j + _
          have e := (h.1 j (by omega)).2
          simp only [Nat.zero_add, id, e]
          omega
      exact gen m (Nat.le_refl m)
    have h3 : cn (fun k => decide (cd (srt k) = cd (srt m))) id 0 (m + 1) ≤ cn (fun k => decide (cd (srt k) = cd (srt m))) id 0 cnt := by
      have := cn_split (P := fun k => decide (cd (srt k) = cd (srt m))) (f := id) (a := 0) (m := m + 1) (k := cnt - (m + 1))
      rwa [show m + 1 + (cnt - (m + 1)) = cnt by omega] at this
    have h4 : cn (fun k => decide (cd (srt k) = cd (srt m))) id 0 (m + 1) = cn (fun k => decide (cd (srt k) = cd (srt m))) id 0 m + 1 := by
      show cn _ id 0 m + _ = _
      rw [if_pos (by simp)]
    omega
  obtain ⟨k, hk, hc, hn⟩ := key
  refine ⟨k, fun p hp => ?_, fun p q hp hq z => ?_⟩
  · by_cases e9 : p = m
    · simp only [e9, if_true]
      exact ⟨hk, hc⟩
    · simp only [e9, if_false]
      exact h.1 p (by omega)
  · by_cases p9 : p = m <;> by_cases q9 : q = m
    · omega
    · simp only [p9, q9, if_true, if_false] at z
      exact absurd z.symm (hn q (by omega))
    · simp only [p9, q9, if_true, if_false] at z
      exact absurd z (hn p (by omega))
    · simp only [p9, q9, if_false] at z
      exact h.2 p q (by omega) (by omega) z
theorem vOk.ext {cd srt : Nat → Nat} {cnt : Nat} : ∀ (k m : Nat) (t : Nat → Nat), m + k = cnt → vOk cd srt cnt t m → ∃ t', vOk cd srt cnt t' cnt ∧ ∀ q, q < m → t' q = t q
  | 0, m, t, e, h => ⟨t, (by obtain rfl : m = cnt := (by omega); exact h), fun _ _ => rfl⟩
  | k + 1, m, t, e, h => by
    obtain ⟨x, hx⟩ := h.ext1 (by omega)
    obtain ⟨t', h1, h2⟩ := vOk.ext k (m + 1) _ (by omega) hx
    refine ⟨t', h1, fun q hq => ?_⟩
    rw [h2 q (by omega), if_neg (by omega)]
theorem wo_split {od : Nat → Nat → Nat} {ord : Nat → Nat} {a acc : Nat} : ∀ {k : Nat}, (∀ q, q < k → od (ord q) a < 4) → acc * 4 ^ k ≤ wo od ord a acc k ∧ wo od ord a acc k < (acc + 1) * 4 ^ k
  | 0, _ => by show acc * 1 ≤ acc ∧ acc < (acc + 1) * 1; omega
  | k + 1, h => by
    have ih := wo_split (od := od) (ord := ord) (a := a) (acc := acc) (k := k) (fun q hq => h q (by omega))
    have h2 := h k (by omega)
    show acc * 4 ^ (k + 1) ≤ wo od ord a acc k * 4 + od (ord k) a ∧ wo od ord a acc k * 4 + od (ord k) a < (acc + 1) * 4 ^ (k + 1)
    rw [Nat.pow_succ, ← Nat.mul_assoc, ← Nat.mul_assoc]
    omega
/-- a less beginning is less -/
theorem vl_pre {od : Nat → Nat → Nat} {srt s1 s2 : Nat → Nat} {cnt : Nat} (ho : ∀ i j, i < cnt → j < cnt → od (srt i) (srt j) < 4) (h1 : ∀ q, q < cnt → s1 q < cnt) (h2 : ∀ q, q < cnt → s2 q < cnt) {p : Nat} (hlt : vl od srt s1 p < vl od srt s2 p) : ∀ k, p + k ≤ cnt → vl od srt s1 (p + k) < vl od srt s2 (p + k)
  | 0, _ => hlt
  | k + 1, hk => by
    have ih := vl_pre ho h1 h2 hlt k (by omega)
    have a1 := (wo_split (od := od) (ord := fun q => srt (s1 q)) (a := srt (s1 (p + k))) (acc := vl od srt s1 (p + k)) (k := p + k) (fun q hq => ho _ _ (h1 q (by omega)) (h1 _ (by omega)))).2
    have a2 := (wo_split (od := od) (ord := fun q => srt (s2 q)) (a := srt (s2 (p + k))) (acc := vl od srt s2 (p + k)) (k := p + k) (fun q hq => ho _ _ (h2 q (by omega)) (h2 _ (by omega)))).1
    show wo od _ _ _ (p + k) < wo od _ _ _ (p + k)
    refine Nat.lt_of_lt_of_le a1 (Nat.le_trans (Nat.mul_le_mul_right _ ih) a2)
/-- there is a least one, and all its beginnings are least -/
theorem vMin_ex {od : Nat → Nat → Nat} {cd srt : Nat → Nat} {cnt : Nat} (ho : ∀ i j, i < cnt → j < cnt → od (srt i) (srt j) < 4) : ∃ s, vOk cd srt cnt s cnt ∧ vMin od cd srt cnt s ∧ ∀ t, vOk cd srt cnt t cnt → vl od srt s cnt ≤ vl od srt t cnt := by
  have hid : vOk cd srt cnt id cnt := ⟨fun p hp => ⟨hp, rfl⟩, fun p q _ _ e => e⟩
  obtain ⟨v, ⟨s, hs, e⟩, hmin⟩ := pk_least (fun v => ∃ s, vOk cd srt cnt s cnt ∧ vl od srt s cnt = v) ⟨_, id, hid, rfl⟩
  have hle : ∀ t, vOk cd srt cnt t cnt → vl od srt s cnt ≤ vl od srt t cnt := fun t ht => by
    rw [e]
    exact Nat.not_lt.mp (fun q => hmin _ q ⟨t, ht, rfl⟩)
  refine ⟨s, hs, fun p hp t ht => ?_, hle⟩
  refine Nat.not_lt.mp (fun hlt => ?_)
  obtain ⟨t', a1, a2⟩ := vOk.ext (cnt - (p + 1)) (p + 1) t (by omega) ht
  have e1 : vl od srt t' (p + 1) = vl od srt t (p + 1) := vl_congr a2
  have := vl_pre ho (fun q hq => (a1.1 q hq).1) (fun q hq => (hs.1 q hq).1) (p := p + 1) (s1 := t') (s2 := s) (by rw [e1]; exact hlt) (cnt - (p + 1)) (by omega)
  rw [show p + 1 + (cnt - (p + 1)) = cnt by omega] at this
  have := hle t' a1
  omega
