def chainOf (n : Nat) : List (List Nat) := match n with
  | 1 => [[0]]
  | 2 => [[0, 1], [1, 0]]
  | 3 => [[0, 1, 2], [0, 2, 1], [1, 0, 2], [1, 2, 0], [2, 0, 1], [2, 1, 0]]
  | 4 => [[0, 1, 2, 3], [0, 1, 3, 2], [0, 2, 1, 3], [0, 2, 3, 1], [0, 3, 1, 2], [0, 3, 2, 1], [1, 0, 2, 3], [1, 0, 3, 2], [1, 2, 0, 3], [1, 2, 3, 0], [1, 3, 0, 2], [1, 3, 2, 0], [2, 0, 1, 3], [2, 0, 3, 1], [2, 1, 0, 3], [2, 1, 3, 0], [2, 3, 0, 1], [2, 3, 1, 0], [3, 0, 1, 2], [3, 0, 2, 1], [3, 1, 0, 2], [3, 1, 2, 0], [3, 2, 0, 1], [3, 2, 1, 0]]
  | 5 => [[0, 1, 2, 3, 4], [0, 1, 2, 4, 3], [0, 1, 3, 2, 4], [0, 1, 3, 4, 2], [0, 1, 4, 2, 3], [0, 1, 4, 3, 2], [0, 2, 1, 3, 4], [0, 2, 1, 4, 3], [0, 2, 3, 1, 4], [0, 2, 3, 4, 1], [0, 2, 4, 1, 3], [0, 2, 4, 3, 1], [0, 3, 1, 2, 4], [0, 3, 1, 4, 2], [0, 3, 2, 1, 4], [0, 3, 2, 4, 1], [0, 3, 4, 1, 2], [0, 3, 4, 2, 1], [0, 4, 1, 2, 3], [0, 4, 1, 3, 2], [0, 4, 2, 1, 3], [0, 4, 2, 3, 1], [0, 4, 3, 1, 2], [0, 4, 3, 2, 1], [1, 0, 2, 3, 4], [1, 0, 2, 4, 3], [1, 0, 3, 2, 4], [1, 0, 3, 4, 2], [1, 0, 4, 2, 3], [1, 0, 4, 3, 2], [1, 2, 0, 3, 4], [1, 2, 0, 4, 3], [1, 2, 3, 0, 4], [1, 2, 3, 4, 0], [1, 2, 4, 0, 3], [1, 2, 4, 3, 0], [1, 3, 0, 2, 4], [1, 3, 0, 4, 2], [1, 3, 2, 0, 4], [1, 3, 2, 4, 0], [1, 3, 4, 0, 2], [1, 3, 4, 2, 0], [1, 4, 0, 2, 3], [1, 4, 0, 3, 2], [1, 4, 2, 0, 3], [1, 4, 2, 3, 0], [1, 4, 3, 0, 2], [1, 4, 3, 2, 0], [2, 0, 1, 3, 4], [2, 0, 1, 4, 3], [2, 0, 3, 1, 4], [2, 0, 3, 4, 1], [2, 0, 4, 1, 3], [2, 0, 4, 3, 1], [2, 1, 0, 3, 4], [2, 1, 0, 4, 3], [2, 1, 3, 0, 4], [2, 1, 3, 4, 0], [2, 1, 4, 0, 3], [2, 1, 4, 3, 0], [2, 3, 0, 1, 4], [2, 3, 0, 4, 1], [2, 3, 1, 0, 4], [2, 3, 1, 4, 0], [2, 3, 4, 0, 1], [2, 3, 4, 1, 0], [2, 4, 0, 1, 3], [2, 4, 0, 3, 1], [2, 4, 1, 0, 3], [2, 4, 1, 3, 0], [2, 4, 3, 0, 1], [2, 4, 3, 1, 0], [3, 0, 1, 2, 4], [3, 0, 1, 4, 2], [3, 0, 2, 1, 4], [3, 0, 2, 4, 1], [3, 0, 4, 1, 2], [3, 0, 4, 2, 1], [3, 1, 0, 2, 4], [3, 1, 0, 4, 2], [3, 1, 2, 0, 4], [3, 1, 2, 4, 0], [3, 1, 4, 0, 2], [3, 1, 4, 2, 0], [3, 2, 0, 1, 4], [3, 2, 0, 4, 1], [3, 2, 1, 0, 4], [3, 2, 1, 4, 0], [3, 2, 4, 0, 1], [3, 2, 4, 1, 0], [3, 4, 0, 1, 2], [3, 4, 0, 2, 1], [3, 4, 1, 0, 2], [3, 4, 1, 2, 0], [3, 4, 2, 0, 1], [3, 4, 2, 1, 0], [4, 0, 1, 2, 3], [4, 0, 1, 3, 2], [4, 0, 2, 1, 3], [4, 0, 2, 3, 1], [4, 0, 3, 1, 2], [4, 0, 3, 2, 1], [4, 1, 0, 2, 3], [4, 1, 0, 3, 2], [4, 1, 2, 0, 3], [4, 1, 2, 3, 0], [4, 1, 3, 0, 2], [4, 1, 3, 2, 0], [4, 2, 0, 1, 3], [4, 2, 0, 3, 1], [4, 2, 1, 0, 3], [4, 2, 1, 3, 0], [4, 2, 3, 0, 1], [4, 2, 3, 1, 0], [4, 3, 0, 1, 2], [4, 3, 0, 2, 1], [4, 3, 1, 0, 2], [4, 3, 1, 2, 0], [4, 3, 2, 0, 1], [4, 3, 2, 1, 0]]
  | _ => []
def advL (n : Nat) (l : List Nat) : Option (List Nat) := match piv (fun q => l.getD q 0) (n - 1) with
  | none => none
  | some i => some ((List.range n).map (nxt (fun q => l.getD q 0) n i))
set_option maxRecDepth 100000 in
theorem chain_0 : ∀ n, n < 6 → 1 ≤ n → (chainOf n)[0]? = some (List.range n) ∧ 1 ≤ (chainOf n).length := by decide +kernel
set_option maxRecDepth 100000 in
theorem chain_1 : ∀ n, n < 6 → ∀ k, k < (chainOf n).length → (if k + 1 < (chainOf n).length then advL n ((chainOf n).getD k []) = some ((chainOf n).getD (k + 1) []) else advL n ((chainOf n).getD k []) = none) := by decide +kernel
set_option maxRecDepth 100000 in
theorem chain_2 : ∀ n, n < 6 → ∀ k, k < (chainOf n).length → ∀ p, p < n → ((chainOf n).getD k []).getD p 0 < n ∧ ∀ q, q < n → ((chainOf n).getD k []).getD p 0 = ((chainOf n).getD k []).getD q 0 → p = q := by decide +kernel
set_option maxRecDepth 100000 in
theorem chain_a1 : ∀ a, a < 1 → [a] ∈ chainOf 1 := by decide +kernel
set_option maxRecDepth 100000 in
theorem chain_a2 : ∀ a, a < 2 → ∀ b, b < 2 → a ≠ b → [a, b] ∈ chainOf 2 := by decide +kernel
set_option maxRecDepth 100000 in
theorem chain_b3 : ((List.range 3).all fun a => (List.range 3).all fun b => (List.range 3).all fun c => (a == b || a == c || b == c || (chainOf 3).contains [a, b, c])) = true := by decide +kernel
theorem chain_a3 : ∀ a, a < 3 → ∀ b, b < 3 → ∀ c, c < 3 → (a ≠ b ∧ a ≠ c ∧ b ≠ c) → [a, b, c] ∈ chainOf 3 := by
  intro a ha b hb c hc hn
  have h1 := List.all_eq_true.mp (List.all_eq_true.mp (List.all_eq_true.mp (chain_b3) a (List.mem_range.mpr ha)) b (List.mem_range.mpr hb)) c (List.mem_range.mpr hc)
  simp only [Bool.or_eq_true, beq_iff_eq, List.contains_iff_mem] at h1
  rcases h1 with h1 | h1
  · omega
  · exact h1
set_option maxRecDepth 100000 in
theorem chain_b4 : ((List.range 4).all fun a => (List.range 4).all fun b => (List.range 4).all fun c => (List.range 4).all fun d => (a == b || a == c || b == c || a == d || b == d || c == d || (chainOf 4).contains [a, b, c, d])) = true := by decide +kernel
theorem chain_a4 : ∀ a, a < 4 → ∀ b, b < 4 → ∀ c, c < 4 → ∀ d, d < 4 → ((a ≠ b ∧ a ≠ c ∧ b ≠ c) ∧ a ≠ d ∧ b ≠ d ∧ c ≠ d) → [a, b, c, d] ∈ chainOf 4 := by
  intro a ha b hb c hc d hd hn
  have h1 := List.all_eq_true.mp (List.all_eq_true.mp (List.all_eq_true.mp (List.all_eq_true.mp (chain_b4) a (List.mem_range.mpr ha)) b (List.mem_range.mpr hb)) c (List.mem_range.mpr hc)) d (List.mem_range.mpr hd)
  simp only [Bool.or_eq_true, beq_iff_eq, List.contains_iff_mem] at h1
  rcases h1 with h1 | h1
  · omega
  · exact h1
set_option maxRecDepth 100000 in
theorem chain_b5 : ((List.range 5).all fun a => (List.range 5).all fun b => (List.range 5).all fun c => (List.range 5).all fun d => (List.range 5).all fun e => (a == b || a == c || b == c || a == d || b == d || c == d || a == e || b == e || c == e || d == e || (chainOf 5).contains [a, b, c, d, e])) = true := by decide +kernel
theorem chain_a5 : ∀ a, a < 5 → ∀ b, b < 5 → ∀ c, c < 5 → ∀ d, d < 5 → ∀ e, e < 5 → (((a ≠ b ∧ a ≠ c ∧ b ≠ c) ∧ a ≠ d ∧ b ≠ d ∧ c ≠ d) ∧ a ≠ e ∧ b ≠ e ∧ c ≠ e ∧ d ≠ e) → [a, b, c, d, e] ∈ chainOf 5 := by
  intro a ha b hb c hc d hd e he hn
  have h1 := List.all_eq_true.mp (List.all_eq_true.mp (List.all_eq_true.mp (List.all_eq_true.mp (List.all_eq_true.mp (chain_b5) a (List.mem_range.mpr ha)) b (List.mem_range.mpr hb)) c (List.mem_range.mpr hc)) d (List.mem_range.mpr hd)) e (List.mem_range.mpr he)
  simp only [Bool.or_eq_true, beq_iff_eq, List.contains_iff_mem] at h1
  rcases h1 with h1 | h1
  · omega
  · exact h1
theorem chain_all {n : Nat} (h1 : 1 ≤ n) (h5 : n ≤ 5) {s : Nat → Nat} (hs : ∀ q, q < n → s q < n) (hi : ∀ p q, p < n → q < n → s p = s q → p = q) : ∃ k, k < (chainOf n).length ∧ ∀ q, q < n → ((chainOf n).getD k []).getD q 0 = s q := by
  have key : (List.range n).map s ∈ chainOf n := by
    have ne : ∀ p q, p < n → q < n → p ≠ q → s p ≠ s q := fun p q hp hq hn e => hn (hi p q hp hq e)
    have : n = 1 ∨ n = 2 ∨ n = 3 ∨ n = 4 ∨ n = 5 := by omega
    rcases this with rfl | rfl | rfl | rfl | rfl
    · exact chain_a1 (s 0) (hs 0 (by omega))
    · exact chain_a2 (s 0) (hs 0 (by omega)) (s 1) (hs 1 (by omega)) (ne 0 1 (by omega) (by omega) (by omega))
    · exact chain_a3 (s 0) (hs 0 (by omega)) (s 1) (hs 1 (by omega)) (s 2) (hs 2 (by omega)) ⟨ne 0 1 (by omega) (by omega) (by omega), ne 0 2 (by omega) (by omega) (by omega), ne 1 2 (by omega) (by omega) (by omega)⟩
    · exact chain_a4 (s 0) (hs 0 (by omega)) (s 1) (hs 1 (by omega)) (s 2) (hs 2 (by omega)) (s 3) (hs 3 (by omega)) ⟨⟨ne 0 1 (by omega) (by omega) (by omega), ne 0 2 (by omega) (by omega) (by omega), ne 1 2 (by omega) (by omega) (by omega)⟩, ne 0 3 (by omega) (by omega) (by omega), ne 1 3 (by omega) (by omega) (by omega), ne 2 3 (by omega) (by omega) (by omega)⟩
    · exact chain_a5 (s 0) (hs 0 (by omega)) (s 1) (hs 1 (by omega)) (s 2) (hs 2 (by omega)) (s 3) (hs 3 (by omega)) (s 4) (hs 4 (by omega)) ⟨⟨⟨ne 0 1 (by omega) (by omega) (by omega), ne 0 2 (by omega) (by omega) (by omega), ne 1 2 (by omega) (by omega) (by omega)⟩, ne 0 3 (by omega) (by omega) (by omega), ne 1 3 (by omega) (by omega) (by omega), ne 2 3 (by omega) (by omega) (by omega)⟩, ne 0 4 (by omega) (by omega) (by omega), ne 1 4 (by omega) (by omega) (by omega), ne 2 4 (by omega) (by omega) (by omega), ne 3 4 (by omega) (by omega) (by omega)⟩
  obtain ⟨k, hk⟩ := List.getElem?_of_mem key
  refine ⟨k, (List.getElem?_eq_some_iff.mp hk).1, fun q hq => ?_⟩
  have e9 : (chainOf n).getD k [] = (List.range n).map s := by rw [List.getD_eq_getElem?_getD, hk]; rfl
  rw [e9]
  simp [hq]
theorem piv_congr {f g : Nat → Nat} : ∀ {k : Nat}, (∀ p q, p ≤ k → q ≤ k → (f p < f q ↔ g p < g q)) → piv f k = piv g k
  | 0, _ => rfl
  | k + 1, h => by
    show (if f (k + 1) < f k then piv f k else some k) = (if g (k + 1) < g k then piv g k else some k)
    rw [piv_congr (fun p q hp hq => h p q (by omega) (by omega))]
    have := h (k + 1) k (by omega) (by omega)
    by_cases z : g (k + 1) < g k
    · rw [if_pos z, if_pos (this.mpr z)]
    · rw [if_neg z, if_neg (fun y => z (this.mp y))]
theorem jst_congr {f g : Nat → Nat} {v w : Nat} : ∀ {k : Nat}, (∀ p, p < k → (f p < v ↔ g p < w)) → jst f v k = jst g w k
  | 0, _ => rfl
  | k + 1, h => by
    show (if f k < v then jst f v k else k) = (if g k < w then jst g w k else k)
    rw [jst_congr (fun p hp => h p (by omega))]
    have := h k (by omega)
    by_cases z : g k < w
    · rw [if_pos z, if_pos (this.mpr z)]
    · rw [if_neg z, if_neg (fun y => z (this.mp y))]
theorem nxt_comp {mem s : Nat → Nat} {n i : Nat} (hj : jst (fun q => mem (s q)) (mem (s i)) n = jst s (s i) n) (q : Nat) : nxt (fun q => mem (s q)) n i q = mem (nxt s n i q) := by
  unfold nxt
  dsimp only
  rw [hj]
  unfold swp
  split <;> split <;> (try rfl) <;> split <;> rfl
theorem wo8_congr {od : Nat → Nat → Nat} {o1 o2 : Nat → Nat} {a acc : Nat} : ∀ {k : Nat}, (∀ q, q < k → o1 q = o2 q) → wo8 od o1 a acc k = wo8 od o2 a acc k
  | 0, _ => rfl
  | k + 1, h => by
    show wo8 od o1 a acc k * 8 + od (o1 k) a = wo8 od o2 a acc k * 8 + od (o2 k) a
    rw [wo8_congr (fun q hq => h q (by omega)), h k (by omega)]
theorem vl8_congr {od : Nat → Nat → Nat} {p1 p2 : Nat → Nat} {acc : Nat} : ∀ {p : Nat}, (∀ q, q < p → p1 q = p2 q) → vl8 od p1 acc p = vl8 od p2 acc p
  | 0, _ => rfl
  | p + 1, h => by
    show wo8 od p1 (p1 p) (vl8 od p1 acc p) p = wo8 od p2 (p2 p) (vl8 od p2 acc p) p
    rw [vl8_congr (fun q hq => h q (by omega)), h p (by omega)]
    exact wo8_congr (fun q hq => h q (by omega))
theorem mC_congr {cd p1 p2 : Nat → Nat} {cnt : Nat} : ∀ {k : Nat}, (∀ q, q < k → p1 q = p2 q) → mC cd p1 cnt k = mC cd p2 cnt k
  | 0, _ => rfl
  | k + 1, h => by
    show mC cd p1 cnt k * 8 + cd (p1 k) = mC cd p2 cnt k * 8 + cd (p2 k)
    rw [mC_congr (fun q hq => h q (by omega)), h k (by omega)]
theorem WM_congr {cd p1 p2 : Nat → Nat} {od : Nat → Nat → Nat} {cnt : Nat} (h : ∀ q, q < cnt → p1 q = p2 q) : WM cd od p1 cnt = WM cd od p2 cnt := by
  unfold WM
  rw [mC_congr h, vl8_congr h]
theorem WM_lt {cd pi : Nat → Nat} {od : Nat → Nat → Nat} {cnt : Nat} (h5 : cnt ≤ 5) (hcd : ∀ q, q < cnt → cd (pi q) < 8) (hod : ∀ i j, i < cnt → j < cnt → od (pi i) (pi j) < 8) : WM cd od pi cnt < 2 ^ 48 := by
  have hm1 := mC_lt (cd := cd) (pi := pi) h5 (k := cnt) hcd
  have hv := vl8_lt (od := od) (pi := pi) h5 hm1 hod (p := cnt) (Nat.le_refl _)
  have htb := tri_b h5
  have e1 : 8 * 8 ^ cnt * 8 ^ tri cnt * 8 ^ (15 - cnt - tri cnt) = 8 ^ 16 := by
    rw [← Nat.pow_succ', ← Nat.pow_add, ← Nat.pow_add]
    congr 1
    omega
  have e2 : (8 : Nat) ^ 16 = 2 ^ 48 := by decide
  rw [← e2, ← e1]
  exact Nat.mul_lt_mul_of_pos_right hv (Nat.pow_pos (by decide))
section
variable {lx : am_Lx} {d : Nat} {h : am_H} {m : Nat → Int32} {Q : am_Q}
set_option maxHeartbeats 1000000 in
theorem sp_40 (hd : 2 ≤ d) {cnt nm : Nat} {cd mem : Nat → Nat} {od : Nat → Nat → Nat} {fc ft fn fm : Nat → Int32} (hM : h[81]? = some (mO m)) (hm : m 31 = nI cnt) (h96 : h[96]? = some (aI 10 fc)) (h99 : h[99]? = some (aI 100 fn)) (h102 : h[102]? = some (aI 10 fm)) (h103 : h[103]? = some (aI 10 ft)) (hnm : nm ≤ 10) (hc : ∀ i, i < nm → fc i = nI (cd i) ∧ cd i < 4) (hn : ∀ i j, i < nm → j < nm → fn (10 * i + j) = nI (od i j) ∧ od i j < 4) (hmem : ∀ q, q < cnt → fm q = nI (mem q) ∧ mem q < nm) (hinc : ∀ p q, p < q → q < cnt → mem p < mem q) (hc1 : 1 ≤ cnt) (h5 : cnt ≤ 5)
    (hq : ∀ (ft' : Nat → Int32) (s : Nat → Nat), (∀ q, q < cnt → s q < cnt) → (∀ p q, p < cnt → q < cnt → s p = s q → p = q) → (∀ t : Nat → Nat, (∀ q, q < cnt → t q < cnt) → (∀ p q, p < cnt → q < cnt → t p = t q → p = q) → WM cd od (fun q => mem (s q)) cnt ≤ WM cd od (fun q => mem (t q)) cnt) → Q (some (.long (lN (WM cd od (fun q => mem (s q)) cnt)))) (h.set 103 (aI 10 ft'))) : am_KA lx d 40 [.ref 81] h Q := by
  have hlt : ∀ p q, p < cnt → q < cnt → (mem p < mem q ↔ p < q) := fun p q hp hq => by
    constructor
    · intro z
      refine Classical.byContradiction fun y => ?_
      by_cases e9 : p = q
      · rw [e9] at z; omega
      · have := hinc q p (by omega) hp
        omega
    · intro z
      exact hinc p q z hq
  have hinj : ∀ p q, p < cnt → q < cnt → mem p = mem q → p = q := fun p q hp hq e9 => by
    refine Classical.byContradiction fun y => ?_
    have : p < q ∨ q < p := by omega
    rcases this with z | z
    · have := hinc p q z hq; omega
    · have := hinc q p z hp; omega
  have kM : ∀ f, (h.set 103 (aI 10 f))[81]? = some (mO m) := fun f => am_ne (by decide) hM
  have k96 : ∀ f, (h.set 103 (aI 10 f))[96]? = some (aI 10 fc) := fun f => am_ne (by decide) h96
  have k99 : ∀ f, (h.set 103 (aI 10 f))[99]? = some (aI 100 fn) := fun f => am_ne (by decide) h99
  have k103 : ∀ f, (h.set 103 (aI 10 f))[103]? = some (aI 10 f) := fun f => am_eq h103
  let S : Nat → Nat → Nat := fun k q => ((chainOf cnt).getD k []).getD q 0
  have hS : ∀ k, k < (chainOf cnt).length → (∀ q, q < cnt → S k q < cnt) ∧ ∀ p q, p < cnt → q < cnt → S k p = S k q → p = q := fun k hk => ⟨fun q hq => (chain_2 cnt (by omega) k hk q hq).1, fun p q hp hq e9 => (chain_2 cnt (by omega) k hk p hp).2 q hq e9⟩
  have hW : ∀ k, k < (chainOf cnt).length → WM cd od (fun q => mem (S k q)) cnt < 2 ^ 48 := fun k hk => WM_lt h5 (fun q hq => by have := (hc _ (hmem _ ((hS k hk).1 q hq)).2).2; omega) (fun i j hi hj => by have := (hn _ _ (hmem _ ((hS k hk).1 i hi)).2 (hmem _ ((hS k hk).1 j hj)).2).2; omega)
  obtain ⟨e, rfl⟩ : ∃ e, d = e + 1 := ⟨d - 1, by omega⟩
  have G : am_GK (am_KA lx e) cd_40 := ⟨am_KA_m lx e, cm_40⟩
  refine am_KA_in (by decide) (Nat.le_of_ble_eq_true rfl) ?_
  show am_Go (am_KA lx e) (am_fetch cd_40) Q 0 [some (.ref 81), none, none, none, none, none] [] h 0 0
  refine r_ic G (pn := 1) rfl rfl  ?_
  refine r_is G (pn := 2) rfl rfl (Nat.le_of_ble_eq_true rfl) ?_
  have advc : ∀ (k : Nat) (f : Nat → Int32) (Q' : am_Q), k < (chainOf cnt).length → (∀ q, q < cnt → f q = nI (mem (S k q))) → (k + 1 = (chainOf cnt).length → Q' (some (.int 0)) (h.set 103 (aI 10 f))) → (k + 1 < (chainOf cnt).length → ∀ f', (∀ q, q < cnt → f' q = nI (mem (S (k + 1) q))) → Q' (some (.int 1)) (h.set 103 (aI 10 f'))) → am_KA lx e 39 [.ref 81] (h.set 103 (aI 10 f)) Q' := by
    intro k f Q' hk hf h0 h1
    have hch := chain_1 cnt (by omega) k hk
    have hpc : piv (fun q => mem (S k q)) (cnt - 1) = piv (S k) (cnt - 1) := piv_congr (fun p q hp hq => hlt _ _ ((hS k hk).1 p (by omega)) ((hS k hk).1 q (by omega)))
    refine sp_39 (f := fun q => mem (S k q)) (by omega) (kM f) hm (k103 f) (fun q hq => ⟨hf q hq, by have := (hmem _ ((hS k hk).1 q hq)).2; omega⟩) (fun p q hp hq e9 => (hS k hk).2 p q hp hq (hinj _ _ ((hS k hk).1 p hp) ((hS k hk).1 q hq) e9)) hc1 h5 (fun hp => ?_) (fun i ft' hp hft => ?_)
    · refine h0 (Classical.byContradiction fun z => ?_)
      rw [if_pos (by omega)] at hch
      unfold advL at hch
      rw [show piv (fun q => ((chainOf cnt).getD k []).getD q 0) (cnt - 1) = none from hpc.symm.trans hp] at hch
      cases hch
    · have hps : piv (fun q => ((chainOf cnt).getD k []).getD q 0) (cnt - 1) = some i := hpc.symm.trans hp
      by_cases z : k + 1 < (chainOf cnt).length
      · rw [if_pos z] at hch
        unfold advL at hch
        rw [hps] at hch
        have hch := Option.some.inj hch
        rw [List.set_set]
        refine h1 z ft' (fun q hq => ?_)
        rw [hft q hq]
        have hip := (piv_lt hps).1
        rw [nxt_comp (jst_congr (fun p hp9 => hlt _ _ ((hS k hk).1 p hp9) ((hS k hk).1 i (by omega))))]
        congr 2
        show nxt (S k) cnt i q = ((chainOf cnt).getD (k + 1) []).getD q 0
        rw [← hch]
        simp [hq]
        rfl
      · rw [if_neg z] at hch
        unfold advL at hch
        rw [hps] at hch
        cases hch
  have fin0 : ∀ (b : Nat) (f : Nat → Int32) (d4 d5 : Option Value), b < (chainOf cnt).length → (∀ k2, k2 < (chainOf cnt).length → WM cd od (fun q => mem (S b q)) cnt ≤ WM cd od (fun q => mem (S k2 q)) cnt) → am_Go (am_KA lx e) (am_fetch cd_40) Q 38 [some (.ref 81), some (.long (lN (WM cd od (fun q => mem (S b q)) cnt))), none, some (.int 0), d4, d5] [] (h.set 103 (aI 10 f)) 0 0 := by
    intro b f d4 d5 hb hmin
    refine r_il G (pn := 39) rfl rfl rfl ?_
    refine r_if1 G (pn := 42) rfl rfl (fun c39 => ?_) (fun c39 => ?_)
    · refine r_ll G (pn := 71) rfl rfl rfl ?_
      refine r_lret G rfl (hq f (S b) (hS b hb).1 (hS b hb).2 (fun t t1 t2 => ?_))
      obtain ⟨k2, q1, q2⟩ := chain_all hc1 h5 t1 t2
      have := hmin k2 q1
      rw [WM_congr (p1 := fun q => mem (S k2 q)) (p2 := fun q => mem (t q)) (fun q hq => by rw [← q2 q hq])] at this
      exact this
    · exact absurd rfl c39
  have wcall : ∀ (k : Nat) (f : Nat → Int32) (Q' : am_Q), k < (chainOf cnt).length → (∀ q, q < cnt → f q = nI (mem (S k q))) → Q' (some (.long (lN (WM cd od (fun q => mem (S k q)) cnt)))) (h.set 103 (aI 10 f)) → am_KA lx e 38 [.ref 81] (h.set 103 (aI 10 f)) Q' := fun k f Q' hk hf hQ => sp_38 (by omega) (kM f) hm (k96 f) (k99 f) (k103 f) hnm hc hn (fun q hq => ⟨hf q hq, (hmem _ ((hS k hk).1 q hq)).2⟩) hc1 h5 hQ
  have lp : ∀ (r k b : Nat) (f : Nat → Int32) (d4 d5 : Option Value), k + r + 2 = (chainOf cnt).length → b ≤ k → (∀ q, q < cnt → f q = nI (mem (S (k + 1) q))) → (∀ k2, k2 ≤ k → WM cd od (fun q => mem (S b q)) cnt ≤ WM cd od (fun q => mem (S k2 q)) cnt) → am_Go (am_KA lx e) (am_fetch cd_40) Q 38 [some (.ref 81), some (.long (lN (WM cd od (fun q => mem (S b q)) cnt))), none, some (.int 1), d4, d5] [] (h.set 103 (aI 10 f)) 0 0 := by
    intro r
    induction r with
    | zero =>
      intro k b f d4 d5 hk hb hf hmin
      have hWb := hW b (by omega)
      have hWk := hW (k + 1) (by omega)
      have tail : ∀ b', b' ≤ k + 1 → (∀ k2, k2 ≤ k + 1 → WM cd od (fun q => mem (S b' q)) cnt ≤ WM cd od (fun q => mem (S k2 q)) cnt) → ∀ d4 d5, am_Go (am_KA lx e) (am_fetch cd_40) Q 62 [some (.ref 81), some (.long (lN (WM cd od (fun q => mem (S b' q)) cnt))), none, some (.int 1), d4, d5] [] (h.set 103 (aI 10 f)) 0 0 := by
        intro b' hb' hm' d4 d5
        refine r_ra G (pn := 63) rfl rfl rfl ?_
        refine r_inv1 G (pn := 66) rfl rfl (kM f) (Nat.le_of_ble_eq_true rfl) (Nat.le_of_ble_eq_true rfl) (Nat.le_of_ble_eq_true rfl) (advc (k + 1) f _ (by omega) hf (fun _ => ?_) (fun z => absurd z (by omega)))
        show am_Go (am_KA lx e) (am_fetch cd_40) Q 66 [some (.ref 81), some (.long (lN (WM cd od (fun q => mem (S b' q)) cnt))), none, some (.int 1), d4, d5] [.int 0] (h.set 103 (aI 10 f)) 0 0
        refine r_is G (pn := 67) rfl rfl (Nat.le_of_ble_eq_true rfl) ?_
        refine r_goto G rfl ?_
        exact fin0 b' f _ _ (by omega) (fun k2 hk2 => hm' k2 (by omega))
      refine r_il G (pn := 39) rfl rfl rfl ?_
      refine r_if1 G (pn := 42) rfl rfl (fun c39 => ?_) (fun c39 => ?_)
      · exact absurd c39 (by decide)
      · refine r_ra G (pn := 43) rfl rfl rfl ?_
        refine r_inv1 G (pn := 46) rfl rfl (kM f) (Nat.le_of_ble_eq_true rfl) (Nat.le_of_ble_eq_true rfl) (Nat.le_of_ble_eq_true rfl) (wcall (k + 1) f _ (by omega) hf ?_)
        show am_Go (am_KA lx e) (am_fetch cd_40) Q 46 [some (.ref 81), some (.long (lN (WM cd od (fun q => mem (S b q)) cnt))), none, some (.int 1), d4, d5] [.long (lN (WM cd od (fun q => mem (S (k + 1) q)) cnt))] (h.set 103 (aI 10 f)) 0 0
        refine r_ls G (pn := 48) rfl rfl (Nat.le_of_ble_eq_true rfl) ?_
        refine r_ll G (pn := 50) rfl rfl rfl ?_
        refine r_ll G (pn := 51) rfl rfl rfl ?_
        refine r_lcmp G (pn := 52) rfl rfl  ?_
        refine r_if1 G (pn := 55) rfl rfl (fun c52 => ?_) (fun c52 => ?_)
        · have hle : WM cd od (fun q => mem (S b q)) cnt ≤ WM cd od (fun q => mem (S (k + 1) q)) cnt := (pk_lLE (by omega) (by omega)).mp ((lg_cmp_ge _ _).mp c52)
          refine r_ll G (pn := 61) rfl rfl rfl ?_
          refine r_ls G (pn := 62) rfl rfl (Nat.le_of_ble_eq_true rfl) ?_
          refine tail b (by omega) (fun k2 hk2 => ?_) _ _
          by_cases z : k2 = k + 1
          · rw [z]; exact hle
          · exact hmin k2 (by omega)
        · have hlt9 : WM cd od (fun q => mem (S (k + 1) q)) cnt < WM cd od (fun q => mem (S b q)) cnt := Nat.not_le.mp (fun q => c52 ((lg_cmp_ge _ _).mpr ((pk_lLE (by omega) (by omega)).mpr q)))
          refine r_ll G (pn := 57) rfl rfl rfl ?_
          refine r_goto G rfl ?_
          refine r_ls G (pn := 62) rfl rfl (Nat.le_of_ble_eq_true rfl) ?_
          refine tail (k + 1) (by omega) (fun k2 hk2 => ?_) _ _
          by_cases z : k2 = k + 1
          · rw [z]; exact Nat.le_refl _
          · exact Nat.le_trans (Nat.le_of_lt hlt9) (hmin k2 (by omega))
    | succ r ih =>
      intro k b f d4 d5 hk hb hf hmin
      have hWb := hW b (by omega)
      have hWk := hW (k + 1) (by omega)
      have tail : ∀ b', b' ≤ k + 1 → (∀ k2, k2 ≤ k + 1 → WM cd od (fun q => mem (S b' q)) cnt ≤ WM cd od (fun q => mem (S k2 q)) cnt) → ∀ d4 d5, am_Go (am_KA lx e) (am_fetch cd_40) Q 62 [some (.ref 81), some (.long (lN (WM cd od (fun q => mem (S b' q)) cnt))), none, some (.int 1), d4, d5] [] (h.set 103 (aI 10 f)) 0 0 := by
        intro b' hb' hm' d4 d5
        refine r_ra G (pn := 63) rfl rfl rfl ?_
        refine r_inv1 G (pn := 66) rfl rfl (kM f) (Nat.le_of_ble_eq_true rfl) (Nat.le_of_ble_eq_true rfl) (Nat.le_of_ble_eq_true rfl) (advc (k + 1) f _ (by omega) hf (fun z => absurd z (by omega)) (fun _ f' hf' => ?_))
        show am_Go (am_KA lx e) (am_fetch cd_40) Q 66 [some (.ref 81), some (.long (lN (WM cd od (fun q => mem (S b' q)) cnt))), none, some (.int 1), d4, d5] [.int 1] (h.set 103 (aI 10 f')) 0 0
        refine r_is G (pn := 67) rfl rfl (Nat.le_of_ble_eq_true rfl) ?_
        refine r_goto G rfl ?_
        exact ih (k + 1) b' f' _ _ (by omega) hb' hf' hm'
      refine r_il G (pn := 39) rfl rfl rfl ?_
      refine r_if1 G (pn := 42) rfl rfl (fun c39 => ?_) (fun c39 => ?_)
      · exact absurd c39 (by decide)
      · refine r_ra G (pn := 43) rfl rfl rfl ?_
        refine r_inv1 G (pn := 46) rfl rfl (kM f) (Nat.le_of_ble_eq_true rfl) (Nat.le_of_ble_eq_true rfl) (Nat.le_of_ble_eq_true rfl) (wcall (k + 1) f _ (by omega) hf ?_)
        show am_Go (am_KA lx e) (am_fetch cd_40) Q 46 [some (.ref 81), some (.long (lN (WM cd od (fun q => mem (S b q)) cnt))), none, some (.int 1), d4, d5] [.long (lN (WM cd od (fun q => mem (S (k + 1) q)) cnt))] (h.set 103 (aI 10 f)) 0 0
        refine r_ls G (pn := 48) rfl rfl (Nat.le_of_ble_eq_true rfl) ?_
        refine r_ll G (pn := 50) rfl rfl rfl ?_
        refine r_ll G (pn := 51) rfl rfl rfl ?_
        refine r_lcmp G (pn := 52) rfl rfl  ?_
        refine r_if1 G (pn := 55) rfl rfl (fun c52 => ?_) (fun c52 => ?_)
        · have hle : WM cd od (fun q => mem (S b q)) cnt ≤ WM cd od (fun q => mem (S (k + 1) q)) cnt := (pk_lLE (by omega) (by omega)).mp ((lg_cmp_ge _ _).mp c52)
          refine r_ll G (pn := 61) rfl rfl rfl ?_
          refine r_ls G (pn := 62) rfl rfl (Nat.le_of_ble_eq_true rfl) ?_
          refine tail b (by omega) (fun k2 hk2 => ?_) _ _
          by_cases z : k2 = k + 1
          · rw [z]; exact hle
          · exact hmin k2 (by omega)
        · have hlt9 : WM cd od (fun q => mem (S (k + 1) q)) cnt < WM cd od (fun q => mem (S b q)) cnt := Nat.not_le.mp (fun q => c52 ((lg_cmp_ge _ _).mpr ((pk_lLE (by omega) (by omega)).mpr q)))
          refine r_ll G (pn := 57) rfl rfl rfl ?_
          refine r_goto G rfl ?_
          refine r_ls G (pn := 62) rfl rfl (Nat.le_of_ble_eq_true rfl) ?_
          refine tail (k + 1) (by omega) (fun k2 hk2 => ?_) _ _
          by_cases z : k2 = k + 1
          · rw [z]; exact Nat.le_refl _
          · exact Nat.le_trans (Nat.le_of_lt hlt9) (hmin k2 (by omega))
  have lpm : ∀ (k i : Nat) (f : Nat → Int32), i + k = cnt → (∀ q, q < i → f q = nI (mem q)) → am_Go (am_KA lx e) (am_fetch cd_40) Q 2 [some (.ref 81), some (.int (nI i)), none, none, none, none] [] (h.set 103 (aI 10 f)) 0 0 := by
    intro k
    induction k with
    | zero =>
      intro i f hi hf
      obtain rfl : i = cnt := by omega
      refine r_il G (pn := 3) rfl rfl rfl ?_
      refine r_ra G (pn := 4) rfl rfl rfl ?_
      refine r_get G (pn := 7) rfl rfl (kM f) rfl ?_
      rw [hm]
      refine r_if2 G (pn := 10) rfl rfl (fun c7 => ?_) (fun c7 => ?_)
      · obtain ⟨c0, c1⟩ := chain_0 i (by omega) hc1
        have hf0 : ∀ q, q < i → f q = nI (mem (S 0 q)) := fun q hq => by
          rw [hf q hq]
          congr 2
          show q = ((chainOf i).getD 0 []).getD q 0
          rw [List.getD_eq_getElem?_getD (l := chainOf i), c0]
          simp [hq]
        refine r_ra G (pn := 29) rfl rfl rfl ?_
        refine r_inv1 G (pn := 32) rfl rfl (kM f) (Nat.le_of_ble_eq_true rfl) (Nat.le_of_ble_eq_true rfl) (Nat.le_of_ble_eq_true rfl) (wcall 0 f _ (by omega) hf0 ?_)
        show am_Go (am_KA lx e) (am_fetch cd_40) Q 32 [some (.ref 81), some (.int (nI i)), none, none, none, none] [.long (lN (WM cd od (fun q => mem (S 0 q)) i))] (h.set 103 (aI 10 f)) 0 0
        refine r_ls G (pn := 33) rfl rfl (Nat.le_of_ble_eq_true rfl) ?_
        refine r_ra G (pn := 34) rfl rfl rfl ?_
        refine r_inv1 G (pn := 37) rfl rfl (kM f) (Nat.le_of_ble_eq_true rfl) (Nat.le_of_ble_eq_true rfl) (Nat.le_of_ble_eq_true rfl) (advc 0 f _ (by omega) hf0 (fun z => ?_) (fun z f' hf' => ?_))
        · show am_Go (am_KA lx e) (am_fetch cd_40) Q 37 [some (.ref 81), some (.long (lN (WM cd od (fun q => mem (S 0 q)) i))), none, none, none, none] [.int 0] (h.set 103 (aI 10 f)) 0 0
          refine r_is G (pn := 38) rfl rfl (Nat.le_of_ble_eq_true rfl) ?_
          exact fin0 0 f _ _ (by omega) (fun k2 hk2 => by obtain rfl : k2 = 0 := (by omega); exact Nat.le_refl _)
        · show am_Go (am_KA lx e) (am_fetch cd_40) Q 37 [some (.ref 81), some (.long (lN (WM cd od (fun q => mem (S 0 q)) i))), none, none, none, none] [.int 1] (h.set 103 (aI 10 f')) 0 0
          refine r_is G (pn := 38) rfl rfl (Nat.le_of_ble_eq_true rfl) ?_
          exact lp ((chainOf i).length - 2) 0 0 f' _ _ (by omega) (by omega) hf' (fun k2 hk2 => by obtain rfl : k2 = 0 := (by omega); exact Nat.le_refl _)
      · exact absurd (Int32.le_refl _) c7
    | succ k ih =>
      intro i f hi hf
      refine r_il G (pn := 3) rfl rfl rfl ?_
      refine r_ra G (pn := 4) rfl rfl rfl ?_
      refine r_get G (pn := 7) rfl rfl (kM f) rfl ?_
      rw [hm]
      refine r_if2 G (pn := 10) rfl rfl (fun c7 => ?_) (fun c7 => ?_)
      · exact absurd ((nI_leI (by omega) (by omega)).mp c7) (by omega)
      · refine r_ra G (pn := 11) rfl rfl rfl ?_
        refine r_get G (pn := 14) rfl rfl (kM f) rfl ?_
        refine r_il G (pn := 15) rfl rfl rfl ?_
        refine r_ra G (pn := 16) rfl rfl rfl ?_
        refine r_get G (pn := 19) rfl rfl (kM f) rfl ?_
        refine r_il G (pn := 20) rfl rfl rfl ?_
        refine r_ialdN G (pn := 21) rfl rfl (am_ne (by decide) h102) (by omega) (by omega) ?_
        rw [(hmem i (by omega)).1]
        refine r_iastN G (pn := 22) rfl rfl (k103 f) (by omega) (by omega) ?_
        rw [List.set_set]
        refine r_inc G (pn := 25) rfl rfl rfl (Nat.le_of_ble_eq_true rfl) ?_
        refine r_goto G rfl ?_
        rw [nI_1]
        refine ih (i + 1) _ (by omega) (fun q hq => ?_)
        by_cases z : q = i
        · rw [z, pk_us]
        · rw [pk_un z]
          exact hf q (by omega)
  have := lpm cnt 0 ft (by omega) (fun q hq => absurd hq (by omega))
  rw [am_same h103] at this
  exact this
end
