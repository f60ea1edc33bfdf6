def Rl (a4 a8 b4 b8 : Nat) : Prop := (a4 < b4 ↔ a8 < b8) ∧ (a4 = b4 ↔ a8 = b8)
theorem Rl.step {a4 a8 b4 b8 x y : Nat} (h : Rl a4 a8 b4 b8) (hx : x < 4) (hy : y < 4) : Rl (a4 * 4 + x) (a8 * 8 + x) (b4 * 4 + y) (b8 * 8 + y) := by
  obtain ⟨h1, h2⟩ := h
  unfold Rl
  by_cases p : a4 < b4
  · have := h1.mp p
    constructor <;> constructor <;> intro <;> omega
  · by_cases q : a4 = b4
    · have := h2.mp q
      constructor <;> constructor <;> intro <;> omega
    · have n1 : ¬ a8 < b8 := fun z => p (h1.mpr z)
      have n2 : ¬ a8 = b8 := fun z => q (h2.mpr z)
      constructor <;> constructor <;> intro <;> omega
theorem Rl_wo {o1 o2 : Nat → Nat → Nat} {u1 u2 : Nat → Nat} {a1 a2 x4 x8 y4 y8 : Nat} (h : Rl x4 x8 y4 y8) : ∀ {k : Nat}, (∀ q, q < k → o1 (u1 q) a1 < 4) → (∀ q, q < k → o2 (u2 q) a2 < 4) → Rl (wo o1 u1 a1 x4 k) (wo8 o1 u1 a1 x8 k) (wo o2 u2 a2 y4 k) (wo8 o2 u2 a2 y8 k)
  | 0, _, _ => h
  | k + 1, h1, h2 => (Rl_wo h (fun q hq => h1 q (by omega)) (fun q hq => h2 q (by omega))).step (h1 k (by omega)) (h2 k (by omega))
def vlA (od : Nat → Nat → Nat) (pi : Nat → Nat) (acc : Nat) : Nat → Nat
  | 0 => acc
  | p + 1 => wo od pi (pi p) (vlA od pi acc p) p
theorem Rl_vl {o1 o2 : Nat → Nat → Nat} {u1 u2 : Nat → Nat} {x4 x8 y4 y8 cnt : Nat} (h : Rl x4 x8 y4 y8) (h1 : ∀ i j, i < cnt → j < cnt → o1 (u1 i) (u1 j) < 4) (h2 : ∀ i j, i < cnt → j < cnt → o2 (u2 i) (u2 j) < 4) : ∀ {p : Nat}, p ≤ cnt → Rl (vlA o1 u1 x4 p) (vl8 o1 u1 x8 p) (vlA o2 u2 y4 p) (vl8 o2 u2 y8 p)
  | 0, _ => h
  | p + 1, hp => Rl_wo (Rl_vl h h1 h2 (by omega)) (fun q hq => h1 q p (by omega) (by omega)) (fun q hq => h2 q p (by omega) (by omega))
theorem Rl_cd {c1 c2 u1 u2 : Nat → Nat} {cnt : Nat} : ∀ {k : Nat}, (∀ q, q < k → c1 (u1 q) < 4) → (∀ q, q < k → c2 (u2 q) < 4) → Rl (e4 (fun q => c1 (u1 q)) k) (mC c1 u1 cnt k) (e4 (fun q => c2 (u2 q)) k) (mC c2 u2 cnt k)
  | 0, _, _ => ⟨by simp [e4, mC], by simp [e4, mC]⟩
  | k + 1, h1, h2 => (Rl_cd (fun q hq => h1 q (by omega)) (fun q hq => h2 q (by omega))).step (h1 k (by omega)) (h2 k (by omega))
theorem wo_lin {od : Nat → Nat → Nat} {ord : Nat → Nat} {a x y : Nat} : ∀ {k : Nat}, wo od ord a (x + y) k = x * 4 ^ k + wo od ord a y k
  | 0 => by show x + y = x * 1 + y; omega
  | k + 1 => by
    show wo od ord a (x + y) k * 4 + od (ord k) a = x * 4 ^ (k + 1) + (wo od ord a y k * 4 + od (ord k) a)
    rw [wo_lin, Nat.pow_succ, ← Nat.mul_assoc]
    omega
theorem vlA_eq {od : Nat → Nat → Nat} {pi : Nat → Nat} {acc : Nat} : ∀ {p : Nat}, p ≤ 5 → vlA od pi acc p = acc * 4 ^ tri p + vl od pi id p
  | 0, _ => by show acc = acc * 1 + 0; omega
  | p + 1, h => by
    show wo od pi (pi p) (vlA od pi acc p) p = acc * 4 ^ tri (p + 1) + wo od (fun k => pi (id k)) (pi (id p)) (vl od pi id p) p
    rw [vlA_eq (by omega), wo_lin, tri_succ (by omega), Nat.pow_add, ← Nat.mul_assoc]
    rfl
theorem lexmul {a b x y K : Nat} (hx : x < K) (hy : y < K) : (a * K + x < b * K + y ↔ (a < b ∨ (a = b ∧ x < y))) ∧ (a * K + x = b * K + y ↔ (a = b ∧ x = y)) := by
  by_cases h1 : a < b
  · have : (a + 1) * K ≤ b * K := Nat.mul_le_mul_right K h1
    rw [Nat.add_mul] at this
    constructor <;> constructor <;> intro <;> omega
  · by_cases h2 : a = b
    · subst h2
      constructor <;> constructor <;> intro <;> omega
    · have : (b + 1) * K ≤ a * K := Nat.mul_le_mul_right K (by omega)
      rw [Nat.add_mul] at this
      constructor <;> constructor <;> intro <;> omega
/-- a pair of words of the same ordering of the same molecule -/
def KR (a b : Nat) : Prop := ∃ (cnt : Nat) (c : Nat → Nat) (o : Nat → Nat → Nat), 1 ≤ cnt ∧ cnt ≤ 5 ∧ (∀ i, i < cnt → c i < 4) ∧ (∀ i j, i < cnt → j < cnt → o i j < 4) ∧ a = WC c o id cnt ∧ b = WM c o id cnt
theorem WC_id {cd pi : Nat → Nat} {od : Nat → Nat → Nat} {cnt : Nat} : WC cd od pi cnt = WC (fun q => cd (pi q)) (fun i j => od (pi i) (pi j)) id cnt := by
  unfold WC
  have : ∀ p, vl od pi id p = vl (fun i j => od (pi i) (pi j)) id id p := by
    intro p
    induction p with
    | zero => rfl
    | succ p ih =>
      show wo od (fun k => pi (id k)) (pi (id p)) (vl od pi id p) p = wo (fun i j => od (pi i) (pi j)) (fun k => id (id k)) (id (id p)) (vl (fun i j => od (pi i) (pi j)) id id p) p
      rw [ih]
      have gen : ∀ k acc, wo od (fun k => pi (id k)) (pi (id p)) acc k = wo (fun i j => od (pi i) (pi j)) (fun k => id (id k)) (id (id p)) acc k := by
        intro k acc
        induction k with
        | zero => rfl
        | succ k ih2 =>
          show wo od (fun k => pi (id k)) (pi (id p)) acc k * 4 + _ = wo (fun i j => od (pi i) (pi j)) (fun k => id (id k)) (id (id p)) acc k * 4 + _
          rw [ih2]
          rfl
      exact gen p _
  rw [this]
  rfl
theorem WM_id {cd pi : Nat → Nat} {od : Nat → Nat → Nat} {cnt : Nat} : WM cd od pi cnt = WM (fun q => cd (pi q)) (fun i j => od (pi i) (pi j)) id cnt := by
  unfold WM
  have e1 : ∀ k, mC cd pi cnt k = mC (fun q => cd (pi q)) id cnt k := by
    intro k
    induction k with
    | zero => rfl
    | succ k ih =>
      show mC cd pi cnt k * 8 + _ = mC (fun q => cd (pi q)) id cnt k * 8 + _
      rw [ih]
      rfl
  have : ∀ acc p, vl8 od pi acc p = vl8 (fun i j => od (pi i) (pi j)) id acc p := by
    intro acc p
    induction p with
    | zero => rfl
    | succ p ih =>
      show wo8 od pi (pi p) (vl8 od pi acc p) p = wo8 (fun i j => od (pi i) (pi j)) id (id p) (vl8 (fun i j => od (pi i) (pi j)) id acc p) p
      rw [ih]
      have gen : ∀ k acc, wo8 od pi (pi p) acc k = wo8 (fun i j => od (pi i) (pi j)) id (id p) acc k := by
        intro k acc
        induction k with
        | zero => rfl
        | succ k ih2 =>
          show wo8 od pi (pi p) acc k * 8 + _ = wo8 (fun i j => od (pi i) (pi j)) id (id p) acc k * 8 + _
          rw [ih2]
          rfl
      exact gen p _
  rw [e1, this]
theorem KR_of {cd pi : Nat → Nat} {od : Nat → Nat → Nat} {cnt : Nat} (h1 : 1 ≤ cnt) (h5 : cnt ≤ 5) (hc : ∀ q, q < cnt → cd (pi q) < 4) (ho : ∀ i j, i < cnt → j < cnt → od (pi i) (pi j) < 4) : KR (WC cd od pi cnt) (WM cd od pi cnt) := ⟨cnt, fun q => cd (pi q), fun i j => od (pi i) (pi j), h1, h5, hc, ho, WC_id, WM_id⟩
/-- one length: both packings are ordered alike -/
theorem ord_same {c1 c2 : Nat → Nat} {o1 o2 : Nat → Nat → Nat} {cnt : Nat} (h5 : cnt ≤ 5) (hc1 : ∀ i, i < cnt → c1 i < 4) (hc2 : ∀ i, i < cnt → c2 i < 4) (ho1 : ∀ i j, i < cnt → j < cnt → o1 i j < 4) (ho2 : ∀ i j, i < cnt → j < cnt → o2 i j < 4) : (WC c1 o1 id cnt < WC c2 o2 id cnt ↔ WM c1 o1 id cnt < WM c2 o2 id cnt) ∧ (WC c1 o1 id cnt = WC c2 o2 id cnt ↔ WM c1 o1 id cnt = WM c2 o2 id cnt) := by
  have hr := Rl_vl (Rl_cd (c1 := c1) (c2 := c2) (u1 := id) (u2 := id) (cnt := cnt) (k := cnt) hc1 hc2) (o1 := o1) (o2 := o2) (u1 := id) (u2 := id) (cnt := cnt) ho1 ho2 (p := cnt) (Nat.le_refl _)
  rw [vlA_eq h5, vlA_eq h5] at hr
  have b1 := vl_lt (od := o1) (srt := id) (sg := id) h5 ho1 (p := cnt) (Nat.le_refl _) (fun q hq => hq)
  have b2 := vl_lt (od := o2) (srt := id) (sg := id) h5 ho2 (p := cnt) (Nat.le_refl _) (fun q hq => hq)
  have ht := tri_le h5
  unfold Rl at hr
  rw [(lexmul b1 b2).1, (lexmul b1 b2).2] at hr
  have hl := lexmul (a := e4 (fun q => c1 (id q)) cnt) (b := e4 (fun q => c2 (id q)) cnt) (x := vl o1 id id cnt) (y := vl o2 id id cnt) (K := 1048576) (by omega) (by omega)
  have hp : 0 < 8 ^ (15 - cnt - tri cnt) := Nat.pow_pos (by decide)
  unfold WC WM
  constructor
  · rw [Nat.mul_lt_mul_right hp, ← hr.1, ← hl.1]
    omega
  · rw [Nat.mul_left_inj (by omega), ← hr.2, ← hl.2]
    omega
theorem WC_b {c : Nat → Nat} {o : Nat → Nat → Nat} {cnt : Nat} (h5 : cnt ≤ 5) (hc : ∀ i, i < cnt → c i < 4) (ho : ∀ i j, i < cnt → j < cnt → o i j < 4) : cnt * 1073741824 ≤ WC c o id cnt ∧ WC c o id cnt < (cnt + 1) * 1073741824 := by
  have b1 := vl_lt (od := o) (srt := id) (sg := id) h5 ho (p := cnt) (Nat.le_refl _) (fun q hq => hq)
  have ht := tri_le h5
  have h1 := e4_lt (f := fun q => c (id q)) (n := cnt) hc
  have h2 : (4 : Nat) ^ cnt ≤ 4 ^ 5 := Nat.pow_le_pow_right (by decide) h5
  have h3 : (4 : Nat) ^ 5 = 1024 := by decide
  unfold WC
  omega
theorem WM_b {c : Nat → Nat} {o : Nat → Nat → Nat} {cnt : Nat} (h5 : cnt ≤ 5) (hc : ∀ i, i < cnt → c i < 4) (ho : ∀ i j, i < cnt → j < cnt → o i j < 4) : cnt * 8 ^ 15 ≤ WM c o id cnt ∧ WM c o id cnt < (cnt + 1) * 8 ^ 15 := by
  have hmC : ∀ k, k ≤ cnt → cnt * 8 ^ k ≤ mC c id cnt k ∧ mC c id cnt k < (cnt + 1) * 8 ^ k := by
    intro k
    induction k with
    | zero => intro _; show cnt * 1 ≤ cnt ∧ cnt < (cnt + 1) * 1; omega
    | succ k ih =>
      intro hk
      have := ih (by omega)
      have := hc k (by omega)
      show cnt * 8 ^ (k + 1) ≤ mC c id cnt k * 8 + c k ∧ mC c id cnt k * 8 + c k < (cnt + 1) * 8 ^ (k + 1)
      rw [Nat.pow_succ, ← Nat.mul_assoc, ← Nat.mul_assoc]
      omega
  have hwo : ∀ (a lo hi acc p : Nat), p ≤ cnt → a < cnt → lo ≤ acc → acc < hi → lo * 8 ^ p ≤ wo8 o id a acc p ∧ wo8 o id a acc p < hi * 8 ^ p := by
    intro a lo hi acc p
    induction p with
    | zero => intro _ _ h1 h2; show lo * 1 ≤ acc ∧ acc < hi * 1; omega
    | succ p ih =>
      intro h0 h1 h2 h3
      have := ih (by omega) h1 h2 h3
      have := ho p a (by omega) h1
      show lo * 8 ^ (p + 1) ≤ wo8 o id a acc p * 8 + o p a ∧ wo8 o id a acc p * 8 + o p a < hi * 8 ^ (p + 1)
      rw [Nat.pow_succ, ← Nat.mul_assoc, ← Nat.mul_assoc]
      omega
  have hvl : ∀ p, p ≤ cnt → cnt * 8 ^ cnt * 8 ^ tri p ≤ vl8 o id (mC c id cnt cnt) p ∧ vl8 o id (mC c id cnt cnt) p < (cnt + 1) * 8 ^ cnt * 8 ^ tri p := by
    intro p
    induction p with
    | zero =>
      intro _
      show cnt * 8 ^ cnt * 1 ≤ mC c id cnt cnt ∧ mC c id cnt cnt < (cnt + 1) * 8 ^ cnt * 1
      rw [Nat.mul_one, Nat.mul_one]
      exact hmC cnt (Nat.le_refl _)
    | succ p ih =>
      intro hp
      have := ih (by omega)
      have h9 := hwo p _ _ _ p (by omega) (by omega) this.1 this.2
      rw [tri_succ (by omega), Nat.pow_add, ← Nat.mul_assoc, ← Nat.mul_assoc]
      exact h9
  have hv := hvl cnt (Nat.le_refl _)
  have htb := tri_b h5
  have e1 : ∀ x, x * 8 ^ cnt * 8 ^ tri cnt * 8 ^ (15 - cnt - tri cnt) = x * 8 ^ 15 := by
    intro x
    rw [Nat.mul_assoc, Nat.mul_assoc, ← Nat.pow_add, ← Nat.pow_add]
    congr 2
    omega
  unfold WM
  rw [← e1, ← e1]
  exact ⟨Nat.mul_le_mul_right _ hv.1, Nat.mul_lt_mul_of_pos_right hv.2 (Nat.pow_pos (by decide))⟩
theorem KR_ord {a b a' b' : Nat} (h : KR a b) (h' : KR a' b') : (a < a' ↔ b < b') ∧ (a = a' ↔ b = b') := by
  obtain ⟨n, c, o, n1, n5, hc, ho, rfl, rfl⟩ := h
  obtain ⟨n', c', o', n1', n5', hc', ho', rfl, rfl⟩ := h'
  by_cases e : n = n'
  · subst e
    exact ord_same n5 hc hc' ho ho'
  · have a1 := WC_b n5 hc ho
    have a2 := WC_b n5' hc' ho'
    have b1 := WM_b n5 hc ho
    have b2 := WM_b n5' hc' ho'
    have e15 : (8 : Nat) ^ 15 = 35184372088832 := by decide
    rw [e15] at b1 b2
    have : n < n' ∨ n' < n := by omega
    rcases this with z | z
    · constructor <;> constructor <;> intro <;> omega
    · constructor <;> constructor <;> intro <;> omega
