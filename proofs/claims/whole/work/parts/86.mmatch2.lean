def tup (n k : Nat) : Nat → Nat := fun j => k / n ^ j % n
def cod (P n : Nat) (x : Nat → Nat) : Nat := if P = 2 then x 0 + x 1 * n else x 0 + (x 1 + x 2 * n) * n
theorem cod_lt {P n : Nat} {x : Nat → Nat} (hP : P = 2 ∨ P = 3) (hx : ∀ j, j < P → x j < n) : cod P n x < n ^ P := by
  rcases hP with z | z
  · subst z
    have h0 := hx 0 (by omega)
    have h1 := hx 1 (by omega)
    show x 0 + x 1 * n < n ^ 2
    have : (x 1 + 1) * n ≤ n * n := Nat.mul_le_mul_right n (by omega)
    rw [Nat.add_mul, Nat.one_mul] at this
    rw [Nat.pow_succ, Nat.pow_one]
    omega
  · subst z
    have h0 := hx 0 (by omega)
    have h1 := hx 1 (by omega)
    have h2 := hx 2 (by omega)
    show x 0 + (x 1 + x 2 * n) * n < n ^ 3
    have a1 : (x 2 + 1) * n ≤ n * n := Nat.mul_le_mul_right n (by omega)
    rw [Nat.add_mul, Nat.one_mul] at a1
    have a2 : (x 1 + x 2 * n + 1) * n ≤ n * n * n := Nat.mul_le_mul_right n (by omega)
    rw [Nat.add_mul, Nat.one_mul] at a2
    rw [Nat.pow_succ, Nat.pow_succ, Nat.pow_one]
    omega
theorem tup_cod {P n : Nat} {x : Nat → Nat} (hP : P = 2 ∨ P = 3) (hx : ∀ j, j < P → x j < n) : ∀ j, j < P → tup n (cod P n x) j = x j := by
  have div1 : ∀ a b, a < n → (a + b * n) % n = a ∧ (a + b * n) / n = b := by
    intro a b ha
    constructor
    · rw [Nat.add_mul_mod_self_right, Nat.mod_eq_of_lt ha]
    · rw [Nat.add_mul_div_right _ _ (by omega), Nat.div_eq_of_lt ha, Nat.zero_add]
  intro j hj
  rcases hP with z | z
  · subst z
    have h0 := hx 0 (by omega)
    have h1 := hx 1 (by omega)
    show (x 0 + x 1 * n) / n ^ j % n = x j
    rcases (show j = 0 ∨ j = 1 by omega) with y | y
    · subst y; rw [Nat.pow_zero, Nat.div_one]; exact (div1 _ _ h0).1
    · subst y; rw [Nat.pow_one, (div1 _ _ h0).2, Nat.mod_eq_of_lt h1]
  · subst z
    have h0 := hx 0 (by omega)
    have h1 := hx 1 (by omega)
    have h2 := hx 2 (by omega)
    show (x 0 + (x 1 + x 2 * n) * n) / n ^ j % n = x j
    rcases (show j = 0 ∨ j = 1 ∨ j = 2 by omega) with y | y | y
    · subst y; rw [Nat.pow_zero, Nat.div_one]; exact (div1 _ _ h0).1
    · subst y; rw [Nat.pow_one, (div1 _ _ h0).2]; exact (div1 _ _ h1).1
    · subst y
      rw [Nat.pow_succ, Nat.pow_one, ← Nat.div_div_eq_div_mul, (div1 _ _ h0).2, (div1 _ _ h1).2, Nat.mod_eq_of_lt h2]
theorem cod_congr {P n : Nat} {x y : Nat → Nat} (hP : P = 2 ∨ P = 3) (e : ∀ j, j < P → x j = y j) : cod P n x = cod P n y := by
  unfold cod
  rcases hP with z | z
  · rw [if_pos z, if_pos z, e 0 (by omega), e 1 (by omega)]
  · rw [if_neg (by omega), if_neg (by omega), e 0 (by omega), e 1 (by omega), e 2 (by omega)]
theorem cod_tup {P n k : Nat} (hP : P = 2 ∨ P = 3) (h1 : 1 ≤ n) (hk : k < n ^ P) : cod P n (tup n k) = k := by
  rcases hP with z | z
  · subst z
    rw [Nat.pow_succ, Nat.pow_one] at hk
    show k / n ^ 0 % n + k / n ^ 1 % n * n = k
    rw [Nat.pow_zero, Nat.div_one, Nat.pow_one, Nat.mod_eq_of_lt (show k / n < n from (Nat.div_lt_iff_lt_mul (by omega)).mpr hk)]
    have := Nat.mod_add_div k n
    rw [Nat.mul_comm] at this
    exact this
  · subst z
    rw [Nat.pow_succ, Nat.pow_succ, Nat.pow_one] at hk
    show k / n ^ 0 % n + (k / n ^ 1 % n + k / n ^ 2 % n * n) * n = k
    have e2 : k / n ^ 2 = k / n / n := by rw [Nat.pow_succ, Nat.pow_one, Nat.div_div_eq_div_mul]
    have l1 : k / n < n * n := (Nat.div_lt_iff_lt_mul (by omega)).mpr hk
    have l2 : k / n / n < n := (Nat.div_lt_iff_lt_mul (by omega)).mpr l1
    rw [Nat.pow_zero, Nat.div_one, Nat.pow_one, e2, Nat.mod_eq_of_lt l2]
    have t1 := Nat.mod_add_div (k / n) n
    have t2 := Nat.mod_add_div k n
    rw [Nat.mul_comm n] at t1 t2
    rw [t1, t2]
theorem cn_sm {P : Nat → Bool} : ∀ {k : Nat}, cn P id 0 k = sm (fun i => if P i = true then 1 else 0) k
  | 0 => rfl
  | k + 1 => by
    show cn P id 0 k + (if P (id (0 + k)) = true then 1 else 0) = sm (fun i => if P i = true then 1 else 0) k + (if P k = true then 1 else 0)
    rw [cn_sm, Nat.zero_add]
    rfl
theorem sm_ones {f : Nat → Nat} : ∀ {k : Nat}, (∀ i, i < k → f i = 1) → sm f k = k
  | 0, _ => rfl
  | k + 1, h => by
    show sm f k + f k = k + 1
    rw [sm_ones (fun i hi => h i (by omega)), h k (by omega)]
noncomputable def mtB (P n lb : Nat) (C Bf cd : Nat → Nat) (od : Nat → Nat → Nat) (k : Nat) : Bool := @decide (Mt P n lb C Bf cd od (tup n k)) (Classical.propDecidable _)
theorem mtB_iff {P n lb : Nat} {C Bf cd : Nat → Nat} {od : Nat → Nat → Nat} {k : Nat} : mtB P n lb C Bf cd od k = true ↔ Mt P n lb C Bf cd od (tup n k) := by
  unfold mtB
  exact @decide_eq_true_iff _ (Classical.propDecidable _)
/-- both count the same matches -/
theorem mt_count {P n lb cnt : Nat} {C Bf cd : Nat → Nat} {od : Nat → Nat → Nat} {T : Nat → Nat → Nat} (hP : P = 2 ∨ P = 3) (h1 : 1 ≤ n) (a1 : ∀ i, i < cnt → Mt P n lb C Bf cd od (T i)) (a2 : ∀ i j, i < j → j < cnt → ∃ q, q < P ∧ T i q ≠ T j q) (a3 : ∀ x, Mt P n lb C Bf cd od x → ∃ i, i < cnt ∧ ∀ q, q < P → T i q = x q) : cnt = cn (mtB P n lb C Bf cd od) id 0 (n ^ P) := by
  have tc : ∀ i, i < cnt → ∀ j, j < P → tup n (cod P n (T i)) j = T i j := fun i hi => tup_cod hP (fun j hj => ((a1 i hi).1 j hj).1)
  have le1 : cnt ≤ cn (mtB P n lb C Bf cd od) id 0 (n ^ P) := by
    rw [cn_sm]
    have := sm_inj (n := n ^ P) (at_ := fun i => cod P n (T i)) (c := cnt) (f := fun i => if mtB P n lb C Bf cd od i = true then 1 else 0) (fun q hq => cod_lt hP (fun j hj => ((a1 q hq).1 j hj).1)) (fun p q hp hq e => ?_)
    · have e : sm (fun i => (fun i => if mtB P n lb C Bf cd od i = true then 1 else 0) (cod P n (T i))) cnt = cnt := sm_ones (fun i hi => if_pos (mtB_iff.mpr ((a1 i hi).congr (tc i hi))))
      rw [e] at this
      exact this
    · have e : cod P n (T p) = cod P n (T q) := e
      have same : ∀ j, j < P → T p j = T q j := fun j hj => by rw [← tc p hp j hj, ← tc q hq j hj, e]
      rcases Nat.lt_trichotomy p q with z | z | z
      · obtain ⟨j, hj, ne⟩ := a2 p q z hq
        exact absurd (same j hj) ne
      · exact z
      · obtain ⟨j, hj, ne⟩ := a2 q p z hp
        exact absurd (same j hj).symm ne
  have le2 : cn (mtB P n lb C Bf cd od) id 0 (n ^ P) ≤ cnt := by
    refine Nat.le_trans (hit_le (t := fun i => cod P n (T i)) cnt _ (fun k hk hb => ?_)) cn_le
    obtain ⟨i, hi, e⟩ := a3 _ (mtB_iff.mp hb)
    exact ⟨i, hi, (cod_congr hP e).trans (cod_tup hP h1 hk)⟩
  exact Nat.le_antisymm le1 le2
section
variable {lx : am_Lx} {d : Nat} {h : am_H} {Q : am_Q} {m : Nat → Int32}
theorem pw_le {n : Nat} (hn : n ≤ 10) : n ^ 0 ≤ 1000 ∧ n ^ 1 ≤ 1000 ∧ n ^ 2 ≤ 1000 ∧ n ^ 3 ≤ 1000 := by
  have : ∀ n, n < 11 → n ^ 0 ≤ 1000 ∧ n ^ 1 ≤ 1000 ∧ n ^ 2 ≤ 1000 ∧ n ^ 3 ≤ 1000 := by decide
  exact this n (by omega)
theorem sp_54 (hd : 1 ≤ d) {q P n : Nat} {fp : Nat → Int32} (hM : h[81]? = some (mO m)) (m24 : m 24 = nI n) (hn : n ≤ 10) (hq3 : q < 3) (hP : P ≤ 3) (h84 : h[84]? = some (aI 3 fp)) (gp : fp q = nI P) (hq : Q (some (.int (nI (n ^ P)))) h) : am_KA lx d 54 [.ref 81, .int (nI q)] h Q := by
  obtain ⟨e, rfl⟩ : ∃ e, d = e + 1 := ⟨d - 1, by omega⟩
  have G : am_GK (am_KA lx e) cd_54 := ⟨am_KA_m lx e, cm_54⟩
  refine am_KA_in (by decide) (Nat.le_of_ble_eq_true rfl) ?_
  show am_Go (am_KA lx e) (am_fetch cd_54) Q 0 [some (.ref 81), some (.int (nI q)), none, none] [] h 0 0
  refine r_ic G (pn := 1) rfl rfl  ?_
  refine r_is G (pn := 2) rfl rfl (Nat.le_of_ble_eq_true rfl) ?_
  refine r_ic G (pn := 3) rfl rfl  ?_
  refine r_is G (pn := 4) rfl rfl (Nat.le_of_ble_eq_true rfl) ?_
  have lp : ∀ (k j : Nat), j + k = P → am_Go (am_KA lx e) (am_fetch cd_54) Q 4 [some (.ref 81), some (.int (nI q)), some (.int (nI (n ^ j))), some (.int (nI j))] [] h 0 0 := by
    intro k
    induction k with
    | zero =>
      intro j hj
      obtain rfl : j = P := by omega
      refine r_il G (pn := 5) rfl rfl rfl ?_
      refine r_ra G (pn := 6) rfl rfl rfl ?_
      refine r_get G (pn := 9) rfl rfl (by first | assumption | (repeat (first | assumption | exact am_eq (by first | assumption | exact am_eq (by assumption) | exact am_ne (by first | decide | omega) (by assumption)) | refine am_ne (by first | decide | omega) ?_))) rfl ?_
      refine r_il G (pn := 10) rfl rfl rfl ?_
      refine r_ialdN G (pn := 11) rfl rfl h84 hq3 (by omega) ?_
      rw [gp]
      refine r_if2 G (pn := 14) rfl rfl (fun c11 => ?_) (fun c11 => ?_)
      rotate_left
      · exact absurd (Int32.le_refl _) c11
      refine r_il G (pn := 28) rfl rfl rfl ?_
      refine r_iret G rfl rfl hq
    | succ k ih =>
      intro j hj
      refine r_il G (pn := 5) rfl rfl rfl ?_
      refine r_ra G (pn := 6) rfl rfl rfl ?_
      refine r_get G (pn := 9) rfl rfl (by first | assumption | (repeat (first | assumption | exact am_eq (by first | assumption | exact am_eq (by assumption) | exact am_ne (by first | decide | omega) (by assumption)) | refine am_ne (by first | decide | omega) ?_))) rfl ?_
      refine r_il G (pn := 10) rfl rfl rfl ?_
      refine r_ialdN G (pn := 11) rfl rfl h84 hq3 (by omega) ?_
      rw [gp]
      refine r_if2 G (pn := 14) rfl rfl (fun c11 => ?_) (fun c11 => ?_)
      · exact absurd ((nI_leI (by omega) (by omega)).mp c11) (by omega)
      refine r_il G (pn := 15) rfl rfl rfl ?_
      refine r_ra G (pn := 16) rfl rfl rfl ?_
      refine r_get G (pn := 19) rfl rfl (by first | assumption | (repeat (first | assumption | exact am_eq (by first | assumption | exact am_eq (by assumption) | exact am_ne (by first | decide | omega) (by assumption)) | refine am_ne (by first | decide | omega) ?_))) rfl ?_
      rw [m24]
      refine r_ib G (pn := 20) rfl rfl  ?_
      refine r_is G (pn := 21) rfl rfl (Nat.le_of_ble_eq_true rfl) ?_
      refine r_inc G (pn := 24) rfl rfl rfl (Nat.le_of_ble_eq_true rfl) ?_
      refine r_goto G rfl ?_
      rw [nI_1, pk_mul, ← Nat.pow_succ]
      exact ih (j + 1) (by omega)
  exact lp P 0 (by omega)
theorem sp_55 (hd : 1 ≤ d) {n k : Nat} {fc : Nat → Int32} (hM : h[81]? = some (mO m)) (m24 : m 24 = nI n) (h1 : 1 ≤ n) (hn : n ≤ 10) (hk : k < 2 ^ 31) (h101 : h[101]? = some (aI 3 fc)) (hq : ∀ f, (∀ j, j < 3 → f j = nI (tup n k j)) → Q none (h.set 101 (aI 3 f))) : am_KA lx d 55 [.ref 81, .int (nI k)] h Q := by
  obtain ⟨e, rfl⟩ : ∃ e, d = e + 1 := ⟨d - 1, by omega⟩
  have G : am_GK (am_KA lx e) cd_55 := ⟨am_KA_m lx e, cm_55⟩
  refine am_KA_in (by decide) (Nat.le_of_ble_eq_true rfl) ?_
  show am_Go (am_KA lx e) (am_fetch cd_55) Q 0 [some (.ref 81), some (.int (nI k)), none, none] [] h 0 0
  refine r_il G (pn := 1) rfl rfl rfl ?_
  refine r_is G (pn := 2) rfl rfl (Nat.le_of_ble_eq_true rfl) ?_
  refine r_ic G (pn := 3) rfl rfl  ?_
  refine r_is G (pn := 4) rfl rfl (Nat.le_of_ble_eq_true rfl) ?_
  have nz : ¬ nI n = 0 := fun z => by
    have := (nI_eq (b := 0) (by omega) (by omega)).mp z
    omega
  have lp : ∀ (q j : Nat) (f : Nat → Int32) (h' : am_H), j + q = 3 → h' = h.set 101 (aI 3 f) → (∀ i, i < j → f i = nI (tup n k i)) → am_Go (am_KA lx e) (am_fetch cd_55) Q 4 [some (.ref 81), some (.int (nI k)), some (.int (nI (k / n ^ j))), some (.int (nI j))] [] h' 0 0 := by
    intro q
    induction q with
    | zero =>
      intro j f h' hj hh hf
      obtain rfl : j = 3 := by omega
      subst hh
      refine r_il G (pn := 5) rfl rfl rfl ?_
      refine r_ic G (pn := 6) rfl rfl  ?_
      refine r_if2 G (pn := 9) rfl rfl (fun c6 => ?_) (fun c6 => ?_)
      rotate_left
      · exact absurd (by decide) c6
      exact r_vret G rfl (hq f hf)
    | succ q ih =>
      intro j f h' hj hh hf
      subst hh
      have hM' : (h.set 101 (aI 3 f))[81]? = some (mO m) := am_ne (by decide) hM
      have hkd : k / n ^ j < 2 ^ 31 := Nat.lt_of_le_of_lt (Nat.div_le_self _ _) hk
      refine r_il G (pn := 5) rfl rfl rfl ?_
      refine r_ic G (pn := 6) rfl rfl  ?_
      refine r_if2 G (pn := 9) rfl rfl (fun c6 => ?_) (fun c6 => ?_)
      · exact absurd ((nI_leI (a := 3) (by omega) (by omega)).mp c6) (by omega)
      refine r_ra G (pn := 10) rfl rfl rfl ?_
      refine r_get G (pn := 13) rfl rfl hM' rfl ?_
      refine r_il G (pn := 14) rfl rfl rfl ?_
      refine r_il G (pn := 15) rfl rfl rfl ?_
      refine r_ra G (pn := 16) rfl rfl rfl ?_
      refine r_get G (pn := 19) rfl rfl hM' rfl ?_
      rw [m24]
      refine r_irem G (pn := 20) rfl rfl nz ?_
      rw [pk_rem hkd (by omega) (by omega)]
      refine r_iastN G (pn := 21) rfl rfl (am_eq h101) (by omega) (by omega) ?_
      refine r_il G (pn := 22) rfl rfl rfl ?_
      refine r_ra G (pn := 23) rfl rfl rfl ?_
      refine r_get G (pn := 26) rfl rfl (am_ne (by decide) hM') rfl ?_
      rw [m24]
      refine r_idiv G (pn := 27) rfl rfl nz ?_
      refine r_is G (pn := 28) rfl rfl (Nat.le_of_ble_eq_true rfl) ?_
      refine r_inc G (pn := 31) rfl rfl rfl (Nat.le_of_ble_eq_true rfl) ?_
      refine r_goto G rfl ?_
      rw [pk_div hkd (by omega) (by omega), nI_1, Nat.div_div_eq_div_mul, ← Nat.pow_succ]
      refine ih (j + 1) _ _ (by omega) (by rw [List.set_set]) (fun i hi => ?_)
      by_cases z : i = j
      · rw [z, pk_us]; rfl
      · rw [pk_un z]; exact hf i (by omega)
  have e0 : nI k = nI (k / n ^ 0) := by rw [Nat.pow_zero, Nat.div_one]
  have := lp 3 0 fc h (by omega) (by rw [am_same h101]) (fun i hi => absurd hi (Nat.not_lt_zero i))
  rw [← e0] at this
  exact this
end
