abbrev kO : am_C := .inr (3, [.ref 36, .ref 37, .ref 38])
/-- the digits that an atom adds behind k placed ones -/
def wo (od : Nat → Nat → Nat) (ord : Nat → Nat) (a acc : Nat) : Nat → Nat
  | 0 => acc
  | k + 1 => wo od ord a acc k * 4 + od (ord k) a
theorem wo_congr {od : Nat → Nat → Nat} {o1 o2 : Nat → Nat} {a acc : Nat} : ∀ {k : Nat}, (∀ q, q < k → o1 q = o2 q) → wo od o1 a acc k = wo od o2 a acc k
  | 0, _ => rfl
  | k + 1, h => by
    show wo od o1 a acc k * 4 + od (o1 k) a = wo od o2 a acc k * 4 + od (o2 k) a
    rw [wo_congr (fun q hq => h q (by omega)), h k (by omega)]
theorem wo_lt {od : Nat → Nat → Nat} {ord : Nat → Nat} {a acc m : Nat} (ha : acc < m) : ∀ {k : Nat}, (∀ q, q < k → od (ord q) a < 4) → wo od ord a acc k < m * 4 ^ k
  | 0, _ => by show acc < m * 1; omega
  | k + 1, h => by
    have h1 := wo_lt ha (k := k) (fun q hq => h q (by omega))
    have h2 := h k (by omega)
    show wo od ord a acc k * 4 + od (ord k) a < m * 4 ^ (k + 1)
    rw [Nat.pow_succ, ← Nat.mul_assoc]
    omega
/-- the value of the first p atoms of an ordering -/
def vl (od : Nat → Nat → Nat) (srt sg : Nat → Nat) : Nat → Nat
  | 0 => 0
  | p + 1 => wo od (fun k => srt (sg k)) (srt (sg p)) (vl od srt sg p) p
theorem vl_congr {od : Nat → Nat → Nat} {srt s1 s2 : Nat → Nat} : ∀ {p : Nat}, (∀ q, q < p → s1 q = s2 q) → vl od srt s1 p = vl od srt s2 p
  | 0, _ => rfl
  | p + 1, h => by
    show wo od (fun k => srt (s1 k)) (srt (s1 p)) (vl od srt s1 p) p = wo od (fun k => srt (s2 k)) (srt (s2 p)) (vl od srt s2 p) p
    rw [vl_congr (fun q hq => h q (by omega)), h p (by omega)]
    exact wo_congr (fun q hq => by rw [h q (by omega)])
/-- a choice of places for the first m, the codes as in the sorted row, none twice -/
def vOk (cd srt : Nat → Nat) (cnt : Nat) (sg : Nat → Nat) (m : Nat) : Prop := (∀ p, p < m → sg p < cnt ∧ cd (srt (sg p)) = cd (srt p)) ∧ ∀ p q, p < m → q < m → sg p = sg q → p = q
theorem vOk.sub {cd srt : Nat → Nat} {cnt : Nat} {sg : Nat → Nat} {m k : Nat} (h : vOk cd srt cnt sg m) (hk : k ≤ m) : vOk cd srt cnt sg k := ⟨fun p hp => h.1 p (by omega), fun p q hp hq e => h.2 p q (by omega) (by omega) e⟩
theorem vOk.congr {cd srt : Nat → Nat} {cnt : Nat} {s1 s2 : Nat → Nat} {m : Nat} (h : vOk cd srt cnt s1 m) (e : ∀ q, q < m → s2 q = s1 q) : vOk cd srt cnt s2 m := ⟨fun p hp => by rw [e p hp]; exact h.1 p hp, fun p q hp hq z => h.2 p q hp hq (by rw [← e p hp, ← e q hq]; exact z)⟩
def tri (p : Nat) : Nat := p * (p - 1) / 2
theorem vl_lt {od : Nat → Nat → Nat} {srt sg : Nat → Nat} {cnt : Nat} (h5 : cnt ≤ 5) (ho : ∀ i j, i < cnt → j < cnt → od (srt i) (srt j) < 4) : ∀ {p : Nat}, p ≤ cnt → (∀ q, q < p → sg q < cnt) → vl od srt sg p < 4 ^ (tri p)
  | 0, _, _ => Nat.zero_lt_one
  | p + 1, hp, hs => by
    have h1 := vl_lt h5 ho (p := p) (by omega) (fun q hq => hs q (by omega))
    have h2 := wo_lt (od := od) (ord := fun k => srt (sg k)) (a := srt (sg p)) h1 (k := p) (fun q hq => ho _ _ (hs q (by omega)) (hs p (by omega)))
    have h3 : tri (p + 1) = tri p + p := by
      have : p = 0 ∨ p = 1 ∨ p = 2 ∨ p = 3 ∨ p = 4 := by omega
      rcases this with q | q | q | q | q <;> rw [q] <;> rfl
    rw [h3, Nat.pow_add]
    exact h2
theorem tri_le {p : Nat} (h : p ≤ 5) : (4 : Nat) ^ tri p ≤ 1048576 := by
  have : p = 0 ∨ p = 1 ∨ p = 2 ∨ p = 3 ∨ p = 4 ∨ p = 5 := by omega
  rcases this with q | q | q | q | q | q <;> rw [q] <;> decide
def vReal (od : Nat → Nat → Nat) (cd srt : Nat → Nat) (cnt : Nat) (L : Nat → Nat) : Prop := ∀ p, p < cnt → L p = 1048576 ∨ ∃ t, vOk cd srt cnt t (p + 1) ∧ L p = vl od srt t (p + 1)
def vMin (od : Nat → Nat → Nat) (cd srt : Nat → Nat) (cnt : Nat) (sg : Nat → Nat) : Prop := ∀ p, p < cnt → ∀ t, vOk cd srt cnt t (p + 1) → vl od srt sg (p + 1) ≤ vl od srt t (p + 1)
section
variable {lx : am_Lx} {d : Nat} {h : am_H} {Q : am_Q}
theorem sp_85 (hd : 1 ≤ d) {g N n a pl acc : Nat} {cd ord : Nat → Nat} {od : Nat → Nat → Nat} {fo : Nat → Int32} (hI : GrI g N h n cd od) (hN : N ≤ 24) (hnN : n ≤ N) (h35 : h[35]? = some kO) (h37 : h[37]? = some (aI 5 fo)) (hfo : ∀ q, q < pl → fo q = nI (ord q) ∧ ord q < n) (ha : a < n) (hpl : pl ≤ 4) (ho : ∀ i j, i < n → j < n → od i j < 4) (hac : acc < 4 ^ tri pl) (hq : Q (some (.int (nI (wo od ord a acc pl)))) h) : am_KA lx d 85 [.ref 35, .ref g, .int (nI a), .int (nI pl), .int (nI acc)] h Q := by
  obtain ⟨h1, h2, ⟨r3, h3, g3⟩, h4, h5⟩ := hI
  obtain ⟨e, rfl⟩ : ∃ e, d = e + 1 := ⟨d - 1, by omega⟩
  have G : am_GK (am_KA lx e) cd_85 := ⟨am_KA_m lx e, cm_85⟩
  refine am_KA_in (by decide) (Nat.le_of_ble_eq_true rfl) ?_
  show am_Go (am_KA lx e) (am_fetch cd_85) Q 0 [some (.ref 35), some (.ref g), some (.int (nI a)), some (.int (nI pl)), some (.int (nI acc)), none, none] [] h 0 0
  refine r_il G (pn := 2) rfl rfl rfl ?_
  refine r_is G (pn := 4) rfl rfl (Nat.le_of_ble_eq_true rfl) ?_
  refine r_ic G (pn := 5) rfl rfl  ?_
  refine r_is G (pn := 7) rfl rfl (Nat.le_of_ble_eq_true rfl) ?_
  have lp : ∀ (k i : Nat), i + k = pl → am_Go (am_KA lx e) (am_fetch cd_85) Q 7 [some (.ref 35), some (.ref g), some (.int (nI a)), some (.int (nI pl)), some (.int (nI acc)), some (.int (nI (wo od ord a acc i))), some (.int (nI i))] [] h 0 0 := by
    intro k
    induction k with
    | zero =>
      intro i hi
      obtain rfl : i = pl := by omega
      refine r_il G (pn := 9) rfl rfl rfl ?_
      refine r_il G (pn := 10) rfl rfl rfl ?_
      refine r_if2 G (pn := 13) rfl rfl (fun c10 => ?_) (fun c10 => ?_)
      · refine r_il G (pn := 42) rfl rfl rfl ?_
        refine r_iret G rfl rfl hq
      · exact absurd (Int32.le_refl _) c10
    | succ k ih =>
      intro i hi
      have hb : wo od ord a acc i < 4 ^ tri pl * 4 ^ i := wo_lt hac (fun q hq => ho _ _ (hfo q (by omega)).2 ha)
      have hb2 : (4 : Nat) ^ tri pl * 4 ^ i ≤ 4 ^ 6 * 4 ^ 3 := by
        have h6 : tri pl ≤ 6 := by
          have : pl = 0 ∨ pl = 1 ∨ pl = 2 ∨ pl = 3 ∨ pl = 4 := by omega
          rcases this with q | q | q | q | q <;> rw [q] <;> decide
        exact Nat.mul_le_mul (Nat.pow_le_pow_right (by decide) h6) (Nat.pow_le_pow_right (by decide) (by omega))
      have hb3 : (4 : Nat) ^ 6 * 4 ^ 3 = 262144 := by decide
      obtain ⟨e1, e2⟩ := hfo i (by omega)
      obtain ⟨fi, ri, di, oi⟩ := h4 (ord i) (by omega)
      have ho4 := ho (ord i) a e2 ha
      refine r_il G (pn := 9) rfl rfl rfl ?_
      refine r_il G (pn := 10) rfl rfl rfl ?_
      refine r_if2 G (pn := 13) rfl rfl (fun c10 => ?_) (fun c10 => ?_)
      · exact absurd ((nI_leI (by omega) (by omega)).mp c10) (by omega)
      · refine r_il G (pn := 15) rfl rfl rfl ?_
        refine r_ic G (pn := 16) rfl rfl  ?_
        refine r_ib G (pn := 17) rfl rfl  ?_
        refine r_ra G (pn := 18) rfl rfl rfl ?_
        refine r_get G (pn := 21) rfl rfl (by first | assumption | (repeat (first | assumption | exact am_eq (by first | assumption | exact am_eq (by assumption) | exact am_ne (by first | decide | omega) (by assumption)) | refine am_ne (by first | decide | omega) ?_))) rfl ?_
        refine r_ra G (pn := 22) rfl rfl rfl ?_
        refine r_get G (pn := 25) rfl rfl (by first | assumption | (repeat (first | assumption | exact am_eq (by first | assumption | exact am_eq (by assumption) | exact am_ne (by first | decide | omega) (by assumption)) | refine am_ne (by first | decide | omega) ?_))) rfl ?_
        refine r_il G (pn := 27) rfl rfl rfl ?_
        refine r_ialdN G (pn := 28) rfl rfl h37 (by omega) (by omega) ?_
        rw [e1]
        refine r_raldN G (pn := 29) rfl rfl h3 (by omega) (by omega) (g3 _ (by omega)) ?_
        refine r_il G (pn := 30) rfl rfl rfl ?_
        refine r_ialdN G (pn := 31) rfl rfl ri (by omega) (by omega) ?_
        rw [oi a e2 ha]
        refine r_ib G (pn := 32) rfl rfl  ?_
        rw [am_push2 ho4 (by omega)]
        refine r_is G (pn := 34) rfl rfl (Nat.le_of_ble_eq_true rfl) ?_
        refine r_inc G (pn := 37) rfl rfl rfl (Nat.le_of_ble_eq_true rfl) ?_
        refine r_goto G rfl ?_
        rw [nI_1]
        exact ih (i + 1) (by omega)
  exact lp pl 0 (by omega)
end
