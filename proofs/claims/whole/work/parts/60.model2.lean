def wo8 (od : Nat → Nat → Nat) (ord : Nat → Nat) (a acc : Nat) : Nat → Nat
  | 0 => acc
  | k + 1 => wo8 od ord a acc k * 8 + od (ord k) a
def vl8 (od : Nat → Nat → Nat) (pi : Nat → Nat) (acc : Nat) : Nat → Nat
  | 0 => acc
  | p + 1 => wo8 od pi (pi p) (vl8 od pi acc p) p
def mC (cd : Nat → Nat) (pi : Nat → Nat) (cnt : Nat) : Nat → Nat
  | 0 => cnt
  | k + 1 => mC cd pi cnt k * 8 + cd (pi k)
/-- the word of an ordering, as the model packs it -/
def WM (cd : Nat → Nat) (od : Nat → Nat → Nat) (pi : Nat → Nat) (cnt : Nat) : Nat := vl8 od pi (mC cd pi cnt cnt) cnt * 8 ^ (15 - cnt - tri cnt)
theorem wo8_lt {od : Nat → Nat → Nat} {ord : Nat → Nat} {a acc m : Nat} (ha : acc < m) : ∀ {k : Nat}, (∀ q, q < k → od (ord q) a < 8) → wo8 od ord a acc k < m * 8 ^ k
  | 0, _ => by show acc < m * 1; omega
  | k + 1, h => by
    have h1 := wo8_lt ha (k := k) (fun q hq => h q (by omega))
    have h2 := h k (by omega)
    show wo8 od ord a acc k * 8 + od (ord k) a < m * 8 ^ (k + 1)
    rw [Nat.pow_succ, ← Nat.mul_assoc]
    omega
theorem mC_lt {cd pi : Nat → Nat} {cnt : Nat} (h5 : cnt ≤ 5) : ∀ {k : Nat}, (∀ q, q < k → cd (pi q) < 8) → mC cd pi cnt k < 8 * 8 ^ k
  | 0, _ => by show cnt < 8; omega
  | k + 1, h => by
    have h1 := mC_lt (cd := cd) (pi := pi) h5 (k := k) (fun q hq => h q (by omega))
    have h2 := h k (by omega)
    show mC cd pi cnt k * 8 + cd (pi k) < 8 * 8 ^ (k + 1)
    rw [Nat.pow_succ, ← Nat.mul_assoc]
    omega
theorem tri_succ {p : Nat} (h : p ≤ 4) : tri (p + 1) = tri p + p := by
  have : p = 0 ∨ p = 1 ∨ p = 2 ∨ p = 3 ∨ p = 4 := by omega
  rcases this with q | q | q | q | q <;> rw [q] <;> rfl
theorem vl8_lt {od : Nat → Nat → Nat} {pi : Nat → Nat} {acc m cnt : Nat} (h5 : cnt ≤ 5) (ha : acc < m) (ho : ∀ i j, i < cnt → j < cnt → od (pi i) (pi j) < 8) : ∀ {p : Nat}, p ≤ cnt → vl8 od pi acc p < m * 8 ^ tri p
  | 0, _ => by show acc < m * 1; omega
  | p + 1, hp => by
    have h1 := vl8_lt h5 ha ho (p := p) (by omega)
    have h2 := wo8_lt (od := od) (ord := pi) (a := pi p) h1 (k := p) (fun q hq => ho _ _ (by omega) (by omega))
    rw [tri_succ (by omega), Nat.pow_add, ← Nat.mul_assoc]
    exact h2
theorem p8 {a b : Nat} (h : a ≤ b) : (8 : Nat) ^ a ≤ 8 ^ b := Nat.pow_le_pow_right (by decide) h
theorem am_l8 {a b : Nat} : (8 : Int64) * lN a + lN b = lN (a * 8 + b) := by
  rw [show (8 : Int64) * lN a = lN (8 * a) from lN_mul 8 a, lN_add, Nat.mul_comm]
theorem tri_b {p : Nat} (h : p ≤ 5) : tri p ≤ 10 := by
  have : p = 0 ∨ p = 1 ∨ p = 2 ∨ p = 3 ∨ p = 4 ∨ p = 5 := by omega
  rcases this with q | q | q | q | q | q <;> rw [q] <;> decide
section
variable {lx : am_Lx} {d : Nat} {h : am_H} {m : Nat → Int32} {Q : am_Q}
theorem sp_38 (hd : 1 ≤ d) {cnt nm : Nat} {cd pi : Nat → Nat} {od : Nat → Nat → Nat} {fc ft fn : Nat → Int32} (hM : h[81]? = some (mO m)) (hm : m 31 = nI cnt) (h96 : h[96]? = some (aI 10 fc)) (h99 : h[99]? = some (aI 100 fn)) (h103 : h[103]? = some (aI 10 ft)) (hnm : nm ≤ 10) (hc : ∀ i, i < nm → fc i = nI (cd i) ∧ cd i < 4) (hn : ∀ i j, i < nm → j < nm → fn (10 * i + j) = nI (od i j) ∧ od i j < 4) (ht : ∀ q, q < cnt → ft q = nI (pi q) ∧ pi q < nm) (hc1 : 1 ≤ cnt) (h5 : cnt ≤ 5) (hq : Q (some (.long (lN (WM cd od pi cnt)))) h) : am_KA lx d 38 [.ref 81] h Q := by
  have hcd : ∀ q, q < cnt → cd (pi q) < 8 := fun q hq => by have := (hc _ (ht q hq).2).2; omega
  have hod : ∀ i j, i < cnt → j < cnt → od (pi i) (pi j) < 8 := fun i j hi hj => by have := (hn _ _ (ht i hi).2 (ht j hj).2).2; omega
  have hm1 := mC_lt (cd := cd) (pi := pi) h5 (k := cnt) hcd
  obtain ⟨e, rfl⟩ : ∃ e, d = e + 1 := ⟨d - 1, by omega⟩
  have G : am_GK (am_KA lx e) cd_38 := ⟨am_KA_m lx e, cm_38⟩
  refine am_KA_in (by decide) (Nat.le_of_ble_eq_true rfl) ?_
  show am_Go (am_KA lx e) (am_fetch cd_38) Q 0 [some (.ref 81), none, none, none, none, none] [] h 0 0
  refine r_ra G (pn := 1) rfl rfl rfl ?_
  refine r_get G (pn := 4) rfl rfl (by first | assumption | (repeat (first | assumption | exact am_eq (by first | assumption | exact am_eq (by assumption) | exact am_ne (by first | decide | omega) (by assumption)) | refine am_ne (by first | decide | omega) ?_))) rfl ?_
  rw [hm]
  refine r_i2l G (pn := 5) rfl rfl  ?_
  rw [nI_l (by omega)]
  refine r_ls G (pn := 6) rfl rfl (Nat.le_of_ble_eq_true rfl) ?_
  refine r_ic G (pn := 7) rfl rfl  ?_
  refine r_is G (pn := 8) rfl rfl (Nat.le_of_ble_eq_true rfl) ?_
  refine r_ic G (pn := 9) rfl rfl  ?_
  refine r_is G (pn := 11) rfl rfl (Nat.le_of_ble_eq_true rfl) ?_
  have pad : ∀ (k n w : Nat) (d4 d5 : Option Value), n + k = 16 → w * 8 ^ k < 2 ^ 60 → w * 8 ^ k = WM cd od pi cnt → am_Go (am_KA lx e) (am_fetch cd_38) Q 117 [some (.ref 81), some (.long (lN w)), none, some (.int (nI n)), d4, d5] [] h 0 0 := by
    intro k
    induction k with
    | zero =>
      intro n w d4 d5 hn9 hb hw
      refine r_il G (pn := 118) rfl rfl rfl ?_
      refine r_ic G (pn := 120) rfl rfl  ?_
      refine r_if2 G (pn := 123) rfl rfl (fun c120 => ?_) (fun c120 => ?_)
      · refine r_ll G (pn := 136) rfl rfl rfl ?_
        rw [Nat.pow_zero, Nat.mul_one] at hw
        rw [hw]
        refine r_lret G rfl hq
      · exact absurd ((nI_leI (a := 16) (b := n) (by omega) (by omega)).mpr (by omega)) c120
    | succ k ih =>
      intro n w d4 d5 hn9 hb hw
      refine r_il G (pn := 118) rfl rfl rfl ?_
      refine r_ic G (pn := 120) rfl rfl  ?_
      refine r_if2 G (pn := 123) rfl rfl (fun c120 => ?_) (fun c120 => ?_)
      · exact absurd ((nI_leI (a := 16) (b := n) (by omega) (by omega)).mp c120) (by omega)
      · refine r_lc G (pn := 126) rfl rfl  ?_
        refine r_ll G (pn := 127) rfl rfl rfl ?_
        refine r_lb G (pn := 128) rfl rfl  ?_
        rw [show (8 : Int64) * lN w = lN (8 * w) from lN_mul 8 w]
        refine r_ls G (pn := 129) rfl rfl (Nat.le_of_ble_eq_true rfl) ?_
        refine r_inc G (pn := 132) rfl rfl rfl (Nat.le_of_ble_eq_true rfl) ?_
        refine r_goto G rfl ?_
        rw [nI_1]
        have e1 : 8 * w * 8 ^ k = w * 8 ^ (k + 1) := by rw [Nat.pow_succ, Nat.mul_comm 8 w, Nat.mul_assoc, Nat.mul_comm 8]
        exact ih (n + 1) (8 * w) _ _ (by omega) (by rw [e1]; exact hb) (by rw [e1]; exact hw)
  have lpj : ∀ (k j : Nat) (d5 : Option Value), j + k = cnt → 1 ≤ j → am_Go (am_KA lx e) (am_fetch cd_38) Q 52 [some (.ref 81), some (.long (lN (vl8 od pi (mC cd pi cnt cnt) j))), none, some (.int (nI (1 + cnt + tri j))), some (.int (nI j)), d5] [] h 0 0 := by
    intro k
    induction k with
    | zero =>
      intro j d5 hj h1
      obtain rfl : j = cnt := by omega
      have htb := tri_b h5
      refine r_il G (pn := 54) rfl rfl rfl ?_
      refine r_ra G (pn := 55) rfl rfl rfl ?_
      refine r_get G (pn := 58) rfl rfl (by first | assumption | (repeat (first | assumption | exact am_eq (by first | assumption | exact am_eq (by assumption) | exact am_ne (by first | decide | omega) (by assumption)) | refine am_ne (by first | decide | omega) ?_))) rfl ?_
      rw [hm]
      refine r_if2 G (pn := 61) rfl rfl (fun c58 => ?_) (fun c58 => ?_)
      · have hv := vl8_lt (od := od) (pi := pi) h5 hm1 hod (p := j) (Nat.le_refl _)
        have e1 : 8 * 8 ^ j * 8 ^ tri j * 8 ^ (15 - j - tri j) = 8 ^ 16 := by
          rw [← Nat.pow_succ', ← Nat.pow_add, ← Nat.pow_add]
          congr 1
          omega
        have hb2 : vl8 od pi (mC cd pi j j) j * 8 ^ (15 - j - tri j) < 8 ^ 16 := by
          rw [← e1]
          exact Nat.mul_lt_mul_of_pos_right hv (Nat.pow_pos (by decide))
        have e16 : (8 : Nat) ^ 16 < 2 ^ 60 := by decide
        exact pad (15 - j - tri j) (1 + j + tri j) _ _ _ (by omega) (by omega) rfl
      · exact absurd (Int32.le_refl _) c58
    | succ k ih =>
      intro j d5 hj h1
      refine r_il G (pn := 54) rfl rfl rfl ?_
      refine r_ra G (pn := 55) rfl rfl rfl ?_
      refine r_get G (pn := 58) rfl rfl (by first | assumption | (repeat (first | assumption | exact am_eq (by first | assumption | exact am_eq (by assumption) | exact am_ne (by first | decide | omega) (by assumption)) | refine am_ne (by first | decide | omega) ?_))) rfl ?_
      rw [hm]
      refine r_if2 G (pn := 61) rfl rfl (fun c58 => ?_) (fun c58 => ?_)
      · exact absurd ((nI_leI (by omega) (by omega)).mp c58) (by omega)
      · refine r_ic G (pn := 62) rfl rfl  ?_
        refine r_is G (pn := 64) rfl rfl (Nat.le_of_ble_eq_true rfl) ?_
        have hv := vl8_lt (od := od) (pi := pi) h5 hm1 hod (p := j) (by omega)
        have lpi : ∀ (k2 i : Nat), i + k2 = j → am_Go (am_KA lx e) (am_fetch cd_38) Q 64 [some (.ref 81), some (.long (lN (wo8 od pi (pi j) (vl8 od pi (mC cd pi cnt cnt) j) i))), none, some (.int (nI (1 + cnt + tri j + i))), some (.int (nI j)), some (.int (nI i))] [] h 0 0 := by
          intro k2
          induction k2 with
          | zero =>
            intro i hi
            obtain rfl : i = j := by omega
            refine r_il G (pn := 66) rfl rfl rfl ?_
            refine r_il G (pn := 68) rfl rfl rfl ?_
            refine r_if2 G (pn := 71) rfl rfl (fun c68 => ?_) (fun c68 => ?_)
            · refine r_inc G (pn := 114) rfl rfl rfl (Nat.le_of_ble_eq_true rfl) ?_
              refine r_goto G rfl ?_
              rw [nI_1]
              have := ih (i + 1) (some (.int (nI i))) (by omega) (by omega)
              rw [tri_succ (by omega), ← Nat.add_assoc] at this
              exact this
            · exact absurd (Int32.le_refl _) c68
          | succ k2 ih2 =>
            intro i hi
            obtain ⟨t1, t2⟩ := ht i (by omega)
            obtain ⟨u1, u2⟩ := ht j (by omega)
            obtain ⟨v1, v2⟩ := hn _ _ t2 u2
            refine r_il G (pn := 66) rfl rfl rfl ?_
            refine r_il G (pn := 68) rfl rfl rfl ?_
            refine r_if2 G (pn := 71) rfl rfl (fun c68 => ?_) (fun c68 => ?_)
            · exact absurd ((nI_leI (by omega) (by omega)).mp c68) (by omega)
            · refine r_lc G (pn := 74) rfl rfl  ?_
              refine r_ll G (pn := 75) rfl rfl rfl ?_
              refine r_lb G (pn := 76) rfl rfl  ?_
              refine r_ra G (pn := 77) rfl rfl rfl ?_
              refine r_get G (pn := 80) rfl rfl (by first | assumption | (repeat (first | assumption | exact am_eq (by first | assumption | exact am_eq (by assumption) | exact am_ne (by first | decide | omega) (by assumption)) | refine am_ne (by first | decide | omega) ?_))) rfl ?_
              refine r_ic G (pn := 82) rfl rfl  ?_
              refine r_ra G (pn := 83) rfl rfl rfl ?_
              refine r_get G (pn := 86) rfl rfl (by first | assumption | (repeat (first | assumption | exact am_eq (by first | assumption | exact am_eq (by assumption) | exact am_ne (by first | decide | omega) (by assumption)) | refine am_ne (by first | decide | omega) ?_))) rfl ?_
              refine r_il G (pn := 88) rfl rfl rfl ?_
              refine r_ialdN G (pn := 89) rfl rfl h103 (by omega) (by omega) ?_
              rw [t1]
              refine r_ib G (pn := 90) rfl rfl  ?_
              refine r_ra G (pn := 91) rfl rfl rfl ?_
              refine r_get G (pn := 94) rfl rfl (by first | assumption | (repeat (first | assumption | exact am_eq (by first | assumption | exact am_eq (by assumption) | exact am_ne (by first | decide | omega) (by assumption)) | refine am_ne (by first | decide | omega) ?_))) rfl ?_
              refine r_il G (pn := 96) rfl rfl rfl ?_
              refine r_ialdN G (pn := 97) rfl rfl h103 (by omega) (by omega) ?_
              rw [u1, show (10 : Int32) * nI (pi i) = nI (10 * pi i) from pk_mul 10 _]
              refine r_ib G (pn := 98) rfl rfl  ?_
              rw [nI_add]
              refine r_ialdN G (pn := 99) rfl rfl h99 (by omega) (by omega) ?_
              rw [v1]
              refine r_i2l G (pn := 100) rfl rfl  ?_
              refine r_lb G (pn := 101) rfl rfl  ?_
              rw [nI_l (by omega), am_l8]
              refine r_ls G (pn := 102) rfl rfl (Nat.le_of_ble_eq_true rfl) ?_
              refine r_inc G (pn := 105) rfl rfl rfl (Nat.le_of_ble_eq_true rfl) ?_
              refine r_inc G (pn := 108) rfl rfl rfl (Nat.le_of_ble_eq_true rfl) ?_
              refine r_goto G rfl ?_
              rw [nI_1, nI_1]
              exact ih2 (i + 1) (by omega)
        exact lpi j 0 (by omega)
  have lpc : ∀ (k i : Nat), i + k = cnt → am_Go (am_KA lx e) (am_fetch cd_38) Q 11 [some (.ref 81), some (.long (lN (mC cd pi cnt i))), none, some (.int (nI (1 + i))), some (.int (nI i)), none] [] h 0 0 := by
    intro k
    induction k with
    | zero =>
      intro i hi
      obtain rfl : i = cnt := by omega
      refine r_il G (pn := 13) rfl rfl rfl ?_
      refine r_ra G (pn := 14) rfl rfl rfl ?_
      refine r_get G (pn := 17) rfl rfl (by first | assumption | (repeat (first | assumption | exact am_eq (by first | assumption | exact am_eq (by assumption) | exact am_ne (by first | decide | omega) (by assumption)) | refine am_ne (by first | decide | omega) ?_))) rfl ?_
      rw [hm]
      refine r_if2 G (pn := 20) rfl rfl (fun c17 => ?_) (fun c17 => ?_)
      · refine r_ic G (pn := 50) rfl rfl  ?_
        refine r_is G (pn := 52) rfl rfl (Nat.le_of_ble_eq_true rfl) ?_
        exact lpj (i - 1) 1 none (by omega) (by omega)
      · exact absurd (Int32.le_refl _) c17
    | succ k ih =>
      intro i hi
      obtain ⟨t1, t2⟩ := ht i (by omega)
      obtain ⟨v1, v2⟩ := hc _ t2
      refine r_il G (pn := 13) rfl rfl rfl ?_
      refine r_ra G (pn := 14) rfl rfl rfl ?_
      refine r_get G (pn := 17) rfl rfl (by first | assumption | (repeat (first | assumption | exact am_eq (by first | assumption | exact am_eq (by assumption) | exact am_ne (by first | decide | omega) (by assumption)) | refine am_ne (by first | decide | omega) ?_))) rfl ?_
      rw [hm]
      refine r_if2 G (pn := 20) rfl rfl (fun c17 => ?_) (fun c17 => ?_)
      · exact absurd ((nI_leI (by omega) (by omega)).mp c17) (by omega)
      · refine r_lc G (pn := 23) rfl rfl  ?_
        refine r_ll G (pn := 24) rfl rfl rfl ?_
        refine r_lb G (pn := 25) rfl rfl  ?_
        refine r_ra G (pn := 26) rfl rfl rfl ?_
        refine r_get G (pn := 29) rfl rfl (by first | assumption | (repeat (first | assumption | exact am_eq (by first | assumption | exact am_eq (by assumption) | exact am_ne (by first | decide | omega) (by assumption)) | refine am_ne (by first | decide | omega) ?_))) rfl ?_
        refine r_ra G (pn := 30) rfl rfl rfl ?_
        refine r_get G (pn := 33) rfl rfl (by first | assumption | (repeat (first | assumption | exact am_eq (by first | assumption | exact am_eq (by assumption) | exact am_ne (by first | decide | omega) (by assumption)) | refine am_ne (by first | decide | omega) ?_))) rfl ?_
        refine r_il G (pn := 35) rfl rfl rfl ?_
        refine r_ialdN G (pn := 36) rfl rfl h103 (by omega) (by omega) ?_
        rw [t1]
        refine r_ialdN G (pn := 37) rfl rfl h96 (by omega) (by omega) ?_
        rw [v1]
        refine r_i2l G (pn := 38) rfl rfl  ?_
        refine r_lb G (pn := 39) rfl rfl  ?_
        rw [nI_l (by omega), am_l8]
        refine r_ls G (pn := 40) rfl rfl (Nat.le_of_ble_eq_true rfl) ?_
        refine r_inc G (pn := 43) rfl rfl rfl (Nat.le_of_ble_eq_true rfl) ?_
        refine r_inc G (pn := 46) rfl rfl rfl (Nat.le_of_ble_eq_true rfl) ?_
        refine r_goto G rfl ?_
        rw [nI_1, nI_1]
        exact ih (i + 1) (by omega)
  exact lpc cnt 0 (by omega)
end
