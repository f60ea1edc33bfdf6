/-- digits of base 16, 4, 8 -/
def e16 (f : Nat → Nat) : Nat → Nat
  | 0 => 0
  | k + 1 => e16 f k * 16 + f k
def e4 (f : Nat → Nat) : Nat → Nat
  | 0 => 0
  | k + 1 => e4 f k * 4 + f k
def e8 (f : Nat → Nat) : Nat → Nat
  | 0 => 0
  | k + 1 => e8 f k * 8 + f k
theorem e16_lt {f : Nat → Nat} {n : Nat} (h : ∀ i, i < n → f i < 16) : e16 f n < 16 ^ n := by
  induction n with
  | zero => exact Nat.zero_lt_one
  | succ k ih =>
    have := ih (fun i hi => h i (by omega))
    have := h k (by omega)
    show e16 f k * 16 + f k < 16 ^ (k + 1)
    rw [Nat.pow_succ]
    omega
theorem e4_lt {f : Nat → Nat} {n : Nat} (h : ∀ i, i < n → f i < 4) : e4 f n < 4 ^ n := by
  induction n with
  | zero => exact Nat.zero_lt_one
  | succ k ih =>
    have := ih (fun i hi => h i (by omega))
    have := h k (by omega)
    show e4 f k * 4 + f k < 4 ^ (k + 1)
    rw [Nat.pow_succ]
    omega
theorem e8_lt {f : Nat → Nat} {n : Nat} (h : ∀ i, i < n → f i < 8) : e8 f n < 8 ^ n := by
  induction n with
  | zero => exact Nat.zero_lt_one
  | succ k ih =>
    have := ih (fun i hi => h i (by omega))
    have := h k (by omega)
    show e8 f k * 8 + f k < 8 ^ (k + 1)
    rw [Nat.pow_succ]
    omega
section
variable {lx : am_Lx} {d : Nat} {h : am_H} {Q : am_Q}
theorem sp_99 (hd : 1 ≤ d) {a : Nat} {t : Nat → Nat} {f : Nat → Int32} (ha : h[a]? = some (aI 5 f)) (hf : ∀ k, k < 5 → f k = nI (t k) - 1) (ht : ∀ k, k < 5 → t k < 16) (hq : Q (some (.int (nI (e16 t 5)))) h) : am_KA lx d 99 [.ref a] h Q := by
  obtain ⟨e, rfl⟩ : ∃ e, d = e + 1 := ⟨d - 1, by omega⟩
  have G : am_GK (am_KA lx e) cd_99 := ⟨am_KA_m lx e, cm_99⟩
  refine am_KA_in (by decide) (Nat.le_of_ble_eq_true rfl) ?_
  show am_Go (am_KA lx e) (am_fetch cd_99) Q 0 [some (.ref a), none, none] [] h 0 0
  refine r_ic G (pn := 1) rfl rfl  ?_
  refine r_is G (pn := 2) rfl rfl (Nat.le_of_ble_eq_true rfl) ?_
  refine r_ic G (pn := 3) rfl rfl  ?_
  refine r_is G (pn := 4) rfl rfl (Nat.le_of_ble_eq_true rfl) ?_
  have lp : ∀ n i, i + n = 5 → am_Go (am_KA lx e) (am_fetch cd_99) Q 4 [some (.ref a), some (.int (nI (e16 t i))), some (.int (nI i))] [] h 0 0 := by
    intro n
    induction n with
    | zero =>
      intro i hi
      obtain rfl : i = 5 := by omega
      refine r_il G (pn := 5) rfl rfl rfl ?_
      refine r_ic G (pn := 6) rfl rfl  ?_
      refine r_if2 G (pn := 9) rfl rfl (fun c6 => ?_) (fun c6 => ?_)
      · refine r_il G (pn := 26) rfl rfl rfl ?_
        refine r_iret G rfl rfl hq
      · exact absurd (by decide) c6
    | succ n ih =>
      intro i hi
      refine r_il G (pn := 5) rfl rfl rfl ?_
      refine r_ic G (pn := 6) rfl rfl  ?_
      refine r_if2 G (pn := 9) rfl rfl (fun c6 => ?_) (fun c6 => ?_)
      · exact absurd ((nI_leI (a := 5) (b := i) (by omega) (by omega)).mp c6) (by omega)
      · refine r_il G (pn := 10) rfl rfl rfl ?_
        refine r_ic G (pn := 11) rfl rfl  ?_
        refine r_ib G (pn := 12) rfl rfl  ?_
        refine r_ra G (pn := 13) rfl rfl rfl ?_
        refine r_il G (pn := 14) rfl rfl rfl ?_
        refine r_ialdN G (pn := 15) rfl rfl (by assumption) (by omega) (by omega) ?_
        rw [hf i (by omega)]
        refine r_ic G (pn := 16) rfl rfl  ?_
        refine r_ib G (pn := 17) rfl rfl  ?_
        refine r_ib G (pn := 18) rfl rfl  ?_
        have h1 := ht i (by omega)
        have h2 : e16 t i < 16 ^ i := e16_lt (fun k hk => ht k (by omega))
        have h3 : (16 : Nat) ^ i ≤ 16 ^ 4 := Nat.pow_le_pow_right (by decide) (by omega)
        have h4 : (16 : Nat) ^ 4 = 65536 := by decide
        rw [show nI (t i) - 1 + 1 = nI (t i) from Int32.sub_add_cancel _ _, am_push4 h1 (by omega)]
        refine r_is G (pn := 19) rfl rfl (Nat.le_of_ble_eq_true rfl) ?_
        refine r_inc G (pn := 22) rfl rfl rfl (Nat.le_of_ble_eq_true rfl) ?_
        refine r_goto G rfl ?_
        rw [nI_1]
        exact ih (i + 1) (by omega)
  exact lp 5 0 rfl
theorem sp_100 (hd : 1 ≤ d) {g n i k r : Nat} {c9 : Int32} {f : Nat → Int32} (hg : h[g]? = some (lO g c9)) (hf : h[g + 1]? = some (aI 40 f)) (hi : i < 40) (hk : k < 5) (hr : f i = nI r) (hr2 : r < 2 ^ 31) (hq : Q (some (.int (nI (r / 2 ^ (4 * (4 - k)) % 16) - 1))) h) : am_KA lx d 100 [.ref g, .int (nI i), .int (nI k)] h Q := by
  obtain ⟨e, rfl⟩ : ∃ e, d = e + 1 := ⟨d - 1, by omega⟩
  have G : am_GK (am_KA lx e) cd_100 := ⟨am_KA_m lx e, cm_100⟩
  refine am_KA_in (by decide) (Nat.le_of_ble_eq_true rfl) ?_
  show am_Go (am_KA lx e) (am_fetch cd_100) Q 0 [some (.ref g), some (.int (nI i)), some (.int (nI k))] [] h 0 0
  refine r_ra G (pn := 1) rfl rfl rfl ?_
  refine r_get G (pn := 4) rfl rfl (by first | assumption | (repeat (first | assumption | exact am_eq (by first | assumption | exact am_eq (by assumption) | exact am_ne (by first | decide | omega) (by assumption)) | refine am_ne (by first | decide | omega) ?_))) rfl ?_
  refine r_il G (pn := 5) rfl rfl rfl ?_
  refine r_ialdN G (pn := 6) rfl rfl (by assumption) hi (by omega) ?_
  rw [hr]
  refine r_ic G (pn := 7) rfl rfl  ?_
  refine r_ic G (pn := 8) rfl rfl  ?_
  refine r_il G (pn := 9) rfl rfl rfl ?_
  refine r_ib G (pn := 10) rfl rfl  ?_
  refine r_ib G (pn := 11) rfl rfl  ?_
  refine r_ib G (pn := 12) rfl rfl  ?_
  refine r_ic G (pn := 14) rfl rfl  ?_
  refine r_ib G (pn := 15) rfl rfl  ?_
  refine r_ic G (pn := 16) rfl rfl  ?_
  refine r_ib G (pn := 17) rfl rfl  ?_
  rw [show (4 : Int32) - nI k = nI (4 - k) from pk_sub (a := 4) (by omega), show (4 : Int32) * nI (4 - k) = nI (4 * (4 - k)) from pk_mul 4 _, am_shrI hr2 (by omega), am_and15]
  refine r_iret G rfl rfl hq
theorem sp_101 (hd : 1 ≤ d) {g g2 n : Nat} {c9 : Int32} {f k : Nat → Int32} (hg : h[g]? = some (lO g c9)) (hf : h[g + 1]? = some (aI 40 f)) (hg2 : h[g2]? = some (lO g2 (nI n))) (hf2 : h[g2 + 1]? = some (aI 40 k)) (hn : n ≤ 40) (h1 : g ≠ g2) (h2 : g + 1 ≠ g2) (hq : Q none ((h.set (g + 1) (aI 40 (va_cpy k f 0 0 n))).set g (lO g (nI n)))) : am_KA lx d 101 [.ref g, .ref g2] h Q := by
  obtain ⟨e, rfl⟩ : ∃ e, d = e + 1 := ⟨d - 1, by omega⟩
  have G : am_GK (am_KA lx e) cd_101 := ⟨am_KA_m lx e, cm_101⟩
  refine am_KA_in (by decide) (Nat.le_of_ble_eq_true rfl) ?_
  show am_Go (am_KA lx e) (am_fetch cd_101) Q 0 [some (.ref g), some (.ref g2)] [] h 0 0
  refine r_ra G (pn := 1) rfl rfl rfl ?_
  refine r_get G (pn := 4) rfl rfl (by first | assumption | (repeat (first | assumption | exact am_eq (by first | assumption | exact am_eq (by assumption) | exact am_ne (by first | decide | omega) (by assumption)) | refine am_ne (by first | decide | omega) ?_))) rfl ?_
  refine r_ic G (pn := 5) rfl rfl  ?_
  refine r_ra G (pn := 6) rfl rfl rfl ?_
  refine r_get G (pn := 9) rfl rfl (by first | assumption | (repeat (first | assumption | exact am_eq (by first | assumption | exact am_eq (by assumption) | exact am_ne (by first | decide | omega) (by assumption)) | refine am_ne (by first | decide | omega) ?_))) rfl ?_
  refine r_ic G (pn := 10) rfl rfl  ?_
  refine r_ra G (pn := 11) rfl rfl rfl ?_
  refine r_get G (pn := 14) rfl rfl (by first | assumption | (repeat (first | assumption | exact am_eq (by first | assumption | exact am_eq (by assumption) | exact am_ne (by first | decide | omega) (by assumption)) | refine am_ne (by first | decide | omega) ?_))) rfl ?_
  refine r_copy G (pn := 17) rfl rfl hf hf2 (Nat.le_of_ble_eq_true rfl) (by decide) (by decide) (nI_pos (by omega)) (by rw [nI_clamp (by omega)]; show 0 + n ≤ 40; omega) (by rw [nI_clamp (by omega)]; show 0 + n ≤ 40; omega) ?_
  rw [nI_clamp (by omega)]
  refine r_ra G (pn := 18) rfl rfl rfl ?_
  refine r_ra G (pn := 19) rfl rfl rfl ?_
  refine r_get G (pn := 22) rfl rfl (by first | assumption | (repeat (first | assumption | exact am_eq (by first | assumption | exact am_eq (by assumption) | exact am_ne (by first | decide | omega) (by assumption)) | refine am_ne (by first | decide | omega) ?_))) rfl ?_
  refine r_puti G (pn := 25) rfl rfl (by first | assumption | (repeat (first | assumption | exact am_eq (by first | assumption | exact am_eq (by assumption) | exact am_ne (by first | decide | omega) (by assumption)) | refine am_ne (by first | decide | omega) ?_))) (Nat.le_of_ble_eq_true rfl) ?_
  refine r_vret G rfl hq
theorem sp_102 (hd : 2 ≤ d) {g n : Nat} {x : Int32} {f : Nat → Int32} (hg : h[g]? = some (lO g (nI n))) (hf : h[g + 1]? = some (aI 40 f)) (hn : n ≤ 40) (hthere : (∃ i, i < n ∧ f i = x) → Q (some (.int 1)) h) (hfull : (∀ i, i < n → f i ≠ x) → n = 40 → Q (some (.int 0)) h)
    (hnew : ∀ (p : Nat) (f' : Nat → Int32), (∀ i, i < n → f i ≠ x) → n < 40 → p ≤ n → (∀ i, i < p → f' i = f i) → f' p = x → (∀ i, p < i → i ≤ n → f' i = f (i - 1)) → (∀ i, p ≤ i → i < n → x < f i) → (p = 0 ∨ f (p - 1) ≤ x) → Q (some (.int 1)) ((h.set (g + 1) (aI 40 f')).set g (lO g (nI (n + 1))))) : am_KA lx d 102 [.ref g, .int x] h Q := by
  obtain ⟨e, rfl⟩ : ∃ e, d = e + 1 := ⟨d - 1, by omega⟩
  have G : am_GK (am_KA lx e) cd_102 := ⟨am_KA_m lx e, cm_102⟩
  refine am_KA_in (by decide) (Nat.le_of_ble_eq_true rfl) ?_
  show am_Go (am_KA lx e) (am_fetch cd_102) Q 0 [some (.ref g), some (.int x), none] [] h 0 0
  refine r_ra G (pn := 1) rfl rfl rfl ?_
  refine r_il G (pn := 2) rfl rfl rfl ?_
  refine r_inv2 G (pn := 5) rfl rfl (by first | assumption | (repeat (first | assumption | exact am_eq (by first | assumption | exact am_eq (by assumption) | exact am_ne (by first | decide | omega) (by assumption)) | refine am_ne (by first | decide | omega) ?_))) (Nat.le_of_ble_eq_true rfl) (Nat.le_of_ble_eq_true rfl) (Nat.le_of_ble_eq_true rfl) (sp_103 (by omega) hg hf hn (fun hno => ?_) (fun hyes => ?_))
  · show am_Go (am_KA lx e) (am_fetch cd_102) Q 5 [some (.ref g), some (.int x), none] [.int 0] h 0 0
    refine r_if1 G (pn := 8) rfl rfl (fun c5 => ?_) (fun c5 => ?_)
    · refine r_ra G (pn := 11) rfl rfl rfl ?_
      refine r_get G (pn := 14) rfl rfl (by first | assumption | (repeat (first | assumption | exact am_eq (by first | assumption | exact am_eq (by assumption) | exact am_ne (by first | decide | omega) (by assumption)) | refine am_ne (by first | decide | omega) ?_))) rfl ?_
      refine r_ic G (pn := 16) rfl rfl  ?_
      refine r_if2 G (pn := 19) rfl rfl (fun c16 => ?_) (fun c16 => ?_)
      · have hlt : n < 40 := (nI_ltI (b := 40) (by omega) (by omega)).mp c16
        refine r_ra G (pn := 22) rfl rfl rfl ?_
        refine r_get G (pn := 25) rfl rfl (by first | assumption | (repeat (first | assumption | exact am_eq (by first | assumption | exact am_eq (by assumption) | exact am_ne (by first | decide | omega) (by assumption)) | refine am_ne (by first | decide | omega) ?_))) rfl ?_
        refine r_is G (pn := 26) rfl rfl (Nat.le_of_ble_eq_true rfl) ?_
        have fin : ∀ (p : Nat) (f1 : Nat → Int32) (h1 : am_H), h1 = h.set (g + 1) (aI 40 f1) ∨ (h1 = h ∧ f1 = f) → p ≤ n → (∀ i, i < p → f1 i = f i) → (∀ i, p < i → i ≤ n → f1 i = f (i - 1)) → (∀ i, p ≤ i → i < n → x < f i) → (p = 0 ∨ f (p - 1) ≤ x) → am_Go (am_KA lx e) (am_fetch cd_102) Q 62 [some (.ref g), some (.int x), some (.int (nI p))] [] h1 0 0 := by
          intro p f1 h1 hh hp a1 a2 a3 a4
          have hg1 : h1[g]? = some (lO g (nI n)) := by
            rcases hh with q | q
            · rw [q]; exact am_ne (by omega) hg
            · rw [q.1]; exact hg
          have hf1 : h1[g + 1]? = some (aI 40 f1) := by
            rcases hh with q | q
            · rw [q]; exact am_eq hf
            · rw [q.1, q.2]; exact hf
          have hs1 : h1.set (g + 1) (aI 40 (upd f1 p x)) = h.set (g + 1) (aI 40 (upd f1 p x)) := by
            rcases hh with q | q
            · rw [q, List.set_set]
            · rw [q.1]
          refine r_ra G (pn := 63) rfl rfl rfl ?_
          refine r_get G (pn := 66) rfl rfl (by first | assumption | (repeat (first | assumption | exact am_eq (by first | assumption | exact am_eq (by assumption) | exact am_ne (by first | decide | omega) (by assumption)) | refine am_ne (by first | decide | omega) ?_))) rfl ?_
          refine r_il G (pn := 67) rfl rfl rfl ?_
          refine r_il G (pn := 68) rfl rfl rfl ?_
          refine r_iastN G (pn := 69) rfl rfl hf1 (by omega) (by omega) ?_
          rw [hs1]
          refine r_ra G (pn := 70) rfl rfl rfl ?_
          refine r_dup G (pn := 71) rfl rfl rfl ?_
          refine r_get G (pn := 74) rfl rfl (by first | assumption | (repeat (first | assumption | exact am_eq (by first | assumption | exact am_eq (by assumption) | exact am_ne (by first | decide | omega) (by assumption)) | refine am_ne (by first | decide | omega) ?_))) rfl ?_
          refine r_ic G (pn := 75) rfl rfl  ?_
          refine r_ib G (pn := 76) rfl rfl  ?_
          rw [nI_1]
          refine r_puti G (pn := 79) rfl rfl (by first | assumption | (repeat (first | assumption | exact am_eq (by first | assumption | exact am_eq (by assumption) | exact am_ne (by first | decide | omega) (by assumption)) | refine am_ne (by first | decide | omega) ?_))) (Nat.le_of_ble_eq_true rfl) ?_
          refine r_ic G (pn := 80) rfl rfl  ?_
          refine r_iret G rfl (by decide) ?_
          refine hnew p (upd f1 p x) hno hlt hp (fun i hi => ?_) pk_us (fun i h1 h2 => ?_) a3 a4
          · rw [pk_un (by omega)]; exact a1 i hi
          · rw [pk_un (by omega)]; exact a2 i h1 h2
        have lp : ∀ (p : Nat) (f1 : Nat → Int32) (h1 : am_H), h1 = h.set (g + 1) (aI 40 f1) ∨ (h1 = h ∧ f1 = f) → p ≤ n → (∀ i, i < p → f1 i = f i) → (∀ i, p < i → i ≤ n → f1 i = f (i - 1)) → (∀ i, p ≤ i → i < n → x < f i) → am_Go (am_KA lx e) (am_fetch cd_102) Q 26 [some (.ref g), some (.int x), some (.int (nI p))] [] h1 0 0 := by
          intro p
          induction p with
          | zero =>
            intro f1 h1 hh hp a1 a2 a3
            refine r_il G (pn := 27) rfl rfl rfl ?_
            refine r_if1 G (pn := 30) rfl rfl (fun c27 => ?_) (fun c27 => ?_)
            · exact fin 0 f1 h1 hh hp a1 a2 a3 (Or.inl rfl)
            · exact absurd (by decide) c27
          | succ p ih =>
            intro f1 h1 hh hp a1 a2 a3
            have hg1 : h1[g]? = some (lO g (nI n)) := by
              rcases hh with q | q
              · rw [q]; exact am_ne (by omega) hg
              · rw [q.1]; exact hg
            have hf1 : h1[g + 1]? = some (aI 40 f1) := by
              rcases hh with q | q
              · rw [q]; exact am_eq hf
              · rw [q.1, q.2]; exact hf
            refine r_il G (pn := 27) rfl rfl rfl ?_
            refine r_if1 G (pn := 30) rfl rfl (fun c27 => ?_) (fun c27 => ?_)
            · exact absurd c27 (nI_nle (by omega) (by omega))
            · refine r_ra G (pn := 31) rfl rfl rfl ?_
              refine r_get G (pn := 34) rfl rfl (by first | assumption | (repeat (first | assumption | exact am_eq (by first | assumption | exact am_eq (by assumption) | exact am_ne (by first | decide | omega) (by assumption)) | refine am_ne (by first | decide | omega) ?_))) rfl ?_
              refine r_il G (pn := 35) rfl rfl rfl ?_
              refine r_ic G (pn := 36) rfl rfl  ?_
              refine r_ib G (pn := 37) rfl rfl  ?_
              rw [nI_pred]
              refine r_ialdN G (pn := 38) rfl rfl hf1 (by omega) (by omega) ?_
              refine r_il G (pn := 39) rfl rfl rfl ?_
              rw [a1 p (by omega)]
              refine r_if2 G (pn := 42) rfl rfl (fun c39 => ?_) (fun c39 => ?_)
              · exact fin (p + 1) f1 h1 hh hp a1 a2 a3 (Or.inr c39)
              · refine r_ra G (pn := 43) rfl rfl rfl ?_
                refine r_get G (pn := 46) rfl rfl (by first | assumption | (repeat (first | assumption | exact am_eq (by first | assumption | exact am_eq (by assumption) | exact am_ne (by first | decide | omega) (by assumption)) | refine am_ne (by first | decide | omega) ?_))) rfl ?_
                refine r_il G (pn := 47) rfl rfl rfl ?_
                refine r_ra G (pn := 48) rfl rfl rfl ?_
                refine r_get G (pn := 51) rfl rfl (by first | assumption | (repeat (first | assumption | exact am_eq (by first | assumption | exact am_eq (by assumption) | exact am_ne (by first | decide | omega) (by assumption)) | refine am_ne (by first | decide | omega) ?_))) rfl ?_
                refine r_il G (pn := 52) rfl rfl rfl ?_
                refine r_ic G (pn := 53) rfl rfl  ?_
                refine r_ib G (pn := 54) rfl rfl  ?_
                rw [nI_pred]
                refine r_ialdN G (pn := 55) rfl rfl hf1 (by omega) (by omega) ?_
                refine r_iastN G (pn := 56) rfl rfl hf1 (by omega) (by omega) ?_
                refine r_inc G (pn := 59) rfl rfl rfl (Nat.le_of_ble_eq_true rfl) ?_
                refine r_goto G rfl ?_
                rw [pk_m1]
                refine ih (upd f1 (p + 1) (f1 p)) _ ?_ (by omega) (fun i hi => ?_) (fun i h1 h2 => ?_) (fun i h1 h2 => ?_)
                · rcases hh with q | q
                  · rw [q, List.set_set]; exact Or.inl rfl
                  · rw [q.1]; exact Or.inl rfl
                · rw [pk_un (by omega)]; exact a1 i (by omega)
                · by_cases hi : i = p + 1
                  · rw [hi, pk_us]; exact a1 p (by omega)
                  · rw [pk_un hi]; exact a2 i (by omega) h2
                · by_cases hi : i = p
                  · rw [hi]; exact Int32.not_le.mp c39
                  · exact a3 i (by omega) h2
        exact lp n f h (Or.inr ⟨rfl, rfl⟩) (by omega) (fun _ _ => rfl) (fun i h1 h2 => absurd h1 (by omega)) (fun i h1 h2 => absurd h1 (by omega))
      · have hge : n = 40 := by
          have : ¬ n < 40 := fun q => c16 ((nI_ltI (b := 40) (by omega) (by omega)).mpr q)
          omega
        refine r_ic G (pn := 20) rfl rfl  ?_
        refine r_iret G rfl (by decide) (hfull hno hge)
    · exact absurd rfl c5
  · show am_Go (am_KA lx e) (am_fetch cd_102) Q 5 [some (.ref g), some (.int x), none] [.int 1] h 0 0
    refine r_if1 G (pn := 8) rfl rfl (fun c5 => ?_) (fun c5 => ?_)
    · exact absurd c5 (by decide)
    · refine r_ic G (pn := 9) rfl rfl  ?_
      refine r_iret G rfl (by decide) (hthere hyes)
end
