/-- how many of k values from place a on have a property -/
def cn {α : Type} (P : α → Bool) (f : Nat → α) (a : Nat) : Nat → Nat
  | 0 => 0
  | k + 1 => cn P f a k + (if P (f (a + k)) = true then 1 else 0)
theorem cn_congr {α : Type} {P : α → Bool} {f g : Nat → α} {a : Nat} : ∀ {k : Nat}, (∀ i, i < k → f (a + i) = g (a + i)) → cn P f a k = cn P g a k
  | 0, _ => rfl
  | k + 1, h => by
    show cn P f a k + _ = cn P g a k + _
    rw [cn_congr (fun i hi => h i (by omega)), h k (by omega)]
theorem cn_swap {α : Type} {P : α → Bool} {f g : Nat → α} {a i : Nat} (h1 : g (a + i) = f (a + i + 1)) (h2 : g (a + i + 1) = f (a + i)) (h3 : ∀ j, j ≠ a + i → j ≠ a + i + 1 → g j = f j) : ∀ {k : Nat}, i + 1 < k → cn P g a k = cn P f a k
  | 0, h => absurd h (by omega)
  | k + 1, h => by
    by_cases hk : i + 1 < k
    · show cn P g a k + _ = cn P f a k + _
      rw [cn_swap h1 h2 h3 hk, h3 (a + k) (by omega) (by omega)]
    · obtain rfl : k = i + 1 := by omega
      show cn P g a i + (if P (g (a + i)) = true then 1 else 0) + (if P (g (a + (i + 1))) = true then 1 else 0) = cn P f a i + (if P (f (a + i)) = true then 1 else 0) + (if P (f (a + (i + 1))) = true then 1 else 0)
      rw [cn_congr (f := g) (g := f) (fun j hj => h3 (a + j) (by omega) (by omega)), h1, show g (a + (i + 1)) = f (a + i) from h2, show f (a + i + 1) = f (a + (i + 1)) from rfl]
      omega
theorem cn_le {α : Type} {P : α → Bool} {f : Nat → α} {a : Nat} : ∀ {k : Nat}, cn P f a k ≤ k
  | 0 => Nat.le_refl 0
  | k + 1 => by
    have := cn_le (P := P) (f := f) (a := a) (k := k)
    show cn P f a k + _ ≤ k + 1
    split <;> omega
theorem cn_ge {α : Type} {P : α → Bool} {f : Nat → α} {a m : Nat} (h : ∀ i, i < m → P (f (a + i)) = true) : ∀ {k : Nat}, m ≤ k → m ≤ cn P f a k
  | 0, h0 => by omega
  | k + 1, h0 => by
    show m ≤ cn P f a k + _
    by_cases hk : m ≤ k
    · have := cn_ge h hk
      omega
    · obtain rfl : m = k + 1 := by omega
      rw [if_pos (h k (by omega))]
      have := cn_ge (m := k) (fun i hi => h i (by omega)) (Nat.le_refl k)
      omega
theorem cn_no {α : Type} {P : α → Bool} {f : Nat → α} {a m : Nat} : ∀ {k : Nat}, (∀ i, m ≤ i → i < k → ¬ P (f (a + i)) = true) → cn P f a k ≤ m
  | 0, _ => Nat.zero_le _
  | k + 1, h => by
    have ih := cn_no (P := P) (f := f) (a := a) (m := m) (k := k) (fun i h1 h2 => h i h1 (by omega))
    show cn P f a k + _ ≤ m
    by_cases hk : m ≤ k
    · rw [if_neg (h k hk (by omega))]
      exact ih
    · have := cn_le (P := P) (f := f) (a := a) (k := k)
      split <;> omega
/-- sorted rows with the same counts are the same -/
theorem srt_uniq32 {f g : Nat → Int32} {a k : Nat} (hf : ∀ i j, i < j → j < k → f (a + i) ≤ f (a + j)) (hg : ∀ i j, i < j → j < k → g (a + i) ≤ g (a + j)) (hc : ∀ P : Int32 → Bool, cn P f a k = cn P g a k) : ∀ i, i < k → f (a + i) = g (a + i) := by
  have key : ∀ (f g : Nat → Int32), (∀ i j, i < j → j < k → f (a + i) ≤ f (a + j)) → (∀ i j, i < j → j < k → g (a + i) ≤ g (a + j)) → (∀ P : Int32 → Bool, cn P f a k = cn P g a k) → ∀ i, i < k → ¬ f (a + i) < g (a + i) := by
    intro f g hf hg hc i hi hlt
    have h1 : i + 1 ≤ cn (fun x => decide (x ≤ f (a + i))) f a k := cn_ge (fun j hj => by
      apply decide_eq_true
      by_cases q : j = i
      · rw [q]; exact Int32.le_refl _
      · exact hf j i (by omega) hi) (by omega)
    have h2 : cn (fun x => decide (x ≤ f (a + i))) g a k ≤ i := cn_no (fun j h3 h4 q => by
      have q := of_decide_eq_true q
      by_cases e : j = i
      · rw [e] at q
        exact Int32.not_lt.mpr q hlt
      · have := hg i j (by omega) h4
        exact Int32.not_lt.mpr (Int32.le_trans this q) hlt)
    have := hc (fun x => decide (x ≤ f (a + i)))
    omega
  intro i hi
  have h1 := key f g hf hg hc i hi
  have h2 := key g f hg hf (fun P => (hc P).symm) i hi
  exact Int32.le_antisymm (Int32.not_lt.mp h2) (Int32.not_lt.mp h1)
section
variable {lx : am_Lx} {d : Nat} {h : am_H} {Q : am_Q}
theorem sp_122 (hd : 1 ≤ d) {n : Nat} {w : Int64} {wd : Nat → Int64} (h39 : h[39]? = some (tO (nI n))) (h40 : h[40]? = some (aL 12 wd)) (hn : n ≤ 12) (hfound : ∀ i, i < n → wd i = w → (∀ j, j < i → wd j ≠ w) → Q (some (.int (nI i))) h) (hfull : (∀ i, i < n → wd i ≠ w) → n = 12 → Q (some (.int (-1))) h)
    (hnew : (∀ i, i < n → wd i ≠ w) → n < 12 → Q (some (.int (nI n))) ((h.set 40 (aL 12 (vp_updL wd n w))).set 39 (tO (nI (n + 1))))) : am_KA lx d 122 [.ref 39, .long w] h Q := by
  obtain ⟨e, rfl⟩ : ∃ e, d = e + 1 := ⟨d - 1, by omega⟩
  have G : am_GK (am_KA lx e) cd_122 := ⟨am_KA_m lx e, cm_122⟩
  refine am_KA_in (by decide) (Nat.le_of_ble_eq_true rfl) ?_
  show am_Go (am_KA lx e) (am_fetch cd_122) Q 0 [some (.ref 39), some (.long w), none, none] [] h 0 0
  refine r_ic G (pn := 1) rfl rfl  ?_
  refine r_is G (pn := 2) rfl rfl (Nat.le_of_ble_eq_true rfl) ?_
  have lp : ∀ k i, i + k = n → (∀ q, q < i → wd q ≠ w) → am_Go (am_KA lx e) (am_fetch cd_122) Q 2 [some (.ref 39), some (.long w), none, some (.int (nI i))] [] h 0 0 := by
    intro k
    induction k with
    | zero =>
      intro i hi hs
      refine r_il G (pn := 3) rfl rfl rfl ?_
      refine r_ra G (pn := 4) rfl rfl rfl ?_
      refine r_get G (pn := 7) rfl rfl (by first | assumption | (repeat (first | assumption | exact am_eq (by first | assumption | exact am_eq (by assumption) | exact am_ne (by first | decide | omega) (by assumption)) | refine am_ne (by first | decide | omega) ?_))) rfl ?_
      refine r_if2 G (pn := 10) rfl rfl (fun c7 => ?_) (fun c7 => ?_)
      · have hno : ∀ q, q < n → wd q ≠ w := fun q hq => hs q (by omega)
        refine r_ra G (pn := 30) rfl rfl rfl ?_
        refine r_get G (pn := 33) rfl rfl (by first | assumption | (repeat (first | assumption | exact am_eq (by first | assumption | exact am_eq (by assumption) | exact am_ne (by first | decide | omega) (by assumption)) | refine am_ne (by first | decide | omega) ?_))) rfl ?_
        refine r_ic G (pn := 35) rfl rfl  ?_
        refine r_if2 G (pn := 38) rfl rfl (fun c35 => ?_) (fun c35 => ?_)
        · have hlt : n < 12 := (nI_ltI (b := 12) (by omega) (by omega)).mp c35
          refine r_ra G (pn := 41) rfl rfl rfl ?_
          refine r_get G (pn := 44) rfl rfl (by first | assumption | (repeat (first | assumption | exact am_eq (by first | assumption | exact am_eq (by assumption) | exact am_ne (by first | decide | omega) (by assumption)) | refine am_ne (by first | decide | omega) ?_))) rfl ?_
          refine r_ra G (pn := 45) rfl rfl rfl ?_
          refine r_get G (pn := 48) rfl rfl (by first | assumption | (repeat (first | assumption | exact am_eq (by first | assumption | exact am_eq (by assumption) | exact am_ne (by first | decide | omega) (by assumption)) | refine am_ne (by first | decide | omega) ?_))) rfl ?_
          refine r_ll G (pn := 49) rfl rfl rfl ?_
          refine r_lastN G (pn := 50) rfl rfl (by assumption) (by omega) (by omega) ?_
          refine r_ra G (pn := 51) rfl rfl rfl ?_
          refine r_dup G (pn := 52) rfl rfl rfl ?_
          refine r_get G (pn := 55) rfl rfl (by first | assumption | (repeat (first | assumption | exact am_eq (by first | assumption | exact am_eq (by assumption) | exact am_ne (by first | decide | omega) (by assumption)) | refine am_ne (by first | decide | omega) ?_))) rfl ?_
          refine r_ic G (pn := 56) rfl rfl  ?_
          refine r_ib G (pn := 57) rfl rfl  ?_
          rw [nI_1]
          refine r_puti G (pn := 60) rfl rfl (by first | assumption | (repeat (first | assumption | exact am_eq (by first | assumption | exact am_eq (by assumption) | exact am_ne (by first | decide | omega) (by assumption)) | refine am_ne (by first | decide | omega) ?_))) (Nat.le_of_ble_eq_true rfl) ?_
          refine r_ra G (pn := 61) rfl rfl rfl ?_
          refine r_get G (pn := 64) rfl rfl (by first | assumption | (repeat (first | assumption | exact am_eq (by first | assumption | exact am_eq (by assumption) | exact am_ne (by first | decide | omega) (by assumption)) | refine am_ne (by first | decide | omega) ?_))) rfl ?_
          refine r_ic G (pn := 65) rfl rfl  ?_
          refine r_ib G (pn := 66) rfl rfl  ?_
          rw [nI_pred]
          refine r_iret G rfl rfl (hnew hno hlt)
        · have hge : n = 12 := by
            have : ¬ n < 12 := fun q => c35 ((nI_ltI (b := 12) (by omega) (by omega)).mpr q)
            omega
          refine r_ic G (pn := 39) rfl rfl  ?_
          refine r_iret G rfl rfl (hfull hno hge)
      · exact absurd ((nI_leI (by omega) (by omega)).mpr (by omega)) c7
    | succ k ih =>
      intro i hi hs
      refine r_il G (pn := 3) rfl rfl rfl ?_
      refine r_ra G (pn := 4) rfl rfl rfl ?_
      refine r_get G (pn := 7) rfl rfl (by first | assumption | (repeat (first | assumption | exact am_eq (by first | assumption | exact am_eq (by assumption) | exact am_ne (by first | decide | omega) (by assumption)) | refine am_ne (by first | decide | omega) ?_))) rfl ?_
      refine r_if2 G (pn := 10) rfl rfl (fun c7 => ?_) (fun c7 => ?_)
      · exact absurd ((nI_leI (by omega) (by omega)).mp c7) (by omega)
      · refine r_ra G (pn := 11) rfl rfl rfl ?_
        refine r_get G (pn := 14) rfl rfl (by first | assumption | (repeat (first | assumption | exact am_eq (by first | assumption | exact am_eq (by assumption) | exact am_ne (by first | decide | omega) (by assumption)) | refine am_ne (by first | decide | omega) ?_))) rfl ?_
        refine r_il G (pn := 15) rfl rfl rfl ?_
        refine r_laldN G (pn := 16) rfl rfl (by assumption) (by omega) (by omega) ?_
        refine r_ll G (pn := 17) rfl rfl rfl ?_
        refine r_lcmp G (pn := 18) rfl rfl  ?_
        refine r_if1 G (pn := 21) rfl rfl (fun c18 => ?_) (fun c18 => ?_)
        · refine r_inc G (pn := 26) rfl rfl rfl (Nat.le_of_ble_eq_true rfl) ?_
          refine r_goto G rfl ?_
          rw [nI_1]
          refine ih (i + 1) (by omega) (fun q hq => ?_)
          by_cases hqi : q = i
          · rw [hqi]; exact fun z => c18 ((lg_cmp_eq _ _).mpr z)
          · exact hs q (by omega)
        · refine r_il G (pn := 22) rfl rfl rfl ?_
          refine r_iret G rfl rfl (hfound i (by omega) ((lg_cmp_eq _ _).mp (Classical.byContradiction c18)) hs)
  exact lp n 0 (by omega) (fun q hq => absurd hq (by omega))
theorem sp_123 (hd : 1 ≤ d) {n x : Int32} (h39 : h[39]? = some (tO n)) (hq : Q none (h.set 39 (tO x))) : am_KA lx d 123 [.ref 39, .int x] h Q := by
  obtain ⟨e, rfl⟩ : ∃ e, d = e + 1 := ⟨d - 1, by omega⟩
  have G : am_GK (am_KA lx e) cd_123 := ⟨am_KA_m lx e, cm_123⟩
  refine am_KA_in (by decide) (Nat.le_of_ble_eq_true rfl) ?_
  show am_Go (am_KA lx e) (am_fetch cd_123) Q 0 [some (.ref 39), some (.int x)] [] h 0 0
  refine r_ra G (pn := 1) rfl rfl rfl ?_
  refine r_il G (pn := 2) rfl rfl rfl ?_
  refine r_puti G (pn := 5) rfl rfl (by first | assumption | (repeat (first | assumption | exact am_eq (by first | assumption | exact am_eq (by assumption) | exact am_ne (by first | decide | omega) (by assumption)) | refine am_ne (by first | decide | omega) ?_))) (Nat.le_of_ble_eq_true rfl) ?_
  refine r_vret G rfl hq
theorem sp_125 (hd : 1 ≤ d) {n a : Nat} {w : Int64} {wd : Nat → Int64} (h39 : h[39]? = some (tO (nI n))) (h40 : h[40]? = some (aL 12 wd)) (hn : n ≤ 12) (ha : a ≤ n) (hq : Q (some (.int (nI (cn (fun x => decide (x < w)) wd a (n - a))))) h) : am_KA lx d 125 [.ref 39, .int (nI a), .long w] h Q := by
  obtain ⟨e, rfl⟩ : ∃ e, d = e + 1 := ⟨d - 1, by omega⟩
  have G : am_GK (am_KA lx e) cd_125 := ⟨am_KA_m lx e, cm_125⟩
  refine am_KA_in (by decide) (Nat.le_of_ble_eq_true rfl) ?_
  show am_Go (am_KA lx e) (am_fetch cd_125) Q 0 [some (.ref 39), some (.int (nI a)), some (.long w), none, none, none] [] h 0 0
  refine r_ic G (pn := 1) rfl rfl  ?_
  refine r_is G (pn := 3) rfl rfl (Nat.le_of_ble_eq_true rfl) ?_
  refine r_il G (pn := 4) rfl rfl rfl ?_
  refine r_is G (pn := 6) rfl rfl (Nat.le_of_ble_eq_true rfl) ?_
  have lp : ∀ k i, i + k = n - a → am_Go (am_KA lx e) (am_fetch cd_125) Q 6 [some (.ref 39), some (.int (nI a)), some (.long w), none, some (.int (nI (cn (fun x => decide (x < w)) wd a i))), some (.int (nI (a + i)))] [] h 0 0 := by
    intro k
    induction k with
    | zero =>
      intro i hi
      refine r_il G (pn := 8) rfl rfl rfl ?_
      refine r_ra G (pn := 9) rfl rfl rfl ?_
      refine r_get G (pn := 12) rfl rfl (by first | assumption | (repeat (first | assumption | exact am_eq (by first | assumption | exact am_eq (by assumption) | exact am_ne (by first | decide | omega) (by assumption)) | refine am_ne (by first | decide | omega) ?_))) rfl ?_
      refine r_if2 G (pn := 15) rfl rfl (fun c12 => ?_) (fun c12 => ?_)
      · obtain rfl : i = n - a := by omega
        refine r_il G (pn := 38) rfl rfl rfl ?_
        refine r_iret G rfl rfl hq
      · exact absurd ((nI_leI (by omega) (by omega)).mpr (by omega)) c12
    | succ k ih =>
      intro i hi
      refine r_il G (pn := 8) rfl rfl rfl ?_
      refine r_ra G (pn := 9) rfl rfl rfl ?_
      refine r_get G (pn := 12) rfl rfl (by first | assumption | (repeat (first | assumption | exact am_eq (by first | assumption | exact am_eq (by assumption) | exact am_ne (by first | decide | omega) (by assumption)) | refine am_ne (by first | decide | omega) ?_))) rfl ?_
      refine r_if2 G (pn := 15) rfl rfl (fun c12 => ?_) (fun c12 => ?_)
      · exact absurd ((nI_leI (by omega) (by omega)).mp c12) (by omega)
      · refine r_ra G (pn := 16) rfl rfl rfl ?_
        refine r_get G (pn := 19) rfl rfl (by first | assumption | (repeat (first | assumption | exact am_eq (by first | assumption | exact am_eq (by assumption) | exact am_ne (by first | decide | omega) (by assumption)) | refine am_ne (by first | decide | omega) ?_))) rfl ?_
        refine r_il G (pn := 21) rfl rfl rfl ?_
        refine r_laldN G (pn := 22) rfl rfl (by assumption) (by omega) (by omega) ?_
        refine r_ll G (pn := 23) rfl rfl rfl ?_
        refine r_lcmp G (pn := 24) rfl rfl  ?_
        refine r_if1 G (pn := 27) rfl rfl (fun c24 => ?_) (fun c24 => ?_)
        · refine r_inc G (pn := 33) rfl rfl rfl (Nat.le_of_ble_eq_true rfl) ?_
          refine r_goto G rfl ?_
          rw [nI_1]
          have e1 : cn (fun x => decide (x < w)) wd a (i + 1) = cn (fun x => decide (x < w)) wd a i := by
            show cn _ wd a i + _ = _
            rw [if_neg (fun q => Int64.not_lt.mpr ((lg_cmp_ge _ _).mp c24) (of_decide_eq_true q))]
            rfl
          have := ih (i + 1) (by omega)
          rw [e1] at this
          exact this
        · refine r_inc G (pn := 30) rfl rfl rfl (Nat.le_of_ble_eq_true rfl) ?_
          refine r_inc G (pn := 33) rfl rfl rfl (Nat.le_of_ble_eq_true rfl) ?_
          refine r_goto G rfl ?_
          rw [nI_1, nI_1]
          have e1 : cn (fun x => decide (x < w)) wd a (i + 1) = cn (fun x => decide (x < w)) wd a i + 1 := by
            show cn _ wd a i + _ = _
            rw [if_pos (decide_eq_true (Int64.not_le.mp (fun q => c24 ((lg_cmp_ge _ _).mpr q))))]
          have := ih (i + 1) (by omega)
          rw [e1] at this
          exact this
  exact lp (n - a) 0 (by omega)
end
