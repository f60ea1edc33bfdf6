section
variable {lx : am_Lx} {d : Nat} {h : am_H} {Q : am_Q}
theorem sp_7_no (hd : 4 ≤ d) {cap rc n x y u : Int32} (h0 : h[0]? = some (sO cap rc)) (h39 : h[39]? = some (tO n)) (hx : x < 0 ∨ n ≤ x) (hq : Q (some (.int (-1))) h) : am_KA lx d 7 [.ref 0, .int x, .int y, .int u] h Q := by
  obtain ⟨e, rfl⟩ : ∃ e, d = e + 1 := ⟨d - 1, by omega⟩
  have G : am_GK (am_KA lx e) cd_7 := ⟨am_KA_m lx e, cm_7⟩
  refine am_KA_in (by decide) (Nat.le_of_ble_eq_true rfl) ?_
  show am_Go (am_KA lx e) (am_fetch cd_7) Q 0 [some (.ref 0), some (.int x), some (.int y), some (.int u)] [] h 0 0
  refine r_ra G (pn := 1) rfl rfl rfl ?_
  refine r_il G (pn := 2) rfl rfl rfl ?_
  refine r_il G (pn := 3) rfl rfl rfl ?_
  refine r_inv3 G (pn := 6) rfl rfl (by first | assumption | (repeat (first | assumption | exact am_eq (by first | assumption | exact am_eq (by assumption) | exact am_ne (by first | decide | omega) (by assumption)) | refine am_ne (by first | decide | omega) ?_))) (Nat.le_of_ble_eq_true rfl) (Nat.le_of_ble_eq_true rfl) (Nat.le_of_ble_eq_true rfl) (sp_15_no (by omega) h0 h39 hx ?_)
  show am_Go (am_KA lx e) (am_fetch cd_7) Q 6 [some (.ref 0), some (.int x), some (.int y), some (.int u)] [.int 0] h 0 0
  refine r_if1 G (pn := 9) rfl rfl (fun c6 => ?_) (fun c6 => ?_)
  · refine r_ic G (pn := 36) rfl rfl  ?_
    refine r_iret G rfl rfl hq
  · exact absurd rfl c6
theorem sp_7 (hd : 4 ≤ d) {cap rc : Int32} {n j w : Nat} {y u : Int32} {wd : Nat → Int64} (h0 : h[0]? = some (sO cap rc)) (h39 : h[39]? = some (tO (nI n))) (h40 : h[40]? = some (aL 12 wd)) (hn : n ≤ 12) (hj : j < n) (hw : wd j = lN w) (hw2 : w < 2 ^ 34) (h5 : w / 1073741824 ≤ 5)
    (hno : (y < 0 ∨ nI (w / 1073741824) ≤ y ∨ u < 0 ∨ nI (w / 1073741824) ≤ u) → Q (some (.int (-1))) h) (hyes : ∀ i k, y = nI i → u = nI k → i < w / 1073741824 → k < w / 1073741824 → Q (some (.int (nI (if i = k then 0 else w / 2 ^ (2 * ((w / 1073741824) * (w / 1073741824 - 1) / 2 - 1 - (max i k * (max i k - 1) / 2 + min i k))) % 4)))) h) : am_KA lx d 7 [.ref 0, .int (nI j), .int y, .int u] h Q := by
  obtain ⟨e, rfl⟩ : ∃ e, d = e + 1 := ⟨d - 1, by omega⟩
  have G : am_GK (am_KA lx e) cd_7 := ⟨am_KA_m lx e, cm_7⟩
  refine am_KA_in (by decide) (Nat.le_of_ble_eq_true rfl) ?_
  show am_Go (am_KA lx e) (am_fetch cd_7) Q 0 [some (.ref 0), some (.int (nI j)), some (.int y), some (.int u)] [] h 0 0
  refine r_ra G (pn := 1) rfl rfl rfl ?_
  refine r_il G (pn := 2) rfl rfl rfl ?_
  refine r_il G (pn := 3) rfl rfl rfl ?_
  refine r_inv3 G (pn := 6) rfl rfl (by first | assumption | (repeat (first | assumption | exact am_eq (by first | assumption | exact am_eq (by assumption) | exact am_ne (by first | decide | omega) (by assumption)) | refine am_ne (by first | decide | omega) ?_))) (Nat.le_of_ble_eq_true rfl) (Nat.le_of_ble_eq_true rfl) (Nat.le_of_ble_eq_true rfl) (sp_15 (by omega) h0 h39 h40 hn hj hw hw2 (fun hy => ?_) (fun y0 y1 => ?_))
  · show am_Go (am_KA lx e) (am_fetch cd_7) Q 6 [some (.ref 0), some (.int (nI j)), some (.int y), some (.int u)] [.int 0] h 0 0
    refine r_if1 G (pn := 9) rfl rfl (fun c6 => ?_) (fun c6 => ?_)
    · refine r_ic G (pn := 36) rfl rfl  ?_
      refine r_iret G rfl rfl (hno (hy.elim Or.inl (fun q => Or.inr (Or.inl q))))
    · exact absurd rfl c6
  · show am_Go (am_KA lx e) (am_fetch cd_7) Q 6 [some (.ref 0), some (.int (nI j)), some (.int y), some (.int u)] [.int 1] h 0 0
    refine r_if1 G (pn := 9) rfl rfl (fun c6 => ?_) (fun c6 => ?_)
    · exact absurd c6 (by decide)
    · refine r_ra G (pn := 10) rfl rfl rfl ?_
      refine r_il G (pn := 11) rfl rfl rfl ?_
      refine r_il G (pn := 12) rfl rfl rfl ?_
      refine r_inv3 G (pn := 15) rfl rfl (by first | assumption | (repeat (first | assumption | exact am_eq (by first | assumption | exact am_eq (by assumption) | exact am_ne (by first | decide | omega) (by assumption)) | refine am_ne (by first | decide | omega) ?_))) (Nat.le_of_ble_eq_true rfl) (Nat.le_of_ble_eq_true rfl) (Nat.le_of_ble_eq_true rfl) (sp_15 (by omega) h0 h39 h40 hn hj hw hw2 (fun hu => ?_) (fun u0 u1 => ?_))
      · show am_Go (am_KA lx e) (am_fetch cd_7) Q 15 [some (.ref 0), some (.int (nI j)), some (.int y), some (.int u)] [.int 0] h 0 0
        refine r_if1 G (pn := 18) rfl rfl (fun c15 => ?_) (fun c15 => ?_)
        · refine r_ic G (pn := 36) rfl rfl  ?_
          refine r_iret G rfl rfl (hno (Or.inr (Or.inr hu)))
        · exact absurd rfl c15
      · obtain ⟨i, hi, rfl⟩ : ∃ i, i < w / 1073741824 ∧ y = nI i := by
          rcases pk_ix y (n := w / 1073741824) (by omega) with q | q | q
          · exact absurd q y0
          · exact absurd q y1
          · exact q
        obtain ⟨k, hk, rfl⟩ : ∃ k, k < w / 1073741824 ∧ u = nI k := by
          rcases pk_ix u (n := w / 1073741824) (by omega) with q | q | q
          · exact absurd q u0
          · exact absurd q u1
          · exact q
        show am_Go (am_KA lx e) (am_fetch cd_7) Q 15 [some (.ref 0), some (.int (nI j)), some (.int (nI i)), some (.int (nI k))] [.int 1] h 0 0
        refine r_if1 G (pn := 18) rfl rfl (fun c15 => ?_) (fun c15 => ?_)
        · exact absurd c15 (by decide)
        · refine r_ra G (pn := 19) rfl rfl rfl ?_
          refine r_get G (pn := 22) rfl rfl (by first | assumption | (repeat (first | assumption | exact am_eq (by first | assumption | exact am_eq (by assumption) | exact am_ne (by first | decide | omega) (by assumption)) | refine am_ne (by first | decide | omega) ?_))) rfl ?_
          refine r_get G (pn := 25) rfl rfl (by first | assumption | (repeat (first | assumption | exact am_eq (by first | assumption | exact am_eq (by assumption) | exact am_ne (by first | decide | omega) (by assumption)) | refine am_ne (by first | decide | omega) ?_))) rfl ?_
          refine r_il G (pn := 26) rfl rfl rfl ?_
          refine r_laldN G (pn := 27) rfl rfl (by assumption) (by omega) (by omega) ?_
          refine r_il G (pn := 28) rfl rfl rfl ?_
          refine r_il G (pn := 29) rfl rfl rfl ?_
          rw [hw]
          have hfin := hyes i k rfl rfl hi hk
          refine r_ins3 G (pn := 32) rfl rfl (Nat.le_of_ble_eq_true rfl) (Nat.le_of_ble_eq_true rfl) (Nat.le_of_ble_eq_true rfl) (sp_130 (by omega) hw2 hi hk h5 ?_)
          generalize (if i = k then 0 else w / 2 ^ (2 * ((w / 1073741824) * (w / 1073741824 - 1) / 2 - 1 - (max i k * (max i k - 1) / 2 + min i k))) % 4) = v at hfin ⊢
          show am_Go (am_KA lx e) (am_fetch cd_7) Q 32 [some (.ref 0), some (.int (nI j)), some (.int (nI i)), some (.int (nI k))] [.int (nI v)] h 0 0
          refine r_goto G rfl ?_
          refine r_iret G rfl rfl hfin
theorem sp_117 (hd : 1 ≤ d) {x y : Int32} (hq : Q (some (.int (x + y - 1))) h) : am_KA lx d 117 [.int x, .int y] h Q := by
  obtain ⟨e, rfl⟩ : ∃ e, d = e + 1 := ⟨d - 1, by omega⟩
  have G : am_GK (am_KA lx e) cd_117 := ⟨am_KA_m lx e, cm_117⟩
  refine am_KA_in (by decide) (Nat.le_of_ble_eq_true rfl) ?_
  show am_Go (am_KA lx e) (am_fetch cd_117) Q 0 [some (.int x), some (.int y)] [] h 0 0
  refine r_il G (pn := 1) rfl rfl rfl ?_
  refine r_il G (pn := 2) rfl rfl rfl ?_
  refine r_ib G (pn := 3) rfl rfl  ?_
  refine r_ic G (pn := 4) rfl rfl  ?_
  refine r_ib G (pn := 5) rfl rfl  ?_
  refine r_iret G rfl rfl hq
theorem sp_118 (hd : 1 ≤ d) {g : Nat} {p a b x : Int32} {f : Nat → Int32} (hg : h[g]? = some (rO g p)) (hf : h[g + 1]? = some (aI 3 f)) (hq : Q none ((h.set (g + 1) (aI 3 (upd (upd (upd f 0 a) 1 b) 2 x))).set g (rO g (if x = -1 then 2 else 3)))) : am_KA lx d 118 [.ref g, .int a, .int b, .int x] h Q := by
  obtain ⟨e, rfl⟩ : ∃ e, d = e + 1 := ⟨d - 1, by omega⟩
  have G : am_GK (am_KA lx e) cd_118 := ⟨am_KA_m lx e, cm_118⟩
  refine am_KA_in (by decide) (Nat.le_of_ble_eq_true rfl) ?_
  show am_Go (am_KA lx e) (am_fetch cd_118) Q 0 [some (.ref g), some (.int a), some (.int b), some (.int x)] [] h 0 0
  refine r_ra G (pn := 1) rfl rfl rfl ?_
  refine r_get G (pn := 4) rfl rfl (by first | assumption | (repeat (first | assumption | exact am_eq (by first | assumption | exact am_eq (by assumption) | exact am_ne (by first | decide | omega) (by assumption)) | refine am_ne (by first | decide | omega) ?_))) rfl ?_
  refine r_ic G (pn := 5) rfl rfl  ?_
  refine r_il G (pn := 6) rfl rfl rfl ?_
  refine r_iast G (pn := 7) rfl rfl (by first | assumption | (repeat (first | assumption | exact am_eq (by first | assumption | exact am_eq (by assumption) | exact am_ne (by first | decide | omega) (by assumption)) | refine am_ne (by first | decide | omega) ?_))) (by first | assumption | exact vp_in_nI (by omega) (by omega) | (unfold vp_in; decide)) ?_
  refine r_ra G (pn := 8) rfl rfl rfl ?_
  refine r_get G (pn := 11) rfl rfl (by first | assumption | (repeat (first | assumption | exact am_eq (by first | assumption | exact am_eq (by assumption) | exact am_ne (by first | decide | omega) (by assumption)) | refine am_ne (by first | decide | omega) ?_))) rfl ?_
  refine r_ic G (pn := 12) rfl rfl  ?_
  refine r_il G (pn := 13) rfl rfl rfl ?_
  refine r_iast G (pn := 14) rfl rfl (by first | assumption | (repeat (first | assumption | exact am_eq (by first | assumption | exact am_eq (by assumption) | exact am_ne (by first | decide | omega) (by assumption)) | refine am_ne (by first | decide | omega) ?_))) (by first | assumption | exact vp_in_nI (by omega) (by omega) | (unfold vp_in; decide)) ?_
  refine r_ra G (pn := 15) rfl rfl rfl ?_
  refine r_get G (pn := 18) rfl rfl (by first | assumption | (repeat (first | assumption | exact am_eq (by first | assumption | exact am_eq (by assumption) | exact am_ne (by first | decide | omega) (by assumption)) | refine am_ne (by first | decide | omega) ?_))) rfl ?_
  refine r_ic G (pn := 19) rfl rfl  ?_
  refine r_il G (pn := 20) rfl rfl rfl ?_
  refine r_iast G (pn := 21) rfl rfl (by first | assumption | (repeat (first | assumption | exact am_eq (by first | assumption | exact am_eq (by assumption) | exact am_ne (by first | decide | omega) (by assumption)) | refine am_ne (by first | decide | omega) ?_))) (by first | assumption | exact vp_in_nI (by omega) (by omega) | (unfold vp_in; decide)) ?_
  refine r_ra G (pn := 22) rfl rfl rfl ?_
  refine r_il G (pn := 23) rfl rfl rfl ?_
  refine r_ic G (pn := 24) rfl rfl  ?_
  refine r_if2 G (pn := 27) rfl rfl (fun c24 => ?_) (fun c24 => ?_)
  · rw [if_neg c24] at hq
    refine r_ic G (pn := 32) rfl rfl  ?_
    refine r_puti G (pn := 35) rfl rfl (by first | assumption | (repeat (first | assumption | exact am_eq (by first | assumption | exact am_eq (by assumption) | exact am_ne (by first | decide | omega) (by assumption)) | refine am_ne (by first | decide | omega) ?_))) (Nat.le_of_ble_eq_true rfl) ?_
    refine r_vret G rfl ?_
    simp only [List.set_set] at hq ⊢
    exact hq
  · rw [if_pos (Classical.byContradiction c24)] at hq
    refine r_ic G (pn := 28) rfl rfl  ?_
    refine r_goto G rfl ?_
    refine r_puti G (pn := 35) rfl rfl (by first | assumption | (repeat (first | assumption | exact am_eq (by first | assumption | exact am_eq (by assumption) | exact am_ne (by first | decide | omega) (by assumption)) | refine am_ne (by first | decide | omega) ?_))) (Nat.le_of_ble_eq_true rfl) ?_
    refine r_vret G rfl ?_
    simp only [List.set_set] at hq ⊢
    exact hq
theorem sp_119 (hd : 2 ≤ d) {g i j : Nat} {p a b : Int32} {f k : Nat → Int32} (hg : h[g]? = some (rO g p)) (hf : h[g + 2]? = some (aI 3 f)) (hk : h[g + 3]? = some (aI 3 k)) (hij : i < j) (hj : j < 3) (hq : Q none ((h.set (g + 2) (aI 3 (upd f (i + j - 1) a))).set (g + 3) (aI 3 (upd k (i + j - 1) b)))) : am_KA lx d 119 [.ref g, .int (nI i), .int (nI j), .int a, .int b] h Q := by
  have e1 : nI i + nI j - 1 = nI (i + j - 1) := by
    rw [nI_add]
    obtain ⟨q, hq⟩ : ∃ q, i + j = q + 1 := ⟨i + j - 1, by omega⟩
    rw [hq, nI_pred]
    rfl
  obtain ⟨e, rfl⟩ : ∃ e, d = e + 1 := ⟨d - 1, by omega⟩
  have G : am_GK (am_KA lx e) cd_119 := ⟨am_KA_m lx e, cm_119⟩
  refine am_KA_in (by decide) (Nat.le_of_ble_eq_true rfl) ?_
  show am_Go (am_KA lx e) (am_fetch cd_119) Q 0 [some (.ref g), some (.int (nI i)), some (.int (nI j)), some (.int a), some (.int b)] [] h 0 0
  refine r_ra G (pn := 1) rfl rfl rfl ?_
  refine r_get G (pn := 4) rfl rfl (by first | assumption | (repeat (first | assumption | exact am_eq (by first | assumption | exact am_eq (by assumption) | exact am_ne (by first | decide | omega) (by assumption)) | refine am_ne (by first | decide | omega) ?_))) rfl ?_
  refine r_il G (pn := 5) rfl rfl rfl ?_
  refine r_il G (pn := 6) rfl rfl rfl ?_
  refine r_ins2 G (pn := 9) rfl rfl (Nat.le_of_ble_eq_true rfl) (Nat.le_of_ble_eq_true rfl) (Nat.le_of_ble_eq_true rfl) (sp_117 (by omega) ?_)
  rw [e1]
  show am_Go (am_KA lx e) (am_fetch cd_119) Q 9 [some (.ref g), some (.int (nI i)), some (.int (nI j)), some (.int a), some (.int b)] [.int (nI (i + j - 1)), .ref (g + 2)] h 0 0
  refine r_il G (pn := 10) rfl rfl rfl ?_
  refine r_iastN G (pn := 11) rfl rfl (by assumption) (by omega) (by omega) ?_
  refine r_ra G (pn := 12) rfl rfl rfl ?_
  refine r_get G (pn := 15) rfl rfl (by first | assumption | (repeat (first | assumption | exact am_eq (by first | assumption | exact am_eq (by assumption) | exact am_ne (by first | decide | omega) (by assumption)) | refine am_ne (by first | decide | omega) ?_))) rfl ?_
  refine r_il G (pn := 16) rfl rfl rfl ?_
  refine r_il G (pn := 17) rfl rfl rfl ?_
  refine r_ins2 G (pn := 20) rfl rfl (Nat.le_of_ble_eq_true rfl) (Nat.le_of_ble_eq_true rfl) (Nat.le_of_ble_eq_true rfl) (sp_117 (by omega) ?_)
  rw [e1]
  show am_Go (am_KA lx e) (am_fetch cd_119) Q 20 [some (.ref g), some (.int (nI i)), some (.int (nI j)), some (.int a), some (.int b)] [.int (nI (i + j - 1)), .ref (g + 3)] (h.set (g + 2) (aI 3 (upd f (i + j - 1) a))) 0 0
  refine r_il G (pn := 22) rfl rfl rfl ?_
  refine r_iastN G (pn := 23) rfl rfl (am_ne (by omega) (by assumption)) (by omega) (by omega) ?_
  refine r_vret G rfl hq
theorem sp_120 (hd : 1 ≤ d) {g : Nat} {p : Int32} {f k : Nat → Int32} (hg : h[g]? = some (rO g p)) (hf : h[g + 2]? = some (aI 3 f)) (hk : h[g + 3]? = some (aI 3 k)) (hno : (∃ i, i < 3 ∧ f i ≠ k i) → Q (some (.int 0)) h) (hyes : (∀ i, i < 3 → f i = k i) → Q (some (.int 1)) h) : am_KA lx d 120 [.ref g] h Q := by
  obtain ⟨e, rfl⟩ : ∃ e, d = e + 1 := ⟨d - 1, by omega⟩
  have G : am_GK (am_KA lx e) cd_120 := ⟨am_KA_m lx e, cm_120⟩
  refine am_KA_in (by decide) (Nat.le_of_ble_eq_true rfl) ?_
  show am_Go (am_KA lx e) (am_fetch cd_120) Q 0 [some (.ref g), none] [] h 0 0
  refine r_ic G (pn := 1) rfl rfl  ?_
  refine r_is G (pn := 2) rfl rfl (Nat.le_of_ble_eq_true rfl) ?_
  have lp : ∀ n i, i + n = 3 → (∀ q, q < i → f q = k q) → am_Go (am_KA lx e) (am_fetch cd_120) Q 2 [some (.ref g), some (.int (nI i))] [] h 0 0 := by
    intro n
    induction n with
    | zero =>
      intro i hi hs
      refine r_il G (pn := 3) rfl rfl rfl ?_
      refine r_ic G (pn := 4) rfl rfl  ?_
      refine r_if2 G (pn := 7) rfl rfl (fun c4 => ?_) (fun c4 => ?_)
      · refine r_ic G (pn := 31) rfl rfl  ?_
        refine r_iret G rfl (by decide) (hyes (fun q hq => hs q (by omega)))
      · exact absurd ((nI_leI (a := 3) (b := i) (by omega) (by omega)).mpr (by omega)) c4
    | succ n ih =>
      intro i hi hs
      refine r_il G (pn := 3) rfl rfl rfl ?_
      refine r_ic G (pn := 4) rfl rfl  ?_
      refine r_if2 G (pn := 7) rfl rfl (fun c4 => ?_) (fun c4 => ?_)
      · exact absurd ((nI_leI (a := 3) (b := i) (by omega) (by omega)).mp c4) (by omega)
      · refine r_ra G (pn := 8) rfl rfl rfl ?_
        refine r_get G (pn := 11) rfl rfl (by first | assumption | (repeat (first | assumption | exact am_eq (by first | assumption | exact am_eq (by assumption) | exact am_ne (by first | decide | omega) (by assumption)) | refine am_ne (by first | decide | omega) ?_))) rfl ?_
        refine r_il G (pn := 12) rfl rfl rfl ?_
        refine r_ialdN G (pn := 13) rfl rfl (by assumption) (by omega) (by omega) ?_
        refine r_ra G (pn := 14) rfl rfl rfl ?_
        refine r_get G (pn := 17) rfl rfl (by first | assumption | (repeat (first | assumption | exact am_eq (by first | assumption | exact am_eq (by assumption) | exact am_ne (by first | decide | omega) (by assumption)) | refine am_ne (by first | decide | omega) ?_))) rfl ?_
        refine r_il G (pn := 18) rfl rfl rfl ?_
        refine r_ialdN G (pn := 19) rfl rfl (by assumption) (by omega) (by omega) ?_
        refine r_if2 G (pn := 22) rfl rfl (fun c19 => ?_) (fun c19 => ?_)
        · refine r_inc G (pn := 27) rfl rfl rfl (Nat.le_of_ble_eq_true rfl) ?_
          refine r_goto G rfl ?_
          rw [nI_1]
          refine ih (i + 1) (by omega) (fun q hq => ?_)
          by_cases hqi : q = i
          · rw [hqi]; exact c19
          · exact hs q (by omega)
        · refine r_ic G (pn := 23) rfl rfl  ?_
          refine r_iret G rfl (by decide) (hno ⟨i, by omega, c19⟩)
  exact lp 3 0 rfl (fun q hq => absurd hq (by omega))
theorem sp_103 (hd : 1 ≤ d) {g n : Nat} {x : Int32} {f : Nat → Int32} (hg : h[g]? = some (lO g (nI n))) (hf : h[g + 1]? = some (aI 40 f)) (hn : n ≤ 40) (hno : (∀ i, i < n → f i ≠ x) → Q (some (.int 0)) h) (hyes : (∃ i, i < n ∧ f i = x) → Q (some (.int 1)) h) : am_KA lx d 103 [.ref g, .int x] h Q := by
  obtain ⟨e, rfl⟩ : ∃ e, d = e + 1 := ⟨d - 1, by omega⟩
  have G : am_GK (am_KA lx e) cd_103 := ⟨am_KA_m lx e, cm_103⟩
  refine am_KA_in (by decide) (Nat.le_of_ble_eq_true rfl) ?_
  show am_Go (am_KA lx e) (am_fetch cd_103) Q 0 [some (.ref g), some (.int x), none] [] h 0 0
  refine r_ic G (pn := 1) rfl rfl  ?_
  refine r_is G (pn := 2) rfl rfl (Nat.le_of_ble_eq_true rfl) ?_
  have lp : ∀ k i, i + k = n → (∀ q, q < i → f q ≠ x) → am_Go (am_KA lx e) (am_fetch cd_103) Q 2 [some (.ref g), some (.int x), some (.int (nI i))] [] h 0 0 := by
    intro k
    induction k with
    | zero =>
      intro i hi hs
      refine r_il G (pn := 3) rfl rfl rfl ?_
      refine r_ra G (pn := 4) rfl rfl rfl ?_
      refine r_get G (pn := 7) rfl rfl (by first | assumption | (repeat (first | assumption | exact am_eq (by first | assumption | exact am_eq (by assumption) | exact am_ne (by first | decide | omega) (by assumption)) | refine am_ne (by first | decide | omega) ?_))) rfl ?_
      refine r_if2 G (pn := 10) rfl rfl (fun c7 => ?_) (fun c7 => ?_)
      · refine r_ic G (pn := 29) rfl rfl  ?_
        refine r_iret G rfl (by decide) (hno (fun q hq => hs q (by omega)))
      · exact absurd ((nI_leI (by omega) (by omega)).mpr (by omega)) c7
    | succ k ih =>
      intro i hi hs
      refine r_il G (pn := 3) rfl rfl rfl ?_
      refine r_ra G (pn := 4) rfl rfl rfl ?_
      refine r_get G (pn := 7) rfl rfl (by first | assumption | (repeat (first | assumption | exact am_eq (by first | assumption | exact am_eq (by assumption) | exact am_ne (by first | decide | omega) (by assumption)) | refine am_ne (by first | decide | omega) ?_))) rfl ?_
      refine r_if2 G (pn := 10) rfl rfl (fun c7 => ?_) (fun c7 => ?_)
      · exact absurd ((nI_leI (by omega) (by omega)).mp c7) (by omega)
      · refine r_ra G (pn := 11) rfl rfl rfl ?_
        refine r_get G (pn := 14) rfl rfl (by first | assumption | (repeat (first | assumption | exact am_eq (by first | assumption | exact am_eq (by assumption) | exact am_ne (by first | decide | omega) (by assumption)) | refine am_ne (by first | decide | omega) ?_))) rfl ?_
        refine r_il G (pn := 15) rfl rfl rfl ?_
        refine r_ialdN G (pn := 16) rfl rfl (by assumption) (by omega) (by omega) ?_
        refine r_il G (pn := 17) rfl rfl rfl ?_
        refine r_if2 G (pn := 20) rfl rfl (fun c17 => ?_) (fun c17 => ?_)
        · refine r_inc G (pn := 25) rfl rfl rfl (Nat.le_of_ble_eq_true rfl) ?_
          refine r_goto G rfl ?_
          rw [nI_1]
          refine ih (i + 1) (by omega) (fun q hq => ?_)
          by_cases hqi : q = i
          · rw [hqi]; exact c17
          · exact hs q (by omega)
        · refine r_ic G (pn := 21) rfl rfl  ?_
          refine r_iret G rfl (by decide) (hyes ⟨i, by omega, Classical.byContradiction c17⟩)
  exact lp n 0 (by omega) (fun q hq => absurd hq (by omega))
end
