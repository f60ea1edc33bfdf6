section
variable {lx : am_Lx} {d : Nat} {h : am_H} {m : Nat → Int32} {Q : am_Q}
theorem sp_45 (hd : 3 ≤ d) {n j w : Nat} {ky : Nat → Int64} (hM : h[81]? = some (mO m)) (hm : m 3 = nI n) (h83 : h[83]? = some (aL 12 ky)) (hn : n ≤ 12) (hj : j < n) (hw : ky j = lN w) (hw2 : w < 2 ^ 48) (hq : Q (some (.int (nI (mdig w 0)))) h) : am_KA lx d 45 [.ref 81, .int (nI j)] h Q := by
  obtain ⟨e, rfl⟩ : ∃ e, d = e + 1 := ⟨d - 1, by omega⟩
  have G : am_GK (am_KA lx e) cd_45 := ⟨am_KA_m lx e, cm_45⟩
  refine am_KA_in (by decide) (Nat.le_of_ble_eq_true rfl) ?_
  show am_Go (am_KA lx e) (am_fetch cd_45) Q 0 [some (.ref 81), some (.int (nI j))] [] h 0 0
  refine r_ra G (pn := 1) rfl rfl rfl ?_
  refine r_il G (pn := 2) rfl rfl rfl ?_
  refine r_inv2 G (pn := 5) rfl rfl (by first | assumption | (repeat (first | assumption | exact am_eq (by first | assumption | exact am_eq (by assumption) | exact am_ne (by first | decide | omega) (by assumption)) | refine am_ne (by first | decide | omega) ?_))) (Nat.le_of_ble_eq_true rfl) (Nat.le_of_ble_eq_true rfl) (Nat.le_of_ble_eq_true rfl) (sp_44 (by omega) hM (fun a => absurd a (fun a => a.elim (nI_pos (by omega)) (by rw [hm]; exact nI_ge (by omega) (by omega)))) (fun _ _ => ?_))
  show am_Go (am_KA lx e) (am_fetch cd_45) Q 5 [some (.ref 81), some (.int (nI j))] [.int 1] h 0 0
  refine r_if1 G (pn := 8) rfl rfl (fun c5 => ?_) (fun c5 => ?_)
  · exact absurd c5 (by decide)
  · refine r_ra G (pn := 9) rfl rfl rfl ?_
    refine r_get G (pn := 12) rfl rfl (by first | assumption | (repeat (first | assumption | exact am_eq (by first | assumption | exact am_eq (by assumption) | exact am_ne (by first | decide | omega) (by assumption)) | refine am_ne (by first | decide | omega) ?_))) rfl ?_
    refine r_il G (pn := 13) rfl rfl rfl ?_
    refine r_laldN G (pn := 14) rfl rfl h83 (by omega) (by omega) ?_
    refine r_ic G (pn := 15) rfl rfl  ?_
    rw [hw]
    refine r_ins2 G (pn := 18) rfl rfl (Nat.le_of_ble_eq_true rfl) (Nat.le_of_ble_eq_true rfl) (Nat.le_of_ble_eq_true rfl) (sp_41 (k := 0) (by omega) hw2 (by omega) ?_)
    change am_Go (am_KA lx e) (am_fetch cd_45) Q 18 [some (.ref 81), some (.int (nI j))] [.int (nI (mdig w 0))] h 0 0
    refine r_goto G rfl ?_
    refine r_iret G rfl rfl hq
theorem sp_46_no (hd : 3 ≤ d) {x y : Int32} (hM : h[81]? = some (mO m)) (hx : x < 0 ∨ m 3 ≤ x) (hq : Q (some (.int 0)) h) : am_KA lx d 46 [.ref 81, .int x, .int y] h Q := by
  obtain ⟨e, rfl⟩ : ∃ e, d = e + 1 := ⟨d - 1, by omega⟩
  have G : am_GK (am_KA lx e) cd_46 := ⟨am_KA_m lx e, cm_46⟩
  refine am_KA_in (by decide) (Nat.le_of_ble_eq_true rfl) ?_
  show am_Go (am_KA lx e) (am_fetch cd_46) Q 0 [some (.ref 81), some (.int x), some (.int y)] [] h 0 0
  refine r_ra G (pn := 1) rfl rfl rfl ?_
  refine r_il G (pn := 2) rfl rfl rfl ?_
  refine r_inv2 G (pn := 5) rfl rfl (by first | assumption | (repeat (first | assumption | exact am_eq (by first | assumption | exact am_eq (by assumption) | exact am_ne (by first | decide | omega) (by assumption)) | refine am_ne (by first | decide | omega) ?_))) (Nat.le_of_ble_eq_true rfl) (Nat.le_of_ble_eq_true rfl) (Nat.le_of_ble_eq_true rfl) (sp_44 (by omega) hM (fun _ => ?_) (fun a b => (hx.elim a b).elim))
  show am_Go (am_KA lx e) (am_fetch cd_46) Q 5 [some (.ref 81), some (.int x), some (.int y)] [.int 0] h 0 0
  refine r_if1 G (pn := 8) rfl rfl (fun c5 => ?_) (fun c5 => ?_)
  · refine r_ic G (pn := 31) rfl rfl  ?_
    refine r_iret G rfl (by decide) hq
  · exact absurd rfl c5
theorem sp_46 (hd : 3 ≤ d) {n j w : Nat} {y : Int32} {ky : Nat → Int64} (hM : h[81]? = some (mO m)) (hm : m 3 = nI n) (h83 : h[83]? = some (aL 12 ky)) (hn : n ≤ 12) (hj : j < n) (hw : ky j = lN w) (hw2 : w < 2 ^ 48) (hno : (y < 0 ∨ nI (mdig w 0) ≤ y) → Q (some (.int 0)) h) (hyes : ¬ y < 0 → ¬ nI (mdig w 0) ≤ y → Q (some (.int 1)) h) : am_KA lx d 46 [.ref 81, .int (nI j), .int y] h Q := by
  obtain ⟨e, rfl⟩ : ∃ e, d = e + 1 := ⟨d - 1, by omega⟩
  have G : am_GK (am_KA lx e) cd_46 := ⟨am_KA_m lx e, cm_46⟩
  refine am_KA_in (by decide) (Nat.le_of_ble_eq_true rfl) ?_
  show am_Go (am_KA lx e) (am_fetch cd_46) Q 0 [some (.ref 81), some (.int (nI j)), some (.int y)] [] h 0 0
  refine r_ra G (pn := 1) rfl rfl rfl ?_
  refine r_il G (pn := 2) rfl rfl rfl ?_
  refine r_inv2 G (pn := 5) rfl rfl (by first | assumption | (repeat (first | assumption | exact am_eq (by first | assumption | exact am_eq (by assumption) | exact am_ne (by first | decide | omega) (by assumption)) | refine am_ne (by first | decide | omega) ?_))) (Nat.le_of_ble_eq_true rfl) (Nat.le_of_ble_eq_true rfl) (Nat.le_of_ble_eq_true rfl) (sp_44 (by omega) hM (fun a => absurd a (fun a => a.elim (nI_pos (by omega)) (by rw [hm]; exact nI_ge (by omega) (by omega)))) (fun _ _ => ?_))
  show am_Go (am_KA lx e) (am_fetch cd_46) Q 5 [some (.ref 81), some (.int (nI j)), some (.int y)] [.int 1] h 0 0
  refine r_if1 G (pn := 8) rfl rfl (fun c5 => ?_) (fun c5 => ?_)
  · exact absurd c5 (by decide)
  · refine r_il G (pn := 9) rfl rfl rfl ?_
    refine r_if1 G (pn := 12) rfl rfl (fun c9 => ?_) (fun c9 => ?_)
    · refine r_ic G (pn := 31) rfl rfl  ?_
      refine r_iret G rfl (by decide) (hno (Or.inl c9))
    · refine r_il G (pn := 13) rfl rfl rfl ?_
      refine r_ra G (pn := 14) rfl rfl rfl ?_
      refine r_get G (pn := 17) rfl rfl (by first | assumption | (repeat (first | assumption | exact am_eq (by first | assumption | exact am_eq (by assumption) | exact am_ne (by first | decide | omega) (by assumption)) | refine am_ne (by first | decide | omega) ?_))) rfl ?_
      refine r_il G (pn := 18) rfl rfl rfl ?_
      refine r_laldN G (pn := 19) rfl rfl h83 (by omega) (by omega) ?_
      refine r_ic G (pn := 20) rfl rfl  ?_
      rw [hw]
      refine r_ins2 G (pn := 23) rfl rfl (Nat.le_of_ble_eq_true rfl) (Nat.le_of_ble_eq_true rfl) (Nat.le_of_ble_eq_true rfl) (sp_41 (k := 0) (by omega) hw2 (by omega) ?_)
      change am_Go (am_KA lx e) (am_fetch cd_46) Q 23 [some (.ref 81), some (.int (nI j)), some (.int y)] [.int (nI (mdig w 0)), .int y] h 0 0
      refine r_if2 G (pn := 26) rfl rfl (fun c23 => ?_) (fun c23 => ?_)
      · refine r_ic G (pn := 31) rfl rfl  ?_
        refine r_iret G rfl (by decide) (hno (Or.inr c23))
      · refine r_ic G (pn := 27) rfl rfl  ?_
        refine r_goto G rfl ?_
        refine r_iret G rfl (by decide) (hyes c9 c23)
theorem sp_47_no (hd : 4 ≤ d) {x y : Int32} (hM : h[81]? = some (mO m)) (hx : x < 0 ∨ m 3 ≤ x) (hq : Q (some (.int (-1))) h) : am_KA lx d 47 [.ref 81, .int x, .int y] h Q := by
  obtain ⟨e, rfl⟩ : ∃ e, d = e + 1 := ⟨d - 1, by omega⟩
  have G : am_GK (am_KA lx e) cd_47 := ⟨am_KA_m lx e, cm_47⟩
  refine am_KA_in (by decide) (Nat.le_of_ble_eq_true rfl) ?_
  show am_Go (am_KA lx e) (am_fetch cd_47) Q 0 [some (.ref 81), some (.int x), some (.int y)] [] h 0 0
  refine r_ra G (pn := 1) rfl rfl rfl ?_
  refine r_il G (pn := 2) rfl rfl rfl ?_
  refine r_il G (pn := 3) rfl rfl rfl ?_
  refine r_inv3 G (pn := 6) rfl rfl (by first | assumption | (repeat (first | assumption | exact am_eq (by first | assumption | exact am_eq (by assumption) | exact am_ne (by first | decide | omega) (by assumption)) | refine am_ne (by first | decide | omega) ?_))) (Nat.le_of_ble_eq_true rfl) (Nat.le_of_ble_eq_true rfl) (Nat.le_of_ble_eq_true rfl) (sp_46_no (by omega) hM hx ?_)
  show am_Go (am_KA lx e) (am_fetch cd_47) Q 6 [some (.ref 81), some (.int x), some (.int y)] [.int 0] h 0 0
  refine r_if1 G (pn := 9) rfl rfl (fun c6 => ?_) (fun c6 => ?_)
  · refine r_ic G (pn := 25) rfl rfl  ?_
    refine r_iret G rfl rfl hq
  · exact absurd rfl c6
theorem sp_47 (hd : 4 ≤ d) {n j w : Nat} {y : Int32} {ky : Nat → Int64} (hM : h[81]? = some (mO m)) (hm : m 3 = nI n) (h83 : h[83]? = some (aL 12 ky)) (hn : n ≤ 12) (hj : j < n) (hw : ky j = lN w) (hw2 : w < 2 ^ 48) (h5 : mdig w 0 ≤ 5) (hno : (y < 0 ∨ nI (mdig w 0) ≤ y) → Q (some (.int (-1))) h) (hyes : ∀ i, y = nI i → i < mdig w 0 → Q (some (.int (nI (mdig w (1 + i))))) h) : am_KA lx d 47 [.ref 81, .int (nI j), .int y] h Q := by
  obtain ⟨e, rfl⟩ : ∃ e, d = e + 1 := ⟨d - 1, by omega⟩
  have G : am_GK (am_KA lx e) cd_47 := ⟨am_KA_m lx e, cm_47⟩
  refine am_KA_in (by decide) (Nat.le_of_ble_eq_true rfl) ?_
  show am_Go (am_KA lx e) (am_fetch cd_47) Q 0 [some (.ref 81), some (.int (nI j)), some (.int y)] [] h 0 0
  refine r_ra G (pn := 1) rfl rfl rfl ?_
  refine r_il G (pn := 2) rfl rfl rfl ?_
  refine r_il G (pn := 3) rfl rfl rfl ?_
  refine r_inv3 G (pn := 6) rfl rfl (by first | assumption | (repeat (first | assumption | exact am_eq (by first | assumption | exact am_eq (by assumption) | exact am_ne (by first | decide | omega) (by assumption)) | refine am_ne (by first | decide | omega) ?_))) (Nat.le_of_ble_eq_true rfl) (Nat.le_of_ble_eq_true rfl) (Nat.le_of_ble_eq_true rfl) (sp_46 (by omega) hM hm h83 hn hj hw hw2 (fun hy => ?_) (fun y0 y1 => ?_))
  · show am_Go (am_KA lx e) (am_fetch cd_47) Q 6 [some (.ref 81), some (.int (nI j)), some (.int y)] [.int 0] h 0 0
    refine r_if1 G (pn := 9) rfl rfl (fun c6 => ?_) (fun c6 => ?_)
    · refine r_ic G (pn := 25) rfl rfl  ?_
      refine r_iret G rfl rfl (hno hy)
    · exact absurd rfl c6
  · obtain ⟨i, hi, rfl⟩ : ∃ i, i < mdig w 0 ∧ y = nI i := by
      rcases pk_ix y (n := mdig w 0) (by omega) with q | q | q
      · exact absurd q y0
      · exact absurd q y1
      · exact q
    show am_Go (am_KA lx e) (am_fetch cd_47) Q 6 [some (.ref 81), some (.int (nI j)), some (.int (nI i))] [.int 1] h 0 0
    refine r_if1 G (pn := 9) rfl rfl (fun c6 => ?_) (fun c6 => ?_)
    · exact absurd c6 (by decide)
    · refine r_ra G (pn := 10) rfl rfl rfl ?_
      refine r_get G (pn := 13) rfl rfl (by first | assumption | (repeat (first | assumption | exact am_eq (by first | assumption | exact am_eq (by assumption) | exact am_ne (by first | decide | omega) (by assumption)) | refine am_ne (by first | decide | omega) ?_))) rfl ?_
      refine r_il G (pn := 14) rfl rfl rfl ?_
      refine r_laldN G (pn := 15) rfl rfl h83 (by omega) (by omega) ?_
      refine r_ic G (pn := 16) rfl rfl  ?_
      refine r_il G (pn := 17) rfl rfl rfl ?_
      refine r_ib G (pn := 18) rfl rfl  ?_
      rw [hw, show (1 : Int32) + nI i = nI (1 + i) from nI_add 1 i]
      refine r_ins2 G (pn := 21) rfl rfl (Nat.le_of_ble_eq_true rfl) (Nat.le_of_ble_eq_true rfl) (Nat.le_of_ble_eq_true rfl) (sp_41 (by omega) hw2 (by omega) ?_)
      change am_Go (am_KA lx e) (am_fetch cd_47) Q 21 [some (.ref 81), some (.int (nI j)), some (.int (nI i))] [.int (nI (mdig w (1 + i)))] h 0 0
      refine r_goto G rfl ?_
      refine r_iret G rfl rfl (hyes i rfl hi)
theorem sp_48_no (hd : 4 ≤ d) {x y u : Int32} (hM : h[81]? = some (mO m)) (hx : x < 0 ∨ m 3 ≤ x) (hq : Q (some (.int (-1))) h) : am_KA lx d 48 [.ref 81, .int x, .int y, .int u] h Q := by
  obtain ⟨e, rfl⟩ : ∃ e, d = e + 1 := ⟨d - 1, by omega⟩
  have G : am_GK (am_KA lx e) cd_48 := ⟨am_KA_m lx e, cm_48⟩
  refine am_KA_in (by decide) (Nat.le_of_ble_eq_true rfl) ?_
  show am_Go (am_KA lx e) (am_fetch cd_48) Q 0 [some (.ref 81), some (.int x), some (.int y), some (.int u)] [] h 0 0
  refine r_ra G (pn := 1) rfl rfl rfl ?_
  refine r_il G (pn := 2) rfl rfl rfl ?_
  refine r_il G (pn := 3) rfl rfl rfl ?_
  refine r_inv3 G (pn := 6) rfl rfl (by first | assumption | (repeat (first | assumption | exact am_eq (by first | assumption | exact am_eq (by assumption) | exact am_ne (by first | decide | omega) (by assumption)) | refine am_ne (by first | decide | omega) ?_))) (Nat.le_of_ble_eq_true rfl) (Nat.le_of_ble_eq_true rfl) (Nat.le_of_ble_eq_true rfl) (sp_46_no (by omega) hM hx ?_)
  show am_Go (am_KA lx e) (am_fetch cd_48) Q 6 [some (.ref 81), some (.int x), some (.int y), some (.int u)] [.int 0] h 0 0
  refine r_if1 G (pn := 9) rfl rfl (fun c6 => ?_) (fun c6 => ?_)
  · refine r_ic G (pn := 33) rfl rfl  ?_
    refine r_iret G rfl rfl hq
  · exact absurd rfl c6
theorem sp_48 (hd : 4 ≤ d) {n j w : Nat} {y u : Int32} {ky : Nat → Int64} (hM : h[81]? = some (mO m)) (hm : m 3 = nI n) (h83 : h[83]? = some (aL 12 ky)) (hn : n ≤ 12) (hj : j < n) (hw : ky j = lN w) (hw2 : w < 2 ^ 48) (h5 : mdig w 0 ≤ 5) (hno : (y < 0 ∨ nI (mdig w 0) ≤ y ∨ u < 0 ∨ nI (mdig w 0) ≤ u) → Q (some (.int (-1))) h) (hyes : ∀ i k, y = nI i → u = nI k → i < mdig w 0 → k < mdig w 0 → Q (some (.int (nI (mbond w i k)))) h) : am_KA lx d 48 [.ref 81, .int (nI j), .int y, .int u] h Q := by
  obtain ⟨e, rfl⟩ : ∃ e, d = e + 1 := ⟨d - 1, by omega⟩
  have G : am_GK (am_KA lx e) cd_48 := ⟨am_KA_m lx e, cm_48⟩
  refine am_KA_in (by decide) (Nat.le_of_ble_eq_true rfl) ?_
  show am_Go (am_KA lx e) (am_fetch cd_48) Q 0 [some (.ref 81), some (.int (nI j)), some (.int y), some (.int u)] [] h 0 0
  refine r_ra G (pn := 1) rfl rfl rfl ?_
  refine r_il G (pn := 2) rfl rfl rfl ?_
  refine r_il G (pn := 3) rfl rfl rfl ?_
  refine r_inv3 G (pn := 6) rfl rfl (by first | assumption | (repeat (first | assumption | exact am_eq (by first | assumption | exact am_eq (by assumption) | exact am_ne (by first | decide | omega) (by assumption)) | refine am_ne (by first | decide | omega) ?_))) (Nat.le_of_ble_eq_true rfl) (Nat.le_of_ble_eq_true rfl) (Nat.le_of_ble_eq_true rfl) (sp_46 (by omega) hM hm h83 hn hj hw hw2 (fun hy => ?_) (fun y0 y1 => ?_))
  · show am_Go (am_KA lx e) (am_fetch cd_48) Q 6 [some (.ref 81), some (.int (nI j)), some (.int y), some (.int u)] [.int 0] h 0 0
    refine r_if1 G (pn := 9) rfl rfl (fun c6 => ?_) (fun c6 => ?_)
    · refine r_ic G (pn := 33) rfl rfl  ?_
      refine r_iret G rfl rfl (hno (hy.elim Or.inl (fun q => Or.inr (Or.inl q))))
    · exact absurd rfl c6
  · show am_Go (am_KA lx e) (am_fetch cd_48) Q 6 [some (.ref 81), some (.int (nI j)), some (.int y), some (.int u)] [.int 1] h 0 0
    refine r_if1 G (pn := 9) rfl rfl (fun c6 => ?_) (fun c6 => ?_)
    · exact absurd c6 (by decide)
    · refine r_ra G (pn := 10) rfl rfl rfl ?_
      refine r_il G (pn := 11) rfl rfl rfl ?_
      refine r_il G (pn := 12) rfl rfl rfl ?_
      refine r_inv3 G (pn := 15) rfl rfl (by first | assumption | (repeat (first | assumption | exact am_eq (by first | assumption | exact am_eq (by assumption) | exact am_ne (by first | decide | omega) (by assumption)) | refine am_ne (by first | decide | omega) ?_))) (Nat.le_of_ble_eq_true rfl) (Nat.le_of_ble_eq_true rfl) (Nat.le_of_ble_eq_true rfl) (sp_46 (by omega) hM hm h83 hn hj hw hw2 (fun hu => ?_) (fun u0 u1 => ?_))
      · show am_Go (am_KA lx e) (am_fetch cd_48) Q 15 [some (.ref 81), some (.int (nI j)), some (.int y), some (.int u)] [.int 0] h 0 0
        refine r_if1 G (pn := 18) rfl rfl (fun c15 => ?_) (fun c15 => ?_)
        · refine r_ic G (pn := 33) rfl rfl  ?_
          refine r_iret G rfl rfl (hno (Or.inr (Or.inr hu)))
        · exact absurd rfl c15
      · obtain ⟨i, hi, rfl⟩ : ∃ i, i < mdig w 0 ∧ y = nI i := by
          rcases pk_ix y (n := mdig w 0) (by omega) with q | q | q
          · exact absurd q y0
          · exact absurd q y1
          · exact q
        obtain ⟨k, hk, rfl⟩ : ∃ k, k < mdig w 0 ∧ u = nI k := by
          rcases pk_ix u (n := mdig w 0) (by omega) with q | q | q
          · exact absurd q u0
          · exact absurd q u1
          · exact q
        show am_Go (am_KA lx e) (am_fetch cd_48) Q 15 [some (.ref 81), some (.int (nI j)), some (.int (nI i)), some (.int (nI k))] [.int 1] h 0 0
        refine r_if1 G (pn := 18) rfl rfl (fun c15 => ?_) (fun c15 => ?_)
        · exact absurd c15 (by decide)
        · refine r_ra G (pn := 19) rfl rfl rfl ?_
          refine r_get G (pn := 22) rfl rfl (by first | assumption | (repeat (first | assumption | exact am_eq (by first | assumption | exact am_eq (by assumption) | exact am_ne (by first | decide | omega) (by assumption)) | refine am_ne (by first | decide | omega) ?_))) rfl ?_
          refine r_il G (pn := 23) rfl rfl rfl ?_
          refine r_laldN G (pn := 24) rfl rfl h83 (by omega) (by omega) ?_
          refine r_il G (pn := 25) rfl rfl rfl ?_
          refine r_il G (pn := 26) rfl rfl rfl ?_
          rw [hw]
          refine r_ins3 G (pn := 29) rfl rfl (Nat.le_of_ble_eq_true rfl) (Nat.le_of_ble_eq_true rfl) (Nat.le_of_ble_eq_true rfl) (sp_42 (by omega) hw2 (by omega) (by omega) h5 ?_)
          show am_Go (am_KA lx e) (am_fetch cd_48) Q 29 [some (.ref 81), some (.int (nI j)), some (.int (nI i)), some (.int (nI k))] [.int (nI (mbond w i k))] h 0 0
          refine r_goto G rfl ?_
          refine r_iret G rfl rfl (hyes i k rfl rfl hi hk)
theorem sp_69 (hd : 1 ≤ d) {n : Nat} {x y : Int32} {fl : Nat → Int32} (hM : h[81]? = some (mO m)) (hm : m 10 = nI n) (h88 : h[88]? = some (aI 205 fl)) (hn : n ≤ 40) (hno : (x < 0 ∨ nI n ≤ x ∨ y < 0 ∨ 5 ≤ y) → Q (some (.int (-2))) h) (hyes : ∀ i k, x = nI i → y = nI k → i < n → k < 5 → Q (some (.int (fl (5 * i + k)))) h) : am_KA lx d 69 [.ref 81, .int x, .int y] h Q := by
  obtain ⟨e, rfl⟩ : ∃ e, d = e + 1 := ⟨d - 1, by omega⟩
  have G : am_GK (am_KA lx e) cd_69 := ⟨am_KA_m lx e, cm_69⟩
  refine am_KA_in (by decide) (Nat.le_of_ble_eq_true rfl) ?_
  show am_Go (am_KA lx e) (am_fetch cd_69) Q 0 [some (.ref 81), some (.int x), some (.int y)] [] h 0 0
  refine r_il G (pn := 1) rfl rfl rfl ?_
  refine r_if1 G (pn := 4) rfl rfl (fun c1 => ?_) (fun c1 => ?_)
  · refine r_ic G (pn := 36) rfl rfl  ?_
    refine r_iret G rfl rfl (hno (Or.inl c1))
  · refine r_il G (pn := 5) rfl rfl rfl ?_
    refine r_ra G (pn := 6) rfl rfl rfl ?_
    refine r_get G (pn := 9) rfl rfl (by first | assumption | (repeat (first | assumption | exact am_eq (by first | assumption | exact am_eq (by assumption) | exact am_ne (by first | decide | omega) (by assumption)) | refine am_ne (by first | decide | omega) ?_))) rfl ?_
    rw [hm]
    refine r_if2 G (pn := 12) rfl rfl (fun c9 => ?_) (fun c9 => ?_)
    · refine r_ic G (pn := 36) rfl rfl  ?_
      refine r_iret G rfl rfl (hno (Or.inr (Or.inl c9)))
    · refine r_il G (pn := 13) rfl rfl rfl ?_
      refine r_if1 G (pn := 16) rfl rfl (fun c13 => ?_) (fun c13 => ?_)
      · refine r_ic G (pn := 36) rfl rfl  ?_
        refine r_iret G rfl rfl (hno (Or.inr (Or.inr (Or.inl c13))))
      · refine r_il G (pn := 17) rfl rfl rfl ?_
        refine r_ic G (pn := 18) rfl rfl  ?_
        refine r_if2 G (pn := 21) rfl rfl (fun c18 => ?_) (fun c18 => ?_)
        · refine r_ic G (pn := 36) rfl rfl  ?_
          refine r_iret G rfl rfl (hno (Or.inr (Or.inr (Or.inr c18))))
        · obtain ⟨i, hi, rfl⟩ : ∃ i, i < n ∧ x = nI i := by
            rcases pk_ix x (n := n) (by omega) with q | q | q
            · exact absurd q c1
            · exact absurd q c9
            · exact q
          obtain ⟨k, hk, rfl⟩ : ∃ k, k < 5 ∧ y = nI k := by
            rcases pk_ix y (n := 5) (by omega) with q | q | q
            · exact absurd q c13
            · exact absurd q c18
            · exact q
          refine r_ra G (pn := 22) rfl rfl rfl ?_
          refine r_get G (pn := 25) rfl rfl (by first | assumption | (repeat (first | assumption | exact am_eq (by first | assumption | exact am_eq (by assumption) | exact am_ne (by first | decide | omega) (by assumption)) | refine am_ne (by first | decide | omega) ?_))) rfl ?_
          refine r_ic G (pn := 26) rfl rfl  ?_
          refine r_il G (pn := 27) rfl rfl rfl ?_
          refine r_ib G (pn := 28) rfl rfl  ?_
          rw [show (5 : Int32) * nI i = nI (5 * i) from pk_mul 5 _]
          refine r_il G (pn := 29) rfl rfl rfl ?_
          refine r_ib G (pn := 30) rfl rfl  ?_
          rw [nI_add]
          refine r_ialdN G (pn := 31) rfl rfl h88 (by omega) (by omega) ?_
          refine r_goto G rfl ?_
          refine r_iret G rfl rfl (hyes i k rfl rfl hi hk)
theorem sp_13 {cap rc : Int32} (hd : 2 ≤ d) {n : Nat} {x y : Int32} {f : Nat → Int32} (h0 : h[0]? = some (sO cap rc)) (h64 : h[64]? = some (lO 64 (nI n))) (h65 : h[65]? = some (aI 40 f)) (hn : n ≤ 40) (hr : ∀ i, i < n → ∃ r, f i = nI r ∧ r < 2 ^ 31) (hno : (x < 0 ∨ nI n ≤ x ∨ y < 0 ∨ 5 ≤ y) → Q (some (.int (-2))) h) (hyes : ∀ i k r, x = nI i → y = nI k → i < n → k < 5 → f i = nI r → r < 2 ^ 31 → Q (some (.int (nI (r / 2 ^ (4 * (4 - k)) % 16) - 1))) h) : am_KA lx d 13 [.ref 0, .int x, .int y] h Q := by
  obtain ⟨e, rfl⟩ : ∃ e, d = e + 1 := ⟨d - 1, by omega⟩
  have G : am_GK (am_KA lx e) cd_13 := ⟨am_KA_m lx e, cm_13⟩
  refine am_KA_in (by decide) (Nat.le_of_ble_eq_true rfl) ?_
  show am_Go (am_KA lx e) (am_fetch cd_13) Q 0 [some (.ref 0), some (.int x), some (.int y)] [] h 0 0
  refine r_il G (pn := 1) rfl rfl rfl ?_
  refine r_if1 G (pn := 4) rfl rfl (fun c1 => ?_) (fun c1 => ?_)
  · refine r_ic G (pn := 26) rfl rfl  ?_
    refine r_iret G rfl rfl (hno (Or.inl c1))
  · refine r_il G (pn := 5) rfl rfl rfl ?_
    refine r_ra G (pn := 6) rfl rfl rfl ?_
    refine r_get G (pn := 9) rfl rfl (by first | assumption | (repeat (first | assumption | exact am_eq (by first | assumption | exact am_eq (by assumption) | exact am_ne (by first | decide | omega) (by assumption)) | refine am_ne (by first | decide | omega) ?_))) rfl ?_
    refine r_get G (pn := 12) rfl rfl (by first | assumption | (repeat (first | assumption | exact am_eq (by first | assumption | exact am_eq (by assumption) | exact am_ne (by first | decide | omega) (by assumption)) | refine am_ne (by first | decide | omega) ?_))) rfl ?_
    refine r_if2 G (pn := 15) rfl rfl (fun c12 => ?_) (fun c12 => ?_)
    · refine r_ic G (pn := 26) rfl rfl  ?_
      refine r_iret G rfl rfl (hno (Or.inr (Or.inl c12)))
    · refine r_il G (pn := 16) rfl rfl rfl ?_
      refine r_if1 G (pn := 19) rfl rfl (fun c16 => ?_) (fun c16 => ?_)
      · refine r_ic G (pn := 26) rfl rfl  ?_
        refine r_iret G rfl rfl (hno (Or.inr (Or.inr (Or.inl c16))))
      · refine r_il G (pn := 20) rfl rfl rfl ?_
        refine r_ic G (pn := 21) rfl rfl  ?_
        refine r_if2 G (pn := 24) rfl rfl (fun c21 => ?_) (fun c21 => ?_)
        · obtain ⟨i, hi, rfl⟩ : ∃ i, i < n ∧ x = nI i := by
            rcases pk_ix x (n := n) (by omega) with q | q | q
            · exact absurd q c1
            · exact absurd q c12
            · exact q
          obtain ⟨k, hk, rfl⟩ : ∃ k, k < 5 ∧ y = nI k := by
            rcases pk_ix y (n := 5) (by omega) with q | q | q
            · exact absurd q c16
            · exact absurd c21 (Int32.not_lt.mpr q)
            · exact q
          obtain ⟨r, r1, r2⟩ := hr i hi
          refine r_ra G (pn := 28) rfl rfl rfl ?_
          refine r_get G (pn := 31) rfl rfl (by first | assumption | (repeat (first | assumption | exact am_eq (by first | assumption | exact am_eq (by assumption) | exact am_ne (by first | decide | omega) (by assumption)) | refine am_ne (by first | decide | omega) ?_))) rfl ?_
          refine r_il G (pn := 32) rfl rfl rfl ?_
          refine r_il G (pn := 33) rfl rfl rfl ?_
          refine r_inv3 G (pn := 36) rfl rfl h64 (Nat.le_of_ble_eq_true rfl) (Nat.le_of_ble_eq_true rfl) (Nat.le_of_ble_eq_true rfl) (sp_100 (g := 64) (n := n) (by omega) h64 h65 (by omega) hk r1 r2 ?_)
          refine r_iret G rfl rfl (hyes i k r rfl rfl hi hk r1 r2)
        · refine r_ic G (pn := 26) rfl rfl  ?_
          refine r_iret G rfl rfl (hno (Or.inr (Or.inr (Or.inr (Int32.not_lt.mp c21)))))
end
