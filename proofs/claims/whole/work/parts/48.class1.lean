abbrev sO (cap rc : Int32) : am_C := .inr (0, [.int cap, .ref 1, .ref 3, .ref 35, .ref 39, .ref 42, .int rc, .ref 43, .ref 58, .ref 61, .ref 64, .ref 66, .ref 68])
abbrev tO (n : Int32) : am_C := .inr (10, [.ref 40, .ref 41, .int n])
abbrev lO (g : Nat) (n : Int32) : am_C := .inr (7, [.ref (g + 1), .int n])
abbrev rO (g : Nat) (p : Int32) : am_C := .inr (9, [.ref (g + 1), .ref (g + 2), .ref (g + 3), .int p])
abbrev aI (n : Nat) (f : Nat → Int32) : am_C := .inl (.int, n, .inl f)
abbrev aL (n : Nat) (f : Nat → Int64) : am_C := .inl (.long, n, .inr (.inl f))
section
variable {lx : am_Lx} {d : Nat} {h : am_H} {Q : am_Q}
theorem sp_4 (hd : 1 ≤ d) {cap rc n : Int32} (h0 : h[0]? = some (sO cap rc)) (h39 : h[39]? = some (tO n)) (hq : Q (some (.int n)) h) : am_KA lx d 4 [.ref 0] h Q := by
  obtain ⟨e, rfl⟩ : ∃ e, d = e + 1 := ⟨d - 1, by omega⟩
  have G : am_GK (am_KA lx e) cd_4 := ⟨am_KA_m lx e, cm_4⟩
  refine am_KA_in (by decide) (Nat.le_of_ble_eq_true rfl) ?_
  show am_Go (am_KA lx e) (am_fetch cd_4) Q 0 [some (.ref 0)] [] h 0 0
  refine r_ra G (pn := 1) rfl rfl rfl ?_
  refine r_get G (pn := 4) rfl rfl (by first | assumption | (repeat (first | assumption | exact am_eq (by first | assumption | exact am_eq (by assumption) | exact am_ne (by first | decide | omega) (by assumption)) | refine am_ne (by first | decide | omega) ?_))) rfl ?_
  refine r_get G (pn := 7) rfl rfl (by first | assumption | (repeat (first | assumption | exact am_eq (by first | assumption | exact am_eq (by assumption) | exact am_ne (by first | decide | omega) (by assumption)) | refine am_ne (by first | decide | omega) ?_))) rfl ?_
  refine r_iret G rfl rfl hq
theorem sp_12 (hd : 1 ≤ d) {cap rc n : Int32} (h0 : h[0]? = some (sO cap rc)) (h64 : h[64]? = some (lO 64 n)) (hq : Q (some (.int n)) h) : am_KA lx d 12 [.ref 0] h Q := by
  obtain ⟨e, rfl⟩ : ∃ e, d = e + 1 := ⟨d - 1, by omega⟩
  have G : am_GK (am_KA lx e) cd_12 := ⟨am_KA_m lx e, cm_12⟩
  refine am_KA_in (by decide) (Nat.le_of_ble_eq_true rfl) ?_
  show am_Go (am_KA lx e) (am_fetch cd_12) Q 0 [some (.ref 0)] [] h 0 0
  refine r_ra G (pn := 1) rfl rfl rfl ?_
  refine r_get G (pn := 4) rfl rfl (by first | assumption | (repeat (first | assumption | exact am_eq (by first | assumption | exact am_eq (by assumption) | exact am_ne (by first | decide | omega) (by assumption)) | refine am_ne (by first | decide | omega) ?_))) rfl ?_
  refine r_get G (pn := 7) rfl rfl (by first | assumption | (repeat (first | assumption | exact am_eq (by first | assumption | exact am_eq (by assumption) | exact am_ne (by first | decide | omega) (by assumption)) | refine am_ne (by first | decide | omega) ?_))) rfl ?_
  refine r_iret G rfl rfl hq
theorem sp_14 (hd : 1 ≤ d) {cap rc n x : Int32} (h0 : h[0]? = some (sO cap rc)) (h39 : h[39]? = some (tO n)) (hno : (x < 0 ∨ n ≤ x) → Q (some (.int 0)) h) (hyes : ¬ x < 0 → ¬ n ≤ x → Q (some (.int 1)) h) : am_KA lx d 14 [.ref 0, .int x] h Q := by
  obtain ⟨e, rfl⟩ : ∃ e, d = e + 1 := ⟨d - 1, by omega⟩
  have G : am_GK (am_KA lx e) cd_14 := ⟨am_KA_m lx e, cm_14⟩
  refine am_KA_in (by decide) (Nat.le_of_ble_eq_true rfl) ?_
  show am_Go (am_KA lx e) (am_fetch cd_14) Q 0 [some (.ref 0), some (.int x)] [] h 0 0
  refine r_il G (pn := 1) rfl rfl rfl ?_
  refine r_if1 G (pn := 4) rfl rfl (fun c1 => ?_) (fun c1 => ?_)
  · refine r_ic G (pn := 20) rfl rfl  ?_
    refine r_iret G rfl (by decide) (hno (Or.inl c1))
  · refine r_il G (pn := 5) rfl rfl rfl ?_
    refine r_ra G (pn := 6) rfl rfl rfl ?_
    refine r_get G (pn := 9) rfl rfl (by first | assumption | (repeat (first | assumption | exact am_eq (by first | assumption | exact am_eq (by assumption) | exact am_ne (by first | decide | omega) (by assumption)) | refine am_ne (by first | decide | omega) ?_))) rfl ?_
    refine r_get G (pn := 12) rfl rfl (by first | assumption | (repeat (first | assumption | exact am_eq (by first | assumption | exact am_eq (by assumption) | exact am_ne (by first | decide | omega) (by assumption)) | refine am_ne (by first | decide | omega) ?_))) rfl ?_
    refine r_if2 G (pn := 15) rfl rfl (fun c12 => ?_) (fun c12 => ?_)
    · refine r_ic G (pn := 20) rfl rfl  ?_
      refine r_iret G rfl (by decide) (hno (Or.inr c12))
    · refine r_ic G (pn := 16) rfl rfl  ?_
      refine r_goto G rfl ?_
      refine r_iret G rfl (by decide) (hyes c1 c12)
theorem sp_16 (hd : 1 ≤ d) {cap rc x : Int32} (h0 : h[0]? = some (sO cap rc)) (hno : (x < 0 ∨ rc ≤ x) → Q (some (.int 0)) h) (hyes : ¬ x < 0 → ¬ rc ≤ x → Q (some (.int 1)) h) : am_KA lx d 16 [.ref 0, .int x] h Q := by
  obtain ⟨e, rfl⟩ : ∃ e, d = e + 1 := ⟨d - 1, by omega⟩
  have G : am_GK (am_KA lx e) cd_16 := ⟨am_KA_m lx e, cm_16⟩
  refine am_KA_in (by decide) (Nat.le_of_ble_eq_true rfl) ?_
  show am_Go (am_KA lx e) (am_fetch cd_16) Q 0 [some (.ref 0), some (.int x)] [] h 0 0
  refine r_il G (pn := 1) rfl rfl rfl ?_
  refine r_if1 G (pn := 4) rfl rfl (fun c1 => ?_) (fun c1 => ?_)
  · refine r_ic G (pn := 17) rfl rfl  ?_
    refine r_iret G rfl (by decide) (hno (Or.inl c1))
  · refine r_il G (pn := 5) rfl rfl rfl ?_
    refine r_ra G (pn := 6) rfl rfl rfl ?_
    refine r_get G (pn := 9) rfl rfl (by first | assumption | (repeat (first | assumption | exact am_eq (by first | assumption | exact am_eq (by assumption) | exact am_ne (by first | decide | omega) (by assumption)) | refine am_ne (by first | decide | omega) ?_))) rfl ?_
    refine r_if2 G (pn := 12) rfl rfl (fun c9 => ?_) (fun c9 => ?_)
    · refine r_ic G (pn := 17) rfl rfl  ?_
      refine r_iret G rfl (by decide) (hno (Or.inr c9))
    · refine r_ic G (pn := 13) rfl rfl  ?_
      refine r_goto G rfl ?_
      refine r_iret G rfl (by decide) (hyes c1 c9)
theorem sp_17 (hd : 1 ≤ d) {x : Int32} (hno : (x < 0 ∨ 3 < x) → Q (some (.int 0)) h) (hyes : ¬ x < 0 → ¬ 3 < x → Q (some (.int 1)) h) : am_KA lx d 17 [.int x] h Q := by
  obtain ⟨e, rfl⟩ : ∃ e, d = e + 1 := ⟨d - 1, by omega⟩
  have G : am_GK (am_KA lx e) cd_17 := ⟨am_KA_m lx e, cm_17⟩
  refine am_KA_in (by decide) (Nat.le_of_ble_eq_true rfl) ?_
  show am_Go (am_KA lx e) (am_fetch cd_17) Q 0 [some (.int x)] [] h 0 0
  refine r_il G (pn := 1) rfl rfl rfl ?_
  refine r_if1 G (pn := 4) rfl rfl (fun c1 => ?_) (fun c1 => ?_)
  · refine r_ic G (pn := 14) rfl rfl  ?_
    refine r_iret G rfl (by decide) (hno (Or.inl c1))
  · refine r_il G (pn := 5) rfl rfl rfl ?_
    refine r_ic G (pn := 6) rfl rfl  ?_
    refine r_if2 G (pn := 9) rfl rfl (fun c6 => ?_) (fun c6 => ?_)
    · refine r_ic G (pn := 14) rfl rfl  ?_
      refine r_iret G rfl (by decide) (hno (Or.inr c6))
    · refine r_ic G (pn := 10) rfl rfl  ?_
      refine r_goto G rfl ?_
      refine r_iret G rfl (by decide) (hyes c1 c6)
theorem sp_18 (hd : 1 ≤ d) {x : Int32} (hno : (x < 0 ∨ 3 < x) → Q (some (.int 0)) h) (hyes : ¬ x < 0 → ¬ 3 < x → Q (some (.int 1)) h) : am_KA lx d 18 [.int x] h Q := by
  obtain ⟨e, rfl⟩ : ∃ e, d = e + 1 := ⟨d - 1, by omega⟩
  have G : am_GK (am_KA lx e) cd_18 := ⟨am_KA_m lx e, cm_18⟩
  refine am_KA_in (by decide) (Nat.le_of_ble_eq_true rfl) ?_
  show am_Go (am_KA lx e) (am_fetch cd_18) Q 0 [some (.int x)] [] h 0 0
  refine r_il G (pn := 1) rfl rfl rfl ?_
  refine r_if1 G (pn := 4) rfl rfl (fun c1 => ?_) (fun c1 => ?_)
  · refine r_ic G (pn := 14) rfl rfl  ?_
    refine r_iret G rfl (by decide) (hno (Or.inl c1))
  · refine r_il G (pn := 5) rfl rfl rfl ?_
    refine r_ic G (pn := 6) rfl rfl  ?_
    refine r_if2 G (pn := 9) rfl rfl (fun c6 => ?_) (fun c6 => ?_)
    · refine r_ic G (pn := 14) rfl rfl  ?_
      refine r_iret G rfl (by decide) (hno (Or.inr c6))
    · refine r_ic G (pn := 10) rfl rfl  ?_
      refine r_goto G rfl ?_
      refine r_iret G rfl (by decide) (hyes c1 c6)
theorem sp_5_no (hd : 3 ≤ d) {cap rc n x : Int32} (h0 : h[0]? = some (sO cap rc)) (h39 : h[39]? = some (tO n)) (hx : x < 0 ∨ n ≤ x) (hq : Q (some (.int (-1))) h) : am_KA lx d 5 [.ref 0, .int x] h Q := by
  obtain ⟨e, rfl⟩ : ∃ e, d = e + 1 := ⟨d - 1, by omega⟩
  have G : am_GK (am_KA lx e) cd_5 := ⟨am_KA_m lx e, cm_5⟩
  refine am_KA_in (by decide) (Nat.le_of_ble_eq_true rfl) ?_
  show am_Go (am_KA lx e) (am_fetch cd_5) Q 0 [some (.ref 0), some (.int x)] [] h 0 0
  refine r_ra G (pn := 1) rfl rfl rfl ?_
  refine r_il G (pn := 2) rfl rfl rfl ?_
  refine r_inv2 G (pn := 5) rfl rfl (by first | assumption | (repeat (first | assumption | exact am_eq (by first | assumption | exact am_eq (by assumption) | exact am_ne (by first | decide | omega) (by assumption)) | refine am_ne (by first | decide | omega) ?_))) (Nat.le_of_ble_eq_true rfl) (Nat.le_of_ble_eq_true rfl) (Nat.le_of_ble_eq_true rfl) (sp_14 (by omega) h0 h39 (fun _ => ?_) (fun a b => (hx.elim a b).elim))
  show am_Go (am_KA lx e) (am_fetch cd_5) Q 5 [some (.ref 0), some (.int x)] [.int 0] h 0 0
  refine r_if1 G (pn := 8) rfl rfl (fun c5 => ?_) (fun c5 => ?_)
  · refine r_ic G (pn := 24) rfl rfl  ?_
    refine r_iret G rfl rfl hq
  · exact absurd rfl c5
theorem sp_5 (hd : 3 ≤ d) {cap rc : Int32} {n j w : Nat} {wd : Nat → Int64} (h0 : h[0]? = some (sO cap rc)) (h39 : h[39]? = some (tO (nI n))) (h40 : h[40]? = some (aL 12 wd)) (hn : n ≤ 12) (hj : j < n) (hw : wd j = lN w) (hw2 : w < 2 ^ 34) (hq : Q (some (.int (nI (w / 1073741824)))) h) : am_KA lx d 5 [.ref 0, .int (nI j)] h Q := by
  obtain ⟨e, rfl⟩ : ∃ e, d = e + 1 := ⟨d - 1, by omega⟩
  have G : am_GK (am_KA lx e) cd_5 := ⟨am_KA_m lx e, cm_5⟩
  refine am_KA_in (by decide) (Nat.le_of_ble_eq_true rfl) ?_
  show am_Go (am_KA lx e) (am_fetch cd_5) Q 0 [some (.ref 0), some (.int (nI j))] [] h 0 0
  refine r_ra G (pn := 1) rfl rfl rfl ?_
  refine r_il G (pn := 2) rfl rfl rfl ?_
  refine r_inv2 G (pn := 5) rfl rfl (by first | assumption | (repeat (first | assumption | exact am_eq (by first | assumption | exact am_eq (by assumption) | exact am_ne (by first | decide | omega) (by assumption)) | refine am_ne (by first | decide | omega) ?_))) (Nat.le_of_ble_eq_true rfl) (Nat.le_of_ble_eq_true rfl) (Nat.le_of_ble_eq_true rfl) (sp_14 (by omega) h0 h39 (fun a => absurd a (fun a => a.elim (nI_pos (by omega)) (nI_ge (by omega) (by omega)))) (fun _ _ => ?_))
  show am_Go (am_KA lx e) (am_fetch cd_5) Q 5 [some (.ref 0), some (.int (nI j))] [.int 1] h 0 0
  refine r_if1 G (pn := 8) rfl rfl (fun c5 => ?_) (fun c5 => ?_)
  · exact absurd c5 (by decide)
  · refine r_ra G (pn := 9) rfl rfl rfl ?_
    refine r_get G (pn := 12) rfl rfl (by first | assumption | (repeat (first | assumption | exact am_eq (by first | assumption | exact am_eq (by assumption) | exact am_ne (by first | decide | omega) (by assumption)) | refine am_ne (by first | decide | omega) ?_))) rfl ?_
    refine r_get G (pn := 15) rfl rfl (by first | assumption | (repeat (first | assumption | exact am_eq (by first | assumption | exact am_eq (by assumption) | exact am_ne (by first | decide | omega) (by assumption)) | refine am_ne (by first | decide | omega) ?_))) rfl ?_
    refine r_il G (pn := 16) rfl rfl rfl ?_
    refine r_laldN G (pn := 17) rfl rfl (by assumption) (by omega) (by omega) ?_
    rw [hw]
    refine r_ins1 G (pn := 20) rfl rfl (Nat.le_of_ble_eq_true rfl) (Nat.le_of_ble_eq_true rfl) (Nat.le_of_ble_eq_true rfl) (sp_128 (by omega) hw2 ?_)
    show am_Go (am_KA lx e) (am_fetch cd_5) Q 20 [some (.ref 0), some (.int (nI j))] [.int (nI (w / 1073741824))] h 0 0
    refine r_goto G rfl ?_
    refine r_iret G rfl rfl hq
theorem sp_15_no (hd : 3 ≤ d) {cap rc n x y : Int32} (h0 : h[0]? = some (sO cap rc)) (h39 : h[39]? = some (tO n)) (hx : x < 0 ∨ n ≤ x) (hq : Q (some (.int 0)) h) : am_KA lx d 15 [.ref 0, .int x, .int y] h Q := by
  obtain ⟨e, rfl⟩ : ∃ e, d = e + 1 := ⟨d - 1, by omega⟩
  have G : am_GK (am_KA lx e) cd_15 := ⟨am_KA_m lx e, cm_15⟩
  refine am_KA_in (by decide) (Nat.le_of_ble_eq_true rfl) ?_
  show am_Go (am_KA lx e) (am_fetch cd_15) Q 0 [some (.ref 0), some (.int x), some (.int y)] [] h 0 0
  refine r_ra G (pn := 1) rfl rfl rfl ?_
  refine r_il G (pn := 2) rfl rfl rfl ?_
  refine r_inv2 G (pn := 5) rfl rfl (by first | assumption | (repeat (first | assumption | exact am_eq (by first | assumption | exact am_eq (by assumption) | exact am_ne (by first | decide | omega) (by assumption)) | refine am_ne (by first | decide | omega) ?_))) (Nat.le_of_ble_eq_true rfl) (Nat.le_of_ble_eq_true rfl) (Nat.le_of_ble_eq_true rfl) (sp_14 (by omega) h0 h39 (fun _ => ?_) (fun a b => (hx.elim a b).elim))
  show am_Go (am_KA lx e) (am_fetch cd_15) Q 5 [some (.ref 0), some (.int x), some (.int y)] [.int 0] h 0 0
  refine r_if1 G (pn := 8) rfl rfl (fun c5 => ?_) (fun c5 => ?_)
  · refine r_ic G (pn := 33) rfl rfl  ?_
    refine r_iret G rfl (by decide) hq
  · exact absurd rfl c5
theorem sp_15 (hd : 3 ≤ d) {cap rc : Int32} {n j w : Nat} {y : Int32} {wd : Nat → Int64} (h0 : h[0]? = some (sO cap rc)) (h39 : h[39]? = some (tO (nI n))) (h40 : h[40]? = some (aL 12 wd)) (hn : n ≤ 12) (hj : j < n) (hw : wd j = lN w) (hw2 : w < 2 ^ 34)
    (hno : (y < 0 ∨ nI (w / 1073741824) ≤ y) → Q (some (.int 0)) h) (hyes : ¬ y < 0 → ¬ nI (w / 1073741824) ≤ y → Q (some (.int 1)) h) : am_KA lx d 15 [.ref 0, .int (nI j), .int y] h Q := by
  obtain ⟨e, rfl⟩ : ∃ e, d = e + 1 := ⟨d - 1, by omega⟩
  have G : am_GK (am_KA lx e) cd_15 := ⟨am_KA_m lx e, cm_15⟩
  refine am_KA_in (by decide) (Nat.le_of_ble_eq_true rfl) ?_
  show am_Go (am_KA lx e) (am_fetch cd_15) Q 0 [some (.ref 0), some (.int (nI j)), some (.int y)] [] h 0 0
  refine r_ra G (pn := 1) rfl rfl rfl ?_
  refine r_il G (pn := 2) rfl rfl rfl ?_
  refine r_inv2 G (pn := 5) rfl rfl (by first | assumption | (repeat (first | assumption | exact am_eq (by first | assumption | exact am_eq (by assumption) | exact am_ne (by first | decide | omega) (by assumption)) | refine am_ne (by first | decide | omega) ?_))) (Nat.le_of_ble_eq_true rfl) (Nat.le_of_ble_eq_true rfl) (Nat.le_of_ble_eq_true rfl) (sp_14 (by omega) h0 h39 (fun a => absurd a (fun a => a.elim (nI_pos (by omega)) (nI_ge (by omega) (by omega)))) (fun _ _ => ?_))
  show am_Go (am_KA lx e) (am_fetch cd_15) Q 5 [some (.ref 0), some (.int (nI j)), some (.int y)] [.int 1] h 0 0
  refine r_if1 G (pn := 8) rfl rfl (fun c5 => ?_) (fun c5 => ?_)
  · exact absurd c5 (by decide)
  · refine r_il G (pn := 9) rfl rfl rfl ?_
    refine r_if1 G (pn := 12) rfl rfl (fun c9 => ?_) (fun c9 => ?_)
    · refine r_ic G (pn := 33) rfl rfl  ?_
      refine r_iret G rfl (by decide) (hno (Or.inl c9))
    · refine r_il G (pn := 13) rfl rfl rfl ?_
      refine r_ra G (pn := 14) rfl rfl rfl ?_
      refine r_get G (pn := 17) rfl rfl (by first | assumption | (repeat (first | assumption | exact am_eq (by first | assumption | exact am_eq (by assumption) | exact am_ne (by first | decide | omega) (by assumption)) | refine am_ne (by first | decide | omega) ?_))) rfl ?_
      refine r_get G (pn := 20) rfl rfl (by first | assumption | (repeat (first | assumption | exact am_eq (by first | assumption | exact am_eq (by assumption) | exact am_ne (by first | decide | omega) (by assumption)) | refine am_ne (by first | decide | omega) ?_))) rfl ?_
      refine r_il G (pn := 21) rfl rfl rfl ?_
      refine r_laldN G (pn := 22) rfl rfl (by assumption) (by omega) (by omega) ?_
      rw [hw]
      refine r_ins1 G (pn := 25) rfl rfl (Nat.le_of_ble_eq_true rfl) (Nat.le_of_ble_eq_true rfl) (Nat.le_of_ble_eq_true rfl) (sp_128 (by omega) hw2 ?_)
      show am_Go (am_KA lx e) (am_fetch cd_15) Q 25 [some (.ref 0), some (.int (nI j)), some (.int y)] [.int (nI (w / 1073741824)), .int y] h 0 0
      refine r_if2 G (pn := 28) rfl rfl (fun c25 => ?_) (fun c25 => ?_)
      · refine r_ic G (pn := 33) rfl rfl  ?_
        refine r_iret G rfl (by decide) (hno (Or.inr c25))
      · refine r_ic G (pn := 29) rfl rfl  ?_
        refine r_goto G rfl ?_
        refine r_iret G rfl (by decide) (hyes c9 c25)
theorem sp_6_no (hd : 4 ≤ d) {cap rc n x y : Int32} (h0 : h[0]? = some (sO cap rc)) (h39 : h[39]? = some (tO n)) (hx : x < 0 ∨ n ≤ x) (hq : Q (some (.int (-1))) h) : am_KA lx d 6 [.ref 0, .int x, .int y] h Q := by
  obtain ⟨e, rfl⟩ : ∃ e, d = e + 1 := ⟨d - 1, by omega⟩
  have G : am_GK (am_KA lx e) cd_6 := ⟨am_KA_m lx e, cm_6⟩
  refine am_KA_in (by decide) (Nat.le_of_ble_eq_true rfl) ?_
  show am_Go (am_KA lx e) (am_fetch cd_6) Q 0 [some (.ref 0), some (.int x), some (.int y)] [] h 0 0
  refine r_ra G (pn := 1) rfl rfl rfl ?_
  refine r_il G (pn := 2) rfl rfl rfl ?_
  refine r_il G (pn := 3) rfl rfl rfl ?_
  refine r_inv3 G (pn := 6) rfl rfl (by first | assumption | (repeat (first | assumption | exact am_eq (by first | assumption | exact am_eq (by assumption) | exact am_ne (by first | decide | omega) (by assumption)) | refine am_ne (by first | decide | omega) ?_))) (Nat.le_of_ble_eq_true rfl) (Nat.le_of_ble_eq_true rfl) (Nat.le_of_ble_eq_true rfl) (sp_15_no (by omega) h0 h39 hx ?_)
  show am_Go (am_KA lx e) (am_fetch cd_6) Q 6 [some (.ref 0), some (.int x), some (.int y)] [.int 0] h 0 0
  refine r_if1 G (pn := 9) rfl rfl (fun c6 => ?_) (fun c6 => ?_)
  · refine r_ic G (pn := 26) rfl rfl  ?_
    refine r_iret G rfl rfl hq
  · exact absurd rfl c6
theorem sp_6 (hd : 4 ≤ d) {cap rc : Int32} {n j w : Nat} {y : Int32} {wd : Nat → Int64} (h0 : h[0]? = some (sO cap rc)) (h39 : h[39]? = some (tO (nI n))) (h40 : h[40]? = some (aL 12 wd)) (hn : n ≤ 12) (hj : j < n) (hw : wd j = lN w) (hw2 : w < 2 ^ 34) (h5 : w / 1073741824 ≤ 5)
    (hno : (y < 0 ∨ nI (w / 1073741824) ≤ y) → Q (some (.int (-1))) h) (hyes : ∀ i, y = nI i → i < w / 1073741824 → Q (some (.int (nI (w / 2 ^ (20 + 2 * (w / 1073741824 - 1 - i)) % 4)))) h) : am_KA lx d 6 [.ref 0, .int (nI j), .int y] h Q := by
  obtain ⟨e, rfl⟩ : ∃ e, d = e + 1 := ⟨d - 1, by omega⟩
  have G : am_GK (am_KA lx e) cd_6 := ⟨am_KA_m lx e, cm_6⟩
  refine am_KA_in (by decide) (Nat.le_of_ble_eq_true rfl) ?_
  show am_Go (am_KA lx e) (am_fetch cd_6) Q 0 [some (.ref 0), some (.int (nI j)), some (.int y)] [] h 0 0
  refine r_ra G (pn := 1) rfl rfl rfl ?_
  refine r_il G (pn := 2) rfl rfl rfl ?_
  refine r_il G (pn := 3) rfl rfl rfl ?_
  refine r_inv3 G (pn := 6) rfl rfl (by first | assumption | (repeat (first | assumption | exact am_eq (by first | assumption | exact am_eq (by assumption) | exact am_ne (by first | decide | omega) (by assumption)) | refine am_ne (by first | decide | omega) ?_))) (Nat.le_of_ble_eq_true rfl) (Nat.le_of_ble_eq_true rfl) (Nat.le_of_ble_eq_true rfl) (sp_15 (by omega) h0 h39 h40 hn hj hw hw2 (fun hy => ?_) (fun y0 y1 => ?_))
  · show am_Go (am_KA lx e) (am_fetch cd_6) Q 6 [some (.ref 0), some (.int (nI j)), some (.int y)] [.int 0] h 0 0
    refine r_if1 G (pn := 9) rfl rfl (fun c6 => ?_) (fun c6 => ?_)
    · refine r_ic G (pn := 26) rfl rfl  ?_
      refine r_iret G rfl rfl (hno hy)
    · exact absurd rfl c6
  · obtain ⟨i, hi, rfl⟩ : ∃ i, i < w / 1073741824 ∧ y = nI i := by
      rcases pk_ix y (n := w / 1073741824) (by omega) with q | q | q
      · exact absurd q y0
      · exact absurd q y1
      · exact q
    show am_Go (am_KA lx e) (am_fetch cd_6) Q 6 [some (.ref 0), some (.int (nI j)), some (.int (nI i))] [.int 1] h 0 0
    refine r_if1 G (pn := 9) rfl rfl (fun c6 => ?_) (fun c6 => ?_)
    · exact absurd c6 (by decide)
    · refine r_ra G (pn := 10) rfl rfl rfl ?_
      refine r_get G (pn := 13) rfl rfl (by first | assumption | (repeat (first | assumption | exact am_eq (by first | assumption | exact am_eq (by assumption) | exact am_ne (by first | decide | omega) (by assumption)) | refine am_ne (by first | decide | omega) ?_))) rfl ?_
      refine r_get G (pn := 16) rfl rfl (by first | assumption | (repeat (first | assumption | exact am_eq (by first | assumption | exact am_eq (by assumption) | exact am_ne (by first | decide | omega) (by assumption)) | refine am_ne (by first | decide | omega) ?_))) rfl ?_
      refine r_il G (pn := 17) rfl rfl rfl ?_
      refine r_laldN G (pn := 18) rfl rfl (by assumption) (by omega) (by omega) ?_
      refine r_il G (pn := 19) rfl rfl rfl ?_
      rw [hw]
      refine r_ins2 G (pn := 22) rfl rfl (Nat.le_of_ble_eq_true rfl) (Nat.le_of_ble_eq_true rfl) (Nat.le_of_ble_eq_true rfl) (sp_129 (by omega) hw2 hi h5 ?_)
      generalize hv : w / 2 ^ (20 + 2 * (w / 1073741824 - 1 - i)) % 4 = v
      show am_Go (am_KA lx e) (am_fetch cd_6) Q 22 [some (.ref 0), some (.int (nI j)), some (.int (nI i))] [.int (nI v)] h 0 0
      refine r_goto G rfl ?_
      refine r_iret G rfl rfl (hv ▸ hyes i rfl hi)
end
