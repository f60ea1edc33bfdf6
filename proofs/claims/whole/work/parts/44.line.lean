theorem sp_87 {lx : am_Lx} {d : Nat} (hd : 1 ≤ d) {h : am_H} {n : Nat} {f : Nat → Int32} {x : Int32} {Q : am_Q} (h1 : h[1]? = some (.inr (4, [.ref 2, .int (nI n)]))) (h2 : h[2]? = some (.inl (.char, 24, .inl f))) (hn : n ≤ 24)
    (hno : (x < 32 ∨ 126 < x ∨ n = 24) → Q (some (.int 0)) h) (hyes : ¬ x < 32 → ¬ 126 < x → n < 24 → Q (some (.int 1)) ((h.set 2 (.inl (.char, 24, .inl (upd f n (vp_nar .char x))))).set 1 (.inr (4, [.ref 2, .int (nI (n + 1))])))) : am_KA lx d 87 [.ref 1, .int x] h Q := by
  obtain ⟨e, rfl⟩ : ∃ e, d = e + 1 := ⟨d - 1, by omega⟩
  have G : am_GK (am_KA lx e) cd_87 := ⟨am_KA_m lx e, cm_87⟩
  refine am_KA_in (by decide) (Nat.le_of_ble_eq_true rfl) ?_
  show am_Go (am_KA lx e) (am_fetch cd_87) Q 0 [some (.ref 1), some (.int x)] [] h 0 0
  refine r_il G (pn := 1) rfl rfl rfl ?_
  refine r_ic G (pn := 3) rfl rfl  ?_
  refine r_if2 G (pn := 6) rfl rfl (fun c3 => ?_) (fun c3 => ?_)
  · refine r_ic G (pn := 22) rfl rfl  ?_
    refine r_iret G rfl (by decide) (hno (Or.inl c3))
  · refine r_il G (pn := 7) rfl rfl rfl ?_
    refine r_ic G (pn := 9) rfl rfl  ?_
    refine r_if2 G (pn := 12) rfl rfl (fun c9 => ?_) (fun c9 => ?_)
    · refine r_ic G (pn := 22) rfl rfl  ?_
      refine r_iret G rfl (by decide) (hno (Or.inr (Or.inl c9)))
    · refine r_ra G (pn := 13) rfl rfl rfl ?_
      refine r_get G (pn := 16) rfl rfl (by first | assumption | (repeat (first | assumption | exact am_eq (by first | assumption | exact am_eq (by assumption) | exact am_ne (by first | decide | omega) (by assumption)) | refine am_ne (by first | decide | omega) ?_))) rfl ?_
      refine r_ic G (pn := 18) rfl rfl  ?_
      refine r_if2 G (pn := 21) rfl rfl (fun c18 => ?_) (fun c18 => ?_)
      · have hlt : n < 24 := (nI_ltI (a := n) (b := 24) (by omega) (by omega)).mp c18
        refine r_ra G (pn := 24) rfl rfl rfl ?_
        refine r_get G (pn := 27) rfl rfl (by first | assumption | (repeat (first | assumption | exact am_eq (by first | assumption | exact am_eq (by assumption) | exact am_ne (by first | decide | omega) (by assumption)) | refine am_ne (by first | decide | omega) ?_))) rfl ?_
        refine r_ra G (pn := 28) rfl rfl rfl ?_
        refine r_get G (pn := 31) rfl rfl (by first | assumption | (repeat (first | assumption | exact am_eq (by first | assumption | exact am_eq (by assumption) | exact am_ne (by first | decide | omega) (by assumption)) | refine am_ne (by first | decide | omega) ?_))) rfl ?_
        refine r_il G (pn := 32) rfl rfl rfl ?_
        refine r_castN G (pn := 33) rfl rfl (by assumption) hlt (by omega) ?_
        refine r_ra G (pn := 34) rfl rfl rfl ?_
        refine r_dup G (pn := 35) rfl rfl rfl ?_
        refine r_get G (pn := 38) rfl rfl (by first | assumption | (repeat (first | assumption | exact am_eq (by first | assumption | exact am_eq (by assumption) | exact am_ne (by first | decide | omega) (by assumption)) | refine am_ne (by first | decide | omega) ?_))) rfl ?_
        refine r_ic G (pn := 39) rfl rfl  ?_
        refine r_ib G (pn := 40) rfl rfl  ?_
        refine r_puti G (pn := 43) rfl rfl (by first | assumption | (repeat (first | assumption | exact am_eq (by first | assumption | exact am_eq (by assumption) | exact am_ne (by first | decide | omega) (by assumption)) | refine am_ne (by first | decide | omega) ?_))) (Nat.le_of_ble_eq_true rfl) ?_
        refine r_ic G (pn := 44) rfl rfl  ?_
        rw [nI_1]
        refine r_iret G rfl (by decide) (hyes c3 c9 hlt)
      · have hge : n = 24 := by
          have : ¬ n < 24 := fun q => c18 ((nI_ltI (a := n) (b := 24) (by omega) (by omega)).mpr q)
          omega
        refine r_ic G (pn := 22) rfl rfl  ?_
        refine r_iret G rfl (by decide) (hno (Or.inr (Or.inr hge)))
theorem sp_88 {lx : am_Lx} {d : Nat} (hd : 1 ≤ d) {h : am_H} {n : Nat} {Q : am_Q} (h1 : h[1]? = some (.inr (4, [.ref 2, .int (nI n)]))) (hn : n ≤ 24)
    (hno : n = 0 → Q (some (.int 0)) h) (hyes : ∀ k, n = k + 1 → Q (some (.int 1)) (h.set 1 (.inr (4, [.ref 2, .int (nI k)])))) : am_KA lx d 88 [.ref 1] h Q := by
  obtain ⟨e, rfl⟩ : ∃ e, d = e + 1 := ⟨d - 1, by omega⟩
  have G : am_GK (am_KA lx e) cd_88 := ⟨am_KA_m lx e, cm_88⟩
  refine am_KA_in (by decide) (Nat.le_of_ble_eq_true rfl) ?_
  show am_Go (am_KA lx e) (am_fetch cd_88) Q 0 [some (.ref 1)] [] h 0 0
  refine r_ra G (pn := 1) rfl rfl rfl ?_
  refine r_get G (pn := 4) rfl rfl (by first | assumption | (repeat (first | assumption | exact am_eq (by first | assumption | exact am_eq (by assumption) | exact am_ne (by first | decide | omega) (by assumption)) | refine am_ne (by first | decide | omega) ?_))) rfl ?_
  refine r_if1 G (pn := 7) rfl rfl (fun c4 => ?_) (fun c4 => ?_)
  · obtain ⟨k, rfl⟩ : ∃ k, n = k + 1 := ⟨n - 1, by
      have : ¬ n = 0 := fun q => c4 (by rw [q]; rfl)
      omega⟩
    refine r_ra G (pn := 10) rfl rfl rfl ?_
    refine r_dup G (pn := 11) rfl rfl rfl ?_
    refine r_get G (pn := 14) rfl rfl (by first | assumption | (repeat (first | assumption | exact am_eq (by first | assumption | exact am_eq (by assumption) | exact am_ne (by first | decide | omega) (by assumption)) | refine am_ne (by first | decide | omega) ?_))) rfl ?_
    refine r_ic G (pn := 15) rfl rfl  ?_
    refine r_ib G (pn := 16) rfl rfl  ?_
    refine r_puti G (pn := 19) rfl rfl (by first | assumption | (repeat (first | assumption | exact am_eq (by first | assumption | exact am_eq (by assumption) | exact am_ne (by first | decide | omega) (by assumption)) | refine am_ne (by first | decide | omega) ?_))) (Nat.le_of_ble_eq_true rfl) ?_
    refine r_ic G (pn := 20) rfl rfl  ?_
    rw [nI_pred]
    refine r_iret G rfl (by decide) (hyes k rfl)
  · have h0 : n = 0 := by
      refine Classical.byContradiction fun q => c4 (nI_ne0 (by omega) (by omega))
    refine r_ic G (pn := 8) rfl rfl  ?_
    refine r_iret G rfl (by decide) (hno h0)
theorem sp_89 {lx : am_Lx} {d : Nat} (hd : 1 ≤ d) {h : am_H} {n : Nat} {Q : am_Q} (h1 : h[1]? = some (.inr (4, [.ref 2, .int (nI n)])))
    (hq : Q none (h.set 1 (.inr (4, [.ref 2, .int (nI 0)])))) : am_KA lx d 89 [.ref 1] h Q := by
  obtain ⟨e, rfl⟩ : ∃ e, d = e + 1 := ⟨d - 1, by omega⟩
  have G : am_GK (am_KA lx e) cd_89 := ⟨am_KA_m lx e, cm_89⟩
  refine am_KA_in (by decide) (Nat.le_of_ble_eq_true rfl) ?_
  show am_Go (am_KA lx e) (am_fetch cd_89) Q 0 [some (.ref 1)] [] h 0 0
  refine r_ra G (pn := 1) rfl rfl rfl ?_
  refine r_ic G (pn := 2) rfl rfl  ?_
  refine r_puti G (pn := 5) rfl rfl (by first | assumption | (repeat (first | assumption | exact am_eq (by first | assumption | exact am_eq (by assumption) | exact am_ne (by first | decide | omega) (by assumption)) | refine am_ne (by first | decide | omega) ?_))) (Nat.le_of_ble_eq_true rfl) ?_
  refine r_vret G rfl hq
