theorem nI_10 (a b : Nat) : (10 : Int32) * nI a + nI b = nI (10 * a + b) := by
  rw [show (10 : Int32) * nI a = nI (10 * a) from pk_mul 10 _, nI_add]
section
variable {lx : am_Lx} {d : Nat} {h : am_H} {Q : am_Q} {m : Nat → Int32}
theorem sp_36 (hd : 1 ≤ d) {n a : Nat} {od : Nat → Nat → Nat} {fn : Nat → Int32} (hM : h[81]? = some (mO m)) (hm : m 24 = nI n) (h99 : h[99]? = some (aI 100 fn)) (hn : n ≤ 10) (ha : a < n) (hf : ∀ j, j < n → fn (10 * a + j) = nI (od a j) ∧ od a j < 4) (hq : Q (some (.int (nI (sm (od a) n)))) h) : am_KA lx d 36 [.ref 81, .int (nI a)] h Q := by
  have hb : ∀ k, k ≤ n → sm (od a) k ≤ k * 3 := fun k hk => sm_le (fun i hi => by have := (hf i (by omega)).2; omega)
  obtain ⟨e, rfl⟩ : ∃ e, d = e + 1 := ⟨d - 1, by omega⟩
  have G : am_GK (am_KA lx e) cd_36 := ⟨am_KA_m lx e, cm_36⟩
  refine am_KA_in (by decide) (Nat.le_of_ble_eq_true rfl) ?_
  show am_Go (am_KA lx e) (am_fetch cd_36) Q 0 [some (.ref 81), some (.int (nI a)), none, none] [] h 0 0
  refine r_ic G (pn := 1) rfl rfl  ?_
  refine r_is G (pn := 2) rfl rfl (Nat.le_of_ble_eq_true rfl) ?_
  refine r_ic G (pn := 3) rfl rfl  ?_
  refine r_is G (pn := 4) rfl rfl (Nat.le_of_ble_eq_true rfl) ?_
  have lp : ∀ (k i : Nat), i + k = n → am_Go (am_KA lx e) (am_fetch cd_36) Q 4 [some (.ref 81), some (.int (nI a)), some (.int (nI (sm (od a) i))), some (.int (nI i))] [] h 0 0 := by
    intro k
    induction k with
    | zero =>
      intro i hi
      obtain rfl : i = n := by omega
      refine r_il G (pn := 5) rfl rfl rfl ?_
      refine r_ra G (pn := 6) rfl rfl rfl ?_
      refine r_get G (pn := 9) rfl rfl (by first | assumption | (repeat (first | assumption | exact am_eq (by first | assumption | exact am_eq (by assumption) | exact am_ne (by first | decide | omega) (by assumption)) | refine am_ne (by first | decide | omega) ?_))) rfl ?_
      rw [hm]
      refine r_if2 G (pn := 12) rfl rfl (fun c9 => ?_) (fun c9 => ?_)
      · refine r_il G (pn := 33) rfl rfl rfl ?_
        refine r_iret G rfl rfl hq
      · exact absurd (Int32.le_refl _) c9
    | succ k ih =>
      intro i hi
      refine r_il G (pn := 5) rfl rfl rfl ?_
      refine r_ra G (pn := 6) rfl rfl rfl ?_
      refine r_get G (pn := 9) rfl rfl (by first | assumption | (repeat (first | assumption | exact am_eq (by first | assumption | exact am_eq (by assumption) | exact am_ne (by first | decide | omega) (by assumption)) | refine am_ne (by first | decide | omega) ?_))) rfl ?_
      rw [hm]
      refine r_if2 G (pn := 12) rfl rfl (fun c9 => ?_) (fun c9 => ?_)
      · exact absurd ((nI_leI (by omega) (by omega)).mp c9) (by omega)
      · refine r_il G (pn := 13) rfl rfl rfl ?_
        refine r_ra G (pn := 14) rfl rfl rfl ?_
        refine r_get G (pn := 17) rfl rfl (by first | assumption | (repeat (first | assumption | exact am_eq (by first | assumption | exact am_eq (by assumption) | exact am_ne (by first | decide | omega) (by assumption)) | refine am_ne (by first | decide | omega) ?_))) rfl ?_
        refine r_ic G (pn := 19) rfl rfl  ?_
        refine r_il G (pn := 20) rfl rfl rfl ?_
        refine r_ib G (pn := 21) rfl rfl  ?_
        refine r_il G (pn := 22) rfl rfl rfl ?_
        refine r_ib G (pn := 23) rfl rfl  ?_
        rw [nI_10]
        refine r_ialdN G (pn := 24) rfl rfl h99 (by omega) (by omega) ?_
        rw [(hf i (by omega)).1]
        refine r_ib G (pn := 25) rfl rfl  ?_
        refine r_is G (pn := 26) rfl rfl (Nat.le_of_ble_eq_true rfl) ?_
        refine r_inc G (pn := 29) rfl rfl rfl (Nat.le_of_ble_eq_true rfl) ?_
        refine r_goto G rfl ?_
        rw [nI_1, nI_add]
        exact ih (i + 1) (by omega)
  exact lp n 0 (by omega)
theorem sp_37 (hd : 1 ≤ d) {n : Nat} {x : Int64} {ky : Nat → Int64} (hM : h[81]? = some (mO m)) (hm : m 3 = nI n) (h83 : h[83]? = some (aL 12 ky)) (hn : n ≤ 12) (hfound : ∀ i, i < n → ky i = x → (∀ j, j < i → ky j ≠ x) → Q (some (.int (nI i))) h) (hno : (∀ i, i < n → ky i ≠ x) → Q (some (.int (-1))) h) : am_KA lx d 37 [.ref 81, .long x] h Q := by
  obtain ⟨e, rfl⟩ : ∃ e, d = e + 1 := ⟨d - 1, by omega⟩
  have G : am_GK (am_KA lx e) cd_37 := ⟨am_KA_m lx e, cm_37⟩
  refine am_KA_in (by decide) (Nat.le_of_ble_eq_true rfl) ?_
  show am_Go (am_KA lx e) (am_fetch cd_37) Q 0 [some (.ref 81), some (.long x), none, none] [] h 0 0
  refine r_ic G (pn := 1) rfl rfl  ?_
  refine r_is G (pn := 2) rfl rfl (Nat.le_of_ble_eq_true rfl) ?_
  have lp : ∀ (k i : Nat), i + k = n → (∀ j, j < i → ky j ≠ x) → am_Go (am_KA lx e) (am_fetch cd_37) Q 2 [some (.ref 81), some (.long x), none, some (.int (nI i))] [] h 0 0 := by
    intro k
    induction k with
    | zero =>
      intro i hi hj
      obtain rfl : i = n := by omega
      refine r_il G (pn := 3) rfl rfl rfl ?_
      refine r_ra G (pn := 4) rfl rfl rfl ?_
      refine r_get G (pn := 7) rfl rfl (by first | assumption | (repeat (first | assumption | exact am_eq (by first | assumption | exact am_eq (by assumption) | exact am_ne (by first | decide | omega) (by assumption)) | refine am_ne (by first | decide | omega) ?_))) rfl ?_
      rw [hm]
      refine r_if2 G (pn := 10) rfl rfl (fun c7 => ?_) (fun c7 => ?_)
      · refine r_ic G (pn := 30) rfl rfl  ?_
        refine r_iret G rfl rfl (hno hj)
      · exact absurd (Int32.le_refl _) c7
    | succ k ih =>
      intro i hi hj
      refine r_il G (pn := 3) rfl rfl rfl ?_
      refine r_ra G (pn := 4) rfl rfl rfl ?_
      refine r_get G (pn := 7) rfl rfl (by first | assumption | (repeat (first | assumption | exact am_eq (by first | assumption | exact am_eq (by assumption) | exact am_ne (by first | decide | omega) (by assumption)) | refine am_ne (by first | decide | omega) ?_))) rfl ?_
      rw [hm]
      refine r_if2 G (pn := 10) rfl rfl (fun c7 => ?_) (fun c7 => ?_)
      · exact absurd ((nI_leI (by omega) (by omega)).mp c7) (by omega)
      · refine r_ra G (pn := 11) rfl rfl rfl ?_
        refine r_get G (pn := 14) rfl rfl (by first | assumption | (repeat (first | assumption | exact am_eq (by first | assumption | exact am_eq (by assumption) | exact am_ne (by first | decide | omega) (by assumption)) | refine am_ne (by first | decide | omega) ?_))) rfl ?_
        refine r_il G (pn := 15) rfl rfl rfl ?_
        refine r_laldN G (pn := 16) rfl rfl h83 (by omega) (by omega) ?_
        refine r_ll G (pn := 17) rfl rfl rfl ?_
        refine r_lcmp G (pn := 18) rfl rfl  ?_
        refine r_if1 G (pn := 21) rfl rfl (fun c18 => ?_) (fun c18 => ?_)
        · refine r_inc G (pn := 26) rfl rfl rfl (Nat.le_of_ble_eq_true rfl) ?_
          refine r_goto G rfl ?_
          rw [nI_1]
          refine ih (i + 1) (by omega) (fun j hj2 => ?_)
          by_cases z : j = i
          · rw [z]
            intro y
            exact c18 ((lg_cmp_eq _ _).mpr y)
          · exact hj j (by omega)
        · refine r_il G (pn := 22) rfl rfl rfl ?_
          refine r_iret G rfl rfl (hfound i (by omega) ((lg_cmp_eq _ _).mp (Classical.byContradiction c18)) hj)
  exact lp n 0 (by omega) (fun j hj => absurd hj (Nat.not_lt_zero j))
end
