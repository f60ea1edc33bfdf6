/-- the last rise below k -/
def piv (f : Nat → Nat) : Nat → Option Nat
  | 0 => none
  | i + 1 => if f (i + 1) < f i then piv f i else some i
/-- the last one below k that isn't less than v -/
def jst (f : Nat → Nat) (v : Nat) : Nat → Nat
  | 0 => 0
  | j + 1 => if f j < v then jst f v j else j
def swp (f : Nat → Nat) (i j : Nat) : Nat → Nat := fun q => if q = i then f j else if q = j then f i else f q
def nxt (f : Nat → Nat) (n i : Nat) : Nat → Nat := fun q => if q ≤ i then swp f i (jst f (f i) n) q else swp f i (jst f (f i) n) (n + i - q)
theorem piv_lt {f : Nat → Nat} : ∀ {k i : Nat}, piv f k = some i → i < k ∧ ¬ f (i + 1) < f i
  | 0, i, h => by cases h
  | k + 1, i, h => by
    unfold piv at h
    split at h
    · have := piv_lt h
      exact ⟨by omega, this.2⟩
    · next hn =>
      cases h
      exact ⟨by omega, hn⟩
theorem jst_in {f : Nat → Nat} {v p : Nat} (hp : ¬ f p < v) : ∀ {k : Nat}, p < k → p ≤ jst f v k ∧ jst f v k < k ∧ ¬ f (jst f v k) < v
  | 0, h => absurd h (by omega)
  | k + 1, h => by
    unfold jst
    split
    · next hl =>
      have hk : p ≠ k := fun e => hp (by rw [e]; exact hl)
      have := jst_in hp (k := k) (by omega)
      exact ⟨this.1, by omega, this.2.2⟩
    · next hl => exact ⟨by omega, by omega, hl⟩
section
variable {lx : am_Lx} {d : Nat} {h : am_H} {m : Nat → Int32} {Q : am_Q}
set_option maxHeartbeats 1000000 in
theorem sp_39 (hd : 1 ≤ d) {cnt : Nat} {f : Nat → Nat} {ft : Nat → Int32} (hM : h[81]? = some (mO m)) (hm : m 31 = nI cnt) (h103 : h[103]? = some (aI 10 ft)) (ht : ∀ q, q < cnt → ft q = nI (f q) ∧ f q < 100) (hne : ∀ p q, p < cnt → q < cnt → f p = f q → p = q) (hc1 : 1 ≤ cnt) (h5 : cnt ≤ 5)
    (hnone : piv f (cnt - 1) = none → Q (some (.int 0)) h) (hsome : ∀ i ft', piv f (cnt - 1) = some i → (∀ q, q < cnt → ft' q = nI (nxt f cnt i q)) → Q (some (.int 1)) (h.set 103 (aI 10 ft'))) : am_KA lx d 39 [.ref 81] h Q := by
  obtain ⟨c9, rfl⟩ : ∃ c9, cnt = c9 + 1 := ⟨cnt - 1, by omega⟩
  rw [Nat.add_sub_cancel] at hnone hsome
  obtain ⟨e, rfl⟩ : ∃ e, d = e + 1 := ⟨d - 1, by omega⟩
  have G : am_GK (am_KA lx e) cd_39 := ⟨am_KA_m lx e, cm_39⟩
  refine am_KA_in (by decide) (Nat.le_of_ble_eq_true rfl) ?_
  show am_Go (am_KA lx e) (am_fetch cd_39) Q 0 [some (.ref 81), none, none, none, none, none] [] h 0 0
  refine r_ra G (pn := 1) rfl rfl rfl ?_
  refine r_get G (pn := 4) rfl rfl (by first | assumption | (repeat (first | assumption | exact am_eq (by first | assumption | exact am_eq (by assumption) | exact am_ne (by first | decide | omega) (by assumption)) | refine am_ne (by first | decide | omega) ?_))) rfl ?_
  rw [hm]
  refine r_ic G (pn := 5) rfl rfl  ?_
  refine r_ib G (pn := 6) rfl rfl  ?_
  rw [show nI (c9 + 1) - 2 = nI c9 - 1 from by
    have h9 : c9 = 0 ∨ c9 = 1 ∨ c9 = 2 ∨ c9 = 3 ∨ c9 = 4 := by omega
    rcases h9 with q | q | q | q | q <;> rw [q] <;> decide]
  refine r_is G (pn := 7) rfl rfl (Nat.le_of_ble_eq_true rfl) ?_
  have G2 := G
  -- behind the pivot
  have fin : ∀ (i : Nat) (d2 d3 d4 d5 : Option Value), piv f c9 = some i → am_Go (am_KA lx e) (am_fetch cd_39) Q 40 [some (.ref 81), some (.int (nI i)), d2, d3, d4, d5] [] h 0 0 := by
    intro i d2 d3 d4 d5 hp
    obtain ⟨hi, hr⟩ := piv_lt hp
    have hr2 : f i < f (i + 1) := by
      have : f i ≠ f (i + 1) := fun e => absurd (hne i (i + 1) (by omega) (by omega) e) (by omega)
      omega
    obtain ⟨j1, j2, j3⟩ := jst_in (f := f) (v := f i) (p := i + 1) (by omega) (k := c9 + 1) (by omega)
    refine r_ra G (pn := 41) rfl rfl rfl ?_
    refine r_get G (pn := 44) rfl rfl (by first | assumption | (repeat (first | assumption | exact am_eq (by first | assumption | exact am_eq (by assumption) | exact am_ne (by first | decide | omega) (by assumption)) | refine am_ne (by first | decide | omega) ?_))) rfl ?_
    rw [hm]
    refine r_ic G (pn := 45) rfl rfl  ?_
    refine r_ib G (pn := 46) rfl rfl  ?_
    rw [nI_pred]
    refine r_is G (pn := 47) rfl rfl (Nat.le_of_ble_eq_true rfl) ?_
    -- behind j
    have fin2 : ∀ (j : Nat), jst f (f i) (c9 + 1) = j → am_Go (am_KA lx e) (am_fetch cd_39) Q 68 [some (.ref 81), some (.int (nI i)), some (.int (nI j)), d3, d4, d5] [] h 0 0 := by
      intro j hj
      have hij : i < j := by omega
      refine r_ra G (pn := 69) rfl rfl rfl ?_
      refine r_get G (pn := 72) rfl rfl (by first | assumption | (repeat (first | assumption | exact am_eq (by first | assumption | exact am_eq (by assumption) | exact am_ne (by first | decide | omega) (by assumption)) | refine am_ne (by first | decide | omega) ?_))) rfl ?_
      refine r_il G (pn := 73) rfl rfl rfl ?_
      refine r_ialdN G (pn := 74) rfl rfl h103 (by omega) (by omega) ?_
      refine r_is G (pn := 75) rfl rfl (Nat.le_of_ble_eq_true rfl) ?_
      refine r_ra G (pn := 76) rfl rfl rfl ?_
      refine r_get G (pn := 79) rfl rfl (by first | assumption | (repeat (first | assumption | exact am_eq (by first | assumption | exact am_eq (by assumption) | exact am_ne (by first | decide | omega) (by assumption)) | refine am_ne (by first | decide | omega) ?_))) rfl ?_
      refine r_il G (pn := 80) rfl rfl rfl ?_
      refine r_ra G (pn := 81) rfl rfl rfl ?_
      refine r_get G (pn := 84) rfl rfl (by first | assumption | (repeat (first | assumption | exact am_eq (by first | assumption | exact am_eq (by assumption) | exact am_ne (by first | decide | omega) (by assumption)) | refine am_ne (by first | decide | omega) ?_))) rfl ?_
      refine r_il G (pn := 85) rfl rfl rfl ?_
      refine r_ialdN G (pn := 86) rfl rfl h103 (by omega) (by omega) ?_
      rw [(ht i (by omega)).1, (ht j (by omega)).1]
      refine r_iastN G (pn := 87) rfl rfl h103 (by omega) (by omega) ?_
      refine r_ra G (pn := 88) rfl rfl rfl ?_
      refine r_get G (pn := 91) rfl rfl (am_ne (by decide) hM) rfl ?_
      refine r_il G (pn := 92) rfl rfl rfl ?_
      refine r_il G (pn := 93) rfl rfl rfl ?_
      refine r_iastN G (pn := 94) rfl rfl (am_eq h103) (by omega) (by omega) ?_
      rw [List.set_set]
      refine r_il G (pn := 95) rfl rfl rfl ?_
      refine r_ic G (pn := 96) rfl rfl  ?_
      refine r_ib G (pn := 97) rfl rfl  ?_
      rw [nI_1]
      refine r_is G (pn := 99) rfl rfl (Nat.le_of_ble_eq_true rfl) ?_
      have g0 : ∀ q, q < c9 + 1 → upd (upd ft i (nI (f j))) j (nI (f i)) q = nI (swp f i j q) := by
        intro q hq
        unfold swp
        by_cases qj : q = j
        · rw [qj, pk_us, if_neg (by omega), if_pos rfl]
        · rw [pk_un qj]
          by_cases qi : q = i
          · rw [qi, pk_us, if_pos rfl]
          · rw [pk_un qi, if_neg qi, if_neg qj]
            exact (ht q hq).1
      have hsw : ∀ q, q < c9 + 1 → swp f i j q < 100 := by
        intro q hq
        unfold swp
        split
        · exact (ht j (by omega)).2
        · split
          · exact (ht i (by omega)).2
          · exact (ht q hq).2
      have lpr : ∀ (k a : Nat) (f3 : Nat → Int32) (d3 d5 : Option Value), a + k = c9 + 2 → i < a → (2 * a ≤ c9 + i + 3) → (∀ q, q < c9 + 1 → f3 q = nI (if q ≤ i then swp f i j q else if q < a ∨ c9 + 1 + i - a < q then swp f i j (c9 + 1 + i - q) else swp f i j q)) → am_Go (am_KA lx e) (am_fetch cd_39) Q 99 [some (.ref 81), some (.int (nI i)), some (.int (nI j)), d3, some (.int (nI a)), d5] [] (h.set 103 (aI 10 f3)) 0 0 := by
        intro k
        induction k with
        | zero =>
          intro a f3 d3 d5 ha hia h2a hf3
          omega
        | succ k ih =>
          intro a f3 d3 d5 ha hia h2a hf3
          refine r_il G (pn := 101) rfl rfl rfl ?_
          refine r_ra G (pn := 102) rfl rfl rfl ?_
          refine r_get G (pn := 105) rfl rfl (am_ne (by decide) hM) rfl ?_
          rw [hm]
          refine r_il G (pn := 106) rfl rfl rfl ?_
          refine r_ib G (pn := 107) rfl rfl  ?_
          rw [nI_add]
          refine r_il G (pn := 109) rfl rfl rfl ?_
          refine r_ib G (pn := 110) rfl rfl  ?_
          rw [pk_sub (by omega)]
          refine r_if2 G (pn := 113) rfl rfl (fun c110 => ?_) (fun c110 => ?_)
          · have hstop : c9 + 1 + i - a ≤ a := (nI_leI (by omega) (by omega)).mp c110
            refine r_ic G (pn := 161) rfl rfl  ?_
            refine r_iret G rfl (by decide) (hsome i f3 hp (fun q hq => ?_))
            rw [hf3 q hq]
            unfold nxt
            rw [hj]
            by_cases q1 : q ≤ i
            · rw [if_pos q1, if_pos q1]
            · rw [if_neg q1, if_neg q1]
              by_cases q2 : q < a ∨ c9 + 1 + i - a < q
              · rw [if_pos q2]
              · rw [if_neg q2]
                have : c9 + 1 + i - q = q := by omega
                rw [this]
          · have hgo : a < c9 + 1 + i - a := by
              have : ¬ c9 + 1 + i - a ≤ a := fun q => c110 ((nI_leI (by omega) (by omega)).mpr q)
              omega
            refine r_ra G (pn := 114) rfl rfl rfl ?_
            refine r_get G (pn := 117) rfl rfl (am_ne (by decide) hM) rfl ?_
            rw [hm]
            refine r_il G (pn := 118) rfl rfl rfl ?_
            refine r_ib G (pn := 119) rfl rfl  ?_
            rw [nI_add]
            refine r_il G (pn := 121) rfl rfl rfl ?_
            refine r_ib G (pn := 122) rfl rfl  ?_
            rw [pk_sub (by omega)]
            generalize hb : c9 + 1 + i - a = b at hf3 hgo ⊢
            refine r_is G (pn := 124) rfl rfl (Nat.le_of_ble_eq_true rfl) ?_
            refine r_ra G (pn := 125) rfl rfl rfl ?_
            refine r_get G (pn := 128) rfl rfl (am_ne (by decide) hM) rfl ?_
            refine r_il G (pn := 130) rfl rfl rfl ?_
            refine r_ialdN G (pn := 131) rfl rfl (am_eq h103) (by omega) (by omega) ?_
            refine r_is G (pn := 132) rfl rfl (Nat.le_of_ble_eq_true rfl) ?_
            refine r_ra G (pn := 133) rfl rfl rfl ?_
            refine r_get G (pn := 136) rfl rfl (am_ne (by decide) hM) rfl ?_
            refine r_il G (pn := 138) rfl rfl rfl ?_
            refine r_ra G (pn := 139) rfl rfl rfl ?_
            refine r_get G (pn := 142) rfl rfl (am_ne (by decide) hM) rfl ?_
            refine r_il G (pn := 144) rfl rfl rfl ?_
            refine r_ialdN G (pn := 145) rfl rfl (am_eq h103) (by omega) (by omega) ?_
            refine r_iastN G (pn := 146) rfl rfl (am_eq h103) (by omega) (by omega) ?_
            refine r_ra G (pn := 147) rfl rfl rfl ?_
            refine r_get G (pn := 150) rfl rfl (am_ne (by decide) (am_ne (by decide) hM)) rfl ?_
            refine r_il G (pn := 152) rfl rfl rfl ?_
            refine r_il G (pn := 153) rfl rfl rfl ?_
            refine r_iastN G (pn := 154) rfl rfl (am_eq (am_eq h103)) (by omega) (by omega) ?_
            rw [List.set_set, List.set_set]
            refine r_inc G (pn := 157) rfl rfl rfl (Nat.le_of_ble_eq_true rfl) ?_
            refine r_goto G rfl ?_
            rw [nI_1]
            refine ih (a + 1) _ _ _ (by omega) (by omega) (by omega) (fun q hq => ?_)
            by_cases qb : q = b
            · rw [qb, pk_us, hf3 a (by omega), if_neg (by omega), if_neg (by omega), if_neg (by omega), if_pos (by omega), show c9 + 1 + i - b = a by omega]
            · rw [pk_un qb]
              by_cases qa : q = a
              · rw [qa, pk_us, hf3 b (by omega), if_neg (by omega), if_neg (by omega), if_neg (by omega), if_pos (by omega), hb]
              · rw [pk_un qa, hf3 q hq]
                by_cases q1 : q ≤ i
                · rw [if_pos q1, if_pos q1]
                · rw [if_neg q1, if_neg q1]
                  by_cases q2 : q < a ∨ b < q
                  · rw [if_pos q2, if_pos (by omega)]
                  · rw [if_neg q2, if_neg (by omega)]
      refine lpr (c9 + 1 - i) (i + 1) _ _ _ (by omega) (by omega) (by omega) (fun q hq => ?_)
      rw [g0 q hq]
      by_cases q1 : q ≤ i
      · rw [if_pos q1]
      · rw [if_neg q1, if_neg (by omega)]
    have lpj : ∀ (t : Nat), t < c9 + 1 → jst f (f i) (c9 + 1) = jst f (f i) (t + 1) → am_Go (am_KA lx e) (am_fetch cd_39) Q 47 [some (.ref 81), some (.int (nI i)), some (.int (nI t)), d3, d4, d5] [] h 0 0 := by
      intro t
      induction t with
      | zero =>
        intro ht9 hj
        have : jst f (f i) (0 + 1) = 0 := by
          unfold jst
          split <;> rfl
        omega
      | succ t iht =>
        intro ht9 hj
        have b1 := (ht (t + 1) (by omega)).2
        have b2 := (ht i (by omega)).2
        refine r_ra G (pn := 48) rfl rfl rfl ?_
        refine r_get G (pn := 51) rfl rfl (by first | assumption | (repeat (first | assumption | exact am_eq (by first | assumption | exact am_eq (by assumption) | exact am_ne (by first | decide | omega) (by assumption)) | refine am_ne (by first | decide | omega) ?_))) rfl ?_
        refine r_il G (pn := 52) rfl rfl rfl ?_
        refine r_ialdN G (pn := 53) rfl rfl h103 (by omega) (by omega) ?_
        refine r_ra G (pn := 54) rfl rfl rfl ?_
        refine r_get G (pn := 57) rfl rfl (by first | assumption | (repeat (first | assumption | exact am_eq (by first | assumption | exact am_eq (by assumption) | exact am_ne (by first | decide | omega) (by assumption)) | refine am_ne (by first | decide | omega) ?_))) rfl ?_
        refine r_il G (pn := 58) rfl rfl rfl ?_
        refine r_ialdN G (pn := 59) rfl rfl h103 (by omega) (by omega) ?_
        rw [(ht _ ht9).1, (ht i (by omega)).1]
        refine r_if2 G (pn := 62) rfl rfl (fun c59 => ?_) (fun c59 => ?_)
        · refine fin2 (t + 1) ?_
          rw [hj]
          unfold jst
          rw [if_neg (Nat.not_lt.mpr ((nI_leI (by omega) (by omega)).mp c59))]
        · refine r_inc G (pn := 65) rfl rfl rfl (Nat.le_of_ble_eq_true rfl) ?_
          refine r_goto G rfl ?_
          rw [pk_m1]
          refine iht (by omega) ?_
          rw [hj]
          have hlt : f (t + 1) < f i := Nat.not_le.mp (fun q => c59 ((nI_leI (by omega) (by omega)).mpr q))
          show (if f (t + 1) < f i then jst f (f i) (t + 1) else t + 1) = _
          rw [if_pos hlt]
    exact lpj c9 (by omega) rfl
  have lp : ∀ (k : Nat), k ≤ c9 → piv f c9 = piv f k → am_Go (am_KA lx e) (am_fetch cd_39) Q 7 [some (.ref 81), some (.int (nI k - 1)), none, none, none, none] [] h 0 0 := by
    intro k
    induction k with
    | zero =>
      intro hk hp
      refine r_il G (pn := 8) rfl rfl rfl ?_
      refine r_if1 G (pn := 11) rfl rfl (fun c8 => ?_) (fun c8 => ?_)
      · refine r_il G (pn := 35) rfl rfl rfl ?_
        refine r_if1 G (pn := 38) rfl rfl (fun c35 => ?_) (fun c35 => ?_)
        · exact absurd c35 (by decide)
        · refine r_ic G (pn := 39) rfl rfl  ?_
          refine r_iret G rfl (by decide) (hnone hp)
      · exact absurd (by decide) c8
    | succ k ih =>
      intro hk hp
      have b1 := (ht k (by omega)).2
      have b2 := (ht (k + 1) (by omega)).2
      rw [nI_pred]
      refine r_il G (pn := 8) rfl rfl rfl ?_
      refine r_if1 G (pn := 11) rfl rfl (fun c8 => ?_) (fun c8 => ?_)
      · exact absurd c8 (nI_pos (by omega))
      · refine r_ra G (pn := 12) rfl rfl rfl ?_
        refine r_get G (pn := 15) rfl rfl (by first | assumption | (repeat (first | assumption | exact am_eq (by first | assumption | exact am_eq (by assumption) | exact am_ne (by first | decide | omega) (by assumption)) | refine am_ne (by first | decide | omega) ?_))) rfl ?_
        refine r_il G (pn := 16) rfl rfl rfl ?_
        refine r_ialdN G (pn := 17) rfl rfl h103 (by omega) (by omega) ?_
        refine r_ra G (pn := 18) rfl rfl rfl ?_
        refine r_get G (pn := 21) rfl rfl (by first | assumption | (repeat (first | assumption | exact am_eq (by first | assumption | exact am_eq (by assumption) | exact am_ne (by first | decide | omega) (by assumption)) | refine am_ne (by first | decide | omega) ?_))) rfl ?_
        refine r_il G (pn := 22) rfl rfl rfl ?_
        refine r_ic G (pn := 23) rfl rfl  ?_
        refine r_ib G (pn := 24) rfl rfl  ?_
        rw [nI_1]
        refine r_ialdN G (pn := 25) rfl rfl h103 (by omega) (by omega) ?_
        rw [(ht k (by omega)).1, (ht (k + 1) (by omega)).1]
        refine r_if2 G (pn := 28) rfl rfl (fun c25 => ?_) (fun c25 => ?_)
        · have hle : f k ≤ f (k + 1) := (nI_leI (by omega) (by omega)).mp c25
          refine r_il G (pn := 35) rfl rfl rfl ?_
          refine r_if1 G (pn := 38) rfl rfl (fun c35 => ?_) (fun c35 => ?_)
          · refine fin k _ _ _ _ ?_
            rw [hp]
            unfold piv
            rw [if_neg (by omega)]
          · exact absurd (nI_pos' (by omega)) c35
        · have hgt : f (k + 1) < f k := Nat.not_le.mp (fun q => c25 ((nI_leI (by omega) (by omega)).mpr q))
          refine r_inc G (pn := 31) rfl rfl rfl (Nat.le_of_ble_eq_true rfl) ?_
          refine r_goto G rfl ?_
          rw [show nI k + (-1) = nI k - 1 from (Int32.sub_eq_add_neg _ _).symm]
          refine ih (by omega) ?_
          rw [hp]
          show (if f (k + 1) < f k then piv f k else some k) = _
          rw [if_pos hgt]
  exact lp c9 (Nat.le_refl _) rfl
end
