section
variable {lx : am_Lx} {d : Nat} {h : am_H} {Q : am_Q}
theorem pk_uLs' {f : Nat → Int64} {k : Nat} {x : Int64} : vp_updL f k x k = x := pk_uLs
theorem sp_124 (hd : 2 ≤ d) {a n : Nat} {wd : Nat → Int64} {rn : Nat → Int32} (h39 : h[39]? = some (tO (nI n))) (h40 : h[40]? = some (aL 12 wd)) (h41 : h[41]? = some (aI 12 rn)) (ha : a ≤ n) (hn : n ≤ 12)
    (hq : ∀ (f : Nat → Int64) (r : Nat → Int32), (∀ p q, a ≤ p → p < q → q < n → f p ≤ f q) → (∀ P : Int64 → Bool, cn P f a (n - a) = cn P wd a (n - a)) → (∀ q, (q < a ∨ n ≤ q) → f q = wd q) → (∀ q, q < n → r q = nI (if q < a then q else a + cn (fun x => decide (x < wd q)) wd a (n - a))) → Q none ((h.set 41 (aI 12 r)).set 40 (aL 12 f))) : am_KA lx d 124 [.ref 39, .int (nI a)] h Q := by
  obtain ⟨e, rfl⟩ : ∃ e, d = e + 1 := ⟨d - 1, by omega⟩
  have G : am_GK (am_KA lx e) cd_124 := ⟨am_KA_m lx e, cm_124⟩
  refine am_KA_in (by decide) (Nat.le_of_ble_eq_true rfl) ?_
  show am_Go (am_KA lx e) (am_fetch cd_124) Q 0 [some (.ref 39), some (.int (nI a)), none, none, none, none] [] h 0 0
  refine r_ic G (pn := 1) rfl rfl  ?_
  refine r_is G (pn := 2) rfl rfl (Nat.le_of_ble_eq_true rfl) ?_
  have lp2 : ∀ (r : Nat → Int32), (∀ q, q < n → r q = nI (if q < a then q else a + cn (fun x => decide (x < wd q)) wd a (n - a))) → ∀ (k i : Nat) (f : Nat → Int64) (d3 d4 d5 : Option Value), i + k = n ∨ (k = 0 ∧ n ≤ i) → a < i → (∀ p q, a ≤ p → p < q → q < i → q < n → f p ≤ f q) → (∀ P : Int64 → Bool, cn P f a (n - a) = cn P wd a (n - a)) → (∀ q, (q < a ∨ i ≤ q ∨ n ≤ q) → f q = wd q) → i ≤ 13 → am_Go (am_KA lx e) (am_fetch cd_124) Q 48 [some (.ref 39), some (.int (nI a)), some (.int (nI i)), d3, d4, d5] [] ((h.set 41 (aI 12 r)).set 40 (aL 12 f)) 0 0 := by
    intro r hr k
    have g39 : ∀ f, ((h.set 41 (aI 12 r)).set 40 (aL 12 f))[39]? = some (tO (nI n)) := fun f => am_ne (by decide) (am_ne (by decide) h39)
    have g40 : ∀ f, ((h.set 41 (aI 12 r)).set 40 (aL 12 f))[40]? = some (aL 12 f) := fun f => am_eq (am_ne (by decide) h40)
    induction k with
    | zero =>
      intro i f d3 d4 d5 hi hai s1 s2 s3 hi13
      have hin : n ≤ i := by omega
      refine r_il G (pn := 49) rfl rfl rfl ?_
      refine r_ra G (pn := 50) rfl rfl rfl ?_
      refine r_get G (pn := 53) rfl rfl (g39 f) rfl ?_
      refine r_if2 G (pn := 56) rfl rfl (fun c53 => ?_) (fun c53 => ?_)
      · refine r_vret G rfl (hq f r (fun p q ap pq qn => s1 p q ap pq (by omega) qn) s2 (fun q hq => s3 q (by omega)) hr)
      · exact absurd ((nI_leI (by omega) (by omega)).mpr hin) c53
    | succ k ih =>
      intro i f d3 d4 d5 hi hai s1 s2 s3 hi13
      have hin : i + k + 1 = n := by omega
      refine r_il G (pn := 49) rfl rfl rfl ?_
      refine r_ra G (pn := 50) rfl rfl rfl ?_
      refine r_get G (pn := 53) rfl rfl (g39 f) rfl ?_
      refine r_if2 G (pn := 56) rfl rfl (fun c53 => ?_) (fun c53 => ?_)
      · exact absurd ((nI_leI (by omega) (by omega)).mp c53) (by omega)
      · refine r_ra G (pn := 57) rfl rfl rfl ?_
        refine r_get G (pn := 60) rfl rfl (g39 f) rfl ?_
        refine r_il G (pn := 61) rfl rfl rfl ?_
        refine r_laldN G (pn := 62) rfl rfl (g40 f) (by omega) (by omega) ?_
        refine r_ls G (pn := 63) rfl rfl (Nat.le_of_ble_eq_true rfl) ?_
        refine r_il G (pn := 64) rfl rfl rfl ?_
        refine r_is G (pn := 66) rfl rfl (Nat.le_of_ble_eq_true rfl) ?_
        have inn : ∀ (t : Nat) (f2 : Nat → Int64), InsI (fun x y => x ≤ y) wd (vp_updL f2 t (f i)) a i t n (f i) → am_Go (am_KA lx e) (am_fetch cd_124) Q 66 [some (.ref 39), some (.int (nI a)), some (.int (nI i)), some (.long (f i)), none, some (.int (nI t))] [] ((h.set 41 (aI 12 r)).set 40 (aL 12 f2)) 0 0 := by
          have fin : ∀ (t : Nat) (f2 : Nat → Int64), InsI (fun x y => x ≤ y) wd (vp_updL f2 t (f i)) a i t n (f i) → (t = a ∨ ∃ k, t = k + 1 ∧ a ≤ k ∧ vp_updL f2 t (f i) k ≤ f i) → am_Go (am_KA lx e) (am_fetch cd_124) Q 108 [some (.ref 39), some (.int (nI a)), some (.int (nI i)), some (.long (f i)), none, some (.int (nI t))] [] ((h.set 41 (aI 12 r)).set 40 (aL 12 f2)) 0 0 := by
            intro t f2 hI hx
            have hsrt := ins_exit (le := fun x y : Int64 => x ≤ y) (fun x y z q1 q2 => Int64.le_trans q1 q2) hI hx
            obtain ⟨h1, h2, h3, h4, h5, h6, h7, h8⟩ := hI
            refine r_ra G (pn := 109) rfl rfl rfl ?_
            refine r_get G (pn := 112) rfl rfl (g39 f2) rfl ?_
            refine r_il G (pn := 114) rfl rfl rfl ?_
            refine r_ll G (pn := 115) rfl rfl rfl ?_
            refine r_lastN G (pn := 116) rfl rfl (g40 f2) (by omega) (by omega) ?_
            rw [List.set_set]
            refine r_inc G (pn := 119) rfl rfl rfl (Nat.le_of_ble_eq_true rfl) ?_
            refine r_goto G rfl ?_
            rw [nI_1]
            exact ih (i + 1) (vp_updL f2 t (f i)) _ _ _ (by omega) (by omega) (fun p q ap pq qi _ => hsrt p q ap pq (by omega)) h5 (fun q hq => h8 q (by omega)) (by omega)
          intro t
          induction t with
          | zero =>
            intro f2 hI
            refine r_il G (pn := 68) rfl rfl rfl ?_
            refine r_il G (pn := 69) rfl rfl rfl ?_
            refine r_if2 G (pn := 72) rfl rfl (fun c69 => ?_) (fun c69 => ?_)
            · exact fin 0 f2 hI (Or.inl (by have := hI.1; omega))
            · exact absurd ((nI_leI (a := 0) (b := a) (by omega) (by omega)).mpr (Nat.zero_le _)) c69
          | succ t iht =>
            intro f2 hI
            have ht5 : t + 1 < 12 := by have := hI.2.1; have := hI.2.2.1; omega
            refine r_il G (pn := 68) rfl rfl rfl ?_
            refine r_il G (pn := 69) rfl rfl rfl ?_
            refine r_if2 G (pn := 72) rfl rfl (fun c69 => ?_) (fun c69 => ?_)
            · exact fin (t + 1) f2 hI (Or.inl (by
                have := (nI_leI (a := t + 1) (b := a) (by omega) (by omega)).mp c69
                have := hI.1
                omega))
            · have hat : a ≤ t := by
                have : ¬ t + 1 ≤ a := fun q => c69 ((nI_leI (by omega) (by omega)).mpr q)
                omega
              refine r_ra G (pn := 73) rfl rfl rfl ?_
              refine r_get G (pn := 76) rfl rfl (g39 f2) rfl ?_
              refine r_il G (pn := 78) rfl rfl rfl ?_
              refine r_ic G (pn := 79) rfl rfl  ?_
              refine r_ib G (pn := 80) rfl rfl  ?_
              rw [nI_pred]
              refine r_laldN G (pn := 81) rfl rfl (g40 f2) (by omega) (by omega) ?_
              refine r_ll G (pn := 82) rfl rfl rfl ?_
              refine r_lcmp G (pn := 83) rfl rfl  ?_
              have eg : vp_updL f2 (t + 1) (f i) t = f2 t := pk_uLn (by omega)
              refine r_if1 G (pn := 86) rfl rfl (fun c83 => ?_) (fun c83 => ?_)
              · exact fin (t + 1) f2 hI (Or.inr ⟨t, rfl, hat, by rw [eg]; exact (lg_cmp_le _ _).mp c83⟩)
              · refine r_ra G (pn := 87) rfl rfl rfl ?_
                refine r_get G (pn := 90) rfl rfl (g39 f2) rfl ?_
                refine r_il G (pn := 92) rfl rfl rfl ?_
                refine r_ra G (pn := 93) rfl rfl rfl ?_
                refine r_get G (pn := 96) rfl rfl (g39 f2) rfl ?_
                refine r_il G (pn := 98) rfl rfl rfl ?_
                refine r_ic G (pn := 99) rfl rfl  ?_
                refine r_ib G (pn := 100) rfl rfl  ?_
                rw [nI_pred]
                refine r_laldN G (pn := 101) rfl rfl (g40 f2) (by omega) (by omega) ?_
                refine r_lastN G (pn := 102) rfl rfl (g40 f2) (by omega) (by omega) ?_
                rw [List.set_set]
                refine r_inc G (pn := 105) rfl rfl rfl (Nat.le_of_ble_eq_true rfl) ?_
                refine r_goto G rfl ?_
                rw [pk_m1]
                refine iht (vp_updL f2 (t + 1) (f2 t)) (ins_step hI hat (by rw [eg]; exact Int64.le_of_lt (Int64.not_le.mp (fun q => c83 ((lg_cmp_le _ _).mpr q)))) pk_uLs ?_ ?_)
                · rw [pk_uLn (by omega), pk_uLs, eg]
                · intro j j1 j2
                  rw [pk_uLn j1, pk_uLn j2, pk_uLn j2]
        refine inn i f ⟨by omega, Nat.le_refl _, by omega, pk_uLs, fun P => ?_, fun p q ap pq qi np nq => ?_, fun q h1 h2 => absurd h1 (by omega), fun q hq => ?_⟩
        · rw [← s2 P]
          refine cn_congr (fun j hj => ?_)
          by_cases q : a + j = i
          · rw [q, pk_uLs]
          · rw [pk_uLn q]
        · rw [pk_uLn np, pk_uLn nq]
          exact s1 p q ap pq (by omega) (by omega)
        · rw [pk_uLn (by omega)]
          exact s3 q (by omega)
  have lp1 : ∀ (k i : Nat) (r : Nat → Int32), i + k = n → (∀ q, q < i → r q = nI (if q < a then q else a + cn (fun x => decide (x < wd q)) wd a (n - a))) → am_Go (am_KA lx e) (am_fetch cd_124) Q 2 [some (.ref 39), some (.int (nI a)), some (.int (nI i)), none, none, none] [] (h.set 41 (aI 12 r)) 0 0 := by
    intro k
    induction k with
    | zero =>
      intro i r hi hr
      obtain rfl : i = n := by omega
      refine r_il G (pn := 3) rfl rfl rfl ?_
      refine r_ra G (pn := 4) rfl rfl rfl ?_
      refine r_get G (pn := 7) rfl rfl (by first | assumption | (repeat (first | assumption | exact am_eq (by first | assumption | exact am_eq (by assumption) | exact am_ne (by first | decide | omega) (by assumption)) | refine am_ne (by first | decide | omega) ?_))) rfl ?_
      refine r_if2 G (pn := 10) rfl rfl (fun c7 => ?_) (fun c7 => ?_)
      · refine r_il G (pn := 45) rfl rfl rfl ?_
        refine r_ic G (pn := 46) rfl rfl  ?_
        refine r_ib G (pn := 47) rfl rfl  ?_
        rw [nI_1]
        refine r_is G (pn := 48) rfl rfl (Nat.le_of_ble_eq_true rfl) ?_
        have := lp2 r hr (i - (a + 1)) (a + 1) wd none none none (by omega) (by omega) (fun p q ap pq qi _ => absurd pq (by omega)) (fun _ => rfl) (fun _ _ => rfl) (by omega)
        rw [am_same (am_ne (by decide) h40)] at this
        exact this
      · exact absurd (Int32.le_refl _) c7
    | succ k ih =>
      intro i r hi hr
      have next : ∀ v : Nat, v = (if i < a then i else a + cn (fun x => decide (x < wd i)) wd a (n - a)) → am_Go (am_KA lx e) (am_fetch cd_124) Q 37 [some (.ref 39), some (.int (nI a)), some (.int (nI i)), none, none, none] [.int (nI v), .int (nI i), .ref 41] (h.set 41 (aI 12 r)) 0 0 := by
        intro v hv
        refine r_iastN G (pn := 38) rfl rfl (am_eq h41) (by omega) (by omega) ?_
        rw [List.set_set]
        refine r_inc G (pn := 41) rfl rfl rfl (Nat.le_of_ble_eq_true rfl) ?_
        refine r_goto G rfl ?_
        rw [nI_1]
        refine ih (i + 1) (upd r i (nI v)) (by omega) (fun q hq => ?_)
        by_cases qi : q = i
        · rw [qi, pk_us, hv]
        · rw [pk_un qi]
          exact hr q (by omega)
      refine r_il G (pn := 3) rfl rfl rfl ?_
      refine r_ra G (pn := 4) rfl rfl rfl ?_
      refine r_get G (pn := 7) rfl rfl (by first | assumption | (repeat (first | assumption | exact am_eq (by first | assumption | exact am_eq (by assumption) | exact am_ne (by first | decide | omega) (by assumption)) | refine am_ne (by first | decide | omega) ?_))) rfl ?_
      refine r_if2 G (pn := 10) rfl rfl (fun c7 => ?_) (fun c7 => ?_)
      · exact absurd ((nI_leI (by omega) (by omega)).mp c7) (by omega)
      · refine r_ra G (pn := 11) rfl rfl rfl ?_
        refine r_get G (pn := 14) rfl rfl (by first | assumption | (repeat (first | assumption | exact am_eq (by first | assumption | exact am_eq (by assumption) | exact am_ne (by first | decide | omega) (by assumption)) | refine am_ne (by first | decide | omega) ?_))) rfl ?_
        refine r_il G (pn := 15) rfl rfl rfl ?_
        refine r_il G (pn := 16) rfl rfl rfl ?_
        refine r_il G (pn := 17) rfl rfl rfl ?_
        refine r_if2 G (pn := 20) rfl rfl (fun c17 => ?_) (fun c17 => ?_)
        · have hai : a ≤ i := (nI_leI (by omega) (by omega)).mp c17
          refine r_il G (pn := 25) rfl rfl rfl ?_
          refine r_ra G (pn := 26) rfl rfl rfl ?_
          refine r_il G (pn := 27) rfl rfl rfl ?_
          refine r_ra G (pn := 28) rfl rfl rfl ?_
          refine r_get G (pn := 31) rfl rfl (by first | assumption | (repeat (first | assumption | exact am_eq (by first | assumption | exact am_eq (by assumption) | exact am_ne (by first | decide | omega) (by assumption)) | refine am_ne (by first | decide | omega) ?_))) rfl ?_
          refine r_il G (pn := 32) rfl rfl rfl ?_
          refine r_laldN G (pn := 33) rfl rfl (am_ne (by decide) h40) (by omega) (by omega) ?_
          refine r_inv3 G (pn := 36) rfl rfl (by first | assumption | (repeat (first | assumption | exact am_eq (by first | assumption | exact am_eq (by assumption) | exact am_ne (by first | decide | omega) (by assumption)) | refine am_ne (by first | decide | omega) ?_))) (Nat.le_of_ble_eq_true rfl) (Nat.le_of_ble_eq_true rfl) (Nat.le_of_ble_eq_true rfl) (sp_125 (by omega) (am_ne (by decide) h39) (am_ne (by decide) h40) hn ha ?_)
          generalize hc : cn (fun x => decide (x < wd i)) wd a (n - a) = c9
          show am_Go (am_KA lx e) (am_fetch cd_124) Q 36 [some (.ref 39), some (.int (nI a)), some (.int (nI i)), none, none, none] [.int (nI c9), .int (nI a), .int (nI i), .ref 41] (h.set 41 (aI 12 r)) 0 0
          refine r_ib G (pn := 37) rfl rfl  ?_
          rw [nI_add]
          exact next (a + c9) (by rw [if_neg (by omega), hc])
        · have hai : ¬ a ≤ i := fun q => c17 ((nI_leI (by omega) (by omega)).mpr q)
          refine r_il G (pn := 21) rfl rfl rfl ?_
          refine r_goto G rfl ?_
          exact next i (by rw [if_pos (by omega)])
  have := lp1 n 0 rn (by omega) (fun q hq => absurd hq (by omega))
  rw [am_same h41] at this
  exact this
end
