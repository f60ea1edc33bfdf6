/-- the class's three rules -/
def RuI (h : am_H) (P : Nat → Int32) (C B A : Nat → Nat → Int32) : Prop := (∃ r, h[42]? = some (.inl (.object "SpeciesRounds$Rule", 3, .inr (.inr (.inr (.inr r))))) ∧ ∀ i, i < 3 → r i = some (69 + 4 * i)) ∧ ∀ i, i < 3 → h[69 + 4 * i]? = some (rO (69 + 4 * i) (P i)) ∧ h[69 + 4 * i + 1]? = some (aI 3 (C i)) ∧ h[69 + 4 * i + 2]? = some (aI 3 (B i)) ∧ h[69 + 4 * i + 3]? = some (aI 3 (A i))
def ruP (i : Nat) : Prop := 69 ≤ i ∧ i ≤ 80
theorem RuI.fr {h h' : am_H} {P : Nat → Int32} {C B A : Nat → Nat → Int32} {R : Nat → Prop} (hI : RuI h P C B A) (hf : am_fr R h h') (hR : ∀ i, (i = 42 ∨ ruP i) → ¬ R i) : RuI h' P C B A := by
  obtain ⟨⟨r, h1, g1⟩, h2⟩ := hI
  refine ⟨⟨r, hf.at (hR _ (Or.inl rfl)) h1, g1⟩, fun i hi => ?_⟩
  obtain ⟨a, b, c, d⟩ := h2 i hi
  exact ⟨hf.at (hR _ (Or.inr ⟨by omega, by omega⟩)) a, hf.at (hR _ (Or.inr ⟨by omega, by omega⟩)) b, hf.at (hR _ (Or.inr ⟨by omega, by omega⟩)) c, hf.at (hR _ (Or.inr ⟨by omega, by omega⟩)) d⟩
def ruOk (n : Nat) (a b c : Int32) : Prop := n < 3 ∧ ¬ a < 0 ∧ ¬ 3 < a ∧ ¬ b < 0 ∧ ¬ 3 < b ∧ (c = -1 ∨ (¬ c < 0 ∧ ¬ 3 < c))
section
variable {lx : am_Lx} {d : Nat} {h : am_H} {m : Nat → Int32} {Q : am_Q}
theorem sp_8 (hd : 2 ≤ d) {cap : Int32} {n : Nat} {a b x : Int32} {P : Nat → Int32} {C B A : Nat → Nat → Int32} (h0 : h[0]? = some (sO cap (nI n))) (hn : n ≤ 3) (hR : RuI h P C B A) (hno : ¬ ruOk n a b x → Q (some (.int (-1))) h)
    (hyes : ruOk n a b x → ∀ h', am_fr (fun i => i = 0 ∨ ruP i) h h' → h'[0]? = some (sO cap (nI (n + 1))) → RuI h' (upd P n (if x = -1 then 2 else 3)) (fun i => if i = n then upd (upd (upd (C n) 0 a) 1 b) 2 x else C i) B A → Q (some (.int (nI n))) h') : am_KA lx d 8 [.ref 0, .int a, .int b, .int x] h Q := by
  obtain ⟨e, rfl⟩ : ∃ e, d = e + 1 := ⟨d - 1, by omega⟩
  have G : am_GK (am_KA lx e) cd_8 := ⟨am_KA_m lx e, cm_8⟩
  refine am_KA_in (by decide) (Nat.le_of_ble_eq_true rfl) ?_
  show am_Go (am_KA lx e) (am_fetch cd_8) Q 0 [some (.ref 0), some (.int a), some (.int b), some (.int x)] [] h 0 0
  have no : ¬ ruOk n a b x → am_Go (am_KA lx e) (am_fetch cd_8) Q 34 [some (.ref 0), some (.int a), some (.int b), some (.int x)] [] h 0 0 := by
    intro z
    refine r_ic G (pn := 35) rfl rfl  ?_
    refine r_iret G rfl rfl (hno z)
  have yes : ruOk n a b x → am_Go (am_KA lx e) (am_fetch cd_8) Q 36 [some (.ref 0), some (.int a), some (.int b), some (.int x)] [] h 0 0 := by
    intro z
    obtain ⟨⟨r, r1, r2⟩, r3⟩ := id hR
    obtain ⟨s1, s2, s3, s4⟩ := r3 n z.1
    refine r_ra G (pn := 37) rfl rfl rfl ?_
    refine r_get G (pn := 40) rfl rfl (by first | assumption | (repeat (first | assumption | exact am_eq (by first | assumption | exact am_eq (by assumption) | exact am_ne (by first | decide | omega) (by assumption)) | refine am_ne (by first | decide | omega) ?_))) rfl ?_
    refine r_ra G (pn := 41) rfl rfl rfl ?_
    refine r_get G (pn := 44) rfl rfl (by first | assumption | (repeat (first | assumption | exact am_eq (by first | assumption | exact am_eq (by assumption) | exact am_ne (by first | decide | omega) (by assumption)) | refine am_ne (by first | decide | omega) ?_))) rfl ?_
    refine r_raldN G (pn := 45) rfl rfl r1 z.1 (by omega) (r2 n z.1) ?_
    refine r_il G (pn := 46) rfl rfl rfl ?_
    refine r_il G (pn := 47) rfl rfl rfl ?_
    refine r_il G (pn := 48) rfl rfl rfl ?_
    refine r_inv4 G (pn := 51) rfl rfl s1 (Nat.le_of_ble_eq_true rfl) (Nat.le_of_ble_eq_true rfl) (Nat.le_of_ble_eq_true rfl) (sp_118 (by omega) s1 s2 ?_)
    show am_Go (am_KA lx e) (am_fetch cd_8) Q 51 [some (.ref 0), some (.int a), some (.int b), some (.int x)] [] ((h.set (69 + 4 * n + 1) (aI 3 (upd (upd (upd (C n) 0 a) 1 b) 2 x))).set (69 + 4 * n) (rO (69 + 4 * n) (if x = -1 then 2 else 3))) 0 0
    have k0 : ((h.set (69 + 4 * n + 1) (aI 3 (upd (upd (upd (C n) 0 a) 1 b) 2 x))).set (69 + 4 * n) (rO (69 + 4 * n) (if x = -1 then 2 else 3)))[0]? = some (sO cap (nI n)) := am_ne (by omega) (am_ne (by omega) h0)
    refine r_ra G (pn := 52) rfl rfl rfl ?_
    refine r_dup G (pn := 53) rfl rfl rfl ?_
    refine r_get G (pn := 56) rfl rfl k0 rfl ?_
    refine r_ic G (pn := 57) rfl rfl  ?_
    refine r_ib G (pn := 58) rfl rfl  ?_
    rw [nI_1]
    refine r_puti G (pn := 61) rfl rfl k0 (Nat.le_of_ble_eq_true rfl) ?_
    refine r_ra G (pn := 62) rfl rfl rfl ?_
    refine r_get G (pn := 65) rfl rfl (am_eq k0) rfl ?_
    refine r_ic G (pn := 66) rfl rfl  ?_
    refine r_ib G (pn := 67) rfl rfl  ?_
    rw [nI_pred]
    have hf : am_fr (fun i => i = 0 ∨ ruP i) h (((h.set (69 + 4 * n + 1) (aI 3 (upd (upd (upd (C n) 0 a) 1 b) 2 x))).set (69 + 4 * n) (rO (69 + 4 * n) (if x = -1 then 2 else 3))).set 0 (sO cap (nI (n + 1)))) := ((am_fr.rf.put (Or.inr ⟨by omega, by have := z.1; omega⟩)).put (Or.inr ⟨by omega, by have := z.1; omega⟩)).put (Or.inl rfl)
    refine r_iret G rfl rfl (hyes z _ hf (am_eq k0) ⟨⟨r, am_ne (by omega) (am_ne (by omega) (am_ne (by omega) r1)), r2⟩, fun i hi => ?_⟩)
    obtain ⟨t1, t2, t3, t4⟩ := r3 i hi
    by_cases e9 : i = n
    · subst e9
      refine ⟨?_, ?_, am_ne (by omega) (am_ne (by omega) (am_ne (by omega) t3)), am_ne (by omega) (am_ne (by omega) (am_ne (by omega) t4))⟩
      · rw [pk_us]
        exact am_ne (by omega) (am_eq (am_ne (by omega) t1))
      · dsimp only
        rw [if_pos rfl]
        exact am_ne (by omega) (am_ne (by omega) (am_eq t2))
    · refine ⟨?_, ?_, am_ne (by omega) (am_ne (by omega) (am_ne (by omega) t3)), am_ne (by omega) (am_ne (by omega) (am_ne (by omega) t4))⟩
      · rw [pk_un e9]
        exact am_ne (by omega) (am_ne (by omega) (am_ne (by omega) t1))
      · dsimp only
        rw [if_neg e9]
        exact am_ne (by omega) (am_ne (by omega) (am_ne (by omega) t2))
  refine r_ra G (pn := 1) rfl rfl rfl ?_
  refine r_get G (pn := 4) rfl rfl (by first | assumption | (repeat (first | assumption | exact am_eq (by first | assumption | exact am_eq (by assumption) | exact am_ne (by first | decide | omega) (by assumption)) | refine am_ne (by first | decide | omega) ?_))) rfl ?_
  refine r_ic G (pn := 5) rfl rfl  ?_
  refine r_if2 G (pn := 8) rfl rfl (fun c5 => ?_) (fun c5 => ?_)
  · exact no (fun z => absurd ((nI_leI (a := 3) (b := n) (by omega) (by omega)).mp c5) (by have := z.1; omega))
  · have hn3 : n < 3 := by
      have : ¬ 3 ≤ n := fun q => c5 ((nI_leI (a := 3) (b := n) (by omega) (by omega)).mpr q)
      omega
    refine r_il G (pn := 9) rfl rfl rfl ?_
    refine r_ins1 G (pn := 12) rfl rfl (Nat.le_of_ble_eq_true rfl) (Nat.le_of_ble_eq_true rfl) (Nat.le_of_ble_eq_true rfl) (sp_17 (by omega) (fun hz => ?_) (fun a0 a1 => ?_))
    · show am_Go (am_KA lx e) (am_fetch cd_8) Q 12 [some (.ref 0), some (.int a), some (.int b), some (.int x)] [.int 0] h 0 0
      refine r_if1 G (pn := 15) rfl rfl (fun c12 => ?_) (fun c12 => ?_)
      · exact no (fun z => hz.elim z.2.1 z.2.2.1)
      · exact absurd rfl c12
    · show am_Go (am_KA lx e) (am_fetch cd_8) Q 12 [some (.ref 0), some (.int a), some (.int b), some (.int x)] [.int 1] h 0 0
      refine r_if1 G (pn := 15) rfl rfl (fun c12 => ?_) (fun c12 => ?_)
      · exact absurd c12 (by decide)
      · refine r_il G (pn := 16) rfl rfl rfl ?_
        refine r_ins1 G (pn := 19) rfl rfl (Nat.le_of_ble_eq_true rfl) (Nat.le_of_ble_eq_true rfl) (Nat.le_of_ble_eq_true rfl) (sp_17 (by omega) (fun hz => ?_) (fun b0 b1 => ?_))
        · show am_Go (am_KA lx e) (am_fetch cd_8) Q 19 [some (.ref 0), some (.int a), some (.int b), some (.int x)] [.int 0] h 0 0
          refine r_if1 G (pn := 22) rfl rfl (fun c19 => ?_) (fun c19 => ?_)
          · exact no (fun z => hz.elim z.2.2.2.1 z.2.2.2.2.1)
          · exact absurd rfl c19
        · show am_Go (am_KA lx e) (am_fetch cd_8) Q 19 [some (.ref 0), some (.int a), some (.int b), some (.int x)] [.int 1] h 0 0
          refine r_if1 G (pn := 22) rfl rfl (fun c19 => ?_) (fun c19 => ?_)
          · exact absurd c19 (by decide)
          · refine r_il G (pn := 23) rfl rfl rfl ?_
            refine r_ic G (pn := 24) rfl rfl  ?_
            refine r_if2 G (pn := 27) rfl rfl (fun c24 => ?_) (fun c24 => ?_)
            · exact yes ⟨hn3, a0, a1, b0, b1, Or.inl c24⟩
            · refine r_il G (pn := 28) rfl rfl rfl ?_
              refine r_ins1 G (pn := 31) rfl rfl (Nat.le_of_ble_eq_true rfl) (Nat.le_of_ble_eq_true rfl) (Nat.le_of_ble_eq_true rfl) (sp_17 (by omega) (fun hz => ?_) (fun x0 x1 => ?_))
              · show am_Go (am_KA lx e) (am_fetch cd_8) Q 31 [some (.ref 0), some (.int a), some (.int b), some (.int x)] [.int 0] h 0 0
                refine r_if1 G (pn := 34) rfl rfl (fun c31 => ?_) (fun c31 => ?_)
                · exact absurd rfl c31
                · exact no (fun z => z.2.2.2.2.2.elim c24 (fun w => hz.elim w.1 w.2))
              · show am_Go (am_KA lx e) (am_fetch cd_8) Q 31 [some (.ref 0), some (.int a), some (.int b), some (.int x)] [.int 1] h 0 0
                refine r_if1 G (pn := 34) rfl rfl (fun c31 => ?_) (fun c31 => ?_)
                · exact yes ⟨hn3, a0, a1, b0, b1, Or.inr ⟨x0, x1⟩⟩
                · exact absurd c31 (by decide)
theorem m1_lt {x : Int32} (h : ¬ x < -1) (h2 : x < 0) : x = -1 := by
  apply Int32.toInt_inj.mp
  have h1 := Int32.le_iff_toInt_le.mp (Int32.not_lt.mp h)
  have h3 := Int32.lt_iff_toInt_lt.mp h2
  have e1 : (-1 : Int32).toInt = -1 := by decide
  have e2 : (0 : Int32).toInt = 0 := by decide
  rw [e1] at h1 ⊢
  rw [e2] at h3
  omega
theorem m1_ge {x : Int32} (h : ¬ x < 0) : ¬ x < -1 := by
  intro z
  have h1 := Int32.lt_iff_toInt_lt.mp z
  have h3 := Int32.le_iff_toInt_le.mp (Int32.not_lt.mp h)
  have e1 : (-1 : Int32).toInt = -1 := by decide
  have e2 : (0 : Int32).toInt = 0 := by decide
  rw [e1] at h1
  rw [e2] at h3
  omega
set_option maxHeartbeats 1000000 in
theorem sp_49 (hd : 1 ≤ d) {n : Nat} {a b x : Int32} {fp fl : Nat → Int32} (hM : h[81]? = some (mO m)) (hm : m 5 = nI n) (hn : n ≤ 3) (h84 : h[84]? = some (aI 3 fp)) (h85 : h[85]? = some (aI 9 fl)) (hno : ¬ ruOk n a b x → Q (some (.int (-1))) h)
    (hyes : ruOk n a b x → Q (some (.int (nI n))) (((h.set 84 (aI 3 (upd fp n (if x = -1 then 2 else 3)))).set 85 (aI 9 (upd (upd (upd fl (3 * n) a) (3 * n + 1) b) (3 * n + 2) x))).set 81 (mO (upd m 5 (nI (n + 1)))))) : am_KA lx d 49 [.ref 81, .int a, .int b, .int x] h Q := by
  obtain ⟨e, rfl⟩ : ∃ e, d = e + 1 := ⟨d - 1, by omega⟩
  have G : am_GK (am_KA lx e) cd_49 := ⟨am_KA_m lx e, cm_49⟩
  refine am_KA_in (by decide) (Nat.le_of_ble_eq_true rfl) ?_
  show am_Go (am_KA lx e) (am_fetch cd_49) Q 0 [some (.ref 81), some (.int a), some (.int b), some (.int x)] [] h 0 0
  have no : ¬ ruOk n a b x → am_Go (am_KA lx e) (am_fetch cd_49) Q 36 [some (.ref 81), some (.int a), some (.int b), some (.int x)] [] h 0 0 := by
    intro z
    refine r_ic G (pn := 37) rfl rfl  ?_
    refine r_iret G rfl rfl (hno z)
  have yes : ruOk n a b x → am_Go (am_KA lx e) (am_fetch cd_49) Q 38 [some (.ref 81), some (.int a), some (.int b), some (.int x)] [] h 0 0 := by
    intro z
    have hn3 := z.1
    have rest : am_Go (am_KA lx e) (am_fetch cd_49) Q 56 [some (.ref 81), some (.int a), some (.int b), some (.int x)] [] (h.set 84 (aI 3 (upd fp n (if x = -1 then 2 else 3)))) 0 0 := by
      have k81 : (h.set 84 (aI 3 (upd fp n (if x = -1 then 2 else 3))))[81]? = some (mO m) := am_ne (by decide) hM
      have k85 : (h.set 84 (aI 3 (upd fp n (if x = -1 then 2 else 3))))[85]? = some (aI 9 fl) := am_ne (by decide) h85
      generalize h.set 84 (aI 3 (upd fp n (if x = -1 then 2 else 3))) = h1 at k81 k85 hyes ⊢
      refine r_ra G (pn := 57) rfl rfl rfl ?_
      refine r_get G (pn := 60) rfl rfl (by first | assumption | (repeat (first | assumption | exact am_eq (by first | assumption | exact am_eq (by assumption) | exact am_ne (by first | decide | omega) (by assumption)) | refine am_ne (by first | decide | omega) ?_))) rfl ?_
      refine r_ic G (pn := 61) rfl rfl  ?_
      refine r_ra G (pn := 62) rfl rfl rfl ?_
      refine r_get G (pn := 65) rfl rfl (by first | assumption | (repeat (first | assumption | exact am_eq (by first | assumption | exact am_eq (by assumption) | exact am_ne (by first | decide | omega) (by assumption)) | refine am_ne (by first | decide | omega) ?_))) rfl ?_
      rw [hm]
      refine r_ib G (pn := 66) rfl rfl  ?_
      rw [show (3 : Int32) * nI n = nI (3 * n) from pk_mul 3 _]
      refine r_il G (pn := 67) rfl rfl rfl ?_
      refine r_iastN G (pn := 68) rfl rfl k85 (by omega) (by omega) ?_
      refine r_ra G (pn := 69) rfl rfl rfl ?_
      refine r_get G (pn := 72) rfl rfl (am_ne (by decide) k81) rfl ?_
      refine r_ic G (pn := 73) rfl rfl  ?_
      refine r_ra G (pn := 74) rfl rfl rfl ?_
      refine r_get G (pn := 77) rfl rfl (am_ne (by decide) k81) rfl ?_
      rw [hm]
      refine r_ib G (pn := 78) rfl rfl  ?_
      rw [show (3 : Int32) * nI n = nI (3 * n) from pk_mul 3 _]
      refine r_ic G (pn := 79) rfl rfl  ?_
      refine r_ib G (pn := 80) rfl rfl  ?_
      rw [nI_1]
      refine r_il G (pn := 81) rfl rfl rfl ?_
      refine r_iastN G (pn := 82) rfl rfl (am_eq k85) (by omega) (by omega) ?_
      refine r_ra G (pn := 83) rfl rfl rfl ?_
      refine r_get G (pn := 86) rfl rfl (am_ne (by decide) (am_ne (by decide) k81)) rfl ?_
      refine r_ic G (pn := 87) rfl rfl  ?_
      refine r_ra G (pn := 88) rfl rfl rfl ?_
      refine r_get G (pn := 91) rfl rfl (am_ne (by decide) (am_ne (by decide) k81)) rfl ?_
      rw [hm]
      refine r_ib G (pn := 92) rfl rfl  ?_
      rw [show (3 : Int32) * nI n = nI (3 * n) from pk_mul 3 _]
      refine r_ic G (pn := 93) rfl rfl  ?_
      refine r_ib G (pn := 94) rfl rfl  ?_
      rw [show nI (3 * n) + 2 = nI (3 * n + 2) from nI_add _ 2]
      refine r_il G (pn := 95) rfl rfl rfl ?_
      refine r_iastN G (pn := 96) rfl rfl (am_eq (am_eq k85)) (by omega) (by omega) ?_
      refine r_ra G (pn := 97) rfl rfl rfl ?_
      refine r_dup G (pn := 98) rfl rfl rfl ?_
      refine r_get G (pn := 101) rfl rfl (am_ne (by decide) (am_ne (by decide) (am_ne (by decide) k81))) rfl ?_
      rw [hm]
      refine r_ic G (pn := 102) rfl rfl  ?_
      refine r_ib G (pn := 103) rfl rfl  ?_
      rw [nI_1, List.set_set, List.set_set]
      have k9 : (h1.set 85 (aI 9 (upd (upd (upd fl (3 * n) a) (3 * n + 1) b) (3 * n + 2) x)))[81]? = some (mO m) := am_ne (by decide) k81
      refine r_puti G (pn := 106) rfl rfl k9 (Nat.le_of_ble_eq_true rfl) ?_
      refine r_ra G (pn := 107) rfl rfl rfl ?_
      refine r_get G (pn := 110) rfl rfl (am_eq k9) rfl ?_
      refine r_ic G (pn := 111) rfl rfl  ?_
      refine r_ib G (pn := 112) rfl rfl  ?_
      rw [nI_pred]
      refine r_iret G rfl rfl (hyes z)
    refine r_ra G (pn := 39) rfl rfl rfl ?_
    refine r_get G (pn := 42) rfl rfl (by first | assumption | (repeat (first | assumption | exact am_eq (by first | assumption | exact am_eq (by assumption) | exact am_ne (by first | decide | omega) (by assumption)) | refine am_ne (by first | decide | omega) ?_))) rfl ?_
    refine r_ra G (pn := 43) rfl rfl rfl ?_
    refine r_get G (pn := 46) rfl rfl (by first | assumption | (repeat (first | assumption | exact am_eq (by first | assumption | exact am_eq (by assumption) | exact am_ne (by first | decide | omega) (by assumption)) | refine am_ne (by first | decide | omega) ?_))) rfl ?_
    rw [hm]
    refine r_il G (pn := 47) rfl rfl rfl ?_
    refine r_if1 G (pn := 50) rfl rfl (fun c47 => ?_) (fun c47 => ?_)
    · have hx : ¬ x = -1 := fun q => by rw [q] at c47; exact absurd c47 (by decide)
      rw [if_neg hx] at rest
      refine r_ic G (pn := 55) rfl rfl  ?_
      refine r_iastN G (pn := 56) rfl rfl h84 hn3 (by omega) ?_
      exact rest
    · have hx : x = -1 := z.2.2.2.2.2.elim id (fun w => absurd (Int32.not_lt.mp w.1) c47)
      rw [if_pos hx] at rest
      refine r_ic G (pn := 51) rfl rfl  ?_
      refine r_goto G rfl ?_
      refine r_iastN G (pn := 56) rfl rfl h84 hn3 (by omega) ?_
      exact rest
  refine r_ra G (pn := 1) rfl rfl rfl ?_
  refine r_get G (pn := 4) rfl rfl (by first | assumption | (repeat (first | assumption | exact am_eq (by first | assumption | exact am_eq (by assumption) | exact am_ne (by first | decide | omega) (by assumption)) | refine am_ne (by first | decide | omega) ?_))) rfl ?_
  rw [hm]
  refine r_ic G (pn := 5) rfl rfl  ?_
  refine r_if2 G (pn := 8) rfl rfl (fun c5 => ?_) (fun c5 => ?_)
  · exact no (fun z => absurd ((nI_eq (a := n) (b := 3) (by omega) (by omega)).mp c5) (by have := z.1; omega))
  · have hn3 : n < 3 := by
      have : ¬ n = 3 := fun q => c5 (by rw [q]; rfl)
      omega
    refine r_il G (pn := 9) rfl rfl rfl ?_
    refine r_if1 G (pn := 12) rfl rfl (fun c9 => ?_) (fun c9 => ?_)
    · exact no (fun z => z.2.1 c9)
    · refine r_il G (pn := 13) rfl rfl rfl ?_
      refine r_ic G (pn := 14) rfl rfl  ?_
      refine r_if2 G (pn := 17) rfl rfl (fun c14 => ?_) (fun c14 => ?_)
      · exact no (fun z => z.2.2.1 c14)
      · refine r_il G (pn := 18) rfl rfl rfl ?_
        refine r_if1 G (pn := 21) rfl rfl (fun c18 => ?_) (fun c18 => ?_)
        · exact no (fun z => z.2.2.2.1 c18)
        · refine r_il G (pn := 22) rfl rfl rfl ?_
          refine r_ic G (pn := 23) rfl rfl  ?_
          refine r_if2 G (pn := 26) rfl rfl (fun c23 => ?_) (fun c23 => ?_)
          · exact no (fun z => z.2.2.2.2.1 c23)
          · refine r_il G (pn := 27) rfl rfl rfl ?_
            refine r_ic G (pn := 28) rfl rfl  ?_
            refine r_if2 G (pn := 31) rfl rfl (fun c28 => ?_) (fun c28 => ?_)
            · exact no (fun z => z.2.2.2.2.2.elim (fun q => by rw [q] at c28; exact absurd c28 (by decide)) (fun w => m1_ge w.1 c28))
            · refine r_il G (pn := 32) rfl rfl rfl ?_
              refine r_ic G (pn := 33) rfl rfl  ?_
              refine r_if2 G (pn := 36) rfl rfl (fun c33 => ?_) (fun c33 => ?_)
              · refine yes ⟨hn3, c9, c14, c18, c23, ?_⟩
                by_cases q : x < 0
                · exact Or.inl (m1_lt c28 q)
                · exact Or.inr ⟨q, Int32.not_lt.mpr c33⟩
              · exact no (fun z => z.2.2.2.2.2.elim (fun q => c33 (by rw [q]; decide)) (fun w => w.2 (Int32.not_le.mp c33)))
def chOk (n : Nat) (P : Nat → Int32) (r i j b a : Int32) : Prop := ∃ q p s, r = nI q ∧ q < n ∧ i = nI p ∧ j = nI s ∧ p < s ∧ s < 3 ∧ j < P q ∧ ¬ b < 0 ∧ ¬ 3 < b ∧ ¬ a < 0 ∧ ¬ 3 < a
set_option maxHeartbeats 1000000 in
theorem sp_9 (hd : 3 ≤ d) {cap : Int32} {n : Nat} {r i j b a : Int32} {P : Nat → Int32} {C B A : Nat → Nat → Int32} (h0 : h[0]? = some (sO cap (nI n))) (hn : n ≤ 3) (hR : RuI h P C B A) (hP : ∀ q, q < n → P q = 2 ∨ P q = 3) (hno : ¬ chOk n P r i j b a → Q (some (.int 0)) h)
    (hyes : ∀ q p s, r = nI q → q < n → i = nI p → j = nI s → p < s → s < 3 → chOk n P r i j b a → ∀ h', am_fr ruP h h' → RuI h' P C (fun k => if k = q then upd (B q) (p + s - 1) b else B k) (fun k => if k = q then upd (A q) (p + s - 1) a else A k) → Q (some (.int 1)) h') : am_KA lx d 9 [.ref 0, .int r, .int i, .int j, .int b, .int a] h Q := by
  obtain ⟨e, rfl⟩ : ∃ e, d = e + 1 := ⟨d - 1, by omega⟩
  have G : am_GK (am_KA lx e) cd_9 := ⟨am_KA_m lx e, cm_9⟩
  refine am_KA_in (by decide) (Nat.le_of_ble_eq_true rfl) ?_
  show am_Go (am_KA lx e) (am_fetch cd_9) Q 0 [some (.ref 0), some (.int r), some (.int i), some (.int j), some (.int b), some (.int a)] [] h 0 0
  have no : ¬ chOk n P r i j b a → am_Go (am_KA lx e) (am_fetch cd_9) Q 30 [some (.ref 0), some (.int r), some (.int i), some (.int j), some (.int b), some (.int a)] [] h 0 0 := by
    intro z
    refine r_ic G (pn := 31) rfl rfl  ?_
    refine r_iret G rfl (by decide) (hno z)
  have no2 : ¬ chOk n P r i j b a → am_Go (am_KA lx e) (am_fetch cd_9) Q 48 [some (.ref 0), some (.int r), some (.int i), some (.int j), some (.int b), some (.int a)] [] h 0 0 := by
    intro z
    refine r_ic G (pn := 49) rfl rfl  ?_
    refine r_iret G rfl (by decide) (hno z)
  refine r_ra G (pn := 1) rfl rfl rfl ?_
  refine r_il G (pn := 2) rfl rfl rfl ?_
  refine r_inv2 G (pn := 5) rfl rfl (by first | assumption | (repeat (first | assumption | exact am_eq (by first | assumption | exact am_eq (by assumption) | exact am_ne (by first | decide | omega) (by assumption)) | refine am_ne (by first | decide | omega) ?_))) (Nat.le_of_ble_eq_true rfl) (Nat.le_of_ble_eq_true rfl) (Nat.le_of_ble_eq_true rfl) (sp_16 (by omega) h0 (fun hz => ?_) (fun r0 r1 => ?_))
  · show am_Go (am_KA lx e) (am_fetch cd_9) Q 5 [some (.ref 0), some (.int r), some (.int i), some (.int j), some (.int b), some (.int a)] [.int 0] h 0 0
    refine r_if1 G (pn := 8) rfl rfl (fun c5 => ?_) (fun c5 => ?_)
    · refine no (fun ⟨q, p, s, e1, e2, _⟩ => ?_)
      rw [e1] at hz
      exact hz.elim (nI_pos (by omega)) (nI_ge e2 (by omega))
    · exact absurd rfl c5
  · obtain ⟨q, hq, rfl⟩ : ∃ q, q < n ∧ r = nI q := by
      rcases pk_ix r (n := n) (by omega) with z | z | z
      · exact absurd z r0
      · exact absurd z r1
      · exact z
    obtain ⟨⟨rr, t1, t2⟩, t3⟩ := id hR
    obtain ⟨s1, s2, s3, s4⟩ := t3 q (by omega)
    show am_Go (am_KA lx e) (am_fetch cd_9) Q 5 [some (.ref 0), some (.int (nI q)), some (.int i), some (.int j), some (.int b), some (.int a)] [.int 1] h 0 0
    refine r_if1 G (pn := 8) rfl rfl (fun c5 => ?_) (fun c5 => ?_)
    · exact absurd c5 (by decide)
    · refine r_il G (pn := 9) rfl rfl rfl ?_
      refine r_if1 G (pn := 12) rfl rfl (fun c9 => ?_) (fun c9 => ?_)
      · refine no (fun ⟨q2, p, s, e1, e2, e3, _⟩ => ?_)
        rw [e3] at c9
        rename_i e4
        exact nI_pos (by have := e4.2.1; have := e4.2.2.1; omega) c9
      · refine r_il G (pn := 13) rfl rfl rfl ?_
        refine r_il G (pn := 14) rfl rfl rfl ?_
        refine r_if2 G (pn := 17) rfl rfl (fun c14 => ?_) (fun c14 => ?_)
        · refine no (fun ⟨q2, p, s, e1, e2, e3, e4, e5, e6, _⟩ => ?_)
          rw [e3, e4] at c14
          exact absurd ((nI_leI (by omega) (by omega)).mp c14) (by omega)
        · refine r_il G (pn := 18) rfl rfl rfl ?_
          refine r_ra G (pn := 19) rfl rfl rfl ?_
          refine r_get G (pn := 22) rfl rfl (by first | assumption | (repeat (first | assumption | exact am_eq (by first | assumption | exact am_eq (by assumption) | exact am_ne (by first | decide | omega) (by assumption)) | refine am_ne (by first | decide | omega) ?_))) rfl ?_
          refine r_il G (pn := 23) rfl rfl rfl ?_
          refine r_raldN G (pn := 24) rfl rfl t1 (by omega) (by omega) (t2 q (by omega)) ?_
          refine r_get G (pn := 27) rfl rfl (by first | assumption | (repeat (first | assumption | exact am_eq (by first | assumption | exact am_eq (by assumption) | exact am_ne (by first | decide | omega) (by assumption)) | refine am_ne (by first | decide | omega) ?_))) rfl ?_
          refine r_if2 G (pn := 30) rfl rfl (fun c27 => ?_) (fun c27 => ?_)
          · have hj3 : j < 3 := by
              rcases hP q hq with z | z
              · rw [z] at c27
                exact Int32.lt_trans c27 (by decide)
              · rw [z] at c27
                exact c27
            have hi0 : ∃ p, i = nI p ∧ p < 3 := by
              have hlt : i < 3 := Int32.lt_trans (Int32.not_le.mp c14) hj3
              rcases pk_ix i (n := 3) (by omega) with z | z | ⟨p, z1, z2⟩
              · exact absurd z c9
              · exact absurd hlt (Int32.not_lt.mpr z)
              · exact ⟨p, z2, z1⟩
            obtain ⟨p, rfl, hp3⟩ := hi0
            have hj0 : ∃ s, j = nI s ∧ s < 3 := by
              rcases pk_ix j (n := 3) (by omega) with z | z | ⟨s, z1, z2⟩
              · exact absurd (Int32.lt_trans (Int32.not_le.mp c14) z) (nI_pos (by omega))
              · exact absurd hj3 (Int32.not_lt.mpr z)
              · exact ⟨s, z2, z1⟩
            obtain ⟨s, rfl, hs3⟩ := hj0
            have hps : p < s := Nat.not_le.mp (fun z => c14 ((nI_leI (by omega) (by omega)).mpr z))
            refine r_il G (pn := 34) rfl rfl rfl ?_
            refine r_ins1 G (pn := 37) rfl rfl (Nat.le_of_ble_eq_true rfl) (Nat.le_of_ble_eq_true rfl) (Nat.le_of_ble_eq_true rfl) (sp_18 (by omega) (fun hz => ?_) (fun b0 b1 => ?_))
            · show am_Go (am_KA lx e) (am_fetch cd_9) Q 37 [some (.ref 0), some (.int (nI q)), some (.int (nI p)), some (.int (nI s)), some (.int b), some (.int a)] [.int 0] h 0 0
              refine r_if1 G (pn := 40) rfl rfl (fun c37 => ?_) (fun c37 => ?_)
              · exact no2 (fun ⟨_, _, _, _, _, _, _, _, _, _, x1, x2, _⟩ => hz.elim x1 x2)
              · exact absurd rfl c37
            · show am_Go (am_KA lx e) (am_fetch cd_9) Q 37 [some (.ref 0), some (.int (nI q)), some (.int (nI p)), some (.int (nI s)), some (.int b), some (.int a)] [.int 1] h 0 0
              refine r_if1 G (pn := 40) rfl rfl (fun c37 => ?_) (fun c37 => ?_)
              · exact absurd c37 (by decide)
              · refine r_il G (pn := 42) rfl rfl rfl ?_
                refine r_ins1 G (pn := 45) rfl rfl (Nat.le_of_ble_eq_true rfl) (Nat.le_of_ble_eq_true rfl) (Nat.le_of_ble_eq_true rfl) (sp_18 (by omega) (fun hz => ?_) (fun a0 a1 => ?_))
                · show am_Go (am_KA lx e) (am_fetch cd_9) Q 45 [some (.ref 0), some (.int (nI q)), some (.int (nI p)), some (.int (nI s)), some (.int b), some (.int a)] [.int 0] h 0 0
                  refine r_if1 G (pn := 48) rfl rfl (fun c45 => ?_) (fun c45 => ?_)
                  · exact absurd rfl c45
                  · exact no2 (fun ⟨_, _, _, _, _, _, _, _, _, _, _, _, x3, x4⟩ => hz.elim x3 x4)
                · have hok : chOk n P (nI q) (nI p) (nI s) b a := ⟨q, p, s, rfl, hq, rfl, rfl, hps, hs3, c27, b0, b1, a0, a1⟩
                  show am_Go (am_KA lx e) (am_fetch cd_9) Q 45 [some (.ref 0), some (.int (nI q)), some (.int (nI p)), some (.int (nI s)), some (.int b), some (.int a)] [.int 1] h 0 0
                  refine r_if1 G (pn := 48) rfl rfl (fun c45 => ?_) (fun c45 => ?_)
                  · refine r_ra G (pn := 51) rfl rfl rfl ?_
                    refine r_get G (pn := 54) rfl rfl (by first | assumption | (repeat (first | assumption | exact am_eq (by first | assumption | exact am_eq (by assumption) | exact am_ne (by first | decide | omega) (by assumption)) | refine am_ne (by first | decide | omega) ?_))) rfl ?_
                    refine r_il G (pn := 55) rfl rfl rfl ?_
                    refine r_raldN G (pn := 56) rfl rfl t1 (by omega) (by omega) (t2 q (by omega)) ?_
                    refine r_il G (pn := 57) rfl rfl rfl ?_
                    refine r_il G (pn := 58) rfl rfl rfl ?_
                    refine r_il G (pn := 60) rfl rfl rfl ?_
                    refine r_il G (pn := 62) rfl rfl rfl ?_
                    refine r_inv5 G (pn := 65) rfl rfl s1 (Nat.le_of_ble_eq_true rfl) (Nat.le_of_ble_eq_true rfl) (Nat.le_of_ble_eq_true rfl) (sp_119 (by omega) s1 s3 s4 hps hs3 ?_)
                    show am_Go (am_KA lx e) (am_fetch cd_9) Q 65 [some (.ref 0), some (.int (nI q)), some (.int (nI p)), some (.int (nI s)), some (.int b), some (.int a)] [] ((h.set (69 + 4 * q + 2) (aI 3 (upd (B q) (p + s - 1) b))).set (69 + 4 * q + 3) (aI 3 (upd (A q) (p + s - 1) a))) 0 0
                    refine r_ic G (pn := 66) rfl rfl  ?_
                    refine r_iret G rfl (by decide) (hyes q p s rfl hq rfl rfl hps hs3 hok _ ((am_fr.rf.put ⟨by omega, by omega⟩).put ⟨by omega, by omega⟩) ⟨⟨rr, am_ne (by omega) (am_ne (by omega) t1), t2⟩, fun k hk => ?_⟩)
                    obtain ⟨v1, v2, v3, v4⟩ := t3 k hk
                    by_cases e9 : k = q
                    · subst e9
                      dsimp only
                      rw [if_pos rfl, if_pos rfl]
                      exact ⟨am_ne (by omega) (am_ne (by omega) v1), am_ne (by omega) (am_ne (by omega) v2), am_ne (by omega) (am_eq v3), am_eq (am_ne (by omega) v4)⟩
                    · dsimp only
                      rw [if_neg e9, if_neg e9]
                      exact ⟨am_ne (by omega) (am_ne (by omega) v1), am_ne (by omega) (am_ne (by omega) v2), am_ne (by omega) (am_ne (by omega) v3), am_ne (by omega) (am_ne (by omega) v4)⟩
                  · exact absurd c45 (by decide)
          · refine no (fun ⟨q2, p, s, e1, e2, e3, e4, e5, e6, e7, _⟩ => ?_)
            have : q = q2 := (nI_eq (by omega) (by omega)).mp e1
            rw [← this] at e7
            exact c27 e7
set_option maxHeartbeats 1000000 in
theorem sp_50 (hd : 1 ≤ d) {n : Nat} {r i j b a : Int32} {fp fb fa : Nat → Int32} (hM : h[81]? = some (mO m)) (hm : m 5 = nI n) (hn : n ≤ 3) (h84 : h[84]? = some (aI 3 fp)) (h86 : h[86]? = some (aI 27 fb)) (h87 : h[87]? = some (aI 27 fa)) (hP : ∀ q, q < n → fp q = 2 ∨ fp q = 3) (hno : ¬ chOk n fp r i j b a → Q (some (.int 0)) h)
    (hyes : ∀ q p s, r = nI q → q < n → i = nI p → j = nI s → p < s → s < 3 → chOk n fp r i j b a → Q (some (.int 1)) ((h.set 86 (aI 27 (upd fb (9 * q + 3 * p + s) b))).set 87 (aI 27 (upd fa (9 * q + 3 * p + s) a)))) : am_KA lx d 50 [.ref 81, .int r, .int i, .int j, .int b, .int a] h Q := by
  obtain ⟨e, rfl⟩ : ∃ e, d = e + 1 := ⟨d - 1, by omega⟩
  have G : am_GK (am_KA lx e) cd_50 := ⟨am_KA_m lx e, cm_50⟩
  refine am_KA_in (by decide) (Nat.le_of_ble_eq_true rfl) ?_
  show am_Go (am_KA lx e) (am_fetch cd_50) Q 0 [some (.ref 81), some (.int r), some (.int i), some (.int j), some (.int b), some (.int a)] [] h 0 0
  have no : ¬ chOk n fp r i j b a → am_Go (am_KA lx e) (am_fetch cd_50) Q 53 [some (.ref 81), some (.int r), some (.int i), some (.int j), some (.int b), some (.int a)] [] h 0 0 := by
    intro z
    refine r_ic G (pn := 54) rfl rfl  ?_
    refine r_iret G rfl (by decide) (hno z)
  refine r_il G (pn := 1) rfl rfl rfl ?_
  refine r_if1 G (pn := 4) rfl rfl (fun c1 => ?_) (fun c1 => ?_)
  · refine no (fun ⟨q, p, s, e1, e2, _⟩ => ?_)
    rw [e1] at c1
    exact nI_pos (by omega) c1
  · refine r_il G (pn := 5) rfl rfl rfl ?_
    refine r_ra G (pn := 6) rfl rfl rfl ?_
    refine r_get G (pn := 9) rfl rfl (by first | assumption | (repeat (first | assumption | exact am_eq (by first | assumption | exact am_eq (by assumption) | exact am_ne (by first | decide | omega) (by assumption)) | refine am_ne (by first | decide | omega) ?_))) rfl ?_
    rw [hm]
    refine r_if2 G (pn := 12) rfl rfl (fun c9 => ?_) (fun c9 => ?_)
    · refine no (fun ⟨q, p, s, e1, e2, _⟩ => ?_)
      rw [e1] at c9
      exact nI_ge e2 (by omega) c9
    · obtain ⟨q, hq, rfl⟩ : ∃ q, q < n ∧ r = nI q := by
        rcases pk_ix r (n := n) (by omega) with z | z | z
        · exact absurd z c1
        · exact absurd z c9
        · exact z
      refine r_il G (pn := 13) rfl rfl rfl ?_
      refine r_if1 G (pn := 16) rfl rfl (fun c13 => ?_) (fun c13 => ?_)
      · refine no (fun ⟨q2, p, s, e1, e2, e3, e4, e5, e6, _⟩ => ?_)
        rw [e3] at c13
        exact nI_pos (by omega) c13
      · refine r_il G (pn := 17) rfl rfl rfl ?_
        refine r_ra G (pn := 18) rfl rfl rfl ?_
        refine r_get G (pn := 21) rfl rfl (by first | assumption | (repeat (first | assumption | exact am_eq (by first | assumption | exact am_eq (by assumption) | exact am_ne (by first | decide | omega) (by assumption)) | refine am_ne (by first | decide | omega) ?_))) rfl ?_
        refine r_il G (pn := 22) rfl rfl rfl ?_
        refine r_ialdN G (pn := 23) rfl rfl h84 (by omega) (by omega) ?_
        refine r_if2 G (pn := 26) rfl rfl (fun c23 => ?_) (fun c23 => ?_)
        · refine no (fun ⟨q2, p, s, e1, e2, e3, e4, e5, e6, e7, _⟩ => ?_)
          have : q = q2 := (nI_eq (by omega) (by omega)).mp e1
          rw [← this] at e7
          exact Int32.not_lt.mpr c23 e7
        · have c27 : j < fp q := Int32.not_le.mp c23
          refine r_il G (pn := 27) rfl rfl rfl ?_
          refine r_il G (pn := 28) rfl rfl rfl ?_
          refine r_if2 G (pn := 31) rfl rfl (fun c28 => ?_) (fun c28 => ?_)
          · refine no (fun ⟨q2, p, s, e1, e2, e3, e4, e5, e6, _⟩ => ?_)
            rw [e3, e4] at c28
            exact absurd ((nI_leI (by omega) (by omega)).mp c28) (by omega)
          · have hj3 : j < 3 := by
              rcases hP q hq with z | z
              · rw [z] at c27
                exact Int32.lt_trans c27 (by decide)
              · rw [z] at c27
                exact c27
            have hi0 : ∃ p, i = nI p ∧ p < 3 := by
              have hlt : i < 3 := Int32.lt_trans (Int32.not_le.mp c28) hj3
              rcases pk_ix i (n := 3) (by omega) with z | z | ⟨p, z1, z2⟩
              · exact absurd z c13
              · exact absurd hlt (Int32.not_lt.mpr z)
              · exact ⟨p, z2, z1⟩
            obtain ⟨p, rfl, hp3⟩ := hi0
            have hj0 : ∃ s, j = nI s ∧ s < 3 := by
              rcases pk_ix j (n := 3) (by omega) with z | z | ⟨s, z1, z2⟩
              · exact absurd (Int32.lt_trans (Int32.not_le.mp c28) z) (nI_pos (by omega))
              · exact absurd hj3 (Int32.not_lt.mpr z)
              · exact ⟨s, z2, z1⟩
            obtain ⟨s, rfl, hs3⟩ := hj0
            have hps : p < s := Nat.not_le.mp (fun z => c28 ((nI_leI (by omega) (by omega)).mpr z))
            refine r_il G (pn := 33) rfl rfl rfl ?_
            refine r_if1 G (pn := 36) rfl rfl (fun c33 => ?_) (fun c33 => ?_)
            · exact no (fun ⟨_, _, _, _, _, _, _, _, _, _, x1, _⟩ => x1 c33)
            · refine r_il G (pn := 38) rfl rfl rfl ?_
              refine r_ic G (pn := 39) rfl rfl  ?_
              refine r_if2 G (pn := 42) rfl rfl (fun c39 => ?_) (fun c39 => ?_)
              · exact no (fun ⟨_, _, _, _, _, _, _, _, _, _, _, x2, _⟩ => x2 c39)
              · refine r_il G (pn := 44) rfl rfl rfl ?_
                refine r_if1 G (pn := 47) rfl rfl (fun c44 => ?_) (fun c44 => ?_)
                · exact no (fun ⟨_, _, _, _, _, _, _, _, _, _, _, _, x3, _⟩ => x3 c44)
                · refine r_il G (pn := 49) rfl rfl rfl ?_
                  refine r_ic G (pn := 50) rfl rfl  ?_
                  refine r_if2 G (pn := 53) rfl rfl (fun c50 => ?_) (fun c50 => ?_)
                  · have hok : chOk n fp (nI q) (nI p) (nI s) b a := ⟨q, p, s, rfl, hq, rfl, rfl, hps, hs3, c27, c33, c39, c44, Int32.not_lt.mpr c50⟩
                    have e1 : (9 : Int32) * nI q + 3 * nI p + nI s = nI (9 * q + 3 * p + s) := by
                      rw [show (9 : Int32) * nI q = nI (9 * q) from pk_mul 9 _, show (3 : Int32) * nI p = nI (3 * p) from pk_mul 3 _, nI_add, nI_add]
                    refine r_ra G (pn := 56) rfl rfl rfl ?_
                    refine r_get G (pn := 59) rfl rfl (by first | assumption | (repeat (first | assumption | exact am_eq (by first | assumption | exact am_eq (by assumption) | exact am_ne (by first | decide | omega) (by assumption)) | refine am_ne (by first | decide | omega) ?_))) rfl ?_
                    refine r_ic G (pn := 61) rfl rfl  ?_
                    refine r_il G (pn := 62) rfl rfl rfl ?_
                    refine r_ib G (pn := 63) rfl rfl  ?_
                    refine r_ic G (pn := 64) rfl rfl  ?_
                    refine r_il G (pn := 65) rfl rfl rfl ?_
                    refine r_ib G (pn := 66) rfl rfl  ?_
                    refine r_ib G (pn := 67) rfl rfl  ?_
                    refine r_il G (pn := 68) rfl rfl rfl ?_
                    refine r_ib G (pn := 69) rfl rfl  ?_
                    rw [e1]
                    refine r_il G (pn := 71) rfl rfl rfl ?_
                    refine r_iastN G (pn := 72) rfl rfl h86 (by omega) (by omega) ?_
                    refine r_ra G (pn := 73) rfl rfl rfl ?_
                    refine r_get G (pn := 76) rfl rfl (am_ne (by decide) hM) rfl ?_
                    refine r_ic G (pn := 78) rfl rfl  ?_
                    refine r_il G (pn := 79) rfl rfl rfl ?_
                    refine r_ib G (pn := 80) rfl rfl  ?_
                    refine r_ic G (pn := 81) rfl rfl  ?_
                    refine r_il G (pn := 82) rfl rfl rfl ?_
                    refine r_ib G (pn := 83) rfl rfl  ?_
                    refine r_ib G (pn := 84) rfl rfl  ?_
                    refine r_il G (pn := 85) rfl rfl rfl ?_
                    refine r_ib G (pn := 86) rfl rfl  ?_
                    rw [e1]
                    refine r_il G (pn := 88) rfl rfl rfl ?_
                    refine r_iastN G (pn := 89) rfl rfl (am_ne (by decide) h87) (by omega) (by omega) ?_
                    refine r_ic G (pn := 90) rfl rfl  ?_
                    refine r_iret G rfl (by decide) (hyes q p s rfl hq rfl rfl hps hs3 hok)
                  · exact no (fun ⟨_, _, _, _, _, _, _, _, _, _, _, _, _, x4⟩ => x4 (Int32.not_le.mp c50))
end
