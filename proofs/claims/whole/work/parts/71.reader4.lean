section
variable {lx : am_Lx} {d : Nat} {h : am_H} {Q : am_Q} {r : Rs}
theorem sp_107 (hd : 2 ≤ d) (hI : RdR h r) (hq : ∀ h', am_fr rdP h h' → RdR h' rs0 → Q none h') : am_KA lx d 107 [.ref 3] h Q := by
  obtain ⟨h1, ⟨f2, h2, g2⟩, ⟨f3, h3, g3⟩, ⟨f9, h9, g9⟩, h5⟩ := id hI
  obtain ⟨e, rfl⟩ : ∃ e, d = e + 1 := ⟨d - 1, by omega⟩
  have G : am_GK (am_KA lx e) cd_107 := ⟨am_KA_m lx e, cm_107⟩
  refine am_KA_in (by decide) (Nat.le_of_ble_eq_true rfl) ?_
  show am_Go (am_KA lx e) (am_fetch cd_107) Q 0 [some (.ref 3), none] [] h 0 0
  refine r_ra G (pn := 1) rfl rfl rfl ?_
  refine r_get G (pn := 4) rfl rfl (by first | assumption | (repeat (first | assumption | exact am_eq (by first | assumption | exact am_eq (by assumption) | exact am_ne (by first | decide | omega) (by assumption)) | refine am_ne (by first | decide | omega) ?_))) rfl ?_
  refine r_inv1 G (pn := 7) rfl rfl h5.1 (Nat.le_of_ble_eq_true rfl) (Nat.le_of_ble_eq_true rfl) (Nat.le_of_ble_eq_true rfl) (sp_77 (by omega) h5 (fun ha hf hJ => ?_))
  have k1 : ha[3]? = some (rdV r.v) := hf.at (fun z => by have := z.1; omega) h1
  have k2 : ha[32]? = some (aI 24 f2) := hf.at (fun z => by have := z.2; omega) h2
  have k3 : ha[33]? = some (aI 2 f3) := hf.at (fun z => by have := z.2; omega) h3
  have k9 : ha[34]? = some (aI 2 f9) := hf.at (fun z => by have := z.2; omega) h9
  have hfa : am_fr rdP h ha := hf.wk (fun i hi => ⟨by have := hi.1; omega, by have := hi.2; omega⟩)
  show am_Go (am_KA lx e) (am_fetch cd_107) Q 7 [some (.ref 3), none] [] ha 0 0
  refine r_ic G (pn := 8) rfl rfl  ?_
  refine r_is G (pn := 9) rfl rfl (Nat.le_of_ble_eq_true rfl) ?_
  refine r_il G (pn := 10) rfl rfl rfl ?_
  refine r_ic G (pn := 11) rfl rfl  ?_
  refine r_if2 G (pn := 14) rfl rfl (fun c11 => ?_) (fun c11 => ?_)
  · exact absurd c11 (by decide)
  refine r_ra G (pn := 15) rfl rfl rfl ?_
  refine r_get G (pn := 18) rfl rfl (by first | assumption | (repeat (first | assumption | exact am_eq (by first | assumption | exact am_eq (by assumption) | exact am_ne (by first | decide | omega) (by assumption)) | refine am_ne (by first | decide | omega) ?_))) rfl ?_
  refine r_il G (pn := 19) rfl rfl rfl ?_
  refine r_ic G (pn := 20) rfl rfl  ?_
  refine r_iastN G (pn := 21) rfl rfl (j := 0) k3 (by omega) (by omega) ?_
  refine r_inc G (pn := 24) rfl rfl rfl (Nat.le_of_ble_eq_true rfl) ?_
  refine r_goto G rfl ?_
  refine r_il G (pn := 10) rfl rfl rfl ?_
  refine r_ic G (pn := 11) rfl rfl  ?_
  refine r_if2 G (pn := 14) rfl rfl (fun c11 => ?_) (fun c11 => ?_)
  · exact absurd c11 (by decide)
  refine r_ra G (pn := 15) rfl rfl rfl ?_
  refine r_get G (pn := 18) rfl rfl (am_ne (by decide) k1) rfl ?_
  refine r_il G (pn := 19) rfl rfl rfl ?_
  refine r_ic G (pn := 20) rfl rfl  ?_
  refine r_iastN G (pn := 21) rfl rfl (j := 1) (am_eq k3) (by omega) (by omega) ?_
  refine r_inc G (pn := 24) rfl rfl rfl (Nat.le_of_ble_eq_true rfl) ?_
  refine r_goto G rfl ?_
  refine r_il G (pn := 10) rfl rfl rfl ?_
  refine r_ic G (pn := 11) rfl rfl  ?_
  refine r_if2 G (pn := 14) rfl rfl (fun c11 => ?_) (fun c11 => ?_)
  rotate_left
  · exact absurd (by decide) c11
  rw [List.set_set]
  refine r_ra G (pn := 28) rfl rfl rfl ?_
  refine r_ic G (pn := 29) rfl rfl  ?_
  refine r_puti G (pn := 32) rfl rfl (am_ne (by decide) k1) (Nat.le_of_ble_eq_true rfl) ?_
  refine r_ra G (pn := 33) rfl rfl rfl ?_
  refine r_ic G (pn := 34) rfl rfl  ?_
  refine r_puti G (pn := 37) rfl rfl (am_eq (am_ne (by decide) k1)) (Nat.le_of_ble_eq_true rfl) ?_
  refine r_ra G (pn := 38) rfl rfl rfl ?_
  refine r_ic G (pn := 39) rfl rfl  ?_
  refine r_putz G (pn := 42) rfl rfl (am_eq (am_eq (am_ne (by decide) k1))) (Nat.le_of_ble_eq_true rfl) (Or.inl rfl) ?_
  refine r_ra G (pn := 43) rfl rfl rfl ?_
  refine r_ic G (pn := 44) rfl rfl  ?_
  rw [List.set_set, List.set_set]
  have hJ2 : RdI ((ha.set 33 (aI 2 (upd (upd f3 0 (-1)) 1 (-1)))).set 3 (rdV (fun i => if i = 0 then r.v 0 else if i = 3 then r.v 3 else 0))) (fun i => if i = 0 then r.v 0 else if i = 3 then r.v 3 else 0) rs0.sk rs0.ma rs0.mo rs0.cd rs0.od := by
    refine ⟨am_eq (am_ne (by decide) k1), ⟨f2, am_ne (by decide) (am_ne (by decide) k2), fun i hi => absurd hi (Nat.not_lt_zero i)⟩, ⟨_, am_ne (by decide) (am_eq k3), fun i hi => ?_⟩, ⟨f9, am_ne (by decide) (am_ne (by decide) k9), fun i hi hz => absurd rfl hz⟩, (hJ _ _).fr (P := fun i => i = 33 ∨ i = 3) ((am_fr.rf.put (Or.inl rfl)).put (Or.inr rfl)) (fun i hi => by have := hi.2; have := hi.1; omega)⟩
    rcases (show i = 0 ∨ i = 1 by omega) with z | z <;> subst z <;> rfl
  refine r_inv2 G (pn := 47) rfl rfl (am_eq (am_ne (by decide) k1)) (Nat.le_of_ble_eq_true rfl) (Nat.le_of_ble_eq_true rfl) (Nat.le_of_ble_eq_true rfl) (sp_108 (s := 0) (by omega) hJ2 (fun h' hf' hI' => ?_))
  show am_Go (am_KA lx e) (am_fetch cd_107) Q 47 [some (.ref 3), some (.int 2)] [] h' 0 0
  refine r_vret G rfl (hq h' (((hfa.put ⟨by omega, by omega⟩).put ⟨by omega, by omega⟩).tr hf') ?_)
  exact hI'
theorem sp_106 (hd : 1 ≤ d) (hI : RdR h r) (hm : ∀ i, i < 2 → r.ma i < 1000) (hno : (r.ma 0 = 0 ∧ r.ma 1 = 0) → Q (some (.int 0)) h) (hyes : ¬ (r.ma 0 = 0 ∧ r.ma 1 = 0) → Q (some (.int 1)) h) : am_KA lx d 106 [.ref 3] h Q := by
  obtain ⟨h1, ⟨f2, h2, g2⟩, ⟨f3, h3, g3⟩, ⟨f9, h9, g9⟩, h5⟩ := id hI
  have m0 := hm 0 (by omega)
  have m1 := hm 1 (by omega)
  obtain ⟨e, rfl⟩ : ∃ e, d = e + 1 := ⟨d - 1, by omega⟩
  have G : am_GK (am_KA lx e) cd_106 := ⟨am_KA_m lx e, cm_106⟩
  refine am_KA_in (by decide) (Nat.le_of_ble_eq_true rfl) ?_
  show am_Go (am_KA lx e) (am_fetch cd_106) Q 0 [some (.ref 3), none] [] h 0 0
  refine r_ic G (pn := 1) rfl rfl  ?_
  refine r_is G (pn := 2) rfl rfl (Nat.le_of_ble_eq_true rfl) ?_
  refine r_il G (pn := 3) rfl rfl rfl ?_
  refine r_ic G (pn := 4) rfl rfl  ?_
  refine r_if2 G (pn := 7) rfl rfl (fun c4 => ?_) (fun c4 => ?_)
  · exact absurd c4 (by decide)
  refine r_ra G (pn := 8) rfl rfl rfl ?_
  refine r_get G (pn := 11) rfl rfl (by first | assumption | (repeat (first | assumption | exact am_eq (by first | assumption | exact am_eq (by assumption) | exact am_ne (by first | decide | omega) (by assumption)) | refine am_ne (by first | decide | omega) ?_))) rfl ?_
  refine r_il G (pn := 12) rfl rfl rfl ?_
  refine r_ialdN G (pn := 13) rfl rfl (j := 0) h3 (by omega) (by omega) ?_
  refine r_ic G (pn := 14) rfl rfl  ?_
  rw [g3 0 (by omega)]
  refine r_if2 G (pn := 17) rfl rfl (fun c14 => ?_) (fun c14 => ?_)
  rotate_left
  · refine r_ic G (pn := 18) rfl rfl  ?_
    refine r_iret G rfl (by decide) (hyes (fun z => c14 ((nI_m1 m0).mpr z.1)))
  refine r_inc G (pn := 22) rfl rfl rfl (Nat.le_of_ble_eq_true rfl) ?_
  refine r_goto G rfl ?_
  refine r_il G (pn := 3) rfl rfl rfl ?_
  refine r_ic G (pn := 4) rfl rfl  ?_
  have z0 := (nI_m1 m0).mp c14
  refine r_if2 G (pn := 7) rfl rfl (fun c4 => ?_) (fun c4 => ?_)
  · exact absurd c4 (by decide)
  refine r_ra G (pn := 8) rfl rfl rfl ?_
  refine r_get G (pn := 11) rfl rfl (by first | assumption | (repeat (first | assumption | exact am_eq (by first | assumption | exact am_eq (by assumption) | exact am_ne (by first | decide | omega) (by assumption)) | refine am_ne (by first | decide | omega) ?_))) rfl ?_
  refine r_il G (pn := 12) rfl rfl rfl ?_
  refine r_ialdN G (pn := 13) rfl rfl (j := 1) h3 (by omega) (by omega) ?_
  refine r_ic G (pn := 14) rfl rfl  ?_
  rw [g3 1 (by omega)]
  refine r_if2 G (pn := 17) rfl rfl (fun c14 => ?_) (fun c14 => ?_)
  rotate_left
  · refine r_ic G (pn := 18) rfl rfl  ?_
    refine r_iret G rfl (by decide) (hyes (fun z => c14 ((nI_m1 m1).mpr z.2)))
  refine r_inc G (pn := 22) rfl rfl rfl (Nat.le_of_ble_eq_true rfl) ?_
  refine r_goto G rfl ?_
  refine r_il G (pn := 3) rfl rfl rfl ?_
  refine r_ic G (pn := 4) rfl rfl  ?_
  have z1 := (nI_m1 m1).mp c14
  refine r_if2 G (pn := 7) rfl rfl (fun c4 => ?_) (fun c4 => ?_)
  rotate_left
  · exact absurd (by decide) c4
  refine r_ic G (pn := 26) rfl rfl  ?_
  refine r_iret G rfl (by decide) (hno ⟨z0, z1⟩)
theorem sp_105 (hd : 5 ≤ d) {n : Nat} {f : Nat → Int32} (h1 : h[1]? = some (.inr (4, [.ref 2, .int (nI n)]))) (h2 : h[2]? = some (.inl (.char, 24, .inl f))) (hn : n ≤ 24) (hx : ∀ i, i < n → 0 ≤ f i ∧ f i < 65536) (hI : RdR h r)
    (hf : ∀ p r' h', p < n → rrun (fun i => chK (f i)) p = some r' → rstep (chK (f p)) r' = none → am_fr rdP h h' → RdR h' r' → Q (some (.int (nI p))) h') (he : ∀ r' h', rrun (fun i => chK (f i)) n = some r' → am_fr rdP h h' → RdR h' r' → Q (some (.int (if r'.v 0 = 3 ∧ r'.v 1 = 0 then -1 else nI n))) h') : am_KA lx d 105 [.ref 3, .ref 1] h Q := by
  obtain ⟨e, rfl⟩ : ∃ e, d = e + 1 := ⟨d - 1, by omega⟩
  have G : am_GK (am_KA lx e) cd_105 := ⟨am_KA_m lx e, cm_105⟩
  refine am_KA_in (by decide) (Nat.le_of_ble_eq_true rfl) ?_
  show am_Go (am_KA lx e) (am_fetch cd_105) Q 0 [some (.ref 3), some (.ref 1), none] [] h 0 0
  refine r_ra G (pn := 1) rfl rfl rfl ?_
  refine r_inv1 G (pn := 4) rfl rfl hI.1 (Nat.le_of_ble_eq_true rfl) (Nat.le_of_ble_eq_true rfl) (Nat.le_of_ble_eq_true rfl) (sp_107 (by omega) hI (fun h' hf' hI' => ?_))
  show am_Go (am_KA lx e) (am_fetch cd_105) Q 4 [some (.ref 3), some (.ref 1), none] [] h' 0 0
  refine r_ic G (pn := 5) rfl rfl  ?_
  refine r_is G (pn := 6) rfl rfl (Nat.le_of_ble_eq_true rfl) ?_
  have lp : ∀ (k p : Nat) (r' : Rs) (h' : am_H), p + k = n → rrun (fun i => chK (f i)) p = some r' → am_fr rdP h h' → RdR h' r' → am_Go (am_KA lx e) (am_fetch cd_105) Q 6 [some (.ref 3), some (.ref 1), some (.int (nI p))] [] h' 0 0 := by
    intro k
    induction k with
    | zero =>
      intro p r' h' hp hr hf' hI'
      obtain rfl : p = n := by omega
      have k1 : h'[1]? = some (.inr (4, [.ref 2, .int (nI p)])) := hf'.at (fun z => by have := z.1; omega) h1
      have k3 := hI'.1
      have ok := (rrun_ok hr).1
      obtain ⟨p0, p1, -⟩ := id ok
      refine r_il G (pn := 7) rfl rfl rfl ?_
      refine r_ra G (pn := 8) rfl rfl rfl ?_
      refine r_get G (pn := 11) rfl rfl (by first | assumption | (repeat (first | assumption | exact am_eq (by first | assumption | exact am_eq (by assumption) | exact am_ne (by first | decide | omega) (by assumption)) | refine am_ne (by first | decide | omega) ?_))) rfl ?_
      refine r_if2 G (pn := 14) rfl rfl (fun c11 => ?_) (fun c11 => ?_)
      rotate_left
      · exact absurd (Int32.le_refl _) c11
      have hee := he r' h' hr hf' hI'
      refine r_ra G (pn := 36) rfl rfl rfl ?_
      refine r_get G (pn := 39) rfl rfl (by first | assumption | (repeat (first | assumption | exact am_eq (by first | assumption | exact am_eq (by assumption) | exact am_ne (by first | decide | omega) (by assumption)) | refine am_ne (by first | decide | omega) ?_))) rfl ?_
      refine r_ic G (pn := 40) rfl rfl  ?_
      show am_Go (am_KA lx e) (am_fetch cd_105) Q 40 [some (.ref 3), some (.ref 1), some (.int (nI p))] [.int 3, .int (nI (r'.v 0))] h' 0 0
      refine r_if2 G (pn := 43) rfl rfl (fun c40 => ?_) (fun c40 => ?_)
      · rw [if_neg (fun z => c40 (by rw [z.1]; rfl))] at hee
        refine r_ra G (pn := 55) rfl rfl rfl ?_
        refine r_get G (pn := 58) rfl rfl (by first | assumption | (repeat (first | assumption | exact am_eq (by first | assumption | exact am_eq (by assumption) | exact am_ne (by first | decide | omega) (by assumption)) | refine am_ne (by first | decide | omega) ?_))) rfl ?_
        refine r_iret G rfl rfl hee
      · have z3 : r'.v 0 = 3 := (nI_eq (b := 3) (by omega) (by omega)).mp (Classical.byContradiction c40)
        refine r_ra G (pn := 44) rfl rfl rfl ?_
        refine r_get G (pn := 47) rfl rfl (by first | assumption | (repeat (first | assumption | exact am_eq (by first | assumption | exact am_eq (by assumption) | exact am_ne (by first | decide | omega) (by assumption)) | refine am_ne (by first | decide | omega) ?_))) rfl ?_
        show am_Go (am_KA lx e) (am_fetch cd_105) Q 47 [some (.ref 3), some (.ref 1), some (.int (nI p))] [.int (nI (r'.v 1))] h' 0 0
        refine r_if1 G (pn := 50) rfl rfl (fun c47 => ?_) (fun c47 => ?_)
        · rw [if_neg (fun z => c47 (by rw [z.2]; rfl))] at hee
          refine r_ra G (pn := 55) rfl rfl rfl ?_
          refine r_get G (pn := 58) rfl rfl (by first | assumption | (repeat (first | assumption | exact am_eq (by first | assumption | exact am_eq (by assumption) | exact am_ne (by first | decide | omega) (by assumption)) | refine am_ne (by first | decide | omega) ?_))) rfl ?_
          refine r_iret G rfl rfl hee
        · have z1 : r'.v 1 = 0 := (nI_eq (b := 0) (by omega) (by omega)).mp (Classical.byContradiction c47)
          rw [if_pos ⟨z3, z1⟩] at hee
          refine r_ic G (pn := 51) rfl rfl  ?_
          refine r_goto G rfl ?_
          refine r_iret G rfl rfl hee
    | succ k ih =>
      intro p r' h' hp hr hf' hI'
      have k1 : h'[1]? = some (.inr (4, [.ref 2, .int (nI n)])) := hf'.at (fun z => by have := z.1; omega) h1
      have k2 : h'[2]? = some (.inl (.char, 24, .inl f)) := hf'.at (fun z => by have := z.1; omega) h2
      have k3 := hI'.1
      refine r_il G (pn := 7) rfl rfl rfl ?_
      refine r_ra G (pn := 8) rfl rfl rfl ?_
      refine r_get G (pn := 11) rfl rfl (by first | assumption | (repeat (first | assumption | exact am_eq (by first | assumption | exact am_eq (by assumption) | exact am_ne (by first | decide | omega) (by assumption)) | refine am_ne (by first | decide | omega) ?_))) rfl ?_
      refine r_if2 G (pn := 14) rfl rfl (fun c11 => ?_) (fun c11 => ?_)
      · exact absurd ((nI_leI (by omega) (by omega)).mp c11) (by omega)
      refine r_ra G (pn := 15) rfl rfl rfl ?_
      refine r_ra G (pn := 16) rfl rfl rfl ?_
      refine r_get G (pn := 19) rfl rfl (by first | assumption | (repeat (first | assumption | exact am_eq (by first | assumption | exact am_eq (by assumption) | exact am_ne (by first | decide | omega) (by assumption)) | refine am_ne (by first | decide | omega) ?_))) rfl ?_
      refine r_il G (pn := 20) rfl rfl rfl ?_
      refine r_caldN G (pn := 21) rfl rfl k2 (by omega) (by omega) ?_
      refine r_inv2 G (pn := 24) rfl rfl k3 (Nat.le_of_ble_eq_true rfl) (Nat.le_of_ble_eq_true rfl) (Nat.le_of_ble_eq_true rfl) (sp_109 (by omega) (hx p (by omega)) hI' (rrun_ok hr).1 (by omega) (fun hs => ?_) (fun h2 r2 hs hf2 hI2 => ?_))
      · show am_Go (am_KA lx e) (am_fetch cd_105) Q 24 [some (.ref 3), some (.ref 1), some (.int (nI p))] [.int 0] h' 0 0
        refine r_if1 G (pn := 27) rfl rfl (fun c24 => ?_) (fun c24 => ?_)
        · exact absurd rfl c24
        · refine r_il G (pn := 28) rfl rfl rfl ?_
          refine r_iret G rfl rfl (hf p r' h' (by omega) hr hs hf' hI')
      · show am_Go (am_KA lx e) (am_fetch cd_105) Q 24 [some (.ref 3), some (.ref 1), some (.int (nI p))] [.int 1] h2 0 0
        refine r_if1 G (pn := 27) rfl rfl (fun c24 => ?_) (fun c24 => ?_)
        rotate_left
        · exact absurd (by decide) c24
        · refine r_inc G (pn := 32) rfl rfl rfl (Nat.le_of_ble_eq_true rfl) ?_
          refine r_goto G rfl ?_
          rw [nI_1]
          exact ih (p + 1) r2 h2 (by omega) ((rrun_S hr).trans hs) (hf'.tr hf2) hI2
  exact lp n 0 rs0 h' (by omega) rfl hf' hI'
end
