abbrev Rs : Type := (Nat → Nat) × (Nat → Nat) × (Nat → Nat) × (Nat → Nat) × (Nat → Nat) × (Nat → Nat → Nat)
abbrev Rs.v (r : Rs) : Nat → Nat := r.1
abbrev Rs.sk (r : Rs) : Nat → Nat := r.2.1
abbrev Rs.ma (r : Rs) : Nat → Nat := r.2.2.1
abbrev Rs.mo (r : Rs) : Nat → Nat := r.2.2.2.1
abbrev Rs.cd (r : Rs) : Nat → Nat := r.2.2.2.2.1
abbrev Rs.od (r : Rs) : Nat → Nat → Nat := r.2.2.2.2.2
abbrev RdR (h : am_H) (r : Rs) : Prop := RdI h r.v r.sk r.ma r.mo r.cd r.od
abbrev PIr (p : Nat) (r : Rs) : Prop := PIn p r.v r.sk r.ma r.mo r.cd r.od
def rLet (k : Nat) (r : Rs) : Rs := ⟨uN (uN (uN (uN r.v 5 (r.v 5 + 1)) 2 (r.v 5 + 1)) 0 3) 3 1, r.sk, r.ma, r.mo, fun i => if i = r.v 5 then k else r.cd i, if r.v 2 = 0 then (fun i j => if i = r.v 5 ∨ j = r.v 5 then 0 else r.od i j) else oset (fun i j => if i = r.v 5 ∨ j = r.v 5 then 0 else r.od i j) (r.v 2 - 1) (r.v 5) (r.v 3)⟩
def rLink (k : Nat) (r : Rs) : Rs := ⟨uN (uN r.v 0 (if r.v 0 = 3 then 4 else 2)) 3 k, r.sk, r.ma, r.mo, r.cd, r.od⟩
def rMark (k : Nat) (r : Rs) : Rs := if r.ma k = 0 then ⟨uN (uN r.v 0 3) 3 1, r.sk, uN r.ma k (r.v 2), uN r.mo k (r.v 3), r.cd, r.od⟩
  else ⟨uN (uN (jnV (if r.mo k = r.v 3 then r.v else uN r.v 4 1) r.od (r.ma k - 1) (r.v 2 - 1)) 0 3) 3 1, r.sk, uN r.ma k 0, r.mo, r.cd, jnO r.od (r.ma k - 1) (r.v 2 - 1) (r.v 3)⟩
def rOpen (r : Rs) : Rs := ⟨uN (uN (uN r.v 1 (r.v 1 + 1)) 0 1) 3 1, uN r.sk (r.v 1) (r.v 2), r.ma, r.mo, r.cd, r.od⟩
def rClose (r : Rs) : Rs := ⟨uN (uN r.v 1 (r.v 1 - 1)) 2 (r.sk (r.v 1 - 1)), r.sk, r.ma, r.mo, r.cd, r.od⟩
def chK (x : Int32) : Nat := if x = 72 then 0 else if x = 79 then 1 else if x = 78 then 2 else if x = 67 then 3 else if x = 45 then 4 else if x = 61 then 5 else if x = 35 then 6 else if x = 49 then 7 else if x = 50 then 8 else if x = 40 then 9 else if x = 41 then 10 else 11
def rstep (k : Nat) (r : Rs) : Option Rs :=
  if k < 4 then some (rLet k r)
  else if k < 7 then (if r.v 0 = 3 ∨ r.v 0 = 1 then some (rLink (k - 3) r) else none)
  else if k < 9 then (if r.v 0 = 3 ∨ r.v 0 = 4 then some (rMark (k - 7) r) else none)
  else if k < 10 then (if r.v 0 = 3 then some (rOpen r) else none)
  else if k < 11 then (if r.v 0 = 3 ∧ r.v 1 ≠ 0 then some (rClose r) else none)
  else none
theorem chK_ix1 (x : Int32) : am_ixf x (am_txt 1) 0 = if chK x < 4 then nI (chK x) else -1 := by
  unfold am_txt chK
  simp only [am_ixf]
  by_cases h1 : x = 72
  · subst h1; rfl
  by_cases h2 : x = 79
  · subst h2; rfl
  by_cases h3 : x = 78
  · subst h3; rfl
  by_cases h4 : x = 67
  · subst h4; rfl
  simp only [h1, h2, h3, h4, Ne.symm h1, Ne.symm h2, Ne.symm h3, Ne.symm h4, if_false]
  rw [if_neg]
  repeat' split
  all_goals omega
theorem chK_ix2 (x : Int32) (hx : ¬ chK x < 4) : am_ixf x (am_txt 2) 0 = if chK x < 7 then nI (chK x - 4) else -1 := by
  unfold chK at hx ⊢
  unfold am_txt
  simp only [am_ixf]
  by_cases h1 : x = 45
  · subst h1; rfl
  by_cases h2 : x = 61
  · subst h2; rfl
  by_cases h3 : x = 35
  · subst h3; rfl
  simp only [h1, h2, h3, Ne.symm h1, Ne.symm h2, Ne.symm h3, if_false] at hx ⊢
  rw [if_neg]
  revert hx
  repeat' split
  all_goals omega
theorem chK_ix3 (x : Int32) (hx : ¬ chK x < 7) : am_ixf x (am_txt 3) 0 = if chK x < 9 then nI (chK x - 7) else -1 := by
  unfold chK at hx ⊢
  unfold am_txt
  simp only [am_ixf]
  by_cases h1 : x = 49
  · subst h1; rfl
  by_cases h2 : x = 50
  · subst h2; rfl
  simp only [h1, h2, Ne.symm h1, Ne.symm h2, if_false] at hx ⊢
  rw [if_neg]
  revert hx
  repeat' split
  all_goals omega
theorem chK_40 (x : Int32) (hx : ¬ chK x < 9) : (x = 40 ↔ chK x < 10) ∧ (x = 41 ↔ chK x = 10) := by
  unfold chK at hx ⊢
  by_cases h1 : x = 40
  · subst h1; exact ⟨⟨fun _ => by decide, fun _ => rfl⟩, ⟨fun z => absurd z (by decide), fun z => absurd z (by decide)⟩⟩
  by_cases h2 : x = 41
  · subst h2; exact ⟨⟨fun z => absurd z (by decide), fun z => absurd z (by decide)⟩, ⟨fun _ => by decide, fun _ => rfl⟩⟩
  simp only [h1, h2, if_false, false_iff] at hx ⊢
  revert hx
  repeat' split
  all_goals omega
theorem jn_fresh {v : Nat → Nat} {od : Nat → Nat → Nat} {a b o : Nat} (hab : a < b) : jnV v (fun i j => if i = b ∨ j = b then 0 else od i j) a b = v ∧ jnO (fun i j => if i = b ∨ j = b then 0 else od i j) a b o = oset (fun i j => if i = b ∨ j = b then 0 else od i j) a b o := by
  have : ¬ (a = b ∨ (if a = b ∨ b = b then 0 else od a b) ≠ 0) := by
    rw [if_pos (Or.inr rfl)]
    omega
  unfold jnV jnO
  rw [if_neg this, if_neg this]
  exact ⟨rfl, rfl⟩
section
variable {lx : am_Lx} {d : Nat} {h : am_H} {Q : am_Q} {r : Rs}
theorem sp_112 (hd : 3 ≤ d) {k p : Nat} (hk : k < 2) (hI : RdR h r) (hP : PIr p r) (hp : p < 24) (hno : ¬ (r.v 0 = 3 ∨ r.v 0 = 4) → Q (some (.int 0)) h) (hyes : ∀ h', (r.v 0 = 3 ∨ r.v 0 = 4) → am_fr rdP h h' → RdR h' (rMark k r) → Q (some (.int 1)) h') : am_KA lx d 112 [.ref 3, .int (nI k)] h Q := by
  obtain ⟨h1, ⟨f2, h2, g2⟩, ⟨f3, h3, g3⟩, ⟨f9, h9, g9⟩, h5⟩ := id hI
  obtain ⟨p0, p1, p2, p3, p4, p5, p6, p7, p8, p9, p10, p11⟩ := id hP
  obtain ⟨e, rfl⟩ : ∃ e, d = e + 1 := ⟨d - 1, by omega⟩
  have G : am_GK (am_KA lx e) cd_112 := ⟨am_KA_m lx e, cm_112⟩
  refine am_KA_in (by decide) (Nat.le_of_ble_eq_true rfl) ?_
  show am_Go (am_KA lx e) (am_fetch cd_112) Q 0 [some (.ref 3), some (.int (nI k))] [] h 0 0
  have fin : ∀ (hb : am_H) (r1 : Rs), am_fr rdP h hb → RdR hb r1 → (r.v 0 = 3 ∨ r.v 0 = 4) → rMark k r = ⟨uN (uN r1.v 0 3) 3 1, r1.sk, r1.ma, r1.mo, r1.cd, r1.od⟩ → am_Go (am_KA lx e) (am_fetch cd_112) Q 105 [some (.ref 3), some (.int (nI k))] [] hb 0 0 := by
    intro hb r1 hfb hIb hs he
    have b1 := hIb.1
    refine r_ra G (pn := 106) rfl rfl rfl ?_
    refine r_ic G (pn := 107) rfl rfl  ?_
    refine r_inv2 G (pn := 110) rfl rfl b1 (Nat.le_of_ble_eq_true rfl) (Nat.le_of_ble_eq_true rfl) (Nat.le_of_ble_eq_true rfl) (sp_108 (s := 3) (by omega) hIb (fun h' hf' hI' => ?_))
    show am_Go (am_KA lx e) (am_fetch cd_112) Q 110 [some (.ref 3), some (.int (nI k))] [] h' 0 0
    refine r_ic G (pn := 111) rfl rfl  ?_
    refine r_iret G rfl (by decide) (hyes h' hs (hfb.tr hf') ?_)
    rw [he]
    exact hI'
  have main : (r.v 0 = 3 ∨ r.v 0 = 4) → am_Go (am_KA lx e) (am_fetch cd_112) Q 18 [some (.ref 3), some (.int (nI k))] [] h 0 0 := by
    intro hs
    have hv1 : 1 ≤ r.v 2 := p6 (by omega)
    refine r_ra G (pn := 19) rfl rfl rfl ?_
    refine r_get G (pn := 22) rfl rfl (by first | assumption | (repeat (first | assumption | exact am_eq (by first | assumption | exact am_eq (by assumption) | exact am_ne (by first | decide | omega) (by assumption)) | refine am_ne (by first | decide | omega) ?_))) rfl ?_
    refine r_il G (pn := 23) rfl rfl rfl ?_
    refine r_ialdN G (pn := 24) rfl rfl h3 hk (by omega) ?_
    refine r_ic G (pn := 25) rfl rfl  ?_
    rw [g3 k hk]
    refine r_if2 G (pn := 28) rfl rfl (fun c25 => ?_) (fun c25 => ?_)
    · have z0 : r.ma k ≠ 0 := fun z => c25 (by rw [z]; rfl)
      obtain ⟨w, hw⟩ : ∃ w, r.ma k = w + 1 := ⟨r.ma k - 1, by omega⟩
      obtain ⟨u, hu⟩ : ∃ u, r.v 2 = u + 1 := ⟨r.v 2 - 1, by omega⟩
      have hwn := (p8 k hk).1
      have t77 : ∀ x : Nat, x ≤ 1 → (x = if r.mo k = r.v 3 then r.v 4 else 1) → am_Go (am_KA lx e) (am_fetch cd_112) Q 77 [some (.ref 3), some (.int (nI k))] [.int (nI x), .ref 3] h 0 0 := by
        intro x hx he
        refine r_putz G (pn := 80) rfl rfl h1 (Nat.le_of_ble_eq_true rfl) (by rcases (show x = 0 ∨ x = 1 by omega) with z | z <;> subst z <;> first | exact Or.inl rfl | exact Or.inr rfl) ?_
        refine r_ra G (pn := 81) rfl rfl rfl ?_
        refine r_ra G (pn := 82) rfl rfl rfl ?_
        refine r_get G (pn := 85) rfl rfl (by first | assumption | (repeat (first | assumption | exact am_eq (by first | assumption | exact am_eq (by assumption) | exact am_ne (by first | decide | omega) (by assumption)) | refine am_ne (by first | decide | omega) ?_))) rfl ?_
        have hJ : RdI (h.set 3 (rdV (uN r.v 4 x))) (uN r.v 4 x) r.sk r.ma r.mo r.cd r.od := hI.num (v' := uN r.v 4 x) rfl rfl
        show am_Go (am_KA lx e) (am_fetch cd_112) Q 85 [some (.ref 3), some (.int (nI k))] [.ref 33, .ref 3] (h.set 3 (rdV (uN r.v 4 x))) 0 0
        refine r_il G (pn := 86) rfl rfl rfl ?_
        refine r_ialdN G (pn := 87) rfl rfl (am_ne (by decide) h3) hk (by omega) ?_
        refine r_ra G (pn := 88) rfl rfl rfl ?_
        refine r_get G (pn := 91) rfl rfl (am_eq h1) rfl ?_
        refine r_ra G (pn := 92) rfl rfl rfl ?_
        refine r_get G (pn := 95) rfl rfl (am_eq h1) rfl ?_
        rw [g3 k hk]
        show am_Go (am_KA lx e) (am_fetch cd_112) Q 95 [some (.ref 3), some (.int (nI k))] [.int (nI (r.v 3)), .int (nI (r.v 2) - 1), .int (nI (r.ma k) - 1), .ref 3] (h.set 3 (rdV (uN r.v 4 x))) 0 0
        rw [hw, hu, nI_pred, nI_pred]
        refine r_inv4 G (pn := 98) rfl rfl (am_eq h1) (Nat.le_of_ble_eq_true rfl) (Nat.le_of_ble_eq_true rfl) (Nat.le_of_ble_eq_true rfl) (sp_115 (by omega) hJ (by show r.v 5 ≤ 24; omega) (by show w < r.v 5; omega) (by show u < r.v 5; omega) (fun i j hi hj => (p10 i j hi hj).1) (fun h' hf' hI' => ?_))
        obtain ⟨i1, ⟨f2', i2, j2⟩, ⟨f3', i3, j3⟩, ⟨f9', i9, j9⟩, i5⟩ := id hI'
        show am_Go (am_KA lx e) (am_fetch cd_112) Q 98 [some (.ref 3), some (.int (nI k))] [] h' 0 0
        refine r_ra G (pn := 99) rfl rfl rfl ?_
        refine r_get G (pn := 102) rfl rfl (by first | assumption | (repeat (first | assumption | exact am_eq (by first | assumption | exact am_eq (by assumption) | exact am_ne (by first | decide | omega) (by assumption)) | refine am_ne (by first | decide | omega) ?_))) rfl ?_
        refine r_il G (pn := 103) rfl rfl rfl ?_
        refine r_ic G (pn := 104) rfl rfl  ?_
        refine r_iastN G (pn := 105) rfl rfl i3 hk (by omega) ?_
        refine fin _ ⟨jnV (uN r.v 4 x) r.od w u, r.sk, uN r.ma k 0, r.mo, r.cd, jnO r.od w u (r.v 3)⟩ (((am_fr.rf.put ⟨by omega, by omega⟩).tr hf').put ⟨by omega, by omega⟩) ⟨am_ne (by decide) i1, ⟨f2', am_ne (by decide) i2, j2⟩, ⟨_, am_eq i3, fun i hi => ?_⟩, ⟨f9', am_ne (by decide) i9, fun i hi hz => ?_⟩, i5.fr (P := fun i => i = 33) (am_fr.rf.put rfl) (fun i hi => by have := hi.2; omega)⟩ hs ?_
        · show upd f3' k (-1) i = nI (uN r.ma k 0 i) - 1
          by_cases z : i = k
          · rw [z, pk_us, uN_s]; rfl
          · rw [pk_un z, uN_n z]
            exact j3 i hi
        · have hz : uN r.ma k 0 i ≠ 0 := hz
          by_cases z : i = k
          · rw [z, uN_s] at hz; exact absurd rfl hz
          · rw [uN_n z] at hz
            exact j9 i hi hz
        · unfold rMark
          rw [if_neg z0, hw, hu, Nat.add_sub_cancel, Nat.add_sub_cancel]
          have e4 : uN r.v 4 x = if r.mo k = r.v 3 then r.v else uN r.v 4 1 := by
            rw [he]
            split
            · funext i
              by_cases z : i = 4
              · rw [z, uN_s]
              · rw [uN_n z]
            · rfl
          rw [e4]
      refine r_ra G (pn := 52) rfl rfl rfl ?_
      refine r_ra G (pn := 53) rfl rfl rfl ?_
      refine r_get G (pn := 56) rfl rfl (by first | assumption | (repeat (first | assumption | exact am_eq (by first | assumption | exact am_eq (by assumption) | exact am_ne (by first | decide | omega) (by assumption)) | refine am_ne (by first | decide | omega) ?_))) rfl ?_
      show am_Go (am_KA lx e) (am_fetch cd_112) Q 56 [some (.ref 3), some (.int (nI k))] [.int (nI (r.v 4)), .ref 3] h 0 0
      refine r_if1 G (pn := 59) rfl rfl (fun c56 => ?_) (fun c56 => ?_)
      · have z4 : r.v 4 = 1 := by
          have : r.v 4 ≠ 0 := fun z => c56 (by rw [z]; rfl)
          omega
        refine r_ic G (pn := 73) rfl rfl  ?_
        refine r_goto G rfl ?_
        exact t77 1 (by omega) (by rw [z4]; split <;> rfl)
      · have z4 : r.v 4 = 0 := (nI_eq (b := 0) (by omega) (by omega)).mp (Classical.byContradiction c56)
        refine r_ra G (pn := 60) rfl rfl rfl ?_
        refine r_get G (pn := 63) rfl rfl (by first | assumption | (repeat (first | assumption | exact am_eq (by first | assumption | exact am_eq (by assumption) | exact am_ne (by first | decide | omega) (by assumption)) | refine am_ne (by first | decide | omega) ?_))) rfl ?_
        refine r_il G (pn := 64) rfl rfl rfl ?_
        refine r_ialdN G (pn := 65) rfl rfl h9 hk (by omega) ?_
        refine r_ra G (pn := 66) rfl rfl rfl ?_
        refine r_get G (pn := 69) rfl rfl (by first | assumption | (repeat (first | assumption | exact am_eq (by first | assumption | exact am_eq (by assumption) | exact am_ne (by first | decide | omega) (by assumption)) | refine am_ne (by first | decide | omega) ?_))) rfl ?_
        rw [g9 k hk z0]
        show am_Go (am_KA lx e) (am_fetch cd_112) Q 69 [some (.ref 3), some (.int (nI k))] [.int (nI (r.v 3)), .int (nI (r.mo k)), .ref 3] h 0 0
        have := (p8 k hk).2
        refine r_if2 G (pn := 72) rfl rfl (fun c69 => ?_) (fun c69 => ?_)
        · have zm : r.mo k = r.v 3 := (nI_eq (by omega) (by omega)).mp c69
          refine r_ic G (pn := 77) rfl rfl  ?_
          exact t77 0 (by omega) (by rw [if_pos zm, z4])
        · have zm : ¬ r.mo k = r.v 3 := fun z => c69 (by rw [z])
          refine r_ic G (pn := 73) rfl rfl  ?_
          refine r_goto G rfl ?_
          exact t77 1 (by omega) (by rw [if_neg zm])
    · have z0 : r.ma k = 0 := (nI_m1 (by have := (p8 k hk).1; omega)).mp (Classical.byContradiction c25)
      refine r_ra G (pn := 29) rfl rfl rfl ?_
      refine r_get G (pn := 32) rfl rfl (by first | assumption | (repeat (first | assumption | exact am_eq (by first | assumption | exact am_eq (by assumption) | exact am_ne (by first | decide | omega) (by assumption)) | refine am_ne (by first | decide | omega) ?_))) rfl ?_
      refine r_il G (pn := 33) rfl rfl rfl ?_
      refine r_ra G (pn := 34) rfl rfl rfl ?_
      refine r_get G (pn := 37) rfl rfl (by first | assumption | (repeat (first | assumption | exact am_eq (by first | assumption | exact am_eq (by assumption) | exact am_ne (by first | decide | omega) (by assumption)) | refine am_ne (by first | decide | omega) ?_))) rfl ?_
      refine r_iastN G (pn := 38) rfl rfl h3 hk (by omega) ?_
      refine r_ra G (pn := 39) rfl rfl rfl ?_
      refine r_get G (pn := 42) rfl rfl (am_ne (by decide) h1) rfl ?_
      refine r_il G (pn := 43) rfl rfl rfl ?_
      refine r_ra G (pn := 44) rfl rfl rfl ?_
      refine r_get G (pn := 47) rfl rfl (am_ne (by decide) h1) rfl ?_
      refine r_iastN G (pn := 48) rfl rfl (am_ne (by decide) h9) hk (by omega) ?_
      refine r_goto G rfl ?_
      refine fin _ ⟨r.v, r.sk, uN r.ma k (r.v 2), uN r.mo k (r.v 3), r.cd, r.od⟩ ((am_fr.rf.put ⟨by omega, by omega⟩).put ⟨by omega, by omega⟩) ⟨am_ne (by decide) (am_ne (by decide) h1), ⟨f2, am_ne (by decide) (am_ne (by decide) h2), g2⟩, ⟨_, am_ne (by decide) (am_eq h3), fun i hi => ?_⟩, ⟨_, am_eq (am_ne (by decide) h9), fun i hi hz => ?_⟩, h5.fr (P := fun i => i = 33 ∨ i = 34) ((am_fr.rf.put (Or.inl rfl)).put (Or.inr rfl)) (fun i hi => by have := hi.2; omega)⟩ hs ?_
      · show upd f3 k (nI (r.v 2) - 1) i = nI (uN r.ma k (r.v 2) i) - 1
        by_cases z : i = k
        · rw [z, pk_us, uN_s]
        · rw [pk_un z, uN_n z]
          exact g3 i hi
      · show upd f9 k (nI (r.v 3)) i = nI (uN r.mo k (r.v 3) i)
        have hz : uN r.ma k (r.v 2) i ≠ 0 := hz
        by_cases z : i = k
        · rw [z, pk_us, uN_s]
        · rw [pk_un z, uN_n z]
          rw [uN_n z] at hz
          exact g9 i hi hz
      · unfold rMark
        rw [if_pos z0]
  refine r_ra G (pn := 1) rfl rfl rfl ?_
  refine r_get G (pn := 4) rfl rfl (by first | assumption | (repeat (first | assumption | exact am_eq (by first | assumption | exact am_eq (by assumption) | exact am_ne (by first | decide | omega) (by assumption)) | refine am_ne (by first | decide | omega) ?_))) rfl ?_
  refine r_ic G (pn := 5) rfl rfl  ?_
  show am_Go (am_KA lx e) (am_fetch cd_112) Q 5 [some (.ref 3), some (.int (nI k))] [.int 3, .int (nI (r.v 0))] h 0 0
  refine r_if2 G (pn := 8) rfl rfl (fun c5 => ?_) (fun c5 => ?_)
  · exact main (Or.inl ((nI_eq (b := 3) (by omega) (by omega)).mp c5))
  · refine r_ra G (pn := 9) rfl rfl rfl ?_
    refine r_get G (pn := 12) rfl rfl (by first | assumption | (repeat (first | assumption | exact am_eq (by first | assumption | exact am_eq (by assumption) | exact am_ne (by first | decide | omega) (by assumption)) | refine am_ne (by first | decide | omega) ?_))) rfl ?_
    refine r_ic G (pn := 13) rfl rfl  ?_
    show am_Go (am_KA lx e) (am_fetch cd_112) Q 13 [some (.ref 3), some (.int (nI k))] [.int 4, .int (nI (r.v 0))] h 0 0
    refine r_if2 G (pn := 16) rfl rfl (fun c13 => ?_) (fun c13 => ?_)
    · exact main (Or.inr ((nI_eq (b := 4) (by omega) (by omega)).mp c13))
    · refine r_ic G (pn := 17) rfl rfl  ?_
      refine r_iret G rfl (by decide) (hno (fun z => z.elim (fun z => c5 (by rw [z]; rfl)) (fun z => c13 (by rw [z]; rfl))))
end
