abbrev pO (jc k : Nat) : am_C := .inr (6, [.ref 62, .ref 63, .int (nI jc), .int (nI k)])
def pdP (i : Nat) : Prop := 61 ≤ i ∧ i ≤ 63
theorem tb_or {T k x : Nat} : (T ||| 2 ^ k).testBit x = true ↔ (T.testBit x = true ∨ x = k) := by
  rw [Nat.testBit_or, Nat.testBit_two_pow, Bool.or_eq_true, decide_eq_true_iff]
  exact ⟨fun z => z.elim Or.inl (fun y => Or.inr y.symm), fun z => z.elim Or.inl (fun y => Or.inr y.symm)⟩
section
variable {lx : am_Lx} {d : Nat} {h : am_H} {Q : am_Q}
theorem sp_97 (hd : 1 ≤ d) {n a jc0 k0 : Nat} {cd : Nat → Nat} {od : Nat → Nat → Nat} {fj : Nat → Int32} (hG : GrI 44 10 h n cd od) (hn : n ≤ 10) (ho : ∀ i j, i < n → j < n → od i j < 4) (h61 : h[61]? = some (pO jc0 k0)) (h63 : h[63]? = some (aI 10 fj)) (ha : a < n)
    (hq : ∀ h' J cnt T f, (∀ i, i ≠ 61 → i ≠ 63 → h'[i]? = h[i]?) → h'[61]? = some (pO cnt k0) → h'[63]? = some (aI 10 f) → (∀ q, q < cnt → f q = nI (J q)) → CompE n od a J cnt → T < 1024 → (∀ x, x < 10 → (T.testBit x = true ↔ (x < n ∧ Rch n od a x))) → Q (some (.int (nI T))) h') : am_KA lx d 97 [.ref 61, .ref 44, .int (nI a)] h Q := by
  obtain ⟨h44, -, ⟨r46, h46, g46⟩, hrow, -⟩ := id hG
  obtain ⟨e, rfl⟩ : ∃ e, d = e + 1 := ⟨d - 1, by omega⟩
  have G : am_GK (am_KA lx e) cd_97 := ⟨am_KA_m lx e, cm_97⟩
  refine am_KA_in (by decide) (Nat.le_of_ble_eq_true rfl) ?_
  show am_Go (am_KA lx e) (am_fetch cd_97) Q 0 [some (.ref 61), some (.ref 44), some (.int (nI a)), none, none, none, none] [] h 0 0
  refine r_ic G (pn := 1) rfl rfl  ?_
  refine r_il G (pn := 2) rfl rfl rfl ?_
  refine r_ib G (pn := 3) rfl rfl  ?_
  rw [am_shl1 a (by omega)]
  refine r_is G (pn := 4) rfl rfl (Nat.le_of_ble_eq_true rfl) ?_
  refine r_ra G (pn := 5) rfl rfl rfl ?_
  refine r_get G (pn := 8) rfl rfl (by first | assumption | (repeat (first | assumption | exact am_eq (by first | assumption | exact am_eq (by assumption) | exact am_ne (by first | decide | omega) (by assumption)) | refine am_ne (by first | decide | omega) ?_))) rfl ?_
  refine r_ic G (pn := 9) rfl rfl  ?_
  refine r_il G (pn := 10) rfl rfl rfl ?_
  refine r_iastN G (pn := 11) rfl rfl (j := 0) h63 (by omega) (by omega) ?_
  refine r_ra G (pn := 12) rfl rfl rfl ?_
  refine r_ic G (pn := 13) rfl rfl  ?_
  refine r_puti G (pn := 16) rfl rfl (am_ne (by decide) h61) (Nat.le_of_ble_eq_true rfl) ?_
  refine r_ic G (pn := 17) rfl rfl  ?_
  refine r_is G (pn := 19) rfl rfl (Nat.le_of_ble_eq_true rfl) ?_
  -- the invariant
  have lp : ∀ (z k : Nat) (h' : am_H) (J : Nat → Nat) (cnt T : Nat) (f : Nat → Int32) (y5 y6 : Option Value), k + z = 11 → k ≤ cnt → 1 ≤ cnt → (∀ i, i ≠ 61 → i ≠ 63 → h'[i]? = h[i]?) → h'[61]? = some (pO cnt k0) → h'[63]? = some (aI 10 f) → (∀ q, q < cnt → f q = nI (J q)) → (∀ q, q < cnt → J q < n ∧ Rch n od a (J q)) → (∀ p q, p < cnt → q < cnt → J p = J q → p = q) → T < 1024 → (∀ x, x < 10 → (T.testBit x = true ↔ ∃ q, q < cnt ∧ J q = x)) → (∃ q, q < cnt ∧ J q = a) → (∀ q, q < k → ∀ x, x < n → od (J q) x ≠ 0 → ∃ p, p < cnt ∧ J p = x) → am_Go (am_KA lx e) (am_fetch cd_97) Q 19 [some (.ref 61), some (.ref 44), some (.int (nI a)), some (.int (nI T)), some (.int (nI k)), y5, y6] [] h' 0 0 := by
    intro z
    induction z with
    | zero =>
      intro k h' J cnt T f y5 y6 hk hkc hc1 hh k61 k63 gf hJ hJi hT hTb hA hcl
      have := inj_le (fun q hq => (hJ q hq).1) hJi
      omega
    | succ z ih =>
      intro k h' J cnt T f y5 y6 hk hkc hc1 hh k61 k63 gf hJ hJi hT hTb hA hcl
      have hcn := inj_le (fun q hq => (hJ q hq).1) hJi
      have k44 : h'[44]? = _ := (hh 44 (by omega) (by omega)).trans h44
      have k46 := (hh 46 (by omega) (by omega)).trans h46
      have done : k = cnt → am_Go (am_KA lx e) (am_fetch cd_97) Q 120 [some (.ref 61), some (.ref 44), some (.int (nI a)), some (.int (nI T)), some (.int (nI k)), y5, y6] [] h' 0 0 := by
        intro hkc2
        have comp : CompE n od a J cnt := by
          refine ⟨hJ, hJi, fun x hx hr => ?_⟩
          refine hr (fun x => ∃ q, q < cnt ∧ J q = x) (fun i j hi hj ⟨q, q1, q2⟩ hij => ?_) hA
          exact hcl q (by omega) j hj (by rw [q2]; exact hij)
        refine r_il G (pn := 121) rfl rfl rfl ?_
        refine r_iret G rfl rfl (hq h' J cnt T f hh k61 k63 gf comp hT (fun x hx => ?_))
        rw [hTb x hx]
        constructor
        · rintro ⟨q, q1, q2⟩
          rw [← q2]
          exact hJ q q1
        · rintro ⟨x1, x2⟩
          exact comp.2.2 x x1 x2
      refine r_il G (pn := 21) rfl rfl rfl ?_
      refine r_ra G (pn := 22) rfl rfl rfl ?_
      refine r_get G (pn := 25) rfl rfl (by first | assumption | (repeat (first | assumption | exact am_eq (by first | assumption | exact am_eq (by assumption) | exact am_ne (by first | decide | omega) (by assumption)) | refine am_ne (by first | decide | omega) ?_))) rfl ?_
      refine r_if2 G (pn := 28) rfl rfl (fun c25 => ?_) (fun c25 => ?_)
      · exact done (by have := (nI_leI (by omega) (by omega)).mp c25; omega)
      have hlt : k < cnt := Nat.not_le.mp (fun y => c25 ((nI_leI (by omega) (by omega)).mpr y))
      refine r_il G (pn := 30) rfl rfl rfl ?_
      refine r_ra G (pn := 31) rfl rfl rfl ?_
      refine r_get G (pn := 34) rfl rfl k44 rfl ?_
      refine r_if2 G (pn := 37) rfl rfl (fun c34 => ?_) (fun c34 => ?_)
      · have := (nI_leI (by omega) (by omega)).mp c34
        omega
      obtain ⟨jn, jr⟩ := hJ k hlt
      obtain ⟨fr, hr1, -, hr2⟩ := hrow (J k) (by omega)
      have kr : h'[44 + 3 + J k]? = some (aI 10 fr) := (hh _ (by omega) (by omega)).trans hr1
      refine r_ra G (pn := 38) rfl rfl rfl ?_
      refine r_get G (pn := 41) rfl rfl k44 rfl ?_
      refine r_ra G (pn := 42) rfl rfl rfl ?_
      refine r_get G (pn := 45) rfl rfl (by first | assumption | (repeat (first | assumption | exact am_eq (by first | assumption | exact am_eq (by assumption) | exact am_ne (by first | decide | omega) (by assumption)) | refine am_ne (by first | decide | omega) ?_))) rfl ?_
      refine r_il G (pn := 47) rfl rfl rfl ?_
      refine r_ialdN G (pn := 48) rfl rfl k63 (by omega) (by omega) ?_
      rw [gf k hlt]
      refine r_raldN G (pn := 49) rfl rfl k46 (by omega) (by omega) (g46 (J k) (by omega)) ?_
      refine r_rs G (pn := 51) rfl rfl (Nat.le_of_ble_eq_true rfl) ?_
      refine r_ic G (pn := 52) rfl rfl  ?_
      refine r_is G (pn := 54) rfl rfl (Nat.le_of_ble_eq_true rfl) ?_
      have inner : ∀ (z2 b : Nat) (h' : am_H) (J : Nat → Nat) (cnt T : Nat) (f : Nat → Int32), b + z2 = n → k < cnt → (∀ i, i ≠ 61 → i ≠ 63 → h'[i]? = h[i]?) → h'[61]? = some (pO cnt k0) → h'[63]? = some (aI 10 f) → (∀ q, q < cnt → f q = nI (J q)) → (∀ q, q < cnt → J q < n ∧ Rch n od a (J q)) → (∀ p q, p < cnt → q < cnt → J p = J q → p = q) → T < 1024 → (∀ x, x < 10 → (T.testBit x = true ↔ ∃ q, q < cnt ∧ J q = x)) → (∃ q, q < cnt ∧ J q = a) → (∀ q, q < k → ∀ x, x < n → od (J q) x ≠ 0 → ∃ p, p < cnt ∧ J p = x) → h'[44 + 3 + J k]? = some (aI 10 fr) → (∀ j, J k < n → j < n → fr j = nI (od (J k) j)) → (∀ x, x < b → od (J k) x ≠ 0 → ∃ p, p < cnt ∧ J p = x) → am_Go (am_KA lx e) (am_fetch cd_97) Q 54 [some (.ref 61), some (.ref 44), some (.int (nI a)), some (.int (nI T)), some (.int (nI k)), some (.ref (44 + 3 + J k)), some (.int (nI b))] [] h' 0 0 := by
        intro z2
        induction z2 with
        | zero =>
          intro b h' J cnt T f hb hlt hh k61 k63 gf hJ hJi hT hTb hA hcl kr hr2 hnb
          obtain rfl : b = n := by omega
          have k44 : h'[44]? = _ := (hh 44 (by omega) (by omega)).trans h44
          refine r_il G (pn := 56) rfl rfl rfl ?_
          refine r_ra G (pn := 57) rfl rfl rfl ?_
          refine r_get G (pn := 60) rfl rfl k44 rfl ?_
          refine r_if2 G (pn := 63) rfl rfl (fun c60 => ?_) (fun c60 => ?_)
          rotate_left
          · exact absurd (Int32.le_refl _) c60
          refine r_inc G (pn := 117) rfl rfl rfl (Nat.le_of_ble_eq_true rfl) ?_
          refine r_goto G rfl ?_
          rw [nI_1]
          refine ih (k + 1) h' J cnt T f _ _ (by omega) (by omega) (by omega) hh k61 k63 gf hJ hJi hT hTb hA (fun q hq x hx hne => ?_)
          by_cases y : q = k
          · rw [y] at hne; exact hnb x hx hne
          · exact hcl q (by omega) x hx hne
        | succ z2 ih2 =>
          intro b h' J cnt T f hb hlt hh k61 k63 gf hJ hJi hT hTb hA hcl kr hr2 hnb
          have k44 : h'[44]? = _ := (hh 44 (by omega) (by omega)).trans h44
          have hcn := inj_le (fun q hq => (hJ q hq).1) hJi
          obtain ⟨jn, jr⟩ := hJ k hlt
          have o4 := ho (J k) b jn (by omega)
          refine r_il G (pn := 56) rfl rfl rfl ?_
          refine r_ra G (pn := 57) rfl rfl rfl ?_
          refine r_get G (pn := 60) rfl rfl k44 rfl ?_
          refine r_if2 G (pn := 63) rfl rfl (fun c60 => ?_) (fun c60 => ?_)
          · exact absurd ((nI_leI (by omega) (by omega)).mp c60) (by omega)
          refine r_ra G (pn := 65) rfl rfl rfl ?_
          refine r_il G (pn := 67) rfl rfl rfl ?_
          refine r_ialdN G (pn := 68) rfl rfl kr (by omega) (by omega) ?_
          rw [hr2 b jn (by omega)]
          refine r_if1 G (pn := 71) rfl rfl (fun c68 => ?_) (fun c68 => ?_)
          · have z0 : od (J k) b = 0 := (nI_eq (b := 0) (by omega) (by omega)).mp c68
            refine r_inc G (pn := 111) rfl rfl rfl (Nat.le_of_ble_eq_true rfl) ?_
            refine r_goto G rfl ?_
            rw [nI_1]
            refine ih2 (b + 1) h' J cnt T f (by omega) hlt hh k61 k63 gf hJ hJi hT hTb hA hcl kr hr2 (fun x hx hne => ?_)
            by_cases y : x = b
            · rw [y] at hne; exact absurd z0 hne
            · exact hnb x (by omega) hne
          have ne0 : od (J k) b ≠ 0 := fun y => c68 (by rw [y]; rfl)
          refine r_il G (pn := 72) rfl rfl rfl ?_
          refine r_il G (pn := 74) rfl rfl rfl ?_
          refine r_ib G (pn := 75) rfl rfl  ?_
          refine r_ic G (pn := 76) rfl rfl  ?_
          refine r_ib G (pn := 77) rfl rfl  ?_
          rw [am_bit (by omega) (by omega)]
          have tm : T / 2 ^ b % 2 < 2 := Nat.mod_lt _ (by decide)
          refine r_if1 G (pn := 80) rfl rfl (fun c77 => ?_) (fun c77 => ?_)
          · have tb : T.testBit b = true := (tb_div T b).mp (by
              have : T / 2 ^ b % 2 ≠ 0 := fun y => c77 (by rw [y]; rfl)
              omega)
            refine r_inc G (pn := 111) rfl rfl rfl (Nat.le_of_ble_eq_true rfl) ?_
            refine r_goto G rfl ?_
            rw [nI_1]
            refine ih2 (b + 1) h' J cnt T f (by omega) hlt hh k61 k63 gf hJ hJi hT hTb hA hcl kr hr2 (fun x hx hne => ?_)
            by_cases y : x = b
            · rw [y]; exact (hTb b (by omega)).mp tb
            · exact hnb x (by omega) hne
          · have tb : ¬ T.testBit b = true := fun y => by
              have := (tb_div T b).mpr y
              rw [this] at c77
              exact c77 (by decide)
            have nb : ¬ ∃ q, q < cnt ∧ J q = b := fun y => tb ((hTb b (by omega)).mpr y)
            have cntn : cnt < n := by
              -- b is not among them
              have := inj_le (n := n) (c := cnt + 1) (f := uN J cnt b) (fun q hq => by
                by_cases y : q = cnt
                · rw [y, uN_s]; omega
                · rw [uN_n y]; exact (hJ q (by omega)).1) (fun p q hp hq e => by
                by_cases yp : p = cnt
                · by_cases yq : q = cnt
                  · omega
                  · rw [yp, uN_s, uN_n yq] at e
                    exact absurd ⟨q, by omega, e.symm⟩ nb
                · by_cases yq : q = cnt
                  · rw [yq, uN_s, uN_n yp] at e
                    exact absurd ⟨p, by omega, e⟩ nb
                  · rw [uN_n yp, uN_n yq] at e
                    exact hJi p q (by omega) (by omega) e)
              omega
            have p2 : (2 : Nat) ^ b ≤ 512 := by
              have : (2 : Nat) ^ b ≤ 2 ^ 9 := Nat.pow_le_pow_right (by decide) (by omega)
              exact this
            have Tlt : T ||| 2 ^ b < 1024 := Nat.or_lt_two_pow (n := 10) hT (by omega)
            refine r_il G (pn := 81) rfl rfl rfl ?_
            refine r_ic G (pn := 82) rfl rfl  ?_
            refine r_il G (pn := 84) rfl rfl rfl ?_
            refine r_ib G (pn := 85) rfl rfl  ?_
            rw [am_shl1 b (by omega)]
            refine r_ib G (pn := 86) rfl rfl  ?_
            rw [am_nI_or (by omega) (by omega)]
            refine r_is G (pn := 87) rfl rfl (Nat.le_of_ble_eq_true rfl) ?_
            refine r_ra G (pn := 88) rfl rfl rfl ?_
            refine r_get G (pn := 91) rfl rfl (by first | assumption | (repeat (first | assumption | exact am_eq (by first | assumption | exact am_eq (by assumption) | exact am_ne (by first | decide | omega) (by assumption)) | refine am_ne (by first | decide | omega) ?_))) rfl ?_
            refine r_ra G (pn := 92) rfl rfl rfl ?_
            refine r_get G (pn := 95) rfl rfl (by first | assumption | (repeat (first | assumption | exact am_eq (by first | assumption | exact am_eq (by assumption) | exact am_ne (by first | decide | omega) (by assumption)) | refine am_ne (by first | decide | omega) ?_))) rfl ?_
            refine r_il G (pn := 97) rfl rfl rfl ?_
            refine r_iastN G (pn := 98) rfl rfl k63 (by omega) (by omega) ?_
            refine r_ra G (pn := 99) rfl rfl rfl ?_
            refine r_dup G (pn := 100) rfl rfl rfl ?_
            refine r_get G (pn := 103) rfl rfl (am_ne (by decide) k61) rfl ?_
            refine r_ic G (pn := 104) rfl rfl  ?_
            refine r_ib G (pn := 105) rfl rfl  ?_
            rw [nI_1]
            refine r_puti G (pn := 108) rfl rfl (am_ne (by decide) k61) (Nat.le_of_ble_eq_true rfl) ?_
            refine r_inc G (pn := 111) rfl rfl rfl (Nat.le_of_ble_eq_true rfl) ?_
            refine r_goto G rfl ?_
            rw [nI_1]
            have hh2 : ∀ i, i ≠ 61 → i ≠ 63 → ((h'.set 63 (aI 10 (upd f cnt (nI b)))).set 61 (pO (cnt + 1) k0))[i]? = h[i]? := fun i h1 h2 => by
              rw [List.getElem?_set_ne (fun y => h1 y.symm), List.getElem?_set_ne (fun y => h2 y.symm)]
              exact hh i h1 h2
            have eJ : ∀ q, q < cnt → uN J cnt b q = J q := fun q hq => uN_n (by omega)
            have ek : uN J cnt b k = J k := eJ k hlt
            have st := ih2 (b + 1) _ (uN J cnt b) (cnt + 1) (T ||| 2 ^ b) (upd f cnt (nI b)) (by omega) (by omega) hh2 (am_eq (am_ne (by decide) k61)) (am_ne (by decide) (am_eq k63)) (fun q hq => by
                by_cases y : q = cnt
                · rw [y, pk_us, uN_s]
                · rw [pk_un y, uN_n y]; exact gf q (by omega)) (fun q hq => by
                by_cases y : q = cnt
                · rw [y, uN_s]; exact ⟨by omega, jr.st jn (by omega) ne0⟩
                · rw [uN_n y]; exact hJ q (by omega)) (fun p q hp hq e => by
                by_cases yp : p = cnt
                · by_cases yq : q = cnt
                  · omega
                  · rw [yp, uN_s, uN_n yq] at e
                    exact absurd ⟨q, by omega, e.symm⟩ nb
                · by_cases yq : q = cnt
                  · rw [yq, uN_s, uN_n yp] at e
                    exact absurd ⟨p, by omega, e⟩ nb
                  · rw [uN_n yp, uN_n yq] at e
                    exact hJi p q (by omega) (by omega) e) Tlt (fun x hx => by
                rw [tb_or, hTb x hx]
                constructor
                · rintro (⟨q, q1, q2⟩ | y)
                  · exact ⟨q, by omega, by rw [uN_n (by omega)]; exact q2⟩
                  · exact ⟨cnt, by omega, by rw [uN_s, y]⟩
                · rintro ⟨q, q1, q2⟩
                  by_cases y : q = cnt
                  · rw [y, uN_s] at q2; exact Or.inr q2.symm
                  · rw [uN_n y] at q2; exact Or.inl ⟨q, by omega, q2⟩) (by
                obtain ⟨q, q1, q2⟩ := hA
                exact ⟨q, by omega, by rw [uN_n (by omega)]; exact q2⟩) (fun q hq x hx hne => by
                rw [eJ q (by omega)] at hne
                obtain ⟨p, p1, p2⟩ := hcl q hq x hx hne
                exact ⟨p, by omega, by rw [uN_n (by omega)]; exact p2⟩) (by rw [ek]; exact am_ne (by omega) (am_ne (by omega) kr)) (by rw [ek]; exact hr2) (fun x hx hne => by
                rw [ek] at hne
                by_cases y : x = b
                · exact ⟨cnt, by omega, by rw [uN_s, y]⟩
                · obtain ⟨p, p1, p2⟩ := hnb x (by omega) hne
                  exact ⟨p, by omega, by rw [uN_n (by omega)]; exact p2⟩)
            rw [ek] at st
            exact st
      exact inner n 0 h' J cnt T f (by omega) hlt hh k61 k63 gf hJ hJi hT hTb hA hcl kr hr2 (fun x hx => absurd hx (Nat.not_lt_zero x))
  have p2 : (2 : Nat) ^ a ≤ 512 := by
    have : (2 : Nat) ^ a ≤ 2 ^ 9 := Nat.pow_le_pow_right (by decide) (by omega)
    exact this
  refine lp 11 0 _ (fun _ => a) 1 (2 ^ a) _ _ _ (by omega) (by omega) (by omega) (fun i h1 h2 => ?_) (am_eq (am_ne (by decide) h61)) (am_ne (by decide) (am_eq h63)) (fun q hq => ?_) (fun q _ => ⟨ha, Rch.rf⟩) (fun p q hp hq _ => by omega) (by omega) (fun x hx => ?_) ⟨0, by omega, rfl⟩ (fun q hq => absurd hq (Nat.not_lt_zero q))
  · rw [List.getElem?_set_ne (fun y => h1 y.symm), List.getElem?_set_ne (fun y => h2 y.symm)]
  · rw [show q = 0 by omega, pk_us]
  · rw [Nat.testBit_two_pow, decide_eq_true_iff]
    exact ⟨fun y => ⟨0, by omega, y⟩, fun ⟨_, _, y⟩ => y⟩
end
