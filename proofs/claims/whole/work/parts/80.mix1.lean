def wN (w : Nat) : Nat := w / 1073741824
def wC (w i : Nat) : Nat := w / 2 ^ (20 + 2 * (w / 1073741824 - 1 - i)) % 4
def wO (w i j : Nat) : Nat := if i = j then 0 else w / 2 ^ (2 * ((w / 1073741824) * (w / 1073741824 - 1) / 2 - 1 - (max i j * (max i j - 1) / 2 + min i j))) % 4
theorem wO_s (w i j : Nat) : wO w i j = wO w j i := by
  unfold wO
  by_cases z : i = j
  · rw [if_pos z, if_pos z.symm]
  · rw [if_neg z, if_neg (fun y => z y.symm), Nat.max_comm, Nat.min_comm]
theorem wO_lt (w i j : Nat) : wO w i j < 4 := by
  unfold wO
  split
  · omega
  · exact Nat.mod_lt _ (by decide)
theorem wC_lt (w i : Nat) : wC w i < 4 := Nat.mod_lt _ (by decide)
theorem wO_d (w i : Nat) : wO w i i = 0 := if_pos rfl
/-- two molecules side by side -/
def mxC (na : Nat) (ca cb : Nat → Nat) : Nat → Nat := fun i => if i < na then ca i else cb (i - na)
def mxO (na : Nat) (oa ob : Nat → Nat → Nat) : Nat → Nat → Nat := fun i j => if i < na ∧ j < na then oa i j else if na ≤ i ∧ na ≤ j then ob (i - na) (j - na) else 0
abbrev xO (lb : Nat) : am_C := .inr (5, [.ref 44, .int (nI lb)])
def MxI (h : am_H) (n lb : Nat) (cd : Nat → Nat) (od : Nat → Nat → Nat) : Prop := h[43]? = some (xO lb) ∧ GrI 44 10 h n cd od
def mxP (i : Nat) : Prop := 43 ≤ i ∧ i ≤ 57
section
variable {lx : am_Lx} {d : Nat} {h : am_H} {Q : am_Q}
theorem sp_91 (hd : 2 ≤ d) {n lb : Nat} {cd : Nat → Nat} {od : Nat → Nat → Nat} (hI : MxI h n lb cd od) (hq : ∀ h', am_fr mxP h h' → (∀ cd od, MxI h' 0 lb cd od) → Q none h') : am_KA lx d 91 [.ref 43] h Q := by
  obtain ⟨h43, hG⟩ := hI
  obtain ⟨e, rfl⟩ : ∃ e, d = e + 1 := ⟨d - 1, by omega⟩
  have G : am_GK (am_KA lx e) cd_91 := ⟨am_KA_m lx e, cm_91⟩
  refine am_KA_in (by decide) (Nat.le_of_ble_eq_true rfl) ?_
  show am_Go (am_KA lx e) (am_fetch cd_91) Q 0 [some (.ref 43)] [] h 0 0
  refine r_ra G (pn := 1) rfl rfl rfl ?_
  refine r_get G (pn := 4) rfl rfl (by first | assumption | (repeat (first | assumption | exact am_eq (by first | assumption | exact am_eq (by assumption) | exact am_ne (by first | decide | omega) (by assumption)) | refine am_ne (by first | decide | omega) ?_))) rfl ?_
  refine r_inv1 G (pn := 7) rfl rfl hG.1 (Nat.le_of_ble_eq_true rfl) (Nat.le_of_ble_eq_true rfl) (Nat.le_of_ble_eq_true rfl) (sp_77 (by omega) hG (fun h' hf hJ => ?_))
  show am_Go (am_KA lx e) (am_fetch cd_91) Q 7 [some (.ref 43)] [] h' 0 0
  refine r_vret G rfl (hq h' (hf.wk (fun i hi => ⟨by have := hi.1; omega, by have := hi.2; omega⟩)) (fun cd od => ⟨hf.at (fun z => by have := z.1; omega) h43, hJ cd od⟩))
theorem sp_92 (hd : 3 ≤ d) {n lb w : Nat} {cd : Nat → Nat} {od : Nat → Nat → Nat} (hI : MxI h n lb cd od) (hw : w < 2 ^ 34) (h5 : wN w ≤ 5) (hn : n + wN w ≤ 10) (hq : ∀ h', am_fr mxP h h' → MxI h' (n + wN w) n (mxC n cd (wC w)) (mxO n od (wO w)) → Q none h') : am_KA lx d 92 [.ref 43, .long (lN w)] h Q := by
  obtain ⟨h43, hG⟩ := hI
  have h44 := hG.1
  have h5' : w / 1073741824 ≤ 5 := h5
  obtain ⟨e, rfl⟩ : ∃ e, d = e + 1 := ⟨d - 1, by omega⟩
  have G : am_GK (am_KA lx e) cd_92 := ⟨am_KA_m lx e, cm_92⟩
  refine am_KA_in (by decide) (Nat.le_of_ble_eq_true rfl) ?_
  show am_Go (am_KA lx e) (am_fetch cd_92) Q 0 [some (.ref 43), some (.long (lN w)), none, none, none, none, none] [] h 0 0
  refine r_ra G (pn := 1) rfl rfl rfl ?_
  refine r_ra G (pn := 2) rfl rfl rfl ?_
  refine r_get G (pn := 5) rfl rfl (by first | assumption | (repeat (first | assumption | exact am_eq (by first | assumption | exact am_eq (by assumption) | exact am_ne (by first | decide | omega) (by assumption)) | refine am_ne (by first | decide | omega) ?_))) rfl ?_
  refine r_get G (pn := 8) rfl rfl (by first | assumption | (repeat (first | assumption | exact am_eq (by first | assumption | exact am_eq (by assumption) | exact am_ne (by first | decide | omega) (by assumption)) | refine am_ne (by first | decide | omega) ?_))) rfl ?_
  refine r_puti G (pn := 11) rfl rfl (by first | assumption | (repeat (first | assumption | exact am_eq (by first | assumption | exact am_eq (by assumption) | exact am_ne (by first | decide | omega) (by assumption)) | refine am_ne (by first | decide | omega) ?_))) (Nat.le_of_ble_eq_true rfl) ?_
  refine r_ll G (pn := 12) rfl rfl rfl ?_
  have hG0 : GrI 44 10 (h.set 43 (xO n)) n cd od := hG.fr (P := fun i => i = 43) (am_fr.rf.put rfl) (fun i hi => by have := hi.1; omega)
  have q43 : (h.set 43 (xO n))[43]? = some (xO n) := am_eq h43
  have qf : am_fr mxP h (h.set 43 (xO n)) := am_fr.rf.put ⟨by omega, by omega⟩
  show am_Go (am_KA lx e) (am_fetch cd_92) Q 12 [some (.ref 43), some (.long (lN w)), none, none, none, none, none] [.long (lN w)] (h.set 43 (xO n)) 0 0
  generalize (h.set 43 (xO n) : am_H) = ha at hG0 q43 qf
  refine r_ins1 G (pn := 15) rfl rfl (Nat.le_of_ble_eq_true rfl) (Nat.le_of_ble_eq_true rfl) (Nat.le_of_ble_eq_true rfl) (sp_128 (by omega) hw ?_)
  show am_Go (am_KA lx e) (am_fetch cd_92) Q 15 [some (.ref 43), some (.long (lN w)), none, none, none, none, none] [.int (nI (wN w))] ha 0 0
  refine r_is G (pn := 16) rfl rfl (Nat.le_of_ble_eq_true rfl) ?_
  refine r_ic G (pn := 17) rfl rfl  ?_
  refine r_is G (pn := 19) rfl rfl (Nat.le_of_ble_eq_true rfl) ?_
  have lp : ∀ (k j : Nat) (h' : am_H) (y5 y6 : Option Value), j + k = wN w → am_fr mxP h h' → h'[43]? = some (xO n) → GrI 44 10 h' (n + j) (mxC n cd (wC w)) (mxO n od (wO w)) → am_Go (am_KA lx e) (am_fetch cd_92) Q 19 [some (.ref 43), some (.long (lN w)), none, some (.int (nI (wN w))), some (.int (nI j)), y5, y6] [] h' 0 0 := by
    intro k
    induction k with
    | zero =>
      intro j h' y5 y6 hj hf' k43 hG'
      obtain rfl : j = wN w := by omega
      refine r_il G (pn := 21) rfl rfl rfl ?_
      refine r_il G (pn := 22) rfl rfl rfl ?_
      refine r_if2 G (pn := 25) rfl rfl (fun c22 => ?_) (fun c22 => ?_)
      rotate_left
      · exact absurd (Int32.le_refl _) c22
      refine r_vret G rfl (hq h' hf' ⟨k43, hG'⟩)
    | succ k ih =>
      intro j h' y5 y6 hj hf' k43 hG'
      refine r_il G (pn := 21) rfl rfl rfl ?_
      refine r_il G (pn := 22) rfl rfl rfl ?_
      refine r_if2 G (pn := 25) rfl rfl (fun c22 => ?_) (fun c22 => ?_)
      · exact absurd ((nI_leI (by omega) (by omega)).mp c22) (by omega)
      refine r_ra G (pn := 26) rfl rfl rfl ?_
      refine r_get G (pn := 29) rfl rfl (by first | assumption | (repeat (first | assumption | exact am_eq (by first | assumption | exact am_eq (by assumption) | exact am_ne (by first | decide | omega) (by assumption)) | refine am_ne (by first | decide | omega) ?_))) rfl ?_
      refine r_ll G (pn := 30) rfl rfl rfl ?_
      refine r_il G (pn := 32) rfl rfl rfl ?_
      have hjw : j < w / 1073741824 := show j < wN w by omega
      refine r_ins2 G (pn := 35) rfl rfl (Nat.le_of_ble_eq_true rfl) (Nat.le_of_ble_eq_true rfl) (Nat.le_of_ble_eq_true rfl) (sp_129 (by omega) hw hjw h5' ?_)
      show am_Go (am_KA lx e) (am_fetch cd_92) Q 35 [some (.ref 43), some (.long (lN w)), none, some (.int (nI (wN w))), some (.int (nI j)), y5, y6] [.int (nI (wC w j)), .ref 44] h' 0 0
      refine r_inv2 G (pn := 38) rfl rfl hG'.1 (Nat.le_of_ble_eq_true rfl) (Nat.le_of_ble_eq_true rfl) (Nat.le_of_ble_eq_true rfl) (sp_78 (by omega) hG' (by omega) (by omega) (fun h2 hf2 hG2 => ?_))
      have hf2' : am_fr mxP h h2 := hf'.tr (hf2.wk (fun i hi => ⟨by have := hi.1; omega, by have := hi.2; omega⟩))
      have k43' : h2[43]? = some (xO n) := hf2.at (fun z => by have := z.1; omega) k43
      show am_Go (am_KA lx e) (am_fetch cd_92) Q 38 [some (.ref 43), some (.long (lN w)), none, some (.int (nI (wN w))), some (.int (nI j)), y5, y6] [.int (nI (n + j))] h2 0 0
      refine r_is G (pn := 40) rfl rfl (Nat.le_of_ble_eq_true rfl) ?_
      refine r_ic G (pn := 41) rfl rfl  ?_
      refine r_is G (pn := 43) rfl rfl (Nat.le_of_ble_eq_true rfl) ?_
      have inner : ∀ (k2 i : Nat) (h3 : am_H) (od3 : Nat → Nat → Nat), i + k2 = j → am_fr mxP h h3 → h3[43]? = some (xO n) → GrI 44 10 h3 (n + j + 1) (fun i => if i = n + j then wC w j else mxC n cd (wC w) i) od3 → (∀ a b, a < n + j → b < n + j → od3 a b = mxO n od (wO w) a b) → od3 (n + j) (n + j) = 0 → (∀ a, a < n → od3 a (n + j) = 0 ∧ od3 (n + j) a = 0) → (∀ a, a < i → od3 (n + a) (n + j) = wO w a j ∧ od3 (n + j) (n + a) = wO w a j) → am_Go (am_KA lx e) (am_fetch cd_92) Q 43 [some (.ref 43), some (.long (lN w)), none, some (.int (nI (wN w))), some (.int (nI j)), some (.int (nI (n + j))), some (.int (nI i))] [] h3 0 0 := by
        intro k2
        induction k2 with
        | zero =>
          intro i h3 od3 hi hf3 l43 hG3 e1 e2 e3 e4
          obtain rfl : i = j := by omega
          refine r_il G (pn := 45) rfl rfl rfl ?_
          refine r_il G (pn := 47) rfl rfl rfl ?_
          refine r_if2 G (pn := 50) rfl rfl (fun c47 => ?_) (fun c47 => ?_)
          rotate_left
          · exact absurd (Int32.le_refl _) c47
          refine r_inc G (pn := 89) rfl rfl rfl (Nat.le_of_ble_eq_true rfl) ?_
          refine r_goto G rfl ?_
          rw [nI_1]
          refine ih (i + 1) h3 _ _ (by omega) hf3 l43 (hG3.od (fun a ha => ?_) (fun a b ha hb => ?_))
          · by_cases z : a = n + i
            · rw [if_pos z, z]
              show (if n + i < n then _ else wC w (n + i - n)) = _
              rw [if_neg (by omega), Nat.add_sub_cancel_left]
            · rw [if_neg z]
          · have rw1 : ∀ x, x < n + i → mxO n od (wO w) x (n + i) = od3 x (n + i) ∧ mxO n od (wO w) (n + i) x = od3 (n + i) x := by
              intro x hx
              unfold mxO
              by_cases y : x < n
              · rw [if_neg (by omega), if_neg (by omega), if_neg (by omega), if_neg (by omega), (e3 x y).1, (e3 x y).2]
                exact ⟨rfl, rfl⟩
              · have q := e4 (x - n) (by omega)
                rw [show n + (x - n) = x by omega] at q
                rw [if_neg (by omega), if_pos (by omega), if_neg (by omega), if_pos (by omega), q.1, q.2, Nat.add_sub_cancel_left, wO_s w i (x - n)]
                exact ⟨rfl, rfl⟩
            by_cases za : a = n + i
            · by_cases zb : b = n + i
              · rw [za, zb, e2]
                unfold mxO
                rw [if_neg (by omega), if_pos (by omega), wO_d]
              · rw [za]; exact (rw1 b (by omega)).2
            · by_cases zb : b = n + i
              · rw [zb]; exact (rw1 a (by omega)).1
              · exact (e1 a b (by omega) (by omega)).symm
        | succ k2 ih2 =>
          intro i h3 od3 hi hf3 l43 hG3 e1 e2 e3 e4
          refine r_il G (pn := 45) rfl rfl rfl ?_
          refine r_il G (pn := 47) rfl rfl rfl ?_
          refine r_if2 G (pn := 50) rfl rfl (fun c47 => ?_) (fun c47 => ?_)
          · exact absurd ((nI_leI (by omega) (by omega)).mp c47) (by omega)
          refine r_il G (pn := 52) rfl rfl rfl ?_
          refine r_ic G (pn := 53) rfl rfl  ?_
          refine r_if2 G (pn := 56) rfl rfl (fun c53 => ?_) (fun c53 => ?_)
          · exact absurd c53 (fun z => by have := nI_pos (n := n + j) (by omega); rw [z] at this; exact absurd (by decide) this)
          refine r_ra G (pn := 57) rfl rfl rfl ?_
          refine r_get G (pn := 60) rfl rfl (by first | assumption | (repeat (first | assumption | exact am_eq (by first | assumption | exact am_eq (by assumption) | exact am_ne (by first | decide | omega) (by assumption)) | refine am_ne (by first | decide | omega) ?_))) rfl ?_
          refine r_ra G (pn := 61) rfl rfl rfl ?_
          refine r_get G (pn := 64) rfl rfl (by first | assumption | (repeat (first | assumption | exact am_eq (by first | assumption | exact am_eq (by assumption) | exact am_ne (by first | decide | omega) (by assumption)) | refine am_ne (by first | decide | omega) ?_))) rfl ?_
          refine r_il G (pn := 66) rfl rfl rfl ?_
          refine r_ib G (pn := 67) rfl rfl  ?_
          refine r_il G (pn := 69) rfl rfl rfl ?_
          refine r_ll G (pn := 70) rfl rfl rfl ?_
          refine r_il G (pn := 72) rfl rfl rfl ?_
          refine r_il G (pn := 74) rfl rfl rfl ?_
          rw [nI_add]
          refine r_ins3 G (pn := 77) rfl rfl (Nat.le_of_ble_eq_true rfl) (Nat.le_of_ble_eq_true rfl) (Nat.le_of_ble_eq_true rfl) (sp_130 (by omega) hw (show i < w / 1073741824 by omega) hjw h5' ?_)
          show am_Go (am_KA lx e) (am_fetch cd_92) Q 77 [some (.ref 43), some (.long (lN w)), none, some (.int (nI (wN w))), some (.int (nI j)), some (.int (nI (n + j))), some (.int (nI i))] [.int (nI (wO w i j)), .int (nI (n + j)), .int (nI (n + i)), .ref 44] h3 0 0
          refine r_inv4 G (pn := 80) rfl rfl hG3.1 (Nat.le_of_ble_eq_true rfl) (Nat.le_of_ble_eq_true rfl) (Nat.le_of_ble_eq_true rfl) (sp_79 (by omega) hG3 (by omega) (by omega) (by omega) (by omega) (fun h4 hf4 hG4 => ?_))
          show am_Go (am_KA lx e) (am_fetch cd_92) Q 80 [some (.ref 43), some (.long (lN w)), none, some (.int (nI (wN w))), some (.int (nI j)), some (.int (nI (n + j))), some (.int (nI i))] [] h4 0 0
          refine r_inc G (pn := 83) rfl rfl rfl (Nat.le_of_ble_eq_true rfl) ?_
          refine r_goto G rfl ?_
          rw [nI_1]
          refine ih2 (i + 1) h4 _ (by omega) (hf3.tr (hf4.wk (fun i hi => ⟨by have := hi.1; omega, by have := hi.2; omega⟩))) (hf4.at (fun z => by have := z.1; omega) l43) hG4 (fun a b ha hb => ?_) ?_ (fun a ha => ?_) (fun a ha => ?_)
          · unfold oset
            rw [if_neg (by omega)]; exact e1 a b ha hb
          · unfold oset
            rw [if_neg (by omega)]; exact e2
          · unfold oset
            rw [if_neg (by omega), if_neg (by omega)]; exact e3 a ha
          · unfold oset
            by_cases z : a = i
            · rw [if_pos (by omega), if_pos (by omega), z]; exact ⟨rfl, rfl⟩
            · rw [if_neg (by omega), if_neg (by omega)]; exact e4 a (by omega)
      refine inner j 0 h2 _ (by omega) hf2' k43' hG2 (fun a b ha hb => if_neg (by omega)) (if_pos (Or.inl rfl)) (fun a ha => ⟨if_pos (Or.inr rfl), if_pos (Or.inl rfl)⟩) (fun a ha => absurd ha (Nat.not_lt_zero a))
  refine lp (wN w) 0 ha _ _ (by omega) qf q43 (hG0.od (fun i hi => ?_) (fun i j hi hj => ?_))
  · exact if_pos hi
  · exact if_pos ⟨hi, hj⟩
end
