def ecP (i : Nat) : Prop := i = 1 ∨ rdP i ∨ keyP i ∨ i = 39 ∨ i = 40
section
variable {lx : am_Lx} {d : Nat} {h : am_H} {Q : am_Q}
theorem sp_3 (hd : 9 ≤ d) {n cap n0 : Nat} {rc : Int32} {r0 : Rs} {f : Nat → Int32} {W : Nat → Nat} (h0 : h[0]? = some (sO (nI cap) rc)) (hcap : 2 ≤ cap ∧ cap ≤ 5) (h1 : h[1]? = some (.inr (4, [.ref 2, .int (nI n)]))) (h2 : h[2]? = some (.inl (.char, 24, .inl f))) (hn : n ≤ 24) (hx : ∀ i, i < n → 0 ≤ f i ∧ f i < 65536) (hI : RdR h r0) (hK : KsI h) (hT : TbC h n0 W) (hn0 : n0 ≤ 12)
    (hq : ∀ v nw h' r, EnR (fun i => chK (f i)) n cap n0 W v nw → am_fr ecP h h' → h'[1]? = some (.inr (4, [.ref 2, .int (nI 0)])) → RdR h' r → KsI h' → TbC h' (enN n0 nw) (enW n0 W nw) → Q (some (.int v)) h') : am_KA lx d 3 [.ref 0] h Q := by
  obtain ⟨e, rfl⟩ : ∃ e, d = e + 1 := ⟨d - 1, by omega⟩
  have G : am_GK (am_KA lx e) cd_3 := ⟨am_KA_m lx e, cm_3⟩
  refine am_KA_in (by decide) (Nat.le_of_ble_eq_true rfl) ?_
  show am_Go (am_KA lx e) (am_fetch cd_3) Q 0 [some (.ref 0), none] [] h 0 0
  have h3 := hI.1
  have t19 : ∀ (q : Int32) (h' : am_H) (r : Rs), am_fr rdP h h' → RdR h' r → (q ≠ -1 → EnR (fun i => chK (f i)) n cap n0 W (-1 - q) none) → (q = -1 → rrun (fun i => chK (f i)) n = some r ∧ r.v 0 = 3 ∧ r.v 1 = 0) → am_Go (am_KA lx e) (am_fetch cd_3) Q 11 [some (.ref 0), none] [.int q] h' 0 0 := by
    intro q h' r hf hI' e1 e2
    have k0 : h'[0]? = some (sO (nI cap) rc) := hf.at (fun z => by have := z.1; omega) h0
    have k1 : h'[1]? = some (.inr (4, [.ref 2, .int (nI n)])) := hf.at (fun z => by have := z.1; omega) h1
    have hK' : KsI h' := hK.fr hf (fun i a b z => by have := z.2; omega)
    obtain ⟨t39, wd, t40, tw⟩ := id hT
    have hT' : TbC h' n0 W := ⟨hf.at (fun z => by have := z.2; omega) t39, wd, hf.at (fun z => by have := z.2; omega) t40, tw⟩
    refine r_is G (pn := 12) rfl rfl (Nat.le_of_ble_eq_true rfl) ?_
    refine r_ra G (pn := 13) rfl rfl rfl ?_
    refine r_get G (pn := 16) rfl rfl (by first | assumption | (repeat (first | assumption | exact am_eq (by first | assumption | exact am_eq (by assumption) | exact am_ne (by first | decide | omega) (by assumption)) | refine am_ne (by first | decide | omega) ?_))) rfl ?_
    refine r_inv1 G (pn := 19) rfl rfl k1 (Nat.le_of_ble_eq_true rfl) (Nat.le_of_ble_eq_true rfl) (Nat.le_of_ble_eq_true rfl) (sp_89 (by omega) k1 ?_)
    have fr1 : am_fr (fun i => i = 1) h' (h'.set 1 (.inr (4, [.ref 2, .int (nI 0)]))) := am_fr.rf.put rfl
    have hI2 : RdR (h'.set 1 (.inr (4, [.ref 2, .int (nI 0)]))) r := by
      obtain ⟨a1, ⟨f2, a2, g2⟩, ⟨f3, a3, g3⟩, ⟨f9, a9, g9⟩, a5⟩ := id hI'
      exact ⟨am_ne (by decide) a1, ⟨f2, am_ne (by decide) a2, g2⟩, ⟨f3, am_ne (by decide) a3, g3⟩, ⟨f9, am_ne (by decide) a9, g9⟩, a5.fr fr1 (fun i hi => by have := hi.1; omega)⟩
    have hK2 : KsI (h'.set 1 (.inr (4, [.ref 2, .int (nI 0)]))) := hK'.fr fr1 (fun i a b => by omega)
    have hT2 : TbC (h'.set 1 (.inr (4, [.ref 2, .int (nI 0)]))) n0 W := ⟨am_ne (by decide) hT'.1, wd, am_ne (by decide) (hf.at (fun z => by have := z.2; omega) t40), tw⟩
    have hf2 : am_fr ecP h (h'.set 1 (.inr (4, [.ref 2, .int (nI 0)]))) := (hf.wk (fun i hi => Or.inr (Or.inl hi))).put (Or.inl rfl)
    have b0 : (h'.set 1 (.inr (4, [.ref 2, .int (nI 0)])))[0]? = some (sO (nI cap) rc) := am_ne (by decide) k0
    have b1 : (h'.set 1 (.inr (4, [.ref 2, .int (nI 0)])))[1]? = some (.inr (4, [.ref 2, .int (nI 0)])) := am_eq k1
    generalize (h'.set 1 (.inr (4, [.ref 2, .int (nI 0)])) : am_H) = h4 at fr1 hI2 hK2 hT2 hf2 b0 b1
    show am_Go (am_KA lx e) (am_fetch cd_3) Q 19 [some (.ref 0), some (.int q)] [] h4 0 0
    refine r_il G (pn := 20) rfl rfl rfl ?_
    refine r_ic G (pn := 21) rfl rfl  ?_
    refine r_if2 G (pn := 24) rfl rfl (fun c21 => ?_) (fun c21 => ?_)
    rotate_left
    · refine r_ic G (pn := 25) rfl rfl  ?_
      refine r_il G (pn := 26) rfl rfl rfl ?_
      refine r_ib G (pn := 27) rfl rfl  ?_
      refine r_iret G rfl rfl (hq _ none h4 r (e1 c21) hf2 b1 hI2 hK2 hT2)
    obtain ⟨hr, r3, r1⟩ := e2 c21
    have ok := (rrun_ok hr).1
    obtain ⟨p0, p1, p2, p3, p4, p5, p6, p7, p8, p9, p10, p11⟩ := id ok
    have z3 : r.v 0 = 3 ∧ r.v 1 = 0 := ⟨r3, r1⟩
    have hER : ∀ v nw, (if r.ma 0 = 0 ∧ r.ma 1 = 0 then (if r.v 4 = 0 then (if r.v 5 ≤ cap then EnV r n0 W v nw else (v = -102 ∧ nw = none)) else (v = -101 ∧ nw = none)) else (v = -100 ∧ nw = none)) → EnR (fun i => chK (f i)) n cap n0 W v nw := fun v nw hh => Or.inr ⟨r, hr, by unfold EnE; rw [if_pos z3]; exact hh⟩
    have b3 := hI2.1
    refine r_ra G (pn := 29) rfl rfl rfl ?_
    refine r_get G (pn := 32) rfl rfl (by first | assumption | (repeat (first | assumption | exact am_eq (by first | assumption | exact am_eq (by assumption) | exact am_ne (by first | decide | omega) (by assumption)) | refine am_ne (by first | decide | omega) ?_))) rfl ?_
    refine r_inv1 G (pn := 35) rfl rfl b3 (Nat.le_of_ble_eq_true rfl) (Nat.le_of_ble_eq_true rfl) (Nat.le_of_ble_eq_true rfl) (sp_106 (by omega) hI2 (fun i hi => by have := (p8 i hi).1; omega) (fun zm => ?_) (fun zm => ?_))
    · simp only [if_pos zm] at hER
      show am_Go (am_KA lx e) (am_fetch cd_3) Q 35 [some (.ref 0), some (.int q)] [.int 0] h4 0 0
      refine r_if1 G (pn := 38) rfl rfl (fun c35 => ?_) (fun c35 => ?_)
      rotate_left
      · exact absurd rfl c35
      refine r_ra G (pn := 42) rfl rfl rfl ?_
      refine r_get G (pn := 45) rfl rfl (by first | assumption | (repeat (first | assumption | exact am_eq (by first | assumption | exact am_eq (by assumption) | exact am_ne (by first | decide | omega) (by assumption)) | refine am_ne (by first | decide | omega) ?_))) rfl ?_
      refine r_get G (pn := 48) rfl rfl (by first | assumption | (repeat (first | assumption | exact am_eq (by first | assumption | exact am_eq (by assumption) | exact am_ne (by first | decide | omega) (by assumption)) | refine am_ne (by first | decide | omega) ?_))) rfl ?_
      show am_Go (am_KA lx e) (am_fetch cd_3) Q 48 [some (.ref 0), some (.int q)] [.int (nI (r.v 4))] h4 0 0
      refine r_if1 G (pn := 51) rfl rfl (fun c48 => ?_) (fun c48 => ?_)
      · have z4 : r.v 4 = 0 := (nI_eq (b := 0) (by omega) (by omega)).mp c48
        simp only [if_pos z4] at hER
        refine r_ra G (pn := 55) rfl rfl rfl ?_
        refine r_ra G (pn := 56) rfl rfl rfl ?_
        refine r_get G (pn := 59) rfl rfl (by first | assumption | (repeat (first | assumption | exact am_eq (by first | assumption | exact am_eq (by assumption) | exact am_ne (by first | decide | omega) (by assumption)) | refine am_ne (by first | decide | omega) ?_))) rfl ?_
        refine r_get G (pn := 62) rfl rfl (by first | assumption | (repeat (first | assumption | exact am_eq (by first | assumption | exact am_eq (by assumption) | exact am_ne (by first | decide | omega) (by assumption)) | refine am_ne (by first | decide | omega) ?_))) rfl ?_
        refine r_inv2 G (pn := 65) rfl rfl b0 (Nat.le_of_ble_eq_true rfl) (Nat.le_of_ble_eq_true rfl) (Nat.le_of_ble_eq_true rfl) (sp_19 (by omega) b0 hcap hI2 ok hn r3 hK2 hT2 hn0 (fun v nw h5 hv hf5 hK5 hT5 => ?_))
        show am_Go (am_KA lx e) (am_fetch cd_3) Q 65 [some (.ref 0), some (.int q)] [.int v] h5 0 0
        refine r_iret G rfl rfl (hq v nw h5 r (hER v nw hv) (hf2.tr (hf5.wk (fun i hi => Or.inr (Or.inr hi)))) (hf5.at (fun z => by rcases z with z | z | z <;> first | omega | (have := z.1; omega)) b1) ?_ hK5 hT5)
        obtain ⟨a1, ⟨f2, a2, g2⟩, ⟨f3, a3, g3⟩, ⟨f9, a9, g9⟩, a5⟩ := id hI2
        have nn : ∀ i, i < 35 → ¬ (keyP i ∨ i = 39 ∨ i = 40) := fun i hi z => by rcases z with z | z | z <;> first | omega | (have := z.1; omega)
        exact ⟨hf5.at (nn _ (by omega)) a1, ⟨f2, hf5.at (nn _ (by omega)) a2, g2⟩, ⟨f3, hf5.at (nn _ (by omega)) a3, g3⟩, ⟨f9, hf5.at (nn _ (by omega)) a9, g9⟩, a5.fr hf5 (fun i hi => nn i (by have := hi.2; omega))⟩
      · have z4 : ¬ r.v 4 = 0 := fun z => c48 (by rw [z]; rfl)
        simp only [if_neg z4] at hER
        refine r_ic G (pn := 53) rfl rfl  ?_
        refine r_iret G rfl rfl (hq _ none h4 r (hER _ none ⟨rfl, rfl⟩) hf2 b1 hI2 hK2 hT2)
    · simp only [if_neg zm] at hER
      show am_Go (am_KA lx e) (am_fetch cd_3) Q 35 [some (.ref 0), some (.int q)] [.int 1] h4 0 0
      refine r_if1 G (pn := 38) rfl rfl (fun c35 => ?_) (fun c35 => ?_)
      · exact absurd c35 (by decide)
      refine r_ic G (pn := 40) rfl rfl  ?_
      refine r_iret G rfl rfl (hq _ none h4 r (hER _ none ⟨rfl, rfl⟩) hf2 b1 hI2 hK2 hT2)
  refine r_ra G (pn := 1) rfl rfl rfl ?_
  refine r_get G (pn := 4) rfl rfl (by first | assumption | (repeat (first | assumption | exact am_eq (by first | assumption | exact am_eq (by assumption) | exact am_ne (by first | decide | omega) (by assumption)) | refine am_ne (by first | decide | omega) ?_))) rfl ?_
  refine r_ra G (pn := 5) rfl rfl rfl ?_
  refine r_get G (pn := 8) rfl rfl (by first | assumption | (repeat (first | assumption | exact am_eq (by first | assumption | exact am_eq (by assumption) | exact am_ne (by first | decide | omega) (by assumption)) | refine am_ne (by first | decide | omega) ?_))) rfl ?_
  refine r_inv2 G (pn := 11) rfl rfl h3 (Nat.le_of_ble_eq_true rfl) (Nat.le_of_ble_eq_true rfl) (Nat.le_of_ble_eq_true rfl) (sp_105 (by omega) h1 h2 hn hx hI (fun p r' h' hp hr hs hf' hI' => ?_) (fun r' h' hr hf' hI' => ?_))
  · refine t19 (nI p) h' r' hf' hI' (fun _ => Or.inl ⟨p, ⟨hp, r', hr, hs⟩, rfl, rfl⟩) (fun z => ?_)
    have := nI_pos (n := p) (by omega)
    rw [z] at this
    exact absurd (by decide) this
  · refine t19 _ h' r' hf' hI' (fun z => Or.inr ⟨r', hr, ?_⟩) (fun z => ?_)
    · by_cases y : r'.v 0 = 3 ∧ r'.v 1 = 0
      · rw [if_pos y] at z; exact absurd rfl z
      · unfold EnE
        rw [if_neg y, if_neg y]
        exact ⟨rfl, rfl⟩
    · by_cases y : r'.v 0 = 3 ∧ r'.v 1 = 0
      · exact ⟨hr, y⟩
      · rw [if_neg y] at z
        have := nI_pos (n := n) (by omega)
        rw [z] at this
        exact absurd (by decide) this
end
/-- what enter makes is a species -/
theorem EnR_mol {f : Nat → Nat} {n cap n0 w b : Nat} {W : Nat → Nat} {v : Int32} (h5 : cap ≤ 5) (h : EnR f n cap n0 W v (some (w, b))) : Mol cap w b ∧ (∀ i, i < n0 → W i ≠ w) ∧ n0 < 12 := by
  rcases h with ⟨p, -, -, h3⟩ | ⟨r, hr, h⟩
  · cases h3
  · obtain ⟨ok, oe⟩ := rrun_ok hr
    obtain ⟨p0, p1, p2, p3, p4, p5, p6, p7, p8, p9, p10, p11⟩ := ok
    unfold EnE at h
    split at h
    · rename_i z3
      split at h
      · split at h
        · split at h
          · rename_i zc
            rcases h with ⟨-, -, h3⟩ | ⟨hv, w', b', hk, ht⟩
            · cases h3
            · rcases ht with ⟨i, -, -, -, h3⟩ | ⟨hn, ⟨-, -, h3⟩ | ⟨hlt, -, h3⟩⟩
              · cases h3
              · cases h3
              · cases h3
                have v2 := p6 (by omega)
                exact ⟨mol_of h5 (by omega) zc (fun q hq => p9 q hq) (fun i j hi hj => p10 i j hi hj) (fun i hi => p11 i hi) hv (cnx_tree (fun i j hi hj => (p10 i j hi hj).2) oe.2.2) hk, hn, hlt⟩
          · cases h.2
        · cases h.2
      · cases h.2
    · cases h.2
