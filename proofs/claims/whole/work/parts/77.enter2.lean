theorem lN_iff {a b : Nat} (ha : a < 2 ^ 62) (hb : b < 2 ^ 62) : lN a = lN b ↔ a = b := by
  constructor
  · intro e
    have h1 := wb_tn (n := a) (by omega)
    rw [e, wb_tn (by omega)] at h1
    exact h1.symm
  · intro e; rw [e]
theorem KR.lt {w b : Nat} (h : KR w b) : w < 2 ^ 34 ∧ b < 2 ^ 48 := by
  obtain ⟨n, c, o, n1, n5, hc, ho, hw, hb⟩ := h
  have h1 := (WC_b n5 hc ho).2
  have h2 := (WM_b n5 hc ho).2
  rw [← hw] at h1
  rw [← hb] at h2
  have : (8 : Nat) ^ 15 = 35184372088832 := by decide
  constructor <;> omega
def isFault (f : Nat → Nat) (n p : Nat) : Prop := p < n ∧ ∃ r, rrun f p = some r ∧ rstep (f p) r = none
theorem fault_none {f : Nat → Nat} {n p : Nat} {r : Rs} (h : isFault f n p) (hr : rrun f n = some r) : False := by
  obtain ⟨hp, q, h1, h2⟩ := h
  obtain ⟨r', h'⟩ := rrun_pre hr (n - (p + 1)) (p + 1) (by omega)
  rw [rrun_S h1, h2] at h'
  cases h'
theorem fault_uniq {f : Nat → Nat} {n p q : Nat} (h : isFault f n p) (h' : isFault f n q) : p = q := by
  obtain ⟨hp, r, h1, h2⟩ := h
  obtain ⟨hq, r', h1', h2'⟩ := h'
  rcases Nat.lt_trichotomy p q with z | z | z
  · exact (fault_none ⟨z, r, h1, h2⟩ h1').elim
  · exact z
  · exact (fault_none ⟨z, r', h1', h2'⟩ h1).elim
/-- what comes of a least word at the table -/
def EnT (n0 : Nat) (W : Nat → Nat) (v : Int32) (nw : Option (Nat × Nat)) (w b : Nat) : Prop := (∃ i, i < n0 ∧ W i = w ∧ v = nI i ∧ nw = none) ∨ ((∀ i, i < n0 → W i ≠ w) ∧ ((n0 = 12 ∧ v = -104 ∧ nw = none) ∨ (n0 < 12 ∧ v = nI n0 ∧ nw = some (w, b))))
def EnV (r : Rs) (n0 : Nat) (W : Nat → Nat) (v : Int32) (nw : Option (Nat × Nat)) : Prop := ((∃ a, a < r.v 5 ∧ r.cd a + 1 < sm (r.od a) (r.v 5)) ∧ v = -103 ∧ nw = none) ∨ ((∀ a, a < r.v 5 → sm (r.od a) (r.v 5) ≤ r.cd a + 1) ∧ ∃ w b, IsK r.cd r.od id (r.v 5) w b ∧ EnT n0 W v nw w b)
def EnE (r : Rs) (n cap n0 : Nat) (W : Nat → Nat) (v : Int32) (nw : Option (Nat × Nat)) : Prop :=
  if r.v 0 = 3 ∧ r.v 1 = 0 then (if r.ma 0 = 0 ∧ r.ma 1 = 0 then (if r.v 4 = 0 then (if r.v 5 ≤ cap then EnV r n0 W v nw else (v = -102 ∧ nw = none)) else (v = -101 ∧ nw = none)) else (v = -100 ∧ nw = none)) else (v = -1 - nI n ∧ nw = none)
def EnR (f : Nat → Nat) (n cap n0 : Nat) (W : Nat → Nat) (v : Int32) (nw : Option (Nat × Nat)) : Prop := (∃ p, isFault f n p ∧ v = -1 - nI p ∧ nw = none) ∨ ∃ r, rrun f n = some r ∧ EnE r n cap n0 W v nw
theorem EnR_uniq {f : Nat → Nat} {n cap n0 : Nat} {W : Nat → Nat} {v v' : Int32} {nw nw' : Option (Nat × Nat)} (h5 : cap ≤ 5) (hW : ∀ i j, i < n0 → j < n0 → W i = W j → i = j) (h : EnR f n cap n0 W v nw) (h' : EnR f n cap n0 W v' nw') : v = v' ∧ nw = nw' := by
  rcases h with ⟨p, h1, h2, h3⟩ | ⟨r, hr, h⟩
  · rcases h' with ⟨q, g1, g2, g3⟩ | ⟨q, hq, -⟩
    · rw [h2, g2, h3, g3, fault_uniq h1 g1]
      exact ⟨rfl, rfl⟩
    · exact (fault_none h1 hq).elim
  · rcases h' with ⟨q, g1, g2, g3⟩ | ⟨q, hq, h'⟩
    · exact (fault_none g1 hr).elim
    · obtain rfl : r = q := Option.some.inj (hr.symm.trans hq)
      obtain ⟨p0, p1, p2, p3, p4, p5, p6, p7, p8, p9, p10, p11⟩ := (rrun_ok hr).1
      unfold EnE at h h'
      split at h
      · rename_i z3
        rw [if_pos z3] at h'
        split at h
        · rename_i zm
          rw [if_pos zm] at h'
          split at h
          · rename_i z4
            rw [if_pos z4] at h'
            split at h
            · rename_i zc
              rw [if_pos zc] at h'
              rcases h with ⟨⟨a, a1, a2⟩, h1, h2⟩ | ⟨ha, w, b, hk, ht⟩
              · rcases h' with ⟨-, g1, g2⟩ | ⟨ga, -⟩
                · rw [h1, h2, g1, g2]; exact ⟨rfl, rfl⟩
                · have := ga a a1; omega
              · rcases h' with ⟨⟨a, a1, a2⟩, -⟩ | ⟨-, w', b', hk', ht'⟩
                · have := ha a a1; omega
                · have v2 := p6 (by omega)
                  obtain ⟨e1, e2⟩ := hk.uniq (by omega) (by omega) (fun q hq => p9 q hq) (fun i j hi hj => (p10 i j hi hj).1) Pm.id (fun _ _ => rfl) (fun _ _ _ _ => rfl) hk'
                  subst e1
                  subst e2
                  rcases ht with ⟨i, i1, i2, i3, i4⟩ | ⟨hn, ht⟩
                  · rcases ht' with ⟨j, j1, j2, j3, j4⟩ | ⟨gn, -⟩
                    · rw [i3, i4, j3, j4, hW i j i1 j1 (i2.trans j2.symm)]; exact ⟨rfl, rfl⟩
                    · exact absurd i2 (gn i i1)
                  · rcases ht' with ⟨j, j1, j2, j3, j4⟩ | ⟨-, ht'⟩
                    · exact absurd j2 (hn j j1)
                    · rcases ht with ⟨a1, a2, a3⟩ | ⟨a1, a2, a3⟩
                      · rcases ht' with ⟨b1, b2, b3⟩ | ⟨b1, b2, b3⟩
                        · rw [a2, a3, b2, b3]; exact ⟨rfl, rfl⟩
                        · omega
                      · rcases ht' with ⟨b1, b2, b3⟩ | ⟨b1, b2, b3⟩
                        · omega
                        · rw [a2, a3, b2, b3]; exact ⟨rfl, rfl⟩
            · rename_i zc
              rw [if_neg zc] at h'
              rw [h.1, h.2, h'.1, h'.2]; exact ⟨rfl, rfl⟩
          · rename_i zc
            rw [if_neg zc] at h'
            rw [h.1, h.2, h'.1, h'.2]; exact ⟨rfl, rfl⟩
        · rename_i zc
          rw [if_neg zc] at h'
          rw [h.1, h.2, h'.1, h'.2]; exact ⟨rfl, rfl⟩
      · rename_i zc
        rw [if_neg zc] at h'
        rw [h.1, h.2, h'.1, h'.2]; exact ⟨rfl, rfl⟩
def enN (n0 : Nat) (nw : Option (Nat × Nat)) : Nat := match nw with | none => n0 | some _ => n0 + 1
def enW (n0 : Nat) (W : Nat → Nat) (nw : Option (Nat × Nat)) : Nat → Nat := match nw with | none => W | some p => uN W n0 p.1
def enB (n0 : Nat) (B : Nat → Nat) (nw : Option (Nat × Nat)) : Nat → Nat := match nw with | none => B | some p => uN B n0 p.2
/-- the class's table -/
def TbC (h : am_H) (n : Nat) (W : Nat → Nat) : Prop := h[39]? = some (tO (nI n)) ∧ ∃ wd, h[40]? = some (aL 12 wd) ∧ ∀ i, i < n → wd i = lN (W i) ∧ W i < 2 ^ 34
/-- the model's table -/
def TbM (h : am_H) (m : Nat → Int32) (n : Nat) (B : Nat → Nat) : Prop := m 3 = nI n ∧ ∃ ky, h[83]? = some (aL 12 ky) ∧ ∀ i, i < n → ky i = lN (B i) ∧ B i < 2 ^ 48
section
variable {lx : am_Lx} {d : Nat} {h : am_H} {Q : am_Q}
theorem sp_19 (hd : 8 ≤ d) {n cap n0 : Nat} {rc : Int32} {r : Rs} {W : Nat → Nat} (h0 : h[0]? = some (sO (nI cap) rc)) (hcap : 2 ≤ cap ∧ cap ≤ 5) (hI : RdR h r) (hP : PIr n r) (hn : n ≤ 24) (h3 : r.v 0 = 3) (hK : KsI h) (hT : TbC h n0 W) (hn0 : n0 ≤ 12)
    (hq : ∀ v nw h', (if r.v 5 ≤ cap then EnV r n0 W v nw else (v = -102 ∧ nw = none)) → am_fr (fun i => keyP i ∨ i = 39 ∨ i = 40) h h' → KsI h' → TbC h' (enN n0 nw) (enW n0 W nw) → Q (some (.int v)) h') : am_KA lx d 19 [.ref 0, .ref 4] h Q := by
  obtain ⟨p0, p1, p2, p3, p4, p5, p6, p7, p8, p9, p10, p11⟩ := id hP
  have v2 := p6 (by omega)
  have hG := hI.2.2.2.2
  have g1 := hG.1
  obtain ⟨e, rfl⟩ : ∃ e, d = e + 1 := ⟨d - 1, by omega⟩
  have G : am_GK (am_KA lx e) cd_19 := ⟨am_KA_m lx e, cm_19⟩
  refine am_KA_in (by decide) (Nat.le_of_ble_eq_true rfl) ?_
  show am_Go (am_KA lx e) (am_fetch cd_19) Q 0 [some (.ref 0), some (.ref 4), none] [] h 0 0
  refine r_ra G (pn := 1) rfl rfl rfl ?_
  refine r_get G (pn := 4) rfl rfl (by first | assumption | (repeat (first | assumption | exact am_eq (by first | assumption | exact am_eq (by assumption) | exact am_ne (by first | decide | omega) (by assumption)) | refine am_ne (by first | decide | omega) ?_))) rfl ?_
  refine r_ra G (pn := 5) rfl rfl rfl ?_
  refine r_get G (pn := 8) rfl rfl (by first | assumption | (repeat (first | assumption | exact am_eq (by first | assumption | exact am_eq (by assumption) | exact am_ne (by first | decide | omega) (by assumption)) | refine am_ne (by first | decide | omega) ?_))) rfl ?_
  refine r_if2 G (pn := 11) rfl rfl (fun c8 => ?_) (fun c8 => ?_)
  rotate_left
  · have z : ¬ r.v 5 ≤ cap := fun z => c8 ((nI_leI (by omega) (by omega)).mpr z)
    refine r_ic G (pn := 13) rfl rfl  ?_
    refine r_iret G rfl rfl (hq (-102) none h (by rw [if_neg z]; exact ⟨rfl, rfl⟩) am_fr.rf hK hT)
  have z : r.v 5 ≤ cap := (nI_leI (by omega) (by omega)).mp c8
  simp only [if_pos z] at hq
  refine r_ic G (pn := 15) rfl rfl  ?_
  refine r_is G (pn := 16) rfl rfl (Nat.le_of_ble_eq_true rfl) ?_
  have lp : ∀ (k i : Nat), i + k = r.v 5 → (∀ a, a < i → sm (r.od a) (r.v 5) ≤ r.cd a + 1) → am_Go (am_KA lx e) (am_fetch cd_19) Q 16 [some (.ref 0), some (.ref 4), some (.int (nI i))] [] h 0 0 := by
    intro k
    induction k with
    | zero =>
      intro i hi ha
      obtain rfl : i = r.v 5 := by omega
      refine r_il G (pn := 17) rfl rfl rfl ?_
      refine r_ra G (pn := 18) rfl rfl rfl ?_
      refine r_get G (pn := 21) rfl rfl (by first | assumption | (repeat (first | assumption | exact am_eq (by first | assumption | exact am_eq (by assumption) | exact am_ne (by first | decide | omega) (by assumption)) | refine am_ne (by first | decide | omega) ?_))) rfl ?_
      refine r_if2 G (pn := 24) rfl rfl (fun c21 => ?_) (fun c21 => ?_)
      rotate_left
      · exact absurd (Int32.le_refl _) c21
      obtain ⟨fa, h31, ga⟩ := hG.2.2.2.2
      refine r_ra G (pn := 42) rfl rfl rfl ?_
      refine r_get G (pn := 45) rfl rfl (by first | assumption | (repeat (first | assumption | exact am_eq (by first | assumption | exact am_eq (by assumption) | exact am_ne (by first | decide | omega) (by assumption)) | refine am_ne (by first | decide | omega) ?_))) rfl ?_
      refine r_ra G (pn := 46) rfl rfl rfl ?_
      refine r_get G (pn := 49) rfl rfl (by first | assumption | (repeat (first | assumption | exact am_eq (by first | assumption | exact am_eq (by assumption) | exact am_ne (by first | decide | omega) (by assumption)) | refine am_ne (by first | decide | omega) ?_))) rfl ?_
      refine r_ra G (pn := 50) rfl rfl rfl ?_
      refine r_ra G (pn := 51) rfl rfl rfl ?_
      refine r_get G (pn := 54) rfl rfl (by first | assumption | (repeat (first | assumption | exact am_eq (by first | assumption | exact am_eq (by assumption) | exact am_ne (by first | decide | omega) (by assumption)) | refine am_ne (by first | decide | omega) ?_))) rfl ?_
      refine r_ra G (pn := 55) rfl rfl rfl ?_
      refine r_get G (pn := 58) rfl rfl (by first | assumption | (repeat (first | assumption | exact am_eq (by first | assumption | exact am_eq (by assumption) | exact am_ne (by first | decide | omega) (by assumption)) | refine am_ne (by first | decide | omega) ?_))) rfl ?_
      refine r_inv4 G (pn := 61) rfl rfl hK.1 (Nat.le_of_ble_eq_true rfl) (Nat.le_of_ble_eq_true rfl) (Nat.le_of_ble_eq_true rfl) (sp_82 (at_ := id) (by omega) hG (by omega) (by omega) (by omega) hK h31 (by omega) (by omega) (by omega) (by omega) (by omega) (fun q hq => ⟨ga q (by omega), hq⟩) p9 (fun i j hi hj => (p10 i j hi hj).1) (fun h' srt s hf' hK' s1 s2 s3 s4 s5 => ?_))
      obtain ⟨b, hk⟩ := IsK_class (by omega) (by omega) (fun p q _ _ e => e) p9 (fun i j hi hj => (p10 i j hi hj).1) s2 s3 s4 s5
      have hkr := (hk.kr (by omega) (by omega) (fun q hq => p9 q hq) (fun i j hi hj => (p10 i j hi hj).1)).lt
      obtain ⟨t39, wd, t40, tw⟩ := hT
      have k39 : h'[39]? = some (tO (nI n0)) := hf'.at (fun z => by have := z.2; omega) t39
      have k40 : h'[40]? = some (aL 12 wd) := hf'.at (fun z => by have := z.2; omega) t40
      have hff : am_fr (fun i => keyP i ∨ i = 39 ∨ i = 40) h h' := hf'.wk (fun i hi => Or.inl hi)
      generalize hw : WC r.cd r.od (fun q => srt (s q)) (r.v 5) = w at hk hkr
      show am_Go (am_KA lx e) (am_fetch cd_19) Q 61 [some (.ref 0), some (.ref 4), some (.int (nI (r.v 5)))] [.long (lN w), .ref 39] h' 0 0
      refine r_inv2 G (pn := 64) rfl rfl k39 (Nat.le_of_ble_eq_true rfl) (Nat.le_of_ble_eq_true rfl) (Nat.le_of_ble_eq_true rfl) (sp_122 (by omega) k39 k40 hn0 (fun i hi hwi _ => ?_) (fun hno hfull => ?_) (fun hno hlt => ?_))
      · show am_Go (am_KA lx e) (am_fetch cd_19) Q 64 [some (.ref 0), some (.ref 4), some (.int (nI (r.v 5)))] [.int (nI i)] h' 0 0
        refine r_is G (pn := 65) rfl rfl (Nat.le_of_ble_eq_true rfl) ?_
        refine r_il G (pn := 66) rfl rfl rfl ?_
        refine r_ic G (pn := 67) rfl rfl  ?_
        refine r_if2 G (pn := 70) rfl rfl (fun c67 => ?_) (fun c67 => ?_)
        · refine r_il G (pn := 76) rfl rfl rfl ?_
          refine r_iret G rfl rfl (hq (nI i) none h' (Or.inr ⟨ha, w, b, hk, Or.inl ⟨i, hi, ?_, rfl, rfl⟩⟩) hff hK' ⟨k39, wd, k40, tw⟩)
          obtain ⟨t1, t2⟩ := tw i hi
          exact (lN_iff (by omega) (by omega)).mp (t1.symm.trans hwi)
        · exact absurd (show nI i = -1 from Classical.byContradiction c67) (fun z => by have := nI_pos (n := i) (by omega); rw [z] at this; exact absurd (by decide) this)
      · show am_Go (am_KA lx e) (am_fetch cd_19) Q 64 [some (.ref 0), some (.ref 4), some (.int (nI (r.v 5)))] [.int (-1)] h' 0 0
        refine r_is G (pn := 65) rfl rfl (Nat.le_of_ble_eq_true rfl) ?_
        refine r_il G (pn := 66) rfl rfl rfl ?_
        refine r_ic G (pn := 67) rfl rfl  ?_
        refine r_if2 G (pn := 70) rfl rfl (fun c67 => ?_) (fun c67 => ?_)
        · exact absurd rfl c67
        · refine r_ic G (pn := 72) rfl rfl  ?_
          refine r_goto G rfl ?_
          refine r_iret G rfl rfl (hq (-104) none h' (Or.inr ⟨ha, w, b, hk, Or.inr ⟨fun i hi z => hno i hi ?_, Or.inl ⟨hfull, rfl, rfl⟩⟩⟩) hff hK' ⟨k39, wd, k40, tw⟩)
          rw [(tw i hi).1, z]
      · show am_Go (am_KA lx e) (am_fetch cd_19) Q 64 [some (.ref 0), some (.ref 4), some (.int (nI (r.v 5)))] [.int (nI n0)] ((h'.set 40 (aL 12 (vp_updL wd n0 (lN w)))).set 39 (tO (nI (n0 + 1)))) 0 0
        refine r_is G (pn := 65) rfl rfl (Nat.le_of_ble_eq_true rfl) ?_
        refine r_il G (pn := 66) rfl rfl rfl ?_
        refine r_ic G (pn := 67) rfl rfl  ?_
        refine r_if2 G (pn := 70) rfl rfl (fun c67 => ?_) (fun c67 => ?_)
        · refine r_il G (pn := 76) rfl rfl rfl ?_
          refine r_iret G rfl rfl (hq (nI n0) (some (w, b)) _ (Or.inr ⟨ha, w, b, hk, Or.inr ⟨fun i hi z => hno i hi ?_, Or.inr ⟨hlt, rfl, rfl⟩⟩⟩) ((hff.put (Or.inr (Or.inr rfl))).put (Or.inr (Or.inl rfl))) (hK'.fr (P := fun i => i = 39 ∨ i = 40) ((am_fr.rf.put (Or.inr rfl)).put (Or.inl rfl)) (fun i h1 h2 => by omega)) ⟨am_eq (am_ne (by decide) k39), _, am_ne (by decide) (am_eq k40), fun i hi => ?_⟩)
          · rw [(tw i hi).1, z]
          · have hi : i < n0 + 1 := hi
            show vp_updL wd n0 (lN w) i = lN (uN W n0 w i) ∧ uN W n0 w i < 2 ^ 34
            by_cases y : i = n0
            · rw [y, pk_uLs', uN_s]; exact ⟨rfl, hkr.1⟩
            · rw [pk_uLn y, uN_n y]
              exact tw i (by omega)
        · exact absurd (show nI n0 = -1 from Classical.byContradiction c67) (fun z => by have := nI_pos (n := n0) (by omega); rw [z] at this; exact absurd (by decide) this)
    | succ k ih =>
      intro i hi ha
      refine r_il G (pn := 17) rfl rfl rfl ?_
      refine r_ra G (pn := 18) rfl rfl rfl ?_
      refine r_get G (pn := 21) rfl rfl (by first | assumption | (repeat (first | assumption | exact am_eq (by first | assumption | exact am_eq (by assumption) | exact am_ne (by first | decide | omega) (by assumption)) | refine am_ne (by first | decide | omega) ?_))) rfl ?_
      refine r_if2 G (pn := 24) rfl rfl (fun c21 => ?_) (fun c21 => ?_)
      · exact absurd ((nI_leI (by omega) (by omega)).mp c21) (by omega)
      refine r_ra G (pn := 25) rfl rfl rfl ?_
      refine r_il G (pn := 26) rfl rfl rfl ?_
      refine r_inv2 G (pn := 29) rfl rfl g1 (Nat.le_of_ble_eq_true rfl) (Nat.le_of_ble_eq_true rfl) (Nat.le_of_ble_eq_true rfl) (sp_80 (by omega) hG (by omega) (by omega) (by omega) (fun i j hi hj => (p10 i j hi hj).1) (p9 i (by omega)) (fun hle => ?_) (fun hgt => ?_))
      · show am_Go (am_KA lx e) (am_fetch cd_19) Q 29 [some (.ref 0), some (.ref 4), some (.int (nI i))] [.int 0] h 0 0
        refine r_if1 G (pn := 32) rfl rfl (fun c29 => ?_) (fun c29 => ?_)
        · refine r_inc G (pn := 38) rfl rfl rfl (Nat.le_of_ble_eq_true rfl) ?_
          refine r_goto G rfl ?_
          rw [nI_1]
          refine ih (i + 1) (by omega) (fun a hai => ?_)
          by_cases y : a = i
          · rw [y]; exact hle
          · exact ha a (by omega)
        · exact absurd rfl c29
      · show am_Go (am_KA lx e) (am_fetch cd_19) Q 29 [some (.ref 0), some (.ref 4), some (.int (nI i))] [.int 1] h 0 0
        refine r_if1 G (pn := 32) rfl rfl (fun c29 => ?_) (fun c29 => ?_)
        · exact absurd c29 (by decide)
        · refine r_ic G (pn := 34) rfl rfl  ?_
          refine r_iret G rfl rfl (hq (-103) none h (Or.inl ⟨⟨i, by omega, hgt⟩, rfl, rfl⟩) am_fr.rf hK hT)
  exact lp (r.v 5) 0 (by omega) (fun a ha => absurd ha (Nat.not_lt_zero a))
end
