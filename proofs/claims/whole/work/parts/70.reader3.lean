def PEx (r : Rs) : Prop := (r.v 0 = 4 ∨ r.v 0 = 2 ∨ r.v 3 = 1) ∧ (r.v 5 ≠ 0 → 1 ≤ r.v 2) ∧ ∀ i, 0 < i → i < r.v 5 → ∃ j, j < i ∧ r.od i j ≠ 0
theorem oset_g {od : Nat → Nat → Nat} {a b o n : Nat} (hab : a ≠ b) (ho : o < 4) (h1 : ∀ i j, i < n → j < n → od i j < 4 ∧ od i j = od j i) (h2 : ∀ i, i < n → od i i = 0) : (∀ i j, i < n → j < n → oset od a b o i j < 4 ∧ oset od a b o i j = oset od a b o j i) ∧ (∀ i, i < n → oset od a b o i i = 0) := by
  refine ⟨fun i j hi hj => ?_, fun i hi => ?_⟩
  · unfold oset
    have := h1 i j hi hj
    by_cases z : (i = a ∧ j = b) ∨ (i = b ∧ j = a)
    · rw [if_pos z, if_pos (by omega)]; exact ⟨ho, rfl⟩
    · rw [if_neg z, if_neg (by omega)]; exact this
  · unfold oset
    rw [if_neg (by omega)]
    exact h2 i hi
theorem oset_t {od : Nat → Nat → Nat} {a b o i j : Nat} (ho : o ≠ 0) (h : od i j ≠ 0) : oset od a b o i j ≠ 0 := by
  unfold oset
  split
  · exact ho
  · exact h
theorem rLet_ok {k p : Nat} {r : Rs} (hk : k < 4) (hP : PIr p r) (hE : PEx r) : PIr (p + 1) (rLet k r) ∧ PEx (rLet k r) := by
  obtain ⟨p0, p1, p2, p3, p4, p5, p6, p7, p8, p9, p10, p11⟩ := hP
  obtain ⟨q1, q2, q3⟩ := hE
  have z1 : (∀ i j, i < r.v 5 + 1 → j < r.v 5 + 1 → (fun i j => if i = r.v 5 ∨ j = r.v 5 then 0 else r.od i j) i j < 4 ∧ (fun i j => if i = r.v 5 ∨ j = r.v 5 then 0 else r.od i j) i j = (fun i j => if i = r.v 5 ∨ j = r.v 5 then 0 else r.od i j) j i) := by
    intro i j hi hj
    dsimp only
    by_cases z : i = r.v 5 ∨ j = r.v 5
    · rw [if_pos z, if_pos (by omega)]; exact ⟨by omega, rfl⟩
    · rw [if_neg z, if_neg (by omega)]; exact p10 i j (by omega) (by omega)
  have z2 : ∀ i, i < r.v 5 + 1 → (fun i j => if i = r.v 5 ∨ j = r.v 5 then 0 else r.od i j) i i = 0 := by
    intro i hi
    dsimp only
    split
    · rfl
    · exact p11 i (by omega)
  have w : (∀ i j, i < r.v 5 + 1 → j < r.v 5 + 1 → (rLet k r).od i j < 4 ∧ (rLet k r).od i j = (rLet k r).od j i) ∧ (∀ i, i < r.v 5 + 1 → (rLet k r).od i i = 0) := by
    show (∀ i j, i < r.v 5 + 1 → j < r.v 5 + 1 → (if r.v 2 = 0 then _ else _ : Nat → Nat → Nat) i j < 4 ∧ (if r.v 2 = 0 then _ else _ : Nat → Nat → Nat) i j = (if r.v 2 = 0 then _ else _ : Nat → Nat → Nat) j i) ∧ (∀ i, i < r.v 5 + 1 → (if r.v 2 = 0 then _ else _ : Nat → Nat → Nat) i i = 0)
    split
    · exact ⟨z1, z2⟩
    · exact oset_g (by omega) (by omega) z1 z2
  refine ⟨⟨by show 3 ≤ 4; omega, by show r.v 1 ≤ p + 1; omega, by show r.v 5 + 1 ≤ r.v 5 + 1; omega, by show 1 ≤ 1 ∧ 1 ≤ 3; omega, by show r.v 4 ≤ 1; exact p4, by show r.v 5 + 1 ≤ p + 1; omega, fun _ => by show 1 ≤ r.v 5 + 1; omega, fun i hi => ?_, fun i hi => ?_, fun i hi => ?_, w.1, w.2⟩, Or.inr (Or.inr rfl), fun _ => by show 1 ≤ r.v 5 + 1; omega, fun i hi hi2 => ?_⟩
  · have := p7 i hi
    show 1 ≤ r.sk i ∧ r.sk i ≤ r.v 5 + 1
    omega
  · have := p8 i hi
    show r.ma i ≤ r.v 5 + 1 ∧ r.mo i ≤ 3
    omega
  · show (if i = r.v 5 then k else r.cd i) < 4
    have hi : i < r.v 5 + 1 := hi
    split
    · exact hk
    · exact p9 i (by omega)
  · have hi2 : i < r.v 5 + 1 := hi2
    by_cases z : i = r.v 5
    · have hv := q2 (by omega)
      refine ⟨r.v 2 - 1, by omega, ?_⟩
      show (if r.v 2 = 0 then _ else _ : Nat → Nat → Nat) i (r.v 2 - 1) ≠ 0
      rw [if_neg (by omega)]
      unfold oset
      rw [if_pos (Or.inr ⟨z, rfl⟩)]
      omega
    · obtain ⟨j, hj, hn⟩ := q3 i hi (by omega)
      refine ⟨j, hj, ?_⟩
      have hb : (fun i j => if i = r.v 5 ∨ j = r.v 5 then 0 else r.od i j) i j ≠ 0 := by
        dsimp only
        rw [if_neg (by omega)]
        exact hn
      show (if r.v 2 = 0 then _ else _ : Nat → Nat → Nat) i j ≠ 0
      split
      · exact hb
      · exact oset_t (by omega) hb
theorem rLink_ok {k p : Nat} {r : Rs} (hk : 1 ≤ k ∧ k ≤ 3) (hs : r.v 0 = 3 ∨ r.v 0 = 1) (hP : PIr p r) (hE : PEx r) : PIr (p + 1) (rLink k r) ∧ PEx (rLink k r) := by
  obtain ⟨p0, p1, p2, p3, p4, p5, p6, p7, p8, p9, p10, p11⟩ := hP
  obtain ⟨q1, q2, q3⟩ := hE
  refine ⟨⟨?_, by show r.v 1 ≤ p + 1; omega, p2, hk, p4, by show r.v 5 ≤ p + 1; omega, fun _ => p6 (by omega), p7, p8, p9, p10, p11⟩, ?_, q2, q3⟩
  · show (if r.v 0 = 3 then 4 else 2) ≤ 4
    split <;> omega
  · show (if r.v 0 = 3 then 4 else 2) = 4 ∨ (if r.v 0 = 3 then 4 else 2) = 2 ∨ _
    split <;> omega
theorem jn_ok {v : Nat → Nat} {od : Nat → Nat → Nat} {a b : Nat} : (jnV v od a b 4 ≤ 1 ∨ jnV v od a b 4 = v 4) ∧ ∀ i, i ≠ 4 → jnV v od a b i = v i := by
  unfold jnV
  split
  · exact ⟨Or.inl (by rw [uN_s]; omega), fun i hi => uN_n hi⟩
  · exact ⟨Or.inr rfl, fun i _ => rfl⟩
theorem rMark_ok {k p : Nat} {r : Rs} (hk : k < 2) (hs : r.v 0 = 3 ∨ r.v 0 = 4) (hP : PIr p r) (hE : PEx r) : PIr (p + 1) (rMark k r) ∧ PEx (rMark k r) := by
  obtain ⟨p0, p1, p2, p3, p4, p5, p6, p7, p8, p9, p10, p11⟩ := hP
  obtain ⟨q1, q2, q3⟩ := hE
  unfold rMark
  split
  · refine ⟨⟨by show 3 ≤ 4; omega, by show r.v 1 ≤ p + 1; omega, p2, by show 1 ≤ 1 ∧ 1 ≤ 3; omega, p4, by show r.v 5 ≤ p + 1; omega, fun _ => p6 (by omega), p7, fun i hi => ?_, p9, p10, p11⟩, Or.inr (Or.inr rfl), q2, q3⟩
    have := p8 i hi
    show uN r.ma k (r.v 2) i ≤ r.v 5 ∧ uN r.mo k (r.v 3) i ≤ 3
    by_cases z : i = k
    · rw [z, uN_s, uN_s]; omega
    · rw [uN_n z, uN_n z]; exact this
  · obtain ⟨j1, j2⟩ := @jn_ok (if r.mo k = r.v 3 then r.v else uN r.v 4 1) r.od (r.ma k - 1) (r.v 2 - 1)
    have e : ∀ i, i ≠ 4 → jnV (if r.mo k = r.v 3 then r.v else uN r.v 4 1) r.od (r.ma k - 1) (r.v 2 - 1) i = r.v i := fun i hi => by
      rw [j2 i hi]
      split
      · rfl
      · rw [uN_n hi]
    have e4 : jnV (if r.mo k = r.v 3 then r.v else uN r.v 4 1) r.od (r.ma k - 1) (r.v 2 - 1) 4 ≤ 1 := by
      rcases j1 with z | z
      · exact z
      · rw [z]
        split
        · exact p4
        · rw [uN_s]; omega
    have w : (∀ i j, i < r.v 5 → j < r.v 5 → jnO r.od (r.ma k - 1) (r.v 2 - 1) (r.v 3) i j < 4 ∧ jnO r.od (r.ma k - 1) (r.v 2 - 1) (r.v 3) i j = jnO r.od (r.ma k - 1) (r.v 2 - 1) (r.v 3) j i) ∧ (∀ i, i < r.v 5 → jnO r.od (r.ma k - 1) (r.v 2 - 1) (r.v 3) i i = 0) := by
      unfold jnO
      split
      · exact ⟨p10, p11⟩
      · exact oset_g (by omega) (by omega) p10 p11
    have E1 := e 1 (by omega)
    have E2 := e 2 (by omega)
    have E5 := e 5 (by omega)
    refine ⟨⟨by show 3 ≤ 4; omega, ?_, ?_, by show 1 ≤ 1 ∧ 1 ≤ 3; omega, e4, ?_, fun _ => ?_, fun i hi => ?_, fun i hi => ?_, fun i hi => ?_, fun i j hi hj => ?_, fun i hi => ?_⟩, Or.inr (Or.inr rfl), ?_, ?_⟩
    · show jnV _ _ _ _ 1 ≤ p + 1
      omega
    · show jnV _ _ _ _ 2 ≤ jnV _ _ _ _ 5
      omega
    · show jnV _ _ _ _ 5 ≤ p + 1
      omega
    · show 1 ≤ jnV _ _ _ _ 2
      have := p6 (by omega)
      omega
    · have hi : i < jnV _ _ _ _ 1 := hi
      have := p7 i (by omega)
      show 1 ≤ r.sk i ∧ r.sk i ≤ jnV _ _ _ _ 5
      omega
    · have := p8 i hi
      show uN r.ma k 0 i ≤ jnV _ _ _ _ 5 ∧ r.mo i ≤ 3
      by_cases z : i = k
      · rw [z, uN_s]; subst z; omega
      · rw [uN_n z]; omega
    · have hi : i < jnV _ _ _ _ 5 := hi
      exact p9 i (by omega)
    · have hi : i < jnV _ _ _ _ 5 := hi
      have hj : j < jnV _ _ _ _ 5 := hj
      exact w.1 i j (by omega) (by omega)
    · have hi : i < jnV _ _ _ _ 5 := hi
      exact w.2 i (by omega)
    · intro hz
      have hz : jnV _ _ _ _ 5 ≠ 0 := hz
      show 1 ≤ jnV _ _ _ _ 2
      have := q2 (by omega)
      omega
    · intro i hi hi2
      have hi2 : i < jnV _ _ _ _ 5 := hi2
      obtain ⟨j, hj, hn⟩ := q3 i hi (by omega)
      refine ⟨j, hj, ?_⟩
      show jnO r.od (r.ma k - 1) (r.v 2 - 1) (r.v 3) i j ≠ 0
      unfold jnO
      split
      · exact hn
      · exact oset_t (by omega) hn
theorem rOpen_ok {p : Nat} {r : Rs} (hs : r.v 0 = 3) (hP : PIr p r) (hE : PEx r) : PIr (p + 1) (rOpen r) ∧ PEx (rOpen r) := by
  obtain ⟨p0, p1, p2, p3, p4, p5, p6, p7, p8, p9, p10, p11⟩ := hP
  obtain ⟨q1, q2, q3⟩ := hE
  refine ⟨⟨by show 1 ≤ 4; omega, by show r.v 1 + 1 ≤ p + 1; omega, p2, by show 1 ≤ 1 ∧ 1 ≤ 3; omega, p4, by show r.v 5 ≤ p + 1; omega, fun _ => p6 (by omega), fun i hi => ?_, p8, p9, p10, p11⟩, Or.inr (Or.inr rfl), q2, q3⟩
  have hi : i < r.v 1 + 1 := hi
  show 1 ≤ uN r.sk (r.v 1) (r.v 2) i ∧ uN r.sk (r.v 1) (r.v 2) i ≤ r.v 5
  by_cases z : i = r.v 1
  · rw [z, uN_s]; exact ⟨p6 (by omega), p2⟩
  · rw [uN_n z]; exact p7 i (by omega)
theorem rClose_ok {p : Nat} {r : Rs} (hs : r.v 0 = 3 ∧ r.v 1 ≠ 0) (hP : PIr p r) (hE : PEx r) : PIr (p + 1) (rClose r) ∧ PEx (rClose r) := by
  obtain ⟨p0, p1, p2, p3, p4, p5, p6, p7, p8, p9, p10, p11⟩ := hP
  obtain ⟨q1, q2, q3⟩ := hE
  have := p7 (r.v 1 - 1) (by omega)
  refine ⟨⟨p0, by show r.v 1 - 1 ≤ p + 1; omega, this.2, p3, p4, by show r.v 5 ≤ p + 1; omega, fun _ => this.1, fun i hi => ?_, p8, p9, p10, p11⟩, q1, fun _ => this.1, q3⟩
  have hi : i < r.v 1 - 1 := hi
  exact p7 i (by omega)
theorem rstep_ok {k p : Nat} {r r' : Rs} (hP : PIr p r) (hE : PEx r) (hs : rstep k r = some r') : PIr (p + 1) r' ∧ PEx r' := by
  unfold rstep at hs
  split at hs
  · cases hs; exact rLet_ok (by assumption) hP hE
  split at hs
  · split at hs
    · cases hs; exact rLink_ok (by omega) (by assumption) hP hE
    · cases hs
  split at hs
  · split at hs
    · cases hs; exact rMark_ok (by omega) (by assumption) hP hE
    · cases hs
  split at hs
  · split at hs
    · cases hs; exact rOpen_ok (by assumption) hP hE
    · cases hs
  split at hs
  · split at hs
    · cases hs; exact rClose_ok (by assumption) hP hE
    · cases hs
  · cases hs
def rs0 : Rs := ⟨fun i => if i = 3 then 1 else 0, fun _ => 0, fun _ => 0, fun _ => 0, fun _ => 0, fun _ _ => 0⟩
def rrun (f : Nat → Nat) : Nat → Option Rs
  | 0 => some rs0
  | p + 1 => match rrun f p with
    | none => none
    | some r => rstep (f p) r
theorem rs0_ok : PIr 0 rs0 ∧ PEx rs0 := ⟨⟨by decide, by decide, by decide, by decide, by decide, by decide, fun h => absurd rfl h, fun i hi => absurd hi (Nat.not_lt_zero i), fun i _ => ⟨Nat.le_refl 0, Nat.zero_le 3⟩, fun i hi => absurd hi (Nat.not_lt_zero i), fun i j hi => absurd hi (Nat.not_lt_zero i), fun i hi => absurd hi (Nat.not_lt_zero i)⟩, Or.inr (Or.inr rfl), fun h => absurd rfl h, fun i _ hi => absurd hi (Nat.not_lt_zero i)⟩
theorem rrun_ok {f : Nat → Nat} : ∀ {p : Nat} {r : Rs}, rrun f p = some r → PIr p r ∧ PEx r
  | 0, r, h => by
    have h : some rs0 = some r := h
    cases h
    exact rs0_ok
  | p + 1, r, h => by
    have h : (match rrun f p with | none => none | some r => rstep (f p) r) = some r := h
    cases hq : rrun f p with
    | none => rw [hq] at h; cases h
    | some q =>
      rw [hq] at h
      have := rrun_ok hq
      exact rstep_ok this.1 this.2 h
theorem rrun_S {f : Nat → Nat} {p : Nat} {r : Rs} (h : rrun f p = some r) : rrun f (p + 1) = rstep (f p) r := by
  show (match rrun f p with | none => none | some r => rstep (f p) r) = _
  rw [h]
section
variable {lx : am_Lx} {d : Nat} {h : am_H} {Q : am_Q} {r : Rs}
theorem sp_109 (hd : 4 ≤ d) {p : Nat} {x : Int32} (hx : 0 ≤ x ∧ x < 65536) (hI : RdR h r) (hP : PIr p r) (hp : p < 24) (hno : rstep (chK x) r = none → Q (some (.int 0)) h) (hyes : ∀ h' r', rstep (chK x) r = some r' → am_fr rdP h h' → RdR h' r' → Q (some (.int 1)) h') : am_KA lx d 109 [.ref 3, .int x] h Q := by
  have h1 := hI.1
  obtain ⟨p0, p1, p2, p3, p4, p5, p6, p7, p8, p9, p10, p11⟩ := id hP
  obtain ⟨e, rfl⟩ : ∃ e, d = e + 1 := ⟨d - 1, by omega⟩
  have G : am_GK (am_KA lx e) cd_109 := ⟨am_KA_m lx e, cm_109⟩
  refine am_KA_in (by decide) (Nat.le_of_ble_eq_true rfl) ?_
  show am_Go (am_KA lx e) (am_fetch cd_109) Q 0 [some (.ref 3), some (.int x), none, none, none] [] h 0 0
  refine r_ldcs G (pn := 2) rfl rfl  ?_
  refine r_il G (pn := 3) rfl rfl rfl ?_
  refine r_ixof G (pn := 6) rfl rfl (Or.inl rfl) hx (Nat.le_of_ble_eq_true rfl) ?_
  rw [show am_ixf x (am_txt (1 : UInt32).toNat) 0 = _ from chK_ix1 x]
  by_cases k4 : chK x < 4
  · rw [if_pos k4]
    refine r_is G (pn := 7) rfl rfl (Nat.le_of_ble_eq_true rfl) ?_
    refine r_il G (pn := 8) rfl rfl rfl ?_
    refine r_if1 G (pn := 11) rfl rfl (fun c8 => ?_) (fun c8 => ?_)
    · exact absurd c8 (nI_pos (by omega))
    · refine r_ra G (pn := 12) rfl rfl rfl ?_
      refine r_il G (pn := 13) rfl rfl rfl ?_
      have e4 : rstep (chK x) r = some (rLet (chK x) r) := by unfold rstep; rw [if_pos k4]
      refine r_inv2 G (pn := 16) rfl rfl h1 (Nat.le_of_ble_eq_true rfl) (Nat.le_of_ble_eq_true rfl) (Nat.le_of_ble_eq_true rfl) (sp_110 (by omega) hI (by omega) p2 (fun i j hi hj => (p10 i j hi hj).1) (fun h' hf' hI' => ?_))
      show am_Go (am_KA lx e) (am_fetch cd_109) Q 16 [some (.ref 3), some (.int x), some (.int (nI (chK x))), none, none] [.int 1] h' 0 0
      refine r_iret G rfl (by decide) (hyes h' (rLet (chK x) r) e4 hf' ?_)
      unfold rLet
      by_cases z : r.v 2 = 0
      · simp only [if_pos z] at hI' ⊢
        exact hI'
      · simp only [if_neg z] at hI' ⊢
        rw [(jn_fresh (o := 0) (by omega)).1, (jn_fresh (v := r.v) (by omega)).2] at hI'
        exact hI'
  rw [if_neg k4]
  refine r_is G (pn := 7) rfl rfl (Nat.le_of_ble_eq_true rfl) ?_
  refine r_il G (pn := 8) rfl rfl rfl ?_
  refine r_if1 G (pn := 11) rfl rfl (fun c8 => ?_) (fun c8 => ?_)
  rotate_left
  · exact absurd (by decide) c8
  refine r_ldcs G (pn := 19) rfl rfl  ?_
  refine r_il G (pn := 20) rfl rfl rfl ?_
  refine r_ixof G (pn := 23) rfl rfl (Or.inr (Or.inl rfl)) hx (Nat.le_of_ble_eq_true rfl) ?_
  rw [show am_ixf x (am_txt (2 : UInt32).toNat) 0 = _ from chK_ix2 x k4]
  by_cases k7 : chK x < 7
  · rw [if_pos k7]
    refine r_is G (pn := 24) rfl rfl (Nat.le_of_ble_eq_true rfl) ?_
    refine r_il G (pn := 25) rfl rfl rfl ?_
    refine r_if1 G (pn := 28) rfl rfl (fun c25 => ?_) (fun c25 => ?_)
    · exact absurd c25 (nI_pos (by omega))
    · refine r_ra G (pn := 29) rfl rfl rfl ?_
      refine r_il G (pn := 30) rfl rfl rfl ?_
      refine r_ic G (pn := 31) rfl rfl  ?_
      refine r_ib G (pn := 32) rfl rfl  ?_
      rw [show nI (chK x - 4) + 1 = nI (chK x - 3) by rw [nI_1]; congr 1; omega]
      have e4 : rstep (chK x) r = if r.v 0 = 3 ∨ r.v 0 = 1 then some (rLink (chK x - 3) r) else none := by unfold rstep; rw [if_neg k4, if_pos k7]
      refine r_inv2 G (pn := 35) rfl rfl h1 (Nat.le_of_ble_eq_true rfl) (Nat.le_of_ble_eq_true rfl) (Nat.le_of_ble_eq_true rfl) (sp_111 (by omega) hI p0 (fun z1 z2 => ?_) (fun h' hs hf' hI' => ?_))
      · show am_Go (am_KA lx e) (am_fetch cd_109) Q 35 [some (.ref 3), some (.int x), some (.int (-1)), some (.int (nI (chK x - 4))), none] [.int 0] h 0 0
        refine r_iret G rfl (by decide) (hno (by rw [e4, if_neg (by omega)]))
      · show am_Go (am_KA lx e) (am_fetch cd_109) Q 35 [some (.ref 3), some (.int x), some (.int (-1)), some (.int (nI (chK x - 4))), none] [.int 1] h' 0 0
        refine r_iret G rfl (by decide) (hyes h' (rLink (chK x - 3) r) (by rw [e4, if_pos hs]) hf' hI')
  rw [if_neg k7]
  refine r_is G (pn := 24) rfl rfl (Nat.le_of_ble_eq_true rfl) ?_
  refine r_il G (pn := 25) rfl rfl rfl ?_
  refine r_if1 G (pn := 28) rfl rfl (fun c25 => ?_) (fun c25 => ?_)
  rotate_left
  · exact absurd (by decide) c25
  refine r_ldcs G (pn := 38) rfl rfl  ?_
  refine r_il G (pn := 39) rfl rfl rfl ?_
  refine r_ixof G (pn := 42) rfl rfl (Or.inr (Or.inr rfl)) hx (Nat.le_of_ble_eq_true rfl) ?_
  rw [show am_ixf x (am_txt (3 : UInt32).toNat) 0 = _ from chK_ix3 x k7]
  by_cases k9 : chK x < 9
  · rw [if_pos k9]
    refine r_is G (pn := 44) rfl rfl (Nat.le_of_ble_eq_true rfl) ?_
    refine r_il G (pn := 46) rfl rfl rfl ?_
    refine r_if1 G (pn := 49) rfl rfl (fun c46 => ?_) (fun c46 => ?_)
    · exact absurd c46 (nI_pos (by omega))
    · refine r_ra G (pn := 50) rfl rfl rfl ?_
      refine r_il G (pn := 52) rfl rfl rfl ?_
      have e4 : rstep (chK x) r = if r.v 0 = 3 ∨ r.v 0 = 4 then some (rMark (chK x - 7) r) else none := by unfold rstep; rw [if_neg k4, if_neg k7, if_pos k9]
      refine r_inv2 G (pn := 55) rfl rfl h1 (Nat.le_of_ble_eq_true rfl) (Nat.le_of_ble_eq_true rfl) (Nat.le_of_ble_eq_true rfl) (sp_112 (by omega) (by omega) hI hP hp (fun z1 => ?_) (fun h' hs hf' hI' => ?_))
      · show am_Go (am_KA lx e) (am_fetch cd_109) Q 55 [some (.ref 3), some (.int x), some (.int (-1)), some (.int (-1)), some (.int (nI (chK x - 7)))] [.int 0] h 0 0
        refine r_iret G rfl (by decide) (hno (by rw [e4, if_neg z1]))
      · show am_Go (am_KA lx e) (am_fetch cd_109) Q 55 [some (.ref 3), some (.int x), some (.int (-1)), some (.int (-1)), some (.int (nI (chK x - 7)))] [.int 1] h' 0 0
        refine r_iret G rfl (by decide) (hyes h' (rMark (chK x - 7) r) (by rw [e4, if_pos hs]) hf' hI')
  rw [if_neg k9]
  refine r_is G (pn := 44) rfl rfl (Nat.le_of_ble_eq_true rfl) ?_
  refine r_il G (pn := 46) rfl rfl rfl ?_
  refine r_if1 G (pn := 49) rfl rfl (fun c46 => ?_) (fun c46 => ?_)
  rotate_left
  · exact absurd (by decide) c46
  obtain ⟨q40, q41⟩ := chK_40 x k9
  refine r_il G (pn := 57) rfl rfl rfl ?_
  refine r_ic G (pn := 59) rfl rfl  ?_
  refine r_if2 G (pn := 62) rfl rfl (fun c59 => ?_) (fun c59 => ?_)
  · have k10 : ¬ chK x < 10 := fun z => c59 (q40.mpr z)
    refine r_il G (pn := 68) rfl rfl rfl ?_
    refine r_ic G (pn := 70) rfl rfl  ?_
    refine r_if2 G (pn := 73) rfl rfl (fun c70 => ?_) (fun c70 => ?_)
    · refine r_ic G (pn := 85) rfl rfl  ?_
      refine r_iret G rfl (by decide) (hno ?_)
      unfold rstep
      rw [if_neg k4, if_neg k7, if_neg k9, if_neg k10, if_neg (fun z => c70 (q41.mpr (by omega)))]
    · have k11 : chK x < 11 := by
        have := q41.mp (Classical.byContradiction c70)
        omega
      have e4 : rstep (chK x) r = if r.v 0 = 3 ∧ r.v 1 ≠ 0 then some (rClose r) else none := by unfold rstep; rw [if_neg k4, if_neg k7, if_neg k9, if_neg k10, if_pos k11]
      refine r_ra G (pn := 74) rfl rfl rfl ?_
      refine r_inv1 G (pn := 77) rfl rfl h1 (Nat.le_of_ble_eq_true rfl) (Nat.le_of_ble_eq_true rfl) (Nat.le_of_ble_eq_true rfl) (sp_114 (by omega) hI p0 (by omega) (fun z1 => ?_) (fun h' w hs hw hf' hI' => ?_))
      · show am_Go (am_KA lx e) (am_fetch cd_109) Q 77 [some (.ref 3), some (.int x), some (.int (-1)), some (.int (-1)), some (.int (-1))] [.int 0] h 0 0
        refine r_if1 G (pn := 80) rfl rfl (fun c77 => ?_) (fun c77 => ?_)
        · refine r_ic G (pn := 85) rfl rfl  ?_
          refine r_iret G rfl (by decide) (hno (by rw [e4, if_neg (by omega)]))
        · exact absurd rfl c77
      · show am_Go (am_KA lx e) (am_fetch cd_109) Q 77 [some (.ref 3), some (.int x), some (.int (-1)), some (.int (-1)), some (.int (-1))] [.int 1] h' 0 0
        refine r_if1 G (pn := 80) rfl rfl (fun c77 => ?_) (fun c77 => ?_)
        · exact absurd c77 (by decide)
        · refine r_ic G (pn := 81) rfl rfl  ?_
          refine r_goto G rfl ?_
          refine r_iret G rfl (by decide) (hyes h' (rClose r) (by rw [e4, if_pos (by omega)]) hf' ?_)
          unfold rClose
          rw [hw, Nat.add_sub_cancel]
          exact hI'
  · have k10 : chK x < 10 := q40.mp (Classical.byContradiction c59)
    have e4 : rstep (chK x) r = if r.v 0 = 3 then some (rOpen r) else none := by unfold rstep; rw [if_neg k4, if_neg k7, if_neg k9, if_pos k10]
    refine r_ra G (pn := 63) rfl rfl rfl ?_
    refine r_inv1 G (pn := 66) rfl rfl h1 (Nat.le_of_ble_eq_true rfl) (Nat.le_of_ble_eq_true rfl) (Nat.le_of_ble_eq_true rfl) (sp_113 (by omega) hI p0 (by omega) (fun z1 => ?_) (fun h' hs hf' hI' => ?_))
    · show am_Go (am_KA lx e) (am_fetch cd_109) Q 66 [some (.ref 3), some (.int x), some (.int (-1)), some (.int (-1)), some (.int (-1))] [.int 0] h 0 0
      refine r_iret G rfl (by decide) (hno (by rw [e4, if_neg z1]))
    · show am_Go (am_KA lx e) (am_fetch cd_109) Q 66 [some (.ref 3), some (.int x), some (.int (-1)), some (.int (-1)), some (.int (-1))] [.int 1] h' 0 0
      refine r_iret G rfl (by decide) (hyes h' (rOpen r) (by rw [e4, if_pos hs]) hf' hI')
end
