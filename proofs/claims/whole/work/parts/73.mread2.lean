theorem nI_24 (a b : Nat) : (24 : Int32) * nI a + nI b = nI (24 * a + b) := by
  rw [show (24 : Int32) * nI a = nI (24 * a) from pk_mul 24 _, nI_add]
/-- the model's drawing after some characters -/
def MrI (h : am_H) (m : Nat → Int32) (r : Rs) : Prop := h[81]? = some (mO m) ∧ m 19 = nI (r.v 5) ∧ m 23 = nI (r.v 4) ∧ (∃ f, h[93]? = some (aI 24 f) ∧ ∀ i, i < r.v 5 → f i = nI (r.cd i)) ∧ (∃ f, h[94]? = some (aI 576 f) ∧ ∀ i j, i < 24 → j < 24 → f (24 * i + j) = nI (if i < r.v 5 ∧ j < r.v 5 then r.od i j else 0)) ∧ (∃ f, h[95]? = some (aI 24 f) ∧ ∀ i, i < r.v 1 → f i = nI (r.sk i) - 1)
def mrP (i : Nat) : Prop := i = 81 ∨ i = 93 ∨ i = 94 ∨ i = 95
def mrM (m m' : Nat → Int32) : Prop := ∀ i, i ≠ 19 → i ≠ 23 → m' i = m i
section
variable {lx : am_Lx} {d : Nat} {h : am_H} {Q : am_Q} {m : Nat → Int32}
theorem sp_33 (hd : 1 ≤ d) {a b o : Nat} {fo : Nat → Int32} {od : Nat → Nat → Nat} (hM : h[81]? = some (mO m)) (h94 : h[94]? = some (aI 576 fo)) (hfo : ∀ i j, i < 24 → j < 24 → fo (24 * i + j) = nI (od i j)) (ha : a < 24) (hb : b < 24) (hod : od a b < 4) (hc : (a = b ∨ od a b ≠ 0) → Q none (h.set 81 (mO (upd m 23 1)))) (hs : ∀ fo', ¬ (a = b ∨ od a b ≠ 0) → (∀ i j, i < 24 → j < 24 → fo' (24 * i + j) = nI (oset od a b o i j)) → Q none (h.set 94 (aI 576 fo'))) : am_KA lx d 33 [.ref 81, .int (nI a), .int (nI b), .int (nI o)] h Q := by
  obtain ⟨e, rfl⟩ : ∃ e, d = e + 1 := ⟨d - 1, by omega⟩
  have G : am_GK (am_KA lx e) cd_33 := ⟨am_KA_m lx e, cm_33⟩
  refine am_KA_in (by decide) (Nat.le_of_ble_eq_true rfl) ?_
  show am_Go (am_KA lx e) (am_fetch cd_33) Q 0 [some (.ref 81), some (.int (nI a)), some (.int (nI b)), some (.int (nI o))] [] h 0 0
  have cl : (a = b ∨ od a b ≠ 0) → am_Go (am_KA lx e) (am_fetch cd_33) Q 19 [some (.ref 81), some (.int (nI a)), some (.int (nI b)), some (.int (nI o))] [] h 0 0 := by
    intro z
    refine r_ra G (pn := 20) rfl rfl rfl ?_
    refine r_ic G (pn := 21) rfl rfl  ?_
    refine r_putz G (pn := 24) rfl rfl (by first | assumption | (repeat (first | assumption | exact am_eq (by first | assumption | exact am_eq (by assumption) | exact am_ne (by first | decide | omega) (by assumption)) | refine am_ne (by first | decide | omega) ?_))) (Nat.le_of_ble_eq_true rfl) (by first | exact Or.inl rfl | exact Or.inr rfl | assumption) ?_
    refine r_vret G rfl (hc z)
  refine r_il G (pn := 1) rfl rfl rfl ?_
  refine r_il G (pn := 2) rfl rfl rfl ?_
  refine r_if2 G (pn := 5) rfl rfl (fun c2 => ?_) (fun c2 => ?_)
  · exact cl (Or.inl ((nI_eq (by omega) (by omega)).mp c2))
  have hab : a ≠ b := fun z => c2 (by rw [z])
  refine r_ra G (pn := 6) rfl rfl rfl ?_
  refine r_get G (pn := 9) rfl rfl (by first | assumption | (repeat (first | assumption | exact am_eq (by first | assumption | exact am_eq (by assumption) | exact am_ne (by first | decide | omega) (by assumption)) | refine am_ne (by first | decide | omega) ?_))) rfl ?_
  refine r_ic G (pn := 11) rfl rfl  ?_
  refine r_il G (pn := 12) rfl rfl rfl ?_
  refine r_ib G (pn := 13) rfl rfl  ?_
  refine r_il G (pn := 14) rfl rfl rfl ?_
  refine r_ib G (pn := 15) rfl rfl  ?_
  rw [nI_24]
  refine r_ialdN G (pn := 16) rfl rfl h94 (by omega) (by omega) ?_
  rw [hfo a b ha hb]
  refine r_if1 G (pn := 19) rfl rfl (fun c16 => ?_) (fun c16 => ?_)
  rotate_left
  · exact cl (Or.inr (fun z => c16 (by rw [z]; rfl)))
  have z0 : od a b = 0 := (nI_eq (b := 0) (by omega) (by omega)).mp c16
  refine r_ra G (pn := 26) rfl rfl rfl ?_
  refine r_get G (pn := 29) rfl rfl (by first | assumption | (repeat (first | assumption | exact am_eq (by first | assumption | exact am_eq (by assumption) | exact am_ne (by first | decide | omega) (by assumption)) | refine am_ne (by first | decide | omega) ?_))) rfl ?_
  refine r_ic G (pn := 31) rfl rfl  ?_
  refine r_il G (pn := 32) rfl rfl rfl ?_
  refine r_ib G (pn := 33) rfl rfl  ?_
  refine r_il G (pn := 34) rfl rfl rfl ?_
  refine r_ib G (pn := 35) rfl rfl  ?_
  rw [nI_24]
  refine r_il G (pn := 36) rfl rfl rfl ?_
  refine r_iastN G (pn := 37) rfl rfl h94 (by omega) (by omega) ?_
  refine r_ra G (pn := 38) rfl rfl rfl ?_
  refine r_get G (pn := 41) rfl rfl (am_ne (by decide) hM) rfl ?_
  refine r_ic G (pn := 43) rfl rfl  ?_
  refine r_il G (pn := 44) rfl rfl rfl ?_
  refine r_ib G (pn := 45) rfl rfl  ?_
  refine r_il G (pn := 46) rfl rfl rfl ?_
  refine r_ib G (pn := 47) rfl rfl  ?_
  rw [nI_24]
  refine r_il G (pn := 48) rfl rfl rfl ?_
  refine r_iastN G (pn := 49) rfl rfl (am_eq h94) (by omega) (by omega) ?_
  rw [List.set_set]
  refine r_vret G rfl (hs _ (by omega) (fun i j hi hj => ?_))
  unfold oset
  by_cases z : i = b ∧ j = a
  · rw [if_pos (Or.inr z), z.1, z.2, pk_us]
  · rw [pk_un (by omega)]
    by_cases y : i = a ∧ j = b
    · rw [if_pos (Or.inl y), y.1, y.2, pk_us]
    · rw [pk_un (by omega), if_neg (by omega)]
      exact hfo i j hi hj
/-- tie on the drawing -/
theorem sp_33m (hd : 1 ≤ d) {a b o : Nat} {r : Rs} (hI : MrI h m r) (h5 : r.v 5 ≤ 24) (ha : a < r.v 5) (hb : b < r.v 5) (ho : ∀ i j, i < r.v 5 → j < r.v 5 → r.od i j < 4) (hq : ∀ h' m', am_fr mrP h h' → mrM m m' → MrI h' m' (⟨jnV r.v r.od a b, r.sk, r.ma, r.mo, r.cd, jnO r.od a b o⟩ : Rs) → Q none h') : am_KA lx d 33 [.ref 81, .int (nI a), .int (nI b), .int (nI o)] h Q := by
  obtain ⟨hM, m19, m23, ⟨f3, h93, g3⟩, ⟨f4, h94, g4⟩, ⟨f5, h95, g5⟩⟩ := id hI
  have eab : (if a < r.v 5 ∧ b < r.v 5 then r.od a b else 0) = r.od a b := if_pos ⟨ha, hb⟩
  refine sp_33 hd (od := fun i j => if i < r.v 5 ∧ j < r.v 5 then r.od i j else 0) hM h94 g4 (by omega) (by omega) (by rw [eab]; exact ho a b ha hb) (fun z => ?_) (fun fo' z hfo => ?_)
  · rw [eab] at z
    refine hq _ (upd m 23 1) (am_fr.rf.put (Or.inl rfl)) (fun i _ hi => pk_un hi) ?_
    have e1 : jnV r.v r.od a b = uN r.v 4 1 := if_pos z
    have e2 : jnO r.od a b o = r.od := if_pos z
    rw [e1, e2]
    exact ⟨am_eq hM, m19, rfl, ⟨f3, am_ne (by decide) h93, g3⟩, ⟨f4, am_ne (by decide) h94, g4⟩, ⟨f5, am_ne (by decide) h95, g5⟩⟩
  · rw [eab] at z
    refine hq _ m (am_fr.rf.put (Or.inr (Or.inr (Or.inl rfl)))) (fun i _ hi => rfl) ?_
    have e1 : jnV r.v r.od a b = r.v := if_neg z
    have e2 : jnO r.od a b o = oset r.od a b o := if_neg z
    rw [e1, e2]
    refine ⟨am_ne (by decide) hM, m19, m23, ⟨f3, am_ne (by decide) h93, g3⟩, ⟨fo', am_eq h94, fun i j hi hj => ?_⟩, ⟨f5, am_ne (by decide) h95, g5⟩⟩
    rw [hfo i j hi hj]
    show nI (oset _ a b o i j) = nI (if i < r.v 5 ∧ j < r.v 5 then oset r.od a b o i j else 0)
    unfold oset
    by_cases y : (i = a ∧ j = b) ∨ (i = b ∧ j = a)
    · rw [if_pos y, if_pos (by omega), if_pos y]
    · rw [if_neg y, if_neg y]
end
