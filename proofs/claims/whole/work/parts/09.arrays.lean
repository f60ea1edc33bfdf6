section
variable {lx : am_Lx} {mt : Nat → am_Mt} {own nm : String} {cc : ByteArray} {nL mc ms pc : Nat} {ret : Option FieldType}
theorem am_sd_iaload (hdg : decode cc pc = .ok (.iaload, 1)) : am_Sd lx mt own nm cc nL mc ms ret pc am_iald := by
  intro p l e R s m args below meth c D cA S H0 Qw K Q X Cx Ks Rs hX ls st h k z hT H locs lsA hR hS hl hk hz
  obtain ⟨hx, hb, hml, hown, hG, hE, hnm, hH0, hfr, hlo, hRc, hRs⟩ := Cx
  unfold am_iald at hT
  split at hT
  · next i a r =>
    split at hT
    · next ty n f heq =>
      obtain ⟨rfl, hi, hT⟩ := hT
      exact va_iald (D := D) (cl := am_cl) (tys := am_tys cA) hx hb hE.1 hR.2.2 a 0 (am_conc_some heq) rfl hi hdg (hX _ _ _ _ _ _ hT H locs lsA hR hS hl hk hz)
    · exact hT.elim
  · exact hT.elim
theorem am_sd_caload (hdg : decode cc pc = .ok (.caload, 1)) : am_Sd lx mt own nm cc nL mc ms ret pc am_cald := by
  intro p l e R s m args below meth c D cA S H0 Qw K Q X Cx Ks Rs hX ls st h k z hT H locs lsA hR hS hl hk hz
  obtain ⟨hx, hb, hml, hown, hG, hE, hnm, hH0, hfr, hlo, hRc, hRs⟩ := Cx
  unfold am_cald at hT
  split at hT
  · next i a r =>
    split at hT
    · next ty n f heq =>
      obtain ⟨rfl, hi, hT⟩ := hT
      exact va_cald (D := D) (cl := am_cl) (tys := am_tys cA) hx hb hE.1 hR.2.2 a 2 (am_conc_some heq) rfl hi hdg (hX _ _ _ _ _ _ hT H locs lsA hR hS hl hk hz)
    · exact hT.elim
  · exact hT.elim
theorem am_sd_laload (hdg : decode cc pc = .ok (.laload, 1)) : am_Sd lx mt own nm cc nL mc ms ret pc am_lald := by
  intro p l e R s m args below meth c D cA S H0 Qw K Q X Cx Ks Rs hX ls st h k z hT H locs lsA hR hS hl hk hz
  obtain ⟨hx, hb, hml, hown, hG, hE, hnm, hH0, hfr, hlo, hRc, hRs⟩ := Cx
  unfold am_lald at hT
  split at hT
  · next i a r =>
    split at hT
    · next ty n f heq =>
      obtain ⟨rfl, hi, hT⟩ := hT
      exact va_lald (D := D) (cl := am_cl) (tys := am_tys cA) hx hb hE.1 hR.2.2 a 1 (am_conc_some heq) rfl hi hdg (hX _ _ _ _ _ _ hT H locs lsA hR hS hl hk hz)
    · exact hT.elim
  · exact hT.elim
theorem am_sd_len (hdg : decode cc pc = .ok (.arraylength, 1)) : am_Sd lx mt own nm cc nL mc ms ret pc am_len := by
  intro p l e R s m args below meth c D cA S H0 Qw K Q X Cx Ks Rs hX ls st h k z hT H locs lsA hR hS hl hk hz
  obtain ⟨hx, hb, hml, hown, hG, hE, hnm, hH0, hfr, hlo, hRc, hRs⟩ := Cx
  unfold am_len at hT
  split at hT
  · next a r =>
    split at hT
    · next ty n f heq =>
      obtain ⟨rfl, hT⟩ := hT
      exact va_alen (D := D) (cl := am_cl) (tys := am_tys cA) hx hb hE.1 hR.2.2 a 0 (am_conc_some heq) (ty := .int) rfl (by rcases f with f | f | f | f | f <;> rfl) hdg (hX _ _ _ _ _ _ hT H locs lsA hR hS hl hk hz)
    · exact hT.elim
  · exact hT.elim
theorem am_cv_rf (S : Nat → Nat) (B : Nat) (o : Option Nat) : am_cv S B (va_rf o) = va_rf (o.map (fun k => B + k)) := by cases o <;> rfl
theorem am_sd_aaload {ty0 : FieldType} (ht : ty0 ∈ am_tyl) (hr : refKind ty0 = true) (hdg : decode cc pc = .ok (.aaload, 1)) : am_Sd lx mt own nm cc nL mc ms ret pc (am_rald ty0) := by
  intro p l e R s m args below meth c D cA S H0 Qw K Q X Cx Ks Rs hX ls st h k z hT H locs lsA hR hS hl hk hz
  obtain ⟨hx, hb, hml, hown, hG, hE, hnm, hH0, hfr, hlo, hRc, hRs⟩ := Cx
  unfold am_rald at hT
  split at hT
  · next i a r =>
    split at hT
    · next ty n f heq =>
      obtain ⟨rfl, hi, hT⟩ := hT
      obtain ⟨t0, ht0⟩ := am_tys_at (cA := cA) ht
      have hlt : i.toNatClampNeg < n := Nat.not_le.mp fun q => hi (Or.inr q)
      have hcell : H[H0.size + a]? = some (arrV (cA ty) n (fun j => va_rf ((f j).map (fun k => H0.size + k)))) := hR.2.2 a _ (am_conc_some heq)
      have hgo := hX _ _ _ _ _ _ hT H locs lsA hR hS hl hk hz
      rw [List.map_cons, am_cv_rf] at hgo
      refine W.aald (v := va_rf ((f i.toNatClampNeg).map (fun k => H0.size + k))) (ty := ty) hx hb hcell ((hE.1.2 t0 _ ht0).1 n (fun j => va_rf ((f j).map (fun k => H0.size + k)))) ?_ (fun q => by cases q) (by show ¬ (i < 0 ∨ (arrV _ _ _).slots.size ≤ _); rw [arrV_size]; exact hi) (by show (arrV _ _ _).slots[_]? = _; rw [arrV_read _ _ hlt]) rfl rfl hdg hgo
      exact hr
    · exact hT.elim
  · exact hT.elim
theorem am_sd_iastore (hdg : decode cc pc = .ok (.iastore, 1)) : am_Sd lx mt own nm cc nL mc ms ret pc am_iast := by
  intro p l e R s m args below meth c D cA S H0 Qw K Q X Cx Ks Rs hX ls st h k z hT H locs lsA hR hS hl hk hz
  obtain ⟨hx, hb, hml, hown, hG, hE, hnm, hH0, hfr, hlo, hRc, hRs⟩ := Cx
  unfold am_iast at hT
  split at hT
  · next x i a r =>
    split at hT
    · next ty n f heq =>
      obtain ⟨rfl, hi, hT⟩ := hT
      have hcell := hR.2.2 a _ (am_conc_some heq)
      refine W.iast hx hb hcell ((hE.1.2 0 (cA .int, .int) rfl).1 n (fun j => .int (f j))) (fun q => by cases q) (by show ¬ (i < 0 ∨ (arrV _ _ _).slots.size ≤ _); rw [arrV_size]; exact hi) rfl rfl hdg fun H' e1 e2 e3 => ?_
      refine hX _ _ _ _ _ _ hT H' _ lsA (hR.set heq ?_ e2 e3) (am_S_put hS e2 e3) hl hk hz
      show H'[H0.size + a]? = some (vp_cell _ _)
      rw [e1]
      show some ((vp_cell (cA .int) (n, .inl f)).setSlot _ _) = some (vp_cell (cA .int) (n, .inl _))
      rw [vp_cell_i, vp_cell_i, arrV_store]
      congr 2
      funext q
      by_cases hq : q = i.toNatClampNeg
      · subst hq
        simp [updV, upd]
      · simp [updV, upd, hq]
    · exact hT.elim
  · exact hT.elim
theorem am_sd_castore (hdg : decode cc pc = .ok (.castore, 1)) : am_Sd lx mt own nm cc nL mc ms ret pc am_cast := by
  intro p l e R s m args below meth c D cA S H0 Qw K Q X Cx Ks Rs hX ls st h k z hT H locs lsA hR hS hl hk hz
  obtain ⟨hx, hb, hml, hown, hG, hE, hnm, hH0, hfr, hlo, hRc, hRs⟩ := Cx
  unfold am_cast at hT
  split at hT
  · next x i a r =>
    split at hT
    · next ty n f heq =>
      obtain ⟨rfl, hi, hT⟩ := hT
      have hcell := hR.2.2 a _ (am_conc_some heq)
      refine W.cast hx hb hcell ((hE.1.2 2 (cA .char, .char) rfl).1 n (fun j => .int (f j))) (fun q => by cases q) (by show ¬ (i < 0 ∨ (arrV _ _ _).slots.size ≤ _); rw [arrV_size]; exact hi) rfl rfl hdg fun H' e1 e2 e3 => ?_
      refine hX _ _ _ _ _ _ hT H' _ lsA (hR.set heq ?_ e2 e3) (am_S_put hS e2 e3) hl hk hz
      show H'[H0.size + a]? = some (vp_cell _ _)
      rw [e1]
      show some ((vp_cell (cA .char) (n, .inl f)).setSlot _ _) = some (vp_cell (cA .char) (n, .inl _))
      rw [vp_cell_i, vp_cell_i, arrV_store]
      congr 2
      funext q
      by_cases hq : q = i.toNatClampNeg
      · subst hq
        simp [updV, upd, vp_nar]
        try rfl
      · simp [updV, upd, hq]
    · exact hT.elim
  · exact hT.elim
theorem am_sd_lastore (hdg : decode cc pc = .ok (.lastore, 1)) : am_Sd lx mt own nm cc nL mc ms ret pc am_last := by
  intro p l e R s m args below meth c D cA S H0 Qw K Q X Cx Ks Rs hX ls st h k z hT H locs lsA hR hS hl hk hz
  obtain ⟨hx, hb, hml, hown, hG, hE, hnm, hH0, hfr, hlo, hRc, hRs⟩ := Cx
  unfold am_last at hT
  split at hT
  · next x i a r =>
    split at hT
    · next ty n f heq =>
      obtain ⟨rfl, hi, hT⟩ := hT
      have hcell := hR.2.2 a _ (am_conc_some heq)
      refine W.last hx hb hcell ((hE.1.2 1 (cA .long, .long) rfl).1 n (fun j => .long (f j))) (fun q => by cases q) (by show ¬ (i < 0 ∨ (arrV _ _ _).slots.size ≤ _); rw [arrV_size]; exact hi) rfl rfl hdg fun H' e1 e2 e3 => ?_
      refine hX _ _ _ _ _ _ hT H' _ lsA (hR.set heq ?_ e2 e3) (am_S_put hS e2 e3) hl hk hz
      show H'[H0.size + a]? = some (vp_cell _ _)
      rw [e1]
      show some ((vp_cell (cA .long) (n, .inr (.inl f))).setSlot _ _) = some (vp_cell (cA .long) (n, .inr (.inl _)))
      rw [vp_cell_l, vp_cell_l, arrV_store]
      congr 2
      funext q
      by_cases hq : q = i.toNatClampNeg
      · subst hq
        simp [updV, vp_updL]
      · simp [updV, vp_updL, hq]
    · exact hT.elim
  · exact hT.elim
theorem am_sd_aastore {C : String} {T : u_T} {N ci : Nat} (hc : am_cl[ci]? = some (C, T, N)) (ht : FieldType.object C ∈ am_tyl) (hdg : decode cc pc = .ok (.aastore, 1)) : am_Sd lx mt own nm cc nL mc ms ret pc (am_rast ci C) := by
  intro p l e R s m args below meth c D cA S H0 Qw K Q X Cx Ks Rs hX ls st h k z hT H locs lsA hR hS hl hk hz
  obtain ⟨hx, hb, hml, hown, hG, hE, hnm, hH0, hfr, hlo, hRc, hRs⟩ := Cx
  unfold am_rast at hT
  split at hT
  · next v i a r =>
    split at hT
    · next ty n f heq =>
      obtain ⟨rfl, hi, hv, hT⟩ := hT
      split at hv
      · next d fs hev =>
        subst hv
        obtain ⟨t0, ht0⟩ := am_tys_at (cA := cA) ht
        have hcell : H[H0.size + a]? = some (arrV (cA (.object C)) n (fun j => va_rf ((f j).map (fun k => H0.size + k)))) := hR.2.2 a _ (am_conc_some heq)
        obtain ⟨rr, h1, cell, q1, q2, q3, q4⟩ := hR.2.2 v _ (am_conc_some hev)
        obtain ⟨kA, comp, g1, g2, g3, g4⟩ := (hE.1.2 t0 _ ht0).2
        obtain ⟨hSl, hfc, kC, hkC, hkind⟩ := hE.1.1 d _ hc
        have hcomp : comp = D.1 d := Option.some.inj (g3.symm.trans hfc)
        subst hcomp
        have hlt : i.toNatClampNeg < n := Nat.not_le.mp fun q => hi (Or.inr q)
        refine W.aast (k := kA) (kv := kC) (kcomp := kC) (comp := D.1 d) (t := .object C) hx hb hcell (fun q h9 => by cases h9) (fun h9 => by cases h9) g1 g2 rfl hkC ⟨fun q => hi (Or.inl q), by show _ < (arrV _ _ _).slots.size; rw [arrV_size]; exact hlt⟩ q1 (fun q h9 => by rw [q3] at h9; cases h9) (by rw [q2]; exact hkC) (by rw [q2]; exact va_assign ⟨hfc, kC, hkC, hkind⟩) rfl rfl hdg fun H' e1 e2 e3 => ?_
        refine hX _ _ _ _ _ _ hT H' _ lsA (hR.set heq ?_ e2 e3) (am_S_put hS e2 e3) hl hk hz
        show H'[H0.size + a]? = some (vp_cell _ _)
        rw [e1]
        show some ((arrV _ _ _).setSlot _ _) = some (vp_cell (cA (.object C)) (n, .inr (.inr (.inr (.inr _)))))
        rw [vp_cell_q, arrV_store]
        congr 2
        funext q
        by_cases hq : q = i.toNatClampNeg
        · subst hq
          simp [updV, va_up, va_rf]
        · simp [updV, va_up, hq]
      · exact hv.elim
    · exact hT.elim
  · exact hT.elim
end
