theorem am_R.set {D : va_G} {cA : FieldType → ClassId} {S : Nat → Nat} {H0 H H' : Heap} {h : am_H} {a : Nat} {e0 e' : am_C} (hR : am_R D am_cl cA S H0 h H) (ha : h[a]? = some e0) (hat : va_at D am_cl (H0.size + a, am_cc cA S H0.size e') H') (z : H'.size = H.size) (oq : ∀ q, q ≠ H0.size + a → H'[q]? = H[q]?) : am_R D am_cl cA S H0 (h.set a e') H' := by
  refine ⟨by rw [z, hR.1, List.length_set], fun q hq => ?_, ?_⟩
  · rw [oq q (by omega)]
    exact hR.2.1 q hq
  · rw [← am_conc_set]
    exact hR.2.2.set (am_conc_D cA S H0.size h) (am_conc_some ha) hat oq
theorem am_R.push {D : va_G} {cA : FieldType → ClassId} {S : Nat → Nat} {H0 H H' : Heap} {h : am_H} {e' : am_C} (hR : am_R D am_cl cA S H0 h H) (hat : va_at D am_cl (H0.size + h.length, am_cc cA S H0.size e') H') (z : H'.size = H.size + 1) (oq : ∀ q, q < H.size → H'[q]? = H[q]?) : am_R D am_cl cA S H0 (h ++ [e']) H' := by
  refine ⟨by rw [z, hR.1, List.length_append]; simp; omega, fun q hq => ?_, ?_⟩
  · rw [oq q (by have := hR.1; omega)]
    exact hR.2.1 q hq
  · rw [am_conc_app]
    refine va_P.app (hR.2.2.kept (fun k q hk => oq q.1 ((hR.2.2 k q hk).lt))) (fun k q hk => ?_)
    have hk0 : k < 1 := by have := (List.getElem?_eq_some_iff.mp hk).1; simpa using this
    rw [show k = 0 by omega] at hk
    simp at hk
    subst hk
    exact hat
theorem am_S_put {H0 Hs H H' : Heap} {locs : List Loc} {a i : Nat} (hS : va_S (fun q => H0.size ≤ q) Hs H locs) (z : H'.size = H.size) (oq : ∀ q, q ≠ H0.size + a → H'[q]? = H[q]?) : va_S (fun q => H0.size ≤ q) Hs H' (locs ++ [⟨H0.size + a, i⟩]) := hS.put z oq (Nat.le_add_right _ _)
theorem am_S_push {H0 Hs H H' : Heap} {locs : List Loc} {n : Nat} (hS : va_S (fun q => H0.size ≤ q) Hs H locs) (z : H'.size = H.size + n) (oq : ∀ q, q < H.size → H'[q]? = H[q]?) : va_S (fun q => H0.size ≤ q) Hs H' locs := ⟨Nat.le_trans hS.1 (by omega), fun q h1 h2 => (oq q (Nat.lt_of_lt_of_le h1 hS.1)).trans (hS.2.1 q h1 h2), hS.2.2⟩
theorem am_narrow {S : Nat → Nat} {B : Nat} {ty : FieldType} {v : Value} (hf : match v with | .float _ => False | _ => True) (h : narrow ty v = v) : narrow ty (am_cv S B v) = am_cv S B v := by
  cases v with
  | ref k => cases ty <;> rfl
  | float u => exact hf.elim
  | _ => exact h
theorem am_fits {S : Nat → Nat} {B : Nat} {ty : FieldType} {v : Value} (hf : match v with | .float _ => False | _ => True) (h : fits ty v = true) : fits ty (am_cv S B v) = true := by
  cases v with
  | ref k => cases ty <;> first | rfl | cases h
  | float u => exact hf.elim
  | _ => exact h
theorem am_tys_at {cA : FieldType → ClassId} {ty : FieldType} (h : ty ∈ am_tyl) : ∃ i : Nat, (am_tys cA)[i]? = some (cA ty, ty) := by
  obtain ⟨i, hi⟩ := List.getElem?_of_mem h
  exact ⟨i, by rw [List.getElem?_map, hi]; rfl⟩
section
variable {lx : am_Lx} {mt : Nat → am_Mt} {own nm : String} {cc : ByteArray} {nL mc ms pc : Nat} {ret : Option FieldType}
theorem am_sd_get {C : String} {T : u_T} {N ci f index : Nat} (hc : am_cl[ci]? = some (C, T, N)) (hin : ∀ w ∈ u_ws C T N, w ∈ am_G) (hf : f < N) (hw : Cond.fieldLink own index (T f).1 (T f).2.1 (T f).2.2.1 ∈ am_G) (hdg : decode cc pc = .ok (.getfield index, 3)) : am_Sd lx mt own nm cc nL mc ms ret pc (am_get ci f) := by
  intro p l e R s m args below meth c D cA S H0 Qw K Q X Cx Ks Rs hX ls st h k z hT H locs lsA hR hS hl hk hz
  obtain ⟨hx, hb, hml, hown, hG, hE, hnm, hH0, hfr, hlo, hRc, hRs⟩ := Cx
  unfold am_get at hT
  split at hT
  · next a r =>
    split at hT
    · next d fs heq =>
      obtain ⟨rfl, hT⟩ := hT
      split at hT
      · next v hv => exact va_get (D := D) (cl := am_cl) (v := am_cv S H0.size v) hx hb hG hin hown hE.1 hR.2.2 a (am_conc_some heq) hc f hf (hG _ hw) (fun _ q => q) (by rw [List.getElem?_map, hv]; rfl) hdg (hX _ _ _ _ _ _ hT H locs lsA hR hS hl hk hz)
      · exact hT.elim
    · exact hT.elim
  · exact hT.elim
theorem am_sd_getN {C host : String} {T : u_T} {N ci f index : Nat} (hc : am_cl[ci]? = some (C, T, N)) (hin : ∀ w ∈ u_ws C T N, w ∈ am_G) (hf : f < N) (hw : Cond.fieldLinkNest own index (T f).1 (T f).2.1 (T f).2.2.1 host ∈ tables_1) (hdg : decode cc pc = .ok (.getfield index, 3)) : am_Sd lx mt own nm cc nL mc ms ret pc (am_get ci f) := by
  intro p l e R s m args below meth c D cA S H0 Qw K Q X Cx Ks Rs hX ls st h k z hT H locs lsA hR hS hl hk hz
  obtain ⟨hx, hb, hml, hown, hG, hE, hnm, hH0, hfr, hlo, hRc, hRs⟩ := Cx
  unfold am_get at hT
  split at hT
  · next a r =>
    split at hT
    · next d fs heq =>
      obtain ⟨rfl, hT⟩ := hT
      split at hT
      · next v hv => exact va_getN (D := D) (cl := am_cl) (v := am_cv S H0.size v) hx hb hG hin hown hE.1 hR.2.2 a (am_conc_some heq) hc f hf (va_Nw.use rfl (hE.2.1 _ hw rfl)) (fun _ q => q) (by rw [List.getElem?_map, hv]; rfl) hdg (hX _ _ _ _ _ _ hT H locs lsA hR hS hl hk hz)
      · exact hT.elim
    · exact hT.elim
  · exact hT.elim
/-- what a written field is -/
theorem am_putAt {D : va_G} {cA : FieldType → ClassId} {S : Nat → Nat} {H0 H' : Heap} {C : String} {T : u_T} {N ci f a : Nat} {cell : Cell} {fs : List Value} {v : Value} (hc : am_cl[ci]? = some (C, T, N)) (hap : ∀ x y, x < N → y < N → x ≠ y → (D.2 ci) x ≠ (D.2 ci) y) (hf : f < N) (hl : f < fs.length) (q2 : cell.cls = D.1 ci) (q3 : cell.vm = .none) (q4 : ∀ k, k < N → cell.slots[D.2 ci k]? = some (vp_V (fs.map (am_cv S H0.size)) k)) (e1 : H'[H0.size + a]? = some (cell.setSlot (D.2 ci f) (am_cv S H0.size v))) : va_at D am_cl (H0.size + a, am_cc cA S H0.size (.inr (ci, fs.set f v))) H' := by
  refine ⟨_, hc, t_OB.to (V := updV (vp_V (fs.map (am_cv S H0.size))) f (am_cv S H0.size v)) ⟨_, e1, q2, q3, t_set q4 hap hf _⟩ (fun j _ => ?_)⟩
  rw [vp_updV_set (by simpa using hl), List.map_set]
theorem am_sd_put {C : String} {T : u_T} {ty0 : Nat → FieldType} {N ci f index : Nat} {ty : FieldType} (hc : am_cl[ci]? = some (C, T, N)) (hin : ∀ w ∈ u_ws C T N, w ∈ am_G) (hty : ∀ k, k < N → parseFieldDescriptor (T k).2.2.1 = some (ty0 k)) (hnm0 : ∀ a, a < N → ∀ b, b < N → a ≠ b → (T a).2.1 ≠ (T b).2.1) (hf : f < N) (hw : Cond.fieldLink own index (T f).1 (T f).2.1 (T f).2.2.1 ∈ am_G) (hfin : (T f).2.2.2 = false) (hd : ty0 f = ty) (hdg : decode cc pc = .ok (.putfield index, 3)) : am_Sd lx mt own nm cc nL mc ms ret pc (am_put ci f ty) := by
  intro p l e R s m args below meth c D cA S H0 Qw K Q X Cx Ks Rs hX ls st h k z hT H locs lsA hR hS hl hk hz
  obtain ⟨hx, hb, hml, hown, hG, hE, hnm, hH0, hfr, hlo, hRc, hRs⟩ := Cx
  unfold am_put at hT
  split at hT
  · next v a r =>
    split at hT
    · next d fs heq =>
      obtain ⟨rfl, hlen, hnf, hn, hfit, hT⟩ := hT
      subst hd
      have hap := va_apart (own := own) hG hin ty0 hty hnm0 hE.1 hc
      obtain ⟨rr, h1, cell, q1, q2, q3, q4⟩ := hR.2.2 a _ (am_conc_some heq)
      have hr : rr = (C, T, N) := Option.some.inj (h1.symm.trans hc)
      subst hr
      obtain ⟨hSl, hfc, kC, hkC, hkind⟩ := hE.1.1 d _ hc
      obtain ⟨cf, kf, fi, fd, hi, hsl⟩ := hSl f hf
      have hlay := hG _ (hin _ (u_in_lay hf))
      unfold u_lay at hlay
      rw [if_neg (by rw [hfin]; decide)] at hlay
      have hst := (u_facts hfc hkC (u_lays hG hin hf) hi).1
      have h6 := u_store hfc hkC hkind hlay hi (hty f hf) (am_narrow (S := S) (B := H0.size) hnf hn) (am_fits (S := S) (B := H0.size) hnf hfit)
      refine W.putK hx hb (f := fd) ⟨hown, hG _ hw, ⟨_, _, _, hi⟩, hst⟩ (by rw [q2]; exact h6) q1 q3 (by rw [hsl]; exact k2_hasslot (q4 f hf)) rfl rfl hdg fun H' e1 e2 e3 => ?_
      rw [hsl] at e1 ⊢
      exact hX _ _ _ _ _ _ hT H' _ lsA (hR.set heq (am_putAt hc hap hf hlen q2 q3 q4 e1) e2 e3) (am_S_put hS e2 e3) hl hk hz
    · exact hT.elim
  · exact hT.elim
theorem am_sd_putF {C : String} {T : u_T} {ty0 : Nat → FieldType} {N ci f index : Nat} {ty : FieldType} (hc : am_cl[ci]? = some (C, T, N)) (hin : ∀ w ∈ u_ws C T N, w ∈ am_G) (hty : ∀ k, k < N → parseFieldDescriptor (T k).2.2.1 = some (ty0 k)) (hnm0 : ∀ a, a < N → ∀ b, b < N → a ≠ b → (T a).2.1 ≠ (T b).2.1) (hf : f < N) (hw : Cond.fieldLink own index (T f).1 (T f).2.1 (T f).2.2.1 ∈ am_G) (hfin : (T f).2.2.2 = true) (hin2 : nm = "<init>") (hdecl : (T f).1 = own) (hd : ty0 f = ty) (hdg : decode cc pc = .ok (.putfield index, 3)) : am_Sd lx mt own nm cc nL mc ms ret pc (am_put ci f ty) := by
  intro p l e R s m args below meth c D cA S H0 Qw K Q X Cx Ks Rs hX ls st h k z hT H locs lsA hR hS hl hk hz
  obtain ⟨hx, hb, hml, hown, hG, hE, hnm, hH0, hfr, hlo, hRc, hRs⟩ := Cx
  unfold am_put at hT
  split at hT
  · next v a r =>
    split at hT
    · next d fs heq =>
      obtain ⟨rfl, hlen, hnf, hn, hfit, hT⟩ := hT
      subst hd
      have hap := va_apart (own := own) hG hin ty0 hty hnm0 hE.1 hc
      obtain ⟨rr, h1, cell, q1, q2, q3, q4⟩ := hR.2.2 a _ (am_conc_some heq)
      have hr : rr = (C, T, N) := Option.some.inj (h1.symm.trans hc)
      subst hr
      obtain ⟨hSl, hfc, kC, hkC, hkind⟩ := hE.1.1 d _ hc
      obtain ⟨cf, kf, fi, fd, hi, hsl⟩ := hSl f hf
      have hlay := hG _ (hin _ (u_in_lay hf))
      unfold u_lay at hlay
      rw [if_pos hfin] at hlay
      have hst := (u_facts hfc hkC (u_lays hG hin hf) hi).1
      have hcf : m.cls = cf := by
        obtain ⟨_, _, c', _, _, _, -, -, hf', -, -, -, hown2, -⟩ := Cond.laysFinal_spec hlay
        have e1 : c' = cf := by have := hi.symm.trans hf'; simp at this; exact this.1.symm
        rw [hdecl] at hown2
        rw [← e1]; exact Option.some.inj (hown.symm.trans hown2)
      have h6 := u_fits hfc hkC hkind (Or.inr hlay) hi (hty f hf) (am_narrow (S := S) (B := H0.size) hnf hn) (am_fits (S := S) (B := H0.size) hnf hfit)
      refine W.putFinK hx hb hown (hG _ hw) hi hst hcf (hnm.trans hin2) (by rw [q2]; exact h6) q1 q3 (by rw [hsl]; exact k2_hasslot (q4 f hf)) rfl rfl hdg fun H' e1 e2 e3 => ?_
      rw [hsl] at e1 ⊢
      exact hX _ _ _ _ _ _ hT H' _ lsA (hR.set heq (am_putAt hc hap hf hlen q2 q3 q4 e1) e2 e3) (am_S_put hS e2 e3) hl hk hz
    · exact hT.elim
  · exact hT.elim
end
