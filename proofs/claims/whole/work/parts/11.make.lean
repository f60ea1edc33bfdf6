section
variable {lx : am_Lx} {mt : Nat → am_Mt} {own nm : String} {cc : ByteArray} {nL mc ms pc : Nat} {ret : Option FieldType}
theorem am_sd_new {C : String} {T : u_T} {ty0 : Nat → FieldType} {N ci index : Nat} {fs : List Value} (hc : am_cl[ci]? = some (C, T, N)) (hin : ∀ w ∈ u_ws C T N, w ∈ am_G) (hty : ∀ k, k < N → parseFieldDescriptor (T k).2.2.1 = some (ty0 k)) (hfs : ∀ j, j < N → defaultValue (ty0 j) = vp_V fs j) (hid : ∀ (S : Nat → Nat) (B : Nat), fs.map (am_cv S B) = fs) (hlk : Cond.classLink own index C ∈ am_G) (hins : Cond.instantiable C N ∈ am_G) (hini : Cond.initialized C ∈ am_G) (hdg : decode cc pc = .ok (.new index, 3)) : am_Sd lx mt own nm cc nL mc ms ret pc (am_new ci N fs mc ms) := by
  intro p l e R s m args below meth c D cA S H0 Qw K Q X Cx Ks Rs hX ls st h k z hT H locs lsA hR hS hl hk hz
  obtain ⟨hx, hb, hml, hown, hG, hE, hnm, hH0, hfr, hlo, hRc, hRs⟩ := Cx
  obtain ⟨h1, h2, hT⟩ := hT
  have hKn := hE.1.1 ci _ hc
  refine W.newcK hx hb hown (hG _ hlk) (hG _ hins) (hG _ hini) rfl hdg (by rw [hRc]; exact h1) (by rw [hRs]; exact h2) hKn.2.1 hR.1 fun H1 kC hkC e1 z1 o1 => ?_
  refine hX _ _ _ _ _ _ hT H1 locs lsA (hR.push ?_ (by rw [z1, hR.1]) (fun q hq => o1 q (by rw [← hR.1]; exact hq))) (am_S_push (n := 1) hS (by rw [z1, hR.1]) (fun q hq => o1 q (by rw [← hR.1]; exact hq))) hl (by rw [hRc]; exact h1) (by rw [hRs]; exact h2)
  refine ⟨_, hc, (u_born ty0 hG hin hKn hkC e1 hty).to (fun j hj => ?_)⟩
  rw [hfs j hj, hid]
theorem am_push_arr {D : va_G} {cA : FieldType → ClassId} {S : Nat → Nat} {H0 H1 : Heap} {h : am_H} {ty : FieldType} {N : Nat} {f : Nat → Int32} {a : ClassId} (ea : a = cA ty) (e1 : H1[H0.size + h.length]? = some (arrV a N (fun j => .int (f j)))) : va_at D am_cl (H0.size + h.length, am_cc cA S H0.size (.inl (ty, N, .inl f))) H1 := by
  subst ea
  exact e1
theorem am_sd_newI (ha : Cond.arrayClass .int ∈ am_G) (hdg : decode cc pc = .ok (.newarray .int, 2)) : am_Sd lx mt own nm cc nL mc ms ret pc (am_newi .int mc ms) := by
  intro p l e R s m args below meth c D cA S H0 Qw K Q X Cx Ks Rs hX ls st h k z hT H locs lsA hR hS hl hk hz
  obtain ⟨hx, hb, hml, hown, hG, hE, hnm, hH0, hfr, hlo, hRc, hRs⟩ := Cx
  unfold am_newi at hT
  split at hT
  · next n r =>
    obtain ⟨h0, h3, h1, h2, hT⟩ := hT
    refine va_newaK (atype := .int) hx hb (hG _ ha) rfl hdg rfl h0 rfl (by show _ * 4 ≤ _; omega) (by rw [hRc]; exact h1) (by rw [hRs]; exact h2) hR.1 fun H1 a e1 z1 o1 hAr hNm => ?_
    have ea : a = cA .int := Option.some.inj (hNm.symm.trans (hE.1.2 0 (cA .int, .int) rfl).2)
    exact hX _ _ _ _ _ _ hT H1 locs lsA (hR.push (am_push_arr ea e1) (by rw [z1, hR.1]) (fun q hq => o1 q (by rw [← hR.1]; exact hq))) (am_S_push (n := 1) hS (by rw [z1, hR.1]) (fun q hq => o1 q (by rw [← hR.1]; exact hq))) hl (by rw [hRc]; exact h1) (by rw [hRs]; exact h2)
  · exact hT.elim
theorem am_sd_newC (ha : Cond.arrayClass .char ∈ am_G) (hdg : decode cc pc = .ok (.newarray .char, 2)) : am_Sd lx mt own nm cc nL mc ms ret pc (am_newi .char mc ms) := by
  intro p l e R s m args below meth c D cA S H0 Qw K Q X Cx Ks Rs hX ls st h k z hT H locs lsA hR hS hl hk hz
  obtain ⟨hx, hb, hml, hown, hG, hE, hnm, hH0, hfr, hlo, hRc, hRs⟩ := Cx
  unfold am_newi at hT
  split at hT
  · next n r =>
    obtain ⟨h0, h3, h1, h2, hT⟩ := hT
    refine va_newaK (atype := .char) hx hb (hG _ ha) rfl hdg rfl h0 rfl (by show _ * 2 ≤ _; omega) (by rw [hRc]; exact h1) (by rw [hRs]; exact h2) hR.1 fun H1 a e1 z1 o1 hAr hNm => ?_
    have ea : a = cA .char := Option.some.inj (hNm.symm.trans (hE.1.2 2 (cA .char, .char) rfl).2)
    exact hX _ _ _ _ _ _ hT H1 locs lsA (hR.push (am_push_arr ea e1) (by rw [z1, hR.1]) (fun q hq => o1 q (by rw [← hR.1]; exact hq))) (am_S_push (n := 1) hS (by rw [z1, hR.1]) (fun q hq => o1 q (by rw [← hR.1]; exact hq))) hl (by rw [hRc]; exact h1) (by rw [hRs]; exact h2)
  · exact hT.elim
theorem am_sd_newL (ha : Cond.arrayClass .long ∈ am_G) (hdg : decode cc pc = .ok (.newarray .long, 2)) : am_Sd lx mt own nm cc nL mc ms ret pc (am_newl mc ms) := by
  intro p l e R s m args below meth c D cA S H0 Qw K Q X Cx Ks Rs hX ls st h k z hT H locs lsA hR hS hl hk hz
  obtain ⟨hx, hb, hml, hown, hG, hE, hnm, hH0, hfr, hlo, hRc, hRs⟩ := Cx
  unfold am_newl at hT
  split at hT
  · next n r =>
    obtain ⟨h0, h3, h1, h2, hT⟩ := hT
    refine va_newaK (atype := .long) hx hb (hG _ ha) rfl hdg rfl h0 rfl (by show _ * 8 ≤ _; omega) (by rw [hRc]; exact h1) (by rw [hRs]; exact h2) hR.1 fun H1 a e1 z1 o1 hAr hNm => ?_
    have ea : a = cA .long := Option.some.inj (hNm.symm.trans (hE.1.2 1 (cA .long, .long) rfl).2)
    subst ea
    exact hX _ _ _ _ _ _ hT H1 locs lsA (hR.push e1 (by rw [z1, hR.1]) (fun q hq => o1 q (by rw [← hR.1]; exact hq))) (am_S_push (n := 1) hS (by rw [z1, hR.1]) (fun q hq => o1 q (by rw [← hR.1]; exact hq))) hl (by rw [hRc]; exact h1) (by rw [hRs]; exact h2)
  · exact hT.elim
theorem am_sd_newR {index : Nat} (hlk : Cond.classLink own index "SpeciesRounds$Rule" ∈ am_G) (hdg : decode cc pc = .ok (.anewarray index, 3)) : am_Sd lx mt own nm cc nL mc ms ret pc (am_newr "SpeciesRounds$Rule" mc ms) := by
  intro p l e R s m args below meth c D cA S H0 Qw K Q X Cx Ks Rs hX ls st h k z hT H locs lsA hR hS hl hk hz
  obtain ⟨hx, hb, hml, hown, hG, hE, hnm, hH0, hfr, hlo, hRc, hRs⟩ := Cx
  unfold am_newr at hT
  split at hT
  · next n r =>
    obtain ⟨h0, h3, h1, h2, hT⟩ := hT
    refine W.anew hx hb hown (hG _ hlk) (va_AO.use hE.2.2.1) rfl hdg rfl h0 (by omega) (by rw [hRc]; exact h1) (by rw [hRs]; exact h2) fun a kA comp g1 g2 g3 g4 => ?_
    obtain ⟨kA', comp', f1, f2, f3, f4⟩ := (hE.1.2 4 (cA (.object "SpeciesRounds$Rule"), .object "SpeciesRounds$Rule") rfl).2
    have ea : a = cA (.object "SpeciesRounds$Rule") := Option.some.inj (g1.symm.trans f4)
    subst ea
    rw [hR.1]
    refine hX _ _ _ _ _ _ hT _ locs lsA (hR.push ?_ (by simp) (fun q hq => by rw [Array.getElem?_push, if_neg (Nat.ne_of_lt hq)])) (am_S_push (n := 1) hS (by simp) (fun q hq => by rw [Array.getElem?_push, if_neg (Nat.ne_of_lt hq)])) hl (by rw [hRc]; exact h1) (by rw [hRs]; exact h2)
    show _ = some (vp_cell _ _)
    rw [← hR.1]
    show _ = some (arrV (cA (.object "SpeciesRounds$Rule")) n.toNatClampNeg (fun _ => Value.null))
    rw [← arrV_new]
    simp
  · exact hT.elim
theorem am_sd_obj {index : Nat} (hlk : Cond.methodLink own index Lib.objectInit ∈ am_G) (hi : Cond.instanceMethod Lib.objectInit ∈ am_G) (hco : Cond.code Lib.objectInit ⟨#[0xb1]⟩ 1 none ∈ am_G) (hdg : decode cc pc = .ok (.invokespecial index, 3)) : am_Sd lx mt own nm cc nL mc ms ret pc am_obj := by
  intro p l e R s m args below meth c D cA S H0 Qw K Q X Cx Ks Rs hX ls st h k z hT H locs lsA hR hS hl hk hz
  obtain ⟨hx, hb, hml, hown, hG, hE, hnm, hH0, hfr, hlo, hRc, hRs⟩ := Cx
  unfold am_obj at hT
  split at hT
  · next a r =>
    have h8 := am_rest_cv (S := S) (B := H0.size) hT.1
    exact W.objInit hx hb hown (hG _ hlk) (hG _ hi) (hG _ hco) rfl (by rw [hml]; exact hl.1) rfl hdg (Nat.le_trans (by decide) hfr) (by show 2 * 0 + _ + 12 ≤ _; omega) (hX _ _ _ _ _ _ hT.2 H locs lsA hR hS hl hk hz)
  · exact hT.elim
theorem am_sd_max {index : Nat} (hlk : Cond.methodLink own index Lib.Math.max.name ∈ am_G) (hst : Cond.static Lib.Math.max.name ∈ am_G) (hini : Cond.initialized "java/lang/Math" ∈ am_G) (hco : Cond.code Lib.Math.max.name Lib.Math.max.code 2 (some .int) ∈ am_G) (hdg : decode cc pc = .ok (.invokestatic index, 3)) : am_Sd lx mt own nm cc nL mc ms ret pc am_max := by
  intro p l e R s m args below meth c D cA S H0 Qw K Q X Cx Ks Rs hX ls st h k z hT H locs lsA hR hS hl hk hz
  obtain ⟨hx, hb, hml, hown, hG, hE, hnm, hH0, hfr, hlo, hRc, hRs⟩ := Cx
  unfold am_max at hT
  split at hT
  · next y x r =>
    have h8 := am_rest_cv (S := S) (B := H0.size) hT.1
    exact va_mmax hx hb (hml.trans hl.1.symm) hown (hG _ hlk) (hG _ hst) (hG _ hini) (hG _ hco) (Nat.le_trans (by decide) hfr) (by omega) hk hz hdg (hX _ _ _ _ _ _ hT.2 H locs lsA hR hS hl hk hz)
  · exact hT.elim
theorem am_sd_min {index : Nat} (hlk : Cond.methodLink own index Lib.Math.min.name ∈ am_G) (hst : Cond.static Lib.Math.min.name ∈ am_G) (hini : Cond.initialized "java/lang/Math" ∈ am_G) (hco : Cond.code Lib.Math.min.name Lib.Math.min.code 2 (some .int) ∈ am_G) (hdg : decode cc pc = .ok (.invokestatic index, 3)) : am_Sd lx mt own nm cc nL mc ms ret pc am_min := by
  intro p l e R s m args below meth c D cA S H0 Qw K Q X Cx Ks Rs hX ls st h k z hT H locs lsA hR hS hl hk hz
  obtain ⟨hx, hb, hml, hown, hG, hE, hnm, hH0, hfr, hlo, hRc, hRs⟩ := Cx
  unfold am_min at hT
  split at hT
  · next y x r =>
    have h8 := am_rest_cv (S := S) (B := H0.size) hT.1
    exact va_mmin hx hb (hml.trans hl.1.symm) hown (hG _ hlk) (hG _ hst) (hG _ hini) (hG _ hco) (Nat.le_trans (by decide) hfr) (by omega) hk hz hdg (hX _ _ _ _ _ _ hT.2 H locs lsA hR hS hl hk hz)
  · exact hT.elim
theorem am_sd_no : am_Sd lx mt own nm cc nL mc ms ret pc am_no := by
  intro p l e R s m args below meth c D cA S H0 Qw K Q X Cx Ks Rs hX ls st h k z hT
  exact hT.elim
end
section
variable {lx : am_Lx} {mt : Nat → am_Mt} {own nm : String} {cc : ByteArray} {nL mc ms pc : Nat} {ret : Option FieldType}
theorem am_sd_fetch {l : List (Nat × am_T)} (h : ∀ q ∈ l, am_Sd lx mt own nm cc nL mc ms ret q.1 q.2) (pc : Nat) : am_Sd lx mt own nm cc nL mc ms ret pc (am_fetch l pc) := by
  induction l with
  | nil => exact am_sd_no
  | cons q r ih =>
    unfold am_fetch
    split
    · next e => exact e ▸ h q List.mem_cons_self
    · exact ih (fun x hx => h x (List.mem_cons_of_mem _ hx))
theorem am_sd_copy {index : Nat} (hlk : Cond.methodLink own index arraycopyName ∈ am_G) (hnat : Cond.native arraycopyName ∈ am_G) (hst : Cond.static arraycopyName ∈ am_G) (hini : Cond.initialized "java/lang/System" ∈ am_G) (hdg : decode cc pc = .ok (.invokestatic index, 3)) : am_Sd lx mt own nm cc nL mc ms ret pc am_copy := by
  intro p l e R s m args below meth c D cA S H0 Qw K Q X Cx Ks Rs hX ls st h k z hT H locs lsA hR hS hl hk hz
  obtain ⟨hx, hb, hml, hown, hG, hE, hnm, hH0, hfr, hlo, hRc, hRs⟩ := Cx
  unfold am_copy at hT
  split at hT
  · next n dp a sp b r =>
    split at hT
    · next ty n1 g ty0 n0 f ea eb =>
      obtain ⟨rfl, rfl, hre, h1, h2, h3, h4, h5, hT⟩ := hT
      have h8 := am_rest_cv (S := S) (B := H0.size) hre
      have hc0 : H[H0.size + b]? = some (vp_cell (cA .int) (n0, .inl f)) := hR.2.2 b _ (am_conc_some eb)
      have hc1 : H[H0.size + a]? = some (vp_cell (cA .int) (n1, .inl g)) := hR.2.2 a _ (am_conc_some ea)
      have nn : ∀ z : Int32, ¬ z < 0 → z.toInt = (z.toNatClampNeg : Int) := by
        intro z hz
        have hz0 : (0 : Int) ≤ z.toInt := by
          have := Int32.not_lt.mp hz
          simpa using Int32.le_iff_toInt_le.mp this
        show z.toInt = ((z.toInt.toNat : Nat) : Int)
        omega
      intro T hTh X9
      obtain ⟨-, k0, hk0, cm0, hkk0⟩ := (hE.1.2 0 (cA .int, .int) rfl).1 n0 (fun j => .int (f j))
      have hrd : ∀ i, i < n.toNatClampNeg → (vp_cell (cA .int) (n0, .inl f)).slots.getD (sp.toNatClampNeg + i) .null = .int (f (sp.toNatClampNeg + i)) := fun i hi => by
        show (arrV (cA .int) n0 (fun j => .int (f j))).slots.getD _ _ = _
        rw [Array.getD_eq_getD_getElem?, arrV_read _ _ (by omega)]
        rfl
      obtain ⟨vm', X', step⟩ := X9.arraycopy hx hown (hG _ hlk) (hG _ hnat) (hG _ hst) (hG _ hini) (src := H0.size + b) (dst := H0.size + a) (cs := vp_cell (cA .int) (n0, .inl f)) (cd := vp_cell (cA .int) (n1, .inl g)) (srcPos := sp) (destPos := dp) (n := n) (by rw [hTh]; exact hc0) (by rw [hTh]; exact hc1)
        (fun _ h => by cases h) (fun _ h => by cases h) (fun h => by cases h) (fun h => by cases h) hk0 hk0 hkk0 hkk0 (by simp [refKind]) h1 h2 h3
        (by rw [nn sp h1, nn n h3]; show ¬ _ > ((arrV (cA .int) n0 (fun j => .int (f j))).slots.size : Int); rw [arrV_size]; omega)
        (by rw [nn dp h2, nn n h3]; show ¬ _ > ((arrV (cA .int) n1 (fun j => .int (g j))).slots.size : Int); rw [arrV_size]; omega)
        (fun vm₁ _ i hi => ⟨by rw [hrd i hi]; rfl, by rw [hrd i hi]; exact trivial⟩)
        (g := F0 m pc lsA (.int n :: .int dp :: .ref (H0.size + a) :: .int sp :: .ref (H0.size + b) :: r.map (am_cv S H0.size))) rfl (by rw [hml]; exact hl.1) (rest := r.map (am_cv S H0.size)) rfl (by rw [hb]; exact hdg) (Nat.le_trans (by decide) hfr) (by show 2 * 0 + _ + (nativeFrameWords "java/lang/System" "arraycopy" 5 + 11) ≤ _; rw [show nativeFrameWords "java/lang/System" "arraycopy" 5 = 7 from by decide +kernel]; omega)
      have e1 : copied (vp_cell (cA .int) (n0, .inl f)) (vp_cell (cA .int) (n1, .inl g)) sp dp n = vp_cell (cA .int) (n1, .inl (va_cpy f g sp.toNatClampNeg dp.toNatClampNeg n.toNatClampNeg)) := va_copied (fun z => .int z) (cA .int) (cA .int) f g h4
      rw [e1] at X' step
      generalize va_cpy f g sp.toNatClampNeg dp.toNatClampNeg n.toNatClampNeg = f9 at X' step hT
      have hla : H0.size + a < H.size := (Array.getElem?_eq_some_iff.mp hc1).1
      have hheap : ((T.setVm vm').setCell (H0.size + a) (vp_cell (cA .int) (n1, .inl f9))).heap = H.setIfInBounds (H0.size + a) (vp_cell (cA .int) (n1, .inl f9)) := by rw [← hTh]; rfl
      have oq : ∀ q : Nat, q ≠ H0.size + a → (H.setIfInBounds (H0.size + a) (vp_cell (cA .int) (n1, .inl f9)))[q]? = H[q]? := fun q hq => by simp [Array.getElem?_setIfInBounds, Ne.symm hq]
      have hR' := hR.set (e' := .inl (.int, n1, .inl f9)) ea (show (H.setIfInBounds (H0.size + a) (vp_cell (cA .int) (n1, .inl f9)))[H0.size + a]? = some _ by simp [Array.getElem?_setIfInBounds, hla]; rfl) (by simp) oq
      obtain ⟨t, a1, b1⟩ := hX _ _ _ _ _ _ hT _ _ lsA hR' ⟨by simp; exact hS.1, fun q g1 g2 => by
          rw [oq q (fun e => g2 (by rw [e]; exact Nat.le_add_right _ _))]
          exact hS.2.1 q g1 g2, fun q hq => by
          rcases List.mem_append.mp hq with h | h
          · exact hS.2.2 q h
          · obtain ⟨z9, -, hz9⟩ := List.mem_map.mp h
            rw [← hz9]
            exact Nat.le_add_right _ _⟩ hl hk hz _ hheap X'
      exact ⟨t, step t a1, b1⟩
    · exact hT.elim
  · exact hT.elim
end
section
variable {lx : am_Lx} {mt : Nat → am_Mt} {own nm : String} {cc : ByteArray} {nL mc ms pc : Nat} {ret : Option FieldType}
theorem am_sd_slen (hdg : decode cc pc = .ok (.arraylength, 1)) : am_Sd lx mt own nm cc nL mc ms ret pc (am_slen lx.1) := by
  intro p l e R s m args below meth c D cA S H0 Qw K Q X Cx Ks Rs hX ls st h k z hT H locs lsA hR hS hl hk hz
  obtain ⟨hx, hb, hml, hown, hG, hE, hnm, hH0, hfr, hlo, hRc, hRs⟩ := Cx
  unfold am_slen at hT
  split at hT
  · next i r =>
    obtain ⟨rfl, hT⟩ := hT
    obtain ⟨hb0, scr, g1, g2, g3, g4, g5⟩ := hE.2.2.2.2.1
    exact W.alen (n := Int32.ofNat lx.1) hx hb (by show H[S 0]? = _; rw [hR.2.1 _ hb0]; exact g1) g2 (by rw [g4] <;> rfl) rfl rfl hdg (hX _ _ _ _ _ _ hT H locs lsA hR hS hl hk hz)
  · exact hT.elim
theorem am_sd_sld (hdg : decode cc pc = .ok (.iaload, 1)) : am_Sd lx mt own nm cc nL mc ms ret pc (am_sld lx.1 lx.2) := by
  intro p l e R s m args below meth c D cA S H0 Qw K Q X Cx Ks Rs hX ls st h k z hT H locs lsA hR hS hl hk hz
  obtain ⟨hx, hb, hml, hown, hG, hE, hnm, hH0, hfr, hlo, hRc, hRs⟩ := Cx
  unfold am_sld at hT
  split at hT
  · next i u r =>
    obtain ⟨rfl, hi, hT⟩ := hT
    obtain ⟨hb0, scr, g1, g2, g3, g4, g5⟩ := hE.2.2.2.2.1
    have hlt : i.toNatClampNeg < lx.1 := Nat.not_le.mp fun q => hi (Or.inr q)
    exact W.iald (v := .int (lx.2 i.toNatClampNeg)) hx hb (by show H[S 0]? = _; rw [hR.2.1 _ hb0]; exact g1) g2 g3 (by rw [g4]; exact hi) (g5 _ hlt) rfl rfl hdg (hX _ _ _ _ _ _ hT H locs lsA hR hS hl hk hz)
  · exact hT.elim
theorem am_sd_tsw {dflt lo hi : Int} {offs : Array Int} {len d a b : Nat} {tg : List Nat} (hdg : decode cc pc = .ok (.tableswitch dflt lo hi offs, len)) (hlo : lo = (a : Int)) (hhi : hi = (b : Int)) (hd : (pc : Int) + dflt = (d : Int)) (htg : ∀ k, k < tg.length → offs[k]?.map (fun o => (pc : Int) + o) = some ((tg.getD k 0 : Nat) : Int)) (hn : (b : Int) + 1 = a + tg.length) : am_Sd lx mt own nm cc nL mc ms ret pc (am_tsw d a b tg) := by
  intro p l e R s m args below meth c D cA S H0 Qw K Q X Cx Ks Rs hX ls st h k z hT H locs lsA hR hS hl hk hz
  obtain ⟨hx, hb, hml, hown, hG, hE, hnm, hH0, hfr, hlo9, hRc, hRs⟩ := Cx
  subst hlo
  subst hhi
  unfold am_tsw at hT
  split at hT
  · next x r =>
    by_cases ho : x.toInt < (a : Int) ∨ (b : Int) < x.toInt
    · exact lv_tableOut hx hb hdg ho hd (hX _ _ _ _ _ _ (hT.1 ho) H locs lsA hR hS hl hk hz)
    · have h1 : ¬ x.toInt < (a : Int) := fun q => ho (Or.inl q)
      have h2 : ¬ (b : Int) < x.toInt := fun q => ho (Or.inr q)
      obtain ⟨j, hj⟩ : ∃ j : Nat, x.toInt - (a : Int) = (j : Int) := ⟨(x.toInt - (a : Int)).toNat, by omega⟩
      have hjl : j < tg.length := by omega
      have h3 := htg j hjl
      cases ho2 : offs[j]? with
      | none => rw [ho2] at h3; cases h3
      | some off =>
        rw [ho2] at h3
        exact lv_tableIn hx hb hdg h1 h2 (by rw [hj]; exact ho2) (Option.some.inj h3) (hX _ _ _ _ _ _ (hT.2 j hjl (by omega)) H locs lsA hR hS hl hk hz)
  · exact hT.elim
end
