/-! Arrays of arrays. -/
theorem am_arr_congr {c : ClassId} {N : Nat} {f g : Nat → Value} (h : ∀ j, j < N → f j = g j) : arrV c N f = arrV c N g := by
  unfold arrV
  congr 1
  apply Array.ext_getElem?
  intro j
  rw [Array.getElem?_ofFn, Array.getElem?_ofFn]
  by_cases hj : j < N
  · rw [dif_pos hj, dif_pos hj, h j hj]
  · rw [dif_neg hj, dif_neg hj]
theorem am_outer (c : ClassId) (N h0 : Nat) : Jvm.Free.Multi.outerC c N h0 N = arrV c N (fun j => .ref (h0 + 1 + j)) := by
  have h1 := Jvm.Free.Multi.outerC_facts c N h0 N
  have h2 := Jvm.Free.Multi.outerC_plain c N h0 N
  have h3 : (Jvm.Free.Multi.outerC c N h0 N).slots = Array.ofFn (n := N) fun j => (.ref (h0 + 1 + j.val) : Value) := by
    apply Array.ext_getElem?
    intro j
    rw [Array.getElem?_ofFn]
    by_cases hj : j < N
    · rw [dif_pos hj, Jvm.Free.Multi.outerC_slot c N h0 N j hj, if_pos hj]
    · rw [dif_neg hj]
      exact Array.getElem?_eq_none (by rw [h1.2.2]; omega)
  obtain ⟨a1, a2, -⟩ := h1
  obtain ⟨b1, b2⟩ := h2
  unfold arrV
  generalize Jvm.Free.Multi.outerC c N h0 N = X at a1 a2 b1 b2 h3
  cases X
  subst a1; subst a2; subst b1; subst b2; subst h3
  rfl
theorem am_R.app {D : va_G} {cA : FieldType → ClassId} {S : Nat → Nat} {H0 H H' : Heap} {h h2 : am_H} (hR : am_R D am_cl cA S H0 h H) (hat : ∀ (j : Nat) (e : am_C), h2[j]? = some e → va_at D am_cl (H0.size + (h.length + j), am_cc cA S H0.size e) H') (z : H'.size = H.size + h2.length) (oq : ∀ q, q < H.size → H'[q]? = H[q]?) : am_R D am_cl cA S H0 (h ++ h2) H' := by
  refine ⟨by rw [z, hR.1, List.length_append]; omega, fun q hq => ?_, ?_⟩
  · rw [oq q (by have := hR.1; omega)]
    exact hR.2.1 q hq
  · rw [am_conc_app]
    refine va_P.app (hR.2.2.kept (fun k q hk => oq q.1 ((hR.2.2 k q hk).lt))) (fun k q hk => ?_)
    rw [List.getElem?_map, List.getElem?_zipIdx] at hk
    cases he : h2[k]? with
    | none => rw [he] at hk; simp at hk
    | some e =>
      rw [he] at hk
      simp at hk
      subst hk
      exact hat k e he
section
variable {lx : am_Lx} {mt : Nat → am_Mt} {own nm : String} {cc : ByteArray} {nL mc ms pc : Nat} {ret : Option FieldType}
theorem am_sd_newM {index : Nat} (hlk : Cond.classLink own index "[[I" ∈ am_G) (hdg : decode cc pc = .ok (.multianewarray index 2, 4)) : am_Sd lx mt own nm cc nL mc ms ret pc (am_newm mc ms) := by
  intro p l e R s m args below meth c D cA S H0 Qw K Q X Cx Ks Rs hX ls st h k z hT H locs lsA hR hS hl hk hz
  obtain ⟨hx, hb, hml, hown, hG, hE, hnm, hH0, hfr, hlo, hRc, hRs⟩ := Cx
  unfold am_newm at hT
  split at hT
  · next kk n r =>
    obtain ⟨h0, h0', h3, h4, h1, h2, hT⟩ := hT
    intro T eT X0
    have hac : Cond.arrayClass .int ∈ am_G := am_G_of (by decide +kernel) (by decide +kernel)
    obtain ⟨vm₁, cB, comp, hW, hfA, hfC, hO, hI, X1, step⟩ := X0.multianewarray2F hx (own := own) (index := index) (ty := .int) hown (hG _ hlk) (va_AOA.use hE.2.2.2.1) (hG _ hac) (g := F0 m pc lsA ((Value.int kk :: Value.int n :: r).map (am_cv S H0.size))) rfl (by rw [hb]; exact hdg) rfl h0 h0' (by omega) (by show _ * 4 ≤ _; omega) (by omega) rfl rfl (by rw [hRc]; exact h1) (by rw [hRs]; exact h2)
    have eB : cB = cA (.array .int) := Option.some.inj (hfA.symm.trans (hE.1.2 3 (cA (.array .int), .array .int) rfl).2)
    have eC : comp = cA .int := Option.some.inj (hfC.symm.trans (hE.1.2 0 (cA .int, .int) rfl).2)
    subst eB; subst eC
    have hsz : (T.setVm vm₁).heap.size = H0.size + h.length := by show T.heap.size = _; rw [eT]; exact hR.1
    have hf := Jvm.Free.Multi.fill_facts (T.setVm vm₁) (cA (.array .int)) (cA .int) n.toNatClampNeg kk.toNatClampNeg (defaultValue .int) n.toNatClampNeg
    have hold : ∀ q, q < H.size → (Jvm.Free.Multi.fill (T.setVm vm₁) (cA (.array .int)) (cA .int) n.toNatClampNeg kk.toNatClampNeg (defaultValue .int) n.toNatClampNeg).heap[q]? = H[q]? := fun q hq => by
      rw [Jvm.Free.Multi.fill_old (T.setVm vm₁) _ _ _ _ _ (by rw [hsz, ← hR.1]; exact hq)]
      show T.heap[q]? = _
      rw [eT]
    have hinn : ∀ j, j < n.toNatClampNeg → (Jvm.Free.Multi.fill (T.setVm vm₁) (cA (.array .int)) (cA .int) n.toNatClampNeg kk.toNatClampNeg (defaultValue .int) n.toNatClampNeg).heap[H0.size + (h.length + (j + 1))]? = some (arrV (cA .int) kk.toNatClampNeg (fun _ => .int 0)) := fun j hj => by
      have := Jvm.Free.Multi.fill_inner (T.setVm vm₁) (cA (.array .int)) (cA .int) n.toNatClampNeg kk.toNatClampNeg (defaultValue .int) n.toNatClampNeg j hj
      rw [hsz, show H0.size + h.length + 1 + j = H0.size + (h.length + (j + 1)) by omega] at this
      rw [this, ← arrV_new]
      rfl
    have hout : (Jvm.Free.Multi.fill (T.setVm vm₁) (cA (.array .int)) (cA .int) n.toNatClampNeg kk.toNatClampNeg (defaultValue .int) n.toNatClampNeg).heap[H0.size + (h.length + 0)]? = some (arrV (cA (.array .int)) n.toNatClampNeg (fun j => .ref (H0.size + h.length + 1 + j))) := by
      have := hf.2.1
      rw [hsz, am_outer] at this
      exact this
    have hz1 : (Jvm.Free.Multi.fill (T.setVm vm₁) (cA (.array .int)) (cA .int) n.toNatClampNeg kk.toNatClampNeg (defaultValue .int) n.toNatClampNeg).heap.size = H.size + (1 + n.toNatClampNeg) := by
      rw [hf.1, hsz, hR.1]; omega
    rw [show T.heap.size = H0.size + h.length from hsz] at step
    generalize Jvm.Free.Multi.fill (T.setVm vm₁) (cA (.array .int)) (cA .int) n.toNatClampNeg kk.toNatClampNeg (defaultValue .int) n.toNatClampNeg = T1 at X1 step hold hinn hout hz1
    have hR1 := hR.app (h2 := .inl (.array .int, n.toNatClampNeg, .inr (.inr (.inr (.inr (fun i => if i < n.toNatClampNeg then some (h.length + 1 + i) else none))))) :: List.replicate n.toNatClampNeg (.inl (.int, kk.toNatClampNeg, .inl (fun _ => 0)))) (H' := T1.heap) (fun j ee he => ?_) (by rw [hz1, List.length_cons, List.length_replicate]; omega) hold
    · have g := hX _ _ _ _ _ _ hT T1.heap locs lsA hR1 (am_S_push (n := 1 + n.toNatClampNeg) hS hz1 hold) hl (by rw [hRc]; omega) (by rw [hRs]; omega)
      obtain ⟨t, a1, b1⟩ := g T1 rfl (by rw [show k + 1 + n.toNatClampNeg = k + 1 + n.toNatClampNeg from rfl]; exact X1)
      exact ⟨t, step t a1, b1⟩
    · cases j with
      | zero =>
        rw [List.getElem?_cons_zero] at he
        cases he
        refine hout.trans ?_
        refine (congrArg some (am_arr_congr (g := fun j => va_rf ((if j < n.toNatClampNeg then some (h.length + 1 + j) else none).map (fun k => H0.size + k))) (fun j hj => ?_))).trans rfl
        show _ = va_rf ((if j < n.toNatClampNeg then some (h.length + 1 + j) else none).map (fun k => H0.size + k))
        rw [if_pos hj]
        show Value.ref (H0.size + h.length + 1 + j) = Value.ref (H0.size + (h.length + 1 + j))
        rw [Nat.add_assoc, Nat.add_assoc, Nat.add_assoc]
      | succ j =>
        rw [List.getElem?_cons_succ, List.getElem?_replicate] at he
        split at he
        · next hj =>
          cases he
          exact hinn j hj
        · cases he
  · exact hT.elim
end
section
variable {lx : am_Lx} {mt : Nat → am_Mt} {own nm : String} {cc : ByteArray} {nL mc ms pc : Nat} {ret : Option FieldType}
theorem am_sd_ldcs1 (hdg : decode cc pc = .ok (.ldc 69, 2)) : am_Sd lx mt "SpeciesRounds$Reader" nm cc nL mc ms ret pc (am_ldcs 1) := sorry
theorem am_sd_ldcs2 (hdg : decode cc pc = .ok (.ldc 81, 2)) : am_Sd lx mt "SpeciesRounds$Reader" nm cc nL mc ms ret pc (am_ldcs 2) := sorry
theorem am_sd_ldcs3 (hdg : decode cc pc = .ok (.ldc 86, 2)) : am_Sd lx mt "SpeciesRounds$Reader" nm cc nL mc ms ret pc (am_ldcs 3) := sorry
theorem am_sd_ixof {index : Nat} (hlk : Cond.methodLink own index ⟨"java/lang/String", "indexOf", "(I)I"⟩ ∈ am_G) (hdg : decode cc pc = .ok (.invokevirtual index, 3)) : am_Sd lx mt own nm cc nL mc ms ret pc am_ixof := sorry
end
