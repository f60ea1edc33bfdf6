theorem am_good {y : am_Mt} (hc : Cond.code y.1 y.2.1 y.2.2.1 y.2.2.2.1 ∈ am_G) : GoodIn am_G (am_ws y) := by
  intro w hw
  have h : w ∈ am_G := by
    rcases List.mem_cons.mp hw with rfl | h
    · exact hc
    · exact h
  exact ⟨h, good_of_word (List.mem_filter.mp h).2⟩
theorem am_blind {lx : am_Lx} {D : va_G} {cA : FieldType → ClassId} {S : Nat → Nat} {H0 : Heap} {As : List Value} {h : am_H} : FrameBlind (am_Pc lx D cA S H0 As h) := fun a U g mk q => ⟨q.1, q.2.1, am_E.same (s := U) (U := U.calling g mk a) rfl q.2.2⟩
theorem am_take_rev {st : List Value} {n : Nat} {v : Value} (h : st[n]? = some v) : (st.take (n + 1)).reverse = v :: (st.take n).reverse := by
  rw [List.take_add_one, h]
  simp
theorem am_stk {st : List Value} {n : Nat} {v : Value} (f : Value → Value) (h : st[n]? = some v) : st.map f = (((st.take n).reverse).map f).reverse ++ f v :: (st.drop (n + 1)).map f := by
  have e : st = st.take n ++ v :: st.drop (n + 1) := by
    obtain ⟨hl, hv⟩ := List.getElem?_eq_some_iff.mp h
    rw [← hv, List.getElem_cons_drop, List.take_append_drop]
  rw [List.map_reverse, List.reverse_reverse, ← List.map_cons, ← List.map_append, ← e]
theorem am_stkS {st : List Value} (n : Nat) (f : Value → Value) : st.map f = (((st.take n).reverse).map f).reverse ++ (st.drop n).map f := by
  rw [List.map_reverse, List.reverse_reverse, ← List.map_append, List.take_append_drop]
theorem am_rest_cv {S : Nat → Nat} {B : Nat} {st : List Value} (h : am_rest st) : ((st.map (am_cv S B)).map fun v => v.category).sum ≤ 8 := by
  unfold am_rest at h
  rw [List.map_map]
  refine Nat.le_trans (Nat.le_of_eq ?_) h
  congr 1
  apply List.map_congr_left
  intro v _
  exact am_cv_cat S B v
section
variable {p : Program} {l : Launch} {e : Env} {R : Room} {s : State} {m : MethodId} {args : Array Value} {below : List Frame} {meth : Method} {c : Code} {H : Heap} {locs : List Loc} {k z : Nat} {Qw : State → Prop}
theorem am_after {lx : am_Lx} {D : va_G} {cA : FieldType → ClassId} {S : Nat → Nat} {H0 : Heap} {Q : am_Q} {pc ymc yms : Nat} {lsA : Array Slot} {st0 rest : List Value} {as : Array Value} (hr : va_Run p l e R s m args below meth c H locs k z ymc yms (F0 m pc lsA st0) rest (am_Qc lx D cA S H0 Q as) (fun q => H0.size ≤ q)) (hS : va_S (fun q => H0.size ≤ q) s.heap H locs)
    (kk : ∀ (v : Option Value) (h' : am_H) (H1 : Heap) (locs1 : List Loc), Q v h' → am_R D am_cl cA S H0 h' H1 → va_S (fun q => H0.size ≤ q) s.heap H1 locs1 → W p l e R s m args below meth c H1 locs1 (k + ymc) (z + yms) Qw (F0 m (pc + 3) lsA ((v.map (am_cv S H0.size)).toList ++ rest))) : W p l e R s m args below meth c H locs k z Qw (F0 m pc lsA st0) := by
  intro T hT X
  obtain ⟨v, st₀, t, T', L, h0, X', hL, e1, e2, ⟨⟨v', h', hv, hq, hR', hE'⟩, hz, hk⟩, st⟩ := hr T hT X
  cases hv
  rw [h0] at hz hk
  obtain ⟨t2, a1, b1⟩ := kk v' h' T'.heap (locs ++ L) hq (by rw [e1]; exact hR') ⟨Nat.le_trans hS.1 (by rw [e1]; exact hz), fun q h1 h2 => by rw [e1, hk q (Nat.lt_of_lt_of_le h1 hS.1) h2]; exact hS.2.1 q h1 h2, fun q hq => by
      rcases List.mem_append.mp hq with h | h
      · exact hS.2.2 q h
      · exact hL q h⟩ T' rfl X'
  exact ⟨t2, st t2 a1, b1⟩
end
/-- a callee in the table: what its row must say -/
def am_Cy (y : am_Mt) (n : Nat) : Prop := Cond.code y.1 y.2.1 y.2.2.1 y.2.2.2.1 ∈ am_G ∧ Cond.initialized y.1.cls ∈ am_G ∧ (y.1.cls ≠ "java/lang/invoke/MethodHandle" ∧ y.1.cls ≠ "java/lang/invoke/VarHandle") ∧ (parseMethodDescriptor y.1.desc).map (fun d => d.parameters.length) = some n
theorem am_Cy.len {y : am_Mt} {n : Nat} (h : am_Cy y n) : ∀ sig, parseMethodDescriptor y.1.desc = some sig → n = sig.parameters.length := fun sig hs => by
  have h2 := h.2.2.2
  rw [hs] at h2
  exact (Option.some.inj h2).symm
section
variable {lx : am_Lx} {mt : Nat → am_Mt} {own nm : String} {cc : ByteArray} {nL mc ms pc : Nat} {ret : Option FieldType}
theorem am_sd_inv {C : String} {T : u_T} {N ci index y n ymc yms : Nat} (hc : am_cl[ci]? = some (C, T, N)) (hy : am_Cy (mt y) n) (hmc : (mt y).2.2.2.2.1 = ymc) (hms : (mt y).2.2.2.2.2 = yms) (hlk : Cond.methodLink own index (mt y).1 ∈ am_G) (hi : Cond.instanceMethod (mt y).1 ∈ am_G) (hse : Cond.selects C (mt y).1 (mt y).1 ∈ am_G) (hdg : decode cc pc = .ok (.invokevirtual index, 3)) : am_Sd lx mt own nm cc nL mc ms ret pc (am_inv y n ci ymc yms mc ms) := by
  intro p l e R s m args below meth c D cA S H0 Qw K Q X Cx Ks Rs hX ls st h k z hT H locs lsA hR hS hl hk hz
  obtain ⟨hx, hb, hml, hown, hG, hE, hnm, hH0, hfr, hlo, hRc, hRs⟩ := Cx
  obtain ⟨hn, hre, h1, h2, hrc, hT⟩ := hT
  subst hmc; subst hms
  obtain ⟨rm, hM, r1, r2, r3, r4⟩ := Ks _ _ _ _ hT
  split at hrc
  · next a hst =>
    split at hrc
    · next d fs heq =>
      subst hrc
      rw [am_stk (am_cv S H0.size) hst]
      rw [am_take_rev hst] at hM
      refine am_after (va_runV (C := C) (As := ((st.take n).reverse).map (am_cv S H0.size)) (rest := (st.drop (n + 1)).map (am_cv S H0.size)) (n := n) (b := H0.size + a) ⟨hx, hb, hml, hown, hG⟩ hM ⟨⟨r1, r2, r3, r4, pay_in hG (am_good hy.1), List.mem_cons_self, hG _ hy.1, hG _ hy.2.1, hy.2.2.1, hy.len, hG _ hlk⟩, hG _ hi, hG _ hse⟩ ⟨am_blind, va_recv hE.1 hR.2.2 hc (am_conc_some heq), fun U hU hW => ⟨rfl, by rw [hU]; exact hR, hE.warm hW⟩⟩ rfl (by simp; omega) hl.1 rfl (lv_room (am_rest_cv hre)) hdg ⟨by rw [hRc]; exact h1, by rw [hRs]; exact h2⟩) hS (fun v h' H1 locs1 hq hR1 hS1 => ?_)
      have g := hX _ _ _ _ _ _ hq H1 locs1 lsA hR1 hS1 hl (by rw [hRc]; exact h1) (by rw [hRs]; exact h2)
      rw [List.map_append] at g
      cases v <;> exact g
    · exact hrc.elim
  · exact hrc.elim
theorem am_sd_inN {C host : String} {T : u_T} {N ci index y n ymc yms : Nat} (hc : am_cl[ci]? = some (C, T, N)) (hy : am_Cy (mt y) n) (hmc : (mt y).2.2.2.2.1 = ymc) (hms : (mt y).2.2.2.2.2 = yms) (hlk : Cond.methodLinkNest own index (mt y).1 host ∈ tables_1) (hi : Cond.instanceMethod (mt y).1 ∈ am_G) (hse : Cond.selects C (mt y).1 (mt y).1 ∈ am_G) (hdg : decode cc pc = .ok (.invokevirtual index, 3)) : am_Sd lx mt own nm cc nL mc ms ret pc (am_inv y n ci ymc yms mc ms) := by
  intro p l e R s m args below meth c D cA S H0 Qw K Q X Cx Ks Rs hX ls st h k z hT H locs lsA hR hS hl hk hz
  obtain ⟨hx, hb, hml, hown, hG, hE, hnm, hH0, hfr, hlo, hRc, hRs⟩ := Cx
  obtain ⟨hn, hre, h1, h2, hrc, hT⟩ := hT
  subst hmc; subst hms
  obtain ⟨rm, hM, r1, r2, r3, r4⟩ := Ks _ _ _ _ hT
  split at hrc
  · next a hst =>
    split at hrc
    · next d fs heq =>
      subst hrc
      rw [am_stk (am_cv S H0.size) hst]
      rw [am_take_rev hst] at hM
      refine am_after (va_runVN (C := C) (As := ((st.take n).reverse).map (am_cv S H0.size)) (rest := (st.drop (n + 1)).map (am_cv S H0.size)) (n := n) (b := H0.size + a) ⟨hx, hb, hml, hown, hG⟩ hM ⟨⟨⟨r1, r2, r3, r4, pay_in hG (am_good hy.1), List.mem_cons_self⟩, hG _ hy.1, hG _ hy.2.1, hy.2.2.1, hy.len, va_Nw.use rfl (hE.2.1 _ hlk rfl)⟩, hG _ hi, hG _ hse⟩ ⟨am_blind, va_recv hE.1 hR.2.2 hc (am_conc_some heq), fun U hU hW => ⟨rfl, by rw [hU]; exact hR, hE.warm hW⟩⟩ rfl (by simp; omega) hl.1 rfl (lv_room (am_rest_cv hre)) hdg ⟨by rw [hRc]; exact h1, by rw [hRs]; exact h2⟩) hS (fun v h' H1 locs1 hq hR1 hS1 => ?_)
      have g := hX _ _ _ _ _ _ hq H1 locs1 lsA hR1 hS1 hl (by rw [hRc]; exact h1) (by rw [hRs]; exact h2)
      rw [List.map_append] at g
      cases v <;> exact g
    · exact hrc.elim
  · exact hrc.elim
theorem am_sd_ini {index y n ymc yms : Nat} (hy : am_Cy (mt y) n) (hret : (mt y).2.2.2.1 = none) (hnm1 : (mt y).1.name = "<init>") (hmc : (mt y).2.2.2.2.1 = ymc) (hms : (mt y).2.2.2.2.2 = yms) (hlk : Cond.methodLink own index (mt y).1 ∈ am_G) (hi : Cond.instanceMethod (mt y).1 ∈ am_G) (hdg : decode cc pc = .ok (.invokespecial index, 3)) : am_Sd lx mt own nm cc nL mc ms ret pc (am_inm y n ymc yms mc ms) := by
  intro p l e R s m args below meth c D cA S H0 Qw K Q X Cx Ks Rs hX ls st h k z hT H locs lsA hR hS hl hk hz
  obtain ⟨hx, hb, hml, hown, hG, hE, hnm, hH0, hfr, hlo, hRc, hRs⟩ := Cx
  obtain ⟨hn, hre, h1, h2, hrc, hT⟩ := hT
  subst hmc; subst hms
  obtain ⟨rm, hM, r1, r2, r3, r4⟩ := Ks _ _ _ _ hT
  split at hrc
  · next a hst =>
    rw [am_stk (am_cv S H0.size) hst]
    rw [am_take_rev hst] at hM
    have hcode := hG _ hy.1
    have hcm : Cond.code (mt y).1 (mt y).2.1 (mt y).2.2.1 (mt y).2.2.2.1 ∈ am_ws (mt y) := List.mem_cons_self
    rw [hret] at hcode hcm
    refine am_after (va_runI (As := ((st.take n).reverse).map (am_cv S H0.size)) (rest := (st.drop (n + 1)).map (am_cv S H0.size)) (n := n) (b := H0.size + a) ⟨hx, hb, hml, hown, hG⟩ hM ⟨⟨r1, r2, r3, r4, pay_in hG (am_good hy.1), hcm, hcode, hG _ hy.2.1, hy.2.2.1, hy.len, hG _ hlk⟩, hnm1, hG _ hi⟩ ⟨am_blind, fun U hU hW => ⟨rfl, by rw [hU]; exact hR, hE.warm hW⟩⟩ rfl (by simp; omega) hl.1 rfl (lv_room (am_rest_cv hre)) hdg ⟨by rw [hRc]; exact h1, by rw [hRs]; exact h2⟩) hS (fun v h' H1 locs1 hq hR1 hS1 => ?_)
    have g := hX _ _ _ _ _ _ hq H1 locs1 lsA hR1 hS1 hl (by rw [hRc]; exact h1) (by rw [hRs]; exact h2)
    rw [List.map_append] at g
    cases v <;> exact g
  · exact hrc.elim
theorem am_sd_inI {host : String} {index y n ymc yms : Nat} (hy : am_Cy (mt y) n) (hret : (mt y).2.2.2.1 = none) (hnm1 : (mt y).1.name = "<init>") (hmc : (mt y).2.2.2.2.1 = ymc) (hms : (mt y).2.2.2.2.2 = yms) (hlk : Cond.methodLinkNest own index (mt y).1 host ∈ tables_1) (hi : Cond.instanceMethod (mt y).1 ∈ am_G) (hdg : decode cc pc = .ok (.invokespecial index, 3)) : am_Sd lx mt own nm cc nL mc ms ret pc (am_inm y n ymc yms mc ms) := by
  intro p l e R s m args below meth c D cA S H0 Qw K Q X Cx Ks Rs hX ls st h k z hT H locs lsA hR hS hl hk hz
  obtain ⟨hx, hb, hml, hown, hG, hE, hnm, hH0, hfr, hlo, hRc, hRs⟩ := Cx
  obtain ⟨hn, hre, h1, h2, hrc, hT⟩ := hT
  subst hmc; subst hms
  obtain ⟨rm, hM, r1, r2, r3, r4⟩ := Ks _ _ _ _ hT
  split at hrc
  · next a hst =>
    rw [am_stk (am_cv S H0.size) hst]
    rw [am_take_rev hst] at hM
    have hcode := hG _ hy.1
    have hcm : Cond.code (mt y).1 (mt y).2.1 (mt y).2.2.1 (mt y).2.2.2.1 ∈ am_ws (mt y) := List.mem_cons_self
    rw [hret] at hcode hcm
    refine am_after (va_runIN (As := ((st.take n).reverse).map (am_cv S H0.size)) (rest := (st.drop (n + 1)).map (am_cv S H0.size)) (n := n) (b := H0.size + a) ⟨hx, hb, hml, hown, hG⟩ hM ⟨⟨⟨r1, r2, r3, r4, pay_in hG (am_good hy.1), hcm⟩, hcode, hG _ hy.2.1, hy.2.2.1, hy.len, va_Nw.use rfl (hE.2.1 _ hlk rfl)⟩, hnm1, hG _ hi⟩ ⟨am_blind, fun U hU hW => ⟨rfl, by rw [hU]; exact hR, hE.warm hW⟩⟩ rfl (by simp; omega) hl.1 rfl (lv_room (am_rest_cv hre)) hdg ⟨by rw [hRc]; exact h1, by rw [hRs]; exact h2⟩) hS (fun v h' H1 locs1 hq hR1 hS1 => ?_)
    have g := hX _ _ _ _ _ _ hq H1 locs1 lsA hR1 hS1 hl (by rw [hRc]; exact h1) (by rw [hRs]; exact h2)
    rw [List.map_append] at g
    cases v <;> exact g
  · exact hrc.elim
theorem am_sd_ins {index y n ymc yms : Nat} (hy : am_Cy (mt y) n) (hmc : (mt y).2.2.2.2.1 = ymc) (hms : (mt y).2.2.2.2.2 = yms) (hlk : Cond.methodLink own index (mt y).1 ∈ am_G) (hi : Cond.static (mt y).1 ∈ am_G) (hdg : decode cc pc = .ok (.invokestatic index, 3)) : am_Sd lx mt own nm cc nL mc ms ret pc (am_ins y n ymc yms mc ms) := by
  intro p l e R s m args below meth c D cA S H0 Qw K Q X Cx Ks Rs hX ls st h k z hT H locs lsA hR hS hl hk hz
  obtain ⟨hx, hb, hml, hown, hG, hE, hnm, hH0, hfr, hlo, hRc, hRs⟩ := Cx
  obtain ⟨hn, hre, h1, h2, hT⟩ := hT
  subst hmc; subst hms
  obtain ⟨rm, hM, r1, r2, r3, r4⟩ := Ks _ _ _ _ hT
  rw [am_stkS n (am_cv S H0.size)]
  refine am_after (va_runS (As := ((st.take n).reverse).map (am_cv S H0.size)) (rest := (st.drop n).map (am_cv S H0.size)) (n := n) ⟨hx, hb, hml, hown, hG⟩ hM ⟨⟨r1, r2, r3, r4, pay_in hG (am_good hy.1), List.mem_cons_self, hG _ hy.1, hG _ hy.2.1, hy.2.2.1, hy.len, hG _ hlk⟩, hG _ hi⟩ ⟨am_blind, fun U hU hW => ⟨rfl, by rw [hU]; exact hR, hE.warm hW⟩⟩ rfl (by simp; omega) hl.1 rfl (lv_room (am_rest_cv hre)) hdg ⟨by rw [hRc]; exact h1, by rw [hRs]; exact h2⟩) hS (fun v h' H1 locs1 hq hR1 hS1 => ?_)
  have g := hX _ _ _ _ _ _ hq H1 locs1 lsA hR1 hS1 hl (by rw [hRc]; exact h1) (by rw [hRs]; exact h2)
  rw [List.map_append] at g
  cases v <;> exact g
theorem am_sd_inS {host : String} {index y n ymc yms : Nat} (hy : am_Cy (mt y) n) (hmc : (mt y).2.2.2.2.1 = ymc) (hms : (mt y).2.2.2.2.2 = yms) (hlk : Cond.methodLinkNest own index (mt y).1 host ∈ tables_1) (hi : Cond.static (mt y).1 ∈ am_G) (hdg : decode cc pc = .ok (.invokestatic index, 3)) : am_Sd lx mt own nm cc nL mc ms ret pc (am_ins y n ymc yms mc ms) := by
  intro p l e R s m args below meth c D cA S H0 Qw K Q X Cx Ks Rs hX ls st h k z hT H locs lsA hR hS hl hk hz
  obtain ⟨hx, hb, hml, hown, hG, hE, hnm, hH0, hfr, hlo, hRc, hRs⟩ := Cx
  obtain ⟨hn, hre, h1, h2, hT⟩ := hT
  subst hmc; subst hms
  obtain ⟨rm, hM, r1, r2, r3, r4⟩ := Ks _ _ _ _ hT
  rw [am_stkS n (am_cv S H0.size)]
  refine am_after (va_runSN (As := ((st.take n).reverse).map (am_cv S H0.size)) (rest := (st.drop n).map (am_cv S H0.size)) (n := n) ⟨hx, hb, hml, hown, hG⟩ hM ⟨⟨⟨r1, r2, r3, r4, pay_in hG (am_good hy.1), List.mem_cons_self⟩, hG _ hy.1, hG _ hy.2.1, hy.2.2.1, hy.len, va_Nw.use rfl (hE.2.1 _ hlk rfl)⟩, hG _ hi, trivial⟩ ⟨am_blind, fun U hU hW => ⟨rfl, by rw [hU]; exact hR, hE.warm hW⟩⟩ rfl (by simp; omega) hl.1 rfl (lv_room (am_rest_cv hre)) hdg ⟨by rw [hRc]; exact h1, by rw [hRs]; exact h2⟩) hS (fun v h' H1 locs1 hq hR1 hS1 => ?_)
  have g := hX _ _ _ _ _ _ hq H1 locs1 lsA hR1 hS1 hl (by rw [hRc]; exact h1) (by rw [hRs]; exact h2)
  rw [List.map_append] at g
  cases v <;> exact g
end
