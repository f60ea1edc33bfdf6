/-- calls by depth: method y of the first M, with its code -/
def am_Call (M : Nat) (mt : Nat → am_Mt) (cd : Nat → Nat → am_T) : Nat → am_K
  | 0 => fun _ _ _ _ => False
  | d + 1 => fun y As h Q => y < M ∧ (am_ent As).length ≤ (mt y).2.2.1 ∧ am_Go (am_Call M mt cd d) (cd y) Q 0 (am_ini (mt y).2.2.1 As) [] h 0 0
theorem am_Call_m {M : Nat} {mt : Nat → am_Mt} {cd : Nat → Nat → am_T} (hM : ∀ y pc, am_TM (cd y pc)) : ∀ d, am_KM (am_Call M mt cd d)
  | 0 => fun _ _ _ _ _ _ q => q.elim
  | d + 1 => fun y As h Q Q' hQ q => ⟨q.1, q.2.1, am_Go_mono (am_Call_m hM d) (hM y) hQ q.2.2⟩
def am_rm (y : am_Mt) (d : Nat) : Room := { frames := d + 5, cells := y.2.2.2.2.1, slots := y.2.2.2.2.2, locals := 60 * (d + 4) }
def am_Ok (lx : am_Lx) (mt : Nat → am_Mt) (cd : Nat → Nat → am_T) (y : Nat) : Prop := plainName (mt y).1.cls = true ∧ (mt y).2.2.1 ≤ 41 ∧ ∀ pc, am_Sd lx mt (mt y).1.cls (mt y).1.name (mt y).2.1 (mt y).2.2.1 (mt y).2.2.2.2.1 (mt y).2.2.2.2.2 (mt y).2.2.2.1 pc (cd y pc)
theorem am_lv_ini (S : Nat → Nat) (B n : Nat) (As : List Value) (h : (am_ent As).length ≤ n) : am_lv S B ((lg_sl (As.map (am_cv S B)) ++ List.replicate (n - (lg_sl (As.map (am_cv S B))).length) Slot.unset).toArray) n (am_ini n As) := by
  have he := am_ent_len S B As
  have hl := lv_entry (As.map (am_cv S B)) (n := n) (by rw [he]; exact h)
  refine ⟨hl.1, ?_, hl.2.1, fun i v hv => ?_⟩
  · unfold am_ini
    rw [List.length_append, List.length_replicate]
    omega
  · refine hl.2.2 (i, am_cv S B v) ?_
    unfold am_ini at hv
    by_cases hi : i < (am_ent As).length
    · rw [List.getElem?_append_left hi] at hv
      have := am_ent_args S B As 0 i v hv
      rwa [Nat.zero_add] at this
    · rw [List.getElem?_append_right (by omega)] at hv
      have := List.eq_of_mem_replicate (List.mem_of_getElem? hv)
      cases this
theorem am_sound {lx : am_Lx} {M : Nat} {mt : Nat → am_Mt} {cd : Nat → Nat → am_T} (hok : ∀ y, y < M → am_Ok lx mt cd y) (l : Launch) (D : va_G) (cA : FieldType → ClassId) (S : Nat → Nat) (H0 : Heap) : ∀ (d y : Nat) (As : List Value) (h : am_H) (Q : am_Q), am_Call M mt cd d y As h Q → Met l (mt y).1 (am_ws (mt y)) (am_rm (mt y) d) (am_Pc lx D cA S H0 As h) (am_Qc lx D cA S H0 Q) (mt y).2.2.2.2.1 (mt y).2.2.2.2.2 (fun q => H0.size ≤ q) := by
  intro d
  induction d with
  | zero => intro y As h Q hc; exact hc.elim
  | succ d ih =>
    intro y As h Q hc
    obtain ⟨hyM, hlen, g⟩ := hc
    obtain ⟨hpl, hL, hsd⟩ := hok y hyM
    refine Met.ofW (cc := (mt y).2.1) (maxL := (mt y).2.2.1) (ret := (mt y).2.2.2.1) hpl rfl ?_
    intro p e s m args below meth c s₁ B hml hv
    obtain ⟨rfl, hR, hE⟩ := hv
    have hx := B.exec
    have hb := B.bytes
    have hr := B.returns
    have hts := atoms_spec (ws := am_ws (mt y)) B.pre
    have hown : s.vm.findClass (mt y).1.cls = some m.cls := findClass_of_methodNamed B.named
    have hlocks := B.notSynchronized
    have hin : meth.name = (mt y).1.name := (name_of_methodNamed B.named B.method).1
    rw [lg_entry_eq]
    have hlv := am_lv_ini S H0.size (mt y).2.2.1 As hlen
    generalize (lg_sl (As.map (am_cv S H0.size)) ++ List.replicate ((mt y).2.2.1 - (lg_sl (As.map (am_cv S H0.size))).length) Slot.unset).toArray = lsA at hlv ⊢
    refine g (am_W p l e (am_rm (mt y) (d + 1)) s m _ below meth c (mt y).2.2.1 D cA S H0 (MQ below (am_Qc lx D cA S H0 Q) _ s (mt y).2.2.2.2.1 (mt y).2.2.2.2.2 (fun q => H0.size ≤ q))) (fun pc ls st h k z hT => ?_) s.heap [] lsA hR va_S.rf hlv (Nat.zero_le _) (Nat.zero_le _)
    refine hsd pc p l e _ s m _ below meth c D cA S H0 _ (am_Call M mt cd d) Q _ ⟨hx, hb, hml, hown, fun w hw => hts w (List.mem_cons_of_mem _ hw), hE, hin, ⟨by rw [hR.1]; exact Nat.le_add_right _ _, hR.2.1⟩, by show 5 ≤ d + 1 + 5; omega, by show 240 ≤ 60 * (d + 1 + 4); omega, rfl, rfl⟩ ?_ ?_ (fun _ _ _ _ _ _ q => q) ls st h k z hT
    · intro y' As' h' Q' hc'
      refine ⟨am_rm (mt y') d, ih y' As' h' Q' hc', rfl, rfl, Nat.le_refl _, ?_⟩
      have hy' : y' < M := by
        cases d with
        | zero => exact hc'.elim
        | succ d => exact hc'.1
      have := (hok y' hy').2.1
      show 8 + ((mt y').2.2.1 + 11) + 60 * (d + 4) ≤ 60 * (d + 1 + 4)
      omega
    · intro pc lsA h H locs k z hR hS hk hz
      refine ⟨fun ty x hret hn hq hdg => W.widen hk hz (W.zret hx hb (hr.trans hret) hn (fun t ht hW => ⟨⟨some (.int x), h, rfl, hq, by rw [ht]; exact hR, hE.warm hW⟩, hS.F ht⟩) hS.2.2 hdg hlocks), fun x hret hq hdg => W.widen hk hz (W.lret hx hb (hr.trans hret) (fun t ht hW => ⟨⟨some (.long x), h, rfl, hq, by rw [ht]; exact hR, hE.warm hW⟩, hS.F ht⟩) hS.2.2 hdg hlocks), fun hret hq hdg => W.widen hk hz (W.vret hx hb (hr.trans hret) (fun t ht hW => ⟨⟨none, h, rfl, hq, by rw [ht]; exact hR, hE.warm hW⟩, hS.F ht⟩) hS.2.2 hdg hlocks)⟩
